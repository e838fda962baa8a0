section
-- ===== PART A: goes FIRST, ahead of the names: the tables' words, and 'selects' of the private methods out of them =====
/-- a private method of a class that the tables say can be made, by its rows of tables_1 -/
def lw_okq (q : MethodName × Nat) : Prop := (q.1.cls ≠ "java/lang/invoke/MethodHandle" ∧ q.1.cls ≠ "java/lang/invoke/VarHandle") ∧ Cond.instantiable q.1.cls q.2 ∈ tables_1 ∧ Cond.privateMethod q.1 ∈ tables_1 ∧ Cond.instanceMethod q.1 ∈ tables_1
theorem lw_p0 : lw_okq (⟨"TorusGates", "makeKey", "(I)V"⟩, 12) := ⟨⟨by decide +kernel, by decide +kernel⟩, List.mem_of_getElem? (i := 20) (by decide +kernel), List.mem_of_getElem? (i := 152) (by decide +kernel), List.mem_of_getElem? (i := 153) (by decide +kernel)⟩
theorem lw_p1 : lw_okq (⟨"TorusGates$Refresher", "renewStep", "(ILTorusGates$Secret;LTorusGates$Source;)V"⟩, 4) := ⟨⟨by decide +kernel, by decide +kernel⟩, List.mem_of_getElem? (i := 54) (by decide +kernel), List.mem_of_getElem? (i := 178) (by decide +kernel), List.mem_of_getElem? (i := 179) (by decide +kernel)⟩
theorem lw_p2 : lw_okq (⟨"TorusGates", "freeNumber", "()I"⟩, 12) := ⟨⟨by decide +kernel, by decide +kernel⟩, List.mem_of_getElem? (i := 20) (by decide +kernel), List.mem_of_getElem? (i := 262) (by decide +kernel), List.mem_of_getElem? (i := 263) (by decide +kernel)⟩
theorem lw_p3 : lw_okq (⟨"java/lang/Throwable", "fillInStackTrace", "(I)Ljava/lang/Throwable;"⟩, 6) := ⟨⟨by decide +kernel, by decide +kernel⟩, List.mem_of_getElem? (i := 308) (by decide +kernel), List.mem_of_getElem? (i := 306) (by decide +kernel), List.mem_of_getElem? (i := 307) (by decide +kernel)⟩
theorem lw_p4 : lw_okq (⟨"TorusGates", "fillNew", "(LTorusGates$Cell;Z)V"⟩, 12) := ⟨⟨by decide +kernel, by decide +kernel⟩, List.mem_of_getElem? (i := 20) (by decide +kernel), List.mem_of_getElem? (i := 342) (by decide +kernel), List.mem_of_getElem? (i := 343) (by decide +kernel)⟩
theorem lw_p5 : lw_okq (⟨"TorusGates", "cellOf", "(I)LTorusGates$Cell;"⟩, 12) := ⟨⟨by decide +kernel, by decide +kernel⟩, List.mem_of_getElem? (i := 20) (by decide +kernel), List.mem_of_getElem? (i := 360) (by decide +kernel), List.mem_of_getElem? (i := 361) (by decide +kernel)⟩
theorem lw_p6 : lw_okq (⟨"TorusGates", "checkRange", "(II)V"⟩, 12) := ⟨⟨by decide +kernel, by decide +kernel⟩, List.mem_of_getElem? (i := 20) (by decide +kernel), List.mem_of_getElem? (i := 418) (by decide +kernel), List.mem_of_getElem? (i := 419) (by decide +kernel)⟩
theorem lw_p7 : lw_okq (⟨"TorusGates", "checkedBound", "(J)I"⟩, 12) := ⟨⟨by decide +kernel, by decide +kernel⟩, List.mem_of_getElem? (i := 20) (by decide +kernel), List.mem_of_getElem? (i := 439) (by decide +kernel), List.mem_of_getElem? (i := 440) (by decide +kernel)⟩
theorem lw_p8 : lw_okq (⟨"TorusGates", "checkKind", "(I)V"⟩, 12) := ⟨⟨by decide +kernel, by decide +kernel⟩, List.mem_of_getElem? (i := 20) (by decide +kernel), List.mem_of_getElem? (i := 464) (by decide +kernel), List.mem_of_getElem? (i := 465) (by decide +kernel)⟩
theorem lw_p9 : lw_okq (⟨"TorusGates", "refuseIf", "(Z)V"⟩, 12) := ⟨⟨by decide +kernel, by decide +kernel⟩, List.mem_of_getElem? (i := 20) (by decide +kernel), List.mem_of_getElem? (i := 475) (by decide +kernel), List.mem_of_getElem? (i := 476) (by decide +kernel)⟩
theorem lw_p10 : lw_okq (⟨"TorusGates", "runGate", "(ILTorusGates$Cell;LTorusGates$Cell;LTorusGates$Cell;)V"⟩, 12) := ⟨⟨by decide +kernel, by decide +kernel⟩, List.mem_of_getElem? (i := 20) (by decide +kernel), List.mem_of_getElem? (i := 480) (by decide +kernel), List.mem_of_getElem? (i := 481) (by decide +kernel)⟩
theorem lw_p11 : lw_okq (⟨"TorusGates$Refresher", "startWheel", "(I)V"⟩, 4) := ⟨⟨by decide +kernel, by decide +kernel⟩, List.mem_of_getElem? (i := 54) (by decide +kernel), List.mem_of_getElem? (i := 503) (by decide +kernel), List.mem_of_getElem? (i := 504) (by decide +kernel)⟩
theorem lw_p12 : lw_okq (⟨"TorusGates$Refresher", "turnIfKeyBit", "(II)V"⟩, 4) := ⟨⟨by decide +kernel, by decide +kernel⟩, List.mem_of_getElem? (i := 54) (by decide +kernel), List.mem_of_getElem? (i := 509) (by decide +kernel), List.mem_of_getElem? (i := 510) (by decide +kernel)⟩
theorem lw_p13 : lw_okq (⟨"TorusGates$Refresher", "addChange", "(II[I)V"⟩, 4) := ⟨⟨by decide +kernel, by decide +kernel⟩, List.mem_of_getElem? (i := 54) (by decide +kernel), List.mem_of_getElem? (i := 516) (by decide +kernel), List.mem_of_getElem? (i := 517) (by decide +kernel)⟩
theorem lw_p14 : lw_okq (⟨"TorusGates$Refresher", "comeBack", "([I)V"⟩, 4) := ⟨⟨by decide +kernel, by decide +kernel⟩, List.mem_of_getElem? (i := 54) (by decide +kernel), List.mem_of_getElem? (i := 525) (by decide +kernel), List.mem_of_getElem? (i := 526) (by decide +kernel)⟩
theorem lw_p15 : lw_okq (⟨"TorusGatesModel", "many", "()I"⟩, 11) := ⟨⟨by decide +kernel, by decide +kernel⟩, List.mem_of_getElem? (i := 613) (by decide +kernel), List.mem_of_getElem? (i := 662) (by decide +kernel), List.mem_of_getElem? (i := 663) (by decide +kernel)⟩
def lw_privs_1 : List (MethodName × Nat) := [(⟨"TorusGates", "makeKey", "(I)V"⟩, 12), (⟨"TorusGates$Refresher", "renewStep", "(ILTorusGates$Secret;LTorusGates$Source;)V"⟩, 4), (⟨"TorusGates", "freeNumber", "()I"⟩, 12), (⟨"java/lang/Throwable", "fillInStackTrace", "(I)Ljava/lang/Throwable;"⟩, 6), (⟨"TorusGates", "fillNew", "(LTorusGates$Cell;Z)V"⟩, 12), (⟨"TorusGates", "cellOf", "(I)LTorusGates$Cell;"⟩, 12), (⟨"TorusGates", "checkRange", "(II)V"⟩, 12), (⟨"TorusGates", "checkedBound", "(J)I"⟩, 12), (⟨"TorusGates", "checkKind", "(I)V"⟩, 12), (⟨"TorusGates", "refuseIf", "(Z)V"⟩, 12), (⟨"TorusGates", "runGate", "(ILTorusGates$Cell;LTorusGates$Cell;LTorusGates$Cell;)V"⟩, 12), (⟨"TorusGates$Refresher", "startWheel", "(I)V"⟩, 4), (⟨"TorusGates$Refresher", "turnIfKeyBit", "(II)V"⟩, 4), (⟨"TorusGates$Refresher", "addChange", "(II[I)V"⟩, 4), (⟨"TorusGates$Refresher", "comeBack", "([I)V"⟩, 4), (⟨"TorusGatesModel", "many", "()I"⟩, 11)]
theorem lw_r1 : ∀ q ∈ lw_privs_1, lw_okq q := List.forall_mem_cons.mpr ⟨lw_p0, List.forall_mem_cons.mpr ⟨lw_p1, List.forall_mem_cons.mpr ⟨lw_p2, List.forall_mem_cons.mpr ⟨lw_p3, List.forall_mem_cons.mpr ⟨lw_p4, List.forall_mem_cons.mpr ⟨lw_p5, List.forall_mem_cons.mpr ⟨lw_p6, List.forall_mem_cons.mpr ⟨lw_p7, List.forall_mem_cons.mpr ⟨lw_p8, List.forall_mem_cons.mpr ⟨lw_p9, List.forall_mem_cons.mpr ⟨lw_p10, List.forall_mem_cons.mpr ⟨lw_p11, List.forall_mem_cons.mpr ⟨lw_p12, List.forall_mem_cons.mpr ⟨lw_p13, List.forall_mem_cons.mpr ⟨lw_p14, List.forall_mem_cons.mpr ⟨lw_p15, fun _ h => absurd h List.not_mem_nil⟩⟩⟩⟩⟩⟩⟩⟩⟩⟩⟩⟩⟩⟩⟩⟩
theorem lw_p16 : lw_okq (⟨"TorusGatesModel", "goes", "(ZZZ)Z"⟩, 11) := ⟨⟨by decide +kernel, by decide +kernel⟩, List.mem_of_getElem? (i := 613) (by decide +kernel), List.mem_of_getElem? (i := 670) (by decide +kernel), List.mem_of_getElem? (i := 671) (by decide +kernel)⟩
theorem lw_p17 : lw_okq (⟨"TorusGatesModel", "made", "(ZI)I"⟩, 11) := ⟨⟨by decide +kernel, by decide +kernel⟩, List.mem_of_getElem? (i := 613) (by decide +kernel), List.mem_of_getElem? (i := 674) (by decide +kernel), List.mem_of_getElem? (i := 675) (by decide +kernel)⟩
theorem lw_p18 : lw_okq (⟨"TorusGatesModel", "isBit", "(I)Z"⟩, 11) := ⟨⟨by decide +kernel, by decide +kernel⟩, List.mem_of_getElem? (i := 613) (by decide +kernel), List.mem_of_getElem? (i := 682) (by decide +kernel), List.mem_of_getElem? (i := 683) (by decide +kernel)⟩
theorem lw_p19 : lw_okq (⟨"TorusGatesModel", "bounded", "(IJ)I"⟩, 11) := ⟨⟨by decide +kernel, by decide +kernel⟩, List.mem_of_getElem? (i := 613) (by decide +kernel), List.mem_of_getElem? (i := 696) (by decide +kernel), List.mem_of_getElem? (i := 697) (by decide +kernel)⟩
theorem lw_p20 : lw_okq (⟨"TorusGatesModel", "great", "(III)Z"⟩, 11) := ⟨⟨by decide +kernel, by decide +kernel⟩, List.mem_of_getElem? (i := 613) (by decide +kernel), List.mem_of_getElem? (i := 712) (by decide +kernel), List.mem_of_getElem? (i := 713) (by decide +kernel)⟩
theorem lw_p21 : lw_okq (⟨"TorusGatesModel", "isAhead", "(I)Z"⟩, 11) := ⟨⟨by decide +kernel, by decide +kernel⟩, List.mem_of_getElem? (i := 613) (by decide +kernel), List.mem_of_getElem? (i := 744) (by decide +kernel), List.mem_of_getElem? (i := 745) (by decide +kernel)⟩
def lw_privs_2 : List (MethodName × Nat) := [(⟨"TorusGatesModel", "goes", "(ZZZ)Z"⟩, 11), (⟨"TorusGatesModel", "made", "(ZI)I"⟩, 11), (⟨"TorusGatesModel", "isBit", "(I)Z"⟩, 11), (⟨"TorusGatesModel", "bounded", "(IJ)I"⟩, 11), (⟨"TorusGatesModel", "great", "(III)Z"⟩, 11), (⟨"TorusGatesModel", "isAhead", "(I)Z"⟩, 11)]
theorem lw_r2 : ∀ q ∈ lw_privs_2, lw_okq q := List.forall_mem_cons.mpr ⟨lw_p16, List.forall_mem_cons.mpr ⟨lw_p17, List.forall_mem_cons.mpr ⟨lw_p18, List.forall_mem_cons.mpr ⟨lw_p19, List.forall_mem_cons.mpr ⟨lw_p20, List.forall_mem_cons.mpr ⟨lw_p21, fun _ h => absurd h List.not_mem_nil⟩⟩⟩⟩⟩⟩
def lw_privs : List (MethodName × Nat) := lw_privs_1 ++ (lw_privs_2)
def lw_tbl : List Cond := k2_sels lw_privs ++ tables_1
theorem lw_privs_ok : ∀ q ∈ lw_privs, lw_okq q := by
  show ∀ q ∈ lw_privs_1 ++ (lw_privs_2), lw_okq q
  exact List.forall_mem_append.mpr ⟨lw_r1, lw_r2⟩
end
section
/-! names of classes, fields, methods: printed by my program wip/whole/gen_names.py -/
abbrev cN_Ce : String := "TorusGates$Cell"
def cF_Ce : u_T := fun k => match k with
  | 0 => ("TorusGates$Cell", "row", "[I", true)
  | 1 => ("TorusGates$Cell", "bound", "I", false)
  | 2 => ("TorusGates$Cell", "due", "Z", false)
  | _ => ("TorusGates$Cell", "there", "Z", false)
def cT_Ce : Nat → FieldType := fun k => match k with
  | 0 => .array (.int)
  | 1 => .int
  | 2 => .boolean
  | _ => .boolean
theorem cM_Ce : ∀ a, a < 4 → ∀ b, b < 4 → a ≠ b → (cF_Ce a).2.1 ≠ (cF_Ce b).2.1 := by decide +kernel
theorem cO_Ce : ∀ k, k < 4 → parseFieldDescriptor (cF_Ce k).2.2.1 = some (cT_Ce k) := by decide +kernel
abbrev cN_Ci : String := "TorusGates$Circuit"
def cF_Ci : u_T := fun k => match k with
  | 0 => ("TorusGates$Circuit", "kinds", "[I", true)
  | 1 => ("TorusGates$Circuit", "firsts", "[I", true)
  | 2 => ("TorusGates$Circuit", "seconds", "[I", true)
  | _ => ("TorusGates$Circuit", "size", "I", false)
def cT_Ci : Nat → FieldType := fun k => match k with
  | 0 => .array (.int)
  | 1 => .array (.int)
  | 2 => .array (.int)
  | _ => .int
theorem cM_Ci : ∀ a, a < 4 → ∀ b, b < 4 → a ≠ b → (cF_Ci a).2.1 ≠ (cF_Ci b).2.1 := by decide +kernel
theorem cO_Ci : ∀ k, k < 4 → parseFieldDescriptor (cF_Ci k).2.2.1 = some (cT_Ci k) := by decide +kernel
abbrev cN_Di : String := "TorusGates$Digits"
abbrev cN_Le : String := "TorusGates$Ledger"
def cF_Le : u_T := fun k => match k with
  | 0 => ("TorusGates$Ledger", "cells", "[LTorusGates$Cell;", true)
  | _ => ("TorusGates$Ledger", "size", "I", false)
def cT_Le : Nat → FieldType := fun k => match k with
  | 0 => .array (.object "TorusGates$Cell")
  | _ => .int
theorem cM_Le : ∀ a, a < 2 → ∀ b, b < 2 → a ≠ b → (cF_Le a).2.1 ≠ (cF_Le b).2.1 := by decide +kernel
theorem cO_Le : ∀ k, k < 2 → parseFieldDescriptor (cF_Le k).2.2.1 = some (cT_Le k) := by decide +kernel
abbrev cN_Re : String := "TorusGates$Refresher"
def cF_Re : u_T := fun k => match k with
  | 0 => ("TorusGates$Refresher", "steps", "[[I", true)
  | 1 => ("TorusGates$Refresher", "wayBack", "[[I", true)
  | 2 => ("TorusGates$Refresher", "wheel", "[I", true)
  | _ => ("TorusGates$Refresher", "change", "[I", true)
def cT_Re : Nat → FieldType := fun k => match k with
  | 0 => .array (.array (.int))
  | 1 => .array (.array (.int))
  | 2 => .array (.int)
  | _ => .array (.int)
theorem cM_Re : ∀ a, a < 4 → ∀ b, b < 4 → a ≠ b → (cF_Re a).2.1 ≠ (cF_Re b).2.1 := by decide +kernel
theorem cO_Re : ∀ k, k < 4 → parseFieldDescriptor (cF_Re k).2.2.1 = some (cT_Re k) := by decide +kernel
abbrev cN_Ri : String := "TorusGates$Ring"
abbrev cN_Se : String := "TorusGates$Secret"
def cF_Se : u_T := fun k => match k with
  | 0 => ("TorusGates$Secret", "forRows", "[I", true)
  | _ => ("TorusGates$Secret", "forRing", "[I", true)
def cT_Se : Nat → FieldType := fun k => match k with
  | 0 => .array (.int)
  | _ => .array (.int)
theorem cM_Se : ∀ a, a < 2 → ∀ b, b < 2 → a ≠ b → (cF_Se a).2.1 ≠ (cF_Se b).2.1 := by decide +kernel
theorem cO_Se : ∀ k, k < 2 → parseFieldDescriptor (cF_Se k).2.2.1 = some (cT_Se k) := by decide +kernel
abbrev cN_So : String := "TorusGates$Source"
def cF_So : u_T := fun k => match k with
  | _ => ("TorusGates$Source", "state", "J", false)
def cT_So : Nat → FieldType := fun k => match k with
  | _ => .long
theorem cM_So : ∀ a, a < 1 → ∀ b, b < 1 → a ≠ b → (cF_So a).2.1 ≠ (cF_So b).2.1 := by decide +kernel
theorem cO_So : ∀ k, k < 1 → parseFieldDescriptor (cF_So k).2.2.1 = some (cT_So k) := by decide +kernel
abbrev cN_Wo : String := "TorusGates$Works"
def cF_Wo : u_T := fun k => match k with
  | 0 => ("TorusGates$Works", "refresher", "LTorusGates$Refresher;", true)
  | _ => ("TorusGates$Works", "sum", "[I", true)
def cT_Wo : Nat → FieldType := fun k => match k with
  | 0 => .object "TorusGates$Refresher"
  | _ => .array (.int)
theorem cM_Wo : ∀ a, a < 2 → ∀ b, b < 2 → a ≠ b → (cF_Wo a).2.1 ≠ (cF_Wo b).2.1 := by decide +kernel
theorem cO_Wo : ∀ k, k < 2 → parseFieldDescriptor (cF_Wo k).2.2.1 = some (cT_Wo k) := by decide +kernel
abbrev cN_TG : String := "TorusGates"
def cF_TG : u_T := fun k => match k with
  | 0 => ("TorusGates", "source", "LTorusGates$Source;", true)
  | 1 => ("TorusGates", "secret", "LTorusGates$Secret;", true)
  | 2 => ("TorusGates", "refresher", "LTorusGates$Refresher;", true)
  | 3 => ("TorusGates", "works", "LTorusGates$Works;", true)
  | 4 => ("TorusGates", "ledger", "LTorusGates$Ledger;", true)
  | 5 => ("TorusGates", "circuit", "LTorusGates$Circuit;", true)
  | 6 => ("TorusGates", "played", "[LTorusGates$Cell;", true)
  | 7 => ("TorusGates", "chosenB", "LTorusGates$Cell;", true)
  | 8 => ("TorusGates", "chosenA", "LTorusGates$Cell;", true)
  | 9 => ("TorusGates", "zeroRow", "[I", true)
  | 10 => ("TorusGates", "gatesDone", "I", false)
  | _ => ("TorusGates", "refusals", "I", false)
def cT_TG : Nat → FieldType := fun k => match k with
  | 0 => .object "TorusGates$Source"
  | 1 => .object "TorusGates$Secret"
  | 2 => .object "TorusGates$Refresher"
  | 3 => .object "TorusGates$Works"
  | 4 => .object "TorusGates$Ledger"
  | 5 => .object "TorusGates$Circuit"
  | 6 => .array (.object "TorusGates$Cell")
  | 7 => .object "TorusGates$Cell"
  | 8 => .object "TorusGates$Cell"
  | 9 => .array (.int)
  | 10 => .int
  | _ => .int
theorem cM_TG : ∀ a, a < 12 → ∀ b, b < 12 → a ≠ b → (cF_TG a).2.1 ≠ (cF_TG b).2.1 := by decide +kernel
theorem cO_TG : ∀ k, k < 12 → parseFieldDescriptor (cF_TG k).2.2.1 = some (cT_TG k) := by decide +kernel
abbrev cN_Mo : String := "TorusGatesModel"
def cF_Mo : u_T := fun k => match k with
  | 0 => ("TorusGatesModel", "thrown", "I", false)
  | 1 => ("TorusGatesModel", "there", "[Z", true)
  | 2 => ("TorusGatesModel", "bits", "[Z", true)
  | 3 => ("TorusGatesModel", "bounds", "[I", true)
  | 4 => ("TorusGatesModel", "gates", "I", false)
  | 5 => ("TorusGatesModel", "refused", "I", false)
  | 6 => ("TorusGatesModel", "lines", "I", false)
  | 7 => ("TorusGatesModel", "kinds", "[I", true)
  | 8 => ("TorusGatesModel", "firsts", "[I", true)
  | 9 => ("TorusGatesModel", "seconds", "[I", true)
  | _ => ("TorusGatesModel", "played", "[Z", true)
def cT_Mo : Nat → FieldType := fun k => match k with
  | 0 => .int
  | 1 => .array (.boolean)
  | 2 => .array (.boolean)
  | 3 => .array (.int)
  | 4 => .int
  | 5 => .int
  | 6 => .int
  | 7 => .array (.int)
  | 8 => .array (.int)
  | 9 => .array (.int)
  | _ => .array (.boolean)
theorem cM_Mo : ∀ a, a < 11 → ∀ b, b < 11 → a ≠ b → (cF_Mo a).2.1 ≠ (cF_Mo b).2.1 := by decide +kernel
theorem cO_Mo : ∀ k, k < 11 → parseFieldDescriptor (cF_Mo k).2.2.1 = some (cT_Mo k) := by decide +kernel
abbrev cN_La : String := "TorusGatesLaw"
/-- the classes whose objects worlds hold: an object names its class by its place here -/
abbrev cL : List vw_C := [(cN_Ce, cF_Ce, 4), (cN_Ci, cF_Ci, 4), (cN_Le, cF_Le, 2), (cN_Re, cF_Re, 4), (cN_Se, cF_Se, 2), (cN_So, cF_So, 1), (cN_Wo, cF_Wo, 2), (cN_TG, cF_TG, 12), (cN_Mo, cF_Mo, 11)]
abbrev mB_TG_init : ByteArray := prog_1_method_1_code
abbrev mY_TG_init : MethodName := ⟨cN_TG, "<init>", "()V"⟩
abbrev mB_TG_key : ByteArray := prog_1_method_2_code
abbrev mY_TG_key : MethodName := ⟨cN_TG, "key", "(I)I"⟩
abbrev mB_TG_bit : ByteArray := prog_1_method_3_code
abbrev mY_TG_bit : MethodName := ⟨cN_TG, "bit", "(Z)I"⟩
abbrev mB_TG_drop : ByteArray := prog_1_method_4_code
abbrev mY_TG_drop : MethodName := ⟨cN_TG, "drop", "(I)I"⟩
abbrev mB_TG_not : ByteArray := prog_1_method_5_code
abbrev mY_TG_not : MethodName := ⟨cN_TG, "not", "(I)I"⟩
abbrev mB_TG_blur : ByteArray := prog_1_method_6_code
abbrev mY_TG_blur : MethodName := ⟨cN_TG, "blur", "(II)I"⟩
abbrev mB_TG_pile : ByteArray := prog_1_method_7_code
abbrev mY_TG_pile : MethodName := ⟨cN_TG, "pile", "(II)I"⟩
abbrev mB_TG_gate : ByteArray := prog_1_method_8_code
abbrev mY_TG_gate : MethodName := ⟨cN_TG, "gate", "(III)I"⟩
abbrev mB_TG_choose : ByteArray := prog_1_method_9_code
abbrev mY_TG_choose : MethodName := ⟨cN_TG, "choose", "(III)I"⟩
abbrev mB_TG_open : ByteArray := prog_1_method_10_code
abbrev mY_TG_open : MethodName := ⟨cN_TG, "open", "(I)I"⟩
abbrev mB_TG_bound : ByteArray := prog_1_method_11_code
abbrev mY_TG_bound : MethodName := ⟨cN_TG, "bound", "(I)I"⟩
abbrev mB_TG_within : ByteArray := prog_1_method_12_code
abbrev mY_TG_within : MethodName := ⟨cN_TG, "within", "(I)Z"⟩
abbrev mB_TG_line : ByteArray := prog_1_method_13_code
abbrev mY_TG_line : MethodName := ⟨cN_TG, "line", "(III)I"⟩
abbrev mB_TG_play : ByteArray := prog_1_method_14_code
abbrev mY_TG_play : MethodName := ⟨cN_TG, "play", "(II)I"⟩
abbrev mB_TG_clear : ByteArray := prog_1_method_15_code
abbrev mY_TG_clear : MethodName := ⟨cN_TG, "clear", "()I"⟩
abbrev mB_TG_count : ByteArray := prog_1_method_16_code
abbrev mY_TG_count : MethodName := ⟨cN_TG, "count", "(I)I"⟩
abbrev mB_TG_makeKey : ByteArray := prog_1_method_17_code
abbrev mY_TG_makeKey : MethodName := ⟨cN_TG, "makeKey", "(I)V"⟩
abbrev mB_TG_cellOf : ByteArray := prog_1_method_18_code
abbrev mY_TG_cellOf : MethodName := ⟨cN_TG, "cellOf", "(I)LTorusGates$Cell;"⟩
abbrev mB_TG_freeNumber : ByteArray := prog_1_method_19_code
abbrev mY_TG_freeNumber : MethodName := ⟨cN_TG, "freeNumber", "()I"⟩
abbrev mB_TG_checkKind : ByteArray := prog_1_method_20_code
abbrev mY_TG_checkKind : MethodName := ⟨cN_TG, "checkKind", "(I)V"⟩
abbrev mB_TG_checkRange : ByteArray := prog_1_method_21_code
abbrev mY_TG_checkRange : MethodName := ⟨cN_TG, "checkRange", "(II)V"⟩
abbrev mB_TG_checkedBound : ByteArray := prog_1_method_22_code
abbrev mY_TG_checkedBound : MethodName := ⟨cN_TG, "checkedBound", "(J)I"⟩
abbrev mB_TG_refuseIf : ByteArray := prog_1_method_23_code
abbrev mY_TG_refuseIf : MethodName := ⟨cN_TG, "refuseIf", "(Z)V"⟩
abbrev mB_TG_fillNew : ByteArray := prog_1_method_24_code
abbrev mY_TG_fillNew : MethodName := ⟨cN_TG, "fillNew", "(LTorusGates$Cell;Z)V"⟩
abbrev mB_TG_runGate : ByteArray := prog_1_method_25_code
abbrev mY_TG_runGate : MethodName := ⟨cN_TG, "runGate", "(ILTorusGates$Cell;LTorusGates$Cell;LTorusGates$Cell;)V"⟩
abbrev mB_TG_isTooFar : ByteArray := prog_1_method_26_code
abbrev mY_TG_isTooFar : MethodName := ⟨cN_TG, "isTooFar", "(ILTorusGates$Cell;LTorusGates$Cell;)Z"⟩
abbrev mB_TG_placeFor : ByteArray := prog_1_method_27_code
abbrev mY_TG_placeFor : MethodName := ⟨cN_TG, "placeFor", "(Z)I"⟩
abbrev mB_TG_truth : ByteArray := prog_1_method_28_code
abbrev mY_TG_truth : MethodName := ⟨cN_TG, "truth", "(IZZ)Z"⟩
abbrev mB_Mo_init : ByteArray := prog_12_method_1_code
abbrev mY_Mo_init : MethodName := ⟨cN_Mo, "<init>", "()V"⟩
abbrev mB_Mo_thrown : ByteArray := prog_12_method_2_code
abbrev mY_Mo_thrown : MethodName := ⟨cN_Mo, "thrown", "()I"⟩
abbrev mB_Mo_goes : ByteArray := prog_12_method_3_code
abbrev mY_Mo_goes : MethodName := ⟨cN_Mo, "goes", "(ZZZ)Z"⟩
abbrev mB_Mo_isBit : ByteArray := prog_12_method_4_code
abbrev mY_Mo_isBit : MethodName := ⟨cN_Mo, "isBit", "(I)Z"⟩
abbrev mB_Mo_many : ByteArray := prog_12_method_5_code
abbrev mY_Mo_many : MethodName := ⟨cN_Mo, "many", "()I"⟩
abbrev mB_Mo_made : ByteArray := prog_12_method_6_code
abbrev mY_Mo_made : MethodName := ⟨cN_Mo, "made", "(ZI)I"⟩
abbrev mB_Mo_key : ByteArray := prog_12_method_7_code
abbrev mY_Mo_key : MethodName := ⟨cN_Mo, "key", "(I)I"⟩
abbrev mB_Mo_bit : ByteArray := prog_12_method_8_code
abbrev mY_Mo_bit : MethodName := ⟨cN_Mo, "bit", "(Z)I"⟩
abbrev mB_Mo_drop : ByteArray := prog_12_method_9_code
abbrev mY_Mo_drop : MethodName := ⟨cN_Mo, "drop", "(I)I"⟩
abbrev mB_Mo_not : ByteArray := prog_12_method_10_code
abbrev mY_Mo_not : MethodName := ⟨cN_Mo, "not", "(I)I"⟩
abbrev mB_Mo_bounded : ByteArray := prog_12_method_11_code
abbrev mY_Mo_bounded : MethodName := ⟨cN_Mo, "bounded", "(IJ)I"⟩
abbrev mB_Mo_blur : ByteArray := prog_12_method_12_code
abbrev mY_Mo_blur : MethodName := ⟨cN_Mo, "blur", "(II)I"⟩
abbrev mB_Mo_pile : ByteArray := prog_12_method_13_code
abbrev mY_Mo_pile : MethodName := ⟨cN_Mo, "pile", "(II)I"⟩
abbrev mB_Mo_value : ByteArray := prog_12_method_14_code
abbrev mY_Mo_value : MethodName := ⟨cN_Mo, "value", "(IZZ)Z"⟩
abbrev mB_Mo_great : ByteArray := prog_12_method_15_code
abbrev mY_Mo_great : MethodName := ⟨cN_Mo, "great", "(III)Z"⟩
abbrev mB_Mo_isGate : ByteArray := prog_12_method_16_code
abbrev mY_Mo_isGate : MethodName := ⟨cN_Mo, "isGate", "(I)Z"⟩
abbrev mB_Mo_gate : ByteArray := prog_12_method_17_code
abbrev mY_Mo_gate : MethodName := ⟨cN_Mo, "gate", "(III)I"⟩
abbrev mB_Mo_choose : ByteArray := prog_12_method_18_code
abbrev mY_Mo_choose : MethodName := ⟨cN_Mo, "choose", "(III)I"⟩
abbrev mB_Mo_open : ByteArray := prog_12_method_19_code
abbrev mY_Mo_open : MethodName := ⟨cN_Mo, "open", "(I)I"⟩
abbrev mB_Mo_bound : ByteArray := prog_12_method_20_code
abbrev mY_Mo_bound : MethodName := ⟨cN_Mo, "bound", "(I)I"⟩
abbrev mB_Mo_within : ByteArray := prog_12_method_21_code
abbrev mY_Mo_within : MethodName := ⟨cN_Mo, "within", "(I)Z"⟩
abbrev mB_Mo_isAhead : ByteArray := prog_12_method_22_code
abbrev mY_Mo_isAhead : MethodName := ⟨cN_Mo, "isAhead", "(I)Z"⟩
abbrev mB_Mo_line : ByteArray := prog_12_method_23_code
abbrev mY_Mo_line : MethodName := ⟨cN_Mo, "line", "(III)I"⟩
abbrev mB_Mo_play : ByteArray := prog_12_method_24_code
abbrev mY_Mo_play : MethodName := ⟨cN_Mo, "play", "(II)I"⟩
abbrev mB_Mo_clear : ByteArray := prog_12_method_25_code
abbrev mY_Mo_clear : MethodName := ⟨cN_Mo, "clear", "()I"⟩
abbrev mB_Mo_count : ByteArray := prog_12_method_26_code
abbrev mY_Mo_count : MethodName := ⟨cN_Mo, "count", "(I)I"⟩
abbrev mB_Ce_init : ByteArray := prog_2_method_1_code
abbrev mY_Ce_init : MethodName := ⟨cN_Ce, "<init>", "()V"⟩
abbrev mB_Ce_becomeLike : ByteArray := prog_2_method_2_code
abbrev mY_Ce_becomeLike : MethodName := ⟨cN_Ce, "becomeLike", "(LTorusGates$Cell;)V"⟩
abbrev mB_Ce_becomeOpposite : ByteArray := prog_2_method_3_code
abbrev mY_Ce_becomeOpposite : MethodName := ⟨cN_Ce, "becomeOpposite", "(LTorusGates$Cell;)V"⟩
abbrev mB_Ce_addRow : ByteArray := prog_2_method_4_code
abbrev mY_Ce_addRow : MethodName := ⟨cN_Ce, "addRow", "([I)V"⟩
abbrev mB_Ce_multiply : ByteArray := prog_2_method_5_code
abbrev mY_Ce_multiply : MethodName := ⟨cN_Ce, "multiply", "(I)V"⟩
abbrev mB_Ci_init : ByteArray := prog_3_method_1_code
abbrev mY_Ci_init : MethodName := ⟨cN_Ci, "<init>", "()V"⟩
abbrev mB_Ci_isAhead : ByteArray := prog_3_method_2_code
abbrev mY_Ci_isAhead : MethodName := ⟨cN_Ci, "isAhead", "(I)Z"⟩
abbrev mB_Ci_hasLine : ByteArray := prog_3_method_3_code
abbrev mY_Ci_hasLine : MethodName := ⟨cN_Ci, "hasLine", "(I)Z"⟩
abbrev mB_Ci_add : ByteArray := prog_3_method_4_code
abbrev mY_Ci_add : MethodName := ⟨cN_Ci, "add", "(III)I"⟩
abbrev mB_Ci_removeAll : ByteArray := prog_3_method_5_code
abbrev mY_Ci_removeAll : MethodName := ⟨cN_Ci, "removeAll", "()I"⟩
abbrev mB_Di_digit : ByteArray := prog_4_method_2_code
abbrev mY_Di_digit : MethodName := ⟨cN_Di, "digit", "(II)I"⟩
abbrev mB_Di_weight : ByteArray := prog_4_method_3_code
abbrev mY_Di_weight : MethodName := ⟨cN_Di, "weight", "(I)I"⟩
abbrev mB_Le_init : ByteArray := prog_5_method_1_code
abbrev mY_Le_init : MethodName := ⟨cN_Le, "<init>", "()V"⟩
abbrev mB_Le_holds : ByteArray := prog_5_method_2_code
abbrev mY_Le_holds : MethodName := ⟨cN_Le, "holds", "(I)Z"⟩
abbrev mB_Le_leastFree : ByteArray := prog_5_method_3_code
abbrev mY_Le_leastFree : MethodName := ⟨cN_Le, "leastFree", "()I"⟩
abbrev mB_Le_take : ByteArray := prog_5_method_4_code
abbrev mY_Le_take : MethodName := ⟨cN_Le, "take", "(I)LTorusGates$Cell;"⟩
abbrev mB_Le_remove : ByteArray := prog_5_method_5_code
abbrev mY_Le_remove : MethodName := ⟨cN_Le, "remove", "(LTorusGates$Cell;)V"⟩
abbrev mB_Le_removeAll : ByteArray := prog_5_method_6_code
abbrev mY_Le_removeAll : MethodName := ⟨cN_Le, "removeAll", "()I"⟩
abbrev mB_Le_greatestBound : ByteArray := prog_5_method_7_code
abbrev mY_Le_greatestBound : MethodName := ⟨cN_Le, "greatestBound", "()I"⟩
abbrev mB_Re_init : ByteArray := prog_6_method_1_code
abbrev mY_Re_init : MethodName := ⟨cN_Re, "<init>", "()V"⟩
abbrev mB_Re_renew : ByteArray := prog_6_method_2_code
abbrev mY_Re_renew : MethodName := ⟨cN_Re, "renew", "(LTorusGates$Secret;LTorusGates$Source;)V"⟩
abbrev mB_Re_renewStep : ByteArray := prog_6_method_3_code
abbrev mY_Re_renewStep : MethodName := ⟨cN_Re, "renewStep", "(ILTorusGates$Secret;LTorusGates$Source;)V"⟩
abbrev mB_Re_refresh : ByteArray := prog_6_method_4_code
abbrev mY_Re_refresh : MethodName := ⟨cN_Re, "refresh", "([I[I)V"⟩
abbrev mB_Re_roundToPlaces : ByteArray := prog_6_method_5_code
abbrev mY_Re_roundToPlaces : MethodName := ⟨cN_Re, "roundToPlaces", "(I)I"⟩
abbrev mB_Re_startWheel : ByteArray := prog_6_method_6_code
abbrev mY_Re_startWheel : MethodName := ⟨cN_Re, "startWheel", "(I)V"⟩
abbrev mB_Re_turnIfKeyBit : ByteArray := prog_6_method_7_code
abbrev mY_Re_turnIfKeyBit : MethodName := ⟨cN_Re, "turnIfKeyBit", "(II)V"⟩
abbrev mB_Re_addChange : ByteArray := prog_6_method_8_code
abbrev mY_Re_addChange : MethodName := ⟨cN_Re, "addChange", "(II[I)V"⟩
abbrev mB_Re_comeBack : ByteArray := prog_6_method_9_code
abbrev mY_Re_comeBack : MethodName := ⟨cN_Re, "comeBack", "([I)V"⟩
abbrev mB_Re_subtract : ByteArray := prog_6_method_10_code
abbrev mY_Re_subtract : MethodName := ⟨cN_Re, "subtract", "(I[I[I)V"⟩
abbrev mB_Ri_addTurned : ByteArray := prog_7_method_2_code
abbrev mY_Ri_addTurned : MethodName := ⟨cN_Ri, "addTurned", "(II[II[II)V"⟩
abbrev mB_Ri_turned : ByteArray := prog_7_method_3_code
abbrev mY_Ri_turned : MethodName := ⟨cN_Ri, "turned", "(II[II)I"⟩
abbrev mB_Se_init : ByteArray := prog_8_method_1_code
abbrev mY_Se_init : MethodName := ⟨cN_Se, "<init>", "()V"⟩
abbrev mB_Se_renew : ByteArray := prog_8_method_2_code
abbrev mY_Se_renew : MethodName := ⟨cN_Se, "renew", "(LTorusGates$Source;)V"⟩
abbrev mB_Se_drawBits : ByteArray := prog_8_method_3_code
abbrev mY_Se_drawBits : MethodName := ⟨cN_Se, "drawBits", "([IILTorusGates$Source;)V"⟩
abbrev mB_Se_hide : ByteArray := prog_8_method_4_code
abbrev mY_Se_hide : MethodName := ⟨cN_Se, "hide", "(I[IILTorusGates$Source;)V"⟩
abbrev mB_Se_placeOf : ByteArray := prog_8_method_5_code
abbrev mY_Se_placeOf : MethodName := ⟨cN_Se, "placeOf", "([I)I"⟩
abbrev mB_Se_hideNothing : ByteArray := prog_8_method_6_code
abbrev mY_Se_hideNothing : MethodName := ⟨cN_Se, "hideNothing", "([ILTorusGates$Source;)V"⟩
abbrev mB_So_init : ByteArray := prog_9_method_1_code
abbrev mY_So_init : MethodName := ⟨cN_So, "<init>", "()V"⟩
abbrev mB_So_restart : ByteArray := prog_9_method_2_code
abbrev mY_So_restart : MethodName := ⟨cN_So, "restart", "(I)V"⟩
abbrev mB_So_draw : ByteArray := prog_9_method_3_code
abbrev mY_So_draw : MethodName := ⟨cN_So, "draw", "()I"⟩
abbrev mB_So_drawNoise : ByteArray := prog_9_method_4_code
abbrev mY_So_drawNoise : MethodName := ⟨cN_So, "drawNoise", "(I)I"⟩
abbrev mB_Wo_init : ByteArray := prog_10_method_1_code
abbrev mY_Wo_init : MethodName := ⟨cN_Wo, "<init>", "(LTorusGates$Refresher;)V"⟩
abbrev mB_Wo_work : ByteArray := prog_10_method_2_code
abbrev mY_Wo_work : MethodName := ⟨cN_Wo, "work", "(I[I[I[I)V"⟩
abbrev mB_La_bit : ByteArray := method_3_code
abbrev mY_La_bit : MethodName := ⟨cN_La, "bit", "(LTorusGates;Z[J)I"⟩
abbrev mB_La_drop : ByteArray := method_4_code
abbrev mY_La_drop : MethodName := ⟨cN_La, "drop", "(LTorusGates;I[J)I"⟩
abbrev mB_La_not : ByteArray := method_5_code
abbrev mY_La_not : MethodName := ⟨cN_La, "not", "(LTorusGates;I[J)I"⟩
abbrev mB_La_blur : ByteArray := method_6_code
abbrev mY_La_blur : MethodName := ⟨cN_La, "blur", "(LTorusGates;II[J)I"⟩
abbrev mB_La_pile : ByteArray := method_7_code
abbrev mY_La_pile : MethodName := ⟨cN_La, "pile", "(LTorusGates;II[J)I"⟩
abbrev mB_La_gate : ByteArray := method_8_code
abbrev mY_La_gate : MethodName := ⟨cN_La, "gate", "(LTorusGates;III[J)I"⟩
abbrev mB_La_choose : ByteArray := method_9_code
abbrev mY_La_choose : MethodName := ⟨cN_La, "choose", "(LTorusGates;III[J)I"⟩
abbrev mB_La_open : ByteArray := method_10_code
abbrev mY_La_open : MethodName := ⟨cN_La, "open", "(LTorusGates;I[J)I"⟩
abbrev mB_La_bound : ByteArray := method_11_code
abbrev mY_La_bound : MethodName := ⟨cN_La, "bound", "(LTorusGates;I[J)I"⟩
abbrev mB_La_within : ByteArray := method_12_code
abbrev mY_La_within : MethodName := ⟨cN_La, "within", "(LTorusGates;I[J)I"⟩
abbrev mB_La_line : ByteArray := method_13_code
abbrev mY_La_line : MethodName := ⟨cN_La, "line", "(LTorusGates;III[J)I"⟩
abbrev mB_La_play : ByteArray := method_14_code
abbrev mY_La_play : MethodName := ⟨cN_La, "play", "(LTorusGates;II[J)I"⟩
abbrev mB_La_count : ByteArray := method_15_code
abbrev mY_La_count : MethodName := ⟨cN_La, "count", "(LTorusGates;I[J)I"⟩
abbrev mB_La_law : ByteArray := code
abbrev mY_La_law : MethodName := ⟨cN_La, "law", "([I)Z"⟩
end
section
/-! the words of the tables that every method leans on: all the good ones, by their places. Printed by wip/whole/gen_names.py -/
def wW : List Cond := lw_tbl.filter goodWord
theorem wW_in {w : Cond} (k : Nat) (h : lw_tbl[k]? = some w) (hg : goodWord w = true) : w ∈ wW := List.mem_filter.mpr ⟨List.mem_of_getElem? h, hg⟩
theorem wW_i1 {w : Cond} (k : Nat) (h : tables_1_1[k]? = some w) (hg : goodWord w = true) : w ∈ wW := List.mem_filter.mpr ⟨List.mem_append_right _ (List.mem_append_left _ (List.mem_of_getElem? h)), hg⟩
theorem wW_i2 {w : Cond} (k : Nat) (h : tables_1_2[k]? = some w) (hg : goodWord w = true) : w ∈ wW := List.mem_filter.mpr ⟨List.mem_append_right _ (List.mem_append_right _ (List.mem_append_left _ (List.mem_of_getElem? h))), hg⟩
theorem wW_i3 {w : Cond} (k : Nat) (h : tables_1_3[k]? = some w) (hg : goodWord w = true) : w ∈ wW := List.mem_filter.mpr ⟨List.mem_append_right _ (List.mem_append_right _ (List.mem_append_right _ (List.mem_append_left _ (List.mem_of_getElem? h)))), hg⟩
theorem wW_i4 {w : Cond} (k : Nat) (h : tables_1_4[k]? = some w) (hg : goodWord w = true) : w ∈ wW := List.mem_filter.mpr ⟨List.mem_append_right _ (List.mem_append_right _ (List.mem_append_right _ (List.mem_append_right _ (List.mem_of_getElem? h)))), hg⟩
theorem wW_good {w : Cond} (h : w ∈ wW) : goodWord w = true := (List.mem_filter.mp h).2
theorem wW_tbl {w : Cond} (h : w ∈ wW) : w ∈ lw_tbl := (List.mem_filter.mp h).1
theorem ww_0 : Cond.selects cN_TG mY_TG_makeKey mY_TG_makeKey ∈ wW := wW_in 0 rfl rfl
theorem ww_1 : Cond.selects cN_Re mY_Re_renewStep mY_Re_renewStep ∈ wW := wW_in 1 rfl rfl
theorem ww_2 : Cond.selects cN_TG mY_TG_freeNumber mY_TG_freeNumber ∈ wW := wW_in 2 rfl rfl
theorem ww_3 : Cond.selects "java/lang/Throwable" ⟨"java/lang/Throwable", "fillInStackTrace", "(I)Ljava/lang/Throwable;"⟩ ⟨"java/lang/Throwable", "fillInStackTrace", "(I)Ljava/lang/Throwable;"⟩ ∈ wW := wW_in 3 rfl rfl
theorem ww_4 : Cond.selects cN_TG mY_TG_fillNew mY_TG_fillNew ∈ wW := wW_in 4 rfl rfl
theorem ww_5 : Cond.selects cN_TG mY_TG_cellOf mY_TG_cellOf ∈ wW := wW_in 5 rfl rfl
theorem ww_6 : Cond.selects cN_TG mY_TG_checkRange mY_TG_checkRange ∈ wW := wW_in 6 rfl rfl
theorem ww_7 : Cond.selects cN_TG mY_TG_checkedBound mY_TG_checkedBound ∈ wW := wW_in 7 rfl rfl
theorem ww_8 : Cond.selects cN_TG mY_TG_checkKind mY_TG_checkKind ∈ wW := wW_in 8 rfl rfl
theorem ww_9 : Cond.selects cN_TG mY_TG_refuseIf mY_TG_refuseIf ∈ wW := wW_in 9 rfl rfl
theorem ww_10 : Cond.selects cN_TG mY_TG_runGate mY_TG_runGate ∈ wW := wW_in 10 rfl rfl
theorem ww_11 : Cond.selects cN_Re mY_Re_startWheel mY_Re_startWheel ∈ wW := wW_in 11 rfl rfl
theorem ww_12 : Cond.selects cN_Re mY_Re_turnIfKeyBit mY_Re_turnIfKeyBit ∈ wW := wW_in 12 rfl rfl
theorem ww_13 : Cond.selects cN_Re mY_Re_addChange mY_Re_addChange ∈ wW := wW_in 13 rfl rfl
theorem ww_14 : Cond.selects cN_Re mY_Re_comeBack mY_Re_comeBack ∈ wW := wW_in 14 rfl rfl
theorem ww_15 : Cond.selects cN_Mo mY_Mo_many mY_Mo_many ∈ wW := wW_in 15 rfl rfl
theorem ww_16 : Cond.selects cN_Mo mY_Mo_goes mY_Mo_goes ∈ wW := wW_in 16 rfl rfl
theorem ww_17 : Cond.selects cN_Mo mY_Mo_made mY_Mo_made ∈ wW := wW_in 17 rfl rfl
theorem ww_18 : Cond.selects cN_Mo mY_Mo_isBit mY_Mo_isBit ∈ wW := wW_in 18 rfl rfl
theorem ww_19 : Cond.selects cN_Mo mY_Mo_bounded mY_Mo_bounded ∈ wW := wW_in 19 rfl rfl
theorem ww_20 : Cond.selects cN_Mo mY_Mo_great mY_Mo_great ∈ wW := wW_in 20 rfl rfl
theorem ww_21 : Cond.selects cN_Mo mY_Mo_isAhead mY_Mo_isAhead ∈ wW := wW_in 21 rfl rfl
theorem ww_22 : Cond.initialized cN_La ∈ wW := wW_i1 0 rfl rfl
theorem ww_23 : Cond.initialized cN_TG ∈ wW := wW_i1 1 rfl rfl
theorem ww_24 : Cond.initialized cN_So ∈ wW := wW_i1 2 rfl rfl
theorem ww_25 : Cond.initialized cN_Se ∈ wW := wW_i1 3 rfl rfl
theorem ww_26 : Cond.initialized cN_Re ∈ wW := wW_i1 4 rfl rfl
theorem ww_27 : Cond.initialized cN_Wo ∈ wW := wW_i1 5 rfl rfl
theorem ww_28 : Cond.initialized cN_Le ∈ wW := wW_i1 6 rfl rfl
theorem ww_29 : Cond.initialized cN_Ce ∈ wW := wW_i1 7 rfl rfl
theorem ww_30 : Cond.initialized cN_Ci ∈ wW := wW_i1 8 rfl rfl
theorem ww_31 : Cond.initialized cN_Ri ∈ wW := wW_i1 9 rfl rfl
theorem ww_32 : Cond.initialized cN_Di ∈ wW := wW_i1 10 rfl rfl
theorem ww_33 : Cond.initialized cN_Mo ∈ wW := wW_i1 11 rfl rfl
theorem ww_34 : Cond.initialized "java/lang/Throwable" ∈ wW := wW_i1 12 rfl rfl
theorem ww_35 : Cond.initialized "java/lang/Exception" ∈ wW := wW_i1 13 rfl rfl
theorem ww_36 : Cond.initialized "java/lang/RuntimeException" ∈ wW := wW_i1 14 rfl rfl
theorem ww_37 : Cond.initialized "java/lang/IllegalStateException" ∈ wW := wW_i1 15 rfl rfl
theorem ww_38 : Cond.initialized "java/util/NoSuchElementException" ∈ wW := wW_i1 16 rfl rfl
theorem ww_39 : Cond.initialized "java/lang/System" ∈ wW := wW_i1 17 rfl rfl
theorem ww_40 : Cond.initialized "java/lang/IllegalArgumentException" ∈ wW := wW_i1 18 rfl rfl
theorem ww_41 : Cond.classLink cN_La 8 cN_TG ∈ wW := wW_i1 19 rfl rfl
theorem ww_42 : Cond.instantiable cN_TG 12 ∈ wW := wW_i1 20 rfl rfl
theorem ww_43 : Cond.methodLink cN_La 59 mY_TG_init ∈ wW := wW_i1 21 rfl rfl
theorem ww_44 : Cond.instanceMethod mY_TG_init ∈ wW := wW_i1 22 rfl rfl
theorem wC_TG_init : Cond.code mY_TG_init mB_TG_init 2 none ∈ wW := wW_i1 23 rfl rfl
theorem ww_46 : Cond.methodLink cN_TG 1 ⟨"java/lang/Object", "<init>", "()V"⟩ ∈ wW := wW_i1 24 rfl rfl
theorem ww_47 : Cond.instanceMethod ⟨"java/lang/Object", "<init>", "()V"⟩ ∈ wW := wW_i1 25 rfl rfl
theorem ww_49 : Cond.classLink cN_TG 7 cN_So ∈ wW := wW_i1 27 rfl rfl
theorem ww_50 : Cond.instantiable cN_So 1 ∈ wW := wW_i1 28 rfl rfl
theorem ww_52 : Cond.instanceMethod mY_So_init ∈ wW := wW_i1 30 rfl rfl
theorem wC_So_init : Cond.code mY_So_init mB_So_init 1 none ∈ wW := wW_i1 31 rfl rfl
theorem ww_54 : Cond.methodLink cN_So 1 ⟨"java/lang/Object", "<init>", "()V"⟩ ∈ wW := wW_i1 32 rfl rfl
theorem ww_55 : Cond.fieldLink cN_So 7 cN_So "state" "J" ∈ wW := wW_i1 33 rfl rfl
theorem ww_56 : Cond.lays cN_So cN_So "state" "J" ∈ wW := wW_i1 34 rfl rfl
theorem ww_58 : Cond.superclass cN_So "java/lang/Object" ∈ wW := wW_i1 36 rfl rfl
theorem ww_59 : Cond.classLink cN_TG 16 cN_Se ∈ wW := wW_i1 37 rfl rfl
theorem ww_60 : Cond.instantiable cN_Se 2 ∈ wW := wW_i1 38 rfl rfl
theorem ww_61 : Cond.methodLink cN_TG 18 mY_Se_init ∈ wW := wW_i1 39 rfl rfl
theorem ww_62 : Cond.instanceMethod mY_Se_init ∈ wW := wW_i1 40 rfl rfl
theorem wC_Se_init : Cond.code mY_Se_init mB_Se_init 1 none ∈ wW := wW_i1 41 rfl rfl
theorem ww_64 : Cond.methodLink cN_Se 1 ⟨"java/lang/Object", "<init>", "()V"⟩ ∈ wW := wW_i1 42 rfl rfl
theorem ww_65 : Cond.fieldLink cN_Se 9 cN_Se "forRows" "[I" ∈ wW := wW_i1 43 rfl rfl
theorem ww_66 : Cond.fieldLink cN_Re 53 cN_Se "forRows" "[I" ∈ wW := wW_i1 44 rfl rfl
theorem ww_67 : Cond.fieldLink cN_Se 15 cN_Se "forRing" "[I" ∈ wW := wW_i1 45 rfl rfl
theorem ww_68 : Cond.fieldLink cN_Re 36 cN_Se "forRing" "[I" ∈ wW := wW_i1 46 rfl rfl
theorem ww_69 : Cond.laysFinal cN_Se cN_Se "forRows" "[I" ∈ wW := wW_i1 47 rfl rfl
theorem ww_71 : Cond.laysFinal cN_Se cN_Se "forRing" "[I" ∈ wW := wW_i1 49 rfl rfl
theorem ww_73 : Cond.superclass cN_Se "java/lang/Object" ∈ wW := wW_i1 51 rfl rfl
theorem ww_74 : Cond.arrayClass Jvm.ClassFile.FieldType.int ∈ wW := wW_i1 52 rfl rfl
theorem ww_75 : Cond.classLink cN_TG 23 cN_Re ∈ wW := wW_i1 53 rfl rfl
theorem ww_76 : Cond.instantiable cN_Re 4 ∈ wW := wW_i1 54 rfl rfl
theorem ww_77 : Cond.methodLink cN_TG 25 mY_Re_init ∈ wW := wW_i1 55 rfl rfl
theorem ww_78 : Cond.instanceMethod mY_Re_init ∈ wW := wW_i1 56 rfl rfl
theorem wC_Re_init : Cond.code mY_Re_init mB_Re_init 1 none ∈ wW := wW_i1 57 rfl rfl
theorem ww_80 : Cond.methodLink cN_Re 3 ⟨"java/lang/Object", "<init>", "()V"⟩ ∈ wW := wW_i1 58 rfl rfl
theorem ww_81 : Cond.classLink cN_Re 15 "[[I" ∈ wW := wW_i1 59 rfl rfl
theorem ww_83 : Cond.fieldLink cN_Re 17 cN_Re "steps" "[[I" ∈ wW := wW_i1 61 rfl rfl
theorem ww_84 : Cond.fieldLink cN_Re 22 cN_Re "wayBack" "[[I" ∈ wW := wW_i1 62 rfl rfl
theorem ww_85 : Cond.fieldLink cN_Re 25 cN_Re "wheel" "[I" ∈ wW := wW_i1 63 rfl rfl
theorem ww_86 : Cond.fieldLink cN_Re 29 cN_Re "change" "[I" ∈ wW := wW_i1 64 rfl rfl
theorem ww_87 : Cond.laysFinal cN_Re cN_Re "steps" "[[I" ∈ wW := wW_i1 65 rfl rfl
theorem ww_89 : Cond.laysFinal cN_Re cN_Re "wayBack" "[[I" ∈ wW := wW_i1 67 rfl rfl
theorem ww_91 : Cond.laysFinal cN_Re cN_Re "wheel" "[I" ∈ wW := wW_i1 69 rfl rfl
theorem ww_93 : Cond.laysFinal cN_Re cN_Re "change" "[I" ∈ wW := wW_i1 71 rfl rfl
theorem ww_95 : Cond.superclass cN_Re "java/lang/Object" ∈ wW := wW_i1 73 rfl rfl
theorem ww_96 : Cond.classLink cN_TG 30 cN_Wo ∈ wW := wW_i1 74 rfl rfl
theorem ww_97 : Cond.instantiable cN_Wo 2 ∈ wW := wW_i1 75 rfl rfl
theorem ww_98 : Cond.methodLink cN_TG 32 mY_Wo_init ∈ wW := wW_i1 76 rfl rfl
theorem ww_99 : Cond.instanceMethod mY_Wo_init ∈ wW := wW_i1 77 rfl rfl
theorem wC_Wo_init : Cond.code mY_Wo_init mB_Wo_init 2 none ∈ wW := wW_i1 78 rfl rfl
theorem ww_101 : Cond.methodLink cN_Wo 3 ⟨"java/lang/Object", "<init>", "()V"⟩ ∈ wW := wW_i1 79 rfl rfl
theorem ww_102 : Cond.fieldLink cN_Wo 9 cN_Wo "refresher" "LTorusGates$Refresher;" ∈ wW := wW_i1 80 rfl rfl
theorem ww_103 : Cond.fieldLink cN_Wo 17 cN_Wo "sum" "[I" ∈ wW := wW_i1 81 rfl rfl
theorem ww_104 : Cond.laysFinal cN_Wo cN_Wo "refresher" "LTorusGates$Refresher;" ∈ wW := wW_i1 82 rfl rfl
theorem ww_106 : Cond.laysFinal cN_Wo cN_Wo "sum" "[I" ∈ wW := wW_i1 84 rfl rfl
theorem ww_108 : Cond.superclass cN_Wo "java/lang/Object" ∈ wW := wW_i1 86 rfl rfl
theorem ww_109 : Cond.classLink cN_TG 39 cN_Le ∈ wW := wW_i1 87 rfl rfl
theorem ww_110 : Cond.instantiable cN_Le 2 ∈ wW := wW_i1 88 rfl rfl
theorem ww_111 : Cond.methodLink cN_TG 41 mY_Le_init ∈ wW := wW_i1 89 rfl rfl
theorem ww_112 : Cond.instanceMethod mY_Le_init ∈ wW := wW_i1 90 rfl rfl
theorem wC_Le_init : Cond.code mY_Le_init mB_Le_init 2 none ∈ wW := wW_i1 91 rfl rfl
theorem ww_114 : Cond.methodLink cN_Le 3 ⟨"java/lang/Object", "<init>", "()V"⟩ ∈ wW := wW_i1 92 rfl rfl
theorem ww_115 : Cond.classLink cN_Le 9 cN_Ce ∈ wW := wW_i1 93 rfl rfl
theorem ww_117 : Cond.instantiable cN_Ce 4 ∈ wW := wW_i1 95 rfl rfl
theorem ww_118 : Cond.methodLink cN_Le 17 mY_Ce_init ∈ wW := wW_i1 96 rfl rfl
theorem ww_119 : Cond.instanceMethod mY_Ce_init ∈ wW := wW_i1 97 rfl rfl
theorem wC_Ce_init : Cond.code mY_Ce_init mB_Ce_init 1 none ∈ wW := wW_i1 98 rfl rfl
theorem ww_121 : Cond.methodLink cN_Ce 1 ⟨"java/lang/Object", "<init>", "()V"⟩ ∈ wW := wW_i1 99 rfl rfl
theorem ww_122 : Cond.fieldLink cN_Ce 9 cN_Ce "row" "[I" ∈ wW := wW_i1 100 rfl rfl
theorem ww_123 : Cond.fieldLink cN_TG 151 cN_Ce "row" "[I" ∈ wW := wW_i1 101 rfl rfl
theorem ww_124 : Cond.fieldLink cN_Ce 21 cN_Ce "bound" "I" ∈ wW := wW_i1 102 rfl rfl
theorem ww_125 : Cond.fieldLink cN_TG 108 cN_Ce "bound" "I" ∈ wW := wW_i1 103 rfl rfl
theorem ww_126 : Cond.fieldLink cN_Le 26 cN_Ce "bound" "I" ∈ wW := wW_i1 104 rfl rfl
theorem ww_127 : Cond.fieldLink cN_Ce 25 cN_Ce "due" "Z" ∈ wW := wW_i1 105 rfl rfl
theorem ww_128 : Cond.fieldLink cN_TG 158 cN_Ce "due" "Z" ∈ wW := wW_i1 106 rfl rfl
theorem ww_129 : Cond.fieldLink cN_Le 18 cN_Ce "there" "Z" ∈ wW := wW_i1 107 rfl rfl
theorem ww_130 : Cond.laysFinal cN_Ce cN_Ce "row" "[I" ∈ wW := wW_i1 108 rfl rfl
theorem ww_132 : Cond.lays cN_Ce cN_Ce "bound" "I" ∈ wW := wW_i1 110 rfl rfl
theorem ww_134 : Cond.lays cN_Ce cN_Ce "due" "Z" ∈ wW := wW_i1 112 rfl rfl
theorem ww_136 : Cond.lays cN_Ce cN_Ce "there" "Z" ∈ wW := wW_i1 114 rfl rfl
theorem ww_138 : Cond.superclass cN_Ce "java/lang/Object" ∈ wW := wW_i1 116 rfl rfl
theorem ww_139 : Cond.fieldLink cN_Le 11 cN_Le "cells" "[LTorusGates$Cell;" ∈ wW := wW_i1 117 rfl rfl
theorem ww_140 : Cond.fieldLink cN_TG 229 cN_Le "cells" "[LTorusGates$Cell;" ∈ wW := wW_i1 118 rfl rfl
theorem ww_141 : Cond.fieldLink cN_Le 22 cN_Le "size" "I" ∈ wW := wW_i1 119 rfl rfl
theorem ww_142 : Cond.fieldLink cN_TG 97 cN_Le "size" "I" ∈ wW := wW_i1 120 rfl rfl
theorem ww_143 : Cond.laysFinal cN_Le cN_Le "cells" "[LTorusGates$Cell;" ∈ wW := wW_i1 121 rfl rfl
theorem ww_145 : Cond.lays cN_Le cN_Le "size" "I" ∈ wW := wW_i1 123 rfl rfl
theorem ww_147 : Cond.superclass cN_Le "java/lang/Object" ∈ wW := wW_i1 125 rfl rfl
theorem ww_148 : Cond.classLink cN_TG 46 cN_Ci ∈ wW := wW_i1 126 rfl rfl
theorem ww_149 : Cond.instantiable cN_Ci 4 ∈ wW := wW_i1 127 rfl rfl
theorem ww_150 : Cond.methodLink cN_TG 48 mY_Ci_init ∈ wW := wW_i1 128 rfl rfl
theorem ww_151 : Cond.instanceMethod mY_Ci_init ∈ wW := wW_i1 129 rfl rfl
theorem wC_Ci_init : Cond.code mY_Ci_init mB_Ci_init 1 none ∈ wW := wW_i1 130 rfl rfl
theorem ww_153 : Cond.methodLink cN_Ci 3 ⟨"java/lang/Object", "<init>", "()V"⟩ ∈ wW := wW_i1 131 rfl rfl
theorem ww_154 : Cond.fieldLink cN_Ci 9 cN_Ci "kinds" "[I" ∈ wW := wW_i1 132 rfl rfl
theorem ww_155 : Cond.fieldLink cN_TG 187 cN_Ci "kinds" "[I" ∈ wW := wW_i1 133 rfl rfl
theorem ww_156 : Cond.fieldLink cN_Ci 15 cN_Ci "firsts" "[I" ∈ wW := wW_i1 134 rfl rfl
theorem ww_157 : Cond.fieldLink cN_TG 190 cN_Ci "firsts" "[I" ∈ wW := wW_i1 135 rfl rfl
theorem ww_158 : Cond.fieldLink cN_Ci 18 cN_Ci "seconds" "[I" ∈ wW := wW_i1 136 rfl rfl
theorem ww_159 : Cond.fieldLink cN_TG 193 cN_Ci "seconds" "[I" ∈ wW := wW_i1 137 rfl rfl
theorem ww_160 : Cond.fieldLink cN_Ci 21 cN_Ci "size" "I" ∈ wW := wW_i1 138 rfl rfl
theorem ww_161 : Cond.fieldLink cN_TG 175 cN_Ci "size" "I" ∈ wW := wW_i1 139 rfl rfl
theorem ww_162 : Cond.laysFinal cN_Ci cN_Ci "kinds" "[I" ∈ wW := wW_i1 140 rfl rfl
theorem ww_164 : Cond.laysFinal cN_Ci cN_Ci "firsts" "[I" ∈ wW := wW_i1 142 rfl rfl
theorem ww_166 : Cond.laysFinal cN_Ci cN_Ci "seconds" "[I" ∈ wW := wW_i1 144 rfl rfl
theorem ww_168 : Cond.lays cN_Ci cN_Ci "size" "I" ∈ wW := wW_i1 146 rfl rfl
theorem ww_170 : Cond.superclass cN_Ci "java/lang/Object" ∈ wW := wW_i1 148 rfl rfl
theorem ww_171 : Cond.classLink cN_TG 53 cN_Ce ∈ wW := wW_i1 149 rfl rfl
theorem ww_172 : Cond.methodLink cN_TG 59 mY_Ce_init ∈ wW := wW_i1 150 rfl rfl
theorem ww_173 : Cond.methodLink cN_TG 71 mY_TG_makeKey ∈ wW := wW_i1 151 rfl rfl
theorem ww_175 : Cond.instanceMethod mY_TG_makeKey ∈ wW := wW_i1 153 rfl rfl
theorem wC_TG_makeKey : Cond.code mY_TG_makeKey mB_TG_makeKey 2 none ∈ wW := wW_i1 154 rfl rfl
theorem ww_177 : Cond.methodLink cN_TG 214 mY_So_restart ∈ wW := wW_i1 155 rfl rfl
theorem ww_178 : Cond.instanceMethod mY_So_restart ∈ wW := wW_i1 156 rfl rfl
theorem ww_179 : Cond.selects cN_So mY_So_restart mY_So_restart ∈ wW := wW_i1 157 rfl rfl
theorem wC_So_restart : Cond.code mY_So_restart mB_So_restart 2 none ∈ wW := wW_i1 158 rfl rfl
theorem ww_181 : Cond.methodLink cN_TG 217 mY_Se_renew ∈ wW := wW_i1 159 rfl rfl
theorem ww_182 : Cond.instanceMethod mY_Se_renew ∈ wW := wW_i1 160 rfl rfl
theorem ww_183 : Cond.selects cN_Se mY_Se_renew mY_Se_renew ∈ wW := wW_i1 161 rfl rfl
theorem wC_Se_renew : Cond.code mY_Se_renew mB_Se_renew 2 none ∈ wW := wW_i1 162 rfl rfl
theorem ww_185 : Cond.methodLink cN_Se 18 mY_Se_drawBits ∈ wW := wW_i1 163 rfl rfl
theorem ww_186 : Cond.static mY_Se_drawBits ∈ wW := wW_i1 164 rfl rfl
theorem wC_Se_drawBits : Cond.code mY_Se_drawBits mB_Se_drawBits 4 none ∈ wW := wW_i1 165 rfl rfl
theorem ww_188 : Cond.methodLink cN_Se 22 mY_So_draw ∈ wW := wW_i1 166 rfl rfl
theorem ww_189 : Cond.instanceMethod mY_So_draw ∈ wW := wW_i1 167 rfl rfl
theorem ww_190 : Cond.selects cN_So mY_So_draw mY_So_draw ∈ wW := wW_i1 168 rfl rfl
theorem wC_So_draw : Cond.code mY_So_draw mB_So_draw 3 (some .int) ∈ wW := wW_i1 169 rfl rfl
theorem ww_192 : Cond.constantLong cN_So 13 (-7046029254386353131) ∈ wW := wW_i1 170 rfl rfl
theorem ww_193 : Cond.constantLong cN_So 15 (-4658895280553007687) ∈ wW := wW_i1 171 rfl rfl
theorem ww_194 : Cond.constantLong cN_So 17 (-7723592293110705685) ∈ wW := wW_i1 172 rfl rfl
theorem ww_195 : Cond.methodLink cN_TG 221 mY_Re_renew ∈ wW := wW_i1 173 rfl rfl
theorem ww_196 : Cond.instanceMethod mY_Re_renew ∈ wW := wW_i1 174 rfl rfl
theorem ww_197 : Cond.selects cN_Re mY_Re_renew mY_Re_renew ∈ wW := wW_i1 175 rfl rfl
theorem wC_Re_renew : Cond.code mY_Re_renew mB_Re_renew 6 none ∈ wW := wW_i1 176 rfl rfl
theorem ww_199 : Cond.methodLink cN_Re 32 mY_Re_renewStep ∈ wW := wW_i1 177 rfl rfl
theorem ww_201 : Cond.instanceMethod mY_Re_renewStep ∈ wW := wW_i1 179 rfl rfl
theorem wC_Re_renewStep : Cond.code mY_Re_renewStep mB_Re_renewStep 7 none ∈ wW := wW_i1 180 rfl rfl
theorem ww_203 : Cond.methodLink cN_Re 49 mY_Se_hideNothing ∈ wW := wW_i1 181 rfl rfl
theorem ww_204 : Cond.instanceMethod mY_Se_hideNothing ∈ wW := wW_i1 182 rfl rfl
theorem ww_205 : Cond.selects cN_Se mY_Se_hideNothing mY_Se_hideNothing ∈ wW := wW_i1 183 rfl rfl
theorem wC_Se_hideNothing : Cond.code mY_Se_hideNothing mB_Se_hideNothing 4 none ∈ wW := wW_i1 184 rfl rfl
theorem ww_207 : Cond.methodLink cN_Se 28 mY_So_drawNoise ∈ wW := wW_i1 185 rfl rfl
theorem ww_208 : Cond.instanceMethod mY_So_drawNoise ∈ wW := wW_i1 186 rfl rfl
theorem ww_209 : Cond.selects cN_So mY_So_drawNoise mY_So_drawNoise ∈ wW := wW_i1 187 rfl rfl
theorem wC_So_drawNoise : Cond.code mY_So_drawNoise mB_So_drawNoise 2 (some .int) ∈ wW := wW_i1 188 rfl rfl
theorem ww_211 : Cond.methodLink cN_So 19 mY_So_draw ∈ wW := wW_i1 189 rfl rfl
theorem ww_212 : Cond.methodLink cN_Se 32 mY_Ri_addTurned ∈ wW := wW_i1 190 rfl rfl
theorem ww_213 : Cond.static mY_Ri_addTurned ∈ wW := wW_i1 191 rfl rfl
theorem wC_Ri_addTurned : Cond.code mY_Ri_addTurned mB_Ri_addTurned 11 none ∈ wW := wW_i1 192 rfl rfl
theorem ww_215 : Cond.methodLink cN_Re 39 mY_Di_weight ∈ wW := wW_i1 193 rfl rfl
theorem ww_216 : Cond.static mY_Di_weight ∈ wW := wW_i1 194 rfl rfl
theorem wC_Di_weight : Cond.code mY_Di_weight mB_Di_weight 1 (some .int) ∈ wW := wW_i1 195 rfl rfl
theorem ww_218 : Cond.methodLink cN_Re 45 mY_Se_hide ∈ wW := wW_i1 196 rfl rfl
theorem ww_219 : Cond.instanceMethod mY_Se_hide ∈ wW := wW_i1 197 rfl rfl
theorem ww_220 : Cond.selects cN_Se mY_Se_hide mY_Se_hide ∈ wW := wW_i1 198 rfl rfl
theorem wC_Se_hide : Cond.code mY_Se_hide mB_Se_hide 7 none ∈ wW := wW_i1 199 rfl rfl
theorem ww_222 : Cond.fieldLink cN_TG 10 cN_TG "source" "LTorusGates$Source;" ∈ wW := wW_i1 200 rfl rfl
theorem ww_223 : Cond.fieldLink cN_TG 19 cN_TG "secret" "LTorusGates$Secret;" ∈ wW := wW_i1 201 rfl rfl
theorem ww_224 : Cond.fieldLink cN_TG 26 cN_TG "refresher" "LTorusGates$Refresher;" ∈ wW := wW_i1 202 rfl rfl
theorem ww_225 : Cond.fieldLink cN_TG 35 cN_TG "works" "LTorusGates$Works;" ∈ wW := wW_i1 203 rfl rfl
theorem ww_226 : Cond.fieldLink cN_TG 42 cN_TG "ledger" "LTorusGates$Ledger;" ∈ wW := wW_i1 204 rfl rfl
theorem ww_227 : Cond.fieldLink cN_TG 49 cN_TG "circuit" "LTorusGates$Circuit;" ∈ wW := wW_i1 205 rfl rfl
theorem ww_228 : Cond.fieldLink cN_TG 55 cN_TG "played" "[LTorusGates$Cell;" ∈ wW := wW_i1 206 rfl rfl
theorem ww_229 : Cond.fieldLink cN_TG 60 cN_TG "chosenB" "LTorusGates$Cell;" ∈ wW := wW_i1 207 rfl rfl
theorem ww_230 : Cond.fieldLink cN_TG 64 cN_TG "chosenA" "LTorusGates$Cell;" ∈ wW := wW_i1 208 rfl rfl
theorem ww_231 : Cond.fieldLink cN_TG 67 cN_TG "zeroRow" "[I" ∈ wW := wW_i1 209 rfl rfl
theorem ww_232 : Cond.fieldLink cN_TG 200 cN_TG "gatesDone" "I" ∈ wW := wW_i1 210 rfl rfl
theorem ww_233 : Cond.fieldLink cN_TG 203 cN_TG "refusals" "I" ∈ wW := wW_i1 211 rfl rfl
theorem ww_234 : Cond.laysFinal cN_TG cN_TG "source" "LTorusGates$Source;" ∈ wW := wW_i1 212 rfl rfl
theorem ww_236 : Cond.laysFinal cN_TG cN_TG "secret" "LTorusGates$Secret;" ∈ wW := wW_i1 214 rfl rfl
theorem ww_238 : Cond.laysFinal cN_TG cN_TG "refresher" "LTorusGates$Refresher;" ∈ wW := wW_i1 216 rfl rfl
theorem ww_240 : Cond.laysFinal cN_TG cN_TG "works" "LTorusGates$Works;" ∈ wW := wW_i1 218 rfl rfl
theorem ww_242 : Cond.laysFinal cN_TG cN_TG "ledger" "LTorusGates$Ledger;" ∈ wW := wW_i1 220 rfl rfl
theorem ww_244 : Cond.laysFinal cN_TG cN_TG "circuit" "LTorusGates$Circuit;" ∈ wW := wW_i1 222 rfl rfl
theorem ww_246 : Cond.laysFinal cN_TG cN_TG "played" "[LTorusGates$Cell;" ∈ wW := wW_i1 224 rfl rfl
theorem ww_248 : Cond.laysFinal cN_TG cN_TG "chosenB" "LTorusGates$Cell;" ∈ wW := wW_i1 226 rfl rfl
theorem ww_250 : Cond.laysFinal cN_TG cN_TG "chosenA" "LTorusGates$Cell;" ∈ wW := wW_i1 228 rfl rfl
theorem ww_252 : Cond.laysFinal cN_TG cN_TG "zeroRow" "[I" ∈ wW := wW_i1 230 rfl rfl
theorem ww_254 : Cond.lays cN_TG cN_TG "gatesDone" "I" ∈ wW := wW_i1 232 rfl rfl
theorem ww_256 : Cond.lays cN_TG cN_TG "refusals" "I" ∈ wW := wW_i1 234 rfl rfl
theorem ww_258 : Cond.superclass cN_TG "java/lang/Object" ∈ wW := wW_i1 236 rfl rfl
theorem ww_259 : Cond.methodLink cN_La 63 mY_TG_key ∈ wW := wW_i1 237 rfl rfl
theorem ww_260 : Cond.instanceMethod mY_TG_key ∈ wW := wW_i1 238 rfl rfl
theorem ww_261 : Cond.selects cN_TG mY_TG_key mY_TG_key ∈ wW := wW_i1 239 rfl rfl
theorem wC_TG_key : Cond.code mY_TG_key mB_TG_key 2 (some .int) ∈ wW := wW_i2 0 rfl rfl
theorem ww_263 : Cond.methodLink cN_TG 75 mY_Le_removeAll ∈ wW := wW_i2 1 rfl rfl
theorem ww_264 : Cond.instanceMethod mY_Le_removeAll ∈ wW := wW_i2 2 rfl rfl
theorem ww_265 : Cond.selects cN_Le mY_Le_removeAll mY_Le_removeAll ∈ wW := wW_i2 3 rfl rfl
theorem wC_Le_removeAll : Cond.code mY_Le_removeAll mB_Le_removeAll 3 (some .int) ∈ wW := wW_i2 4 rfl rfl
theorem ww_267 : Cond.methodLink cN_La 113 mY_TG_clear ∈ wW := wW_i2 5 rfl rfl
theorem ww_268 : Cond.instanceMethod mY_TG_clear ∈ wW := wW_i2 6 rfl rfl
theorem ww_269 : Cond.selects cN_TG mY_TG_clear mY_TG_clear ∈ wW := wW_i2 7 rfl rfl
theorem wC_TG_clear : Cond.code mY_TG_clear mB_TG_clear 1 (some .int) ∈ wW := wW_i2 8 rfl rfl
theorem ww_271 : Cond.methodLink cN_TG 199 mY_Ci_removeAll ∈ wW := wW_i2 9 rfl rfl
theorem ww_272 : Cond.instanceMethod mY_Ci_removeAll ∈ wW := wW_i2 10 rfl rfl
theorem ww_273 : Cond.selects cN_Ci mY_Ci_removeAll mY_Ci_removeAll ∈ wW := wW_i2 11 rfl rfl
theorem wC_Ci_removeAll : Cond.code mY_Ci_removeAll mB_Ci_removeAll 2 (some .int) ∈ wW := wW_i2 12 rfl rfl
theorem ww_275 : Cond.methodLink cN_La 67 mY_La_bit ∈ wW := wW_i2 13 rfl rfl
theorem ww_276 : Cond.static mY_La_bit ∈ wW := wW_i2 14 rfl rfl
theorem ww_278 : Cond.classLink cN_La 13 "java/lang/IllegalStateException" ∈ wW := wW_i2 16 rfl rfl
theorem ww_279 : Cond.methodLink cN_La 7 mY_TG_bit ∈ wW := wW_i2 17 rfl rfl
theorem ww_280 : Cond.instanceMethod mY_TG_bit ∈ wW := wW_i2 18 rfl rfl
theorem ww_281 : Cond.selects cN_TG mY_TG_bit mY_TG_bit ∈ wW := wW_i2 19 rfl rfl
theorem wC_TG_bit : Cond.code mY_TG_bit mB_TG_bit 3 (some .int) ∈ wW := wW_i2 20 rfl rfl
theorem ww_283 : Cond.methodLink cN_TG 79 mY_TG_freeNumber ∈ wW := wW_i2 21 rfl rfl
theorem ww_285 : Cond.instanceMethod mY_TG_freeNumber ∈ wW := wW_i2 23 rfl rfl
theorem wC_TG_freeNumber : Cond.code mY_TG_freeNumber mB_TG_freeNumber 2 (some .int) ∈ wW := wW_i2 24 rfl rfl
theorem ww_287 : Cond.methodLink cN_TG 232 mY_Le_leastFree ∈ wW := wW_i2 25 rfl rfl
theorem ww_288 : Cond.instanceMethod mY_Le_leastFree ∈ wW := wW_i2 26 rfl rfl
theorem ww_289 : Cond.selects cN_Le mY_Le_leastFree mY_Le_leastFree ∈ wW := wW_i2 27 rfl rfl
theorem wC_Le_leastFree : Cond.code mY_Le_leastFree mB_Le_leastFree 2 (some .int) ∈ wW := wW_i2 28 rfl rfl
theorem ww_291 : Cond.classLink cN_TG 144 "java/lang/IllegalStateException" ∈ wW := wW_i2 29 rfl rfl
theorem ww_292 : Cond.instantiable "java/lang/IllegalStateException" 6 ∈ wW := wW_i2 30 rfl rfl
theorem ww_300 : Cond.selects "java/lang/IllegalStateException" ⟨"java/lang/Throwable", "fillInStackTrace", "(I)Ljava/lang/Throwable;"⟩ ⟨"java/lang/Throwable", "fillInStackTrace", "(I)Ljava/lang/Throwable;"⟩ ∈ wW := wW_i2 38 rfl rfl
theorem ww_301 : Cond.selects "java/lang/IllegalStateException" ⟨"java/lang/Throwable", "fillInStackTrace", "()Ljava/lang/Throwable;"⟩ ⟨"java/lang/Throwable", "fillInStackTrace", "()Ljava/lang/Throwable;"⟩ ∈ wW := wW_i2 39 rfl rfl
theorem ww_302 : Cond.lays "java/lang/IllegalStateException" "java/lang/Throwable" "cause" "Ljava/lang/Throwable;" ∈ wW := wW_i2 40 rfl rfl
theorem ww_303 : Cond.lays "java/lang/Throwable" "java/lang/Throwable" "cause" "Ljava/lang/Throwable;" ∈ wW := wW_i2 41 rfl rfl
theorem ww_304 : Cond.lays "java/lang/IllegalStateException" "java/lang/Throwable" "stackTrace" "[Ljava/lang/StackTraceElement;" ∈ wW := wW_i2 42 rfl rfl
theorem ww_305 : Cond.lays "java/lang/Throwable" "java/lang/Throwable" "stackTrace" "[Ljava/lang/StackTraceElement;" ∈ wW := wW_i2 43 rfl rfl
theorem ww_306 : Cond.lays "java/lang/IllegalStateException" "java/lang/Throwable" "suppressedExceptions" "Ljava/util/List;" ∈ wW := wW_i2 44 rfl rfl
theorem ww_307 : Cond.lays "java/lang/Throwable" "java/lang/Throwable" "suppressedExceptions" "Ljava/util/List;" ∈ wW := wW_i2 45 rfl rfl
theorem ww_308 : Cond.lays "java/lang/IllegalStateException" "java/lang/Throwable" "detailMessage" "Ljava/lang/String;" ∈ wW := wW_i2 46 rfl rfl
theorem ww_309 : Cond.lays "java/lang/Throwable" "java/lang/Throwable" "detailMessage" "Ljava/lang/String;" ∈ wW := wW_i2 47 rfl rfl
theorem ww_310 : Cond.lays "java/lang/IllegalStateException" "java/lang/Throwable" "backtrace" "Ljava/lang/Object;" ∈ wW := wW_i2 48 rfl rfl
theorem ww_311 : Cond.lays "java/lang/Throwable" "java/lang/Throwable" "backtrace" "Ljava/lang/Object;" ∈ wW := wW_i2 49 rfl rfl
theorem ww_312 : Cond.fieldLink "java/lang/Throwable" 198 "java/lang/Throwable" "backtrace" "Ljava/lang/Object;" ∈ wW := wW_i2 50 rfl rfl
theorem ww_313 : Cond.superclass "java/lang/Throwable" "java/lang/Object" ∈ wW := wW_i2 51 rfl rfl
theorem ww_314 : Cond.instanceMethod ⟨"java/lang/Throwable", "<init>", "()V"⟩ ∈ wW := wW_i2 52 rfl rfl
theorem ww_316 : Cond.methodLink "java/lang/Throwable" 1 ⟨"java/lang/Object", "<init>", "()V"⟩ ∈ wW := wW_i2 54 rfl rfl
theorem ww_317 : Cond.fieldLink "java/lang/Throwable" 13 "java/lang/Throwable" "UNASSIGNED_STACK" "[Ljava/lang/StackTraceElement;" ∈ wW := wW_i2 55 rfl rfl
theorem ww_319 : Cond.fieldLink "java/lang/Throwable" 20 "java/lang/Throwable" "SUPPRESSED_SENTINEL" "Ljava/util/List;" ∈ wW := wW_i2 57 rfl rfl
theorem ww_321 : Cond.methodLink "java/lang/Throwable" 27 ⟨"java/lang/Throwable", "fillInStackTrace", "()Ljava/lang/Throwable;"⟩ ∈ wW := wW_i2 59 rfl rfl
theorem ww_322 : Cond.instanceMethod ⟨"java/lang/Throwable", "fillInStackTrace", "()Ljava/lang/Throwable;"⟩ ∈ wW := wW_i2 60 rfl rfl
theorem ww_323 : Cond.sameMethod "java/lang/Throwable" "java/lang/Throwable" "fillInStackTrace" "()Ljava/lang/Throwable;" ∈ wW := wW_i2 61 rfl rfl
theorem ww_324 : Cond.selects "java/lang/IllegalArgumentException" ⟨"java/lang/Throwable", "fillInStackTrace", "()Ljava/lang/Throwable;"⟩ ⟨"java/lang/Throwable", "fillInStackTrace", "()Ljava/lang/Throwable;"⟩ ∈ wW := wW_i2 62 rfl rfl
theorem ww_325 : Cond.selects "java/util/NoSuchElementException" ⟨"java/lang/Throwable", "fillInStackTrace", "()Ljava/lang/Throwable;"⟩ ⟨"java/lang/Throwable", "fillInStackTrace", "()Ljava/lang/Throwable;"⟩ ∈ wW := wW_i2 63 rfl rfl
theorem ww_327 : Cond.methodLink "java/lang/Throwable" 202 ⟨"java/lang/Throwable", "fillInStackTrace", "(I)Ljava/lang/Throwable;"⟩ ∈ wW := wW_i2 65 rfl rfl
theorem ww_329 : Cond.instanceMethod ⟨"java/lang/Throwable", "fillInStackTrace", "(I)Ljava/lang/Throwable;"⟩ ∈ wW := wW_i2 67 rfl rfl
theorem ww_330 : Cond.instantiable "java/lang/Throwable" 6 ∈ wW := wW_i2 68 rfl rfl
theorem ww_333 : Cond.methodLink cN_TG 148 ⟨"java/lang/IllegalStateException", "<init>", "(Ljava/lang/String;)V"⟩ ∈ wW := wW_i2 71 rfl rfl
theorem ww_334 : Cond.instanceMethod ⟨"java/lang/IllegalStateException", "<init>", "(Ljava/lang/String;)V"⟩ ∈ wW := wW_i2 72 rfl rfl
theorem ww_336 : Cond.methodLink "java/lang/IllegalStateException" 7 ⟨"java/lang/RuntimeException", "<init>", "(Ljava/lang/String;)V"⟩ ∈ wW := wW_i2 74 rfl rfl
theorem ww_337 : Cond.instanceMethod ⟨"java/lang/RuntimeException", "<init>", "(Ljava/lang/String;)V"⟩ ∈ wW := wW_i2 75 rfl rfl
theorem ww_339 : Cond.methodLink "java/lang/RuntimeException" 7 ⟨"java/lang/Exception", "<init>", "(Ljava/lang/String;)V"⟩ ∈ wW := wW_i2 77 rfl rfl
theorem ww_340 : Cond.instanceMethod ⟨"java/lang/Exception", "<init>", "(Ljava/lang/String;)V"⟩ ∈ wW := wW_i2 78 rfl rfl
theorem ww_342 : Cond.methodLink "java/lang/Exception" 7 ⟨"java/lang/Throwable", "<init>", "(Ljava/lang/String;)V"⟩ ∈ wW := wW_i2 80 rfl rfl
theorem ww_343 : Cond.instanceMethod ⟨"java/lang/Throwable", "<init>", "(Ljava/lang/String;)V"⟩ ∈ wW := wW_i2 81 rfl rfl
theorem ww_346 : Cond.fieldLink "java/lang/Throwable" 31 "java/lang/Throwable" "detailMessage" "Ljava/lang/String;" ∈ wW := wW_i2 84 rfl rfl
theorem ww_347 : Cond.fieldLink "java/lang/Throwable" 7 "java/lang/Throwable" "cause" "Ljava/lang/Throwable;" ∈ wW := wW_i2 85 rfl rfl
theorem ww_348 : Cond.fieldLink "java/lang/Throwable" 17 "java/lang/Throwable" "stackTrace" "[Ljava/lang/StackTraceElement;" ∈ wW := wW_i2 86 rfl rfl
theorem ww_349 : Cond.fieldLink "java/lang/Throwable" 24 "java/lang/Throwable" "suppressedExceptions" "Ljava/util/List;" ∈ wW := wW_i2 87 rfl rfl
theorem ww_354 : Cond.lays "java/lang/IllegalStateException" "java/lang/Throwable" "depth" "I" ∈ wW := wW_i2 92 rfl rfl
theorem ww_357 : Cond.superclass "java/lang/IllegalStateException" "java/lang/RuntimeException" ∈ wW := wW_i2 95 rfl rfl
theorem ww_358 : Cond.arrayClass Jvm.ClassFile.FieldType.byte ∈ wW := wW_i2 96 rfl rfl
theorem ww_359 : Cond.methodLink cN_TG 82 mY_Le_take ∈ wW := wW_i2 97 rfl rfl
theorem ww_360 : Cond.instanceMethod mY_Le_take ∈ wW := wW_i2 98 rfl rfl
theorem ww_361 : Cond.selects cN_Le mY_Le_take mY_Le_take ∈ wW := wW_i2 99 rfl rfl
theorem wC_Le_take : Cond.code mY_Le_take mB_Le_take 3 (some (.object "TorusGates$Cell")) ∈ wW := wW_i2 100 rfl rfl
theorem ww_363 : Cond.methodLink cN_TG 86 mY_TG_fillNew ∈ wW := wW_i2 101 rfl rfl
theorem ww_365 : Cond.instanceMethod mY_TG_fillNew ∈ wW := wW_i2 103 rfl rfl
theorem wC_TG_fillNew : Cond.code mY_TG_fillNew mB_TG_fillNew 3 none ∈ wW := wW_i2 104 rfl rfl
theorem ww_367 : Cond.methodLink cN_TG 162 mY_TG_placeFor ∈ wW := wW_i2 105 rfl rfl
theorem ww_368 : Cond.static mY_TG_placeFor ∈ wW := wW_i2 106 rfl rfl
theorem wC_TG_placeFor : Cond.code mY_TG_placeFor mB_TG_placeFor 1 (some .int) ∈ wW := wW_i2 107 rfl rfl
theorem ww_370 : Cond.constant cN_TG 262 536870912 ∈ wW := wW_i2 108 rfl rfl
theorem ww_371 : Cond.constant cN_TG 263 (-536870912) ∈ wW := wW_i2 109 rfl rfl
theorem ww_372 : Cond.methodLink cN_TG 117 mY_Se_hide ∈ wW := wW_i2 110 rfl rfl
theorem ww_373 : Cond.methodLink cN_La 77 mY_La_drop ∈ wW := wW_i2 111 rfl rfl
theorem ww_374 : Cond.static mY_La_drop ∈ wW := wW_i2 112 rfl rfl
theorem ww_376 : Cond.classLink cN_La 19 "java/util/NoSuchElementException" ∈ wW := wW_i2 114 rfl rfl
theorem ww_377 : Cond.methodLink cN_La 15 mY_TG_drop ∈ wW := wW_i2 115 rfl rfl
theorem ww_378 : Cond.instanceMethod mY_TG_drop ∈ wW := wW_i2 116 rfl rfl
theorem ww_379 : Cond.selects cN_TG mY_TG_drop mY_TG_drop ∈ wW := wW_i2 117 rfl rfl
theorem wC_TG_drop : Cond.code mY_TG_drop mB_TG_drop 3 (some .int) ∈ wW := wW_i2 118 rfl rfl
theorem ww_381 : Cond.methodLink cN_TG 90 mY_TG_cellOf ∈ wW := wW_i2 119 rfl rfl
theorem ww_383 : Cond.instanceMethod mY_TG_cellOf ∈ wW := wW_i2 121 rfl rfl
theorem wC_TG_cellOf : Cond.code mY_TG_cellOf mB_TG_cellOf 2 (some (.object "TorusGates$Cell")) ∈ wW := wW_i2 122 rfl rfl
theorem ww_385 : Cond.methodLink cN_TG 224 mY_Le_holds ∈ wW := wW_i2 123 rfl rfl
theorem ww_386 : Cond.instanceMethod mY_Le_holds ∈ wW := wW_i2 124 rfl rfl
theorem ww_387 : Cond.selects cN_Le mY_Le_holds mY_Le_holds ∈ wW := wW_i2 125 rfl rfl
theorem wC_Le_holds : Cond.code mY_Le_holds mB_Le_holds 2 (some .boolean) ∈ wW := wW_i2 126 rfl rfl
theorem ww_389 : Cond.classLink cN_TG 170 "java/util/NoSuchElementException" ∈ wW := wW_i2 127 rfl rfl
theorem ww_390 : Cond.instantiable "java/util/NoSuchElementException" 6 ∈ wW := wW_i2 128 rfl rfl
theorem ww_392 : Cond.selects "java/util/NoSuchElementException" ⟨"java/lang/Throwable", "fillInStackTrace", "(I)Ljava/lang/Throwable;"⟩ ⟨"java/lang/Throwable", "fillInStackTrace", "(I)Ljava/lang/Throwable;"⟩ ∈ wW := wW_i2 130 rfl rfl
theorem ww_393 : Cond.lays "java/util/NoSuchElementException" "java/lang/Throwable" "cause" "Ljava/lang/Throwable;" ∈ wW := wW_i2 131 rfl rfl
theorem ww_394 : Cond.lays "java/util/NoSuchElementException" "java/lang/Throwable" "stackTrace" "[Ljava/lang/StackTraceElement;" ∈ wW := wW_i2 132 rfl rfl
theorem ww_395 : Cond.lays "java/util/NoSuchElementException" "java/lang/Throwable" "suppressedExceptions" "Ljava/util/List;" ∈ wW := wW_i2 133 rfl rfl
theorem ww_396 : Cond.lays "java/util/NoSuchElementException" "java/lang/Throwable" "detailMessage" "Ljava/lang/String;" ∈ wW := wW_i2 134 rfl rfl
theorem ww_397 : Cond.lays "java/util/NoSuchElementException" "java/lang/Throwable" "backtrace" "Ljava/lang/Object;" ∈ wW := wW_i2 135 rfl rfl
theorem ww_399 : Cond.methodLink cN_TG 174 ⟨"java/util/NoSuchElementException", "<init>", "(Ljava/lang/String;)V"⟩ ∈ wW := wW_i2 137 rfl rfl
theorem ww_400 : Cond.instanceMethod ⟨"java/util/NoSuchElementException", "<init>", "(Ljava/lang/String;)V"⟩ ∈ wW := wW_i2 138 rfl rfl
theorem ww_402 : Cond.methodLink "java/util/NoSuchElementException" 13 ⟨"java/lang/RuntimeException", "<init>", "(Ljava/lang/String;)V"⟩ ∈ wW := wW_i2 140 rfl rfl
theorem ww_403 : Cond.lays "java/util/NoSuchElementException" "java/lang/Throwable" "depth" "I" ∈ wW := wW_i2 141 rfl rfl
theorem ww_404 : Cond.superclass "java/util/NoSuchElementException" "java/lang/RuntimeException" ∈ wW := wW_i2 142 rfl rfl
theorem ww_405 : Cond.methodLink cN_TG 93 mY_Le_remove ∈ wW := wW_i2 143 rfl rfl
theorem ww_406 : Cond.instanceMethod mY_Le_remove ∈ wW := wW_i2 144 rfl rfl
theorem ww_407 : Cond.selects cN_Le mY_Le_remove mY_Le_remove ∈ wW := wW_i2 145 rfl rfl
theorem wC_Le_remove : Cond.code mY_Le_remove mB_Le_remove 2 none ∈ wW := wW_i2 146 rfl rfl
theorem ww_409 : Cond.methodLink cN_La 81 mY_La_not ∈ wW := wW_i2 147 rfl rfl
theorem ww_410 : Cond.static mY_La_not ∈ wW := wW_i2 148 rfl rfl
theorem ww_412 : Cond.methodLink cN_La 21 mY_TG_not ∈ wW := wW_i2 150 rfl rfl
theorem ww_413 : Cond.instanceMethod mY_TG_not ∈ wW := wW_i2 151 rfl rfl
theorem ww_414 : Cond.selects cN_TG mY_TG_not mY_TG_not ∈ wW := wW_i2 152 rfl rfl
theorem wC_TG_not : Cond.code mY_TG_not mB_TG_not 4 (some .int) ∈ wW := wW_i2 153 rfl rfl
theorem ww_416 : Cond.methodLink cN_TG 101 mY_Ce_becomeOpposite ∈ wW := wW_i2 154 rfl rfl
theorem ww_417 : Cond.instanceMethod mY_Ce_becomeOpposite ∈ wW := wW_i2 155 rfl rfl
theorem ww_418 : Cond.selects cN_Ce mY_Ce_becomeOpposite mY_Ce_becomeOpposite ∈ wW := wW_i2 156 rfl rfl
theorem wC_Ce_becomeOpposite : Cond.code mY_Ce_becomeOpposite mB_Ce_becomeOpposite 2 none ∈ wW := wW_i2 157 rfl rfl
theorem ww_420 : Cond.methodLink cN_Ce 29 mY_Ce_becomeLike ∈ wW := wW_i2 158 rfl rfl
theorem ww_421 : Cond.instanceMethod mY_Ce_becomeLike ∈ wW := wW_i2 159 rfl rfl
theorem ww_422 : Cond.selects cN_Ce mY_Ce_becomeLike mY_Ce_becomeLike ∈ wW := wW_i2 160 rfl rfl
theorem wC_Ce_becomeLike : Cond.code mY_Ce_becomeLike mB_Ce_becomeLike 2 none ∈ wW := wW_i2 161 rfl rfl
theorem ww_424 : Cond.methodLink cN_Ce 15 ⟨"java/lang/System", "arraycopy", "(Ljava/lang/Object;ILjava/lang/Object;II)V"⟩ ∈ wW := wW_i2 162 rfl rfl
theorem ww_425 : Cond.static ⟨"java/lang/System", "arraycopy", "(Ljava/lang/Object;ILjava/lang/Object;II)V"⟩ ∈ wW := wW_i2 163 rfl rfl
theorem ww_427 : Cond.methodLink cN_Ce 33 mY_Ce_multiply ∈ wW := wW_i2 165 rfl rfl
theorem ww_428 : Cond.instanceMethod mY_Ce_multiply ∈ wW := wW_i2 166 rfl rfl
theorem ww_429 : Cond.selects cN_Ce mY_Ce_multiply mY_Ce_multiply ∈ wW := wW_i2 167 rfl rfl
theorem wC_Ce_multiply : Cond.code mY_Ce_multiply mB_Ce_multiply 3 none ∈ wW := wW_i2 168 rfl rfl
theorem ww_431 : Cond.methodLink cN_La 84 mY_La_blur ∈ wW := wW_i2 169 rfl rfl
theorem ww_432 : Cond.static mY_La_blur ∈ wW := wW_i2 170 rfl rfl
theorem ww_434 : Cond.classLink cN_La 28 "java/lang/IllegalArgumentException" ∈ wW := wW_i2 172 rfl rfl
theorem ww_435 : Cond.methodLink cN_La 24 mY_TG_blur ∈ wW := wW_i2 173 rfl rfl
theorem ww_436 : Cond.instanceMethod mY_TG_blur ∈ wW := wW_i2 174 rfl rfl
theorem ww_437 : Cond.selects cN_TG mY_TG_blur mY_TG_blur ∈ wW := wW_i2 175 rfl rfl
theorem wC_TG_blur : Cond.code mY_TG_blur mB_TG_blur 6 (some .int) ∈ wW := wW_i2 176 rfl rfl
theorem ww_439 : Cond.methodLink cN_TG 104 mY_TG_checkRange ∈ wW := wW_i2 177 rfl rfl
theorem ww_441 : Cond.instanceMethod mY_TG_checkRange ∈ wW := wW_i2 179 rfl rfl
theorem wC_TG_checkRange : Cond.code mY_TG_checkRange mB_TG_checkRange 3 none ∈ wW := wW_i2 180 rfl rfl
theorem ww_443 : Cond.classLink cN_TG 209 "java/lang/IllegalArgumentException" ∈ wW := wW_i2 181 rfl rfl
theorem ww_444 : Cond.instantiable "java/lang/IllegalArgumentException" 6 ∈ wW := wW_i2 182 rfl rfl
theorem ww_446 : Cond.selects "java/lang/IllegalArgumentException" ⟨"java/lang/Throwable", "fillInStackTrace", "(I)Ljava/lang/Throwable;"⟩ ⟨"java/lang/Throwable", "fillInStackTrace", "(I)Ljava/lang/Throwable;"⟩ ∈ wW := wW_i2 184 rfl rfl
theorem ww_447 : Cond.lays "java/lang/IllegalArgumentException" "java/lang/Throwable" "cause" "Ljava/lang/Throwable;" ∈ wW := wW_i2 185 rfl rfl
theorem ww_448 : Cond.lays "java/lang/IllegalArgumentException" "java/lang/Throwable" "stackTrace" "[Ljava/lang/StackTraceElement;" ∈ wW := wW_i2 186 rfl rfl
theorem ww_449 : Cond.lays "java/lang/IllegalArgumentException" "java/lang/Throwable" "suppressedExceptions" "Ljava/util/List;" ∈ wW := wW_i2 187 rfl rfl
theorem ww_450 : Cond.lays "java/lang/IllegalArgumentException" "java/lang/Throwable" "detailMessage" "Ljava/lang/String;" ∈ wW := wW_i2 188 rfl rfl
theorem ww_451 : Cond.lays "java/lang/IllegalArgumentException" "java/lang/Throwable" "backtrace" "Ljava/lang/Object;" ∈ wW := wW_i2 189 rfl rfl
theorem ww_453 : Cond.methodLink cN_TG 213 ⟨"java/lang/IllegalArgumentException", "<init>", "(Ljava/lang/String;)V"⟩ ∈ wW := wW_i2 191 rfl rfl
theorem ww_454 : Cond.instanceMethod ⟨"java/lang/IllegalArgumentException", "<init>", "(Ljava/lang/String;)V"⟩ ∈ wW := wW_i2 192 rfl rfl
theorem ww_456 : Cond.methodLink "java/lang/IllegalArgumentException" 7 ⟨"java/lang/RuntimeException", "<init>", "(Ljava/lang/String;)V"⟩ ∈ wW := wW_i2 194 rfl rfl
theorem ww_457 : Cond.lays "java/lang/IllegalArgumentException" "java/lang/Throwable" "depth" "I" ∈ wW := wW_i2 195 rfl rfl
theorem ww_458 : Cond.superclass "java/lang/IllegalArgumentException" "java/lang/RuntimeException" ∈ wW := wW_i2 196 rfl rfl
theorem ww_459 : Cond.constantLong cN_TG 111 16 ∈ wW := wW_i2 197 rfl rfl
theorem ww_460 : Cond.methodLink cN_TG 113 mY_TG_checkedBound ∈ wW := wW_i2 198 rfl rfl
theorem ww_462 : Cond.instanceMethod mY_TG_checkedBound ∈ wW := wW_i2 200 rfl rfl
theorem wC_TG_checkedBound : Cond.code mY_TG_checkedBound mB_TG_checkedBound 3 (some .int) ∈ wW := wW_i2 201 rfl rfl
theorem ww_464 : Cond.constantLong cN_TG 241 1073741824 ∈ wW := wW_i2 202 rfl rfl
theorem ww_466 : Cond.methodLink cN_TG 121 mY_Ce_addRow ∈ wW := wW_i2 204 rfl rfl
theorem ww_467 : Cond.instanceMethod mY_Ce_addRow ∈ wW := wW_i2 205 rfl rfl
theorem ww_468 : Cond.selects cN_Ce mY_Ce_addRow mY_Ce_addRow ∈ wW := wW_i2 206 rfl rfl
theorem wC_Ce_addRow : Cond.code mY_Ce_addRow mB_Ce_addRow 3 none ∈ wW := wW_i2 207 rfl rfl
theorem ww_470 : Cond.methodLink cN_La 88 mY_La_pile ∈ wW := wW_i2 208 rfl rfl
theorem ww_471 : Cond.static mY_La_pile ∈ wW := wW_i2 209 rfl rfl
theorem ww_473 : Cond.methodLink cN_La 30 mY_TG_pile ∈ wW := wW_i2 211 rfl rfl
theorem ww_474 : Cond.instanceMethod mY_TG_pile ∈ wW := wW_i2 212 rfl rfl
theorem ww_475 : Cond.selects cN_TG mY_TG_pile mY_TG_pile ∈ wW := wW_i2 213 rfl rfl
theorem wC_TG_pile : Cond.code mY_TG_pile mB_TG_pile 6 (some .int) ∈ wW := wW_i2 214 rfl rfl
theorem ww_477 : Cond.methodLink cN_TG 125 mY_Ce_multiply ∈ wW := wW_i2 215 rfl rfl
theorem ww_478 : Cond.methodLink cN_La 91 mY_La_gate ∈ wW := wW_i2 216 rfl rfl
theorem ww_479 : Cond.static mY_La_gate ∈ wW := wW_i2 217 rfl rfl
theorem ww_481 : Cond.methodLink cN_La 33 mY_TG_gate ∈ wW := wW_i2 219 rfl rfl
theorem ww_482 : Cond.instanceMethod mY_TG_gate ∈ wW := wW_i2 220 rfl rfl
theorem ww_483 : Cond.selects cN_TG mY_TG_gate mY_TG_gate ∈ wW := wW_i2 221 rfl rfl
theorem wC_TG_gate : Cond.code mY_TG_gate mB_TG_gate 7 (some .int) ∈ wW := wW_i2 222 rfl rfl
theorem ww_485 : Cond.methodLink cN_TG 128 mY_TG_checkKind ∈ wW := wW_i2 223 rfl rfl
theorem ww_487 : Cond.instanceMethod mY_TG_checkKind ∈ wW := wW_i2 225 rfl rfl
theorem wC_TG_checkKind : Cond.code mY_TG_checkKind mB_TG_checkKind 2 none ∈ wW := wW_i2 226 rfl rfl
theorem ww_490 : Cond.methodLink cN_TG 131 mY_TG_isTooFar ∈ wW := wW_i2 228 rfl rfl
theorem ww_491 : Cond.static mY_TG_isTooFar ∈ wW := wW_i2 229 rfl rfl
theorem wC_TG_isTooFar : Cond.code mY_TG_isTooFar mB_TG_isTooFar 5 (some .boolean) ∈ wW := wW_i2 230 rfl rfl
theorem ww_493 : Cond.constantLong cN_TG 256 2 ∈ wW := wW_i2 231 rfl rfl
theorem ww_494 : Cond.constantLong cN_TG 258 771751936 ∈ wW := wW_i2 232 rfl rfl
theorem ww_495 : Cond.constantLong cN_TG 260 234881024 ∈ wW := wW_i2 233 rfl rfl
theorem ww_496 : Cond.methodLink cN_TG 135 mY_TG_refuseIf ∈ wW := wW_i2 234 rfl rfl
theorem ww_498 : Cond.instanceMethod mY_TG_refuseIf ∈ wW := wW_i2 236 rfl rfl
theorem wC_TG_refuseIf : Cond.code mY_TG_refuseIf mB_TG_refuseIf 2 none ∈ wW := wW_i2 237 rfl rfl
theorem ww_501 : Cond.methodLink cN_TG 139 mY_TG_runGate ∈ wW := wW_i2 239 rfl rfl
theorem ww_503 : Cond.instanceMethod mY_TG_runGate ∈ wW := wW_i3 1 rfl rfl
theorem wC_TG_runGate : Cond.code mY_TG_runGate mB_TG_runGate 5 none ∈ wW := wW_i3 2 rfl rfl
theorem ww_505 : Cond.methodLink cN_TG 247 mY_Wo_work ∈ wW := wW_i3 3 rfl rfl
theorem ww_506 : Cond.instanceMethod mY_Wo_work ∈ wW := wW_i3 4 rfl rfl
theorem ww_507 : Cond.selects cN_Wo mY_Wo_work mY_Wo_work ∈ wW := wW_i3 5 rfl rfl
theorem wC_Wo_work : Cond.code mY_Wo_work mB_Wo_work 6 none ∈ wW := wW_i3 6 rfl rfl
theorem ww_509 : Cond.fieldLink cN_Wo 21 cN_Wo "FIRST_WEIGHTS" "[I" ∈ wW := wW_i3 7 rfl rfl
theorem ww_511 : Cond.fieldLink cN_Wo 24 cN_Wo "SECOND_WEIGHTS" "[I" ∈ wW := wW_i3 9 rfl rfl
theorem ww_513 : Cond.fieldLink cN_Wo 27 cN_Wo "EIGHTHS" "[I" ∈ wW := wW_i3 11 rfl rfl
theorem ww_515 : Cond.constant cN_Wo 30 536870912 ∈ wW := wW_i3 13 rfl rfl
theorem ww_516 : Cond.methodLink cN_Wo 31 mY_Re_refresh ∈ wW := wW_i3 14 rfl rfl
theorem ww_517 : Cond.instanceMethod mY_Re_refresh ∈ wW := wW_i3 15 rfl rfl
theorem ww_518 : Cond.selects cN_Re mY_Re_refresh mY_Re_refresh ∈ wW := wW_i3 16 rfl rfl
theorem wC_Re_refresh : Cond.code mY_Re_refresh mB_Re_refresh 4 none ∈ wW := wW_i3 17 rfl rfl
theorem ww_520 : Cond.methodLink cN_Re 56 mY_Re_roundToPlaces ∈ wW := wW_i3 18 rfl rfl
theorem ww_521 : Cond.static mY_Re_roundToPlaces ∈ wW := wW_i3 19 rfl rfl
theorem wC_Re_roundToPlaces : Cond.code mY_Re_roundToPlaces mB_Re_roundToPlaces 1 (some .int) ∈ wW := wW_i3 20 rfl rfl
theorem ww_523 : Cond.constant cN_Re 71 33554432 ∈ wW := wW_i3 21 rfl rfl
theorem ww_524 : Cond.methodLink cN_Re 59 mY_Re_startWheel ∈ wW := wW_i3 22 rfl rfl
theorem ww_526 : Cond.instanceMethod mY_Re_startWheel ∈ wW := wW_i3 24 rfl rfl
theorem wC_Re_startWheel : Cond.code mY_Re_startWheel mB_Re_startWheel 3 none ∈ wW := wW_i3 25 rfl rfl
theorem ww_528 : Cond.constant cN_Re 72 536870912 ∈ wW := wW_i3 26 rfl rfl
theorem ww_529 : Cond.constant cN_Re 73 (-536870912) ∈ wW := wW_i3 27 rfl rfl
theorem ww_530 : Cond.methodLink cN_Re 63 mY_Re_turnIfKeyBit ∈ wW := wW_i3 28 rfl rfl
theorem ww_532 : Cond.instanceMethod mY_Re_turnIfKeyBit ∈ wW := wW_i3 30 rfl rfl
theorem wC_Re_turnIfKeyBit : Cond.code mY_Re_turnIfKeyBit mB_Re_turnIfKeyBit 5 none ∈ wW := wW_i3 31 rfl rfl
theorem ww_534 : Cond.methodLink cN_Re 74 mY_Ri_turned ∈ wW := wW_i3 32 rfl rfl
theorem ww_535 : Cond.static mY_Ri_turned ∈ wW := wW_i3 33 rfl rfl
theorem wC_Ri_turned : Cond.code mY_Ri_turned mB_Ri_turned 5 (some .int) ∈ wW := wW_i3 34 rfl rfl
theorem ww_537 : Cond.methodLink cN_Re 78 mY_Re_addChange ∈ wW := wW_i3 35 rfl rfl
theorem ww_539 : Cond.instanceMethod mY_Re_addChange ∈ wW := wW_i3 37 rfl rfl
theorem wC_Re_addChange : Cond.code mY_Re_addChange mB_Re_addChange 6 none ∈ wW := wW_i3 38 rfl rfl
theorem ww_541 : Cond.methodLink cN_Re 82 mY_Di_digit ∈ wW := wW_i3 39 rfl rfl
theorem ww_542 : Cond.static mY_Di_digit ∈ wW := wW_i3 40 rfl rfl
theorem wC_Di_digit : Cond.code mY_Di_digit mB_Di_digit 2 (some .int) ∈ wW := wW_i3 41 rfl rfl
theorem ww_544 : Cond.constant cN_Di 9 (-2145384448) ∈ wW := wW_i3 42 rfl rfl
theorem ww_545 : Cond.methodLink cN_Re 86 mY_Ri_addTurned ∈ wW := wW_i3 43 rfl rfl
theorem ww_546 : Cond.methodLink cN_Re 67 mY_Re_comeBack ∈ wW := wW_i3 44 rfl rfl
theorem ww_548 : Cond.instanceMethod mY_Re_comeBack ∈ wW := wW_i3 46 rfl rfl
theorem wC_Re_comeBack : Cond.code mY_Re_comeBack mB_Re_comeBack 5 none ∈ wW := wW_i3 47 rfl rfl
theorem ww_550 : Cond.methodLink cN_Re 90 mY_Re_subtract ∈ wW := wW_i3 48 rfl rfl
theorem ww_551 : Cond.static mY_Re_subtract ∈ wW := wW_i3 49 rfl rfl
theorem wC_Re_subtract : Cond.code mY_Re_subtract mB_Re_subtract 4 none ∈ wW := wW_i3 50 rfl rfl
theorem ww_553 : Cond.constant cN_TG 251 3186688 ∈ wW := wW_i3 51 rfl rfl
theorem ww_554 : Cond.methodLink cN_TG 252 mY_TG_truth ∈ wW := wW_i3 52 rfl rfl
theorem ww_555 : Cond.static mY_TG_truth ∈ wW := wW_i3 53 rfl rfl
theorem wC_TG_truth : Cond.code mY_TG_truth mB_TG_truth 3 (some .boolean) ∈ wW := wW_i3 54 rfl rfl
theorem ww_557 : Cond.methodLink cN_La 95 mY_La_choose ∈ wW := wW_i3 55 rfl rfl
theorem ww_558 : Cond.static mY_La_choose ∈ wW := wW_i3 56 rfl rfl
theorem ww_560 : Cond.methodLink cN_La 37 mY_TG_choose ∈ wW := wW_i3 58 rfl rfl
theorem ww_561 : Cond.instanceMethod mY_TG_choose ∈ wW := wW_i3 59 rfl rfl
theorem ww_562 : Cond.selects cN_TG mY_TG_choose mY_TG_choose ∈ wW := wW_i3 60 rfl rfl
theorem wC_TG_choose : Cond.code mY_TG_choose mB_TG_choose 8 (some .int) ∈ wW := wW_i3 61 rfl rfl
theorem ww_564 : Cond.methodLink cN_La 98 mY_La_open ∈ wW := wW_i3 62 rfl rfl
theorem ww_565 : Cond.static mY_La_open ∈ wW := wW_i3 63 rfl rfl
theorem ww_567 : Cond.methodLink cN_La 40 mY_TG_open ∈ wW := wW_i3 65 rfl rfl
theorem ww_568 : Cond.instanceMethod mY_TG_open ∈ wW := wW_i3 66 rfl rfl
theorem ww_569 : Cond.selects cN_TG mY_TG_open mY_TG_open ∈ wW := wW_i3 67 rfl rfl
theorem wC_TG_open : Cond.code mY_TG_open mB_TG_open 3 (some .int) ∈ wW := wW_i3 68 rfl rfl
theorem ww_571 : Cond.constant cN_TG 143 268435456 ∈ wW := wW_i3 69 rfl rfl
theorem ww_573 : Cond.methodLink cN_TG 154 mY_Se_placeOf ∈ wW := wW_i3 71 rfl rfl
theorem ww_574 : Cond.instanceMethod mY_Se_placeOf ∈ wW := wW_i3 72 rfl rfl
theorem ww_575 : Cond.selects cN_Se mY_Se_placeOf mY_Se_placeOf ∈ wW := wW_i3 73 rfl rfl
theorem wC_Se_placeOf : Cond.code mY_Se_placeOf mB_Se_placeOf 4 (some .int) ∈ wW := wW_i3 74 rfl rfl
theorem ww_577 : Cond.methodLink cN_La 101 mY_La_bound ∈ wW := wW_i3 75 rfl rfl
theorem ww_578 : Cond.static mY_La_bound ∈ wW := wW_i3 76 rfl rfl
theorem ww_580 : Cond.methodLink cN_La 43 mY_TG_bound ∈ wW := wW_i3 78 rfl rfl
theorem ww_581 : Cond.instanceMethod mY_TG_bound ∈ wW := wW_i3 79 rfl rfl
theorem ww_582 : Cond.selects cN_TG mY_TG_bound mY_TG_bound ∈ wW := wW_i3 80 rfl rfl
theorem wC_TG_bound : Cond.code mY_TG_bound mB_TG_bound 2 (some .int) ∈ wW := wW_i3 81 rfl rfl
theorem ww_584 : Cond.methodLink cN_La 104 mY_La_within ∈ wW := wW_i3 82 rfl rfl
theorem ww_585 : Cond.static mY_La_within ∈ wW := wW_i3 83 rfl rfl
theorem ww_587 : Cond.methodLink cN_La 46 mY_TG_within ∈ wW := wW_i3 85 rfl rfl
theorem ww_588 : Cond.instanceMethod mY_TG_within ∈ wW := wW_i3 86 rfl rfl
theorem ww_589 : Cond.selects cN_TG mY_TG_within mY_TG_within ∈ wW := wW_i3 87 rfl rfl
theorem wC_TG_within : Cond.code mY_TG_within mB_TG_within 4 (some .boolean) ∈ wW := wW_i3 88 rfl rfl
theorem ww_591 : Cond.methodLink cN_La 107 mY_La_line ∈ wW := wW_i3 89 rfl rfl
theorem ww_592 : Cond.static mY_La_line ∈ wW := wW_i3 90 rfl rfl
theorem ww_594 : Cond.methodLink cN_La 50 mY_TG_line ∈ wW := wW_i3 92 rfl rfl
theorem ww_595 : Cond.instanceMethod mY_TG_line ∈ wW := wW_i3 93 rfl rfl
theorem ww_596 : Cond.selects cN_TG mY_TG_line mY_TG_line ∈ wW := wW_i3 94 rfl rfl
theorem wC_TG_line : Cond.code mY_TG_line mB_TG_line 4 (some .int) ∈ wW := wW_i3 95 rfl rfl
theorem ww_598 : Cond.methodLink cN_TG 166 mY_Ci_isAhead ∈ wW := wW_i3 96 rfl rfl
theorem ww_599 : Cond.instanceMethod mY_Ci_isAhead ∈ wW := wW_i3 97 rfl rfl
theorem ww_600 : Cond.selects cN_Ci mY_Ci_isAhead mY_Ci_isAhead ∈ wW := wW_i3 98 rfl rfl
theorem wC_Ci_isAhead : Cond.code mY_Ci_isAhead mB_Ci_isAhead 2 (some .boolean) ∈ wW := wW_i3 99 rfl rfl
theorem ww_604 : Cond.methodLink cN_TG 178 mY_Ci_add ∈ wW := wW_i3 102 rfl rfl
theorem ww_605 : Cond.instanceMethod mY_Ci_add ∈ wW := wW_i3 103 rfl rfl
theorem ww_606 : Cond.selects cN_Ci mY_Ci_add mY_Ci_add ∈ wW := wW_i3 104 rfl rfl
theorem wC_Ci_add : Cond.code mY_Ci_add mB_Ci_add 4 (some .int) ∈ wW := wW_i3 105 rfl rfl
theorem ww_608 : Cond.methodLink cN_La 110 mY_La_play ∈ wW := wW_i3 106 rfl rfl
theorem ww_609 : Cond.static mY_La_play ∈ wW := wW_i3 107 rfl rfl
theorem ww_611 : Cond.methodLink cN_La 53 mY_TG_play ∈ wW := wW_i3 109 rfl rfl
theorem ww_612 : Cond.instanceMethod mY_TG_play ∈ wW := wW_i3 110 rfl rfl
theorem ww_613 : Cond.selects cN_TG mY_TG_play mY_TG_play ∈ wW := wW_i3 111 rfl rfl
theorem wC_TG_play : Cond.code mY_TG_play mB_TG_play 5 (some .int) ∈ wW := wW_i3 112 rfl rfl
theorem ww_615 : Cond.methodLink cN_TG 182 mY_Ci_hasLine ∈ wW := wW_i3 113 rfl rfl
theorem ww_616 : Cond.instanceMethod mY_Ci_hasLine ∈ wW := wW_i3 114 rfl rfl
theorem ww_617 : Cond.selects cN_Ci mY_Ci_hasLine mY_Ci_hasLine ∈ wW := wW_i3 115 rfl rfl
theorem wC_Ci_hasLine : Cond.code mY_Ci_hasLine mB_Ci_hasLine 2 (some .boolean) ∈ wW := wW_i3 116 rfl rfl
theorem ww_619 : Cond.methodLink cN_Ci 25 mY_Ci_isAhead ∈ wW := wW_i3 117 rfl rfl
theorem ww_621 : Cond.methodLink cN_TG 196 mY_Ce_becomeLike ∈ wW := wW_i3 119 rfl rfl
theorem ww_622 : Cond.methodLink cN_La 117 mY_La_count ∈ wW := wW_i3 120 rfl rfl
theorem ww_623 : Cond.static mY_La_count ∈ wW := wW_i3 121 rfl rfl
theorem ww_625 : Cond.methodLink cN_La 56 mY_TG_count ∈ wW := wW_i3 123 rfl rfl
theorem ww_626 : Cond.instanceMethod mY_TG_count ∈ wW := wW_i3 124 rfl rfl
theorem ww_627 : Cond.selects cN_TG mY_TG_count mY_TG_count ∈ wW := wW_i3 125 rfl rfl
theorem wC_TG_count : Cond.code mY_TG_count mB_TG_count 2 (some .int) ∈ wW := wW_i3 126 rfl rfl
theorem ww_629 : Cond.methodLink cN_TG 206 mY_Le_greatestBound ∈ wW := wW_i3 127 rfl rfl
theorem ww_630 : Cond.instanceMethod mY_Le_greatestBound ∈ wW := wW_i3 128 rfl rfl
theorem ww_631 : Cond.selects cN_Le mY_Le_greatestBound mY_Le_greatestBound ∈ wW := wW_i3 129 rfl rfl
theorem wC_Le_greatestBound : Cond.code mY_Le_greatestBound mB_Le_greatestBound 3 (some .int) ∈ wW := wW_i3 130 rfl rfl
theorem ww_634 : Cond.classLink cN_La 60 cN_Mo ∈ wW := wW_i3 132 rfl rfl
theorem ww_635 : Cond.instantiable cN_Mo 11 ∈ wW := wW_i3 133 rfl rfl
theorem ww_636 : Cond.methodLink cN_La 62 mY_Mo_init ∈ wW := wW_i3 134 rfl rfl
theorem ww_637 : Cond.instanceMethod mY_Mo_init ∈ wW := wW_i3 135 rfl rfl
theorem wC_Mo_init : Cond.code mY_Mo_init mB_Mo_init 1 none ∈ wW := wW_i3 136 rfl rfl
theorem ww_639 : Cond.methodLink cN_Mo 1 ⟨"java/lang/Object", "<init>", "()V"⟩ ∈ wW := wW_i3 137 rfl rfl
theorem ww_640 : Cond.fieldLink cN_Mo 32 cN_Mo "thrown" "I" ∈ wW := wW_i3 138 rfl rfl
theorem ww_641 : Cond.fieldLink cN_Mo 7 cN_Mo "there" "[Z" ∈ wW := wW_i3 139 rfl rfl
theorem ww_642 : Cond.fieldLink cN_Mo 13 cN_Mo "bits" "[Z" ∈ wW := wW_i3 140 rfl rfl
theorem ww_643 : Cond.fieldLink cN_Mo 16 cN_Mo "bounds" "[I" ∈ wW := wW_i3 141 rfl rfl
theorem ww_644 : Cond.fieldLink cN_Mo 78 cN_Mo "gates" "I" ∈ wW := wW_i3 142 rfl rfl
theorem ww_645 : Cond.fieldLink cN_Mo 75 cN_Mo "refused" "I" ∈ wW := wW_i3 143 rfl rfl
theorem ww_646 : Cond.fieldLink cN_Mo 87 cN_Mo "lines" "I" ∈ wW := wW_i3 144 rfl rfl
theorem ww_647 : Cond.fieldLink cN_Mo 20 cN_Mo "kinds" "[I" ∈ wW := wW_i3 145 rfl rfl
theorem ww_648 : Cond.fieldLink cN_Mo 23 cN_Mo "firsts" "[I" ∈ wW := wW_i3 146 rfl rfl
theorem ww_649 : Cond.fieldLink cN_Mo 26 cN_Mo "seconds" "[I" ∈ wW := wW_i3 147 rfl rfl
theorem ww_650 : Cond.fieldLink cN_Mo 29 cN_Mo "played" "[Z" ∈ wW := wW_i3 148 rfl rfl
theorem ww_651 : Cond.lays cN_Mo cN_Mo "thrown" "I" ∈ wW := wW_i3 149 rfl rfl
theorem ww_653 : Cond.laysFinal cN_Mo cN_Mo "there" "[Z" ∈ wW := wW_i3 151 rfl rfl
theorem ww_655 : Cond.laysFinal cN_Mo cN_Mo "bits" "[Z" ∈ wW := wW_i3 153 rfl rfl
theorem ww_657 : Cond.laysFinal cN_Mo cN_Mo "bounds" "[I" ∈ wW := wW_i3 155 rfl rfl
theorem ww_659 : Cond.lays cN_Mo cN_Mo "gates" "I" ∈ wW := wW_i3 157 rfl rfl
theorem ww_661 : Cond.lays cN_Mo cN_Mo "refused" "I" ∈ wW := wW_i3 159 rfl rfl
theorem ww_663 : Cond.lays cN_Mo cN_Mo "lines" "I" ∈ wW := wW_i3 161 rfl rfl
theorem ww_665 : Cond.laysFinal cN_Mo cN_Mo "kinds" "[I" ∈ wW := wW_i3 163 rfl rfl
theorem ww_667 : Cond.laysFinal cN_Mo cN_Mo "firsts" "[I" ∈ wW := wW_i3 165 rfl rfl
theorem ww_669 : Cond.laysFinal cN_Mo cN_Mo "seconds" "[I" ∈ wW := wW_i3 167 rfl rfl
theorem ww_671 : Cond.laysFinal cN_Mo cN_Mo "played" "[Z" ∈ wW := wW_i3 169 rfl rfl
theorem ww_673 : Cond.superclass cN_Mo "java/lang/Object" ∈ wW := wW_i3 171 rfl rfl
theorem ww_674 : Cond.arrayClass Jvm.ClassFile.FieldType.boolean ∈ wW := wW_i3 172 rfl rfl
theorem ww_675 : Cond.methodLink cN_La 73 mY_Mo_thrown ∈ wW := wW_i3 173 rfl rfl
theorem ww_676 : Cond.instanceMethod mY_Mo_thrown ∈ wW := wW_i3 174 rfl rfl
theorem ww_677 : Cond.selects cN_Mo mY_Mo_thrown mY_Mo_thrown ∈ wW := wW_i3 175 rfl rfl
theorem wC_Mo_thrown : Cond.code mY_Mo_thrown mB_Mo_thrown 1 (some .int) ∈ wW := wW_i3 176 rfl rfl
theorem ww_679 : Cond.methodLink cN_La 66 mY_Mo_key ∈ wW := wW_i3 177 rfl rfl
theorem ww_680 : Cond.instanceMethod mY_Mo_key ∈ wW := wW_i3 178 rfl rfl
theorem ww_681 : Cond.selects cN_Mo mY_Mo_key mY_Mo_key ∈ wW := wW_i3 179 rfl rfl
theorem wC_Mo_key : Cond.code mY_Mo_key mB_Mo_key 4 (some .int) ∈ wW := wW_i3 180 rfl rfl
theorem ww_683 : Cond.methodLink cN_Mo 36 mY_Mo_many ∈ wW := wW_i3 181 rfl rfl
theorem ww_685 : Cond.instanceMethod mY_Mo_many ∈ wW := wW_i3 183 rfl rfl
theorem wC_Mo_many : Cond.code mY_Mo_many mB_Mo_many 3 (some .int) ∈ wW := wW_i3 184 rfl rfl
theorem ww_687 : Cond.methodLink cN_La 72 mY_Mo_bit ∈ wW := wW_i3 185 rfl rfl
theorem ww_688 : Cond.instanceMethod mY_Mo_bit ∈ wW := wW_i3 186 rfl rfl
theorem ww_689 : Cond.selects cN_Mo mY_Mo_bit mY_Mo_bit ∈ wW := wW_i3 187 rfl rfl
theorem wC_Mo_bit : Cond.code mY_Mo_bit mB_Mo_bit 2 (some .int) ∈ wW := wW_i3 188 rfl rfl
theorem ww_691 : Cond.methodLink cN_Mo 40 mY_Mo_goes ∈ wW := wW_i3 189 rfl rfl
theorem ww_693 : Cond.instanceMethod mY_Mo_goes ∈ wW := wW_i3 191 rfl rfl
theorem wC_Mo_goes : Cond.code mY_Mo_goes mB_Mo_goes 4 (some .boolean) ∈ wW := wW_i3 192 rfl rfl
theorem ww_695 : Cond.methodLink cN_Mo 44 mY_Mo_made ∈ wW := wW_i3 193 rfl rfl
theorem ww_697 : Cond.instanceMethod mY_Mo_made ∈ wW := wW_i3 195 rfl rfl
theorem wC_Mo_made : Cond.code mY_Mo_made mB_Mo_made 4 (some .int) ∈ wW := wW_i3 196 rfl rfl
theorem ww_699 : Cond.methodLink cN_La 80 mY_Mo_drop ∈ wW := wW_i3 197 rfl rfl
theorem ww_700 : Cond.instanceMethod mY_Mo_drop ∈ wW := wW_i3 198 rfl rfl
theorem ww_701 : Cond.selects cN_Mo mY_Mo_drop mY_Mo_drop ∈ wW := wW_i3 199 rfl rfl
theorem wC_Mo_drop : Cond.code mY_Mo_drop mB_Mo_drop 2 (some .int) ∈ wW := wW_i3 200 rfl rfl
theorem ww_703 : Cond.methodLink cN_Mo 48 mY_Mo_isBit ∈ wW := wW_i3 201 rfl rfl
theorem ww_705 : Cond.instanceMethod mY_Mo_isBit ∈ wW := wW_i3 203 rfl rfl
theorem wC_Mo_isBit : Cond.code mY_Mo_isBit mB_Mo_isBit 2 (some .boolean) ∈ wW := wW_i3 204 rfl rfl
theorem ww_707 : Cond.methodLink cN_La 83 mY_Mo_not ∈ wW := wW_i3 205 rfl rfl
theorem ww_708 : Cond.instanceMethod mY_Mo_not ∈ wW := wW_i3 206 rfl rfl
theorem ww_709 : Cond.selects cN_Mo mY_Mo_not mY_Mo_not ∈ wW := wW_i3 207 rfl rfl
theorem wC_Mo_not : Cond.code mY_Mo_not mB_Mo_not 2 (some .int) ∈ wW := wW_i3 208 rfl rfl
theorem ww_711 : Cond.methodLink cN_La 87 mY_Mo_blur ∈ wW := wW_i3 209 rfl rfl
theorem ww_712 : Cond.instanceMethod mY_Mo_blur ∈ wW := wW_i3 210 rfl rfl
theorem ww_713 : Cond.selects cN_Mo mY_Mo_blur mY_Mo_blur ∈ wW := wW_i3 211 rfl rfl
theorem wC_Mo_blur : Cond.code mY_Mo_blur mB_Mo_blur 6 (some .int) ∈ wW := wW_i3 212 rfl rfl
theorem ww_715 : Cond.constantLong cN_Mo 52 16 ∈ wW := wW_i3 213 rfl rfl
theorem ww_716 : Cond.constantLong cN_Mo 54 1073741824 ∈ wW := wW_i3 214 rfl rfl
theorem ww_717 : Cond.methodLink cN_Mo 56 mY_Mo_bounded ∈ wW := wW_i3 215 rfl rfl
theorem ww_719 : Cond.instanceMethod mY_Mo_bounded ∈ wW := wW_i3 217 rfl rfl
theorem wC_Mo_bounded : Cond.code mY_Mo_bounded mB_Mo_bounded 4 (some .int) ∈ wW := wW_i3 218 rfl rfl
theorem ww_721 : Cond.methodLink cN_La 90 mY_Mo_pile ∈ wW := wW_i3 219 rfl rfl
theorem ww_722 : Cond.instanceMethod mY_Mo_pile ∈ wW := wW_i3 220 rfl rfl
theorem ww_723 : Cond.selects cN_Mo mY_Mo_pile mY_Mo_pile ∈ wW := wW_i3 221 rfl rfl
theorem wC_Mo_pile : Cond.code mY_Mo_pile mB_Mo_pile 6 (some .int) ∈ wW := wW_i3 222 rfl rfl
theorem ww_725 : Cond.constantLong cN_Mo 60 8 ∈ wW := wW_i3 223 rfl rfl
theorem ww_726 : Cond.methodLink cN_La 94 mY_Mo_gate ∈ wW := wW_i3 224 rfl rfl
theorem ww_727 : Cond.instanceMethod mY_Mo_gate ∈ wW := wW_i3 225 rfl rfl
theorem ww_728 : Cond.selects cN_Mo mY_Mo_gate mY_Mo_gate ∈ wW := wW_i3 226 rfl rfl
theorem wC_Mo_gate : Cond.code mY_Mo_gate mB_Mo_gate 6 (some .int) ∈ wW := wW_i3 227 rfl rfl
theorem ww_730 : Cond.methodLink cN_Mo 68 mY_Mo_isGate ∈ wW := wW_i3 228 rfl rfl
theorem ww_731 : Cond.static mY_Mo_isGate ∈ wW := wW_i3 229 rfl rfl
theorem wC_Mo_isGate : Cond.code mY_Mo_isGate mB_Mo_isGate 1 (some .boolean) ∈ wW := wW_i3 230 rfl rfl
theorem ww_733 : Cond.methodLink cN_Mo 71 mY_Mo_great ∈ wW := wW_i3 231 rfl rfl
theorem ww_735 : Cond.instanceMethod mY_Mo_great ∈ wW := wW_i3 233 rfl rfl
theorem wC_Mo_great : Cond.code mY_Mo_great mB_Mo_great 6 (some .boolean) ∈ wW := wW_i3 234 rfl rfl
theorem ww_737 : Cond.constantLong cN_Mo 62 2 ∈ wW := wW_i3 235 rfl rfl
theorem ww_738 : Cond.constantLong cN_Mo 64 771751936 ∈ wW := wW_i3 236 rfl rfl
theorem ww_739 : Cond.constantLong cN_Mo 66 234881024 ∈ wW := wW_i3 237 rfl rfl
theorem ww_740 : Cond.methodLink cN_Mo 81 mY_Mo_value ∈ wW := wW_i3 238 rfl rfl
theorem ww_741 : Cond.static mY_Mo_value ∈ wW := wW_i3 239 rfl rfl
theorem wC_Mo_value : Cond.code mY_Mo_value mB_Mo_value 3 (some .boolean) ∈ wW := wW_i4 0 rfl rfl
theorem ww_743 : Cond.constant cN_Mo 85 3186688 ∈ wW := wW_i4 1 rfl rfl
theorem ww_744 : Cond.methodLink cN_La 97 mY_Mo_choose ∈ wW := wW_i4 2 rfl rfl
theorem ww_745 : Cond.instanceMethod mY_Mo_choose ∈ wW := wW_i4 3 rfl rfl
theorem ww_746 : Cond.selects cN_Mo mY_Mo_choose mY_Mo_choose ∈ wW := wW_i4 4 rfl rfl
theorem wC_Mo_choose : Cond.code mY_Mo_choose mB_Mo_choose 6 (some .int) ∈ wW := wW_i4 5 rfl rfl
theorem ww_748 : Cond.methodLink cN_La 100 mY_Mo_open ∈ wW := wW_i4 6 rfl rfl
theorem ww_749 : Cond.instanceMethod mY_Mo_open ∈ wW := wW_i4 7 rfl rfl
theorem ww_750 : Cond.selects cN_Mo mY_Mo_open mY_Mo_open ∈ wW := wW_i4 8 rfl rfl
theorem wC_Mo_open : Cond.code mY_Mo_open mB_Mo_open 2 (some .int) ∈ wW := wW_i4 9 rfl rfl
theorem ww_752 : Cond.constant cN_Mo 86 268435456 ∈ wW := wW_i4 10 rfl rfl
theorem ww_753 : Cond.methodLink cN_La 103 mY_Mo_bound ∈ wW := wW_i4 11 rfl rfl
theorem ww_754 : Cond.instanceMethod mY_Mo_bound ∈ wW := wW_i4 12 rfl rfl
theorem ww_755 : Cond.selects cN_Mo mY_Mo_bound mY_Mo_bound ∈ wW := wW_i4 13 rfl rfl
theorem wC_Mo_bound : Cond.code mY_Mo_bound mB_Mo_bound 2 (some .int) ∈ wW := wW_i4 14 rfl rfl
theorem ww_757 : Cond.methodLink cN_La 106 mY_Mo_within ∈ wW := wW_i4 15 rfl rfl
theorem ww_758 : Cond.instanceMethod mY_Mo_within ∈ wW := wW_i4 16 rfl rfl
theorem ww_759 : Cond.selects cN_Mo mY_Mo_within mY_Mo_within ∈ wW := wW_i4 17 rfl rfl
theorem wC_Mo_within : Cond.code mY_Mo_within mB_Mo_within 2 (some .boolean) ∈ wW := wW_i4 18 rfl rfl
theorem ww_761 : Cond.methodLink cN_La 109 mY_Mo_line ∈ wW := wW_i4 19 rfl rfl
theorem ww_762 : Cond.instanceMethod mY_Mo_line ∈ wW := wW_i4 20 rfl rfl
theorem ww_763 : Cond.selects cN_Mo mY_Mo_line mY_Mo_line ∈ wW := wW_i4 21 rfl rfl
theorem wC_Mo_line : Cond.code mY_Mo_line mB_Mo_line 4 (some .int) ∈ wW := wW_i4 22 rfl rfl
theorem ww_765 : Cond.methodLink cN_Mo 90 mY_Mo_isAhead ∈ wW := wW_i4 23 rfl rfl
theorem ww_767 : Cond.instanceMethod mY_Mo_isAhead ∈ wW := wW_i4 25 rfl rfl
theorem wC_Mo_isAhead : Cond.code mY_Mo_isAhead mB_Mo_isAhead 2 (some .boolean) ∈ wW := wW_i4 26 rfl rfl
theorem ww_769 : Cond.methodLink cN_La 112 mY_Mo_play ∈ wW := wW_i4 27 rfl rfl
theorem ww_770 : Cond.instanceMethod mY_Mo_play ∈ wW := wW_i4 28 rfl rfl
theorem ww_771 : Cond.selects cN_Mo mY_Mo_play mY_Mo_play ∈ wW := wW_i4 29 rfl rfl
theorem wC_Mo_play : Cond.code mY_Mo_play mB_Mo_play 4 (some .int) ∈ wW := wW_i4 30 rfl rfl
theorem ww_773 : Cond.methodLink cN_La 116 mY_Mo_clear ∈ wW := wW_i4 31 rfl rfl
theorem ww_774 : Cond.instanceMethod mY_Mo_clear ∈ wW := wW_i4 32 rfl rfl
theorem ww_775 : Cond.selects cN_Mo mY_Mo_clear mY_Mo_clear ∈ wW := wW_i4 33 rfl rfl
theorem wC_Mo_clear : Cond.code mY_Mo_clear mB_Mo_clear 2 (some .int) ∈ wW := wW_i4 34 rfl rfl
theorem ww_777 : Cond.methodLink cN_La 119 mY_Mo_count ∈ wW := wW_i4 35 rfl rfl
theorem ww_778 : Cond.instanceMethod mY_Mo_count ∈ wW := wW_i4 36 rfl rfl
theorem ww_779 : Cond.selects cN_Mo mY_Mo_count mY_Mo_count ∈ wW := wW_i4 37 rfl rfl
theorem wC_Mo_count : Cond.code mY_Mo_count mB_Mo_count 4 (some .int) ∈ wW := wW_i4 38 rfl rfl
theorem ww_781 : Cond.arrayClass Jvm.ClassFile.FieldType.long ∈ wW := wW_i4 39 rfl rfl
theorem ww_782 : Cond.sameMethod "java/lang/Throwable" "java/lang/Throwable" "fillInStackTrace" "(I)Ljava/lang/Throwable;" ∈ wW := wW_i4 40 rfl rfl
theorem wU_Ce : ∀ w ∈ u_ws cN_Ce cF_Ce 4, w ∈ wW := List.forall_mem_cons.mpr ⟨ww_130, List.forall_mem_cons.mpr ⟨ww_132, List.forall_mem_cons.mpr ⟨ww_134, List.forall_mem_cons.mpr ⟨ww_136, fun _ h => absurd h List.not_mem_nil⟩⟩⟩⟩
theorem wU_Ci : ∀ w ∈ u_ws cN_Ci cF_Ci 4, w ∈ wW := List.forall_mem_cons.mpr ⟨ww_162, List.forall_mem_cons.mpr ⟨ww_164, List.forall_mem_cons.mpr ⟨ww_166, List.forall_mem_cons.mpr ⟨ww_168, fun _ h => absurd h List.not_mem_nil⟩⟩⟩⟩
theorem wU_Le : ∀ w ∈ u_ws cN_Le cF_Le 2, w ∈ wW := List.forall_mem_cons.mpr ⟨ww_143, List.forall_mem_cons.mpr ⟨ww_145, fun _ h => absurd h List.not_mem_nil⟩⟩
theorem wU_Re : ∀ w ∈ u_ws cN_Re cF_Re 4, w ∈ wW := List.forall_mem_cons.mpr ⟨ww_87, List.forall_mem_cons.mpr ⟨ww_89, List.forall_mem_cons.mpr ⟨ww_91, List.forall_mem_cons.mpr ⟨ww_93, fun _ h => absurd h List.not_mem_nil⟩⟩⟩⟩
theorem wU_Se : ∀ w ∈ u_ws cN_Se cF_Se 2, w ∈ wW := List.forall_mem_cons.mpr ⟨ww_69, List.forall_mem_cons.mpr ⟨ww_71, fun _ h => absurd h List.not_mem_nil⟩⟩
theorem wU_So : ∀ w ∈ u_ws cN_So cF_So 1, w ∈ wW := List.forall_mem_cons.mpr ⟨ww_56, fun _ h => absurd h List.not_mem_nil⟩
theorem wU_Wo : ∀ w ∈ u_ws cN_Wo cF_Wo 2, w ∈ wW := List.forall_mem_cons.mpr ⟨ww_104, List.forall_mem_cons.mpr ⟨ww_106, fun _ h => absurd h List.not_mem_nil⟩⟩
theorem wU_TG : ∀ w ∈ u_ws cN_TG cF_TG 12, w ∈ wW := List.forall_mem_cons.mpr ⟨ww_234, List.forall_mem_cons.mpr ⟨ww_236, List.forall_mem_cons.mpr ⟨ww_238, List.forall_mem_cons.mpr ⟨ww_240, List.forall_mem_cons.mpr ⟨ww_242, List.forall_mem_cons.mpr ⟨ww_244, List.forall_mem_cons.mpr ⟨ww_246, List.forall_mem_cons.mpr ⟨ww_248, List.forall_mem_cons.mpr ⟨ww_250, List.forall_mem_cons.mpr ⟨ww_252, List.forall_mem_cons.mpr ⟨ww_254, List.forall_mem_cons.mpr ⟨ww_256, fun _ h => absurd h List.not_mem_nil⟩⟩⟩⟩⟩⟩⟩⟩⟩⟩⟩⟩
theorem wU_Mo : ∀ w ∈ u_ws cN_Mo cF_Mo 11, w ∈ wW := List.forall_mem_cons.mpr ⟨ww_651, List.forall_mem_cons.mpr ⟨ww_653, List.forall_mem_cons.mpr ⟨ww_655, List.forall_mem_cons.mpr ⟨ww_657, List.forall_mem_cons.mpr ⟨ww_659, List.forall_mem_cons.mpr ⟨ww_661, List.forall_mem_cons.mpr ⟨ww_663, List.forall_mem_cons.mpr ⟨ww_665, List.forall_mem_cons.mpr ⟨ww_667, List.forall_mem_cons.mpr ⟨ww_669, List.forall_mem_cons.mpr ⟨ww_671, fun _ h => absurd h List.not_mem_nil⟩⟩⟩⟩⟩⟩⟩⟩⟩⟩⟩
end
section
theorem mD_TG_init_0 : decode mB_TG_init 0 = .ok (.aload_n 0, 1) := by decide +kernel
theorem mD_TG_init_1 : decode mB_TG_init 1 = .ok (.invokespecial 1, 3) := by decide +kernel
theorem mD_TG_init_4 : decode mB_TG_init 4 = .ok (.aload_n 0, 1) := by decide +kernel
theorem mD_TG_init_5 : decode mB_TG_init 5 = .ok (.new 7, 3) := by decide +kernel
theorem mD_TG_init_8 : decode mB_TG_init 8 = .ok (.dup, 1) := by decide +kernel
theorem mD_TG_init_9 : decode mB_TG_init 9 = .ok (.invokespecial 9, 3) := by decide +kernel
theorem mD_TG_init_12 : decode mB_TG_init 12 = .ok (.putfield 10, 3) := by decide +kernel
theorem mD_TG_init_15 : decode mB_TG_init 15 = .ok (.aload_n 0, 1) := by decide +kernel
theorem mD_TG_init_16 : decode mB_TG_init 16 = .ok (.new 16, 3) := by decide +kernel
theorem mD_TG_init_19 : decode mB_TG_init 19 = .ok (.dup, 1) := by decide +kernel
theorem mD_TG_init_20 : decode mB_TG_init 20 = .ok (.invokespecial 18, 3) := by decide +kernel
theorem mD_TG_init_23 : decode mB_TG_init 23 = .ok (.putfield 19, 3) := by decide +kernel
theorem mD_TG_init_26 : decode mB_TG_init 26 = .ok (.aload_n 0, 1) := by decide +kernel
theorem mD_TG_init_27 : decode mB_TG_init 27 = .ok (.new 23, 3) := by decide +kernel
theorem mD_TG_init_30 : decode mB_TG_init 30 = .ok (.dup, 1) := by decide +kernel
theorem mD_TG_init_31 : decode mB_TG_init 31 = .ok (.invokespecial 25, 3) := by decide +kernel
theorem mD_TG_init_34 : decode mB_TG_init 34 = .ok (.putfield 26, 3) := by decide +kernel
theorem mD_TG_init_37 : decode mB_TG_init 37 = .ok (.aload_n 0, 1) := by decide +kernel
theorem mD_TG_init_38 : decode mB_TG_init 38 = .ok (.new 30, 3) := by decide +kernel
theorem mD_TG_init_41 : decode mB_TG_init 41 = .ok (.dup, 1) := by decide +kernel
theorem mD_TG_init_42 : decode mB_TG_init 42 = .ok (.aload_n 0, 1) := by decide +kernel
theorem mD_TG_init_43 : decode mB_TG_init 43 = .ok (.getfield 26, 3) := by decide +kernel
theorem mD_TG_init_46 : decode mB_TG_init 46 = .ok (.invokespecial 32, 3) := by decide +kernel
theorem mD_TG_init_49 : decode mB_TG_init 49 = .ok (.putfield 35, 3) := by decide +kernel
theorem mD_TG_init_52 : decode mB_TG_init 52 = .ok (.aload_n 0, 1) := by decide +kernel
theorem mD_TG_init_53 : decode mB_TG_init 53 = .ok (.new 39, 3) := by decide +kernel
theorem mD_TG_init_56 : decode mB_TG_init 56 = .ok (.dup, 1) := by decide +kernel
theorem mD_TG_init_57 : decode mB_TG_init 57 = .ok (.invokespecial 41, 3) := by decide +kernel
theorem mD_TG_init_60 : decode mB_TG_init 60 = .ok (.putfield 42, 3) := by decide +kernel
theorem mD_TG_init_63 : decode mB_TG_init 63 = .ok (.aload_n 0, 1) := by decide +kernel
theorem mD_TG_init_64 : decode mB_TG_init 64 = .ok (.new 46, 3) := by decide +kernel
theorem mD_TG_init_67 : decode mB_TG_init 67 = .ok (.dup, 1) := by decide +kernel
theorem mD_TG_init_68 : decode mB_TG_init 68 = .ok (.invokespecial 48, 3) := by decide +kernel
theorem mD_TG_init_71 : decode mB_TG_init 71 = .ok (.putfield 49, 3) := by decide +kernel
theorem mD_TG_init_74 : decode mB_TG_init 74 = .ok (.aload_n 0, 1) := by decide +kernel
theorem mD_TG_init_75 : decode mB_TG_init 75 = .ok (.bipush 32, 2) := by decide +kernel
theorem mD_TG_init_77 : decode mB_TG_init 77 = .ok (.anewarray 53, 3) := by decide +kernel
theorem mD_TG_init_80 : decode mB_TG_init 80 = .ok (.putfield 55, 3) := by decide +kernel
theorem mD_TG_init_83 : decode mB_TG_init 83 = .ok (.iconst 0, 1) := by decide +kernel
theorem mD_TG_init_84 : decode mB_TG_init 84 = .ok (.istore_n 1, 1) := by decide +kernel
theorem mD_TG_init_85 : decode mB_TG_init 85 = .ok (.iload_n 1, 1) := by decide +kernel
theorem mD_TG_init_86 : decode mB_TG_init 86 = .ok (.bipush 32, 2) := by decide +kernel
theorem mD_TG_init_88 : decode mB_TG_init 88 = .ok (.if_icmp .ge 22, 3) := by decide +kernel
theorem mD_TG_init_91 : decode mB_TG_init 91 = .ok (.aload_n 0, 1) := by decide +kernel
theorem mD_TG_init_92 : decode mB_TG_init 92 = .ok (.getfield 55, 3) := by decide +kernel
theorem mD_TG_init_95 : decode mB_TG_init 95 = .ok (.iload_n 1, 1) := by decide +kernel
theorem mD_TG_init_96 : decode mB_TG_init 96 = .ok (.new 53, 3) := by decide +kernel
theorem mD_TG_init_99 : decode mB_TG_init 99 = .ok (.dup, 1) := by decide +kernel
theorem mD_TG_init_100 : decode mB_TG_init 100 = .ok (.invokespecial 59, 3) := by decide +kernel
theorem mD_TG_init_103 : decode mB_TG_init 103 = .ok (.aastore, 1) := by decide +kernel
theorem mD_TG_init_104 : decode mB_TG_init 104 = .ok (.iinc 1 1, 3) := by decide +kernel
theorem mD_TG_init_107 : decode mB_TG_init 107 = .ok (.goto (-22), 3) := by decide +kernel
theorem mD_TG_init_110 : decode mB_TG_init 110 = .ok (.aload_n 0, 1) := by decide +kernel
theorem mD_TG_init_111 : decode mB_TG_init 111 = .ok (.new 53, 3) := by decide +kernel
theorem mD_TG_init_114 : decode mB_TG_init 114 = .ok (.dup, 1) := by decide +kernel
theorem mD_TG_init_115 : decode mB_TG_init 115 = .ok (.invokespecial 59, 3) := by decide +kernel
theorem mD_TG_init_118 : decode mB_TG_init 118 = .ok (.putfield 60, 3) := by decide +kernel
theorem mD_TG_init_121 : decode mB_TG_init 121 = .ok (.aload_n 0, 1) := by decide +kernel
theorem mD_TG_init_122 : decode mB_TG_init 122 = .ok (.new 53, 3) := by decide +kernel
theorem mD_TG_init_125 : decode mB_TG_init 125 = .ok (.dup, 1) := by decide +kernel
theorem mD_TG_init_126 : decode mB_TG_init 126 = .ok (.invokespecial 59, 3) := by decide +kernel
theorem mD_TG_init_129 : decode mB_TG_init 129 = .ok (.putfield 64, 3) := by decide +kernel
theorem mD_TG_init_132 : decode mB_TG_init 132 = .ok (.aload_n 0, 1) := by decide +kernel
theorem mD_TG_init_133 : decode mB_TG_init 133 = .ok (.bipush 9, 2) := by decide +kernel
theorem mD_TG_init_135 : decode mB_TG_init 135 = .ok (.newarray .int, 2) := by decide +kernel
theorem mD_TG_init_137 : decode mB_TG_init 137 = .ok (.putfield 67, 3) := by decide +kernel
theorem mD_TG_init_140 : decode mB_TG_init 140 = .ok (.aload_n 0, 1) := by decide +kernel
theorem mD_TG_init_141 : decode mB_TG_init 141 = .ok (.iconst 1, 1) := by decide +kernel
theorem mD_TG_init_142 : decode mB_TG_init 142 = .ok (.invokevirtual 71, 3) := by decide +kernel
theorem mD_TG_init_145 : decode mB_TG_init 145 = .ok (.return_, 1) := by decide +kernel
theorem mD_TG_key_0 : decode mB_TG_key 0 = .ok (.aload_n 0, 1) := by decide +kernel
theorem mD_TG_key_1 : decode mB_TG_key 1 = .ok (.iload_n 1, 1) := by decide +kernel
theorem mD_TG_key_2 : decode mB_TG_key 2 = .ok (.invokevirtual 71, 3) := by decide +kernel
theorem mD_TG_key_5 : decode mB_TG_key 5 = .ok (.aload_n 0, 1) := by decide +kernel
theorem mD_TG_key_6 : decode mB_TG_key 6 = .ok (.getfield 42, 3) := by decide +kernel
theorem mD_TG_key_9 : decode mB_TG_key 9 = .ok (.invokevirtual 75, 3) := by decide +kernel
theorem mD_TG_key_12 : decode mB_TG_key 12 = .ok (.ireturn, 1) := by decide +kernel
theorem mD_TG_bit_0 : decode mB_TG_bit 0 = .ok (.aload_n 0, 1) := by decide +kernel
theorem mD_TG_bit_1 : decode mB_TG_bit 1 = .ok (.invokevirtual 79, 3) := by decide +kernel
theorem mD_TG_bit_4 : decode mB_TG_bit 4 = .ok (.istore_n 2, 1) := by decide +kernel
theorem mD_TG_bit_5 : decode mB_TG_bit 5 = .ok (.aload_n 0, 1) := by decide +kernel
theorem mD_TG_bit_6 : decode mB_TG_bit 6 = .ok (.aload_n 0, 1) := by decide +kernel
theorem mD_TG_bit_7 : decode mB_TG_bit 7 = .ok (.getfield 42, 3) := by decide +kernel
theorem mD_TG_bit_10 : decode mB_TG_bit 10 = .ok (.iload_n 2, 1) := by decide +kernel
theorem mD_TG_bit_11 : decode mB_TG_bit 11 = .ok (.invokevirtual 82, 3) := by decide +kernel
theorem mD_TG_bit_14 : decode mB_TG_bit 14 = .ok (.iload_n 1, 1) := by decide +kernel
theorem mD_TG_bit_15 : decode mB_TG_bit 15 = .ok (.invokevirtual 86, 3) := by decide +kernel
theorem mD_TG_bit_18 : decode mB_TG_bit 18 = .ok (.iload_n 2, 1) := by decide +kernel
theorem mD_TG_bit_19 : decode mB_TG_bit 19 = .ok (.ireturn, 1) := by decide +kernel
theorem mD_TG_drop_0 : decode mB_TG_drop 0 = .ok (.aload_n 0, 1) := by decide +kernel
theorem mD_TG_drop_1 : decode mB_TG_drop 1 = .ok (.iload_n 1, 1) := by decide +kernel
theorem mD_TG_drop_2 : decode mB_TG_drop 2 = .ok (.invokevirtual 90, 3) := by decide +kernel
theorem mD_TG_drop_5 : decode mB_TG_drop 5 = .ok (.astore_n 2, 1) := by decide +kernel
theorem mD_TG_drop_6 : decode mB_TG_drop 6 = .ok (.aload_n 0, 1) := by decide +kernel
theorem mD_TG_drop_7 : decode mB_TG_drop 7 = .ok (.getfield 42, 3) := by decide +kernel
theorem mD_TG_drop_10 : decode mB_TG_drop 10 = .ok (.aload_n 2, 1) := by decide +kernel
theorem mD_TG_drop_11 : decode mB_TG_drop 11 = .ok (.invokevirtual 93, 3) := by decide +kernel
theorem mD_TG_drop_14 : decode mB_TG_drop 14 = .ok (.aload_n 0, 1) := by decide +kernel
theorem mD_TG_drop_15 : decode mB_TG_drop 15 = .ok (.getfield 42, 3) := by decide +kernel
theorem mD_TG_drop_18 : decode mB_TG_drop 18 = .ok (.getfield 97, 3) := by decide +kernel
theorem mD_TG_drop_21 : decode mB_TG_drop 21 = .ok (.ireturn, 1) := by decide +kernel
theorem mD_TG_not_0 : decode mB_TG_not 0 = .ok (.aload_n 0, 1) := by decide +kernel
theorem mD_TG_not_1 : decode mB_TG_not 1 = .ok (.iload_n 1, 1) := by decide +kernel
theorem mD_TG_not_2 : decode mB_TG_not 2 = .ok (.invokevirtual 90, 3) := by decide +kernel
theorem mD_TG_not_5 : decode mB_TG_not 5 = .ok (.astore_n 2, 1) := by decide +kernel
theorem mD_TG_not_6 : decode mB_TG_not 6 = .ok (.aload_n 0, 1) := by decide +kernel
theorem mD_TG_not_7 : decode mB_TG_not 7 = .ok (.invokevirtual 79, 3) := by decide +kernel
theorem mD_TG_not_10 : decode mB_TG_not 10 = .ok (.istore_n 3, 1) := by decide +kernel
theorem mD_TG_not_11 : decode mB_TG_not 11 = .ok (.aload_n 0, 1) := by decide +kernel
theorem mD_TG_not_12 : decode mB_TG_not 12 = .ok (.getfield 42, 3) := by decide +kernel
theorem mD_TG_not_15 : decode mB_TG_not 15 = .ok (.iload_n 3, 1) := by decide +kernel
theorem mD_TG_not_16 : decode mB_TG_not 16 = .ok (.invokevirtual 82, 3) := by decide +kernel
theorem mD_TG_not_19 : decode mB_TG_not 19 = .ok (.aload_n 2, 1) := by decide +kernel
theorem mD_TG_not_20 : decode mB_TG_not 20 = .ok (.invokevirtual 101, 3) := by decide +kernel
theorem mD_TG_not_23 : decode mB_TG_not 23 = .ok (.iload_n 3, 1) := by decide +kernel
theorem mD_TG_not_24 : decode mB_TG_not 24 = .ok (.ireturn, 1) := by decide +kernel
theorem mD_TG_blur_0 : decode mB_TG_blur 0 = .ok (.aload_n 0, 1) := by decide +kernel
theorem mD_TG_blur_1 : decode mB_TG_blur 1 = .ok (.iload_n 1, 1) := by decide +kernel
theorem mD_TG_blur_2 : decode mB_TG_blur 2 = .ok (.invokevirtual 90, 3) := by decide +kernel
theorem mD_TG_blur_5 : decode mB_TG_blur 5 = .ok (.astore_n 3, 1) := by decide +kernel
theorem mD_TG_blur_6 : decode mB_TG_blur 6 = .ok (.aload_n 0, 1) := by decide +kernel
theorem mD_TG_blur_7 : decode mB_TG_blur 7 = .ok (.iload_n 2, 1) := by decide +kernel
theorem mD_TG_blur_8 : decode mB_TG_blur 8 = .ok (.sipush 1000, 3) := by decide +kernel
theorem mD_TG_blur_11 : decode mB_TG_blur 11 = .ok (.invokevirtual 104, 3) := by decide +kernel
theorem mD_TG_blur_14 : decode mB_TG_blur 14 = .ok (.aload_n 0, 1) := by decide +kernel
theorem mD_TG_blur_15 : decode mB_TG_blur 15 = .ok (.aload_n 3, 1) := by decide +kernel
theorem mD_TG_blur_16 : decode mB_TG_blur 16 = .ok (.getfield 108, 3) := by decide +kernel
theorem mD_TG_blur_19 : decode mB_TG_blur 19 = .ok (.i2l, 1) := by decide +kernel
theorem mD_TG_blur_20 : decode mB_TG_blur 20 = .ok (.ldc2_w 111, 3) := by decide +kernel
theorem mD_TG_blur_23 : decode mB_TG_blur 23 = .ok (.iload_n 2, 1) := by decide +kernel
theorem mD_TG_blur_24 : decode mB_TG_blur 24 = .ok (.i2l, 1) := by decide +kernel
theorem mD_TG_blur_25 : decode mB_TG_blur 25 = .ok (.lmul, 1) := by decide +kernel
theorem mD_TG_blur_26 : decode mB_TG_blur 26 = .ok (.ladd, 1) := by decide +kernel
theorem mD_TG_blur_27 : decode mB_TG_blur 27 = .ok (.invokevirtual 113, 3) := by decide +kernel
theorem mD_TG_blur_30 : decode mB_TG_blur 30 = .ok (.istore 4, 2) := by decide +kernel
theorem mD_TG_blur_32 : decode mB_TG_blur 32 = .ok (.iconst 0, 1) := by decide +kernel
theorem mD_TG_blur_33 : decode mB_TG_blur 33 = .ok (.istore 5, 2) := by decide +kernel
theorem mD_TG_blur_35 : decode mB_TG_blur 35 = .ok (.iload 5, 2) := by decide +kernel
theorem mD_TG_blur_37 : decode mB_TG_blur 37 = .ok (.iload_n 2, 1) := by decide +kernel
theorem mD_TG_blur_38 : decode mB_TG_blur 38 = .ok (.if_icmp .ge 34, 3) := by decide +kernel
theorem mD_TG_blur_41 : decode mB_TG_blur 41 = .ok (.aload_n 0, 1) := by decide +kernel
theorem mD_TG_blur_42 : decode mB_TG_blur 42 = .ok (.getfield 19, 3) := by decide +kernel
theorem mD_TG_blur_45 : decode mB_TG_blur 45 = .ok (.iconst 0, 1) := by decide +kernel
theorem mD_TG_blur_46 : decode mB_TG_blur 46 = .ok (.aload_n 0, 1) := by decide +kernel
theorem mD_TG_blur_47 : decode mB_TG_blur 47 = .ok (.getfield 67, 3) := by decide +kernel
theorem mD_TG_blur_50 : decode mB_TG_blur 50 = .ok (.iconst 5, 1) := by decide +kernel
theorem mD_TG_blur_51 : decode mB_TG_blur 51 = .ok (.aload_n 0, 1) := by decide +kernel
theorem mD_TG_blur_52 : decode mB_TG_blur 52 = .ok (.getfield 10, 3) := by decide +kernel
theorem mD_TG_blur_55 : decode mB_TG_blur 55 = .ok (.invokevirtual 117, 3) := by decide +kernel
theorem mD_TG_blur_58 : decode mB_TG_blur 58 = .ok (.aload_n 3, 1) := by decide +kernel
theorem mD_TG_blur_59 : decode mB_TG_blur 59 = .ok (.aload_n 0, 1) := by decide +kernel
theorem mD_TG_blur_60 : decode mB_TG_blur 60 = .ok (.getfield 67, 3) := by decide +kernel
theorem mD_TG_blur_63 : decode mB_TG_blur 63 = .ok (.invokevirtual 121, 3) := by decide +kernel
theorem mD_TG_blur_66 : decode mB_TG_blur 66 = .ok (.iinc 5 1, 3) := by decide +kernel
theorem mD_TG_blur_69 : decode mB_TG_blur 69 = .ok (.goto (-34), 3) := by decide +kernel
theorem mD_TG_blur_72 : decode mB_TG_blur 72 = .ok (.aload_n 3, 1) := by decide +kernel
theorem mD_TG_blur_73 : decode mB_TG_blur 73 = .ok (.iload 4, 2) := by decide +kernel
theorem mD_TG_blur_75 : decode mB_TG_blur 75 = .ok (.putfield 108, 3) := by decide +kernel
theorem mD_TG_blur_78 : decode mB_TG_blur 78 = .ok (.iload 4, 2) := by decide +kernel
theorem mD_TG_blur_80 : decode mB_TG_blur 80 = .ok (.ireturn, 1) := by decide +kernel
theorem mD_TG_pile_0 : decode mB_TG_pile 0 = .ok (.aload_n 0, 1) := by decide +kernel
theorem mD_TG_pile_1 : decode mB_TG_pile 1 = .ok (.iload_n 1, 1) := by decide +kernel
theorem mD_TG_pile_2 : decode mB_TG_pile 2 = .ok (.invokevirtual 90, 3) := by decide +kernel
theorem mD_TG_pile_5 : decode mB_TG_pile 5 = .ok (.astore_n 3, 1) := by decide +kernel
theorem mD_TG_pile_6 : decode mB_TG_pile 6 = .ok (.aload_n 0, 1) := by decide +kernel
theorem mD_TG_pile_7 : decode mB_TG_pile 7 = .ok (.iload_n 2, 1) := by decide +kernel
theorem mD_TG_pile_8 : decode mB_TG_pile 8 = .ok (.bipush 100, 2) := by decide +kernel
theorem mD_TG_pile_10 : decode mB_TG_pile 10 = .ok (.invokevirtual 104, 3) := by decide +kernel
theorem mD_TG_pile_13 : decode mB_TG_pile 13 = .ok (.bipush 8, 2) := by decide +kernel
theorem mD_TG_pile_15 : decode mB_TG_pile 15 = .ok (.iload_n 2, 1) := by decide +kernel
theorem mD_TG_pile_16 : decode mB_TG_pile 16 = .ok (.imul, 1) := by decide +kernel
theorem mD_TG_pile_17 : decode mB_TG_pile 17 = .ok (.iconst 1, 1) := by decide +kernel
theorem mD_TG_pile_18 : decode mB_TG_pile 18 = .ok (.iadd, 1) := by decide +kernel
theorem mD_TG_pile_19 : decode mB_TG_pile 19 = .ok (.istore 4, 2) := by decide +kernel
theorem mD_TG_pile_21 : decode mB_TG_pile 21 = .ok (.aload_n 0, 1) := by decide +kernel
theorem mD_TG_pile_22 : decode mB_TG_pile 22 = .ok (.aload_n 3, 1) := by decide +kernel
theorem mD_TG_pile_23 : decode mB_TG_pile 23 = .ok (.getfield 108, 3) := by decide +kernel
theorem mD_TG_pile_26 : decode mB_TG_pile 26 = .ok (.i2l, 1) := by decide +kernel
theorem mD_TG_pile_27 : decode mB_TG_pile 27 = .ok (.iload 4, 2) := by decide +kernel
theorem mD_TG_pile_29 : decode mB_TG_pile 29 = .ok (.i2l, 1) := by decide +kernel
theorem mD_TG_pile_30 : decode mB_TG_pile 30 = .ok (.lmul, 1) := by decide +kernel
theorem mD_TG_pile_31 : decode mB_TG_pile 31 = .ok (.invokevirtual 113, 3) := by decide +kernel
theorem mD_TG_pile_34 : decode mB_TG_pile 34 = .ok (.istore 5, 2) := by decide +kernel
theorem mD_TG_pile_36 : decode mB_TG_pile 36 = .ok (.aload_n 3, 1) := by decide +kernel
theorem mD_TG_pile_37 : decode mB_TG_pile 37 = .ok (.iload 4, 2) := by decide +kernel
theorem mD_TG_pile_39 : decode mB_TG_pile 39 = .ok (.invokevirtual 125, 3) := by decide +kernel
theorem mD_TG_pile_42 : decode mB_TG_pile 42 = .ok (.aload_n 3, 1) := by decide +kernel
theorem mD_TG_pile_43 : decode mB_TG_pile 43 = .ok (.iload 5, 2) := by decide +kernel
theorem mD_TG_pile_45 : decode mB_TG_pile 45 = .ok (.putfield 108, 3) := by decide +kernel
theorem mD_TG_pile_48 : decode mB_TG_pile 48 = .ok (.iload 5, 2) := by decide +kernel
theorem mD_TG_pile_50 : decode mB_TG_pile 50 = .ok (.ireturn, 1) := by decide +kernel
theorem mD_TG_gate_0 : decode mB_TG_gate 0 = .ok (.aload_n 0, 1) := by decide +kernel
theorem mD_TG_gate_1 : decode mB_TG_gate 1 = .ok (.iload_n 1, 1) := by decide +kernel
theorem mD_TG_gate_2 : decode mB_TG_gate 2 = .ok (.invokevirtual 128, 3) := by decide +kernel
theorem mD_TG_gate_5 : decode mB_TG_gate 5 = .ok (.aload_n 0, 1) := by decide +kernel
theorem mD_TG_gate_6 : decode mB_TG_gate 6 = .ok (.iload_n 2, 1) := by decide +kernel
theorem mD_TG_gate_7 : decode mB_TG_gate 7 = .ok (.invokevirtual 90, 3) := by decide +kernel
theorem mD_TG_gate_10 : decode mB_TG_gate 10 = .ok (.astore 4, 2) := by decide +kernel
theorem mD_TG_gate_12 : decode mB_TG_gate 12 = .ok (.aload_n 0, 1) := by decide +kernel
theorem mD_TG_gate_13 : decode mB_TG_gate 13 = .ok (.iload_n 3, 1) := by decide +kernel
theorem mD_TG_gate_14 : decode mB_TG_gate 14 = .ok (.invokevirtual 90, 3) := by decide +kernel
theorem mD_TG_gate_17 : decode mB_TG_gate 17 = .ok (.astore 5, 2) := by decide +kernel
theorem mD_TG_gate_19 : decode mB_TG_gate 19 = .ok (.aload_n 0, 1) := by decide +kernel
theorem mD_TG_gate_20 : decode mB_TG_gate 20 = .ok (.iload_n 1, 1) := by decide +kernel
theorem mD_TG_gate_21 : decode mB_TG_gate 21 = .ok (.aload 4, 2) := by decide +kernel
theorem mD_TG_gate_23 : decode mB_TG_gate 23 = .ok (.aload 5, 2) := by decide +kernel
theorem mD_TG_gate_25 : decode mB_TG_gate 25 = .ok (.invokestatic 131, 3) := by decide +kernel
theorem mD_TG_gate_28 : decode mB_TG_gate 28 = .ok (.invokevirtual 135, 3) := by decide +kernel
theorem mD_TG_gate_31 : decode mB_TG_gate 31 = .ok (.aload_n 0, 1) := by decide +kernel
theorem mD_TG_gate_32 : decode mB_TG_gate 32 = .ok (.invokevirtual 79, 3) := by decide +kernel
theorem mD_TG_gate_35 : decode mB_TG_gate 35 = .ok (.istore 6, 2) := by decide +kernel
theorem mD_TG_gate_37 : decode mB_TG_gate 37 = .ok (.aload_n 0, 1) := by decide +kernel
theorem mD_TG_gate_38 : decode mB_TG_gate 38 = .ok (.iload_n 1, 1) := by decide +kernel
theorem mD_TG_gate_39 : decode mB_TG_gate 39 = .ok (.aload 4, 2) := by decide +kernel
theorem mD_TG_gate_41 : decode mB_TG_gate 41 = .ok (.aload 5, 2) := by decide +kernel
theorem mD_TG_gate_43 : decode mB_TG_gate 43 = .ok (.aload_n 0, 1) := by decide +kernel
theorem mD_TG_gate_44 : decode mB_TG_gate 44 = .ok (.getfield 42, 3) := by decide +kernel
theorem mD_TG_gate_47 : decode mB_TG_gate 47 = .ok (.iload 6, 2) := by decide +kernel
theorem mD_TG_gate_49 : decode mB_TG_gate 49 = .ok (.invokevirtual 82, 3) := by decide +kernel
theorem mD_TG_gate_52 : decode mB_TG_gate 52 = .ok (.invokevirtual 139, 3) := by decide +kernel
theorem mD_TG_gate_55 : decode mB_TG_gate 55 = .ok (.iload 6, 2) := by decide +kernel
theorem mD_TG_gate_57 : decode mB_TG_gate 57 = .ok (.ireturn, 1) := by decide +kernel
theorem mD_TG_choose_0 : decode mB_TG_choose 0 = .ok (.aload_n 0, 1) := by decide +kernel
theorem mD_TG_choose_1 : decode mB_TG_choose 1 = .ok (.iload_n 1, 1) := by decide +kernel
theorem mD_TG_choose_2 : decode mB_TG_choose 2 = .ok (.invokevirtual 90, 3) := by decide +kernel
theorem mD_TG_choose_5 : decode mB_TG_choose 5 = .ok (.astore 4, 2) := by decide +kernel
theorem mD_TG_choose_7 : decode mB_TG_choose 7 = .ok (.aload_n 0, 1) := by decide +kernel
theorem mD_TG_choose_8 : decode mB_TG_choose 8 = .ok (.iload_n 2, 1) := by decide +kernel
theorem mD_TG_choose_9 : decode mB_TG_choose 9 = .ok (.invokevirtual 90, 3) := by decide +kernel
theorem mD_TG_choose_12 : decode mB_TG_choose 12 = .ok (.astore 5, 2) := by decide +kernel
theorem mD_TG_choose_14 : decode mB_TG_choose 14 = .ok (.aload_n 0, 1) := by decide +kernel
theorem mD_TG_choose_15 : decode mB_TG_choose 15 = .ok (.iload_n 3, 1) := by decide +kernel
theorem mD_TG_choose_16 : decode mB_TG_choose 16 = .ok (.invokevirtual 90, 3) := by decide +kernel
theorem mD_TG_choose_19 : decode mB_TG_choose 19 = .ok (.astore 6, 2) := by decide +kernel
theorem mD_TG_choose_21 : decode mB_TG_choose 21 = .ok (.aload_n 0, 1) := by decide +kernel
theorem mD_TG_choose_22 : decode mB_TG_choose 22 = .ok (.iconst 0, 1) := by decide +kernel
theorem mD_TG_choose_23 : decode mB_TG_choose 23 = .ok (.aload 4, 2) := by decide +kernel
theorem mD_TG_choose_25 : decode mB_TG_choose 25 = .ok (.aload 5, 2) := by decide +kernel
theorem mD_TG_choose_27 : decode mB_TG_choose 27 = .ok (.invokestatic 131, 3) := by decide +kernel
theorem mD_TG_choose_30 : decode mB_TG_choose 30 = .ok (.ifCond .ne 15, 3) := by decide +kernel
theorem mD_TG_choose_33 : decode mB_TG_choose 33 = .ok (.bipush 6, 2) := by decide +kernel
theorem mD_TG_choose_35 : decode mB_TG_choose 35 = .ok (.aload 6, 2) := by decide +kernel
theorem mD_TG_choose_37 : decode mB_TG_choose 37 = .ok (.aload 4, 2) := by decide +kernel
theorem mD_TG_choose_39 : decode mB_TG_choose 39 = .ok (.invokestatic 131, 3) := by decide +kernel
theorem mD_TG_choose_42 : decode mB_TG_choose 42 = .ok (.ifCond .eq 7, 3) := by decide +kernel
theorem mD_TG_choose_45 : decode mB_TG_choose 45 = .ok (.iconst 1, 1) := by decide +kernel
theorem mD_TG_choose_46 : decode mB_TG_choose 46 = .ok (.goto 4, 3) := by decide +kernel
theorem mD_TG_choose_49 : decode mB_TG_choose 49 = .ok (.iconst 0, 1) := by decide +kernel
theorem mD_TG_choose_50 : decode mB_TG_choose 50 = .ok (.invokevirtual 135, 3) := by decide +kernel
theorem mD_TG_choose_53 : decode mB_TG_choose 53 = .ok (.aload_n 0, 1) := by decide +kernel
theorem mD_TG_choose_54 : decode mB_TG_choose 54 = .ok (.invokevirtual 79, 3) := by decide +kernel
theorem mD_TG_choose_57 : decode mB_TG_choose 57 = .ok (.istore 7, 2) := by decide +kernel
theorem mD_TG_choose_59 : decode mB_TG_choose 59 = .ok (.aload_n 0, 1) := by decide +kernel
theorem mD_TG_choose_60 : decode mB_TG_choose 60 = .ok (.iconst 0, 1) := by decide +kernel
theorem mD_TG_choose_61 : decode mB_TG_choose 61 = .ok (.aload 4, 2) := by decide +kernel
theorem mD_TG_choose_63 : decode mB_TG_choose 63 = .ok (.aload 5, 2) := by decide +kernel
theorem mD_TG_choose_65 : decode mB_TG_choose 65 = .ok (.aload_n 0, 1) := by decide +kernel
theorem mD_TG_choose_66 : decode mB_TG_choose 66 = .ok (.getfield 60, 3) := by decide +kernel
theorem mD_TG_choose_69 : decode mB_TG_choose 69 = .ok (.invokevirtual 139, 3) := by decide +kernel
theorem mD_TG_choose_72 : decode mB_TG_choose 72 = .ok (.aload_n 0, 1) := by decide +kernel
theorem mD_TG_choose_73 : decode mB_TG_choose 73 = .ok (.bipush 6, 2) := by decide +kernel
theorem mD_TG_choose_75 : decode mB_TG_choose 75 = .ok (.aload 6, 2) := by decide +kernel
theorem mD_TG_choose_77 : decode mB_TG_choose 77 = .ok (.aload 4, 2) := by decide +kernel
theorem mD_TG_choose_79 : decode mB_TG_choose 79 = .ok (.aload_n 0, 1) := by decide +kernel
theorem mD_TG_choose_80 : decode mB_TG_choose 80 = .ok (.getfield 64, 3) := by decide +kernel
theorem mD_TG_choose_83 : decode mB_TG_choose 83 = .ok (.invokevirtual 139, 3) := by decide +kernel
theorem mD_TG_choose_86 : decode mB_TG_choose 86 = .ok (.aload_n 0, 1) := by decide +kernel
theorem mD_TG_choose_87 : decode mB_TG_choose 87 = .ok (.iconst 1, 1) := by decide +kernel
theorem mD_TG_choose_88 : decode mB_TG_choose 88 = .ok (.aload_n 0, 1) := by decide +kernel
theorem mD_TG_choose_89 : decode mB_TG_choose 89 = .ok (.getfield 60, 3) := by decide +kernel
theorem mD_TG_choose_92 : decode mB_TG_choose 92 = .ok (.aload_n 0, 1) := by decide +kernel
theorem mD_TG_choose_93 : decode mB_TG_choose 93 = .ok (.getfield 64, 3) := by decide +kernel
theorem mD_TG_choose_96 : decode mB_TG_choose 96 = .ok (.aload_n 0, 1) := by decide +kernel
theorem mD_TG_choose_97 : decode mB_TG_choose 97 = .ok (.getfield 42, 3) := by decide +kernel
theorem mD_TG_choose_100 : decode mB_TG_choose 100 = .ok (.iload 7, 2) := by decide +kernel
theorem mD_TG_choose_102 : decode mB_TG_choose 102 = .ok (.invokevirtual 82, 3) := by decide +kernel
theorem mD_TG_choose_105 : decode mB_TG_choose 105 = .ok (.invokevirtual 139, 3) := by decide +kernel
theorem mD_TG_choose_108 : decode mB_TG_choose 108 = .ok (.iload 7, 2) := by decide +kernel
theorem mD_TG_choose_110 : decode mB_TG_choose 110 = .ok (.ireturn, 1) := by decide +kernel
theorem mD_TG_open_0 : decode mB_TG_open 0 = .ok (.aload_n 0, 1) := by decide +kernel
theorem mD_TG_open_1 : decode mB_TG_open 1 = .ok (.iload_n 1, 1) := by decide +kernel
theorem mD_TG_open_2 : decode mB_TG_open 2 = .ok (.invokevirtual 90, 3) := by decide +kernel
theorem mD_TG_open_5 : decode mB_TG_open 5 = .ok (.astore_n 2, 1) := by decide +kernel
theorem mD_TG_open_6 : decode mB_TG_open 6 = .ok (.aload_n 2, 1) := by decide +kernel
theorem mD_TG_open_7 : decode mB_TG_open 7 = .ok (.getfield 108, 3) := by decide +kernel
theorem mD_TG_open_10 : decode mB_TG_open 10 = .ok (.ldc 143, 2) := by decide +kernel
theorem mD_TG_open_12 : decode mB_TG_open 12 = .ok (.if_icmp .lt 13, 3) := by decide +kernel
theorem mD_TG_open_15 : decode mB_TG_open 15 = .ok (.new 144, 3) := by decide +kernel
theorem mD_TG_open_18 : decode mB_TG_open 18 = .ok (.dup, 1) := by decide +kernel
theorem mD_TG_open_19 : decode mB_TG_open 19 = .ok (.ldc 146, 2) := by decide +kernel
theorem mD_TG_open_21 : decode mB_TG_open 21 = .ok (.invokespecial 148, 3) := by decide +kernel
theorem mD_TG_open_24 : decode mB_TG_open 24 = .ok (.athrow, 1) := by decide +kernel
theorem mD_TG_open_25 : decode mB_TG_open 25 = .ok (.aload_n 0, 1) := by decide +kernel
theorem mD_TG_open_26 : decode mB_TG_open 26 = .ok (.getfield 19, 3) := by decide +kernel
theorem mD_TG_open_29 : decode mB_TG_open 29 = .ok (.aload_n 2, 1) := by decide +kernel
theorem mD_TG_open_30 : decode mB_TG_open 30 = .ok (.getfield 151, 3) := by decide +kernel
theorem mD_TG_open_33 : decode mB_TG_open 33 = .ok (.invokevirtual 154, 3) := by decide +kernel
theorem mD_TG_open_36 : decode mB_TG_open 36 = .ok (.ifCond .le 7, 3) := by decide +kernel
theorem mD_TG_open_39 : decode mB_TG_open 39 = .ok (.iconst 1, 1) := by decide +kernel
theorem mD_TG_open_40 : decode mB_TG_open 40 = .ok (.goto 4, 3) := by decide +kernel
theorem mD_TG_open_43 : decode mB_TG_open 43 = .ok (.iconst 0, 1) := by decide +kernel
theorem mD_TG_open_44 : decode mB_TG_open 44 = .ok (.ireturn, 1) := by decide +kernel
theorem mD_TG_bound_0 : decode mB_TG_bound 0 = .ok (.aload_n 0, 1) := by decide +kernel
theorem mD_TG_bound_1 : decode mB_TG_bound 1 = .ok (.iload_n 1, 1) := by decide +kernel
theorem mD_TG_bound_2 : decode mB_TG_bound 2 = .ok (.invokevirtual 90, 3) := by decide +kernel
theorem mD_TG_bound_5 : decode mB_TG_bound 5 = .ok (.getfield 108, 3) := by decide +kernel
theorem mD_TG_bound_8 : decode mB_TG_bound 8 = .ok (.ireturn, 1) := by decide +kernel
theorem mD_TG_within_0 : decode mB_TG_within 0 = .ok (.aload_n 0, 1) := by decide +kernel
theorem mD_TG_within_1 : decode mB_TG_within 1 = .ok (.iload_n 1, 1) := by decide +kernel
theorem mD_TG_within_2 : decode mB_TG_within 2 = .ok (.invokevirtual 90, 3) := by decide +kernel
theorem mD_TG_within_5 : decode mB_TG_within 5 = .ok (.astore_n 2, 1) := by decide +kernel
theorem mD_TG_within_6 : decode mB_TG_within 6 = .ok (.aload_n 0, 1) := by decide +kernel
theorem mD_TG_within_7 : decode mB_TG_within 7 = .ok (.getfield 19, 3) := by decide +kernel
theorem mD_TG_within_10 : decode mB_TG_within 10 = .ok (.aload_n 2, 1) := by decide +kernel
theorem mD_TG_within_11 : decode mB_TG_within 11 = .ok (.getfield 151, 3) := by decide +kernel
theorem mD_TG_within_14 : decode mB_TG_within 14 = .ok (.invokevirtual 154, 3) := by decide +kernel
theorem mD_TG_within_17 : decode mB_TG_within 17 = .ok (.aload_n 2, 1) := by decide +kernel
theorem mD_TG_within_18 : decode mB_TG_within 18 = .ok (.getfield 158, 3) := by decide +kernel
theorem mD_TG_within_21 : decode mB_TG_within 21 = .ok (.invokestatic 162, 3) := by decide +kernel
theorem mD_TG_within_24 : decode mB_TG_within 24 = .ok (.isub, 1) := by decide +kernel
theorem mD_TG_within_25 : decode mB_TG_within 25 = .ok (.istore_n 3, 1) := by decide +kernel
theorem mD_TG_within_26 : decode mB_TG_within 26 = .ok (.iload_n 3, 1) := by decide +kernel
theorem mD_TG_within_27 : decode mB_TG_within 27 = .ok (.aload_n 2, 1) := by decide +kernel
theorem mD_TG_within_28 : decode mB_TG_within 28 = .ok (.getfield 108, 3) := by decide +kernel
theorem mD_TG_within_31 : decode mB_TG_within 31 = .ok (.if_icmp .gt 16, 3) := by decide +kernel
theorem mD_TG_within_34 : decode mB_TG_within 34 = .ok (.iload_n 3, 1) := by decide +kernel
theorem mD_TG_within_35 : decode mB_TG_within 35 = .ok (.aload_n 2, 1) := by decide +kernel
theorem mD_TG_within_36 : decode mB_TG_within 36 = .ok (.getfield 108, 3) := by decide +kernel
theorem mD_TG_within_39 : decode mB_TG_within 39 = .ok (.ineg, 1) := by decide +kernel
theorem mD_TG_within_40 : decode mB_TG_within 40 = .ok (.if_icmp .lt 7, 3) := by decide +kernel
theorem mD_TG_within_43 : decode mB_TG_within 43 = .ok (.iconst 1, 1) := by decide +kernel
theorem mD_TG_within_44 : decode mB_TG_within 44 = .ok (.goto 4, 3) := by decide +kernel
theorem mD_TG_within_47 : decode mB_TG_within 47 = .ok (.iconst 0, 1) := by decide +kernel
theorem mD_TG_within_48 : decode mB_TG_within 48 = .ok (.ireturn, 1) := by decide +kernel
theorem mD_TG_line_0 : decode mB_TG_line 0 = .ok (.aload_n 0, 1) := by decide +kernel
theorem mD_TG_line_1 : decode mB_TG_line 1 = .ok (.iload_n 1, 1) := by decide +kernel
theorem mD_TG_line_2 : decode mB_TG_line 2 = .ok (.invokevirtual 128, 3) := by decide +kernel
theorem mD_TG_line_5 : decode mB_TG_line 5 = .ok (.aload_n 0, 1) := by decide +kernel
theorem mD_TG_line_6 : decode mB_TG_line 6 = .ok (.getfield 49, 3) := by decide +kernel
theorem mD_TG_line_9 : decode mB_TG_line 9 = .ok (.iload_n 2, 1) := by decide +kernel
theorem mD_TG_line_10 : decode mB_TG_line 10 = .ok (.invokevirtual 166, 3) := by decide +kernel
theorem mD_TG_line_13 : decode mB_TG_line 13 = .ok (.ifCond .eq 14, 3) := by decide +kernel
theorem mD_TG_line_16 : decode mB_TG_line 16 = .ok (.aload_n 0, 1) := by decide +kernel
theorem mD_TG_line_17 : decode mB_TG_line 17 = .ok (.getfield 49, 3) := by decide +kernel
theorem mD_TG_line_20 : decode mB_TG_line 20 = .ok (.iload_n 3, 1) := by decide +kernel
theorem mD_TG_line_21 : decode mB_TG_line 21 = .ok (.invokevirtual 166, 3) := by decide +kernel
theorem mD_TG_line_24 : decode mB_TG_line 24 = .ok (.ifCond .ne 13, 3) := by decide +kernel
theorem mD_TG_line_27 : decode mB_TG_line 27 = .ok (.new 170, 3) := by decide +kernel
theorem mD_TG_line_30 : decode mB_TG_line 30 = .ok (.dup, 1) := by decide +kernel
theorem mD_TG_line_31 : decode mB_TG_line 31 = .ok (.ldc 172, 2) := by decide +kernel
theorem mD_TG_line_33 : decode mB_TG_line 33 = .ok (.invokespecial 174, 3) := by decide +kernel
theorem mD_TG_line_36 : decode mB_TG_line 36 = .ok (.athrow, 1) := by decide +kernel
theorem mD_TG_line_37 : decode mB_TG_line 37 = .ok (.aload_n 0, 1) := by decide +kernel
theorem mD_TG_line_38 : decode mB_TG_line 38 = .ok (.getfield 49, 3) := by decide +kernel
theorem mD_TG_line_41 : decode mB_TG_line 41 = .ok (.getfield 175, 3) := by decide +kernel
theorem mD_TG_line_44 : decode mB_TG_line 44 = .ok (.bipush 24, 2) := by decide +kernel
theorem mD_TG_line_46 : decode mB_TG_line 46 = .ok (.if_icmp .ne 13, 3) := by decide +kernel
theorem mD_TG_line_49 : decode mB_TG_line 49 = .ok (.new 144, 3) := by decide +kernel
theorem mD_TG_line_52 : decode mB_TG_line 52 = .ok (.dup, 1) := by decide +kernel
theorem mD_TG_line_53 : decode mB_TG_line 53 = .ok (.ldc 176, 2) := by decide +kernel
theorem mD_TG_line_55 : decode mB_TG_line 55 = .ok (.invokespecial 148, 3) := by decide +kernel
theorem mD_TG_line_58 : decode mB_TG_line 58 = .ok (.athrow, 1) := by decide +kernel
theorem mD_TG_line_59 : decode mB_TG_line 59 = .ok (.aload_n 0, 1) := by decide +kernel
theorem mD_TG_line_60 : decode mB_TG_line 60 = .ok (.getfield 49, 3) := by decide +kernel
theorem mD_TG_line_63 : decode mB_TG_line 63 = .ok (.iload_n 1, 1) := by decide +kernel
theorem mD_TG_line_64 : decode mB_TG_line 64 = .ok (.iload_n 2, 1) := by decide +kernel
theorem mD_TG_line_65 : decode mB_TG_line 65 = .ok (.iload_n 3, 1) := by decide +kernel
theorem mD_TG_line_66 : decode mB_TG_line 66 = .ok (.invokevirtual 178, 3) := by decide +kernel
theorem mD_TG_line_69 : decode mB_TG_line 69 = .ok (.ireturn, 1) := by decide +kernel
theorem mD_TG_play_0 : decode mB_TG_play 0 = .ok (.aload_n 0, 1) := by decide +kernel
theorem mD_TG_play_1 : decode mB_TG_play 1 = .ok (.getfield 49, 3) := by decide +kernel
theorem mD_TG_play_4 : decode mB_TG_play 4 = .ok (.iload_n 1, 1) := by decide +kernel
theorem mD_TG_play_5 : decode mB_TG_play 5 = .ok (.invokevirtual 182, 3) := by decide +kernel
theorem mD_TG_play_8 : decode mB_TG_play 8 = .ok (.ifCond .ne 13, 3) := by decide +kernel
theorem mD_TG_play_11 : decode mB_TG_play 11 = .ok (.new 170, 3) := by decide +kernel
theorem mD_TG_play_14 : decode mB_TG_play 14 = .ok (.dup, 1) := by decide +kernel
theorem mD_TG_play_15 : decode mB_TG_play 15 = .ok (.ldc 185, 2) := by decide +kernel
theorem mD_TG_play_17 : decode mB_TG_play 17 = .ok (.invokespecial 174, 3) := by decide +kernel
theorem mD_TG_play_20 : decode mB_TG_play 20 = .ok (.athrow, 1) := by decide +kernel
theorem mD_TG_play_21 : decode mB_TG_play 21 = .ok (.aload_n 0, 1) := by decide +kernel
theorem mD_TG_play_22 : decode mB_TG_play 22 = .ok (.iload_n 2, 1) := by decide +kernel
theorem mD_TG_play_23 : decode mB_TG_play 23 = .ok (.sipush 255, 3) := by decide +kernel
theorem mD_TG_play_26 : decode mB_TG_play 26 = .ok (.invokevirtual 104, 3) := by decide +kernel
theorem mD_TG_play_29 : decode mB_TG_play 29 = .ok (.aload_n 0, 1) := by decide +kernel
theorem mD_TG_play_30 : decode mB_TG_play 30 = .ok (.invokevirtual 79, 3) := by decide +kernel
theorem mD_TG_play_33 : decode mB_TG_play 33 = .ok (.istore_n 3, 1) := by decide +kernel
theorem mD_TG_play_34 : decode mB_TG_play 34 = .ok (.iconst 0, 1) := by decide +kernel
theorem mD_TG_play_35 : decode mB_TG_play 35 = .ok (.istore 4, 2) := by decide +kernel
theorem mD_TG_play_37 : decode mB_TG_play 37 = .ok (.iload 4, 2) := by decide +kernel
theorem mD_TG_play_39 : decode mB_TG_play 39 = .ok (.bipush 8, 2) := by decide +kernel
theorem mD_TG_play_41 : decode mB_TG_play 41 = .ok (.if_icmp .ge 35, 3) := by decide +kernel
theorem mD_TG_play_44 : decode mB_TG_play 44 = .ok (.aload_n 0, 1) := by decide +kernel
theorem mD_TG_play_45 : decode mB_TG_play 45 = .ok (.aload_n 0, 1) := by decide +kernel
theorem mD_TG_play_46 : decode mB_TG_play 46 = .ok (.getfield 55, 3) := by decide +kernel
theorem mD_TG_play_49 : decode mB_TG_play 49 = .ok (.iload 4, 2) := by decide +kernel
theorem mD_TG_play_51 : decode mB_TG_play 51 = .ok (.aaload, 1) := by decide +kernel
theorem mD_TG_play_52 : decode mB_TG_play 52 = .ok (.iload_n 2, 1) := by decide +kernel
theorem mD_TG_play_53 : decode mB_TG_play 53 = .ok (.iload 4, 2) := by decide +kernel
theorem mD_TG_play_55 : decode mB_TG_play 55 = .ok (.ishr, 1) := by decide +kernel
theorem mD_TG_play_56 : decode mB_TG_play 56 = .ok (.iconst 1, 1) := by decide +kernel
theorem mD_TG_play_57 : decode mB_TG_play 57 = .ok (.iand, 1) := by decide +kernel
theorem mD_TG_play_58 : decode mB_TG_play 58 = .ok (.iconst 1, 1) := by decide +kernel
theorem mD_TG_play_59 : decode mB_TG_play 59 = .ok (.if_icmp .ne 7, 3) := by decide +kernel
theorem mD_TG_play_62 : decode mB_TG_play 62 = .ok (.iconst 1, 1) := by decide +kernel
theorem mD_TG_play_63 : decode mB_TG_play 63 = .ok (.goto 4, 3) := by decide +kernel
theorem mD_TG_play_66 : decode mB_TG_play 66 = .ok (.iconst 0, 1) := by decide +kernel
theorem mD_TG_play_67 : decode mB_TG_play 67 = .ok (.invokevirtual 86, 3) := by decide +kernel
theorem mD_TG_play_70 : decode mB_TG_play 70 = .ok (.iinc 4 1, 3) := by decide +kernel
theorem mD_TG_play_73 : decode mB_TG_play 73 = .ok (.goto (-36), 3) := by decide +kernel
theorem mD_TG_play_76 : decode mB_TG_play 76 = .ok (.iconst 0, 1) := by decide +kernel
theorem mD_TG_play_77 : decode mB_TG_play 77 = .ok (.istore 4, 2) := by decide +kernel
theorem mD_TG_play_79 : decode mB_TG_play 79 = .ok (.iload 4, 2) := by decide +kernel
theorem mD_TG_play_81 : decode mB_TG_play 81 = .ok (.iload_n 1, 1) := by decide +kernel
theorem mD_TG_play_82 : decode mB_TG_play 82 = .ok (.bipush 8, 2) := by decide +kernel
theorem mD_TG_play_84 : decode mB_TG_play 84 = .ok (.isub, 1) := by decide +kernel
theorem mD_TG_play_85 : decode mB_TG_play 85 = .ok (.if_icmp .gt 63, 3) := by decide +kernel
theorem mD_TG_play_88 : decode mB_TG_play 88 = .ok (.aload_n 0, 1) := by decide +kernel
theorem mD_TG_play_89 : decode mB_TG_play 89 = .ok (.aload_n 0, 1) := by decide +kernel
theorem mD_TG_play_90 : decode mB_TG_play 90 = .ok (.getfield 49, 3) := by decide +kernel
theorem mD_TG_play_93 : decode mB_TG_play 93 = .ok (.getfield 187, 3) := by decide +kernel
theorem mD_TG_play_96 : decode mB_TG_play 96 = .ok (.iload 4, 2) := by decide +kernel
theorem mD_TG_play_98 : decode mB_TG_play 98 = .ok (.iaload, 1) := by decide +kernel
theorem mD_TG_play_99 : decode mB_TG_play 99 = .ok (.aload_n 0, 1) := by decide +kernel
theorem mD_TG_play_100 : decode mB_TG_play 100 = .ok (.getfield 55, 3) := by decide +kernel
theorem mD_TG_play_103 : decode mB_TG_play 103 = .ok (.aload_n 0, 1) := by decide +kernel
theorem mD_TG_play_104 : decode mB_TG_play 104 = .ok (.getfield 49, 3) := by decide +kernel
theorem mD_TG_play_107 : decode mB_TG_play 107 = .ok (.getfield 190, 3) := by decide +kernel
theorem mD_TG_play_110 : decode mB_TG_play 110 = .ok (.iload 4, 2) := by decide +kernel
theorem mD_TG_play_112 : decode mB_TG_play 112 = .ok (.iaload, 1) := by decide +kernel
theorem mD_TG_play_113 : decode mB_TG_play 113 = .ok (.aaload, 1) := by decide +kernel
theorem mD_TG_play_114 : decode mB_TG_play 114 = .ok (.aload_n 0, 1) := by decide +kernel
theorem mD_TG_play_115 : decode mB_TG_play 115 = .ok (.getfield 55, 3) := by decide +kernel
theorem mD_TG_play_118 : decode mB_TG_play 118 = .ok (.aload_n 0, 1) := by decide +kernel
theorem mD_TG_play_119 : decode mB_TG_play 119 = .ok (.getfield 49, 3) := by decide +kernel
theorem mD_TG_play_122 : decode mB_TG_play 122 = .ok (.getfield 193, 3) := by decide +kernel
theorem mD_TG_play_125 : decode mB_TG_play 125 = .ok (.iload 4, 2) := by decide +kernel
theorem mD_TG_play_127 : decode mB_TG_play 127 = .ok (.iaload, 1) := by decide +kernel
theorem mD_TG_play_128 : decode mB_TG_play 128 = .ok (.aaload, 1) := by decide +kernel
theorem mD_TG_play_129 : decode mB_TG_play 129 = .ok (.aload_n 0, 1) := by decide +kernel
theorem mD_TG_play_130 : decode mB_TG_play 130 = .ok (.getfield 55, 3) := by decide +kernel
theorem mD_TG_play_133 : decode mB_TG_play 133 = .ok (.bipush 8, 2) := by decide +kernel
theorem mD_TG_play_135 : decode mB_TG_play 135 = .ok (.iload 4, 2) := by decide +kernel
theorem mD_TG_play_137 : decode mB_TG_play 137 = .ok (.iadd, 1) := by decide +kernel
theorem mD_TG_play_138 : decode mB_TG_play 138 = .ok (.aaload, 1) := by decide +kernel
theorem mD_TG_play_139 : decode mB_TG_play 139 = .ok (.invokevirtual 139, 3) := by decide +kernel
theorem mD_TG_play_142 : decode mB_TG_play 142 = .ok (.iinc 4 1, 3) := by decide +kernel
theorem mD_TG_play_145 : decode mB_TG_play 145 = .ok (.goto (-66), 3) := by decide +kernel
theorem mD_TG_play_148 : decode mB_TG_play 148 = .ok (.aload_n 0, 1) := by decide +kernel
theorem mD_TG_play_149 : decode mB_TG_play 149 = .ok (.getfield 42, 3) := by decide +kernel
theorem mD_TG_play_152 : decode mB_TG_play 152 = .ok (.iload_n 3, 1) := by decide +kernel
theorem mD_TG_play_153 : decode mB_TG_play 153 = .ok (.invokevirtual 82, 3) := by decide +kernel
theorem mD_TG_play_156 : decode mB_TG_play 156 = .ok (.aload_n 0, 1) := by decide +kernel
theorem mD_TG_play_157 : decode mB_TG_play 157 = .ok (.getfield 55, 3) := by decide +kernel
theorem mD_TG_play_160 : decode mB_TG_play 160 = .ok (.iload_n 1, 1) := by decide +kernel
theorem mD_TG_play_161 : decode mB_TG_play 161 = .ok (.aaload, 1) := by decide +kernel
theorem mD_TG_play_162 : decode mB_TG_play 162 = .ok (.invokevirtual 196, 3) := by decide +kernel
theorem mD_TG_play_165 : decode mB_TG_play 165 = .ok (.iload_n 3, 1) := by decide +kernel
theorem mD_TG_play_166 : decode mB_TG_play 166 = .ok (.ireturn, 1) := by decide +kernel
theorem mD_TG_clear_0 : decode mB_TG_clear 0 = .ok (.aload_n 0, 1) := by decide +kernel
theorem mD_TG_clear_1 : decode mB_TG_clear 1 = .ok (.getfield 49, 3) := by decide +kernel
theorem mD_TG_clear_4 : decode mB_TG_clear 4 = .ok (.invokevirtual 199, 3) := by decide +kernel
theorem mD_TG_clear_7 : decode mB_TG_clear 7 = .ok (.ireturn, 1) := by decide +kernel
theorem mD_TG_count_0 : decode mB_TG_count 0 = .ok (.iload_n 1, 1) := by decide +kernel
theorem mD_TG_count_1 : decode mB_TG_count 1 = .ok (.tableswitch 69 0 4 #[35, 43, 48, 53, 61], 35) := by decide +kernel
theorem mD_TG_count_36 : decode mB_TG_count 36 = .ok (.aload_n 0, 1) := by decide +kernel
theorem mD_TG_count_37 : decode mB_TG_count 37 = .ok (.getfield 42, 3) := by decide +kernel
theorem mD_TG_count_40 : decode mB_TG_count 40 = .ok (.getfield 97, 3) := by decide +kernel
theorem mD_TG_count_43 : decode mB_TG_count 43 = .ok (.ireturn, 1) := by decide +kernel
theorem mD_TG_count_44 : decode mB_TG_count 44 = .ok (.aload_n 0, 1) := by decide +kernel
theorem mD_TG_count_45 : decode mB_TG_count 45 = .ok (.getfield 200, 3) := by decide +kernel
theorem mD_TG_count_48 : decode mB_TG_count 48 = .ok (.ireturn, 1) := by decide +kernel
theorem mD_TG_count_49 : decode mB_TG_count 49 = .ok (.aload_n 0, 1) := by decide +kernel
theorem mD_TG_count_50 : decode mB_TG_count 50 = .ok (.getfield 203, 3) := by decide +kernel
theorem mD_TG_count_53 : decode mB_TG_count 53 = .ok (.ireturn, 1) := by decide +kernel
theorem mD_TG_count_54 : decode mB_TG_count 54 = .ok (.aload_n 0, 1) := by decide +kernel
theorem mD_TG_count_55 : decode mB_TG_count 55 = .ok (.getfield 49, 3) := by decide +kernel
theorem mD_TG_count_58 : decode mB_TG_count 58 = .ok (.getfield 175, 3) := by decide +kernel
theorem mD_TG_count_61 : decode mB_TG_count 61 = .ok (.ireturn, 1) := by decide +kernel
theorem mD_TG_count_62 : decode mB_TG_count 62 = .ok (.aload_n 0, 1) := by decide +kernel
theorem mD_TG_count_63 : decode mB_TG_count 63 = .ok (.getfield 42, 3) := by decide +kernel
theorem mD_TG_count_66 : decode mB_TG_count 66 = .ok (.invokevirtual 206, 3) := by decide +kernel
theorem mD_TG_count_69 : decode mB_TG_count 69 = .ok (.ireturn, 1) := by decide +kernel
theorem mD_TG_count_70 : decode mB_TG_count 70 = .ok (.new 209, 3) := by decide +kernel
theorem mD_TG_count_73 : decode mB_TG_count 73 = .ok (.dup, 1) := by decide +kernel
theorem mD_TG_count_74 : decode mB_TG_count 74 = .ok (.ldc 211, 2) := by decide +kernel
theorem mD_TG_count_76 : decode mB_TG_count 76 = .ok (.invokespecial 213, 3) := by decide +kernel
theorem mD_TG_count_79 : decode mB_TG_count 79 = .ok (.athrow, 1) := by decide +kernel
theorem mD_TG_makeKey_0 : decode mB_TG_makeKey 0 = .ok (.aload_n 0, 1) := by decide +kernel
theorem mD_TG_makeKey_1 : decode mB_TG_makeKey 1 = .ok (.getfield 10, 3) := by decide +kernel
theorem mD_TG_makeKey_4 : decode mB_TG_makeKey 4 = .ok (.iload_n 1, 1) := by decide +kernel
theorem mD_TG_makeKey_5 : decode mB_TG_makeKey 5 = .ok (.invokevirtual 214, 3) := by decide +kernel
theorem mD_TG_makeKey_8 : decode mB_TG_makeKey 8 = .ok (.aload_n 0, 1) := by decide +kernel
theorem mD_TG_makeKey_9 : decode mB_TG_makeKey 9 = .ok (.getfield 19, 3) := by decide +kernel
theorem mD_TG_makeKey_12 : decode mB_TG_makeKey 12 = .ok (.aload_n 0, 1) := by decide +kernel
theorem mD_TG_makeKey_13 : decode mB_TG_makeKey 13 = .ok (.getfield 10, 3) := by decide +kernel
theorem mD_TG_makeKey_16 : decode mB_TG_makeKey 16 = .ok (.invokevirtual 217, 3) := by decide +kernel
theorem mD_TG_makeKey_19 : decode mB_TG_makeKey 19 = .ok (.aload_n 0, 1) := by decide +kernel
theorem mD_TG_makeKey_20 : decode mB_TG_makeKey 20 = .ok (.getfield 26, 3) := by decide +kernel
theorem mD_TG_makeKey_23 : decode mB_TG_makeKey 23 = .ok (.aload_n 0, 1) := by decide +kernel
theorem mD_TG_makeKey_24 : decode mB_TG_makeKey 24 = .ok (.getfield 19, 3) := by decide +kernel
theorem mD_TG_makeKey_27 : decode mB_TG_makeKey 27 = .ok (.aload_n 0, 1) := by decide +kernel
theorem mD_TG_makeKey_28 : decode mB_TG_makeKey 28 = .ok (.getfield 10, 3) := by decide +kernel
theorem mD_TG_makeKey_31 : decode mB_TG_makeKey 31 = .ok (.invokevirtual 221, 3) := by decide +kernel
theorem mD_TG_makeKey_34 : decode mB_TG_makeKey 34 = .ok (.return_, 1) := by decide +kernel
theorem mD_TG_cellOf_0 : decode mB_TG_cellOf 0 = .ok (.aload_n 0, 1) := by decide +kernel
theorem mD_TG_cellOf_1 : decode mB_TG_cellOf 1 = .ok (.getfield 42, 3) := by decide +kernel
theorem mD_TG_cellOf_4 : decode mB_TG_cellOf 4 = .ok (.iload_n 1, 1) := by decide +kernel
theorem mD_TG_cellOf_5 : decode mB_TG_cellOf 5 = .ok (.invokevirtual 224, 3) := by decide +kernel
theorem mD_TG_cellOf_8 : decode mB_TG_cellOf 8 = .ok (.ifCond .ne 13, 3) := by decide +kernel
theorem mD_TG_cellOf_11 : decode mB_TG_cellOf 11 = .ok (.new 170, 3) := by decide +kernel
theorem mD_TG_cellOf_14 : decode mB_TG_cellOf 14 = .ok (.dup, 1) := by decide +kernel
theorem mD_TG_cellOf_15 : decode mB_TG_cellOf 15 = .ok (.ldc 227, 2) := by decide +kernel
theorem mD_TG_cellOf_17 : decode mB_TG_cellOf 17 = .ok (.invokespecial 174, 3) := by decide +kernel
theorem mD_TG_cellOf_20 : decode mB_TG_cellOf 20 = .ok (.athrow, 1) := by decide +kernel
theorem mD_TG_cellOf_21 : decode mB_TG_cellOf 21 = .ok (.aload_n 0, 1) := by decide +kernel
theorem mD_TG_cellOf_22 : decode mB_TG_cellOf 22 = .ok (.getfield 42, 3) := by decide +kernel
theorem mD_TG_cellOf_25 : decode mB_TG_cellOf 25 = .ok (.getfield 229, 3) := by decide +kernel
theorem mD_TG_cellOf_28 : decode mB_TG_cellOf 28 = .ok (.iload_n 1, 1) := by decide +kernel
theorem mD_TG_cellOf_29 : decode mB_TG_cellOf 29 = .ok (.aaload, 1) := by decide +kernel
theorem mD_TG_cellOf_30 : decode mB_TG_cellOf 30 = .ok (.areturn, 1) := by decide +kernel
theorem mD_TG_freeNumber_0 : decode mB_TG_freeNumber 0 = .ok (.aload_n 0, 1) := by decide +kernel
theorem mD_TG_freeNumber_1 : decode mB_TG_freeNumber 1 = .ok (.getfield 42, 3) := by decide +kernel
theorem mD_TG_freeNumber_4 : decode mB_TG_freeNumber 4 = .ok (.invokevirtual 232, 3) := by decide +kernel
theorem mD_TG_freeNumber_7 : decode mB_TG_freeNumber 7 = .ok (.istore_n 1, 1) := by decide +kernel
theorem mD_TG_freeNumber_8 : decode mB_TG_freeNumber 8 = .ok (.iload_n 1, 1) := by decide +kernel
theorem mD_TG_freeNumber_9 : decode mB_TG_freeNumber 9 = .ok (.iconst (-1), 1) := by decide +kernel
theorem mD_TG_freeNumber_10 : decode mB_TG_freeNumber 10 = .ok (.if_icmp .ne 13, 3) := by decide +kernel
theorem mD_TG_freeNumber_13 : decode mB_TG_freeNumber 13 = .ok (.new 144, 3) := by decide +kernel
theorem mD_TG_freeNumber_16 : decode mB_TG_freeNumber 16 = .ok (.dup, 1) := by decide +kernel
theorem mD_TG_freeNumber_17 : decode mB_TG_freeNumber 17 = .ok (.ldc 235, 2) := by decide +kernel
theorem mD_TG_freeNumber_19 : decode mB_TG_freeNumber 19 = .ok (.invokespecial 148, 3) := by decide +kernel
theorem mD_TG_freeNumber_22 : decode mB_TG_freeNumber 22 = .ok (.athrow, 1) := by decide +kernel
theorem mD_TG_freeNumber_23 : decode mB_TG_freeNumber 23 = .ok (.iload_n 1, 1) := by decide +kernel
theorem mD_TG_freeNumber_24 : decode mB_TG_freeNumber 24 = .ok (.ireturn, 1) := by decide +kernel
theorem mD_TG_checkKind_0 : decode mB_TG_checkKind 0 = .ok (.iload_n 1, 1) := by decide +kernel
theorem mD_TG_checkKind_1 : decode mB_TG_checkKind 1 = .ok (.ifCond .lt 9, 3) := by decide +kernel
theorem mD_TG_checkKind_4 : decode mB_TG_checkKind 4 = .ok (.iload_n 1, 1) := by decide +kernel
theorem mD_TG_checkKind_5 : decode mB_TG_checkKind 5 = .ok (.bipush 7, 2) := by decide +kernel
theorem mD_TG_checkKind_7 : decode mB_TG_checkKind 7 = .ok (.if_icmp .le 13, 3) := by decide +kernel
theorem mD_TG_checkKind_10 : decode mB_TG_checkKind 10 = .ok (.new 170, 3) := by decide +kernel
theorem mD_TG_checkKind_13 : decode mB_TG_checkKind 13 = .ok (.dup, 1) := by decide +kernel
theorem mD_TG_checkKind_14 : decode mB_TG_checkKind 14 = .ok (.ldc 237, 2) := by decide +kernel
theorem mD_TG_checkKind_16 : decode mB_TG_checkKind 16 = .ok (.invokespecial 174, 3) := by decide +kernel
theorem mD_TG_checkKind_19 : decode mB_TG_checkKind 19 = .ok (.athrow, 1) := by decide +kernel
theorem mD_TG_checkKind_20 : decode mB_TG_checkKind 20 = .ok (.return_, 1) := by decide +kernel
theorem mD_TG_checkRange_0 : decode mB_TG_checkRange 0 = .ok (.iload_n 1, 1) := by decide +kernel
theorem mD_TG_checkRange_1 : decode mB_TG_checkRange 1 = .ok (.ifCond .lt 8, 3) := by decide +kernel
theorem mD_TG_checkRange_4 : decode mB_TG_checkRange 4 = .ok (.iload_n 1, 1) := by decide +kernel
theorem mD_TG_checkRange_5 : decode mB_TG_checkRange 5 = .ok (.iload_n 2, 1) := by decide +kernel
theorem mD_TG_checkRange_6 : decode mB_TG_checkRange 6 = .ok (.if_icmp .le 13, 3) := by decide +kernel
theorem mD_TG_checkRange_9 : decode mB_TG_checkRange 9 = .ok (.new 209, 3) := by decide +kernel
theorem mD_TG_checkRange_12 : decode mB_TG_checkRange 12 = .ok (.dup, 1) := by decide +kernel
theorem mD_TG_checkRange_13 : decode mB_TG_checkRange 13 = .ok (.ldc 239, 2) := by decide +kernel
theorem mD_TG_checkRange_15 : decode mB_TG_checkRange 15 = .ok (.invokespecial 213, 3) := by decide +kernel
theorem mD_TG_checkRange_18 : decode mB_TG_checkRange 18 = .ok (.athrow, 1) := by decide +kernel
theorem mD_TG_checkRange_19 : decode mB_TG_checkRange 19 = .ok (.return_, 1) := by decide +kernel
theorem mD_TG_checkedBound_0 : decode mB_TG_checkedBound 0 = .ok (.lload_n 1, 1) := by decide +kernel
theorem mD_TG_checkedBound_1 : decode mB_TG_checkedBound 1 = .ok (.ldc2_w 241, 3) := by decide +kernel
theorem mD_TG_checkedBound_4 : decode mB_TG_checkedBound 4 = .ok (.lcmp, 1) := by decide +kernel
theorem mD_TG_checkedBound_5 : decode mB_TG_checkedBound 5 = .ok (.ifCond .lt 13, 3) := by decide +kernel
theorem mD_TG_checkedBound_8 : decode mB_TG_checkedBound 8 = .ok (.new 144, 3) := by decide +kernel
theorem mD_TG_checkedBound_11 : decode mB_TG_checkedBound 11 = .ok (.dup, 1) := by decide +kernel
theorem mD_TG_checkedBound_12 : decode mB_TG_checkedBound 12 = .ok (.ldc 243, 2) := by decide +kernel
theorem mD_TG_checkedBound_14 : decode mB_TG_checkedBound 14 = .ok (.invokespecial 148, 3) := by decide +kernel
theorem mD_TG_checkedBound_17 : decode mB_TG_checkedBound 17 = .ok (.athrow, 1) := by decide +kernel
theorem mD_TG_checkedBound_18 : decode mB_TG_checkedBound 18 = .ok (.lload_n 1, 1) := by decide +kernel
theorem mD_TG_checkedBound_19 : decode mB_TG_checkedBound 19 = .ok (.l2i, 1) := by decide +kernel
theorem mD_TG_checkedBound_20 : decode mB_TG_checkedBound 20 = .ok (.ireturn, 1) := by decide +kernel
theorem mD_TG_refuseIf_0 : decode mB_TG_refuseIf 0 = .ok (.iload_n 1, 1) := by decide +kernel
theorem mD_TG_refuseIf_1 : decode mB_TG_refuseIf 1 = .ok (.ifCond .eq 23, 3) := by decide +kernel
theorem mD_TG_refuseIf_4 : decode mB_TG_refuseIf 4 = .ok (.aload_n 0, 1) := by decide +kernel
theorem mD_TG_refuseIf_5 : decode mB_TG_refuseIf 5 = .ok (.dup, 1) := by decide +kernel
theorem mD_TG_refuseIf_6 : decode mB_TG_refuseIf 6 = .ok (.getfield 203, 3) := by decide +kernel
theorem mD_TG_refuseIf_9 : decode mB_TG_refuseIf 9 = .ok (.iconst 1, 1) := by decide +kernel
theorem mD_TG_refuseIf_10 : decode mB_TG_refuseIf 10 = .ok (.iadd, 1) := by decide +kernel
theorem mD_TG_refuseIf_11 : decode mB_TG_refuseIf 11 = .ok (.putfield 203, 3) := by decide +kernel
theorem mD_TG_refuseIf_14 : decode mB_TG_refuseIf 14 = .ok (.new 144, 3) := by decide +kernel
theorem mD_TG_refuseIf_17 : decode mB_TG_refuseIf 17 = .ok (.dup, 1) := by decide +kernel
theorem mD_TG_refuseIf_18 : decode mB_TG_refuseIf 18 = .ok (.ldc 245, 2) := by decide +kernel
theorem mD_TG_refuseIf_20 : decode mB_TG_refuseIf 20 = .ok (.invokespecial 148, 3) := by decide +kernel
theorem mD_TG_refuseIf_23 : decode mB_TG_refuseIf 23 = .ok (.athrow, 1) := by decide +kernel
theorem mD_TG_refuseIf_24 : decode mB_TG_refuseIf 24 = .ok (.return_, 1) := by decide +kernel
theorem mD_TG_fillNew_0 : decode mB_TG_fillNew 0 = .ok (.aload_n 0, 1) := by decide +kernel
theorem mD_TG_fillNew_1 : decode mB_TG_fillNew 1 = .ok (.getfield 19, 3) := by decide +kernel
theorem mD_TG_fillNew_4 : decode mB_TG_fillNew 4 = .ok (.iload_n 2, 1) := by decide +kernel
theorem mD_TG_fillNew_5 : decode mB_TG_fillNew 5 = .ok (.invokestatic 162, 3) := by decide +kernel
theorem mD_TG_fillNew_8 : decode mB_TG_fillNew 8 = .ok (.aload_n 1, 1) := by decide +kernel
theorem mD_TG_fillNew_9 : decode mB_TG_fillNew 9 = .ok (.getfield 151, 3) := by decide +kernel
theorem mD_TG_fillNew_12 : decode mB_TG_fillNew 12 = .ok (.iconst 5, 1) := by decide +kernel
theorem mD_TG_fillNew_13 : decode mB_TG_fillNew 13 = .ok (.aload_n 0, 1) := by decide +kernel
theorem mD_TG_fillNew_14 : decode mB_TG_fillNew 14 = .ok (.getfield 10, 3) := by decide +kernel
theorem mD_TG_fillNew_17 : decode mB_TG_fillNew 17 = .ok (.invokevirtual 117, 3) := by decide +kernel
theorem mD_TG_fillNew_20 : decode mB_TG_fillNew 20 = .ok (.aload_n 1, 1) := by decide +kernel
theorem mD_TG_fillNew_21 : decode mB_TG_fillNew 21 = .ok (.bipush 16, 2) := by decide +kernel
theorem mD_TG_fillNew_23 : decode mB_TG_fillNew 23 = .ok (.putfield 108, 3) := by decide +kernel
theorem mD_TG_fillNew_26 : decode mB_TG_fillNew 26 = .ok (.aload_n 1, 1) := by decide +kernel
theorem mD_TG_fillNew_27 : decode mB_TG_fillNew 27 = .ok (.iload_n 2, 1) := by decide +kernel
theorem mD_TG_fillNew_28 : decode mB_TG_fillNew 28 = .ok (.putfield 158, 3) := by decide +kernel
theorem mD_TG_fillNew_31 : decode mB_TG_fillNew 31 = .ok (.return_, 1) := by decide +kernel
theorem mD_TG_runGate_0 : decode mB_TG_runGate 0 = .ok (.aload_n 0, 1) := by decide +kernel
theorem mD_TG_runGate_1 : decode mB_TG_runGate 1 = .ok (.getfield 35, 3) := by decide +kernel
theorem mD_TG_runGate_4 : decode mB_TG_runGate 4 = .ok (.iload_n 1, 1) := by decide +kernel
theorem mD_TG_runGate_5 : decode mB_TG_runGate 5 = .ok (.aload_n 2, 1) := by decide +kernel
theorem mD_TG_runGate_6 : decode mB_TG_runGate 6 = .ok (.getfield 151, 3) := by decide +kernel
theorem mD_TG_runGate_9 : decode mB_TG_runGate 9 = .ok (.aload_n 3, 1) := by decide +kernel
theorem mD_TG_runGate_10 : decode mB_TG_runGate 10 = .ok (.getfield 151, 3) := by decide +kernel
theorem mD_TG_runGate_13 : decode mB_TG_runGate 13 = .ok (.aload 4, 2) := by decide +kernel
theorem mD_TG_runGate_15 : decode mB_TG_runGate 15 = .ok (.getfield 151, 3) := by decide +kernel
theorem mD_TG_runGate_18 : decode mB_TG_runGate 18 = .ok (.invokevirtual 247, 3) := by decide +kernel
theorem mD_TG_runGate_21 : decode mB_TG_runGate 21 = .ok (.aload 4, 2) := by decide +kernel
theorem mD_TG_runGate_23 : decode mB_TG_runGate 23 = .ok (.ldc 251, 2) := by decide +kernel
theorem mD_TG_runGate_25 : decode mB_TG_runGate 25 = .ok (.putfield 108, 3) := by decide +kernel
theorem mD_TG_runGate_28 : decode mB_TG_runGate 28 = .ok (.aload 4, 2) := by decide +kernel
theorem mD_TG_runGate_30 : decode mB_TG_runGate 30 = .ok (.iload_n 1, 1) := by decide +kernel
theorem mD_TG_runGate_31 : decode mB_TG_runGate 31 = .ok (.aload_n 2, 1) := by decide +kernel
theorem mD_TG_runGate_32 : decode mB_TG_runGate 32 = .ok (.getfield 158, 3) := by decide +kernel
theorem mD_TG_runGate_35 : decode mB_TG_runGate 35 = .ok (.aload_n 3, 1) := by decide +kernel
theorem mD_TG_runGate_36 : decode mB_TG_runGate 36 = .ok (.getfield 158, 3) := by decide +kernel
theorem mD_TG_runGate_39 : decode mB_TG_runGate 39 = .ok (.invokestatic 252, 3) := by decide +kernel
theorem mD_TG_runGate_42 : decode mB_TG_runGate 42 = .ok (.putfield 158, 3) := by decide +kernel
theorem mD_TG_runGate_45 : decode mB_TG_runGate 45 = .ok (.aload_n 0, 1) := by decide +kernel
theorem mD_TG_runGate_46 : decode mB_TG_runGate 46 = .ok (.dup, 1) := by decide +kernel
theorem mD_TG_runGate_47 : decode mB_TG_runGate 47 = .ok (.getfield 200, 3) := by decide +kernel
theorem mD_TG_runGate_50 : decode mB_TG_runGate 50 = .ok (.iconst 1, 1) := by decide +kernel
theorem mD_TG_runGate_51 : decode mB_TG_runGate 51 = .ok (.iadd, 1) := by decide +kernel
theorem mD_TG_runGate_52 : decode mB_TG_runGate 52 = .ok (.putfield 200, 3) := by decide +kernel
theorem mD_TG_runGate_55 : decode mB_TG_runGate 55 = .ok (.return_, 1) := by decide +kernel
theorem mD_TG_isTooFar_0 : decode mB_TG_isTooFar 0 = .ok (.aload_n 1, 1) := by decide +kernel
theorem mD_TG_isTooFar_1 : decode mB_TG_isTooFar 1 = .ok (.getfield 108, 3) := by decide +kernel
theorem mD_TG_isTooFar_4 : decode mB_TG_isTooFar 4 = .ok (.i2l, 1) := by decide +kernel
theorem mD_TG_isTooFar_5 : decode mB_TG_isTooFar 5 = .ok (.aload_n 2, 1) := by decide +kernel
theorem mD_TG_isTooFar_6 : decode mB_TG_isTooFar 6 = .ok (.getfield 108, 3) := by decide +kernel
theorem mD_TG_isTooFar_9 : decode mB_TG_isTooFar 9 = .ok (.i2l, 1) := by decide +kernel
theorem mD_TG_isTooFar_10 : decode mB_TG_isTooFar 10 = .ok (.ladd, 1) := by decide +kernel
theorem mD_TG_isTooFar_11 : decode mB_TG_isTooFar 11 = .ok (.lstore_n 3, 1) := by decide +kernel
theorem mD_TG_isTooFar_12 : decode mB_TG_isTooFar 12 = .ok (.iload_n 0, 1) := by decide +kernel
theorem mD_TG_isTooFar_13 : decode mB_TG_isTooFar 13 = .ok (.iconst 4, 1) := by decide +kernel
theorem mD_TG_isTooFar_14 : decode mB_TG_isTooFar 14 = .ok (.if_icmp .eq 8, 3) := by decide +kernel
theorem mD_TG_isTooFar_17 : decode mB_TG_isTooFar 17 = .ok (.iload_n 0, 1) := by decide +kernel
theorem mD_TG_isTooFar_18 : decode mB_TG_isTooFar 18 = .ok (.iconst 5, 1) := by decide +kernel
theorem mD_TG_isTooFar_19 : decode mB_TG_isTooFar 19 = .ok (.if_icmp .ne 21, 3) := by decide +kernel
theorem mD_TG_isTooFar_22 : decode mB_TG_isTooFar 22 = .ok (.ldc2_w 256, 3) := by decide +kernel
theorem mD_TG_isTooFar_25 : decode mB_TG_isTooFar 25 = .ok (.lload_n 3, 1) := by decide +kernel
theorem mD_TG_isTooFar_26 : decode mB_TG_isTooFar 26 = .ok (.lmul, 1) := by decide +kernel
theorem mD_TG_isTooFar_27 : decode mB_TG_isTooFar 27 = .ok (.ldc2_w 258, 3) := by decide +kernel
theorem mD_TG_isTooFar_30 : decode mB_TG_isTooFar 30 = .ok (.lcmp, 1) := by decide +kernel
theorem mD_TG_isTooFar_31 : decode mB_TG_isTooFar 31 = .ok (.ifCond .lt 7, 3) := by decide +kernel
theorem mD_TG_isTooFar_34 : decode mB_TG_isTooFar 34 = .ok (.iconst 1, 1) := by decide +kernel
theorem mD_TG_isTooFar_35 : decode mB_TG_isTooFar 35 = .ok (.goto 4, 3) := by decide +kernel
theorem mD_TG_isTooFar_38 : decode mB_TG_isTooFar 38 = .ok (.iconst 0, 1) := by decide +kernel
theorem mD_TG_isTooFar_39 : decode mB_TG_isTooFar 39 = .ok (.ireturn, 1) := by decide +kernel
theorem mD_TG_isTooFar_40 : decode mB_TG_isTooFar 40 = .ok (.lload_n 3, 1) := by decide +kernel
theorem mD_TG_isTooFar_41 : decode mB_TG_isTooFar 41 = .ok (.ldc2_w 260, 3) := by decide +kernel
theorem mD_TG_isTooFar_44 : decode mB_TG_isTooFar 44 = .ok (.lcmp, 1) := by decide +kernel
theorem mD_TG_isTooFar_45 : decode mB_TG_isTooFar 45 = .ok (.ifCond .lt 7, 3) := by decide +kernel
theorem mD_TG_isTooFar_48 : decode mB_TG_isTooFar 48 = .ok (.iconst 1, 1) := by decide +kernel
theorem mD_TG_isTooFar_49 : decode mB_TG_isTooFar 49 = .ok (.goto 4, 3) := by decide +kernel
theorem mD_TG_isTooFar_52 : decode mB_TG_isTooFar 52 = .ok (.iconst 0, 1) := by decide +kernel
theorem mD_TG_isTooFar_53 : decode mB_TG_isTooFar 53 = .ok (.ireturn, 1) := by decide +kernel
theorem mD_TG_placeFor_0 : decode mB_TG_placeFor 0 = .ok (.iload_n 0, 1) := by decide +kernel
theorem mD_TG_placeFor_1 : decode mB_TG_placeFor 1 = .ok (.ifCond .eq 9, 3) := by decide +kernel
theorem mD_TG_placeFor_4 : decode mB_TG_placeFor 4 = .ok (.ldc_w 262, 3) := by decide +kernel
theorem mD_TG_placeFor_7 : decode mB_TG_placeFor 7 = .ok (.goto 6, 3) := by decide +kernel
theorem mD_TG_placeFor_10 : decode mB_TG_placeFor 10 = .ok (.ldc_w 263, 3) := by decide +kernel
theorem mD_TG_placeFor_13 : decode mB_TG_placeFor 13 = .ok (.ireturn, 1) := by decide +kernel
theorem mD_TG_truth_0 : decode mB_TG_truth 0 = .ok (.iload_n 0, 1) := by decide +kernel
theorem mD_TG_truth_1 : decode mB_TG_truth 1 = .ok (.tableswitch 135 0 6 #[43, 57, 71, 85, 99, 110, 121], 43) := by decide +kernel
theorem mD_TG_truth_44 : decode mB_TG_truth 44 = .ok (.iload_n 1, 1) := by decide +kernel
theorem mD_TG_truth_45 : decode mB_TG_truth 45 = .ok (.ifCond .eq 11, 3) := by decide +kernel
theorem mD_TG_truth_48 : decode mB_TG_truth 48 = .ok (.iload_n 2, 1) := by decide +kernel
theorem mD_TG_truth_49 : decode mB_TG_truth 49 = .ok (.ifCond .eq 7, 3) := by decide +kernel
theorem mD_TG_truth_52 : decode mB_TG_truth 52 = .ok (.iconst 1, 1) := by decide +kernel
theorem mD_TG_truth_53 : decode mB_TG_truth 53 = .ok (.goto 4, 3) := by decide +kernel
theorem mD_TG_truth_56 : decode mB_TG_truth 56 = .ok (.iconst 0, 1) := by decide +kernel
theorem mD_TG_truth_57 : decode mB_TG_truth 57 = .ok (.ireturn, 1) := by decide +kernel
theorem mD_TG_truth_58 : decode mB_TG_truth 58 = .ok (.iload_n 1, 1) := by decide +kernel
theorem mD_TG_truth_59 : decode mB_TG_truth 59 = .ok (.ifCond .ne 7, 3) := by decide +kernel
theorem mD_TG_truth_62 : decode mB_TG_truth 62 = .ok (.iload_n 2, 1) := by decide +kernel
theorem mD_TG_truth_63 : decode mB_TG_truth 63 = .ok (.ifCond .eq 7, 3) := by decide +kernel
theorem mD_TG_truth_66 : decode mB_TG_truth 66 = .ok (.iconst 1, 1) := by decide +kernel
theorem mD_TG_truth_67 : decode mB_TG_truth 67 = .ok (.goto 4, 3) := by decide +kernel
theorem mD_TG_truth_70 : decode mB_TG_truth 70 = .ok (.iconst 0, 1) := by decide +kernel
theorem mD_TG_truth_71 : decode mB_TG_truth 71 = .ok (.ireturn, 1) := by decide +kernel
theorem mD_TG_truth_72 : decode mB_TG_truth 72 = .ok (.iload_n 1, 1) := by decide +kernel
theorem mD_TG_truth_73 : decode mB_TG_truth 73 = .ok (.ifCond .eq 7, 3) := by decide +kernel
theorem mD_TG_truth_76 : decode mB_TG_truth 76 = .ok (.iload_n 2, 1) := by decide +kernel
theorem mD_TG_truth_77 : decode mB_TG_truth 77 = .ok (.ifCond .ne 7, 3) := by decide +kernel
theorem mD_TG_truth_80 : decode mB_TG_truth 80 = .ok (.iconst 1, 1) := by decide +kernel
theorem mD_TG_truth_81 : decode mB_TG_truth 81 = .ok (.goto 4, 3) := by decide +kernel
theorem mD_TG_truth_84 : decode mB_TG_truth 84 = .ok (.iconst 0, 1) := by decide +kernel
theorem mD_TG_truth_85 : decode mB_TG_truth 85 = .ok (.ireturn, 1) := by decide +kernel
theorem mD_TG_truth_86 : decode mB_TG_truth 86 = .ok (.iload_n 1, 1) := by decide +kernel
theorem mD_TG_truth_87 : decode mB_TG_truth 87 = .ok (.ifCond .ne 11, 3) := by decide +kernel
theorem mD_TG_truth_90 : decode mB_TG_truth 90 = .ok (.iload_n 2, 1) := by decide +kernel
theorem mD_TG_truth_91 : decode mB_TG_truth 91 = .ok (.ifCond .ne 7, 3) := by decide +kernel
theorem mD_TG_truth_94 : decode mB_TG_truth 94 = .ok (.iconst 1, 1) := by decide +kernel
theorem mD_TG_truth_95 : decode mB_TG_truth 95 = .ok (.goto 4, 3) := by decide +kernel
theorem mD_TG_truth_98 : decode mB_TG_truth 98 = .ok (.iconst 0, 1) := by decide +kernel
theorem mD_TG_truth_99 : decode mB_TG_truth 99 = .ok (.ireturn, 1) := by decide +kernel
theorem mD_TG_truth_100 : decode mB_TG_truth 100 = .ok (.iload_n 1, 1) := by decide +kernel
theorem mD_TG_truth_101 : decode mB_TG_truth 101 = .ok (.iload_n 2, 1) := by decide +kernel
theorem mD_TG_truth_102 : decode mB_TG_truth 102 = .ok (.if_icmp .eq 7, 3) := by decide +kernel
theorem mD_TG_truth_105 : decode mB_TG_truth 105 = .ok (.iconst 1, 1) := by decide +kernel
theorem mD_TG_truth_106 : decode mB_TG_truth 106 = .ok (.goto 4, 3) := by decide +kernel
theorem mD_TG_truth_109 : decode mB_TG_truth 109 = .ok (.iconst 0, 1) := by decide +kernel
theorem mD_TG_truth_110 : decode mB_TG_truth 110 = .ok (.ireturn, 1) := by decide +kernel
theorem mD_TG_truth_111 : decode mB_TG_truth 111 = .ok (.iload_n 1, 1) := by decide +kernel
theorem mD_TG_truth_112 : decode mB_TG_truth 112 = .ok (.iload_n 2, 1) := by decide +kernel
theorem mD_TG_truth_113 : decode mB_TG_truth 113 = .ok (.if_icmp .ne 7, 3) := by decide +kernel
theorem mD_TG_truth_116 : decode mB_TG_truth 116 = .ok (.iconst 1, 1) := by decide +kernel
theorem mD_TG_truth_117 : decode mB_TG_truth 117 = .ok (.goto 4, 3) := by decide +kernel
theorem mD_TG_truth_120 : decode mB_TG_truth 120 = .ok (.iconst 0, 1) := by decide +kernel
theorem mD_TG_truth_121 : decode mB_TG_truth 121 = .ok (.ireturn, 1) := by decide +kernel
theorem mD_TG_truth_122 : decode mB_TG_truth 122 = .ok (.iload_n 1, 1) := by decide +kernel
theorem mD_TG_truth_123 : decode mB_TG_truth 123 = .ok (.ifCond .eq 11, 3) := by decide +kernel
theorem mD_TG_truth_126 : decode mB_TG_truth 126 = .ok (.iload_n 2, 1) := by decide +kernel
theorem mD_TG_truth_127 : decode mB_TG_truth 127 = .ok (.ifCond .ne 7, 3) := by decide +kernel
theorem mD_TG_truth_130 : decode mB_TG_truth 130 = .ok (.iconst 1, 1) := by decide +kernel
theorem mD_TG_truth_131 : decode mB_TG_truth 131 = .ok (.goto 4, 3) := by decide +kernel
theorem mD_TG_truth_134 : decode mB_TG_truth 134 = .ok (.iconst 0, 1) := by decide +kernel
theorem mD_TG_truth_135 : decode mB_TG_truth 135 = .ok (.ireturn, 1) := by decide +kernel
theorem mD_TG_truth_136 : decode mB_TG_truth 136 = .ok (.iload_n 1, 1) := by decide +kernel
theorem mD_TG_truth_137 : decode mB_TG_truth 137 = .ok (.ifCond .ne 7, 3) := by decide +kernel
theorem mD_TG_truth_140 : decode mB_TG_truth 140 = .ok (.iload_n 2, 1) := by decide +kernel
theorem mD_TG_truth_141 : decode mB_TG_truth 141 = .ok (.ifCond .ne 7, 3) := by decide +kernel
theorem mD_TG_truth_144 : decode mB_TG_truth 144 = .ok (.iconst 1, 1) := by decide +kernel
theorem mD_TG_truth_145 : decode mB_TG_truth 145 = .ok (.goto 4, 3) := by decide +kernel
theorem mD_TG_truth_148 : decode mB_TG_truth 148 = .ok (.iconst 0, 1) := by decide +kernel
theorem mD_TG_truth_149 : decode mB_TG_truth 149 = .ok (.ireturn, 1) := by decide +kernel
theorem mD_Mo_init_0 : decode mB_Mo_init 0 = .ok (.aload_n 0, 1) := by decide +kernel
theorem mD_Mo_init_1 : decode mB_Mo_init 1 = .ok (.invokespecial 1, 3) := by decide +kernel
theorem mD_Mo_init_4 : decode mB_Mo_init 4 = .ok (.aload_n 0, 1) := by decide +kernel
theorem mD_Mo_init_5 : decode mB_Mo_init 5 = .ok (.bipush 120, 2) := by decide +kernel
theorem mD_Mo_init_7 : decode mB_Mo_init 7 = .ok (.newarray .boolean, 2) := by decide +kernel
theorem mD_Mo_init_9 : decode mB_Mo_init 9 = .ok (.putfield 7, 3) := by decide +kernel
theorem mD_Mo_init_12 : decode mB_Mo_init 12 = .ok (.aload_n 0, 1) := by decide +kernel
theorem mD_Mo_init_13 : decode mB_Mo_init 13 = .ok (.bipush 120, 2) := by decide +kernel
theorem mD_Mo_init_15 : decode mB_Mo_init 15 = .ok (.newarray .boolean, 2) := by decide +kernel
theorem mD_Mo_init_17 : decode mB_Mo_init 17 = .ok (.putfield 13, 3) := by decide +kernel
theorem mD_Mo_init_20 : decode mB_Mo_init 20 = .ok (.aload_n 0, 1) := by decide +kernel
theorem mD_Mo_init_21 : decode mB_Mo_init 21 = .ok (.bipush 120, 2) := by decide +kernel
theorem mD_Mo_init_23 : decode mB_Mo_init 23 = .ok (.newarray .int, 2) := by decide +kernel
theorem mD_Mo_init_25 : decode mB_Mo_init 25 = .ok (.putfield 16, 3) := by decide +kernel
theorem mD_Mo_init_28 : decode mB_Mo_init 28 = .ok (.aload_n 0, 1) := by decide +kernel
theorem mD_Mo_init_29 : decode mB_Mo_init 29 = .ok (.bipush 24, 2) := by decide +kernel
theorem mD_Mo_init_31 : decode mB_Mo_init 31 = .ok (.newarray .int, 2) := by decide +kernel
theorem mD_Mo_init_33 : decode mB_Mo_init 33 = .ok (.putfield 20, 3) := by decide +kernel
theorem mD_Mo_init_36 : decode mB_Mo_init 36 = .ok (.aload_n 0, 1) := by decide +kernel
theorem mD_Mo_init_37 : decode mB_Mo_init 37 = .ok (.bipush 24, 2) := by decide +kernel
theorem mD_Mo_init_39 : decode mB_Mo_init 39 = .ok (.newarray .int, 2) := by decide +kernel
theorem mD_Mo_init_41 : decode mB_Mo_init 41 = .ok (.putfield 23, 3) := by decide +kernel
theorem mD_Mo_init_44 : decode mB_Mo_init 44 = .ok (.aload_n 0, 1) := by decide +kernel
theorem mD_Mo_init_45 : decode mB_Mo_init 45 = .ok (.bipush 24, 2) := by decide +kernel
theorem mD_Mo_init_47 : decode mB_Mo_init 47 = .ok (.newarray .int, 2) := by decide +kernel
theorem mD_Mo_init_49 : decode mB_Mo_init 49 = .ok (.putfield 26, 3) := by decide +kernel
theorem mD_Mo_init_52 : decode mB_Mo_init 52 = .ok (.aload_n 0, 1) := by decide +kernel
theorem mD_Mo_init_53 : decode mB_Mo_init 53 = .ok (.bipush 32, 2) := by decide +kernel
theorem mD_Mo_init_55 : decode mB_Mo_init 55 = .ok (.newarray .boolean, 2) := by decide +kernel
theorem mD_Mo_init_57 : decode mB_Mo_init 57 = .ok (.putfield 29, 3) := by decide +kernel
theorem mD_Mo_init_60 : decode mB_Mo_init 60 = .ok (.return_, 1) := by decide +kernel
theorem mD_Mo_thrown_0 : decode mB_Mo_thrown 0 = .ok (.aload_n 0, 1) := by decide +kernel
theorem mD_Mo_thrown_1 : decode mB_Mo_thrown 1 = .ok (.getfield 32, 3) := by decide +kernel
theorem mD_Mo_thrown_4 : decode mB_Mo_thrown 4 = .ok (.ireturn, 1) := by decide +kernel
theorem mD_Mo_goes_0 : decode mB_Mo_goes 0 = .ok (.aload_n 0, 1) := by decide +kernel
theorem mD_Mo_goes_1 : decode mB_Mo_goes 1 = .ok (.iload_n 1, 1) := by decide +kernel
theorem mD_Mo_goes_2 : decode mB_Mo_goes 2 = .ok (.ifCond .ne 7, 3) := by decide +kernel
theorem mD_Mo_goes_5 : decode mB_Mo_goes 5 = .ok (.iconst 1, 1) := by decide +kernel
theorem mD_Mo_goes_6 : decode mB_Mo_goes 6 = .ok (.goto 20, 3) := by decide +kernel
theorem mD_Mo_goes_9 : decode mB_Mo_goes 9 = .ok (.iload_n 2, 1) := by decide +kernel
theorem mD_Mo_goes_10 : decode mB_Mo_goes 10 = .ok (.ifCond .ne 7, 3) := by decide +kernel
theorem mD_Mo_goes_13 : decode mB_Mo_goes 13 = .ok (.iconst 2, 1) := by decide +kernel
theorem mD_Mo_goes_14 : decode mB_Mo_goes 14 = .ok (.goto 12, 3) := by decide +kernel
theorem mD_Mo_goes_17 : decode mB_Mo_goes 17 = .ok (.iload_n 3, 1) := by decide +kernel
theorem mD_Mo_goes_18 : decode mB_Mo_goes 18 = .ok (.ifCond .ne 7, 3) := by decide +kernel
theorem mD_Mo_goes_21 : decode mB_Mo_goes 21 = .ok (.iconst 3, 1) := by decide +kernel
theorem mD_Mo_goes_22 : decode mB_Mo_goes 22 = .ok (.goto 4, 3) := by decide +kernel
theorem mD_Mo_goes_25 : decode mB_Mo_goes 25 = .ok (.iconst 0, 1) := by decide +kernel
theorem mD_Mo_goes_26 : decode mB_Mo_goes 26 = .ok (.putfield 32, 3) := by decide +kernel
theorem mD_Mo_goes_29 : decode mB_Mo_goes 29 = .ok (.aload_n 0, 1) := by decide +kernel
theorem mD_Mo_goes_30 : decode mB_Mo_goes 30 = .ok (.getfield 32, 3) := by decide +kernel
theorem mD_Mo_goes_33 : decode mB_Mo_goes 33 = .ok (.ifCond .ne 7, 3) := by decide +kernel
theorem mD_Mo_goes_36 : decode mB_Mo_goes 36 = .ok (.iconst 1, 1) := by decide +kernel
theorem mD_Mo_goes_37 : decode mB_Mo_goes 37 = .ok (.goto 4, 3) := by decide +kernel
theorem mD_Mo_goes_40 : decode mB_Mo_goes 40 = .ok (.iconst 0, 1) := by decide +kernel
theorem mD_Mo_goes_41 : decode mB_Mo_goes 41 = .ok (.ireturn, 1) := by decide +kernel
theorem mD_Mo_isBit_0 : decode mB_Mo_isBit 0 = .ok (.iload_n 1, 1) := by decide +kernel
theorem mD_Mo_isBit_1 : decode mB_Mo_isBit 1 = .ok (.ifCond .lt 22, 3) := by decide +kernel
theorem mD_Mo_isBit_4 : decode mB_Mo_isBit 4 = .ok (.iload_n 1, 1) := by decide +kernel
theorem mD_Mo_isBit_5 : decode mB_Mo_isBit 5 = .ok (.bipush 120, 2) := by decide +kernel
theorem mD_Mo_isBit_7 : decode mB_Mo_isBit 7 = .ok (.if_icmp .ge 16, 3) := by decide +kernel
theorem mD_Mo_isBit_10 : decode mB_Mo_isBit 10 = .ok (.aload_n 0, 1) := by decide +kernel
theorem mD_Mo_isBit_11 : decode mB_Mo_isBit 11 = .ok (.getfield 7, 3) := by decide +kernel
theorem mD_Mo_isBit_14 : decode mB_Mo_isBit 14 = .ok (.iload_n 1, 1) := by decide +kernel
theorem mD_Mo_isBit_15 : decode mB_Mo_isBit 15 = .ok (.baload, 1) := by decide +kernel
theorem mD_Mo_isBit_16 : decode mB_Mo_isBit 16 = .ok (.ifCond .eq 7, 3) := by decide +kernel
theorem mD_Mo_isBit_19 : decode mB_Mo_isBit 19 = .ok (.iconst 1, 1) := by decide +kernel
theorem mD_Mo_isBit_20 : decode mB_Mo_isBit 20 = .ok (.goto 4, 3) := by decide +kernel
theorem mD_Mo_isBit_23 : decode mB_Mo_isBit 23 = .ok (.iconst 0, 1) := by decide +kernel
theorem mD_Mo_isBit_24 : decode mB_Mo_isBit 24 = .ok (.ireturn, 1) := by decide +kernel
theorem mD_Mo_many_0 : decode mB_Mo_many 0 = .ok (.iconst 0, 1) := by decide +kernel
theorem mD_Mo_many_1 : decode mB_Mo_many 1 = .ok (.istore_n 1, 1) := by decide +kernel
theorem mD_Mo_many_2 : decode mB_Mo_many 2 = .ok (.iconst 0, 1) := by decide +kernel
theorem mD_Mo_many_3 : decode mB_Mo_many 3 = .ok (.istore_n 2, 1) := by decide +kernel
theorem mD_Mo_many_4 : decode mB_Mo_many 4 = .ok (.iload_n 2, 1) := by decide +kernel
theorem mD_Mo_many_5 : decode mB_Mo_many 5 = .ok (.bipush 120, 2) := by decide +kernel
theorem mD_Mo_many_7 : decode mB_Mo_many 7 = .ok (.if_icmp .ge 26, 3) := by decide +kernel
theorem mD_Mo_many_10 : decode mB_Mo_many 10 = .ok (.aload_n 0, 1) := by decide +kernel
theorem mD_Mo_many_11 : decode mB_Mo_many 11 = .ok (.getfield 7, 3) := by decide +kernel
theorem mD_Mo_many_14 : decode mB_Mo_many 14 = .ok (.iload_n 2, 1) := by decide +kernel
theorem mD_Mo_many_15 : decode mB_Mo_many 15 = .ok (.baload, 1) := by decide +kernel
theorem mD_Mo_many_16 : decode mB_Mo_many 16 = .ok (.ifCond .eq 9, 3) := by decide +kernel
theorem mD_Mo_many_19 : decode mB_Mo_many 19 = .ok (.iload_n 1, 1) := by decide +kernel
theorem mD_Mo_many_20 : decode mB_Mo_many 20 = .ok (.iconst 1, 1) := by decide +kernel
theorem mD_Mo_many_21 : decode mB_Mo_many 21 = .ok (.iadd, 1) := by decide +kernel
theorem mD_Mo_many_22 : decode mB_Mo_many 22 = .ok (.goto 4, 3) := by decide +kernel
theorem mD_Mo_many_25 : decode mB_Mo_many 25 = .ok (.iload_n 1, 1) := by decide +kernel
theorem mD_Mo_many_26 : decode mB_Mo_many 26 = .ok (.istore_n 1, 1) := by decide +kernel
theorem mD_Mo_many_27 : decode mB_Mo_many 27 = .ok (.iinc 2 1, 3) := by decide +kernel
theorem mD_Mo_many_30 : decode mB_Mo_many 30 = .ok (.goto (-26), 3) := by decide +kernel
theorem mD_Mo_many_33 : decode mB_Mo_many 33 = .ok (.iload_n 1, 1) := by decide +kernel
theorem mD_Mo_many_34 : decode mB_Mo_many 34 = .ok (.ireturn, 1) := by decide +kernel
theorem mD_Mo_made_0 : decode mB_Mo_made 0 = .ok (.iconst 0, 1) := by decide +kernel
theorem mD_Mo_made_1 : decode mB_Mo_made 1 = .ok (.istore_n 3, 1) := by decide +kernel
theorem mD_Mo_made_2 : decode mB_Mo_made 2 = .ok (.aload_n 0, 1) := by decide +kernel
theorem mD_Mo_made_3 : decode mB_Mo_made 3 = .ok (.getfield 7, 3) := by decide +kernel
theorem mD_Mo_made_6 : decode mB_Mo_made 6 = .ok (.iload_n 3, 1) := by decide +kernel
theorem mD_Mo_made_7 : decode mB_Mo_made 7 = .ok (.baload, 1) := by decide +kernel
theorem mD_Mo_made_8 : decode mB_Mo_made 8 = .ok (.ifCond .eq 9, 3) := by decide +kernel
theorem mD_Mo_made_11 : decode mB_Mo_made 11 = .ok (.iinc 3 1, 3) := by decide +kernel
theorem mD_Mo_made_14 : decode mB_Mo_made 14 = .ok (.goto (-12), 3) := by decide +kernel
theorem mD_Mo_made_17 : decode mB_Mo_made 17 = .ok (.aload_n 0, 1) := by decide +kernel
theorem mD_Mo_made_18 : decode mB_Mo_made 18 = .ok (.getfield 7, 3) := by decide +kernel
theorem mD_Mo_made_21 : decode mB_Mo_made 21 = .ok (.iload_n 3, 1) := by decide +kernel
theorem mD_Mo_made_22 : decode mB_Mo_made 22 = .ok (.iconst 1, 1) := by decide +kernel
theorem mD_Mo_made_23 : decode mB_Mo_made 23 = .ok (.bastore, 1) := by decide +kernel
theorem mD_Mo_made_24 : decode mB_Mo_made 24 = .ok (.aload_n 0, 1) := by decide +kernel
theorem mD_Mo_made_25 : decode mB_Mo_made 25 = .ok (.getfield 13, 3) := by decide +kernel
theorem mD_Mo_made_28 : decode mB_Mo_made 28 = .ok (.iload_n 3, 1) := by decide +kernel
theorem mD_Mo_made_29 : decode mB_Mo_made 29 = .ok (.iload_n 1, 1) := by decide +kernel
theorem mD_Mo_made_30 : decode mB_Mo_made 30 = .ok (.bastore, 1) := by decide +kernel
theorem mD_Mo_made_31 : decode mB_Mo_made 31 = .ok (.aload_n 0, 1) := by decide +kernel
theorem mD_Mo_made_32 : decode mB_Mo_made 32 = .ok (.getfield 16, 3) := by decide +kernel
theorem mD_Mo_made_35 : decode mB_Mo_made 35 = .ok (.iload_n 3, 1) := by decide +kernel
theorem mD_Mo_made_36 : decode mB_Mo_made 36 = .ok (.iload_n 2, 1) := by decide +kernel
theorem mD_Mo_made_37 : decode mB_Mo_made 37 = .ok (.iastore, 1) := by decide +kernel
theorem mD_Mo_made_38 : decode mB_Mo_made 38 = .ok (.iload_n 3, 1) := by decide +kernel
theorem mD_Mo_made_39 : decode mB_Mo_made 39 = .ok (.ireturn, 1) := by decide +kernel
theorem mD_Mo_key_0 : decode mB_Mo_key 0 = .ok (.aload_n 0, 1) := by decide +kernel
theorem mD_Mo_key_1 : decode mB_Mo_key 1 = .ok (.iconst 0, 1) := by decide +kernel
theorem mD_Mo_key_2 : decode mB_Mo_key 2 = .ok (.putfield 32, 3) := by decide +kernel
theorem mD_Mo_key_5 : decode mB_Mo_key 5 = .ok (.aload_n 0, 1) := by decide +kernel
theorem mD_Mo_key_6 : decode mB_Mo_key 6 = .ok (.invokevirtual 36, 3) := by decide +kernel
theorem mD_Mo_key_9 : decode mB_Mo_key 9 = .ok (.istore_n 2, 1) := by decide +kernel
theorem mD_Mo_key_10 : decode mB_Mo_key 10 = .ok (.iconst 0, 1) := by decide +kernel
theorem mD_Mo_key_11 : decode mB_Mo_key 11 = .ok (.istore_n 3, 1) := by decide +kernel
theorem mD_Mo_key_12 : decode mB_Mo_key 12 = .ok (.iload_n 3, 1) := by decide +kernel
theorem mD_Mo_key_13 : decode mB_Mo_key 13 = .ok (.bipush 120, 2) := by decide +kernel
theorem mD_Mo_key_15 : decode mB_Mo_key 15 = .ok (.if_icmp .ge 16, 3) := by decide +kernel
theorem mD_Mo_key_18 : decode mB_Mo_key 18 = .ok (.aload_n 0, 1) := by decide +kernel
theorem mD_Mo_key_19 : decode mB_Mo_key 19 = .ok (.getfield 7, 3) := by decide +kernel
theorem mD_Mo_key_22 : decode mB_Mo_key 22 = .ok (.iload_n 3, 1) := by decide +kernel
theorem mD_Mo_key_23 : decode mB_Mo_key 23 = .ok (.iconst 0, 1) := by decide +kernel
theorem mD_Mo_key_24 : decode mB_Mo_key 24 = .ok (.bastore, 1) := by decide +kernel
theorem mD_Mo_key_25 : decode mB_Mo_key 25 = .ok (.iinc 3 1, 3) := by decide +kernel
theorem mD_Mo_key_28 : decode mB_Mo_key 28 = .ok (.goto (-16), 3) := by decide +kernel
theorem mD_Mo_key_31 : decode mB_Mo_key 31 = .ok (.iload_n 2, 1) := by decide +kernel
theorem mD_Mo_key_32 : decode mB_Mo_key 32 = .ok (.ireturn, 1) := by decide +kernel
theorem mD_Mo_bit_0 : decode mB_Mo_bit 0 = .ok (.aload_n 0, 1) := by decide +kernel
theorem mD_Mo_bit_1 : decode mB_Mo_bit 1 = .ok (.aload_n 0, 1) := by decide +kernel
theorem mD_Mo_bit_2 : decode mB_Mo_bit 2 = .ok (.invokevirtual 36, 3) := by decide +kernel
theorem mD_Mo_bit_5 : decode mB_Mo_bit 5 = .ok (.bipush 120, 2) := by decide +kernel
theorem mD_Mo_bit_7 : decode mB_Mo_bit 7 = .ok (.if_icmp .ge 7, 3) := by decide +kernel
theorem mD_Mo_bit_10 : decode mB_Mo_bit 10 = .ok (.iconst 1, 1) := by decide +kernel
theorem mD_Mo_bit_11 : decode mB_Mo_bit 11 = .ok (.goto 4, 3) := by decide +kernel
theorem mD_Mo_bit_14 : decode mB_Mo_bit 14 = .ok (.iconst 0, 1) := by decide +kernel
theorem mD_Mo_bit_15 : decode mB_Mo_bit 15 = .ok (.iconst 1, 1) := by decide +kernel
theorem mD_Mo_bit_16 : decode mB_Mo_bit 16 = .ok (.iconst 1, 1) := by decide +kernel
theorem mD_Mo_bit_17 : decode mB_Mo_bit 17 = .ok (.invokevirtual 40, 3) := by decide +kernel
theorem mD_Mo_bit_20 : decode mB_Mo_bit 20 = .ok (.ifCond .eq 13, 3) := by decide +kernel
theorem mD_Mo_bit_23 : decode mB_Mo_bit 23 = .ok (.aload_n 0, 1) := by decide +kernel
theorem mD_Mo_bit_24 : decode mB_Mo_bit 24 = .ok (.iload_n 1, 1) := by decide +kernel
theorem mD_Mo_bit_25 : decode mB_Mo_bit 25 = .ok (.bipush 16, 2) := by decide +kernel
theorem mD_Mo_bit_27 : decode mB_Mo_bit 27 = .ok (.invokevirtual 44, 3) := by decide +kernel
theorem mD_Mo_bit_30 : decode mB_Mo_bit 30 = .ok (.goto 4, 3) := by decide +kernel
theorem mD_Mo_bit_33 : decode mB_Mo_bit 33 = .ok (.iconst 0, 1) := by decide +kernel
theorem mD_Mo_bit_34 : decode mB_Mo_bit 34 = .ok (.ireturn, 1) := by decide +kernel
theorem mD_Mo_drop_0 : decode mB_Mo_drop 0 = .ok (.aload_n 0, 1) := by decide +kernel
theorem mD_Mo_drop_1 : decode mB_Mo_drop 1 = .ok (.aload_n 0, 1) := by decide +kernel
theorem mD_Mo_drop_2 : decode mB_Mo_drop 2 = .ok (.iload_n 1, 1) := by decide +kernel
theorem mD_Mo_drop_3 : decode mB_Mo_drop 3 = .ok (.invokevirtual 48, 3) := by decide +kernel
theorem mD_Mo_drop_6 : decode mB_Mo_drop 6 = .ok (.iconst 1, 1) := by decide +kernel
theorem mD_Mo_drop_7 : decode mB_Mo_drop 7 = .ok (.iconst 1, 1) := by decide +kernel
theorem mD_Mo_drop_8 : decode mB_Mo_drop 8 = .ok (.invokevirtual 40, 3) := by decide +kernel
theorem mD_Mo_drop_11 : decode mB_Mo_drop 11 = .ok (.ifCond .ne 5, 3) := by decide +kernel
theorem mD_Mo_drop_14 : decode mB_Mo_drop 14 = .ok (.iconst 0, 1) := by decide +kernel
theorem mD_Mo_drop_15 : decode mB_Mo_drop 15 = .ok (.ireturn, 1) := by decide +kernel
theorem mD_Mo_drop_16 : decode mB_Mo_drop 16 = .ok (.aload_n 0, 1) := by decide +kernel
theorem mD_Mo_drop_17 : decode mB_Mo_drop 17 = .ok (.getfield 7, 3) := by decide +kernel
theorem mD_Mo_drop_20 : decode mB_Mo_drop 20 = .ok (.iload_n 1, 1) := by decide +kernel
theorem mD_Mo_drop_21 : decode mB_Mo_drop 21 = .ok (.iconst 0, 1) := by decide +kernel
theorem mD_Mo_drop_22 : decode mB_Mo_drop 22 = .ok (.bastore, 1) := by decide +kernel
theorem mD_Mo_drop_23 : decode mB_Mo_drop 23 = .ok (.aload_n 0, 1) := by decide +kernel
theorem mD_Mo_drop_24 : decode mB_Mo_drop 24 = .ok (.invokevirtual 36, 3) := by decide +kernel
theorem mD_Mo_drop_27 : decode mB_Mo_drop 27 = .ok (.ireturn, 1) := by decide +kernel
theorem mD_Mo_not_0 : decode mB_Mo_not 0 = .ok (.aload_n 0, 1) := by decide +kernel
theorem mD_Mo_not_1 : decode mB_Mo_not 1 = .ok (.aload_n 0, 1) := by decide +kernel
theorem mD_Mo_not_2 : decode mB_Mo_not 2 = .ok (.iload_n 1, 1) := by decide +kernel
theorem mD_Mo_not_3 : decode mB_Mo_not 3 = .ok (.invokevirtual 48, 3) := by decide +kernel
theorem mD_Mo_not_6 : decode mB_Mo_not 6 = .ok (.aload_n 0, 1) := by decide +kernel
theorem mD_Mo_not_7 : decode mB_Mo_not 7 = .ok (.invokevirtual 36, 3) := by decide +kernel
theorem mD_Mo_not_10 : decode mB_Mo_not 10 = .ok (.bipush 120, 2) := by decide +kernel
theorem mD_Mo_not_12 : decode mB_Mo_not 12 = .ok (.if_icmp .ge 7, 3) := by decide +kernel
theorem mD_Mo_not_15 : decode mB_Mo_not 15 = .ok (.iconst 1, 1) := by decide +kernel
theorem mD_Mo_not_16 : decode mB_Mo_not 16 = .ok (.goto 4, 3) := by decide +kernel
theorem mD_Mo_not_19 : decode mB_Mo_not 19 = .ok (.iconst 0, 1) := by decide +kernel
theorem mD_Mo_not_20 : decode mB_Mo_not 20 = .ok (.iconst 1, 1) := by decide +kernel
theorem mD_Mo_not_21 : decode mB_Mo_not 21 = .ok (.invokevirtual 40, 3) := by decide +kernel
theorem mD_Mo_not_24 : decode mB_Mo_not 24 = .ok (.ifCond .eq 30, 3) := by decide +kernel
theorem mD_Mo_not_27 : decode mB_Mo_not 27 = .ok (.aload_n 0, 1) := by decide +kernel
theorem mD_Mo_not_28 : decode mB_Mo_not 28 = .ok (.aload_n 0, 1) := by decide +kernel
theorem mD_Mo_not_29 : decode mB_Mo_not 29 = .ok (.getfield 13, 3) := by decide +kernel
theorem mD_Mo_not_32 : decode mB_Mo_not 32 = .ok (.iload_n 1, 1) := by decide +kernel
theorem mD_Mo_not_33 : decode mB_Mo_not 33 = .ok (.baload, 1) := by decide +kernel
theorem mD_Mo_not_34 : decode mB_Mo_not 34 = .ok (.ifCond .ne 7, 3) := by decide +kernel
theorem mD_Mo_not_37 : decode mB_Mo_not 37 = .ok (.iconst 1, 1) := by decide +kernel
theorem mD_Mo_not_38 : decode mB_Mo_not 38 = .ok (.goto 4, 3) := by decide +kernel
theorem mD_Mo_not_41 : decode mB_Mo_not 41 = .ok (.iconst 0, 1) := by decide +kernel
theorem mD_Mo_not_42 : decode mB_Mo_not 42 = .ok (.aload_n 0, 1) := by decide +kernel
theorem mD_Mo_not_43 : decode mB_Mo_not 43 = .ok (.getfield 16, 3) := by decide +kernel
theorem mD_Mo_not_46 : decode mB_Mo_not 46 = .ok (.iload_n 1, 1) := by decide +kernel
theorem mD_Mo_not_47 : decode mB_Mo_not 47 = .ok (.iaload, 1) := by decide +kernel
theorem mD_Mo_not_48 : decode mB_Mo_not 48 = .ok (.invokevirtual 44, 3) := by decide +kernel
theorem mD_Mo_not_51 : decode mB_Mo_not 51 = .ok (.goto 4, 3) := by decide +kernel
theorem mD_Mo_not_54 : decode mB_Mo_not 54 = .ok (.iconst 0, 1) := by decide +kernel
theorem mD_Mo_not_55 : decode mB_Mo_not 55 = .ok (.ireturn, 1) := by decide +kernel
theorem mD_Mo_bounded_0 : decode mB_Mo_bounded 0 = .ok (.aload_n 0, 1) := by decide +kernel
theorem mD_Mo_bounded_1 : decode mB_Mo_bounded 1 = .ok (.getfield 16, 3) := by decide +kernel
theorem mD_Mo_bounded_4 : decode mB_Mo_bounded 4 = .ok (.iload_n 1, 1) := by decide +kernel
theorem mD_Mo_bounded_5 : decode mB_Mo_bounded 5 = .ok (.lload_n 2, 1) := by decide +kernel
theorem mD_Mo_bounded_6 : decode mB_Mo_bounded 6 = .ok (.l2i, 1) := by decide +kernel
theorem mD_Mo_bounded_7 : decode mB_Mo_bounded 7 = .ok (.iastore, 1) := by decide +kernel
theorem mD_Mo_bounded_8 : decode mB_Mo_bounded 8 = .ok (.aload_n 0, 1) := by decide +kernel
theorem mD_Mo_bounded_9 : decode mB_Mo_bounded 9 = .ok (.getfield 16, 3) := by decide +kernel
theorem mD_Mo_bounded_12 : decode mB_Mo_bounded 12 = .ok (.iload_n 1, 1) := by decide +kernel
theorem mD_Mo_bounded_13 : decode mB_Mo_bounded 13 = .ok (.iaload, 1) := by decide +kernel
theorem mD_Mo_bounded_14 : decode mB_Mo_bounded 14 = .ok (.ireturn, 1) := by decide +kernel
theorem mD_Mo_blur_0 : decode mB_Mo_blur 0 = .ok (.aload_n 0, 1) := by decide +kernel
theorem mD_Mo_blur_1 : decode mB_Mo_blur 1 = .ok (.iload_n 1, 1) := by decide +kernel
theorem mD_Mo_blur_2 : decode mB_Mo_blur 2 = .ok (.invokevirtual 48, 3) := by decide +kernel
theorem mD_Mo_blur_5 : decode mB_Mo_blur 5 = .ok (.istore_n 3, 1) := by decide +kernel
theorem mD_Mo_blur_6 : decode mB_Mo_blur 6 = .ok (.iload_n 3, 1) := by decide +kernel
theorem mD_Mo_blur_7 : decode mB_Mo_blur 7 = .ok (.ifCond .eq 20, 3) := by decide +kernel
theorem mD_Mo_blur_10 : decode mB_Mo_blur 10 = .ok (.aload_n 0, 1) := by decide +kernel
theorem mD_Mo_blur_11 : decode mB_Mo_blur 11 = .ok (.getfield 16, 3) := by decide +kernel
theorem mD_Mo_blur_14 : decode mB_Mo_blur 14 = .ok (.iload_n 1, 1) := by decide +kernel
theorem mD_Mo_blur_15 : decode mB_Mo_blur 15 = .ok (.iaload, 1) := by decide +kernel
theorem mD_Mo_blur_16 : decode mB_Mo_blur 16 = .ok (.i2l, 1) := by decide +kernel
theorem mD_Mo_blur_17 : decode mB_Mo_blur 17 = .ok (.ldc2_w 52, 3) := by decide +kernel
theorem mD_Mo_blur_20 : decode mB_Mo_blur 20 = .ok (.iload_n 2, 1) := by decide +kernel
theorem mD_Mo_blur_21 : decode mB_Mo_blur 21 = .ok (.i2l, 1) := by decide +kernel
theorem mD_Mo_blur_22 : decode mB_Mo_blur 22 = .ok (.lmul, 1) := by decide +kernel
theorem mD_Mo_blur_23 : decode mB_Mo_blur 23 = .ok (.ladd, 1) := by decide +kernel
theorem mD_Mo_blur_24 : decode mB_Mo_blur 24 = .ok (.goto 4, 3) := by decide +kernel
theorem mD_Mo_blur_27 : decode mB_Mo_blur 27 = .ok (.lconst 0, 1) := by decide +kernel
theorem mD_Mo_blur_28 : decode mB_Mo_blur 28 = .ok (.lstore 4, 2) := by decide +kernel
theorem mD_Mo_blur_30 : decode mB_Mo_blur 30 = .ok (.aload_n 0, 1) := by decide +kernel
theorem mD_Mo_blur_31 : decode mB_Mo_blur 31 = .ok (.iload_n 3, 1) := by decide +kernel
theorem mD_Mo_blur_32 : decode mB_Mo_blur 32 = .ok (.iload_n 2, 1) := by decide +kernel
theorem mD_Mo_blur_33 : decode mB_Mo_blur 33 = .ok (.ifCond .lt 14, 3) := by decide +kernel
theorem mD_Mo_blur_36 : decode mB_Mo_blur 36 = .ok (.iload_n 2, 1) := by decide +kernel
theorem mD_Mo_blur_37 : decode mB_Mo_blur 37 = .ok (.sipush 1000, 3) := by decide +kernel
theorem mD_Mo_blur_40 : decode mB_Mo_blur 40 = .ok (.if_icmp .gt 7, 3) := by decide +kernel
theorem mD_Mo_blur_43 : decode mB_Mo_blur 43 = .ok (.iconst 1, 1) := by decide +kernel
theorem mD_Mo_blur_44 : decode mB_Mo_blur 44 = .ok (.goto 4, 3) := by decide +kernel
theorem mD_Mo_blur_47 : decode mB_Mo_blur 47 = .ok (.iconst 0, 1) := by decide +kernel
theorem mD_Mo_blur_48 : decode mB_Mo_blur 48 = .ok (.lload 4, 2) := by decide +kernel
theorem mD_Mo_blur_50 : decode mB_Mo_blur 50 = .ok (.ldc2_w 54, 3) := by decide +kernel
theorem mD_Mo_blur_53 : decode mB_Mo_blur 53 = .ok (.lcmp, 1) := by decide +kernel
theorem mD_Mo_blur_54 : decode mB_Mo_blur 54 = .ok (.ifCond .ge 7, 3) := by decide +kernel
theorem mD_Mo_blur_57 : decode mB_Mo_blur 57 = .ok (.iconst 1, 1) := by decide +kernel
theorem mD_Mo_blur_58 : decode mB_Mo_blur 58 = .ok (.goto 4, 3) := by decide +kernel
theorem mD_Mo_blur_61 : decode mB_Mo_blur 61 = .ok (.iconst 0, 1) := by decide +kernel
theorem mD_Mo_blur_62 : decode mB_Mo_blur 62 = .ok (.invokevirtual 40, 3) := by decide +kernel
theorem mD_Mo_blur_65 : decode mB_Mo_blur 65 = .ok (.ifCond .eq 13, 3) := by decide +kernel
theorem mD_Mo_blur_68 : decode mB_Mo_blur 68 = .ok (.aload_n 0, 1) := by decide +kernel
theorem mD_Mo_blur_69 : decode mB_Mo_blur 69 = .ok (.iload_n 1, 1) := by decide +kernel
theorem mD_Mo_blur_70 : decode mB_Mo_blur 70 = .ok (.lload 4, 2) := by decide +kernel
theorem mD_Mo_blur_72 : decode mB_Mo_blur 72 = .ok (.invokevirtual 56, 3) := by decide +kernel
theorem mD_Mo_blur_75 : decode mB_Mo_blur 75 = .ok (.goto 4, 3) := by decide +kernel
theorem mD_Mo_blur_78 : decode mB_Mo_blur 78 = .ok (.iconst 0, 1) := by decide +kernel
theorem mD_Mo_blur_79 : decode mB_Mo_blur 79 = .ok (.ireturn, 1) := by decide +kernel
end
section
theorem mD_Mo_pile_0 : decode mB_Mo_pile 0 = .ok (.aload_n 0, 1) := by decide +kernel
theorem mD_Mo_pile_1 : decode mB_Mo_pile 1 = .ok (.iload_n 1, 1) := by decide +kernel
theorem mD_Mo_pile_2 : decode mB_Mo_pile 2 = .ok (.invokevirtual 48, 3) := by decide +kernel
theorem mD_Mo_pile_5 : decode mB_Mo_pile 5 = .ok (.istore_n 3, 1) := by decide +kernel
theorem mD_Mo_pile_6 : decode mB_Mo_pile 6 = .ok (.iload_n 3, 1) := by decide +kernel
theorem mD_Mo_pile_7 : decode mB_Mo_pile 7 = .ok (.ifCond .eq 22, 3) := by decide +kernel
theorem mD_Mo_pile_10 : decode mB_Mo_pile 10 = .ok (.aload_n 0, 1) := by decide +kernel
theorem mD_Mo_pile_11 : decode mB_Mo_pile 11 = .ok (.getfield 16, 3) := by decide +kernel
theorem mD_Mo_pile_14 : decode mB_Mo_pile 14 = .ok (.iload_n 1, 1) := by decide +kernel
theorem mD_Mo_pile_15 : decode mB_Mo_pile 15 = .ok (.iaload, 1) := by decide +kernel
theorem mD_Mo_pile_16 : decode mB_Mo_pile 16 = .ok (.i2l, 1) := by decide +kernel
theorem mD_Mo_pile_17 : decode mB_Mo_pile 17 = .ok (.ldc2_w 60, 3) := by decide +kernel
theorem mD_Mo_pile_20 : decode mB_Mo_pile 20 = .ok (.iload_n 2, 1) := by decide +kernel
theorem mD_Mo_pile_21 : decode mB_Mo_pile 21 = .ok (.i2l, 1) := by decide +kernel
theorem mD_Mo_pile_22 : decode mB_Mo_pile 22 = .ok (.lmul, 1) := by decide +kernel
theorem mD_Mo_pile_23 : decode mB_Mo_pile 23 = .ok (.lconst 1, 1) := by decide +kernel
theorem mD_Mo_pile_24 : decode mB_Mo_pile 24 = .ok (.ladd, 1) := by decide +kernel
theorem mD_Mo_pile_25 : decode mB_Mo_pile 25 = .ok (.lmul, 1) := by decide +kernel
theorem mD_Mo_pile_26 : decode mB_Mo_pile 26 = .ok (.goto 4, 3) := by decide +kernel
theorem mD_Mo_pile_29 : decode mB_Mo_pile 29 = .ok (.lconst 0, 1) := by decide +kernel
theorem mD_Mo_pile_30 : decode mB_Mo_pile 30 = .ok (.lstore 4, 2) := by decide +kernel
theorem mD_Mo_pile_32 : decode mB_Mo_pile 32 = .ok (.aload_n 0, 1) := by decide +kernel
theorem mD_Mo_pile_33 : decode mB_Mo_pile 33 = .ok (.iload_n 3, 1) := by decide +kernel
theorem mD_Mo_pile_34 : decode mB_Mo_pile 34 = .ok (.iload_n 2, 1) := by decide +kernel
theorem mD_Mo_pile_35 : decode mB_Mo_pile 35 = .ok (.ifCond .lt 13, 3) := by decide +kernel
theorem mD_Mo_pile_38 : decode mB_Mo_pile 38 = .ok (.iload_n 2, 1) := by decide +kernel
theorem mD_Mo_pile_39 : decode mB_Mo_pile 39 = .ok (.bipush 100, 2) := by decide +kernel
theorem mD_Mo_pile_41 : decode mB_Mo_pile 41 = .ok (.if_icmp .gt 7, 3) := by decide +kernel
theorem mD_Mo_pile_44 : decode mB_Mo_pile 44 = .ok (.iconst 1, 1) := by decide +kernel
theorem mD_Mo_pile_45 : decode mB_Mo_pile 45 = .ok (.goto 4, 3) := by decide +kernel
theorem mD_Mo_pile_48 : decode mB_Mo_pile 48 = .ok (.iconst 0, 1) := by decide +kernel
theorem mD_Mo_pile_49 : decode mB_Mo_pile 49 = .ok (.lload 4, 2) := by decide +kernel
theorem mD_Mo_pile_51 : decode mB_Mo_pile 51 = .ok (.ldc2_w 54, 3) := by decide +kernel
theorem mD_Mo_pile_54 : decode mB_Mo_pile 54 = .ok (.lcmp, 1) := by decide +kernel
theorem mD_Mo_pile_55 : decode mB_Mo_pile 55 = .ok (.ifCond .ge 7, 3) := by decide +kernel
theorem mD_Mo_pile_58 : decode mB_Mo_pile 58 = .ok (.iconst 1, 1) := by decide +kernel
theorem mD_Mo_pile_59 : decode mB_Mo_pile 59 = .ok (.goto 4, 3) := by decide +kernel
theorem mD_Mo_pile_62 : decode mB_Mo_pile 62 = .ok (.iconst 0, 1) := by decide +kernel
theorem mD_Mo_pile_63 : decode mB_Mo_pile 63 = .ok (.invokevirtual 40, 3) := by decide +kernel
theorem mD_Mo_pile_66 : decode mB_Mo_pile 66 = .ok (.ifCond .eq 13, 3) := by decide +kernel
theorem mD_Mo_pile_69 : decode mB_Mo_pile 69 = .ok (.aload_n 0, 1) := by decide +kernel
theorem mD_Mo_pile_70 : decode mB_Mo_pile 70 = .ok (.iload_n 1, 1) := by decide +kernel
theorem mD_Mo_pile_71 : decode mB_Mo_pile 71 = .ok (.lload 4, 2) := by decide +kernel
theorem mD_Mo_pile_73 : decode mB_Mo_pile 73 = .ok (.invokevirtual 56, 3) := by decide +kernel
theorem mD_Mo_pile_76 : decode mB_Mo_pile 76 = .ok (.goto 4, 3) := by decide +kernel
theorem mD_Mo_pile_79 : decode mB_Mo_pile 79 = .ok (.iconst 0, 1) := by decide +kernel
theorem mD_Mo_pile_80 : decode mB_Mo_pile 80 = .ok (.ireturn, 1) := by decide +kernel
theorem mD_Mo_value_0 : decode mB_Mo_value 0 = .ok (.iload_n 0, 1) := by decide +kernel
theorem mD_Mo_value_1 : decode mB_Mo_value 1 = .ok (.tableswitch 135 0 6 #[43, 57, 71, 85, 99, 110, 121], 43) := by decide +kernel
theorem mD_Mo_value_44 : decode mB_Mo_value 44 = .ok (.iload_n 1, 1) := by decide +kernel
theorem mD_Mo_value_45 : decode mB_Mo_value 45 = .ok (.ifCond .eq 11, 3) := by decide +kernel
theorem mD_Mo_value_48 : decode mB_Mo_value 48 = .ok (.iload_n 2, 1) := by decide +kernel
theorem mD_Mo_value_49 : decode mB_Mo_value 49 = .ok (.ifCond .eq 7, 3) := by decide +kernel
theorem mD_Mo_value_52 : decode mB_Mo_value 52 = .ok (.iconst 1, 1) := by decide +kernel
theorem mD_Mo_value_53 : decode mB_Mo_value 53 = .ok (.goto 4, 3) := by decide +kernel
theorem mD_Mo_value_56 : decode mB_Mo_value 56 = .ok (.iconst 0, 1) := by decide +kernel
theorem mD_Mo_value_57 : decode mB_Mo_value 57 = .ok (.ireturn, 1) := by decide +kernel
theorem mD_Mo_value_58 : decode mB_Mo_value 58 = .ok (.iload_n 1, 1) := by decide +kernel
theorem mD_Mo_value_59 : decode mB_Mo_value 59 = .ok (.ifCond .ne 7, 3) := by decide +kernel
theorem mD_Mo_value_62 : decode mB_Mo_value 62 = .ok (.iload_n 2, 1) := by decide +kernel
theorem mD_Mo_value_63 : decode mB_Mo_value 63 = .ok (.ifCond .eq 7, 3) := by decide +kernel
theorem mD_Mo_value_66 : decode mB_Mo_value 66 = .ok (.iconst 1, 1) := by decide +kernel
theorem mD_Mo_value_67 : decode mB_Mo_value 67 = .ok (.goto 4, 3) := by decide +kernel
theorem mD_Mo_value_70 : decode mB_Mo_value 70 = .ok (.iconst 0, 1) := by decide +kernel
theorem mD_Mo_value_71 : decode mB_Mo_value 71 = .ok (.ireturn, 1) := by decide +kernel
theorem mD_Mo_value_72 : decode mB_Mo_value 72 = .ok (.iload_n 1, 1) := by decide +kernel
theorem mD_Mo_value_73 : decode mB_Mo_value 73 = .ok (.ifCond .eq 7, 3) := by decide +kernel
theorem mD_Mo_value_76 : decode mB_Mo_value 76 = .ok (.iload_n 2, 1) := by decide +kernel
theorem mD_Mo_value_77 : decode mB_Mo_value 77 = .ok (.ifCond .ne 7, 3) := by decide +kernel
theorem mD_Mo_value_80 : decode mB_Mo_value 80 = .ok (.iconst 1, 1) := by decide +kernel
theorem mD_Mo_value_81 : decode mB_Mo_value 81 = .ok (.goto 4, 3) := by decide +kernel
theorem mD_Mo_value_84 : decode mB_Mo_value 84 = .ok (.iconst 0, 1) := by decide +kernel
theorem mD_Mo_value_85 : decode mB_Mo_value 85 = .ok (.ireturn, 1) := by decide +kernel
theorem mD_Mo_value_86 : decode mB_Mo_value 86 = .ok (.iload_n 1, 1) := by decide +kernel
theorem mD_Mo_value_87 : decode mB_Mo_value 87 = .ok (.ifCond .ne 11, 3) := by decide +kernel
theorem mD_Mo_value_90 : decode mB_Mo_value 90 = .ok (.iload_n 2, 1) := by decide +kernel
theorem mD_Mo_value_91 : decode mB_Mo_value 91 = .ok (.ifCond .ne 7, 3) := by decide +kernel
theorem mD_Mo_value_94 : decode mB_Mo_value 94 = .ok (.iconst 1, 1) := by decide +kernel
theorem mD_Mo_value_95 : decode mB_Mo_value 95 = .ok (.goto 4, 3) := by decide +kernel
theorem mD_Mo_value_98 : decode mB_Mo_value 98 = .ok (.iconst 0, 1) := by decide +kernel
theorem mD_Mo_value_99 : decode mB_Mo_value 99 = .ok (.ireturn, 1) := by decide +kernel
theorem mD_Mo_value_100 : decode mB_Mo_value 100 = .ok (.iload_n 1, 1) := by decide +kernel
theorem mD_Mo_value_101 : decode mB_Mo_value 101 = .ok (.iload_n 2, 1) := by decide +kernel
theorem mD_Mo_value_102 : decode mB_Mo_value 102 = .ok (.if_icmp .eq 7, 3) := by decide +kernel
theorem mD_Mo_value_105 : decode mB_Mo_value 105 = .ok (.iconst 1, 1) := by decide +kernel
theorem mD_Mo_value_106 : decode mB_Mo_value 106 = .ok (.goto 4, 3) := by decide +kernel
theorem mD_Mo_value_109 : decode mB_Mo_value 109 = .ok (.iconst 0, 1) := by decide +kernel
theorem mD_Mo_value_110 : decode mB_Mo_value 110 = .ok (.ireturn, 1) := by decide +kernel
theorem mD_Mo_value_111 : decode mB_Mo_value 111 = .ok (.iload_n 1, 1) := by decide +kernel
theorem mD_Mo_value_112 : decode mB_Mo_value 112 = .ok (.iload_n 2, 1) := by decide +kernel
theorem mD_Mo_value_113 : decode mB_Mo_value 113 = .ok (.if_icmp .ne 7, 3) := by decide +kernel
theorem mD_Mo_value_116 : decode mB_Mo_value 116 = .ok (.iconst 1, 1) := by decide +kernel
theorem mD_Mo_value_117 : decode mB_Mo_value 117 = .ok (.goto 4, 3) := by decide +kernel
theorem mD_Mo_value_120 : decode mB_Mo_value 120 = .ok (.iconst 0, 1) := by decide +kernel
theorem mD_Mo_value_121 : decode mB_Mo_value 121 = .ok (.ireturn, 1) := by decide +kernel
theorem mD_Mo_value_122 : decode mB_Mo_value 122 = .ok (.iload_n 1, 1) := by decide +kernel
theorem mD_Mo_value_123 : decode mB_Mo_value 123 = .ok (.ifCond .eq 11, 3) := by decide +kernel
theorem mD_Mo_value_126 : decode mB_Mo_value 126 = .ok (.iload_n 2, 1) := by decide +kernel
theorem mD_Mo_value_127 : decode mB_Mo_value 127 = .ok (.ifCond .ne 7, 3) := by decide +kernel
theorem mD_Mo_value_130 : decode mB_Mo_value 130 = .ok (.iconst 1, 1) := by decide +kernel
theorem mD_Mo_value_131 : decode mB_Mo_value 131 = .ok (.goto 4, 3) := by decide +kernel
theorem mD_Mo_value_134 : decode mB_Mo_value 134 = .ok (.iconst 0, 1) := by decide +kernel
theorem mD_Mo_value_135 : decode mB_Mo_value 135 = .ok (.ireturn, 1) := by decide +kernel
theorem mD_Mo_value_136 : decode mB_Mo_value 136 = .ok (.iload_n 1, 1) := by decide +kernel
theorem mD_Mo_value_137 : decode mB_Mo_value 137 = .ok (.ifCond .ne 7, 3) := by decide +kernel
theorem mD_Mo_value_140 : decode mB_Mo_value 140 = .ok (.iload_n 2, 1) := by decide +kernel
theorem mD_Mo_value_141 : decode mB_Mo_value 141 = .ok (.ifCond .ne 7, 3) := by decide +kernel
theorem mD_Mo_value_144 : decode mB_Mo_value 144 = .ok (.iconst 1, 1) := by decide +kernel
theorem mD_Mo_value_145 : decode mB_Mo_value 145 = .ok (.goto 4, 3) := by decide +kernel
theorem mD_Mo_value_148 : decode mB_Mo_value 148 = .ok (.iconst 0, 1) := by decide +kernel
theorem mD_Mo_value_149 : decode mB_Mo_value 149 = .ok (.ireturn, 1) := by decide +kernel
theorem mD_Mo_great_0 : decode mB_Mo_great 0 = .ok (.aload_n 0, 1) := by decide +kernel
theorem mD_Mo_great_1 : decode mB_Mo_great 1 = .ok (.getfield 16, 3) := by decide +kernel
theorem mD_Mo_great_4 : decode mB_Mo_great 4 = .ok (.iload_n 2, 1) := by decide +kernel
theorem mD_Mo_great_5 : decode mB_Mo_great 5 = .ok (.iaload, 1) := by decide +kernel
theorem mD_Mo_great_6 : decode mB_Mo_great 6 = .ok (.i2l, 1) := by decide +kernel
theorem mD_Mo_great_7 : decode mB_Mo_great 7 = .ok (.aload_n 0, 1) := by decide +kernel
theorem mD_Mo_great_8 : decode mB_Mo_great 8 = .ok (.getfield 16, 3) := by decide +kernel
theorem mD_Mo_great_11 : decode mB_Mo_great 11 = .ok (.iload_n 3, 1) := by decide +kernel
theorem mD_Mo_great_12 : decode mB_Mo_great 12 = .ok (.iaload, 1) := by decide +kernel
theorem mD_Mo_great_13 : decode mB_Mo_great 13 = .ok (.i2l, 1) := by decide +kernel
theorem mD_Mo_great_14 : decode mB_Mo_great 14 = .ok (.ladd, 1) := by decide +kernel
theorem mD_Mo_great_15 : decode mB_Mo_great 15 = .ok (.lstore 4, 2) := by decide +kernel
theorem mD_Mo_great_17 : decode mB_Mo_great 17 = .ok (.iload_n 1, 1) := by decide +kernel
theorem mD_Mo_great_18 : decode mB_Mo_great 18 = .ok (.iconst 4, 1) := by decide +kernel
theorem mD_Mo_great_19 : decode mB_Mo_great 19 = .ok (.if_icmp .eq 8, 3) := by decide +kernel
theorem mD_Mo_great_22 : decode mB_Mo_great 22 = .ok (.iload_n 1, 1) := by decide +kernel
theorem mD_Mo_great_23 : decode mB_Mo_great 23 = .ok (.iconst 5, 1) := by decide +kernel
theorem mD_Mo_great_24 : decode mB_Mo_great 24 = .ok (.if_icmp .ne 24, 3) := by decide +kernel
theorem mD_Mo_great_27 : decode mB_Mo_great 27 = .ok (.ldc2_w 62, 3) := by decide +kernel
theorem mD_Mo_great_30 : decode mB_Mo_great 30 = .ok (.lload 4, 2) := by decide +kernel
theorem mD_Mo_great_32 : decode mB_Mo_great 32 = .ok (.lmul, 1) := by decide +kernel
theorem mD_Mo_great_33 : decode mB_Mo_great 33 = .ok (.ldc2_w 64, 3) := by decide +kernel
theorem mD_Mo_great_36 : decode mB_Mo_great 36 = .ok (.lcmp, 1) := by decide +kernel
theorem mD_Mo_great_37 : decode mB_Mo_great 37 = .ok (.ifCond .lt 7, 3) := by decide +kernel
theorem mD_Mo_great_40 : decode mB_Mo_great 40 = .ok (.iconst 1, 1) := by decide +kernel
theorem mD_Mo_great_41 : decode mB_Mo_great 41 = .ok (.goto 21, 3) := by decide +kernel
theorem mD_Mo_great_44 : decode mB_Mo_great 44 = .ok (.iconst 0, 1) := by decide +kernel
theorem mD_Mo_great_45 : decode mB_Mo_great 45 = .ok (.goto 17, 3) := by decide +kernel
theorem mD_Mo_great_48 : decode mB_Mo_great 48 = .ok (.lload 4, 2) := by decide +kernel
theorem mD_Mo_great_50 : decode mB_Mo_great 50 = .ok (.ldc2_w 66, 3) := by decide +kernel
theorem mD_Mo_great_53 : decode mB_Mo_great 53 = .ok (.lcmp, 1) := by decide +kernel
theorem mD_Mo_great_54 : decode mB_Mo_great 54 = .ok (.ifCond .lt 7, 3) := by decide +kernel
theorem mD_Mo_great_57 : decode mB_Mo_great 57 = .ok (.iconst 1, 1) := by decide +kernel
theorem mD_Mo_great_58 : decode mB_Mo_great 58 = .ok (.goto 4, 3) := by decide +kernel
theorem mD_Mo_great_61 : decode mB_Mo_great 61 = .ok (.iconst 0, 1) := by decide +kernel
theorem mD_Mo_great_62 : decode mB_Mo_great 62 = .ok (.ireturn, 1) := by decide +kernel
theorem mD_Mo_isGate_0 : decode mB_Mo_isGate 0 = .ok (.iload_n 0, 1) := by decide +kernel
theorem mD_Mo_isGate_1 : decode mB_Mo_isGate 1 = .ok (.ifCond .lt 13, 3) := by decide +kernel
theorem mD_Mo_isGate_4 : decode mB_Mo_isGate 4 = .ok (.iload_n 0, 1) := by decide +kernel
theorem mD_Mo_isGate_5 : decode mB_Mo_isGate 5 = .ok (.bipush 7, 2) := by decide +kernel
theorem mD_Mo_isGate_7 : decode mB_Mo_isGate 7 = .ok (.if_icmp .gt 7, 3) := by decide +kernel
theorem mD_Mo_isGate_10 : decode mB_Mo_isGate 10 = .ok (.iconst 1, 1) := by decide +kernel
theorem mD_Mo_isGate_11 : decode mB_Mo_isGate 11 = .ok (.goto 4, 3) := by decide +kernel
theorem mD_Mo_isGate_14 : decode mB_Mo_isGate 14 = .ok (.iconst 0, 1) := by decide +kernel
theorem mD_Mo_isGate_15 : decode mB_Mo_isGate 15 = .ok (.ireturn, 1) := by decide +kernel
theorem mD_Mo_gate_0 : decode mB_Mo_gate 0 = .ok (.iload_n 1, 1) := by decide +kernel
theorem mD_Mo_gate_1 : decode mB_Mo_gate 1 = .ok (.invokestatic 68, 3) := by decide +kernel
theorem mD_Mo_gate_4 : decode mB_Mo_gate 4 = .ok (.ifCond .eq 23, 3) := by decide +kernel
theorem mD_Mo_gate_7 : decode mB_Mo_gate 7 = .ok (.aload_n 0, 1) := by decide +kernel
theorem mD_Mo_gate_8 : decode mB_Mo_gate 8 = .ok (.iload_n 2, 1) := by decide +kernel
theorem mD_Mo_gate_9 : decode mB_Mo_gate 9 = .ok (.invokevirtual 48, 3) := by decide +kernel
theorem mD_Mo_gate_12 : decode mB_Mo_gate 12 = .ok (.ifCond .eq 15, 3) := by decide +kernel
theorem mD_Mo_gate_15 : decode mB_Mo_gate 15 = .ok (.aload_n 0, 1) := by decide +kernel
theorem mD_Mo_gate_16 : decode mB_Mo_gate 16 = .ok (.iload_n 3, 1) := by decide +kernel
theorem mD_Mo_gate_17 : decode mB_Mo_gate 17 = .ok (.invokevirtual 48, 3) := by decide +kernel
theorem mD_Mo_gate_20 : decode mB_Mo_gate 20 = .ok (.ifCond .eq 7, 3) := by decide +kernel
theorem mD_Mo_gate_23 : decode mB_Mo_gate 23 = .ok (.iconst 1, 1) := by decide +kernel
theorem mD_Mo_gate_24 : decode mB_Mo_gate 24 = .ok (.goto 4, 3) := by decide +kernel
theorem mD_Mo_gate_27 : decode mB_Mo_gate 27 = .ok (.iconst 0, 1) := by decide +kernel
theorem mD_Mo_gate_28 : decode mB_Mo_gate 28 = .ok (.istore 4, 2) := by decide +kernel
theorem mD_Mo_gate_30 : decode mB_Mo_gate 30 = .ok (.iload 4, 2) := by decide +kernel
theorem mD_Mo_gate_32 : decode mB_Mo_gate 32 = .ok (.ifCond .eq 17, 3) := by decide +kernel
theorem mD_Mo_gate_35 : decode mB_Mo_gate 35 = .ok (.aload_n 0, 1) := by decide +kernel
theorem mD_Mo_gate_36 : decode mB_Mo_gate 36 = .ok (.iload_n 1, 1) := by decide +kernel
theorem mD_Mo_gate_37 : decode mB_Mo_gate 37 = .ok (.iload_n 2, 1) := by decide +kernel
theorem mD_Mo_gate_38 : decode mB_Mo_gate 38 = .ok (.iload_n 3, 1) := by decide +kernel
theorem mD_Mo_gate_39 : decode mB_Mo_gate 39 = .ok (.invokevirtual 71, 3) := by decide +kernel
theorem mD_Mo_gate_42 : decode mB_Mo_gate 42 = .ok (.ifCond .eq 7, 3) := by decide +kernel
theorem mD_Mo_gate_45 : decode mB_Mo_gate 45 = .ok (.iconst 1, 1) := by decide +kernel
theorem mD_Mo_gate_46 : decode mB_Mo_gate 46 = .ok (.goto 4, 3) := by decide +kernel
theorem mD_Mo_gate_49 : decode mB_Mo_gate 49 = .ok (.iconst 0, 1) := by decide +kernel
theorem mD_Mo_gate_50 : decode mB_Mo_gate 50 = .ok (.istore 5, 2) := by decide +kernel
theorem mD_Mo_gate_52 : decode mB_Mo_gate 52 = .ok (.aload_n 0, 1) := by decide +kernel
theorem mD_Mo_gate_53 : decode mB_Mo_gate 53 = .ok (.iload 5, 2) := by decide +kernel
theorem mD_Mo_gate_55 : decode mB_Mo_gate 55 = .ok (.ifCond .eq 12, 3) := by decide +kernel
theorem mD_Mo_gate_58 : decode mB_Mo_gate 58 = .ok (.aload_n 0, 1) := by decide +kernel
theorem mD_Mo_gate_59 : decode mB_Mo_gate 59 = .ok (.getfield 75, 3) := by decide +kernel
theorem mD_Mo_gate_62 : decode mB_Mo_gate 62 = .ok (.iconst 1, 1) := by decide +kernel
theorem mD_Mo_gate_63 : decode mB_Mo_gate 63 = .ok (.iadd, 1) := by decide +kernel
theorem mD_Mo_gate_64 : decode mB_Mo_gate 64 = .ok (.goto 7, 3) := by decide +kernel
theorem mD_Mo_gate_67 : decode mB_Mo_gate 67 = .ok (.aload_n 0, 1) := by decide +kernel
theorem mD_Mo_gate_68 : decode mB_Mo_gate 68 = .ok (.getfield 75, 3) := by decide +kernel
theorem mD_Mo_gate_71 : decode mB_Mo_gate 71 = .ok (.putfield 75, 3) := by decide +kernel
theorem mD_Mo_gate_74 : decode mB_Mo_gate 74 = .ok (.aload_n 0, 1) := by decide +kernel
theorem mD_Mo_gate_75 : decode mB_Mo_gate 75 = .ok (.iload 4, 2) := by decide +kernel
theorem mD_Mo_gate_77 : decode mB_Mo_gate 77 = .ok (.iload 5, 2) := by decide +kernel
theorem mD_Mo_gate_79 : decode mB_Mo_gate 79 = .ok (.ifCond .ne 16, 3) := by decide +kernel
theorem mD_Mo_gate_82 : decode mB_Mo_gate 82 = .ok (.aload_n 0, 1) := by decide +kernel
theorem mD_Mo_gate_83 : decode mB_Mo_gate 83 = .ok (.invokevirtual 36, 3) := by decide +kernel
theorem mD_Mo_gate_86 : decode mB_Mo_gate 86 = .ok (.bipush 120, 2) := by decide +kernel
theorem mD_Mo_gate_88 : decode mB_Mo_gate 88 = .ok (.if_icmp .ge 7, 3) := by decide +kernel
theorem mD_Mo_gate_91 : decode mB_Mo_gate 91 = .ok (.iconst 1, 1) := by decide +kernel
theorem mD_Mo_gate_92 : decode mB_Mo_gate 92 = .ok (.goto 4, 3) := by decide +kernel
theorem mD_Mo_gate_95 : decode mB_Mo_gate 95 = .ok (.iconst 0, 1) := by decide +kernel
theorem mD_Mo_gate_96 : decode mB_Mo_gate 96 = .ok (.iconst 1, 1) := by decide +kernel
theorem mD_Mo_gate_97 : decode mB_Mo_gate 97 = .ok (.invokevirtual 40, 3) := by decide +kernel
theorem mD_Mo_gate_100 : decode mB_Mo_gate 100 = .ok (.ifCond .ne 5, 3) := by decide +kernel
theorem mD_Mo_gate_103 : decode mB_Mo_gate 103 = .ok (.iconst 0, 1) := by decide +kernel
theorem mD_Mo_gate_104 : decode mB_Mo_gate 104 = .ok (.ireturn, 1) := by decide +kernel
theorem mD_Mo_gate_105 : decode mB_Mo_gate 105 = .ok (.aload_n 0, 1) := by decide +kernel
theorem mD_Mo_gate_106 : decode mB_Mo_gate 106 = .ok (.dup, 1) := by decide +kernel
theorem mD_Mo_gate_107 : decode mB_Mo_gate 107 = .ok (.getfield 78, 3) := by decide +kernel
theorem mD_Mo_gate_110 : decode mB_Mo_gate 110 = .ok (.iconst 1, 1) := by decide +kernel
theorem mD_Mo_gate_111 : decode mB_Mo_gate 111 = .ok (.iadd, 1) := by decide +kernel
theorem mD_Mo_gate_112 : decode mB_Mo_gate 112 = .ok (.putfield 78, 3) := by decide +kernel
theorem mD_Mo_gate_115 : decode mB_Mo_gate 115 = .ok (.aload_n 0, 1) := by decide +kernel
theorem mD_Mo_gate_116 : decode mB_Mo_gate 116 = .ok (.iload_n 1, 1) := by decide +kernel
theorem mD_Mo_gate_117 : decode mB_Mo_gate 117 = .ok (.aload_n 0, 1) := by decide +kernel
theorem mD_Mo_gate_118 : decode mB_Mo_gate 118 = .ok (.getfield 13, 3) := by decide +kernel
theorem mD_Mo_gate_121 : decode mB_Mo_gate 121 = .ok (.iload_n 2, 1) := by decide +kernel
theorem mD_Mo_gate_122 : decode mB_Mo_gate 122 = .ok (.baload, 1) := by decide +kernel
theorem mD_Mo_gate_123 : decode mB_Mo_gate 123 = .ok (.aload_n 0, 1) := by decide +kernel
theorem mD_Mo_gate_124 : decode mB_Mo_gate 124 = .ok (.getfield 13, 3) := by decide +kernel
theorem mD_Mo_gate_127 : decode mB_Mo_gate 127 = .ok (.iload_n 3, 1) := by decide +kernel
theorem mD_Mo_gate_128 : decode mB_Mo_gate 128 = .ok (.baload, 1) := by decide +kernel
theorem mD_Mo_gate_129 : decode mB_Mo_gate 129 = .ok (.invokestatic 81, 3) := by decide +kernel
theorem mD_Mo_gate_132 : decode mB_Mo_gate 132 = .ok (.ldc 85, 2) := by decide +kernel
theorem mD_Mo_gate_134 : decode mB_Mo_gate 134 = .ok (.invokevirtual 44, 3) := by decide +kernel
theorem mD_Mo_gate_137 : decode mB_Mo_gate 137 = .ok (.ireturn, 1) := by decide +kernel
theorem mD_Mo_choose_0 : decode mB_Mo_choose 0 = .ok (.aload_n 0, 1) := by decide +kernel
theorem mD_Mo_choose_1 : decode mB_Mo_choose 1 = .ok (.iload_n 1, 1) := by decide +kernel
theorem mD_Mo_choose_2 : decode mB_Mo_choose 2 = .ok (.invokevirtual 48, 3) := by decide +kernel
theorem mD_Mo_choose_5 : decode mB_Mo_choose 5 = .ok (.ifCond .eq 23, 3) := by decide +kernel
theorem mD_Mo_choose_8 : decode mB_Mo_choose 8 = .ok (.aload_n 0, 1) := by decide +kernel
theorem mD_Mo_choose_9 : decode mB_Mo_choose 9 = .ok (.iload_n 2, 1) := by decide +kernel
theorem mD_Mo_choose_10 : decode mB_Mo_choose 10 = .ok (.invokevirtual 48, 3) := by decide +kernel
theorem mD_Mo_choose_13 : decode mB_Mo_choose 13 = .ok (.ifCond .eq 15, 3) := by decide +kernel
theorem mD_Mo_choose_16 : decode mB_Mo_choose 16 = .ok (.aload_n 0, 1) := by decide +kernel
theorem mD_Mo_choose_17 : decode mB_Mo_choose 17 = .ok (.iload_n 3, 1) := by decide +kernel
theorem mD_Mo_choose_18 : decode mB_Mo_choose 18 = .ok (.invokevirtual 48, 3) := by decide +kernel
theorem mD_Mo_choose_21 : decode mB_Mo_choose 21 = .ok (.ifCond .eq 7, 3) := by decide +kernel
theorem mD_Mo_choose_24 : decode mB_Mo_choose 24 = .ok (.iconst 1, 1) := by decide +kernel
theorem mD_Mo_choose_25 : decode mB_Mo_choose 25 = .ok (.goto 4, 3) := by decide +kernel
theorem mD_Mo_choose_28 : decode mB_Mo_choose 28 = .ok (.iconst 0, 1) := by decide +kernel
theorem mD_Mo_choose_29 : decode mB_Mo_choose 29 = .ok (.istore 4, 2) := by decide +kernel
theorem mD_Mo_choose_31 : decode mB_Mo_choose 31 = .ok (.iload 4, 2) := by decide +kernel
theorem mD_Mo_choose_33 : decode mB_Mo_choose 33 = .ok (.ifCond .eq 28, 3) := by decide +kernel
theorem mD_Mo_choose_36 : decode mB_Mo_choose 36 = .ok (.aload_n 0, 1) := by decide +kernel
theorem mD_Mo_choose_37 : decode mB_Mo_choose 37 = .ok (.iconst 0, 1) := by decide +kernel
theorem mD_Mo_choose_38 : decode mB_Mo_choose 38 = .ok (.iload_n 1, 1) := by decide +kernel
theorem mD_Mo_choose_39 : decode mB_Mo_choose 39 = .ok (.iload_n 2, 1) := by decide +kernel
theorem mD_Mo_choose_40 : decode mB_Mo_choose 40 = .ok (.invokevirtual 71, 3) := by decide +kernel
theorem mD_Mo_choose_43 : decode mB_Mo_choose 43 = .ok (.ifCond .ne 14, 3) := by decide +kernel
theorem mD_Mo_choose_46 : decode mB_Mo_choose 46 = .ok (.aload_n 0, 1) := by decide +kernel
theorem mD_Mo_choose_47 : decode mB_Mo_choose 47 = .ok (.bipush 6, 2) := by decide +kernel
theorem mD_Mo_choose_49 : decode mB_Mo_choose 49 = .ok (.iload_n 3, 1) := by decide +kernel
theorem mD_Mo_choose_50 : decode mB_Mo_choose 50 = .ok (.iload_n 1, 1) := by decide +kernel
theorem mD_Mo_choose_51 : decode mB_Mo_choose 51 = .ok (.invokevirtual 71, 3) := by decide +kernel
theorem mD_Mo_choose_54 : decode mB_Mo_choose 54 = .ok (.ifCond .eq 7, 3) := by decide +kernel
theorem mD_Mo_choose_57 : decode mB_Mo_choose 57 = .ok (.iconst 1, 1) := by decide +kernel
theorem mD_Mo_choose_58 : decode mB_Mo_choose 58 = .ok (.goto 4, 3) := by decide +kernel
theorem mD_Mo_choose_61 : decode mB_Mo_choose 61 = .ok (.iconst 0, 1) := by decide +kernel
theorem mD_Mo_choose_62 : decode mB_Mo_choose 62 = .ok (.istore 5, 2) := by decide +kernel
theorem mD_Mo_choose_64 : decode mB_Mo_choose 64 = .ok (.aload_n 0, 1) := by decide +kernel
theorem mD_Mo_choose_65 : decode mB_Mo_choose 65 = .ok (.iload 5, 2) := by decide +kernel
theorem mD_Mo_choose_67 : decode mB_Mo_choose 67 = .ok (.ifCond .eq 12, 3) := by decide +kernel
theorem mD_Mo_choose_70 : decode mB_Mo_choose 70 = .ok (.aload_n 0, 1) := by decide +kernel
theorem mD_Mo_choose_71 : decode mB_Mo_choose 71 = .ok (.getfield 75, 3) := by decide +kernel
theorem mD_Mo_choose_74 : decode mB_Mo_choose 74 = .ok (.iconst 1, 1) := by decide +kernel
theorem mD_Mo_choose_75 : decode mB_Mo_choose 75 = .ok (.iadd, 1) := by decide +kernel
theorem mD_Mo_choose_76 : decode mB_Mo_choose 76 = .ok (.goto 7, 3) := by decide +kernel
theorem mD_Mo_choose_79 : decode mB_Mo_choose 79 = .ok (.aload_n 0, 1) := by decide +kernel
theorem mD_Mo_choose_80 : decode mB_Mo_choose 80 = .ok (.getfield 75, 3) := by decide +kernel
theorem mD_Mo_choose_83 : decode mB_Mo_choose 83 = .ok (.putfield 75, 3) := by decide +kernel
theorem mD_Mo_choose_86 : decode mB_Mo_choose 86 = .ok (.aload_n 0, 1) := by decide +kernel
theorem mD_Mo_choose_87 : decode mB_Mo_choose 87 = .ok (.iload 4, 2) := by decide +kernel
theorem mD_Mo_choose_89 : decode mB_Mo_choose 89 = .ok (.iload 5, 2) := by decide +kernel
theorem mD_Mo_choose_91 : decode mB_Mo_choose 91 = .ok (.ifCond .ne 16, 3) := by decide +kernel
theorem mD_Mo_choose_94 : decode mB_Mo_choose 94 = .ok (.aload_n 0, 1) := by decide +kernel
theorem mD_Mo_choose_95 : decode mB_Mo_choose 95 = .ok (.invokevirtual 36, 3) := by decide +kernel
theorem mD_Mo_choose_98 : decode mB_Mo_choose 98 = .ok (.bipush 120, 2) := by decide +kernel
theorem mD_Mo_choose_100 : decode mB_Mo_choose 100 = .ok (.if_icmp .ge 7, 3) := by decide +kernel
theorem mD_Mo_choose_103 : decode mB_Mo_choose 103 = .ok (.iconst 1, 1) := by decide +kernel
theorem mD_Mo_choose_104 : decode mB_Mo_choose 104 = .ok (.goto 4, 3) := by decide +kernel
theorem mD_Mo_choose_107 : decode mB_Mo_choose 107 = .ok (.iconst 0, 1) := by decide +kernel
theorem mD_Mo_choose_108 : decode mB_Mo_choose 108 = .ok (.iconst 1, 1) := by decide +kernel
theorem mD_Mo_choose_109 : decode mB_Mo_choose 109 = .ok (.invokevirtual 40, 3) := by decide +kernel
theorem mD_Mo_choose_112 : decode mB_Mo_choose 112 = .ok (.ifCond .ne 5, 3) := by decide +kernel
theorem mD_Mo_choose_115 : decode mB_Mo_choose 115 = .ok (.iconst 0, 1) := by decide +kernel
theorem mD_Mo_choose_116 : decode mB_Mo_choose 116 = .ok (.ireturn, 1) := by decide +kernel
theorem mD_Mo_choose_117 : decode mB_Mo_choose 117 = .ok (.aload_n 0, 1) := by decide +kernel
theorem mD_Mo_choose_118 : decode mB_Mo_choose 118 = .ok (.aload_n 0, 1) := by decide +kernel
theorem mD_Mo_choose_119 : decode mB_Mo_choose 119 = .ok (.getfield 78, 3) := by decide +kernel
theorem mD_Mo_choose_122 : decode mB_Mo_choose 122 = .ok (.iconst 3, 1) := by decide +kernel
theorem mD_Mo_choose_123 : decode mB_Mo_choose 123 = .ok (.iadd, 1) := by decide +kernel
theorem mD_Mo_choose_124 : decode mB_Mo_choose 124 = .ok (.putfield 78, 3) := by decide +kernel
theorem mD_Mo_choose_127 : decode mB_Mo_choose 127 = .ok (.aload_n 0, 1) := by decide +kernel
theorem mD_Mo_choose_128 : decode mB_Mo_choose 128 = .ok (.aload_n 0, 1) := by decide +kernel
theorem mD_Mo_choose_129 : decode mB_Mo_choose 129 = .ok (.getfield 13, 3) := by decide +kernel
theorem mD_Mo_choose_132 : decode mB_Mo_choose 132 = .ok (.iload_n 1, 1) := by decide +kernel
theorem mD_Mo_choose_133 : decode mB_Mo_choose 133 = .ok (.baload, 1) := by decide +kernel
theorem mD_Mo_choose_134 : decode mB_Mo_choose 134 = .ok (.ifCond .eq 12, 3) := by decide +kernel
theorem mD_Mo_choose_137 : decode mB_Mo_choose 137 = .ok (.aload_n 0, 1) := by decide +kernel
theorem mD_Mo_choose_138 : decode mB_Mo_choose 138 = .ok (.getfield 13, 3) := by decide +kernel
theorem mD_Mo_choose_141 : decode mB_Mo_choose 141 = .ok (.iload_n 2, 1) := by decide +kernel
theorem mD_Mo_choose_142 : decode mB_Mo_choose 142 = .ok (.baload, 1) := by decide +kernel
theorem mD_Mo_choose_143 : decode mB_Mo_choose 143 = .ok (.goto 9, 3) := by decide +kernel
theorem mD_Mo_choose_146 : decode mB_Mo_choose 146 = .ok (.aload_n 0, 1) := by decide +kernel
theorem mD_Mo_choose_147 : decode mB_Mo_choose 147 = .ok (.getfield 13, 3) := by decide +kernel
theorem mD_Mo_choose_150 : decode mB_Mo_choose 150 = .ok (.iload_n 3, 1) := by decide +kernel
theorem mD_Mo_choose_151 : decode mB_Mo_choose 151 = .ok (.baload, 1) := by decide +kernel
theorem mD_Mo_choose_152 : decode mB_Mo_choose 152 = .ok (.ldc 85, 2) := by decide +kernel
theorem mD_Mo_choose_154 : decode mB_Mo_choose 154 = .ok (.invokevirtual 44, 3) := by decide +kernel
theorem mD_Mo_choose_157 : decode mB_Mo_choose 157 = .ok (.ireturn, 1) := by decide +kernel
theorem mD_Mo_open_0 : decode mB_Mo_open 0 = .ok (.aload_n 0, 1) := by decide +kernel
theorem mD_Mo_open_1 : decode mB_Mo_open 1 = .ok (.aload_n 0, 1) := by decide +kernel
theorem mD_Mo_open_2 : decode mB_Mo_open 2 = .ok (.iload_n 1, 1) := by decide +kernel
theorem mD_Mo_open_3 : decode mB_Mo_open 3 = .ok (.invokevirtual 48, 3) := by decide +kernel
theorem mD_Mo_open_6 : decode mB_Mo_open 6 = .ok (.aload_n 0, 1) := by decide +kernel
theorem mD_Mo_open_7 : decode mB_Mo_open 7 = .ok (.iload_n 1, 1) := by decide +kernel
theorem mD_Mo_open_8 : decode mB_Mo_open 8 = .ok (.invokevirtual 48, 3) := by decide +kernel
theorem mD_Mo_open_11 : decode mB_Mo_open 11 = .ok (.ifCond .eq 14, 3) := by decide +kernel
theorem mD_Mo_open_14 : decode mB_Mo_open 14 = .ok (.aload_n 0, 1) := by decide +kernel
theorem mD_Mo_open_15 : decode mB_Mo_open 15 = .ok (.getfield 16, 3) := by decide +kernel
theorem mD_Mo_open_18 : decode mB_Mo_open 18 = .ok (.iload_n 1, 1) := by decide +kernel
theorem mD_Mo_open_19 : decode mB_Mo_open 19 = .ok (.iaload, 1) := by decide +kernel
theorem mD_Mo_open_20 : decode mB_Mo_open 20 = .ok (.ldc 86, 2) := by decide +kernel
theorem mD_Mo_open_22 : decode mB_Mo_open 22 = .ok (.if_icmp .ge 7, 3) := by decide +kernel
theorem mD_Mo_open_25 : decode mB_Mo_open 25 = .ok (.iconst 1, 1) := by decide +kernel
theorem mD_Mo_open_26 : decode mB_Mo_open 26 = .ok (.goto 4, 3) := by decide +kernel
theorem mD_Mo_open_29 : decode mB_Mo_open 29 = .ok (.iconst 0, 1) := by decide +kernel
theorem mD_Mo_open_30 : decode mB_Mo_open 30 = .ok (.iconst 1, 1) := by decide +kernel
theorem mD_Mo_open_31 : decode mB_Mo_open 31 = .ok (.invokevirtual 40, 3) := by decide +kernel
theorem mD_Mo_open_34 : decode mB_Mo_open 34 = .ok (.ifCond .eq 16, 3) := by decide +kernel
theorem mD_Mo_open_37 : decode mB_Mo_open 37 = .ok (.aload_n 0, 1) := by decide +kernel
theorem mD_Mo_open_38 : decode mB_Mo_open 38 = .ok (.getfield 13, 3) := by decide +kernel
theorem mD_Mo_open_41 : decode mB_Mo_open 41 = .ok (.iload_n 1, 1) := by decide +kernel
theorem mD_Mo_open_42 : decode mB_Mo_open 42 = .ok (.baload, 1) := by decide +kernel
theorem mD_Mo_open_43 : decode mB_Mo_open 43 = .ok (.ifCond .eq 7, 3) := by decide +kernel
theorem mD_Mo_open_46 : decode mB_Mo_open 46 = .ok (.iconst 1, 1) := by decide +kernel
theorem mD_Mo_open_47 : decode mB_Mo_open 47 = .ok (.goto 4, 3) := by decide +kernel
theorem mD_Mo_open_50 : decode mB_Mo_open 50 = .ok (.iconst 0, 1) := by decide +kernel
theorem mD_Mo_open_51 : decode mB_Mo_open 51 = .ok (.ireturn, 1) := by decide +kernel
theorem mD_Mo_bound_0 : decode mB_Mo_bound 0 = .ok (.aload_n 0, 1) := by decide +kernel
theorem mD_Mo_bound_1 : decode mB_Mo_bound 1 = .ok (.aload_n 0, 1) := by decide +kernel
theorem mD_Mo_bound_2 : decode mB_Mo_bound 2 = .ok (.iload_n 1, 1) := by decide +kernel
theorem mD_Mo_bound_3 : decode mB_Mo_bound 3 = .ok (.invokevirtual 48, 3) := by decide +kernel
theorem mD_Mo_bound_6 : decode mB_Mo_bound 6 = .ok (.iconst 1, 1) := by decide +kernel
theorem mD_Mo_bound_7 : decode mB_Mo_bound 7 = .ok (.iconst 1, 1) := by decide +kernel
theorem mD_Mo_bound_8 : decode mB_Mo_bound 8 = .ok (.invokevirtual 40, 3) := by decide +kernel
theorem mD_Mo_bound_11 : decode mB_Mo_bound 11 = .ok (.ifCond .eq 12, 3) := by decide +kernel
theorem mD_Mo_bound_14 : decode mB_Mo_bound 14 = .ok (.aload_n 0, 1) := by decide +kernel
theorem mD_Mo_bound_15 : decode mB_Mo_bound 15 = .ok (.getfield 16, 3) := by decide +kernel
theorem mD_Mo_bound_18 : decode mB_Mo_bound 18 = .ok (.iload_n 1, 1) := by decide +kernel
theorem mD_Mo_bound_19 : decode mB_Mo_bound 19 = .ok (.iaload, 1) := by decide +kernel
theorem mD_Mo_bound_20 : decode mB_Mo_bound 20 = .ok (.goto 4, 3) := by decide +kernel
theorem mD_Mo_bound_23 : decode mB_Mo_bound 23 = .ok (.iconst 0, 1) := by decide +kernel
theorem mD_Mo_bound_24 : decode mB_Mo_bound 24 = .ok (.ireturn, 1) := by decide +kernel
theorem mD_Mo_within_0 : decode mB_Mo_within 0 = .ok (.aload_n 0, 1) := by decide +kernel
theorem mD_Mo_within_1 : decode mB_Mo_within 1 = .ok (.aload_n 0, 1) := by decide +kernel
theorem mD_Mo_within_2 : decode mB_Mo_within 2 = .ok (.iload_n 1, 1) := by decide +kernel
theorem mD_Mo_within_3 : decode mB_Mo_within 3 = .ok (.invokevirtual 48, 3) := by decide +kernel
theorem mD_Mo_within_6 : decode mB_Mo_within 6 = .ok (.iconst 1, 1) := by decide +kernel
theorem mD_Mo_within_7 : decode mB_Mo_within 7 = .ok (.iconst 1, 1) := by decide +kernel
theorem mD_Mo_within_8 : decode mB_Mo_within 8 = .ok (.invokevirtual 40, 3) := by decide +kernel
theorem mD_Mo_within_11 : decode mB_Mo_within 11 = .ok (.ireturn, 1) := by decide +kernel
theorem mD_Mo_isAhead_0 : decode mB_Mo_isAhead 0 = .ok (.iload_n 1, 1) := by decide +kernel
theorem mD_Mo_isAhead_1 : decode mB_Mo_isAhead 1 = .ok (.ifCond .lt 18, 3) := by decide +kernel
theorem mD_Mo_isAhead_4 : decode mB_Mo_isAhead 4 = .ok (.iload_n 1, 1) := by decide +kernel
theorem mD_Mo_isAhead_5 : decode mB_Mo_isAhead 5 = .ok (.bipush 8, 2) := by decide +kernel
theorem mD_Mo_isAhead_7 : decode mB_Mo_isAhead 7 = .ok (.aload_n 0, 1) := by decide +kernel
theorem mD_Mo_isAhead_8 : decode mB_Mo_isAhead 8 = .ok (.getfield 87, 3) := by decide +kernel
theorem mD_Mo_isAhead_11 : decode mB_Mo_isAhead 11 = .ok (.iadd, 1) := by decide +kernel
theorem mD_Mo_isAhead_12 : decode mB_Mo_isAhead 12 = .ok (.if_icmp .ge 7, 3) := by decide +kernel
theorem mD_Mo_isAhead_15 : decode mB_Mo_isAhead 15 = .ok (.iconst 1, 1) := by decide +kernel
theorem mD_Mo_isAhead_16 : decode mB_Mo_isAhead 16 = .ok (.goto 4, 3) := by decide +kernel
theorem mD_Mo_isAhead_19 : decode mB_Mo_isAhead 19 = .ok (.iconst 0, 1) := by decide +kernel
theorem mD_Mo_isAhead_20 : decode mB_Mo_isAhead 20 = .ok (.ireturn, 1) := by decide +kernel
theorem mD_Mo_line_0 : decode mB_Mo_line 0 = .ok (.aload_n 0, 1) := by decide +kernel
theorem mD_Mo_line_1 : decode mB_Mo_line 1 = .ok (.iload_n 1, 1) := by decide +kernel
theorem mD_Mo_line_2 : decode mB_Mo_line 2 = .ok (.invokestatic 68, 3) := by decide +kernel
theorem mD_Mo_line_5 : decode mB_Mo_line 5 = .ok (.ifCond .eq 23, 3) := by decide +kernel
theorem mD_Mo_line_8 : decode mB_Mo_line 8 = .ok (.aload_n 0, 1) := by decide +kernel
theorem mD_Mo_line_9 : decode mB_Mo_line 9 = .ok (.iload_n 2, 1) := by decide +kernel
theorem mD_Mo_line_10 : decode mB_Mo_line 10 = .ok (.invokevirtual 90, 3) := by decide +kernel
theorem mD_Mo_line_13 : decode mB_Mo_line 13 = .ok (.ifCond .eq 15, 3) := by decide +kernel
theorem mD_Mo_line_16 : decode mB_Mo_line 16 = .ok (.aload_n 0, 1) := by decide +kernel
theorem mD_Mo_line_17 : decode mB_Mo_line 17 = .ok (.iload_n 3, 1) := by decide +kernel
theorem mD_Mo_line_18 : decode mB_Mo_line 18 = .ok (.invokevirtual 90, 3) := by decide +kernel
theorem mD_Mo_line_21 : decode mB_Mo_line 21 = .ok (.ifCond .eq 7, 3) := by decide +kernel
theorem mD_Mo_line_24 : decode mB_Mo_line 24 = .ok (.iconst 1, 1) := by decide +kernel
theorem mD_Mo_line_25 : decode mB_Mo_line 25 = .ok (.goto 4, 3) := by decide +kernel
theorem mD_Mo_line_28 : decode mB_Mo_line 28 = .ok (.iconst 0, 1) := by decide +kernel
theorem mD_Mo_line_29 : decode mB_Mo_line 29 = .ok (.aload_n 0, 1) := by decide +kernel
theorem mD_Mo_line_30 : decode mB_Mo_line 30 = .ok (.getfield 87, 3) := by decide +kernel
theorem mD_Mo_line_33 : decode mB_Mo_line 33 = .ok (.bipush 24, 2) := by decide +kernel
theorem mD_Mo_line_35 : decode mB_Mo_line 35 = .ok (.if_icmp .ge 7, 3) := by decide +kernel
theorem mD_Mo_line_38 : decode mB_Mo_line 38 = .ok (.iconst 1, 1) := by decide +kernel
theorem mD_Mo_line_39 : decode mB_Mo_line 39 = .ok (.goto 4, 3) := by decide +kernel
theorem mD_Mo_line_42 : decode mB_Mo_line 42 = .ok (.iconst 0, 1) := by decide +kernel
theorem mD_Mo_line_43 : decode mB_Mo_line 43 = .ok (.iconst 1, 1) := by decide +kernel
theorem mD_Mo_line_44 : decode mB_Mo_line 44 = .ok (.invokevirtual 40, 3) := by decide +kernel
theorem mD_Mo_line_47 : decode mB_Mo_line 47 = .ok (.ifCond .ne 5, 3) := by decide +kernel
theorem mD_Mo_line_50 : decode mB_Mo_line 50 = .ok (.iconst 0, 1) := by decide +kernel
theorem mD_Mo_line_51 : decode mB_Mo_line 51 = .ok (.ireturn, 1) := by decide +kernel
theorem mD_Mo_line_52 : decode mB_Mo_line 52 = .ok (.aload_n 0, 1) := by decide +kernel
theorem mD_Mo_line_53 : decode mB_Mo_line 53 = .ok (.getfield 20, 3) := by decide +kernel
theorem mD_Mo_line_56 : decode mB_Mo_line 56 = .ok (.aload_n 0, 1) := by decide +kernel
theorem mD_Mo_line_57 : decode mB_Mo_line 57 = .ok (.getfield 87, 3) := by decide +kernel
theorem mD_Mo_line_60 : decode mB_Mo_line 60 = .ok (.iload_n 1, 1) := by decide +kernel
theorem mD_Mo_line_61 : decode mB_Mo_line 61 = .ok (.iastore, 1) := by decide +kernel
theorem mD_Mo_line_62 : decode mB_Mo_line 62 = .ok (.aload_n 0, 1) := by decide +kernel
theorem mD_Mo_line_63 : decode mB_Mo_line 63 = .ok (.getfield 23, 3) := by decide +kernel
theorem mD_Mo_line_66 : decode mB_Mo_line 66 = .ok (.aload_n 0, 1) := by decide +kernel
theorem mD_Mo_line_67 : decode mB_Mo_line 67 = .ok (.getfield 87, 3) := by decide +kernel
theorem mD_Mo_line_70 : decode mB_Mo_line 70 = .ok (.iload_n 2, 1) := by decide +kernel
theorem mD_Mo_line_71 : decode mB_Mo_line 71 = .ok (.iastore, 1) := by decide +kernel
theorem mD_Mo_line_72 : decode mB_Mo_line 72 = .ok (.aload_n 0, 1) := by decide +kernel
theorem mD_Mo_line_73 : decode mB_Mo_line 73 = .ok (.getfield 26, 3) := by decide +kernel
theorem mD_Mo_line_76 : decode mB_Mo_line 76 = .ok (.aload_n 0, 1) := by decide +kernel
theorem mD_Mo_line_77 : decode mB_Mo_line 77 = .ok (.getfield 87, 3) := by decide +kernel
theorem mD_Mo_line_80 : decode mB_Mo_line 80 = .ok (.iload_n 3, 1) := by decide +kernel
theorem mD_Mo_line_81 : decode mB_Mo_line 81 = .ok (.iastore, 1) := by decide +kernel
theorem mD_Mo_line_82 : decode mB_Mo_line 82 = .ok (.aload_n 0, 1) := by decide +kernel
theorem mD_Mo_line_83 : decode mB_Mo_line 83 = .ok (.dup, 1) := by decide +kernel
theorem mD_Mo_line_84 : decode mB_Mo_line 84 = .ok (.getfield 87, 3) := by decide +kernel
theorem mD_Mo_line_87 : decode mB_Mo_line 87 = .ok (.iconst 1, 1) := by decide +kernel
theorem mD_Mo_line_88 : decode mB_Mo_line 88 = .ok (.iadd, 1) := by decide +kernel
theorem mD_Mo_line_89 : decode mB_Mo_line 89 = .ok (.putfield 87, 3) := by decide +kernel
theorem mD_Mo_line_92 : decode mB_Mo_line 92 = .ok (.bipush 7, 2) := by decide +kernel
theorem mD_Mo_line_94 : decode mB_Mo_line 94 = .ok (.aload_n 0, 1) := by decide +kernel
theorem mD_Mo_line_95 : decode mB_Mo_line 95 = .ok (.getfield 87, 3) := by decide +kernel
theorem mD_Mo_line_98 : decode mB_Mo_line 98 = .ok (.iadd, 1) := by decide +kernel
theorem mD_Mo_line_99 : decode mB_Mo_line 99 = .ok (.ireturn, 1) := by decide +kernel
theorem mD_Mo_play_0 : decode mB_Mo_play 0 = .ok (.aload_n 0, 1) := by decide +kernel
theorem mD_Mo_play_1 : decode mB_Mo_play 1 = .ok (.iload_n 1, 1) := by decide +kernel
theorem mD_Mo_play_2 : decode mB_Mo_play 2 = .ok (.bipush 8, 2) := by decide +kernel
theorem mD_Mo_play_4 : decode mB_Mo_play 4 = .ok (.if_icmp .lt 18, 3) := by decide +kernel
theorem mD_Mo_play_7 : decode mB_Mo_play 7 = .ok (.iload_n 1, 1) := by decide +kernel
theorem mD_Mo_play_8 : decode mB_Mo_play 8 = .ok (.bipush 8, 2) := by decide +kernel
theorem mD_Mo_play_10 : decode mB_Mo_play 10 = .ok (.aload_n 0, 1) := by decide +kernel
theorem mD_Mo_play_11 : decode mB_Mo_play 11 = .ok (.getfield 87, 3) := by decide +kernel
theorem mD_Mo_play_14 : decode mB_Mo_play 14 = .ok (.iadd, 1) := by decide +kernel
theorem mD_Mo_play_15 : decode mB_Mo_play 15 = .ok (.if_icmp .ge 7, 3) := by decide +kernel
theorem mD_Mo_play_18 : decode mB_Mo_play 18 = .ok (.iconst 1, 1) := by decide +kernel
theorem mD_Mo_play_19 : decode mB_Mo_play 19 = .ok (.goto 4, 3) := by decide +kernel
theorem mD_Mo_play_22 : decode mB_Mo_play 22 = .ok (.iconst 0, 1) := by decide +kernel
theorem mD_Mo_play_23 : decode mB_Mo_play 23 = .ok (.iload_n 2, 1) := by decide +kernel
theorem mD_Mo_play_24 : decode mB_Mo_play 24 = .ok (.ifCond .lt 14, 3) := by decide +kernel
theorem mD_Mo_play_27 : decode mB_Mo_play 27 = .ok (.iload_n 2, 1) := by decide +kernel
theorem mD_Mo_play_28 : decode mB_Mo_play 28 = .ok (.sipush 255, 3) := by decide +kernel
theorem mD_Mo_play_31 : decode mB_Mo_play 31 = .ok (.if_icmp .gt 7, 3) := by decide +kernel
theorem mD_Mo_play_34 : decode mB_Mo_play 34 = .ok (.iconst 1, 1) := by decide +kernel
theorem mD_Mo_play_35 : decode mB_Mo_play 35 = .ok (.goto 4, 3) := by decide +kernel
theorem mD_Mo_play_38 : decode mB_Mo_play 38 = .ok (.iconst 0, 1) := by decide +kernel
theorem mD_Mo_play_39 : decode mB_Mo_play 39 = .ok (.aload_n 0, 1) := by decide +kernel
theorem mD_Mo_play_40 : decode mB_Mo_play 40 = .ok (.invokevirtual 36, 3) := by decide +kernel
theorem mD_Mo_play_43 : decode mB_Mo_play 43 = .ok (.bipush 120, 2) := by decide +kernel
theorem mD_Mo_play_45 : decode mB_Mo_play 45 = .ok (.if_icmp .ge 7, 3) := by decide +kernel
theorem mD_Mo_play_48 : decode mB_Mo_play 48 = .ok (.iconst 1, 1) := by decide +kernel
theorem mD_Mo_play_49 : decode mB_Mo_play 49 = .ok (.goto 4, 3) := by decide +kernel
theorem mD_Mo_play_52 : decode mB_Mo_play 52 = .ok (.iconst 0, 1) := by decide +kernel
theorem mD_Mo_play_53 : decode mB_Mo_play 53 = .ok (.invokevirtual 40, 3) := by decide +kernel
theorem mD_Mo_play_56 : decode mB_Mo_play 56 = .ok (.ifCond .ne 5, 3) := by decide +kernel
theorem mD_Mo_play_59 : decode mB_Mo_play 59 = .ok (.iconst 0, 1) := by decide +kernel
theorem mD_Mo_play_60 : decode mB_Mo_play 60 = .ok (.ireturn, 1) := by decide +kernel
theorem mD_Mo_play_61 : decode mB_Mo_play 61 = .ok (.iconst 0, 1) := by decide +kernel
theorem mD_Mo_play_62 : decode mB_Mo_play 62 = .ok (.istore_n 3, 1) := by decide +kernel
theorem mD_Mo_play_63 : decode mB_Mo_play 63 = .ok (.iload_n 3, 1) := by decide +kernel
theorem mD_Mo_play_64 : decode mB_Mo_play 64 = .ok (.bipush 8, 2) := by decide +kernel
theorem mD_Mo_play_66 : decode mB_Mo_play 66 = .ok (.if_icmp .ge 29, 3) := by decide +kernel
theorem mD_Mo_play_69 : decode mB_Mo_play 69 = .ok (.aload_n 0, 1) := by decide +kernel
theorem mD_Mo_play_70 : decode mB_Mo_play 70 = .ok (.getfield 29, 3) := by decide +kernel
theorem mD_Mo_play_73 : decode mB_Mo_play 73 = .ok (.iload_n 3, 1) := by decide +kernel
theorem mD_Mo_play_74 : decode mB_Mo_play 74 = .ok (.iload_n 2, 1) := by decide +kernel
theorem mD_Mo_play_75 : decode mB_Mo_play 75 = .ok (.iload_n 3, 1) := by decide +kernel
theorem mD_Mo_play_76 : decode mB_Mo_play 76 = .ok (.ishr, 1) := by decide +kernel
theorem mD_Mo_play_77 : decode mB_Mo_play 77 = .ok (.iconst 1, 1) := by decide +kernel
theorem mD_Mo_play_78 : decode mB_Mo_play 78 = .ok (.iand, 1) := by decide +kernel
theorem mD_Mo_play_79 : decode mB_Mo_play 79 = .ok (.iconst 1, 1) := by decide +kernel
theorem mD_Mo_play_80 : decode mB_Mo_play 80 = .ok (.if_icmp .ne 7, 3) := by decide +kernel
theorem mD_Mo_play_83 : decode mB_Mo_play 83 = .ok (.iconst 1, 1) := by decide +kernel
theorem mD_Mo_play_84 : decode mB_Mo_play 84 = .ok (.goto 4, 3) := by decide +kernel
theorem mD_Mo_play_87 : decode mB_Mo_play 87 = .ok (.iconst 0, 1) := by decide +kernel
theorem mD_Mo_play_88 : decode mB_Mo_play 88 = .ok (.bastore, 1) := by decide +kernel
theorem mD_Mo_play_89 : decode mB_Mo_play 89 = .ok (.iinc 3 1, 3) := by decide +kernel
theorem mD_Mo_play_92 : decode mB_Mo_play 92 = .ok (.goto (-29), 3) := by decide +kernel
theorem mD_Mo_play_95 : decode mB_Mo_play 95 = .ok (.iconst 0, 1) := by decide +kernel
theorem mD_Mo_play_96 : decode mB_Mo_play 96 = .ok (.istore_n 3, 1) := by decide +kernel
theorem mD_Mo_play_97 : decode mB_Mo_play 97 = .ok (.iload_n 3, 1) := by decide +kernel
theorem mD_Mo_play_98 : decode mB_Mo_play 98 = .ok (.iload_n 1, 1) := by decide +kernel
theorem mD_Mo_play_99 : decode mB_Mo_play 99 = .ok (.bipush 8, 2) := by decide +kernel
theorem mD_Mo_play_101 : decode mB_Mo_play 101 = .ok (.isub, 1) := by decide +kernel
theorem mD_Mo_play_102 : decode mB_Mo_play 102 = .ok (.if_icmp .gt 59, 3) := by decide +kernel
theorem mD_Mo_play_105 : decode mB_Mo_play 105 = .ok (.aload_n 0, 1) := by decide +kernel
theorem mD_Mo_play_106 : decode mB_Mo_play 106 = .ok (.getfield 29, 3) := by decide +kernel
theorem mD_Mo_play_109 : decode mB_Mo_play 109 = .ok (.bipush 8, 2) := by decide +kernel
theorem mD_Mo_play_111 : decode mB_Mo_play 111 = .ok (.iload_n 3, 1) := by decide +kernel
theorem mD_Mo_play_112 : decode mB_Mo_play 112 = .ok (.iadd, 1) := by decide +kernel
theorem mD_Mo_play_113 : decode mB_Mo_play 113 = .ok (.aload_n 0, 1) := by decide +kernel
theorem mD_Mo_play_114 : decode mB_Mo_play 114 = .ok (.getfield 20, 3) := by decide +kernel
theorem mD_Mo_play_117 : decode mB_Mo_play 117 = .ok (.iload_n 3, 1) := by decide +kernel
theorem mD_Mo_play_118 : decode mB_Mo_play 118 = .ok (.iaload, 1) := by decide +kernel
theorem mD_Mo_play_119 : decode mB_Mo_play 119 = .ok (.aload_n 0, 1) := by decide +kernel
theorem mD_Mo_play_120 : decode mB_Mo_play 120 = .ok (.getfield 29, 3) := by decide +kernel
theorem mD_Mo_play_123 : decode mB_Mo_play 123 = .ok (.aload_n 0, 1) := by decide +kernel
theorem mD_Mo_play_124 : decode mB_Mo_play 124 = .ok (.getfield 23, 3) := by decide +kernel
theorem mD_Mo_play_127 : decode mB_Mo_play 127 = .ok (.iload_n 3, 1) := by decide +kernel
theorem mD_Mo_play_128 : decode mB_Mo_play 128 = .ok (.iaload, 1) := by decide +kernel
theorem mD_Mo_play_129 : decode mB_Mo_play 129 = .ok (.baload, 1) := by decide +kernel
theorem mD_Mo_play_130 : decode mB_Mo_play 130 = .ok (.aload_n 0, 1) := by decide +kernel
theorem mD_Mo_play_131 : decode mB_Mo_play 131 = .ok (.getfield 29, 3) := by decide +kernel
theorem mD_Mo_play_134 : decode mB_Mo_play 134 = .ok (.aload_n 0, 1) := by decide +kernel
theorem mD_Mo_play_135 : decode mB_Mo_play 135 = .ok (.getfield 26, 3) := by decide +kernel
theorem mD_Mo_play_138 : decode mB_Mo_play 138 = .ok (.iload_n 3, 1) := by decide +kernel
theorem mD_Mo_play_139 : decode mB_Mo_play 139 = .ok (.iaload, 1) := by decide +kernel
theorem mD_Mo_play_140 : decode mB_Mo_play 140 = .ok (.baload, 1) := by decide +kernel
theorem mD_Mo_play_141 : decode mB_Mo_play 141 = .ok (.invokestatic 81, 3) := by decide +kernel
theorem mD_Mo_play_144 : decode mB_Mo_play 144 = .ok (.bastore, 1) := by decide +kernel
theorem mD_Mo_play_145 : decode mB_Mo_play 145 = .ok (.aload_n 0, 1) := by decide +kernel
theorem mD_Mo_play_146 : decode mB_Mo_play 146 = .ok (.dup, 1) := by decide +kernel
theorem mD_Mo_play_147 : decode mB_Mo_play 147 = .ok (.getfield 78, 3) := by decide +kernel
theorem mD_Mo_play_150 : decode mB_Mo_play 150 = .ok (.iconst 1, 1) := by decide +kernel
theorem mD_Mo_play_151 : decode mB_Mo_play 151 = .ok (.iadd, 1) := by decide +kernel
theorem mD_Mo_play_152 : decode mB_Mo_play 152 = .ok (.putfield 78, 3) := by decide +kernel
theorem mD_Mo_play_155 : decode mB_Mo_play 155 = .ok (.iinc 3 1, 3) := by decide +kernel
theorem mD_Mo_play_158 : decode mB_Mo_play 158 = .ok (.goto (-61), 3) := by decide +kernel
theorem mD_Mo_play_161 : decode mB_Mo_play 161 = .ok (.aload_n 0, 1) := by decide +kernel
theorem mD_Mo_play_162 : decode mB_Mo_play 162 = .ok (.aload_n 0, 1) := by decide +kernel
theorem mD_Mo_play_163 : decode mB_Mo_play 163 = .ok (.getfield 29, 3) := by decide +kernel
theorem mD_Mo_play_166 : decode mB_Mo_play 166 = .ok (.iload_n 1, 1) := by decide +kernel
theorem mD_Mo_play_167 : decode mB_Mo_play 167 = .ok (.baload, 1) := by decide +kernel
theorem mD_Mo_play_168 : decode mB_Mo_play 168 = .ok (.ldc 85, 2) := by decide +kernel
theorem mD_Mo_play_170 : decode mB_Mo_play 170 = .ok (.invokevirtual 44, 3) := by decide +kernel
theorem mD_Mo_play_173 : decode mB_Mo_play 173 = .ok (.ireturn, 1) := by decide +kernel
theorem mD_Mo_clear_0 : decode mB_Mo_clear 0 = .ok (.aload_n 0, 1) := by decide +kernel
theorem mD_Mo_clear_1 : decode mB_Mo_clear 1 = .ok (.iconst 0, 1) := by decide +kernel
theorem mD_Mo_clear_2 : decode mB_Mo_clear 2 = .ok (.putfield 32, 3) := by decide +kernel
theorem mD_Mo_clear_5 : decode mB_Mo_clear 5 = .ok (.aload_n 0, 1) := by decide +kernel
theorem mD_Mo_clear_6 : decode mB_Mo_clear 6 = .ok (.getfield 87, 3) := by decide +kernel
theorem mD_Mo_clear_9 : decode mB_Mo_clear 9 = .ok (.istore_n 1, 1) := by decide +kernel
theorem mD_Mo_clear_10 : decode mB_Mo_clear 10 = .ok (.aload_n 0, 1) := by decide +kernel
theorem mD_Mo_clear_11 : decode mB_Mo_clear 11 = .ok (.iconst 0, 1) := by decide +kernel
theorem mD_Mo_clear_12 : decode mB_Mo_clear 12 = .ok (.putfield 87, 3) := by decide +kernel
theorem mD_Mo_clear_15 : decode mB_Mo_clear 15 = .ok (.iload_n 1, 1) := by decide +kernel
theorem mD_Mo_clear_16 : decode mB_Mo_clear 16 = .ok (.ireturn, 1) := by decide +kernel
theorem mD_Mo_count_0 : decode mB_Mo_count 0 = .ok (.aload_n 0, 1) := by decide +kernel
theorem mD_Mo_count_1 : decode mB_Mo_count 1 = .ok (.iload_n 1, 1) := by decide +kernel
theorem mD_Mo_count_2 : decode mB_Mo_count 2 = .ok (.ifCond .lt 12, 3) := by decide +kernel
theorem mD_Mo_count_5 : decode mB_Mo_count 5 = .ok (.iload_n 1, 1) := by decide +kernel
theorem mD_Mo_count_6 : decode mB_Mo_count 6 = .ok (.iconst 4, 1) := by decide +kernel
theorem mD_Mo_count_7 : decode mB_Mo_count 7 = .ok (.if_icmp .gt 7, 3) := by decide +kernel
theorem mD_Mo_count_10 : decode mB_Mo_count 10 = .ok (.iconst 1, 1) := by decide +kernel
theorem mD_Mo_count_11 : decode mB_Mo_count 11 = .ok (.goto 4, 3) := by decide +kernel
theorem mD_Mo_count_14 : decode mB_Mo_count 14 = .ok (.iconst 0, 1) := by decide +kernel
theorem mD_Mo_count_15 : decode mB_Mo_count 15 = .ok (.iconst 1, 1) := by decide +kernel
theorem mD_Mo_count_16 : decode mB_Mo_count 16 = .ok (.iconst 1, 1) := by decide +kernel
theorem mD_Mo_count_17 : decode mB_Mo_count 17 = .ok (.invokevirtual 40, 3) := by decide +kernel
theorem mD_Mo_count_20 : decode mB_Mo_count 20 = .ok (.ifCond .ne 5, 3) := by decide +kernel
theorem mD_Mo_count_23 : decode mB_Mo_count 23 = .ok (.iconst 0, 1) := by decide +kernel
theorem mD_Mo_count_24 : decode mB_Mo_count 24 = .ok (.ireturn, 1) := by decide +kernel
theorem mD_Mo_count_25 : decode mB_Mo_count 25 = .ok (.iconst 0, 1) := by decide +kernel
theorem mD_Mo_count_26 : decode mB_Mo_count 26 = .ok (.istore_n 2, 1) := by decide +kernel
theorem mD_Mo_count_27 : decode mB_Mo_count 27 = .ok (.iconst 0, 1) := by decide +kernel
theorem mD_Mo_count_28 : decode mB_Mo_count 28 = .ok (.istore_n 3, 1) := by decide +kernel
theorem mD_Mo_count_29 : decode mB_Mo_count 29 = .ok (.iload_n 3, 1) := by decide +kernel
theorem mD_Mo_count_30 : decode mB_Mo_count 30 = .ok (.bipush 120, 2) := by decide +kernel
theorem mD_Mo_count_32 : decode mB_Mo_count 32 = .ok (.if_icmp .ge 39, 3) := by decide +kernel
theorem mD_Mo_count_35 : decode mB_Mo_count 35 = .ok (.aload_n 0, 1) := by decide +kernel
theorem mD_Mo_count_36 : decode mB_Mo_count 36 = .ok (.getfield 7, 3) := by decide +kernel
theorem mD_Mo_count_39 : decode mB_Mo_count 39 = .ok (.iload_n 3, 1) := by decide +kernel
theorem mD_Mo_count_40 : decode mB_Mo_count 40 = .ok (.baload, 1) := by decide +kernel
theorem mD_Mo_count_41 : decode mB_Mo_count 41 = .ok (.ifCond .eq 22, 3) := by decide +kernel
theorem mD_Mo_count_44 : decode mB_Mo_count 44 = .ok (.aload_n 0, 1) := by decide +kernel
theorem mD_Mo_count_45 : decode mB_Mo_count 45 = .ok (.getfield 16, 3) := by decide +kernel
theorem mD_Mo_count_48 : decode mB_Mo_count 48 = .ok (.iload_n 3, 1) := by decide +kernel
theorem mD_Mo_count_49 : decode mB_Mo_count 49 = .ok (.iaload, 1) := by decide +kernel
theorem mD_Mo_count_50 : decode mB_Mo_count 50 = .ok (.iload_n 2, 1) := by decide +kernel
theorem mD_Mo_count_51 : decode mB_Mo_count 51 = .ok (.if_icmp .le 12, 3) := by decide +kernel
theorem mD_Mo_count_54 : decode mB_Mo_count 54 = .ok (.aload_n 0, 1) := by decide +kernel
theorem mD_Mo_count_55 : decode mB_Mo_count 55 = .ok (.getfield 16, 3) := by decide +kernel
theorem mD_Mo_count_58 : decode mB_Mo_count 58 = .ok (.iload_n 3, 1) := by decide +kernel
theorem mD_Mo_count_59 : decode mB_Mo_count 59 = .ok (.iaload, 1) := by decide +kernel
theorem mD_Mo_count_60 : decode mB_Mo_count 60 = .ok (.goto 4, 3) := by decide +kernel
theorem mD_Mo_count_63 : decode mB_Mo_count 63 = .ok (.iload_n 2, 1) := by decide +kernel
theorem mD_Mo_count_64 : decode mB_Mo_count 64 = .ok (.istore_n 2, 1) := by decide +kernel
theorem mD_Mo_count_65 : decode mB_Mo_count 65 = .ok (.iinc 3 1, 3) := by decide +kernel
theorem mD_Mo_count_68 : decode mB_Mo_count 68 = .ok (.goto (-39), 3) := by decide +kernel
theorem mD_Mo_count_71 : decode mB_Mo_count 71 = .ok (.iload_n 1, 1) := by decide +kernel
theorem mD_Mo_count_72 : decode mB_Mo_count 72 = .ok (.tableswitch 52 0 3 #[32, 37, 42, 47], 32) := by decide +kernel
theorem mD_Mo_count_104 : decode mB_Mo_count 104 = .ok (.aload_n 0, 1) := by decide +kernel
theorem mD_Mo_count_105 : decode mB_Mo_count 105 = .ok (.invokevirtual 36, 3) := by decide +kernel
theorem mD_Mo_count_108 : decode mB_Mo_count 108 = .ok (.ireturn, 1) := by decide +kernel
theorem mD_Mo_count_109 : decode mB_Mo_count 109 = .ok (.aload_n 0, 1) := by decide +kernel
theorem mD_Mo_count_110 : decode mB_Mo_count 110 = .ok (.getfield 78, 3) := by decide +kernel
theorem mD_Mo_count_113 : decode mB_Mo_count 113 = .ok (.ireturn, 1) := by decide +kernel
theorem mD_Mo_count_114 : decode mB_Mo_count 114 = .ok (.aload_n 0, 1) := by decide +kernel
theorem mD_Mo_count_115 : decode mB_Mo_count 115 = .ok (.getfield 75, 3) := by decide +kernel
theorem mD_Mo_count_118 : decode mB_Mo_count 118 = .ok (.ireturn, 1) := by decide +kernel
theorem mD_Mo_count_119 : decode mB_Mo_count 119 = .ok (.aload_n 0, 1) := by decide +kernel
theorem mD_Mo_count_120 : decode mB_Mo_count 120 = .ok (.getfield 87, 3) := by decide +kernel
theorem mD_Mo_count_123 : decode mB_Mo_count 123 = .ok (.ireturn, 1) := by decide +kernel
theorem mD_Mo_count_124 : decode mB_Mo_count 124 = .ok (.iload_n 2, 1) := by decide +kernel
theorem mD_Mo_count_125 : decode mB_Mo_count 125 = .ok (.ireturn, 1) := by decide +kernel
theorem mD_Ce_init_0 : decode mB_Ce_init 0 = .ok (.aload_n 0, 1) := by decide +kernel
theorem mD_Ce_init_1 : decode mB_Ce_init 1 = .ok (.invokespecial 1, 3) := by decide +kernel
theorem mD_Ce_init_4 : decode mB_Ce_init 4 = .ok (.aload_n 0, 1) := by decide +kernel
theorem mD_Ce_init_5 : decode mB_Ce_init 5 = .ok (.bipush 9, 2) := by decide +kernel
theorem mD_Ce_init_7 : decode mB_Ce_init 7 = .ok (.newarray .int, 2) := by decide +kernel
theorem mD_Ce_init_9 : decode mB_Ce_init 9 = .ok (.putfield 9, 3) := by decide +kernel
theorem mD_Ce_init_12 : decode mB_Ce_init 12 = .ok (.return_, 1) := by decide +kernel
theorem mD_Ce_becomeLike_0 : decode mB_Ce_becomeLike 0 = .ok (.aload_n 1, 1) := by decide +kernel
theorem mD_Ce_becomeLike_1 : decode mB_Ce_becomeLike 1 = .ok (.getfield 9, 3) := by decide +kernel
theorem mD_Ce_becomeLike_4 : decode mB_Ce_becomeLike 4 = .ok (.iconst 0, 1) := by decide +kernel
theorem mD_Ce_becomeLike_5 : decode mB_Ce_becomeLike 5 = .ok (.aload_n 0, 1) := by decide +kernel
theorem mD_Ce_becomeLike_6 : decode mB_Ce_becomeLike 6 = .ok (.getfield 9, 3) := by decide +kernel
theorem mD_Ce_becomeLike_9 : decode mB_Ce_becomeLike 9 = .ok (.iconst 0, 1) := by decide +kernel
theorem mD_Ce_becomeLike_10 : decode mB_Ce_becomeLike 10 = .ok (.bipush 9, 2) := by decide +kernel
theorem mD_Ce_becomeLike_12 : decode mB_Ce_becomeLike 12 = .ok (.invokestatic 15, 3) := by decide +kernel
theorem mD_Ce_becomeLike_15 : decode mB_Ce_becomeLike 15 = .ok (.aload_n 0, 1) := by decide +kernel
theorem mD_Ce_becomeLike_16 : decode mB_Ce_becomeLike 16 = .ok (.aload_n 1, 1) := by decide +kernel
theorem mD_Ce_becomeLike_17 : decode mB_Ce_becomeLike 17 = .ok (.getfield 21, 3) := by decide +kernel
theorem mD_Ce_becomeLike_20 : decode mB_Ce_becomeLike 20 = .ok (.putfield 21, 3) := by decide +kernel
theorem mD_Ce_becomeLike_23 : decode mB_Ce_becomeLike 23 = .ok (.aload_n 0, 1) := by decide +kernel
theorem mD_Ce_becomeLike_24 : decode mB_Ce_becomeLike 24 = .ok (.aload_n 1, 1) := by decide +kernel
theorem mD_Ce_becomeLike_25 : decode mB_Ce_becomeLike 25 = .ok (.getfield 25, 3) := by decide +kernel
theorem mD_Ce_becomeLike_28 : decode mB_Ce_becomeLike 28 = .ok (.putfield 25, 3) := by decide +kernel
theorem mD_Ce_becomeLike_31 : decode mB_Ce_becomeLike 31 = .ok (.return_, 1) := by decide +kernel
theorem mD_Ce_becomeOpposite_0 : decode mB_Ce_becomeOpposite 0 = .ok (.aload_n 0, 1) := by decide +kernel
theorem mD_Ce_becomeOpposite_1 : decode mB_Ce_becomeOpposite 1 = .ok (.aload_n 1, 1) := by decide +kernel
theorem mD_Ce_becomeOpposite_2 : decode mB_Ce_becomeOpposite 2 = .ok (.invokevirtual 29, 3) := by decide +kernel
theorem mD_Ce_becomeOpposite_5 : decode mB_Ce_becomeOpposite 5 = .ok (.aload_n 0, 1) := by decide +kernel
theorem mD_Ce_becomeOpposite_6 : decode mB_Ce_becomeOpposite 6 = .ok (.iconst (-1), 1) := by decide +kernel
theorem mD_Ce_becomeOpposite_7 : decode mB_Ce_becomeOpposite 7 = .ok (.invokevirtual 33, 3) := by decide +kernel
theorem mD_Ce_becomeOpposite_10 : decode mB_Ce_becomeOpposite 10 = .ok (.aload_n 0, 1) := by decide +kernel
theorem mD_Ce_becomeOpposite_11 : decode mB_Ce_becomeOpposite 11 = .ok (.aload_n 1, 1) := by decide +kernel
theorem mD_Ce_becomeOpposite_12 : decode mB_Ce_becomeOpposite 12 = .ok (.getfield 25, 3) := by decide +kernel
theorem mD_Ce_becomeOpposite_15 : decode mB_Ce_becomeOpposite 15 = .ok (.ifCond .ne 7, 3) := by decide +kernel
theorem mD_Ce_becomeOpposite_18 : decode mB_Ce_becomeOpposite 18 = .ok (.iconst 1, 1) := by decide +kernel
theorem mD_Ce_becomeOpposite_19 : decode mB_Ce_becomeOpposite 19 = .ok (.goto 4, 3) := by decide +kernel
theorem mD_Ce_becomeOpposite_22 : decode mB_Ce_becomeOpposite 22 = .ok (.iconst 0, 1) := by decide +kernel
theorem mD_Ce_becomeOpposite_23 : decode mB_Ce_becomeOpposite 23 = .ok (.putfield 25, 3) := by decide +kernel
theorem mD_Ce_becomeOpposite_26 : decode mB_Ce_becomeOpposite 26 = .ok (.return_, 1) := by decide +kernel
theorem mD_Ce_addRow_0 : decode mB_Ce_addRow 0 = .ok (.iconst 0, 1) := by decide +kernel
theorem mD_Ce_addRow_1 : decode mB_Ce_addRow 1 = .ok (.istore_n 2, 1) := by decide +kernel
theorem mD_Ce_addRow_2 : decode mB_Ce_addRow 2 = .ok (.iload_n 2, 1) := by decide +kernel
theorem mD_Ce_addRow_3 : decode mB_Ce_addRow 3 = .ok (.bipush 9, 2) := by decide +kernel
theorem mD_Ce_addRow_5 : decode mB_Ce_addRow 5 = .ok (.if_icmp .ge 21, 3) := by decide +kernel
theorem mD_Ce_addRow_8 : decode mB_Ce_addRow 8 = .ok (.aload_n 0, 1) := by decide +kernel
theorem mD_Ce_addRow_9 : decode mB_Ce_addRow 9 = .ok (.getfield 9, 3) := by decide +kernel
theorem mD_Ce_addRow_12 : decode mB_Ce_addRow 12 = .ok (.iload_n 2, 1) := by decide +kernel
theorem mD_Ce_addRow_13 : decode mB_Ce_addRow 13 = .ok (.dup2, 1) := by decide +kernel
theorem mD_Ce_addRow_14 : decode mB_Ce_addRow 14 = .ok (.iaload, 1) := by decide +kernel
theorem mD_Ce_addRow_15 : decode mB_Ce_addRow 15 = .ok (.aload_n 1, 1) := by decide +kernel
theorem mD_Ce_addRow_16 : decode mB_Ce_addRow 16 = .ok (.iload_n 2, 1) := by decide +kernel
theorem mD_Ce_addRow_17 : decode mB_Ce_addRow 17 = .ok (.iaload, 1) := by decide +kernel
theorem mD_Ce_addRow_18 : decode mB_Ce_addRow 18 = .ok (.iadd, 1) := by decide +kernel
theorem mD_Ce_addRow_19 : decode mB_Ce_addRow 19 = .ok (.iastore, 1) := by decide +kernel
theorem mD_Ce_addRow_20 : decode mB_Ce_addRow 20 = .ok (.iinc 2 1, 3) := by decide +kernel
theorem mD_Ce_addRow_23 : decode mB_Ce_addRow 23 = .ok (.goto (-21), 3) := by decide +kernel
theorem mD_Ce_addRow_26 : decode mB_Ce_addRow 26 = .ok (.return_, 1) := by decide +kernel
theorem mD_Ce_multiply_0 : decode mB_Ce_multiply 0 = .ok (.iconst 0, 1) := by decide +kernel
theorem mD_Ce_multiply_1 : decode mB_Ce_multiply 1 = .ok (.istore_n 2, 1) := by decide +kernel
theorem mD_Ce_multiply_2 : decode mB_Ce_multiply 2 = .ok (.iload_n 2, 1) := by decide +kernel
theorem mD_Ce_multiply_3 : decode mB_Ce_multiply 3 = .ok (.bipush 9, 2) := by decide +kernel
theorem mD_Ce_multiply_5 : decode mB_Ce_multiply 5 = .ok (.if_icmp .ge 19, 3) := by decide +kernel
theorem mD_Ce_multiply_8 : decode mB_Ce_multiply 8 = .ok (.aload_n 0, 1) := by decide +kernel
theorem mD_Ce_multiply_9 : decode mB_Ce_multiply 9 = .ok (.getfield 9, 3) := by decide +kernel
theorem mD_Ce_multiply_12 : decode mB_Ce_multiply 12 = .ok (.iload_n 2, 1) := by decide +kernel
theorem mD_Ce_multiply_13 : decode mB_Ce_multiply 13 = .ok (.dup2, 1) := by decide +kernel
theorem mD_Ce_multiply_14 : decode mB_Ce_multiply 14 = .ok (.iaload, 1) := by decide +kernel
theorem mD_Ce_multiply_15 : decode mB_Ce_multiply 15 = .ok (.iload_n 1, 1) := by decide +kernel
theorem mD_Ce_multiply_16 : decode mB_Ce_multiply 16 = .ok (.imul, 1) := by decide +kernel
theorem mD_Ce_multiply_17 : decode mB_Ce_multiply 17 = .ok (.iastore, 1) := by decide +kernel
theorem mD_Ce_multiply_18 : decode mB_Ce_multiply 18 = .ok (.iinc 2 1, 3) := by decide +kernel
theorem mD_Ce_multiply_21 : decode mB_Ce_multiply 21 = .ok (.goto (-19), 3) := by decide +kernel
theorem mD_Ce_multiply_24 : decode mB_Ce_multiply 24 = .ok (.return_, 1) := by decide +kernel
theorem mD_Ci_init_0 : decode mB_Ci_init 0 = .ok (.aload_n 0, 1) := by decide +kernel
theorem mD_Ci_init_1 : decode mB_Ci_init 1 = .ok (.invokespecial 3, 3) := by decide +kernel
theorem mD_Ci_init_4 : decode mB_Ci_init 4 = .ok (.aload_n 0, 1) := by decide +kernel
theorem mD_Ci_init_5 : decode mB_Ci_init 5 = .ok (.bipush 24, 2) := by decide +kernel
theorem mD_Ci_init_7 : decode mB_Ci_init 7 = .ok (.newarray .int, 2) := by decide +kernel
theorem mD_Ci_init_9 : decode mB_Ci_init 9 = .ok (.putfield 9, 3) := by decide +kernel
theorem mD_Ci_init_12 : decode mB_Ci_init 12 = .ok (.aload_n 0, 1) := by decide +kernel
theorem mD_Ci_init_13 : decode mB_Ci_init 13 = .ok (.bipush 24, 2) := by decide +kernel
theorem mD_Ci_init_15 : decode mB_Ci_init 15 = .ok (.newarray .int, 2) := by decide +kernel
theorem mD_Ci_init_17 : decode mB_Ci_init 17 = .ok (.putfield 15, 3) := by decide +kernel
theorem mD_Ci_init_20 : decode mB_Ci_init 20 = .ok (.aload_n 0, 1) := by decide +kernel
theorem mD_Ci_init_21 : decode mB_Ci_init 21 = .ok (.bipush 24, 2) := by decide +kernel
theorem mD_Ci_init_23 : decode mB_Ci_init 23 = .ok (.newarray .int, 2) := by decide +kernel
theorem mD_Ci_init_25 : decode mB_Ci_init 25 = .ok (.putfield 18, 3) := by decide +kernel
theorem mD_Ci_init_28 : decode mB_Ci_init 28 = .ok (.return_, 1) := by decide +kernel
theorem mD_Ci_isAhead_0 : decode mB_Ci_isAhead 0 = .ok (.iload_n 1, 1) := by decide +kernel
theorem mD_Ci_isAhead_1 : decode mB_Ci_isAhead 1 = .ok (.ifCond .lt 18, 3) := by decide +kernel
theorem mD_Ci_isAhead_4 : decode mB_Ci_isAhead 4 = .ok (.iload_n 1, 1) := by decide +kernel
theorem mD_Ci_isAhead_5 : decode mB_Ci_isAhead 5 = .ok (.bipush 8, 2) := by decide +kernel
theorem mD_Ci_isAhead_7 : decode mB_Ci_isAhead 7 = .ok (.aload_n 0, 1) := by decide +kernel
theorem mD_Ci_isAhead_8 : decode mB_Ci_isAhead 8 = .ok (.getfield 21, 3) := by decide +kernel
theorem mD_Ci_isAhead_11 : decode mB_Ci_isAhead 11 = .ok (.iadd, 1) := by decide +kernel
theorem mD_Ci_isAhead_12 : decode mB_Ci_isAhead 12 = .ok (.if_icmp .ge 7, 3) := by decide +kernel
theorem mD_Ci_isAhead_15 : decode mB_Ci_isAhead 15 = .ok (.iconst 1, 1) := by decide +kernel
theorem mD_Ci_isAhead_16 : decode mB_Ci_isAhead 16 = .ok (.goto 4, 3) := by decide +kernel
theorem mD_Ci_isAhead_19 : decode mB_Ci_isAhead 19 = .ok (.iconst 0, 1) := by decide +kernel
theorem mD_Ci_isAhead_20 : decode mB_Ci_isAhead 20 = .ok (.ireturn, 1) := by decide +kernel
theorem mD_Ci_hasLine_0 : decode mB_Ci_hasLine 0 = .ok (.iload_n 1, 1) := by decide +kernel
theorem mD_Ci_hasLine_1 : decode mB_Ci_hasLine 1 = .ok (.bipush 8, 2) := by decide +kernel
theorem mD_Ci_hasLine_3 : decode mB_Ci_hasLine 3 = .ok (.if_icmp .lt 15, 3) := by decide +kernel
theorem mD_Ci_hasLine_6 : decode mB_Ci_hasLine 6 = .ok (.aload_n 0, 1) := by decide +kernel
theorem mD_Ci_hasLine_7 : decode mB_Ci_hasLine 7 = .ok (.iload_n 1, 1) := by decide +kernel
theorem mD_Ci_hasLine_8 : decode mB_Ci_hasLine 8 = .ok (.invokevirtual 25, 3) := by decide +kernel
theorem mD_Ci_hasLine_11 : decode mB_Ci_hasLine 11 = .ok (.ifCond .eq 7, 3) := by decide +kernel
theorem mD_Ci_hasLine_14 : decode mB_Ci_hasLine 14 = .ok (.iconst 1, 1) := by decide +kernel
theorem mD_Ci_hasLine_15 : decode mB_Ci_hasLine 15 = .ok (.goto 4, 3) := by decide +kernel
theorem mD_Ci_hasLine_18 : decode mB_Ci_hasLine 18 = .ok (.iconst 0, 1) := by decide +kernel
theorem mD_Ci_hasLine_19 : decode mB_Ci_hasLine 19 = .ok (.ireturn, 1) := by decide +kernel
theorem mD_Ci_add_0 : decode mB_Ci_add 0 = .ok (.aload_n 0, 1) := by decide +kernel
theorem mD_Ci_add_1 : decode mB_Ci_add 1 = .ok (.getfield 9, 3) := by decide +kernel
theorem mD_Ci_add_4 : decode mB_Ci_add 4 = .ok (.aload_n 0, 1) := by decide +kernel
theorem mD_Ci_add_5 : decode mB_Ci_add 5 = .ok (.getfield 21, 3) := by decide +kernel
theorem mD_Ci_add_8 : decode mB_Ci_add 8 = .ok (.iload_n 1, 1) := by decide +kernel
theorem mD_Ci_add_9 : decode mB_Ci_add 9 = .ok (.iastore, 1) := by decide +kernel
theorem mD_Ci_add_10 : decode mB_Ci_add 10 = .ok (.aload_n 0, 1) := by decide +kernel
theorem mD_Ci_add_11 : decode mB_Ci_add 11 = .ok (.getfield 15, 3) := by decide +kernel
theorem mD_Ci_add_14 : decode mB_Ci_add 14 = .ok (.aload_n 0, 1) := by decide +kernel
theorem mD_Ci_add_15 : decode mB_Ci_add 15 = .ok (.getfield 21, 3) := by decide +kernel
theorem mD_Ci_add_18 : decode mB_Ci_add 18 = .ok (.iload_n 2, 1) := by decide +kernel
theorem mD_Ci_add_19 : decode mB_Ci_add 19 = .ok (.iastore, 1) := by decide +kernel
theorem mD_Ci_add_20 : decode mB_Ci_add 20 = .ok (.aload_n 0, 1) := by decide +kernel
theorem mD_Ci_add_21 : decode mB_Ci_add 21 = .ok (.getfield 18, 3) := by decide +kernel
theorem mD_Ci_add_24 : decode mB_Ci_add 24 = .ok (.aload_n 0, 1) := by decide +kernel
theorem mD_Ci_add_25 : decode mB_Ci_add 25 = .ok (.getfield 21, 3) := by decide +kernel
theorem mD_Ci_add_28 : decode mB_Ci_add 28 = .ok (.iload_n 3, 1) := by decide +kernel
theorem mD_Ci_add_29 : decode mB_Ci_add 29 = .ok (.iastore, 1) := by decide +kernel
theorem mD_Ci_add_30 : decode mB_Ci_add 30 = .ok (.aload_n 0, 1) := by decide +kernel
theorem mD_Ci_add_31 : decode mB_Ci_add 31 = .ok (.dup, 1) := by decide +kernel
theorem mD_Ci_add_32 : decode mB_Ci_add 32 = .ok (.getfield 21, 3) := by decide +kernel
theorem mD_Ci_add_35 : decode mB_Ci_add 35 = .ok (.iconst 1, 1) := by decide +kernel
theorem mD_Ci_add_36 : decode mB_Ci_add 36 = .ok (.iadd, 1) := by decide +kernel
theorem mD_Ci_add_37 : decode mB_Ci_add 37 = .ok (.putfield 21, 3) := by decide +kernel
theorem mD_Ci_add_40 : decode mB_Ci_add 40 = .ok (.bipush 8, 2) := by decide +kernel
theorem mD_Ci_add_42 : decode mB_Ci_add 42 = .ok (.aload_n 0, 1) := by decide +kernel
theorem mD_Ci_add_43 : decode mB_Ci_add 43 = .ok (.getfield 21, 3) := by decide +kernel
theorem mD_Ci_add_46 : decode mB_Ci_add 46 = .ok (.iadd, 1) := by decide +kernel
theorem mD_Ci_add_47 : decode mB_Ci_add 47 = .ok (.iconst 1, 1) := by decide +kernel
theorem mD_Ci_add_48 : decode mB_Ci_add 48 = .ok (.isub, 1) := by decide +kernel
theorem mD_Ci_add_49 : decode mB_Ci_add 49 = .ok (.ireturn, 1) := by decide +kernel
theorem mD_Ci_removeAll_0 : decode mB_Ci_removeAll 0 = .ok (.aload_n 0, 1) := by decide +kernel
theorem mD_Ci_removeAll_1 : decode mB_Ci_removeAll 1 = .ok (.getfield 21, 3) := by decide +kernel
theorem mD_Ci_removeAll_4 : decode mB_Ci_removeAll 4 = .ok (.istore_n 1, 1) := by decide +kernel
theorem mD_Ci_removeAll_5 : decode mB_Ci_removeAll 5 = .ok (.aload_n 0, 1) := by decide +kernel
theorem mD_Ci_removeAll_6 : decode mB_Ci_removeAll 6 = .ok (.iconst 0, 1) := by decide +kernel
theorem mD_Ci_removeAll_7 : decode mB_Ci_removeAll 7 = .ok (.putfield 21, 3) := by decide +kernel
theorem mD_Ci_removeAll_10 : decode mB_Ci_removeAll 10 = .ok (.iload_n 1, 1) := by decide +kernel
theorem mD_Ci_removeAll_11 : decode mB_Ci_removeAll 11 = .ok (.ireturn, 1) := by decide +kernel
theorem mD_Di_digit_0 : decode mB_Di_digit 0 = .ok (.iload_n 0, 1) := by decide +kernel
theorem mD_Di_digit_1 : decode mB_Di_digit 1 = .ok (.ldc 9, 2) := by decide +kernel
theorem mD_Di_digit_3 : decode mB_Di_digit 3 = .ok (.iadd, 1) := by decide +kernel
theorem mD_Di_digit_4 : decode mB_Di_digit 4 = .ok (.bipush 22, 2) := by decide +kernel
theorem mD_Di_digit_6 : decode mB_Di_digit 6 = .ok (.bipush 10, 2) := by decide +kernel
theorem mD_Di_digit_8 : decode mB_Di_digit 8 = .ok (.iload_n 1, 1) := by decide +kernel
theorem mD_Di_digit_9 : decode mB_Di_digit 9 = .ok (.imul, 1) := by decide +kernel
theorem mD_Di_digit_10 : decode mB_Di_digit 10 = .ok (.isub, 1) := by decide +kernel
theorem mD_Di_digit_11 : decode mB_Di_digit 11 = .ok (.iushr, 1) := by decide +kernel
theorem mD_Di_digit_12 : decode mB_Di_digit 12 = .ok (.sipush 1023, 3) := by decide +kernel
theorem mD_Di_digit_15 : decode mB_Di_digit 15 = .ok (.iand, 1) := by decide +kernel
theorem mD_Di_digit_16 : decode mB_Di_digit 16 = .ok (.sipush 512, 3) := by decide +kernel
theorem mD_Di_digit_19 : decode mB_Di_digit 19 = .ok (.isub, 1) := by decide +kernel
theorem mD_Di_digit_20 : decode mB_Di_digit 20 = .ok (.ireturn, 1) := by decide +kernel
theorem mD_Di_weight_0 : decode mB_Di_weight 0 = .ok (.iconst 1, 1) := by decide +kernel
theorem mD_Di_weight_1 : decode mB_Di_weight 1 = .ok (.bipush 22, 2) := by decide +kernel
theorem mD_Di_weight_3 : decode mB_Di_weight 3 = .ok (.bipush 10, 2) := by decide +kernel
theorem mD_Di_weight_5 : decode mB_Di_weight 5 = .ok (.iload_n 0, 1) := by decide +kernel
theorem mD_Di_weight_6 : decode mB_Di_weight 6 = .ok (.imul, 1) := by decide +kernel
theorem mD_Di_weight_7 : decode mB_Di_weight 7 = .ok (.isub, 1) := by decide +kernel
theorem mD_Di_weight_8 : decode mB_Di_weight 8 = .ok (.ishl, 1) := by decide +kernel
theorem mD_Di_weight_9 : decode mB_Di_weight 9 = .ok (.ireturn, 1) := by decide +kernel
theorem mD_Le_init_0 : decode mB_Le_init 0 = .ok (.aload_n 0, 1) := by decide +kernel
theorem mD_Le_init_1 : decode mB_Le_init 1 = .ok (.invokespecial 3, 3) := by decide +kernel
theorem mD_Le_init_4 : decode mB_Le_init 4 = .ok (.aload_n 0, 1) := by decide +kernel
theorem mD_Le_init_5 : decode mB_Le_init 5 = .ok (.bipush 120, 2) := by decide +kernel
theorem mD_Le_init_7 : decode mB_Le_init 7 = .ok (.anewarray 9, 3) := by decide +kernel
theorem mD_Le_init_10 : decode mB_Le_init 10 = .ok (.putfield 11, 3) := by decide +kernel
theorem mD_Le_init_13 : decode mB_Le_init 13 = .ok (.iconst 0, 1) := by decide +kernel
theorem mD_Le_init_14 : decode mB_Le_init 14 = .ok (.istore_n 1, 1) := by decide +kernel
theorem mD_Le_init_15 : decode mB_Le_init 15 = .ok (.iload_n 1, 1) := by decide +kernel
theorem mD_Le_init_16 : decode mB_Le_init 16 = .ok (.bipush 120, 2) := by decide +kernel
theorem mD_Le_init_18 : decode mB_Le_init 18 = .ok (.if_icmp .ge 22, 3) := by decide +kernel
theorem mD_Le_init_21 : decode mB_Le_init 21 = .ok (.aload_n 0, 1) := by decide +kernel
theorem mD_Le_init_22 : decode mB_Le_init 22 = .ok (.getfield 11, 3) := by decide +kernel
theorem mD_Le_init_25 : decode mB_Le_init 25 = .ok (.iload_n 1, 1) := by decide +kernel
theorem mD_Le_init_26 : decode mB_Le_init 26 = .ok (.new 9, 3) := by decide +kernel
theorem mD_Le_init_29 : decode mB_Le_init 29 = .ok (.dup, 1) := by decide +kernel
theorem mD_Le_init_30 : decode mB_Le_init 30 = .ok (.invokespecial 17, 3) := by decide +kernel
theorem mD_Le_init_33 : decode mB_Le_init 33 = .ok (.aastore, 1) := by decide +kernel
theorem mD_Le_init_34 : decode mB_Le_init 34 = .ok (.iinc 1 1, 3) := by decide +kernel
theorem mD_Le_init_37 : decode mB_Le_init 37 = .ok (.goto (-22), 3) := by decide +kernel
theorem mD_Le_init_40 : decode mB_Le_init 40 = .ok (.return_, 1) := by decide +kernel
theorem mD_Le_holds_0 : decode mB_Le_holds 0 = .ok (.iload_n 1, 1) := by decide +kernel
theorem mD_Le_holds_1 : decode mB_Le_holds 1 = .ok (.ifCond .lt 25, 3) := by decide +kernel
theorem mD_Le_holds_4 : decode mB_Le_holds 4 = .ok (.iload_n 1, 1) := by decide +kernel
theorem mD_Le_holds_5 : decode mB_Le_holds 5 = .ok (.bipush 120, 2) := by decide +kernel
theorem mD_Le_holds_7 : decode mB_Le_holds 7 = .ok (.if_icmp .ge 19, 3) := by decide +kernel
theorem mD_Le_holds_10 : decode mB_Le_holds 10 = .ok (.aload_n 0, 1) := by decide +kernel
theorem mD_Le_holds_11 : decode mB_Le_holds 11 = .ok (.getfield 11, 3) := by decide +kernel
theorem mD_Le_holds_14 : decode mB_Le_holds 14 = .ok (.iload_n 1, 1) := by decide +kernel
theorem mD_Le_holds_15 : decode mB_Le_holds 15 = .ok (.aaload, 1) := by decide +kernel
theorem mD_Le_holds_16 : decode mB_Le_holds 16 = .ok (.getfield 18, 3) := by decide +kernel
theorem mD_Le_holds_19 : decode mB_Le_holds 19 = .ok (.ifCond .eq 7, 3) := by decide +kernel
theorem mD_Le_holds_22 : decode mB_Le_holds 22 = .ok (.iconst 1, 1) := by decide +kernel
theorem mD_Le_holds_23 : decode mB_Le_holds 23 = .ok (.goto 4, 3) := by decide +kernel
theorem mD_Le_holds_26 : decode mB_Le_holds 26 = .ok (.iconst 0, 1) := by decide +kernel
theorem mD_Le_holds_27 : decode mB_Le_holds 27 = .ok (.ireturn, 1) := by decide +kernel
theorem mD_Le_leastFree_0 : decode mB_Le_leastFree 0 = .ok (.iconst 0, 1) := by decide +kernel
theorem mD_Le_leastFree_1 : decode mB_Le_leastFree 1 = .ok (.istore_n 1, 1) := by decide +kernel
theorem mD_Le_leastFree_2 : decode mB_Le_leastFree 2 = .ok (.iload_n 1, 1) := by decide +kernel
theorem mD_Le_leastFree_3 : decode mB_Le_leastFree 3 = .ok (.bipush 120, 2) := by decide +kernel
theorem mD_Le_leastFree_5 : decode mB_Le_leastFree 5 = .ok (.if_icmp .ge 23, 3) := by decide +kernel
theorem mD_Le_leastFree_8 : decode mB_Le_leastFree 8 = .ok (.aload_n 0, 1) := by decide +kernel
theorem mD_Le_leastFree_9 : decode mB_Le_leastFree 9 = .ok (.getfield 11, 3) := by decide +kernel
theorem mD_Le_leastFree_12 : decode mB_Le_leastFree 12 = .ok (.iload_n 1, 1) := by decide +kernel
theorem mD_Le_leastFree_13 : decode mB_Le_leastFree 13 = .ok (.aaload, 1) := by decide +kernel
theorem mD_Le_leastFree_14 : decode mB_Le_leastFree 14 = .ok (.getfield 18, 3) := by decide +kernel
theorem mD_Le_leastFree_17 : decode mB_Le_leastFree 17 = .ok (.ifCond .ne 5, 3) := by decide +kernel
theorem mD_Le_leastFree_20 : decode mB_Le_leastFree 20 = .ok (.iload_n 1, 1) := by decide +kernel
theorem mD_Le_leastFree_21 : decode mB_Le_leastFree 21 = .ok (.ireturn, 1) := by decide +kernel
theorem mD_Le_leastFree_22 : decode mB_Le_leastFree 22 = .ok (.iinc 1 1, 3) := by decide +kernel
theorem mD_Le_leastFree_25 : decode mB_Le_leastFree 25 = .ok (.goto (-23), 3) := by decide +kernel
theorem mD_Le_leastFree_28 : decode mB_Le_leastFree 28 = .ok (.iconst (-1), 1) := by decide +kernel
theorem mD_Le_leastFree_29 : decode mB_Le_leastFree 29 = .ok (.ireturn, 1) := by decide +kernel
theorem mD_Le_take_0 : decode mB_Le_take 0 = .ok (.aload_n 0, 1) := by decide +kernel
theorem mD_Le_take_1 : decode mB_Le_take 1 = .ok (.getfield 11, 3) := by decide +kernel
theorem mD_Le_take_4 : decode mB_Le_take 4 = .ok (.iload_n 1, 1) := by decide +kernel
theorem mD_Le_take_5 : decode mB_Le_take 5 = .ok (.aaload, 1) := by decide +kernel
theorem mD_Le_take_6 : decode mB_Le_take 6 = .ok (.astore_n 2, 1) := by decide +kernel
theorem mD_Le_take_7 : decode mB_Le_take 7 = .ok (.aload_n 2, 1) := by decide +kernel
theorem mD_Le_take_8 : decode mB_Le_take 8 = .ok (.iconst 1, 1) := by decide +kernel
theorem mD_Le_take_9 : decode mB_Le_take 9 = .ok (.putfield 18, 3) := by decide +kernel
theorem mD_Le_take_12 : decode mB_Le_take 12 = .ok (.aload_n 0, 1) := by decide +kernel
theorem mD_Le_take_13 : decode mB_Le_take 13 = .ok (.dup, 1) := by decide +kernel
theorem mD_Le_take_14 : decode mB_Le_take 14 = .ok (.getfield 22, 3) := by decide +kernel
theorem mD_Le_take_17 : decode mB_Le_take 17 = .ok (.iconst 1, 1) := by decide +kernel
theorem mD_Le_take_18 : decode mB_Le_take 18 = .ok (.iadd, 1) := by decide +kernel
theorem mD_Le_take_19 : decode mB_Le_take 19 = .ok (.putfield 22, 3) := by decide +kernel
theorem mD_Le_take_22 : decode mB_Le_take 22 = .ok (.aload_n 2, 1) := by decide +kernel
theorem mD_Le_take_23 : decode mB_Le_take 23 = .ok (.areturn, 1) := by decide +kernel
theorem mD_Le_remove_0 : decode mB_Le_remove 0 = .ok (.aload_n 1, 1) := by decide +kernel
theorem mD_Le_remove_1 : decode mB_Le_remove 1 = .ok (.iconst 0, 1) := by decide +kernel
theorem mD_Le_remove_2 : decode mB_Le_remove 2 = .ok (.putfield 18, 3) := by decide +kernel
theorem mD_Le_remove_5 : decode mB_Le_remove 5 = .ok (.aload_n 0, 1) := by decide +kernel
theorem mD_Le_remove_6 : decode mB_Le_remove 6 = .ok (.dup, 1) := by decide +kernel
theorem mD_Le_remove_7 : decode mB_Le_remove 7 = .ok (.getfield 22, 3) := by decide +kernel
theorem mD_Le_remove_10 : decode mB_Le_remove 10 = .ok (.iconst 1, 1) := by decide +kernel
theorem mD_Le_remove_11 : decode mB_Le_remove 11 = .ok (.isub, 1) := by decide +kernel
theorem mD_Le_remove_12 : decode mB_Le_remove 12 = .ok (.putfield 22, 3) := by decide +kernel
theorem mD_Le_remove_15 : decode mB_Le_remove 15 = .ok (.return_, 1) := by decide +kernel
theorem mD_Le_removeAll_0 : decode mB_Le_removeAll 0 = .ok (.aload_n 0, 1) := by decide +kernel
theorem mD_Le_removeAll_1 : decode mB_Le_removeAll 1 = .ok (.getfield 22, 3) := by decide +kernel
theorem mD_Le_removeAll_4 : decode mB_Le_removeAll 4 = .ok (.istore_n 1, 1) := by decide +kernel
theorem mD_Le_removeAll_5 : decode mB_Le_removeAll 5 = .ok (.iconst 0, 1) := by decide +kernel
theorem mD_Le_removeAll_6 : decode mB_Le_removeAll 6 = .ok (.istore_n 2, 1) := by decide +kernel
theorem mD_Le_removeAll_7 : decode mB_Le_removeAll 7 = .ok (.iload_n 2, 1) := by decide +kernel
theorem mD_Le_removeAll_8 : decode mB_Le_removeAll 8 = .ok (.bipush 120, 2) := by decide +kernel
theorem mD_Le_removeAll_10 : decode mB_Le_removeAll 10 = .ok (.if_icmp .ge 19, 3) := by decide +kernel
theorem mD_Le_removeAll_13 : decode mB_Le_removeAll 13 = .ok (.aload_n 0, 1) := by decide +kernel
theorem mD_Le_removeAll_14 : decode mB_Le_removeAll 14 = .ok (.getfield 11, 3) := by decide +kernel
theorem mD_Le_removeAll_17 : decode mB_Le_removeAll 17 = .ok (.iload_n 2, 1) := by decide +kernel
theorem mD_Le_removeAll_18 : decode mB_Le_removeAll 18 = .ok (.aaload, 1) := by decide +kernel
theorem mD_Le_removeAll_19 : decode mB_Le_removeAll 19 = .ok (.iconst 0, 1) := by decide +kernel
theorem mD_Le_removeAll_20 : decode mB_Le_removeAll 20 = .ok (.putfield 18, 3) := by decide +kernel
theorem mD_Le_removeAll_23 : decode mB_Le_removeAll 23 = .ok (.iinc 2 1, 3) := by decide +kernel
theorem mD_Le_removeAll_26 : decode mB_Le_removeAll 26 = .ok (.goto (-19), 3) := by decide +kernel
theorem mD_Le_removeAll_29 : decode mB_Le_removeAll 29 = .ok (.aload_n 0, 1) := by decide +kernel
theorem mD_Le_removeAll_30 : decode mB_Le_removeAll 30 = .ok (.iconst 0, 1) := by decide +kernel
theorem mD_Le_removeAll_31 : decode mB_Le_removeAll 31 = .ok (.putfield 22, 3) := by decide +kernel
theorem mD_Le_removeAll_34 : decode mB_Le_removeAll 34 = .ok (.iload_n 1, 1) := by decide +kernel
theorem mD_Le_removeAll_35 : decode mB_Le_removeAll 35 = .ok (.ireturn, 1) := by decide +kernel
theorem mD_Le_greatestBound_0 : decode mB_Le_greatestBound 0 = .ok (.iconst 0, 1) := by decide +kernel
theorem mD_Le_greatestBound_1 : decode mB_Le_greatestBound 1 = .ok (.istore_n 1, 1) := by decide +kernel
theorem mD_Le_greatestBound_2 : decode mB_Le_greatestBound 2 = .ok (.iconst 0, 1) := by decide +kernel
theorem mD_Le_greatestBound_3 : decode mB_Le_greatestBound 3 = .ok (.istore_n 2, 1) := by decide +kernel
theorem mD_Le_greatestBound_4 : decode mB_Le_greatestBound 4 = .ok (.iload_n 2, 1) := by decide +kernel
theorem mD_Le_greatestBound_5 : decode mB_Le_greatestBound 5 = .ok (.bipush 120, 2) := by decide +kernel
theorem mD_Le_greatestBound_7 : decode mB_Le_greatestBound 7 = .ok (.if_icmp .ge 44, 3) := by decide +kernel
theorem mD_Le_greatestBound_10 : decode mB_Le_greatestBound 10 = .ok (.aload_n 0, 1) := by decide +kernel
theorem mD_Le_greatestBound_11 : decode mB_Le_greatestBound 11 = .ok (.getfield 11, 3) := by decide +kernel
theorem mD_Le_greatestBound_14 : decode mB_Le_greatestBound 14 = .ok (.iload_n 2, 1) := by decide +kernel
theorem mD_Le_greatestBound_15 : decode mB_Le_greatestBound 15 = .ok (.aaload, 1) := by decide +kernel
theorem mD_Le_greatestBound_16 : decode mB_Le_greatestBound 16 = .ok (.getfield 18, 3) := by decide +kernel
theorem mD_Le_greatestBound_19 : decode mB_Le_greatestBound 19 = .ok (.ifCond .eq 26, 3) := by decide +kernel
theorem mD_Le_greatestBound_22 : decode mB_Le_greatestBound 22 = .ok (.aload_n 0, 1) := by decide +kernel
theorem mD_Le_greatestBound_23 : decode mB_Le_greatestBound 23 = .ok (.getfield 11, 3) := by decide +kernel
theorem mD_Le_greatestBound_26 : decode mB_Le_greatestBound 26 = .ok (.iload_n 2, 1) := by decide +kernel
theorem mD_Le_greatestBound_27 : decode mB_Le_greatestBound 27 = .ok (.aaload, 1) := by decide +kernel
theorem mD_Le_greatestBound_28 : decode mB_Le_greatestBound 28 = .ok (.getfield 26, 3) := by decide +kernel
theorem mD_Le_greatestBound_31 : decode mB_Le_greatestBound 31 = .ok (.iload_n 1, 1) := by decide +kernel
theorem mD_Le_greatestBound_32 : decode mB_Le_greatestBound 32 = .ok (.if_icmp .le 13, 3) := by decide +kernel
theorem mD_Le_greatestBound_35 : decode mB_Le_greatestBound 35 = .ok (.aload_n 0, 1) := by decide +kernel
theorem mD_Le_greatestBound_36 : decode mB_Le_greatestBound 36 = .ok (.getfield 11, 3) := by decide +kernel
theorem mD_Le_greatestBound_39 : decode mB_Le_greatestBound 39 = .ok (.iload_n 2, 1) := by decide +kernel
theorem mD_Le_greatestBound_40 : decode mB_Le_greatestBound 40 = .ok (.aaload, 1) := by decide +kernel
theorem mD_Le_greatestBound_41 : decode mB_Le_greatestBound 41 = .ok (.getfield 26, 3) := by decide +kernel
theorem mD_Le_greatestBound_44 : decode mB_Le_greatestBound 44 = .ok (.istore_n 1, 1) := by decide +kernel
theorem mD_Le_greatestBound_45 : decode mB_Le_greatestBound 45 = .ok (.iinc 2 1, 3) := by decide +kernel
theorem mD_Le_greatestBound_48 : decode mB_Le_greatestBound 48 = .ok (.goto (-44), 3) := by decide +kernel
theorem mD_Le_greatestBound_51 : decode mB_Le_greatestBound 51 = .ok (.iload_n 1, 1) := by decide +kernel
theorem mD_Le_greatestBound_52 : decode mB_Le_greatestBound 52 = .ok (.ireturn, 1) := by decide +kernel
theorem mD_Re_init_0 : decode mB_Re_init 0 = .ok (.aload_n 0, 1) := by decide +kernel
theorem mD_Re_init_1 : decode mB_Re_init 1 = .ok (.invokespecial 3, 3) := by decide +kernel
theorem mD_Re_init_4 : decode mB_Re_init 4 = .ok (.aload_n 0, 1) := by decide +kernel
theorem mD_Re_init_5 : decode mB_Re_init 5 = .ok (.bipush 32, 2) := by decide +kernel
theorem mD_Re_init_7 : decode mB_Re_init 7 = .ok (.bipush 64, 2) := by decide +kernel
theorem mD_Re_init_9 : decode mB_Re_init 9 = .ok (.multianewarray 15 2, 4) := by decide +kernel
theorem mD_Re_init_13 : decode mB_Re_init 13 = .ok (.putfield 17, 3) := by decide +kernel
theorem mD_Re_init_16 : decode mB_Re_init 16 = .ok (.aload_n 0, 1) := by decide +kernel
theorem mD_Re_init_17 : decode mB_Re_init 17 = .ok (.bipush 64, 2) := by decide +kernel
theorem mD_Re_init_19 : decode mB_Re_init 19 = .ok (.bipush 9, 2) := by decide +kernel
theorem mD_Re_init_21 : decode mB_Re_init 21 = .ok (.multianewarray 15 2, 4) := by decide +kernel
theorem mD_Re_init_25 : decode mB_Re_init 25 = .ok (.putfield 22, 3) := by decide +kernel
theorem mD_Re_init_28 : decode mB_Re_init 28 = .ok (.aload_n 0, 1) := by decide +kernel
theorem mD_Re_init_29 : decode mB_Re_init 29 = .ok (.bipush 64, 2) := by decide +kernel
theorem mD_Re_init_31 : decode mB_Re_init 31 = .ok (.newarray .int, 2) := by decide +kernel
theorem mD_Re_init_33 : decode mB_Re_init 33 = .ok (.putfield 25, 3) := by decide +kernel
theorem mD_Re_init_36 : decode mB_Re_init 36 = .ok (.aload_n 0, 1) := by decide +kernel
theorem mD_Re_init_37 : decode mB_Re_init 37 = .ok (.bipush 64, 2) := by decide +kernel
theorem mD_Re_init_39 : decode mB_Re_init 39 = .ok (.newarray .int, 2) := by decide +kernel
theorem mD_Re_init_41 : decode mB_Re_init 41 = .ok (.putfield 29, 3) := by decide +kernel
theorem mD_Re_init_44 : decode mB_Re_init 44 = .ok (.return_, 1) := by decide +kernel
theorem mD_Re_renew_0 : decode mB_Re_renew 0 = .ok (.iconst 0, 1) := by decide +kernel
theorem mD_Re_renew_1 : decode mB_Re_renew 1 = .ok (.istore_n 3, 1) := by decide +kernel
theorem mD_Re_renew_2 : decode mB_Re_renew 2 = .ok (.iload_n 3, 1) := by decide +kernel
theorem mD_Re_renew_3 : decode mB_Re_renew 3 = .ok (.bipush 8, 2) := by decide +kernel
theorem mD_Re_renew_5 : decode mB_Re_renew 5 = .ok (.if_icmp .ge 16, 3) := by decide +kernel
theorem mD_Re_renew_8 : decode mB_Re_renew 8 = .ok (.aload_n 0, 1) := by decide +kernel
theorem mD_Re_renew_9 : decode mB_Re_renew 9 = .ok (.iload_n 3, 1) := by decide +kernel
theorem mD_Re_renew_10 : decode mB_Re_renew 10 = .ok (.aload_n 1, 1) := by decide +kernel
theorem mD_Re_renew_11 : decode mB_Re_renew 11 = .ok (.aload_n 2, 1) := by decide +kernel
theorem mD_Re_renew_12 : decode mB_Re_renew 12 = .ok (.invokevirtual 32, 3) := by decide +kernel
theorem mD_Re_renew_15 : decode mB_Re_renew 15 = .ok (.iinc 3 1, 3) := by decide +kernel
theorem mD_Re_renew_18 : decode mB_Re_renew 18 = .ok (.goto (-16), 3) := by decide +kernel
theorem mD_Re_renew_21 : decode mB_Re_renew 21 = .ok (.iconst 0, 1) := by decide +kernel
theorem mD_Re_renew_22 : decode mB_Re_renew 22 = .ok (.istore_n 3, 1) := by decide +kernel
theorem mD_Re_renew_23 : decode mB_Re_renew 23 = .ok (.iload_n 3, 1) := by decide +kernel
theorem mD_Re_renew_24 : decode mB_Re_renew 24 = .ok (.bipush 32, 2) := by decide +kernel
theorem mD_Re_renew_26 : decode mB_Re_renew 26 = .ok (.if_icmp .ge 57, 3) := by decide +kernel
theorem mD_Re_renew_29 : decode mB_Re_renew 29 = .ok (.iconst 0, 1) := by decide +kernel
theorem mD_Re_renew_30 : decode mB_Re_renew 30 = .ok (.istore 4, 2) := by decide +kernel
theorem mD_Re_renew_32 : decode mB_Re_renew 32 = .ok (.iload 4, 2) := by decide +kernel
theorem mD_Re_renew_34 : decode mB_Re_renew 34 = .ok (.iconst 2, 1) := by decide +kernel
theorem mD_Re_renew_35 : decode mB_Re_renew 35 = .ok (.if_icmp .ge 42, 3) := by decide +kernel
theorem mD_Re_renew_38 : decode mB_Re_renew 38 = .ok (.aload_n 1, 1) := by decide +kernel
theorem mD_Re_renew_39 : decode mB_Re_renew 39 = .ok (.getfield 36, 3) := by decide +kernel
theorem mD_Re_renew_42 : decode mB_Re_renew 42 = .ok (.iload_n 3, 1) := by decide +kernel
theorem mD_Re_renew_43 : decode mB_Re_renew 43 = .ok (.iaload, 1) := by decide +kernel
theorem mD_Re_renew_44 : decode mB_Re_renew 44 = .ok (.iload 4, 2) := by decide +kernel
theorem mD_Re_renew_46 : decode mB_Re_renew 46 = .ok (.invokestatic 39, 3) := by decide +kernel
theorem mD_Re_renew_49 : decode mB_Re_renew 49 = .ok (.imul, 1) := by decide +kernel
theorem mD_Re_renew_50 : decode mB_Re_renew 50 = .ok (.istore 5, 2) := by decide +kernel
theorem mD_Re_renew_52 : decode mB_Re_renew 52 = .ok (.aload_n 1, 1) := by decide +kernel
theorem mD_Re_renew_53 : decode mB_Re_renew 53 = .ok (.iload 5, 2) := by decide +kernel
theorem mD_Re_renew_55 : decode mB_Re_renew 55 = .ok (.aload_n 0, 1) := by decide +kernel
theorem mD_Re_renew_56 : decode mB_Re_renew 56 = .ok (.getfield 22, 3) := by decide +kernel
theorem mD_Re_renew_59 : decode mB_Re_renew 59 = .ok (.iload_n 3, 1) := by decide +kernel
theorem mD_Re_renew_60 : decode mB_Re_renew 60 = .ok (.iconst 2, 1) := by decide +kernel
theorem mD_Re_renew_61 : decode mB_Re_renew 61 = .ok (.imul, 1) := by decide +kernel
theorem mD_Re_renew_62 : decode mB_Re_renew 62 = .ok (.iload 4, 2) := by decide +kernel
theorem mD_Re_renew_64 : decode mB_Re_renew 64 = .ok (.iadd, 1) := by decide +kernel
theorem mD_Re_renew_65 : decode mB_Re_renew 65 = .ok (.aaload, 1) := by decide +kernel
theorem mD_Re_renew_66 : decode mB_Re_renew 66 = .ok (.iconst 3, 1) := by decide +kernel
theorem mD_Re_renew_67 : decode mB_Re_renew 67 = .ok (.aload_n 2, 1) := by decide +kernel
theorem mD_Re_renew_68 : decode mB_Re_renew 68 = .ok (.invokevirtual 45, 3) := by decide +kernel
theorem mD_Re_renew_71 : decode mB_Re_renew 71 = .ok (.iinc 4 1, 3) := by decide +kernel
theorem mD_Re_renew_74 : decode mB_Re_renew 74 = .ok (.goto (-42), 3) := by decide +kernel
theorem mD_Re_renew_77 : decode mB_Re_renew 77 = .ok (.iinc 3 1, 3) := by decide +kernel
theorem mD_Re_renew_80 : decode mB_Re_renew 80 = .ok (.goto (-57), 3) := by decide +kernel
theorem mD_Re_renew_83 : decode mB_Re_renew 83 = .ok (.return_, 1) := by decide +kernel
end
section
theorem mD_Re_renewStep_0 : decode mB_Re_renewStep 0 = .ok (.iconst 0, 1) := by decide +kernel
theorem mD_Re_renewStep_1 : decode mB_Re_renewStep 1 = .ok (.istore 4, 2) := by decide +kernel
theorem mD_Re_renewStep_3 : decode mB_Re_renewStep 3 = .ok (.iload 4, 2) := by decide +kernel
theorem mD_Re_renewStep_5 : decode mB_Re_renewStep 5 = .ok (.iconst 2, 1) := by decide +kernel
theorem mD_Re_renewStep_6 : decode mB_Re_renewStep 6 = .ok (.if_icmp .ge 72, 3) := by decide +kernel
theorem mD_Re_renewStep_9 : decode mB_Re_renewStep 9 = .ok (.iconst 0, 1) := by decide +kernel
theorem mD_Re_renewStep_10 : decode mB_Re_renewStep 10 = .ok (.istore 5, 2) := by decide +kernel
theorem mD_Re_renewStep_12 : decode mB_Re_renewStep 12 = .ok (.iload 5, 2) := by decide +kernel
theorem mD_Re_renewStep_14 : decode mB_Re_renewStep 14 = .ok (.iconst 2, 1) := by decide +kernel
theorem mD_Re_renewStep_15 : decode mB_Re_renewStep 15 = .ok (.if_icmp .ge 57, 3) := by decide +kernel
theorem mD_Re_renewStep_18 : decode mB_Re_renewStep 18 = .ok (.aload_n 0, 1) := by decide +kernel
theorem mD_Re_renewStep_19 : decode mB_Re_renewStep 19 = .ok (.getfield 17, 3) := by decide +kernel
theorem mD_Re_renewStep_22 : decode mB_Re_renewStep 22 = .ok (.iload_n 1, 1) := by decide +kernel
theorem mD_Re_renewStep_23 : decode mB_Re_renewStep 23 = .ok (.iconst 4, 1) := by decide +kernel
theorem mD_Re_renewStep_24 : decode mB_Re_renewStep 24 = .ok (.imul, 1) := by decide +kernel
theorem mD_Re_renewStep_25 : decode mB_Re_renewStep 25 = .ok (.iload 4, 2) := by decide +kernel
theorem mD_Re_renewStep_27 : decode mB_Re_renewStep 27 = .ok (.iconst 2, 1) := by decide +kernel
theorem mD_Re_renewStep_28 : decode mB_Re_renewStep 28 = .ok (.imul, 1) := by decide +kernel
theorem mD_Re_renewStep_29 : decode mB_Re_renewStep 29 = .ok (.iadd, 1) := by decide +kernel
theorem mD_Re_renewStep_30 : decode mB_Re_renewStep 30 = .ok (.iload 5, 2) := by decide +kernel
theorem mD_Re_renewStep_32 : decode mB_Re_renewStep 32 = .ok (.iadd, 1) := by decide +kernel
theorem mD_Re_renewStep_33 : decode mB_Re_renewStep 33 = .ok (.aaload, 1) := by decide +kernel
theorem mD_Re_renewStep_34 : decode mB_Re_renewStep 34 = .ok (.astore 6, 2) := by decide +kernel
theorem mD_Re_renewStep_36 : decode mB_Re_renewStep 36 = .ok (.aload_n 2, 1) := by decide +kernel
theorem mD_Re_renewStep_37 : decode mB_Re_renewStep 37 = .ok (.aload 6, 2) := by decide +kernel
theorem mD_Re_renewStep_39 : decode mB_Re_renewStep 39 = .ok (.aload_n 3, 1) := by decide +kernel
theorem mD_Re_renewStep_40 : decode mB_Re_renewStep 40 = .ok (.invokevirtual 49, 3) := by decide +kernel
theorem mD_Re_renewStep_43 : decode mB_Re_renewStep 43 = .ok (.aload 6, 2) := by decide +kernel
theorem mD_Re_renewStep_45 : decode mB_Re_renewStep 45 = .ok (.iload 4, 2) := by decide +kernel
theorem mD_Re_renewStep_47 : decode mB_Re_renewStep 47 = .ok (.bipush 32, 2) := by decide +kernel
theorem mD_Re_renewStep_49 : decode mB_Re_renewStep 49 = .ok (.imul, 1) := by decide +kernel
theorem mD_Re_renewStep_50 : decode mB_Re_renewStep 50 = .ok (.dup2, 1) := by decide +kernel
theorem mD_Re_renewStep_51 : decode mB_Re_renewStep 51 = .ok (.iaload, 1) := by decide +kernel
theorem mD_Re_renewStep_52 : decode mB_Re_renewStep 52 = .ok (.aload_n 2, 1) := by decide +kernel
theorem mD_Re_renewStep_53 : decode mB_Re_renewStep 53 = .ok (.getfield 53, 3) := by decide +kernel
theorem mD_Re_renewStep_56 : decode mB_Re_renewStep 56 = .ok (.iload_n 1, 1) := by decide +kernel
theorem mD_Re_renewStep_57 : decode mB_Re_renewStep 57 = .ok (.iaload, 1) := by decide +kernel
theorem mD_Re_renewStep_58 : decode mB_Re_renewStep 58 = .ok (.iload 5, 2) := by decide +kernel
theorem mD_Re_renewStep_60 : decode mB_Re_renewStep 60 = .ok (.invokestatic 39, 3) := by decide +kernel
theorem mD_Re_renewStep_63 : decode mB_Re_renewStep 63 = .ok (.imul, 1) := by decide +kernel
theorem mD_Re_renewStep_64 : decode mB_Re_renewStep 64 = .ok (.iadd, 1) := by decide +kernel
theorem mD_Re_renewStep_65 : decode mB_Re_renewStep 65 = .ok (.iastore, 1) := by decide +kernel
theorem mD_Re_renewStep_66 : decode mB_Re_renewStep 66 = .ok (.iinc 5 1, 3) := by decide +kernel
theorem mD_Re_renewStep_69 : decode mB_Re_renewStep 69 = .ok (.goto (-57), 3) := by decide +kernel
theorem mD_Re_renewStep_72 : decode mB_Re_renewStep 72 = .ok (.iinc 4 1, 3) := by decide +kernel
theorem mD_Re_renewStep_75 : decode mB_Re_renewStep 75 = .ok (.goto (-72), 3) := by decide +kernel
theorem mD_Re_renewStep_78 : decode mB_Re_renewStep 78 = .ok (.return_, 1) := by decide +kernel
theorem mD_Re_refresh_0 : decode mB_Re_refresh 0 = .ok (.aload_n 0, 1) := by decide +kernel
theorem mD_Re_refresh_1 : decode mB_Re_refresh 1 = .ok (.aload_n 1, 1) := by decide +kernel
theorem mD_Re_refresh_2 : decode mB_Re_refresh 2 = .ok (.bipush 8, 2) := by decide +kernel
theorem mD_Re_refresh_4 : decode mB_Re_refresh 4 = .ok (.iaload, 1) := by decide +kernel
theorem mD_Re_refresh_5 : decode mB_Re_refresh 5 = .ok (.invokestatic 56, 3) := by decide +kernel
theorem mD_Re_refresh_8 : decode mB_Re_refresh 8 = .ok (.invokevirtual 59, 3) := by decide +kernel
theorem mD_Re_refresh_11 : decode mB_Re_refresh 11 = .ok (.iconst 0, 1) := by decide +kernel
theorem mD_Re_refresh_12 : decode mB_Re_refresh 12 = .ok (.istore_n 3, 1) := by decide +kernel
theorem mD_Re_refresh_13 : decode mB_Re_refresh 13 = .ok (.iload_n 3, 1) := by decide +kernel
theorem mD_Re_refresh_14 : decode mB_Re_refresh 14 = .ok (.bipush 8, 2) := by decide +kernel
theorem mD_Re_refresh_16 : decode mB_Re_refresh 16 = .ok (.if_icmp .ge 20, 3) := by decide +kernel
theorem mD_Re_refresh_19 : decode mB_Re_refresh 19 = .ok (.aload_n 0, 1) := by decide +kernel
theorem mD_Re_refresh_20 : decode mB_Re_refresh 20 = .ok (.iload_n 3, 1) := by decide +kernel
theorem mD_Re_refresh_21 : decode mB_Re_refresh 21 = .ok (.aload_n 1, 1) := by decide +kernel
theorem mD_Re_refresh_22 : decode mB_Re_refresh 22 = .ok (.iload_n 3, 1) := by decide +kernel
theorem mD_Re_refresh_23 : decode mB_Re_refresh 23 = .ok (.iaload, 1) := by decide +kernel
theorem mD_Re_refresh_24 : decode mB_Re_refresh 24 = .ok (.invokestatic 56, 3) := by decide +kernel
theorem mD_Re_refresh_27 : decode mB_Re_refresh 27 = .ok (.invokevirtual 63, 3) := by decide +kernel
theorem mD_Re_refresh_30 : decode mB_Re_refresh 30 = .ok (.iinc 3 1, 3) := by decide +kernel
theorem mD_Re_refresh_33 : decode mB_Re_refresh 33 = .ok (.goto (-20), 3) := by decide +kernel
theorem mD_Re_refresh_36 : decode mB_Re_refresh 36 = .ok (.aload_n 0, 1) := by decide +kernel
theorem mD_Re_refresh_37 : decode mB_Re_refresh 37 = .ok (.aload_n 2, 1) := by decide +kernel
theorem mD_Re_refresh_38 : decode mB_Re_refresh 38 = .ok (.invokevirtual 67, 3) := by decide +kernel
theorem mD_Re_refresh_41 : decode mB_Re_refresh 41 = .ok (.return_, 1) := by decide +kernel
theorem mD_Re_roundToPlaces_0 : decode mB_Re_roundToPlaces 0 = .ok (.iload_n 0, 1) := by decide +kernel
theorem mD_Re_roundToPlaces_1 : decode mB_Re_roundToPlaces 1 = .ok (.ldc 71, 2) := by decide +kernel
theorem mD_Re_roundToPlaces_3 : decode mB_Re_roundToPlaces 3 = .ok (.iadd, 1) := by decide +kernel
theorem mD_Re_roundToPlaces_4 : decode mB_Re_roundToPlaces 4 = .ok (.bipush 26, 2) := by decide +kernel
theorem mD_Re_roundToPlaces_6 : decode mB_Re_roundToPlaces 6 = .ok (.iushr, 1) := by decide +kernel
theorem mD_Re_roundToPlaces_7 : decode mB_Re_roundToPlaces 7 = .ok (.ireturn, 1) := by decide +kernel
theorem mD_Re_startWheel_0 : decode mB_Re_startWheel 0 = .ok (.iconst 0, 1) := by decide +kernel
theorem mD_Re_startWheel_1 : decode mB_Re_startWheel 1 = .ok (.istore_n 2, 1) := by decide +kernel
theorem mD_Re_startWheel_2 : decode mB_Re_startWheel 2 = .ok (.iload_n 2, 1) := by decide +kernel
theorem mD_Re_startWheel_3 : decode mB_Re_startWheel 3 = .ok (.bipush 32, 2) := by decide +kernel
theorem mD_Re_startWheel_5 : decode mB_Re_startWheel 5 = .ok (.if_icmp .ge 43, 3) := by decide +kernel
theorem mD_Re_startWheel_8 : decode mB_Re_startWheel 8 = .ok (.aload_n 0, 1) := by decide +kernel
theorem mD_Re_startWheel_9 : decode mB_Re_startWheel 9 = .ok (.getfield 25, 3) := by decide +kernel
theorem mD_Re_startWheel_12 : decode mB_Re_startWheel 12 = .ok (.iload_n 2, 1) := by decide +kernel
theorem mD_Re_startWheel_13 : decode mB_Re_startWheel 13 = .ok (.iconst 0, 1) := by decide +kernel
theorem mD_Re_startWheel_14 : decode mB_Re_startWheel 14 = .ok (.iastore, 1) := by decide +kernel
theorem mD_Re_startWheel_15 : decode mB_Re_startWheel 15 = .ok (.aload_n 0, 1) := by decide +kernel
theorem mD_Re_startWheel_16 : decode mB_Re_startWheel 16 = .ok (.getfield 25, 3) := by decide +kernel
theorem mD_Re_startWheel_19 : decode mB_Re_startWheel 19 = .ok (.bipush 32, 2) := by decide +kernel
theorem mD_Re_startWheel_21 : decode mB_Re_startWheel 21 = .ok (.iload_n 2, 1) := by decide +kernel
theorem mD_Re_startWheel_22 : decode mB_Re_startWheel 22 = .ok (.iadd, 1) := by decide +kernel
theorem mD_Re_startWheel_23 : decode mB_Re_startWheel 23 = .ok (.iload_n 2, 1) := by decide +kernel
theorem mD_Re_startWheel_24 : decode mB_Re_startWheel 24 = .ok (.iload_n 1, 1) := by decide +kernel
theorem mD_Re_startWheel_25 : decode mB_Re_startWheel 25 = .ok (.iadd, 1) := by decide +kernel
theorem mD_Re_startWheel_26 : decode mB_Re_startWheel 26 = .ok (.bipush 63, 2) := by decide +kernel
theorem mD_Re_startWheel_28 : decode mB_Re_startWheel 28 = .ok (.iand, 1) := by decide +kernel
theorem mD_Re_startWheel_29 : decode mB_Re_startWheel 29 = .ok (.bipush 32, 2) := by decide +kernel
theorem mD_Re_startWheel_31 : decode mB_Re_startWheel 31 = .ok (.if_icmp .ge 8, 3) := by decide +kernel
theorem mD_Re_startWheel_34 : decode mB_Re_startWheel 34 = .ok (.ldc 72, 2) := by decide +kernel
theorem mD_Re_startWheel_36 : decode mB_Re_startWheel 36 = .ok (.goto 5, 3) := by decide +kernel
theorem mD_Re_startWheel_39 : decode mB_Re_startWheel 39 = .ok (.ldc 73, 2) := by decide +kernel
theorem mD_Re_startWheel_41 : decode mB_Re_startWheel 41 = .ok (.iastore, 1) := by decide +kernel
theorem mD_Re_startWheel_42 : decode mB_Re_startWheel 42 = .ok (.iinc 2 1, 3) := by decide +kernel
theorem mD_Re_startWheel_45 : decode mB_Re_startWheel 45 = .ok (.goto (-43), 3) := by decide +kernel
theorem mD_Re_startWheel_48 : decode mB_Re_startWheel 48 = .ok (.return_, 1) := by decide +kernel
theorem mD_Re_turnIfKeyBit_0 : decode mB_Re_turnIfKeyBit 0 = .ok (.iconst 0, 1) := by decide +kernel
theorem mD_Re_turnIfKeyBit_1 : decode mB_Re_turnIfKeyBit 1 = .ok (.istore_n 3, 1) := by decide +kernel
theorem mD_Re_turnIfKeyBit_2 : decode mB_Re_turnIfKeyBit 2 = .ok (.iload_n 3, 1) := by decide +kernel
theorem mD_Re_turnIfKeyBit_3 : decode mB_Re_turnIfKeyBit 3 = .ok (.bipush 32, 2) := by decide +kernel
theorem mD_Re_turnIfKeyBit_5 : decode mB_Re_turnIfKeyBit 5 = .ok (.if_icmp .ge 62, 3) := by decide +kernel
theorem mD_Re_turnIfKeyBit_8 : decode mB_Re_turnIfKeyBit 8 = .ok (.aload_n 0, 1) := by decide +kernel
theorem mD_Re_turnIfKeyBit_9 : decode mB_Re_turnIfKeyBit 9 = .ok (.getfield 29, 3) := by decide +kernel
theorem mD_Re_turnIfKeyBit_12 : decode mB_Re_turnIfKeyBit 12 = .ok (.iload_n 3, 1) := by decide +kernel
theorem mD_Re_turnIfKeyBit_13 : decode mB_Re_turnIfKeyBit 13 = .ok (.iload_n 2, 1) := by decide +kernel
theorem mD_Re_turnIfKeyBit_14 : decode mB_Re_turnIfKeyBit 14 = .ok (.iload_n 3, 1) := by decide +kernel
theorem mD_Re_turnIfKeyBit_15 : decode mB_Re_turnIfKeyBit 15 = .ok (.aload_n 0, 1) := by decide +kernel
theorem mD_Re_turnIfKeyBit_16 : decode mB_Re_turnIfKeyBit 16 = .ok (.getfield 25, 3) := by decide +kernel
theorem mD_Re_turnIfKeyBit_19 : decode mB_Re_turnIfKeyBit 19 = .ok (.iconst 0, 1) := by decide +kernel
theorem mD_Re_turnIfKeyBit_20 : decode mB_Re_turnIfKeyBit 20 = .ok (.invokestatic 74, 3) := by decide +kernel
theorem mD_Re_turnIfKeyBit_23 : decode mB_Re_turnIfKeyBit 23 = .ok (.aload_n 0, 1) := by decide +kernel
theorem mD_Re_turnIfKeyBit_24 : decode mB_Re_turnIfKeyBit 24 = .ok (.getfield 25, 3) := by decide +kernel
theorem mD_Re_turnIfKeyBit_27 : decode mB_Re_turnIfKeyBit 27 = .ok (.iload_n 3, 1) := by decide +kernel
theorem mD_Re_turnIfKeyBit_28 : decode mB_Re_turnIfKeyBit 28 = .ok (.iaload, 1) := by decide +kernel
theorem mD_Re_turnIfKeyBit_29 : decode mB_Re_turnIfKeyBit 29 = .ok (.isub, 1) := by decide +kernel
theorem mD_Re_turnIfKeyBit_30 : decode mB_Re_turnIfKeyBit 30 = .ok (.iastore, 1) := by decide +kernel
theorem mD_Re_turnIfKeyBit_31 : decode mB_Re_turnIfKeyBit 31 = .ok (.aload_n 0, 1) := by decide +kernel
theorem mD_Re_turnIfKeyBit_32 : decode mB_Re_turnIfKeyBit 32 = .ok (.getfield 29, 3) := by decide +kernel
theorem mD_Re_turnIfKeyBit_35 : decode mB_Re_turnIfKeyBit 35 = .ok (.bipush 32, 2) := by decide +kernel
theorem mD_Re_turnIfKeyBit_37 : decode mB_Re_turnIfKeyBit 37 = .ok (.iload_n 3, 1) := by decide +kernel
theorem mD_Re_turnIfKeyBit_38 : decode mB_Re_turnIfKeyBit 38 = .ok (.iadd, 1) := by decide +kernel
theorem mD_Re_turnIfKeyBit_39 : decode mB_Re_turnIfKeyBit 39 = .ok (.iload_n 2, 1) := by decide +kernel
theorem mD_Re_turnIfKeyBit_40 : decode mB_Re_turnIfKeyBit 40 = .ok (.iload_n 3, 1) := by decide +kernel
theorem mD_Re_turnIfKeyBit_41 : decode mB_Re_turnIfKeyBit 41 = .ok (.aload_n 0, 1) := by decide +kernel
theorem mD_Re_turnIfKeyBit_42 : decode mB_Re_turnIfKeyBit 42 = .ok (.getfield 25, 3) := by decide +kernel
theorem mD_Re_turnIfKeyBit_45 : decode mB_Re_turnIfKeyBit 45 = .ok (.bipush 32, 2) := by decide +kernel
theorem mD_Re_turnIfKeyBit_47 : decode mB_Re_turnIfKeyBit 47 = .ok (.invokestatic 74, 3) := by decide +kernel
theorem mD_Re_turnIfKeyBit_50 : decode mB_Re_turnIfKeyBit 50 = .ok (.aload_n 0, 1) := by decide +kernel
theorem mD_Re_turnIfKeyBit_51 : decode mB_Re_turnIfKeyBit 51 = .ok (.getfield 25, 3) := by decide +kernel
theorem mD_Re_turnIfKeyBit_54 : decode mB_Re_turnIfKeyBit 54 = .ok (.bipush 32, 2) := by decide +kernel
theorem mD_Re_turnIfKeyBit_56 : decode mB_Re_turnIfKeyBit 56 = .ok (.iload_n 3, 1) := by decide +kernel
theorem mD_Re_turnIfKeyBit_57 : decode mB_Re_turnIfKeyBit 57 = .ok (.iadd, 1) := by decide +kernel
theorem mD_Re_turnIfKeyBit_58 : decode mB_Re_turnIfKeyBit 58 = .ok (.iaload, 1) := by decide +kernel
theorem mD_Re_turnIfKeyBit_59 : decode mB_Re_turnIfKeyBit 59 = .ok (.isub, 1) := by decide +kernel
theorem mD_Re_turnIfKeyBit_60 : decode mB_Re_turnIfKeyBit 60 = .ok (.iastore, 1) := by decide +kernel
theorem mD_Re_turnIfKeyBit_61 : decode mB_Re_turnIfKeyBit 61 = .ok (.iinc 3 1, 3) := by decide +kernel
theorem mD_Re_turnIfKeyBit_64 : decode mB_Re_turnIfKeyBit 64 = .ok (.goto (-62), 3) := by decide +kernel
theorem mD_Re_turnIfKeyBit_67 : decode mB_Re_turnIfKeyBit 67 = .ok (.iconst 0, 1) := by decide +kernel
theorem mD_Re_turnIfKeyBit_68 : decode mB_Re_turnIfKeyBit 68 = .ok (.istore_n 3, 1) := by decide +kernel
theorem mD_Re_turnIfKeyBit_69 : decode mB_Re_turnIfKeyBit 69 = .ok (.iload_n 3, 1) := by decide +kernel
theorem mD_Re_turnIfKeyBit_70 : decode mB_Re_turnIfKeyBit 70 = .ok (.iconst 2, 1) := by decide +kernel
theorem mD_Re_turnIfKeyBit_71 : decode mB_Re_turnIfKeyBit 71 = .ok (.if_icmp .ge 49, 3) := by decide +kernel
theorem mD_Re_turnIfKeyBit_74 : decode mB_Re_turnIfKeyBit 74 = .ok (.iconst 0, 1) := by decide +kernel
theorem mD_Re_turnIfKeyBit_75 : decode mB_Re_turnIfKeyBit 75 = .ok (.istore 4, 2) := by decide +kernel
theorem mD_Re_turnIfKeyBit_77 : decode mB_Re_turnIfKeyBit 77 = .ok (.iload 4, 2) := by decide +kernel
theorem mD_Re_turnIfKeyBit_79 : decode mB_Re_turnIfKeyBit 79 = .ok (.iconst 2, 1) := by decide +kernel
theorem mD_Re_turnIfKeyBit_80 : decode mB_Re_turnIfKeyBit 80 = .ok (.if_icmp .ge 34, 3) := by decide +kernel
theorem mD_Re_turnIfKeyBit_83 : decode mB_Re_turnIfKeyBit 83 = .ok (.aload_n 0, 1) := by decide +kernel
theorem mD_Re_turnIfKeyBit_84 : decode mB_Re_turnIfKeyBit 84 = .ok (.iload_n 3, 1) := by decide +kernel
theorem mD_Re_turnIfKeyBit_85 : decode mB_Re_turnIfKeyBit 85 = .ok (.bipush 32, 2) := by decide +kernel
theorem mD_Re_turnIfKeyBit_87 : decode mB_Re_turnIfKeyBit 87 = .ok (.imul, 1) := by decide +kernel
theorem mD_Re_turnIfKeyBit_88 : decode mB_Re_turnIfKeyBit 88 = .ok (.iload 4, 2) := by decide +kernel
theorem mD_Re_turnIfKeyBit_90 : decode mB_Re_turnIfKeyBit 90 = .ok (.aload_n 0, 1) := by decide +kernel
theorem mD_Re_turnIfKeyBit_91 : decode mB_Re_turnIfKeyBit 91 = .ok (.getfield 17, 3) := by decide +kernel
theorem mD_Re_turnIfKeyBit_94 : decode mB_Re_turnIfKeyBit 94 = .ok (.iload_n 1, 1) := by decide +kernel
theorem mD_Re_turnIfKeyBit_95 : decode mB_Re_turnIfKeyBit 95 = .ok (.iconst 4, 1) := by decide +kernel
theorem mD_Re_turnIfKeyBit_96 : decode mB_Re_turnIfKeyBit 96 = .ok (.imul, 1) := by decide +kernel
theorem mD_Re_turnIfKeyBit_97 : decode mB_Re_turnIfKeyBit 97 = .ok (.iload_n 3, 1) := by decide +kernel
theorem mD_Re_turnIfKeyBit_98 : decode mB_Re_turnIfKeyBit 98 = .ok (.iconst 2, 1) := by decide +kernel
theorem mD_Re_turnIfKeyBit_99 : decode mB_Re_turnIfKeyBit 99 = .ok (.imul, 1) := by decide +kernel
theorem mD_Re_turnIfKeyBit_100 : decode mB_Re_turnIfKeyBit 100 = .ok (.iadd, 1) := by decide +kernel
theorem mD_Re_turnIfKeyBit_101 : decode mB_Re_turnIfKeyBit 101 = .ok (.iload 4, 2) := by decide +kernel
theorem mD_Re_turnIfKeyBit_103 : decode mB_Re_turnIfKeyBit 103 = .ok (.iadd, 1) := by decide +kernel
theorem mD_Re_turnIfKeyBit_104 : decode mB_Re_turnIfKeyBit 104 = .ok (.aaload, 1) := by decide +kernel
theorem mD_Re_turnIfKeyBit_105 : decode mB_Re_turnIfKeyBit 105 = .ok (.invokevirtual 78, 3) := by decide +kernel
theorem mD_Re_turnIfKeyBit_108 : decode mB_Re_turnIfKeyBit 108 = .ok (.iinc 4 1, 3) := by decide +kernel
theorem mD_Re_turnIfKeyBit_111 : decode mB_Re_turnIfKeyBit 111 = .ok (.goto (-34), 3) := by decide +kernel
theorem mD_Re_turnIfKeyBit_114 : decode mB_Re_turnIfKeyBit 114 = .ok (.iinc 3 1, 3) := by decide +kernel
theorem mD_Re_turnIfKeyBit_117 : decode mB_Re_turnIfKeyBit 117 = .ok (.goto (-48), 3) := by decide +kernel
theorem mD_Re_turnIfKeyBit_120 : decode mB_Re_turnIfKeyBit 120 = .ok (.return_, 1) := by decide +kernel
theorem mD_Re_addChange_0 : decode mB_Re_addChange 0 = .ok (.iconst 0, 1) := by decide +kernel
theorem mD_Re_addChange_1 : decode mB_Re_addChange 1 = .ok (.istore 4, 2) := by decide +kernel
theorem mD_Re_addChange_3 : decode mB_Re_addChange 3 = .ok (.iload 4, 2) := by decide +kernel
theorem mD_Re_addChange_5 : decode mB_Re_addChange 5 = .ok (.bipush 32, 2) := by decide +kernel
theorem mD_Re_addChange_7 : decode mB_Re_addChange 7 = .ok (.if_icmp .ge 59, 3) := by decide +kernel
theorem mD_Re_addChange_10 : decode mB_Re_addChange 10 = .ok (.aload_n 0, 1) := by decide +kernel
theorem mD_Re_addChange_11 : decode mB_Re_addChange 11 = .ok (.getfield 29, 3) := by decide +kernel
theorem mD_Re_addChange_14 : decode mB_Re_addChange 14 = .ok (.iload_n 1, 1) := by decide +kernel
theorem mD_Re_addChange_15 : decode mB_Re_addChange 15 = .ok (.iload 4, 2) := by decide +kernel
theorem mD_Re_addChange_17 : decode mB_Re_addChange 17 = .ok (.iadd, 1) := by decide +kernel
theorem mD_Re_addChange_18 : decode mB_Re_addChange 18 = .ok (.iaload, 1) := by decide +kernel
theorem mD_Re_addChange_19 : decode mB_Re_addChange 19 = .ok (.iload_n 2, 1) := by decide +kernel
theorem mD_Re_addChange_20 : decode mB_Re_addChange 20 = .ok (.invokestatic 82, 3) := by decide +kernel
theorem mD_Re_addChange_23 : decode mB_Re_addChange 23 = .ok (.istore 5, 2) := by decide +kernel
theorem mD_Re_addChange_25 : decode mB_Re_addChange 25 = .ok (.iload 5, 2) := by decide +kernel
theorem mD_Re_addChange_27 : decode mB_Re_addChange 27 = .ok (.ifCond .eq 33, 3) := by decide +kernel
theorem mD_Re_addChange_30 : decode mB_Re_addChange 30 = .ok (.iload 5, 2) := by decide +kernel
theorem mD_Re_addChange_32 : decode mB_Re_addChange 32 = .ok (.iload 4, 2) := by decide +kernel
theorem mD_Re_addChange_34 : decode mB_Re_addChange 34 = .ok (.aload_n 3, 1) := by decide +kernel
theorem mD_Re_addChange_35 : decode mB_Re_addChange 35 = .ok (.iconst 0, 1) := by decide +kernel
theorem mD_Re_addChange_36 : decode mB_Re_addChange 36 = .ok (.aload_n 0, 1) := by decide +kernel
theorem mD_Re_addChange_37 : decode mB_Re_addChange 37 = .ok (.getfield 25, 3) := by decide +kernel
theorem mD_Re_addChange_40 : decode mB_Re_addChange 40 = .ok (.iconst 0, 1) := by decide +kernel
theorem mD_Re_addChange_41 : decode mB_Re_addChange 41 = .ok (.invokestatic 86, 3) := by decide +kernel
theorem mD_Re_addChange_44 : decode mB_Re_addChange 44 = .ok (.iload 5, 2) := by decide +kernel
theorem mD_Re_addChange_46 : decode mB_Re_addChange 46 = .ok (.iload 4, 2) := by decide +kernel
theorem mD_Re_addChange_48 : decode mB_Re_addChange 48 = .ok (.aload_n 3, 1) := by decide +kernel
theorem mD_Re_addChange_49 : decode mB_Re_addChange 49 = .ok (.bipush 32, 2) := by decide +kernel
theorem mD_Re_addChange_51 : decode mB_Re_addChange 51 = .ok (.aload_n 0, 1) := by decide +kernel
theorem mD_Re_addChange_52 : decode mB_Re_addChange 52 = .ok (.getfield 25, 3) := by decide +kernel
theorem mD_Re_addChange_55 : decode mB_Re_addChange 55 = .ok (.bipush 32, 2) := by decide +kernel
theorem mD_Re_addChange_57 : decode mB_Re_addChange 57 = .ok (.invokestatic 86, 3) := by decide +kernel
theorem mD_Re_addChange_60 : decode mB_Re_addChange 60 = .ok (.iinc 4 1, 3) := by decide +kernel
theorem mD_Re_addChange_63 : decode mB_Re_addChange 63 = .ok (.goto (-60), 3) := by decide +kernel
theorem mD_Re_addChange_66 : decode mB_Re_addChange 66 = .ok (.return_, 1) := by decide +kernel
theorem mD_Re_comeBack_0 : decode mB_Re_comeBack 0 = .ok (.iconst 0, 1) := by decide +kernel
theorem mD_Re_comeBack_1 : decode mB_Re_comeBack 1 = .ok (.istore_n 2, 1) := by decide +kernel
theorem mD_Re_comeBack_2 : decode mB_Re_comeBack 2 = .ok (.iload_n 2, 1) := by decide +kernel
theorem mD_Re_comeBack_3 : decode mB_Re_comeBack 3 = .ok (.bipush 8, 2) := by decide +kernel
theorem mD_Re_comeBack_5 : decode mB_Re_comeBack 5 = .ok (.if_icmp .ge 13, 3) := by decide +kernel
theorem mD_Re_comeBack_8 : decode mB_Re_comeBack 8 = .ok (.aload_n 1, 1) := by decide +kernel
theorem mD_Re_comeBack_9 : decode mB_Re_comeBack 9 = .ok (.iload_n 2, 1) := by decide +kernel
theorem mD_Re_comeBack_10 : decode mB_Re_comeBack 10 = .ok (.iconst 0, 1) := by decide +kernel
theorem mD_Re_comeBack_11 : decode mB_Re_comeBack 11 = .ok (.iastore, 1) := by decide +kernel
theorem mD_Re_comeBack_12 : decode mB_Re_comeBack 12 = .ok (.iinc 2 1, 3) := by decide +kernel
theorem mD_Re_comeBack_15 : decode mB_Re_comeBack 15 = .ok (.goto (-13), 3) := by decide +kernel
theorem mD_Re_comeBack_18 : decode mB_Re_comeBack 18 = .ok (.aload_n 1, 1) := by decide +kernel
theorem mD_Re_comeBack_19 : decode mB_Re_comeBack 19 = .ok (.bipush 8, 2) := by decide +kernel
theorem mD_Re_comeBack_21 : decode mB_Re_comeBack 21 = .ok (.aload_n 0, 1) := by decide +kernel
theorem mD_Re_comeBack_22 : decode mB_Re_comeBack 22 = .ok (.getfield 25, 3) := by decide +kernel
theorem mD_Re_comeBack_25 : decode mB_Re_comeBack 25 = .ok (.bipush 32, 2) := by decide +kernel
theorem mD_Re_comeBack_27 : decode mB_Re_comeBack 27 = .ok (.iaload, 1) := by decide +kernel
theorem mD_Re_comeBack_28 : decode mB_Re_comeBack 28 = .ok (.iastore, 1) := by decide +kernel
theorem mD_Re_comeBack_29 : decode mB_Re_comeBack 29 = .ok (.iconst 0, 1) := by decide +kernel
theorem mD_Re_comeBack_30 : decode mB_Re_comeBack 30 = .ok (.istore_n 2, 1) := by decide +kernel
theorem mD_Re_comeBack_31 : decode mB_Re_comeBack 31 = .ok (.iload_n 2, 1) := by decide +kernel
theorem mD_Re_comeBack_32 : decode mB_Re_comeBack 32 = .ok (.bipush 32, 2) := by decide +kernel
theorem mD_Re_comeBack_34 : decode mB_Re_comeBack 34 = .ok (.if_icmp .ge 56, 3) := by decide +kernel
theorem mD_Re_comeBack_37 : decode mB_Re_comeBack 37 = .ok (.iload_n 2, 1) := by decide +kernel
theorem mD_Re_comeBack_38 : decode mB_Re_comeBack 38 = .ok (.iconst 0, 1) := by decide +kernel
theorem mD_Re_comeBack_39 : decode mB_Re_comeBack 39 = .ok (.aload_n 0, 1) := by decide +kernel
theorem mD_Re_comeBack_40 : decode mB_Re_comeBack 40 = .ok (.getfield 25, 3) := by decide +kernel
theorem mD_Re_comeBack_43 : decode mB_Re_comeBack 43 = .ok (.iconst 0, 1) := by decide +kernel
theorem mD_Re_comeBack_44 : decode mB_Re_comeBack 44 = .ok (.invokestatic 74, 3) := by decide +kernel
theorem mD_Re_comeBack_47 : decode mB_Re_comeBack 47 = .ok (.istore_n 3, 1) := by decide +kernel
theorem mD_Re_comeBack_48 : decode mB_Re_comeBack 48 = .ok (.iconst 0, 1) := by decide +kernel
theorem mD_Re_comeBack_49 : decode mB_Re_comeBack 49 = .ok (.istore 4, 2) := by decide +kernel
theorem mD_Re_comeBack_51 : decode mB_Re_comeBack 51 = .ok (.iload 4, 2) := by decide +kernel
theorem mD_Re_comeBack_53 : decode mB_Re_comeBack 53 = .ok (.iconst 2, 1) := by decide +kernel
theorem mD_Re_comeBack_54 : decode mB_Re_comeBack 54 = .ok (.if_icmp .ge 30, 3) := by decide +kernel
theorem mD_Re_comeBack_57 : decode mB_Re_comeBack 57 = .ok (.iload_n 3, 1) := by decide +kernel
theorem mD_Re_comeBack_58 : decode mB_Re_comeBack 58 = .ok (.iload 4, 2) := by decide +kernel
theorem mD_Re_comeBack_60 : decode mB_Re_comeBack 60 = .ok (.invokestatic 82, 3) := by decide +kernel
theorem mD_Re_comeBack_63 : decode mB_Re_comeBack 63 = .ok (.aload_n 0, 1) := by decide +kernel
theorem mD_Re_comeBack_64 : decode mB_Re_comeBack 64 = .ok (.getfield 22, 3) := by decide +kernel
theorem mD_Re_comeBack_67 : decode mB_Re_comeBack 67 = .ok (.iload_n 2, 1) := by decide +kernel
theorem mD_Re_comeBack_68 : decode mB_Re_comeBack 68 = .ok (.iconst 2, 1) := by decide +kernel
theorem mD_Re_comeBack_69 : decode mB_Re_comeBack 69 = .ok (.imul, 1) := by decide +kernel
theorem mD_Re_comeBack_70 : decode mB_Re_comeBack 70 = .ok (.iload 4, 2) := by decide +kernel
theorem mD_Re_comeBack_72 : decode mB_Re_comeBack 72 = .ok (.iadd, 1) := by decide +kernel
theorem mD_Re_comeBack_73 : decode mB_Re_comeBack 73 = .ok (.aaload, 1) := by decide +kernel
theorem mD_Re_comeBack_74 : decode mB_Re_comeBack 74 = .ok (.aload_n 1, 1) := by decide +kernel
theorem mD_Re_comeBack_75 : decode mB_Re_comeBack 75 = .ok (.invokestatic 90, 3) := by decide +kernel
theorem mD_Re_comeBack_78 : decode mB_Re_comeBack 78 = .ok (.iinc 4 1, 3) := by decide +kernel
theorem mD_Re_comeBack_81 : decode mB_Re_comeBack 81 = .ok (.goto (-30), 3) := by decide +kernel
theorem mD_Re_comeBack_84 : decode mB_Re_comeBack 84 = .ok (.iinc 2 1, 3) := by decide +kernel
theorem mD_Re_comeBack_87 : decode mB_Re_comeBack 87 = .ok (.goto (-56), 3) := by decide +kernel
theorem mD_Re_comeBack_90 : decode mB_Re_comeBack 90 = .ok (.return_, 1) := by decide +kernel
theorem mD_Re_subtract_0 : decode mB_Re_subtract 0 = .ok (.iconst 0, 1) := by decide +kernel
theorem mD_Re_subtract_1 : decode mB_Re_subtract 1 = .ok (.istore_n 3, 1) := by decide +kernel
theorem mD_Re_subtract_2 : decode mB_Re_subtract 2 = .ok (.iload_n 3, 1) := by decide +kernel
theorem mD_Re_subtract_3 : decode mB_Re_subtract 3 = .ok (.bipush 9, 2) := by decide +kernel
theorem mD_Re_subtract_5 : decode mB_Re_subtract 5 = .ok (.if_icmp .ge 20, 3) := by decide +kernel
theorem mD_Re_subtract_8 : decode mB_Re_subtract 8 = .ok (.aload_n 2, 1) := by decide +kernel
theorem mD_Re_subtract_9 : decode mB_Re_subtract 9 = .ok (.iload_n 3, 1) := by decide +kernel
theorem mD_Re_subtract_10 : decode mB_Re_subtract 10 = .ok (.dup2, 1) := by decide +kernel
theorem mD_Re_subtract_11 : decode mB_Re_subtract 11 = .ok (.iaload, 1) := by decide +kernel
theorem mD_Re_subtract_12 : decode mB_Re_subtract 12 = .ok (.iload_n 0, 1) := by decide +kernel
theorem mD_Re_subtract_13 : decode mB_Re_subtract 13 = .ok (.aload_n 1, 1) := by decide +kernel
theorem mD_Re_subtract_14 : decode mB_Re_subtract 14 = .ok (.iload_n 3, 1) := by decide +kernel
theorem mD_Re_subtract_15 : decode mB_Re_subtract 15 = .ok (.iaload, 1) := by decide +kernel
theorem mD_Re_subtract_16 : decode mB_Re_subtract 16 = .ok (.imul, 1) := by decide +kernel
theorem mD_Re_subtract_17 : decode mB_Re_subtract 17 = .ok (.isub, 1) := by decide +kernel
theorem mD_Re_subtract_18 : decode mB_Re_subtract 18 = .ok (.iastore, 1) := by decide +kernel
theorem mD_Re_subtract_19 : decode mB_Re_subtract 19 = .ok (.iinc 3 1, 3) := by decide +kernel
theorem mD_Re_subtract_22 : decode mB_Re_subtract 22 = .ok (.goto (-20), 3) := by decide +kernel
theorem mD_Re_subtract_25 : decode mB_Re_subtract 25 = .ok (.return_, 1) := by decide +kernel
theorem mD_Ri_addTurned_0 : decode mB_Ri_addTurned 0 = .ok (.iload_n 3, 1) := by decide +kernel
theorem mD_Ri_addTurned_1 : decode mB_Ri_addTurned 1 = .ok (.bipush 32, 2) := by decide +kernel
theorem mD_Ri_addTurned_3 : decode mB_Ri_addTurned 3 = .ok (.iadd, 1) := by decide +kernel
theorem mD_Ri_addTurned_4 : decode mB_Ri_addTurned 4 = .ok (.istore 6, 2) := by decide +kernel
theorem mD_Ri_addTurned_6 : decode mB_Ri_addTurned 6 = .ok (.iload 6, 2) := by decide +kernel
theorem mD_Ri_addTurned_8 : decode mB_Ri_addTurned 8 = .ok (.iload_n 1, 1) := by decide +kernel
theorem mD_Ri_addTurned_9 : decode mB_Ri_addTurned 9 = .ok (.isub, 1) := by decide +kernel
theorem mD_Ri_addTurned_10 : decode mB_Ri_addTurned 10 = .ok (.istore 7, 2) := by decide +kernel
theorem mD_Ri_addTurned_12 : decode mB_Ri_addTurned 12 = .ok (.iload 5, 2) := by decide +kernel
theorem mD_Ri_addTurned_14 : decode mB_Ri_addTurned 14 = .ok (.iload_n 3, 1) := by decide +kernel
theorem mD_Ri_addTurned_15 : decode mB_Ri_addTurned 15 = .ok (.isub, 1) := by decide +kernel
theorem mD_Ri_addTurned_16 : decode mB_Ri_addTurned 16 = .ok (.iload_n 1, 1) := by decide +kernel
theorem mD_Ri_addTurned_17 : decode mB_Ri_addTurned 17 = .ok (.iadd, 1) := by decide +kernel
theorem mD_Ri_addTurned_18 : decode mB_Ri_addTurned 18 = .ok (.istore 8, 2) := by decide +kernel
theorem mD_Ri_addTurned_20 : decode mB_Ri_addTurned 20 = .ok (.iload 8, 2) := by decide +kernel
theorem mD_Ri_addTurned_22 : decode mB_Ri_addTurned 22 = .ok (.bipush 32, 2) := by decide +kernel
theorem mD_Ri_addTurned_24 : decode mB_Ri_addTurned 24 = .ok (.isub, 1) := by decide +kernel
theorem mD_Ri_addTurned_25 : decode mB_Ri_addTurned 25 = .ok (.istore 9, 2) := by decide +kernel
theorem mD_Ri_addTurned_27 : decode mB_Ri_addTurned 27 = .ok (.iload_n 3, 1) := by decide +kernel
theorem mD_Ri_addTurned_28 : decode mB_Ri_addTurned 28 = .ok (.istore 10, 2) := by decide +kernel
theorem mD_Ri_addTurned_30 : decode mB_Ri_addTurned 30 = .ok (.iload 10, 2) := by decide +kernel
theorem mD_Ri_addTurned_32 : decode mB_Ri_addTurned 32 = .ok (.iload 7, 2) := by decide +kernel
theorem mD_Ri_addTurned_34 : decode mB_Ri_addTurned 34 = .ok (.if_icmp .ge 26, 3) := by decide +kernel
theorem mD_Ri_addTurned_37 : decode mB_Ri_addTurned 37 = .ok (.aload 4, 2) := by decide +kernel
theorem mD_Ri_addTurned_39 : decode mB_Ri_addTurned 39 = .ok (.iload 10, 2) := by decide +kernel
theorem mD_Ri_addTurned_41 : decode mB_Ri_addTurned 41 = .ok (.iload 8, 2) := by decide +kernel
theorem mD_Ri_addTurned_43 : decode mB_Ri_addTurned 43 = .ok (.iadd, 1) := by decide +kernel
theorem mD_Ri_addTurned_44 : decode mB_Ri_addTurned 44 = .ok (.dup2, 1) := by decide +kernel
theorem mD_Ri_addTurned_45 : decode mB_Ri_addTurned 45 = .ok (.iaload, 1) := by decide +kernel
theorem mD_Ri_addTurned_46 : decode mB_Ri_addTurned 46 = .ok (.iload_n 0, 1) := by decide +kernel
theorem mD_Ri_addTurned_47 : decode mB_Ri_addTurned 47 = .ok (.aload_n 2, 1) := by decide +kernel
theorem mD_Ri_addTurned_48 : decode mB_Ri_addTurned 48 = .ok (.iload 10, 2) := by decide +kernel
theorem mD_Ri_addTurned_50 : decode mB_Ri_addTurned 50 = .ok (.iaload, 1) := by decide +kernel
theorem mD_Ri_addTurned_51 : decode mB_Ri_addTurned 51 = .ok (.imul, 1) := by decide +kernel
theorem mD_Ri_addTurned_52 : decode mB_Ri_addTurned 52 = .ok (.iadd, 1) := by decide +kernel
theorem mD_Ri_addTurned_53 : decode mB_Ri_addTurned 53 = .ok (.iastore, 1) := by decide +kernel
theorem mD_Ri_addTurned_54 : decode mB_Ri_addTurned 54 = .ok (.iinc 10 1, 3) := by decide +kernel
theorem mD_Ri_addTurned_57 : decode mB_Ri_addTurned 57 = .ok (.goto (-27), 3) := by decide +kernel
theorem mD_Ri_addTurned_60 : decode mB_Ri_addTurned 60 = .ok (.iload 7, 2) := by decide +kernel
theorem mD_Ri_addTurned_62 : decode mB_Ri_addTurned 62 = .ok (.istore 10, 2) := by decide +kernel
theorem mD_Ri_addTurned_64 : decode mB_Ri_addTurned 64 = .ok (.iload 10, 2) := by decide +kernel
theorem mD_Ri_addTurned_66 : decode mB_Ri_addTurned 66 = .ok (.iload 6, 2) := by decide +kernel
theorem mD_Ri_addTurned_68 : decode mB_Ri_addTurned 68 = .ok (.if_icmp .ge 26, 3) := by decide +kernel
theorem mD_Ri_addTurned_71 : decode mB_Ri_addTurned 71 = .ok (.aload 4, 2) := by decide +kernel
theorem mD_Ri_addTurned_73 : decode mB_Ri_addTurned 73 = .ok (.iload 10, 2) := by decide +kernel
theorem mD_Ri_addTurned_75 : decode mB_Ri_addTurned 75 = .ok (.iload 9, 2) := by decide +kernel
theorem mD_Ri_addTurned_77 : decode mB_Ri_addTurned 77 = .ok (.iadd, 1) := by decide +kernel
theorem mD_Ri_addTurned_78 : decode mB_Ri_addTurned 78 = .ok (.dup2, 1) := by decide +kernel
theorem mD_Ri_addTurned_79 : decode mB_Ri_addTurned 79 = .ok (.iaload, 1) := by decide +kernel
theorem mD_Ri_addTurned_80 : decode mB_Ri_addTurned 80 = .ok (.iload_n 0, 1) := by decide +kernel
theorem mD_Ri_addTurned_81 : decode mB_Ri_addTurned 81 = .ok (.aload_n 2, 1) := by decide +kernel
theorem mD_Ri_addTurned_82 : decode mB_Ri_addTurned 82 = .ok (.iload 10, 2) := by decide +kernel
theorem mD_Ri_addTurned_84 : decode mB_Ri_addTurned 84 = .ok (.iaload, 1) := by decide +kernel
theorem mD_Ri_addTurned_85 : decode mB_Ri_addTurned 85 = .ok (.imul, 1) := by decide +kernel
theorem mD_Ri_addTurned_86 : decode mB_Ri_addTurned 86 = .ok (.isub, 1) := by decide +kernel
theorem mD_Ri_addTurned_87 : decode mB_Ri_addTurned 87 = .ok (.iastore, 1) := by decide +kernel
theorem mD_Ri_addTurned_88 : decode mB_Ri_addTurned 88 = .ok (.iinc 10 1, 3) := by decide +kernel
theorem mD_Ri_addTurned_91 : decode mB_Ri_addTurned 91 = .ok (.goto (-27), 3) := by decide +kernel
theorem mD_Ri_addTurned_94 : decode mB_Ri_addTurned 94 = .ok (.return_, 1) := by decide +kernel
theorem mD_Ri_turned_0 : decode mB_Ri_turned 0 = .ok (.iload_n 1, 1) := by decide +kernel
theorem mD_Ri_turned_1 : decode mB_Ri_turned 1 = .ok (.iload_n 0, 1) := by decide +kernel
theorem mD_Ri_turned_2 : decode mB_Ri_turned 2 = .ok (.isub, 1) := by decide +kernel
theorem mD_Ri_turned_3 : decode mB_Ri_turned 3 = .ok (.bipush 63, 2) := by decide +kernel
theorem mD_Ri_turned_5 : decode mB_Ri_turned 5 = .ok (.iand, 1) := by decide +kernel
theorem mD_Ri_turned_6 : decode mB_Ri_turned 6 = .ok (.istore 4, 2) := by decide +kernel
theorem mD_Ri_turned_8 : decode mB_Ri_turned 8 = .ok (.iload 4, 2) := by decide +kernel
theorem mD_Ri_turned_10 : decode mB_Ri_turned 10 = .ok (.bipush 32, 2) := by decide +kernel
theorem mD_Ri_turned_12 : decode mB_Ri_turned 12 = .ok (.if_icmp .ge 12, 3) := by decide +kernel
theorem mD_Ri_turned_15 : decode mB_Ri_turned 15 = .ok (.aload_n 2, 1) := by decide +kernel
theorem mD_Ri_turned_16 : decode mB_Ri_turned 16 = .ok (.iload_n 3, 1) := by decide +kernel
theorem mD_Ri_turned_17 : decode mB_Ri_turned 17 = .ok (.iload 4, 2) := by decide +kernel
theorem mD_Ri_turned_19 : decode mB_Ri_turned 19 = .ok (.iadd, 1) := by decide +kernel
theorem mD_Ri_turned_20 : decode mB_Ri_turned 20 = .ok (.iaload, 1) := by decide +kernel
theorem mD_Ri_turned_21 : decode mB_Ri_turned 21 = .ok (.goto 13, 3) := by decide +kernel
theorem mD_Ri_turned_24 : decode mB_Ri_turned 24 = .ok (.aload_n 2, 1) := by decide +kernel
theorem mD_Ri_turned_25 : decode mB_Ri_turned 25 = .ok (.iload_n 3, 1) := by decide +kernel
theorem mD_Ri_turned_26 : decode mB_Ri_turned 26 = .ok (.iload 4, 2) := by decide +kernel
theorem mD_Ri_turned_28 : decode mB_Ri_turned 28 = .ok (.iadd, 1) := by decide +kernel
theorem mD_Ri_turned_29 : decode mB_Ri_turned 29 = .ok (.bipush 32, 2) := by decide +kernel
theorem mD_Ri_turned_31 : decode mB_Ri_turned 31 = .ok (.isub, 1) := by decide +kernel
theorem mD_Ri_turned_32 : decode mB_Ri_turned 32 = .ok (.iaload, 1) := by decide +kernel
theorem mD_Ri_turned_33 : decode mB_Ri_turned 33 = .ok (.ineg, 1) := by decide +kernel
theorem mD_Ri_turned_34 : decode mB_Ri_turned 34 = .ok (.ireturn, 1) := by decide +kernel
theorem mD_Se_init_0 : decode mB_Se_init 0 = .ok (.aload_n 0, 1) := by decide +kernel
theorem mD_Se_init_1 : decode mB_Se_init 1 = .ok (.invokespecial 1, 3) := by decide +kernel
theorem mD_Se_init_4 : decode mB_Se_init 4 = .ok (.aload_n 0, 1) := by decide +kernel
theorem mD_Se_init_5 : decode mB_Se_init 5 = .ok (.bipush 8, 2) := by decide +kernel
theorem mD_Se_init_7 : decode mB_Se_init 7 = .ok (.newarray .int, 2) := by decide +kernel
theorem mD_Se_init_9 : decode mB_Se_init 9 = .ok (.putfield 9, 3) := by decide +kernel
theorem mD_Se_init_12 : decode mB_Se_init 12 = .ok (.aload_n 0, 1) := by decide +kernel
theorem mD_Se_init_13 : decode mB_Se_init 13 = .ok (.bipush 32, 2) := by decide +kernel
theorem mD_Se_init_15 : decode mB_Se_init 15 = .ok (.newarray .int, 2) := by decide +kernel
theorem mD_Se_init_17 : decode mB_Se_init 17 = .ok (.putfield 15, 3) := by decide +kernel
theorem mD_Se_init_20 : decode mB_Se_init 20 = .ok (.return_, 1) := by decide +kernel
theorem mD_Se_renew_0 : decode mB_Se_renew 0 = .ok (.aload_n 0, 1) := by decide +kernel
theorem mD_Se_renew_1 : decode mB_Se_renew 1 = .ok (.getfield 9, 3) := by decide +kernel
theorem mD_Se_renew_4 : decode mB_Se_renew 4 = .ok (.bipush 8, 2) := by decide +kernel
theorem mD_Se_renew_6 : decode mB_Se_renew 6 = .ok (.aload_n 1, 1) := by decide +kernel
theorem mD_Se_renew_7 : decode mB_Se_renew 7 = .ok (.invokestatic 18, 3) := by decide +kernel
theorem mD_Se_renew_10 : decode mB_Se_renew 10 = .ok (.aload_n 0, 1) := by decide +kernel
theorem mD_Se_renew_11 : decode mB_Se_renew 11 = .ok (.getfield 15, 3) := by decide +kernel
theorem mD_Se_renew_14 : decode mB_Se_renew 14 = .ok (.bipush 32, 2) := by decide +kernel
theorem mD_Se_renew_16 : decode mB_Se_renew 16 = .ok (.aload_n 1, 1) := by decide +kernel
theorem mD_Se_renew_17 : decode mB_Se_renew 17 = .ok (.invokestatic 18, 3) := by decide +kernel
theorem mD_Se_renew_20 : decode mB_Se_renew 20 = .ok (.return_, 1) := by decide +kernel
theorem mD_Se_drawBits_0 : decode mB_Se_drawBits 0 = .ok (.iconst 0, 1) := by decide +kernel
theorem mD_Se_drawBits_1 : decode mB_Se_drawBits 1 = .ok (.istore_n 3, 1) := by decide +kernel
theorem mD_Se_drawBits_2 : decode mB_Se_drawBits 2 = .ok (.iload_n 3, 1) := by decide +kernel
theorem mD_Se_drawBits_3 : decode mB_Se_drawBits 3 = .ok (.iload_n 1, 1) := by decide +kernel
theorem mD_Se_drawBits_4 : decode mB_Se_drawBits 4 = .ok (.if_icmp .ge 19, 3) := by decide +kernel
theorem mD_Se_drawBits_7 : decode mB_Se_drawBits 7 = .ok (.aload_n 0, 1) := by decide +kernel
theorem mD_Se_drawBits_8 : decode mB_Se_drawBits 8 = .ok (.iload_n 3, 1) := by decide +kernel
theorem mD_Se_drawBits_9 : decode mB_Se_drawBits 9 = .ok (.aload_n 2, 1) := by decide +kernel
theorem mD_Se_drawBits_10 : decode mB_Se_drawBits 10 = .ok (.invokevirtual 22, 3) := by decide +kernel
theorem mD_Se_drawBits_13 : decode mB_Se_drawBits 13 = .ok (.bipush 31, 2) := by decide +kernel
theorem mD_Se_drawBits_15 : decode mB_Se_drawBits 15 = .ok (.iushr, 1) := by decide +kernel
theorem mD_Se_drawBits_16 : decode mB_Se_drawBits 16 = .ok (.iastore, 1) := by decide +kernel
theorem mD_Se_drawBits_17 : decode mB_Se_drawBits 17 = .ok (.iinc 3 1, 3) := by decide +kernel
theorem mD_Se_drawBits_20 : decode mB_Se_drawBits 20 = .ok (.goto (-18), 3) := by decide +kernel
theorem mD_Se_drawBits_23 : decode mB_Se_drawBits 23 = .ok (.return_, 1) := by decide +kernel
theorem mD_Se_hide_0 : decode mB_Se_hide 0 = .ok (.iload_n 1, 1) := by decide +kernel
theorem mD_Se_hide_1 : decode mB_Se_hide 1 = .ok (.aload 4, 2) := by decide +kernel
theorem mD_Se_hide_3 : decode mB_Se_hide 3 = .ok (.iload_n 3, 1) := by decide +kernel
theorem mD_Se_hide_4 : decode mB_Se_hide 4 = .ok (.invokevirtual 28, 3) := by decide +kernel
theorem mD_Se_hide_7 : decode mB_Se_hide 7 = .ok (.iadd, 1) := by decide +kernel
theorem mD_Se_hide_8 : decode mB_Se_hide 8 = .ok (.istore 5, 2) := by decide +kernel
theorem mD_Se_hide_10 : decode mB_Se_hide 10 = .ok (.iconst 0, 1) := by decide +kernel
theorem mD_Se_hide_11 : decode mB_Se_hide 11 = .ok (.istore 6, 2) := by decide +kernel
theorem mD_Se_hide_13 : decode mB_Se_hide 13 = .ok (.iload 6, 2) := by decide +kernel
theorem mD_Se_hide_15 : decode mB_Se_hide 15 = .ok (.bipush 8, 2) := by decide +kernel
theorem mD_Se_hide_17 : decode mB_Se_hide 17 = .ok (.if_icmp .ge 35, 3) := by decide +kernel
theorem mD_Se_hide_20 : decode mB_Se_hide 20 = .ok (.aload_n 2, 1) := by decide +kernel
theorem mD_Se_hide_21 : decode mB_Se_hide 21 = .ok (.iload 6, 2) := by decide +kernel
theorem mD_Se_hide_23 : decode mB_Se_hide 23 = .ok (.aload 4, 2) := by decide +kernel
theorem mD_Se_hide_25 : decode mB_Se_hide 25 = .ok (.invokevirtual 22, 3) := by decide +kernel
theorem mD_Se_hide_28 : decode mB_Se_hide 28 = .ok (.iastore, 1) := by decide +kernel
theorem mD_Se_hide_29 : decode mB_Se_hide 29 = .ok (.iload 5, 2) := by decide +kernel
theorem mD_Se_hide_31 : decode mB_Se_hide 31 = .ok (.aload_n 2, 1) := by decide +kernel
theorem mD_Se_hide_32 : decode mB_Se_hide 32 = .ok (.iload 6, 2) := by decide +kernel
theorem mD_Se_hide_34 : decode mB_Se_hide 34 = .ok (.iaload, 1) := by decide +kernel
theorem mD_Se_hide_35 : decode mB_Se_hide 35 = .ok (.aload_n 0, 1) := by decide +kernel
theorem mD_Se_hide_36 : decode mB_Se_hide 36 = .ok (.getfield 9, 3) := by decide +kernel
theorem mD_Se_hide_39 : decode mB_Se_hide 39 = .ok (.iload 6, 2) := by decide +kernel
theorem mD_Se_hide_41 : decode mB_Se_hide 41 = .ok (.iaload, 1) := by decide +kernel
theorem mD_Se_hide_42 : decode mB_Se_hide 42 = .ok (.imul, 1) := by decide +kernel
theorem mD_Se_hide_43 : decode mB_Se_hide 43 = .ok (.iadd, 1) := by decide +kernel
theorem mD_Se_hide_44 : decode mB_Se_hide 44 = .ok (.istore 5, 2) := by decide +kernel
theorem mD_Se_hide_46 : decode mB_Se_hide 46 = .ok (.iinc 6 1, 3) := by decide +kernel
theorem mD_Se_hide_49 : decode mB_Se_hide 49 = .ok (.goto (-36), 3) := by decide +kernel
theorem mD_Se_hide_52 : decode mB_Se_hide 52 = .ok (.aload_n 2, 1) := by decide +kernel
theorem mD_Se_hide_53 : decode mB_Se_hide 53 = .ok (.bipush 8, 2) := by decide +kernel
theorem mD_Se_hide_55 : decode mB_Se_hide 55 = .ok (.iload 5, 2) := by decide +kernel
theorem mD_Se_hide_57 : decode mB_Se_hide 57 = .ok (.iastore, 1) := by decide +kernel
theorem mD_Se_hide_58 : decode mB_Se_hide 58 = .ok (.return_, 1) := by decide +kernel
theorem mD_Se_placeOf_0 : decode mB_Se_placeOf 0 = .ok (.aload_n 1, 1) := by decide +kernel
theorem mD_Se_placeOf_1 : decode mB_Se_placeOf 1 = .ok (.bipush 8, 2) := by decide +kernel
theorem mD_Se_placeOf_3 : decode mB_Se_placeOf 3 = .ok (.iaload, 1) := by decide +kernel
theorem mD_Se_placeOf_4 : decode mB_Se_placeOf 4 = .ok (.istore_n 2, 1) := by decide +kernel
theorem mD_Se_placeOf_5 : decode mB_Se_placeOf 5 = .ok (.iconst 0, 1) := by decide +kernel
theorem mD_Se_placeOf_6 : decode mB_Se_placeOf 6 = .ok (.istore_n 3, 1) := by decide +kernel
theorem mD_Se_placeOf_7 : decode mB_Se_placeOf 7 = .ok (.iload_n 3, 1) := by decide +kernel
theorem mD_Se_placeOf_8 : decode mB_Se_placeOf 8 = .ok (.bipush 8, 2) := by decide +kernel
theorem mD_Se_placeOf_10 : decode mB_Se_placeOf 10 = .ok (.if_icmp .ge 22, 3) := by decide +kernel
theorem mD_Se_placeOf_13 : decode mB_Se_placeOf 13 = .ok (.iload_n 2, 1) := by decide +kernel
theorem mD_Se_placeOf_14 : decode mB_Se_placeOf 14 = .ok (.aload_n 1, 1) := by decide +kernel
theorem mD_Se_placeOf_15 : decode mB_Se_placeOf 15 = .ok (.iload_n 3, 1) := by decide +kernel
theorem mD_Se_placeOf_16 : decode mB_Se_placeOf 16 = .ok (.iaload, 1) := by decide +kernel
theorem mD_Se_placeOf_17 : decode mB_Se_placeOf 17 = .ok (.aload_n 0, 1) := by decide +kernel
theorem mD_Se_placeOf_18 : decode mB_Se_placeOf 18 = .ok (.getfield 9, 3) := by decide +kernel
theorem mD_Se_placeOf_21 : decode mB_Se_placeOf 21 = .ok (.iload_n 3, 1) := by decide +kernel
theorem mD_Se_placeOf_22 : decode mB_Se_placeOf 22 = .ok (.iaload, 1) := by decide +kernel
theorem mD_Se_placeOf_23 : decode mB_Se_placeOf 23 = .ok (.imul, 1) := by decide +kernel
theorem mD_Se_placeOf_24 : decode mB_Se_placeOf 24 = .ok (.isub, 1) := by decide +kernel
theorem mD_Se_placeOf_25 : decode mB_Se_placeOf 25 = .ok (.istore_n 2, 1) := by decide +kernel
theorem mD_Se_placeOf_26 : decode mB_Se_placeOf 26 = .ok (.iinc 3 1, 3) := by decide +kernel
theorem mD_Se_placeOf_29 : decode mB_Se_placeOf 29 = .ok (.goto (-22), 3) := by decide +kernel
theorem mD_Se_placeOf_32 : decode mB_Se_placeOf 32 = .ok (.iload_n 2, 1) := by decide +kernel
theorem mD_Se_placeOf_33 : decode mB_Se_placeOf 33 = .ok (.ireturn, 1) := by decide +kernel
theorem mD_Se_hideNothing_0 : decode mB_Se_hideNothing 0 = .ok (.iconst 0, 1) := by decide +kernel
theorem mD_Se_hideNothing_1 : decode mB_Se_hideNothing 1 = .ok (.istore_n 3, 1) := by decide +kernel
theorem mD_Se_hideNothing_2 : decode mB_Se_hideNothing 2 = .ok (.iload_n 3, 1) := by decide +kernel
theorem mD_Se_hideNothing_3 : decode mB_Se_hideNothing 3 = .ok (.bipush 32, 2) := by decide +kernel
theorem mD_Se_hideNothing_5 : decode mB_Se_hideNothing 5 = .ok (.if_icmp .ge 27, 3) := by decide +kernel
theorem mD_Se_hideNothing_8 : decode mB_Se_hideNothing 8 = .ok (.aload_n 1, 1) := by decide +kernel
theorem mD_Se_hideNothing_9 : decode mB_Se_hideNothing 9 = .ok (.iload_n 3, 1) := by decide +kernel
theorem mD_Se_hideNothing_10 : decode mB_Se_hideNothing 10 = .ok (.aload_n 2, 1) := by decide +kernel
theorem mD_Se_hideNothing_11 : decode mB_Se_hideNothing 11 = .ok (.invokevirtual 22, 3) := by decide +kernel
theorem mD_Se_hideNothing_14 : decode mB_Se_hideNothing 14 = .ok (.iastore, 1) := by decide +kernel
theorem mD_Se_hideNothing_15 : decode mB_Se_hideNothing 15 = .ok (.aload_n 1, 1) := by decide +kernel
theorem mD_Se_hideNothing_16 : decode mB_Se_hideNothing 16 = .ok (.bipush 32, 2) := by decide +kernel
theorem mD_Se_hideNothing_18 : decode mB_Se_hideNothing 18 = .ok (.iload_n 3, 1) := by decide +kernel
theorem mD_Se_hideNothing_19 : decode mB_Se_hideNothing 19 = .ok (.iadd, 1) := by decide +kernel
theorem mD_Se_hideNothing_20 : decode mB_Se_hideNothing 20 = .ok (.aload_n 2, 1) := by decide +kernel
theorem mD_Se_hideNothing_21 : decode mB_Se_hideNothing 21 = .ok (.iconst 3, 1) := by decide +kernel
theorem mD_Se_hideNothing_22 : decode mB_Se_hideNothing 22 = .ok (.invokevirtual 28, 3) := by decide +kernel
theorem mD_Se_hideNothing_25 : decode mB_Se_hideNothing 25 = .ok (.iastore, 1) := by decide +kernel
theorem mD_Se_hideNothing_26 : decode mB_Se_hideNothing 26 = .ok (.iinc 3 1, 3) := by decide +kernel
theorem mD_Se_hideNothing_29 : decode mB_Se_hideNothing 29 = .ok (.goto (-27), 3) := by decide +kernel
theorem mD_Se_hideNothing_32 : decode mB_Se_hideNothing 32 = .ok (.iconst 0, 1) := by decide +kernel
theorem mD_Se_hideNothing_33 : decode mB_Se_hideNothing 33 = .ok (.istore_n 3, 1) := by decide +kernel
theorem mD_Se_hideNothing_34 : decode mB_Se_hideNothing 34 = .ok (.iload_n 3, 1) := by decide +kernel
theorem mD_Se_hideNothing_35 : decode mB_Se_hideNothing 35 = .ok (.bipush 32, 2) := by decide +kernel
theorem mD_Se_hideNothing_37 : decode mB_Se_hideNothing 37 = .ok (.if_icmp .ge 24, 3) := by decide +kernel
theorem mD_Se_hideNothing_40 : decode mB_Se_hideNothing 40 = .ok (.aload_n 0, 1) := by decide +kernel
theorem mD_Se_hideNothing_41 : decode mB_Se_hideNothing 41 = .ok (.getfield 15, 3) := by decide +kernel
theorem mD_Se_hideNothing_44 : decode mB_Se_hideNothing 44 = .ok (.iload_n 3, 1) := by decide +kernel
theorem mD_Se_hideNothing_45 : decode mB_Se_hideNothing 45 = .ok (.iaload, 1) := by decide +kernel
theorem mD_Se_hideNothing_46 : decode mB_Se_hideNothing 46 = .ok (.iload_n 3, 1) := by decide +kernel
theorem mD_Se_hideNothing_47 : decode mB_Se_hideNothing 47 = .ok (.aload_n 1, 1) := by decide +kernel
theorem mD_Se_hideNothing_48 : decode mB_Se_hideNothing 48 = .ok (.iconst 0, 1) := by decide +kernel
theorem mD_Se_hideNothing_49 : decode mB_Se_hideNothing 49 = .ok (.aload_n 1, 1) := by decide +kernel
theorem mD_Se_hideNothing_50 : decode mB_Se_hideNothing 50 = .ok (.bipush 32, 2) := by decide +kernel
theorem mD_Se_hideNothing_52 : decode mB_Se_hideNothing 52 = .ok (.invokestatic 32, 3) := by decide +kernel
theorem mD_Se_hideNothing_55 : decode mB_Se_hideNothing 55 = .ok (.iinc 3 1, 3) := by decide +kernel
theorem mD_Se_hideNothing_58 : decode mB_Se_hideNothing 58 = .ok (.goto (-24), 3) := by decide +kernel
theorem mD_Se_hideNothing_61 : decode mB_Se_hideNothing 61 = .ok (.return_, 1) := by decide +kernel
theorem mD_So_init_0 : decode mB_So_init 0 = .ok (.aload_n 0, 1) := by decide +kernel
theorem mD_So_init_1 : decode mB_So_init 1 = .ok (.invokespecial 1, 3) := by decide +kernel
theorem mD_So_init_4 : decode mB_So_init 4 = .ok (.return_, 1) := by decide +kernel
theorem mD_So_restart_0 : decode mB_So_restart 0 = .ok (.aload_n 0, 1) := by decide +kernel
theorem mD_So_restart_1 : decode mB_So_restart 1 = .ok (.iload_n 1, 1) := by decide +kernel
theorem mD_So_restart_2 : decode mB_So_restart 2 = .ok (.i2l, 1) := by decide +kernel
theorem mD_So_restart_3 : decode mB_So_restart 3 = .ok (.putfield 7, 3) := by decide +kernel
theorem mD_So_restart_6 : decode mB_So_restart 6 = .ok (.return_, 1) := by decide +kernel
theorem mD_So_draw_0 : decode mB_So_draw 0 = .ok (.aload_n 0, 1) := by decide +kernel
theorem mD_So_draw_1 : decode mB_So_draw 1 = .ok (.dup, 1) := by decide +kernel
theorem mD_So_draw_2 : decode mB_So_draw 2 = .ok (.getfield 7, 3) := by decide +kernel
theorem mD_So_draw_5 : decode mB_So_draw 5 = .ok (.ldc2_w 13, 3) := by decide +kernel
theorem mD_So_draw_8 : decode mB_So_draw 8 = .ok (.ladd, 1) := by decide +kernel
theorem mD_So_draw_9 : decode mB_So_draw 9 = .ok (.putfield 7, 3) := by decide +kernel
theorem mD_So_draw_12 : decode mB_So_draw 12 = .ok (.aload_n 0, 1) := by decide +kernel
theorem mD_So_draw_13 : decode mB_So_draw 13 = .ok (.getfield 7, 3) := by decide +kernel
theorem mD_So_draw_16 : decode mB_So_draw 16 = .ok (.aload_n 0, 1) := by decide +kernel
theorem mD_So_draw_17 : decode mB_So_draw 17 = .ok (.getfield 7, 3) := by decide +kernel
theorem mD_So_draw_20 : decode mB_So_draw 20 = .ok (.bipush 30, 2) := by decide +kernel
theorem mD_So_draw_22 : decode mB_So_draw 22 = .ok (.lushr, 1) := by decide +kernel
theorem mD_So_draw_23 : decode mB_So_draw 23 = .ok (.lxor, 1) := by decide +kernel
theorem mD_So_draw_24 : decode mB_So_draw 24 = .ok (.ldc2_w 15, 3) := by decide +kernel
theorem mD_So_draw_27 : decode mB_So_draw 27 = .ok (.lmul, 1) := by decide +kernel
theorem mD_So_draw_28 : decode mB_So_draw 28 = .ok (.lstore_n 1, 1) := by decide +kernel
theorem mD_So_draw_29 : decode mB_So_draw 29 = .ok (.lload_n 1, 1) := by decide +kernel
theorem mD_So_draw_30 : decode mB_So_draw 30 = .ok (.lload_n 1, 1) := by decide +kernel
theorem mD_So_draw_31 : decode mB_So_draw 31 = .ok (.bipush 27, 2) := by decide +kernel
theorem mD_So_draw_33 : decode mB_So_draw 33 = .ok (.lushr, 1) := by decide +kernel
theorem mD_So_draw_34 : decode mB_So_draw 34 = .ok (.lxor, 1) := by decide +kernel
theorem mD_So_draw_35 : decode mB_So_draw 35 = .ok (.ldc2_w 17, 3) := by decide +kernel
theorem mD_So_draw_38 : decode mB_So_draw 38 = .ok (.lmul, 1) := by decide +kernel
theorem mD_So_draw_39 : decode mB_So_draw 39 = .ok (.lstore_n 1, 1) := by decide +kernel
theorem mD_So_draw_40 : decode mB_So_draw 40 = .ok (.lload_n 1, 1) := by decide +kernel
theorem mD_So_draw_41 : decode mB_So_draw 41 = .ok (.bipush 32, 2) := by decide +kernel
theorem mD_So_draw_43 : decode mB_So_draw 43 = .ok (.lushr, 1) := by decide +kernel
theorem mD_So_draw_44 : decode mB_So_draw 44 = .ok (.l2i, 1) := by decide +kernel
theorem mD_So_draw_45 : decode mB_So_draw 45 = .ok (.ireturn, 1) := by decide +kernel
theorem mD_So_drawNoise_0 : decode mB_So_drawNoise 0 = .ok (.aload_n 0, 1) := by decide +kernel
theorem mD_So_drawNoise_1 : decode mB_So_drawNoise 1 = .ok (.invokevirtual 19, 3) := by decide +kernel
theorem mD_So_drawNoise_4 : decode mB_So_drawNoise 4 = .ok (.bipush 32, 2) := by decide +kernel
theorem mD_So_drawNoise_6 : decode mB_So_drawNoise 6 = .ok (.iload_n 1, 1) := by decide +kernel
theorem mD_So_drawNoise_7 : decode mB_So_drawNoise 7 = .ok (.isub, 1) := by decide +kernel
theorem mD_So_drawNoise_8 : decode mB_So_drawNoise 8 = .ok (.iushr, 1) := by decide +kernel
theorem mD_So_drawNoise_9 : decode mB_So_drawNoise 9 = .ok (.iconst 1, 1) := by decide +kernel
theorem mD_So_drawNoise_10 : decode mB_So_drawNoise 10 = .ok (.iload_n 1, 1) := by decide +kernel
theorem mD_So_drawNoise_11 : decode mB_So_drawNoise 11 = .ok (.iconst 1, 1) := by decide +kernel
theorem mD_So_drawNoise_12 : decode mB_So_drawNoise 12 = .ok (.isub, 1) := by decide +kernel
theorem mD_So_drawNoise_13 : decode mB_So_drawNoise 13 = .ok (.ishl, 1) := by decide +kernel
theorem mD_So_drawNoise_14 : decode mB_So_drawNoise 14 = .ok (.isub, 1) := by decide +kernel
theorem mD_So_drawNoise_15 : decode mB_So_drawNoise 15 = .ok (.ireturn, 1) := by decide +kernel
theorem mD_Wo_init_0 : decode mB_Wo_init 0 = .ok (.aload_n 0, 1) := by decide +kernel
theorem mD_Wo_init_1 : decode mB_Wo_init 1 = .ok (.invokespecial 3, 3) := by decide +kernel
theorem mD_Wo_init_4 : decode mB_Wo_init 4 = .ok (.aload_n 0, 1) := by decide +kernel
theorem mD_Wo_init_5 : decode mB_Wo_init 5 = .ok (.aload_n 1, 1) := by decide +kernel
theorem mD_Wo_init_6 : decode mB_Wo_init 6 = .ok (.putfield 9, 3) := by decide +kernel
theorem mD_Wo_init_9 : decode mB_Wo_init 9 = .ok (.aload_n 0, 1) := by decide +kernel
theorem mD_Wo_init_10 : decode mB_Wo_init 10 = .ok (.bipush 9, 2) := by decide +kernel
theorem mD_Wo_init_12 : decode mB_Wo_init 12 = .ok (.newarray .int, 2) := by decide +kernel
theorem mD_Wo_init_14 : decode mB_Wo_init 14 = .ok (.putfield 17, 3) := by decide +kernel
theorem mD_Wo_init_17 : decode mB_Wo_init 17 = .ok (.return_, 1) := by decide +kernel
theorem mD_Wo_work_0 : decode mB_Wo_work 0 = .ok (.iconst 0, 1) := by decide +kernel
theorem mD_Wo_work_1 : decode mB_Wo_work 1 = .ok (.istore 5, 2) := by decide +kernel
theorem mD_Wo_work_3 : decode mB_Wo_work 3 = .ok (.iload 5, 2) := by decide +kernel
theorem mD_Wo_work_5 : decode mB_Wo_work 5 = .ok (.bipush 9, 2) := by decide +kernel
theorem mD_Wo_work_7 : decode mB_Wo_work 7 = .ok (.if_icmp .ge 37, 3) := by decide +kernel
theorem mD_Wo_work_10 : decode mB_Wo_work 10 = .ok (.aload_n 0, 1) := by decide +kernel
theorem mD_Wo_work_11 : decode mB_Wo_work 11 = .ok (.getfield 17, 3) := by decide +kernel
theorem mD_Wo_work_14 : decode mB_Wo_work 14 = .ok (.iload 5, 2) := by decide +kernel
theorem mD_Wo_work_16 : decode mB_Wo_work 16 = .ok (.getstatic 21, 3) := by decide +kernel
theorem mD_Wo_work_19 : decode mB_Wo_work 19 = .ok (.iload_n 1, 1) := by decide +kernel
theorem mD_Wo_work_20 : decode mB_Wo_work 20 = .ok (.iaload, 1) := by decide +kernel
theorem mD_Wo_work_21 : decode mB_Wo_work 21 = .ok (.aload_n 2, 1) := by decide +kernel
theorem mD_Wo_work_22 : decode mB_Wo_work 22 = .ok (.iload 5, 2) := by decide +kernel
theorem mD_Wo_work_24 : decode mB_Wo_work 24 = .ok (.iaload, 1) := by decide +kernel
theorem mD_Wo_work_25 : decode mB_Wo_work 25 = .ok (.imul, 1) := by decide +kernel
theorem mD_Wo_work_26 : decode mB_Wo_work 26 = .ok (.getstatic 24, 3) := by decide +kernel
theorem mD_Wo_work_29 : decode mB_Wo_work 29 = .ok (.iload_n 1, 1) := by decide +kernel
theorem mD_Wo_work_30 : decode mB_Wo_work 30 = .ok (.iaload, 1) := by decide +kernel
theorem mD_Wo_work_31 : decode mB_Wo_work 31 = .ok (.aload_n 3, 1) := by decide +kernel
theorem mD_Wo_work_32 : decode mB_Wo_work 32 = .ok (.iload 5, 2) := by decide +kernel
theorem mD_Wo_work_34 : decode mB_Wo_work 34 = .ok (.iaload, 1) := by decide +kernel
theorem mD_Wo_work_35 : decode mB_Wo_work 35 = .ok (.imul, 1) := by decide +kernel
theorem mD_Wo_work_36 : decode mB_Wo_work 36 = .ok (.iadd, 1) := by decide +kernel
theorem mD_Wo_work_37 : decode mB_Wo_work 37 = .ok (.iastore, 1) := by decide +kernel
theorem mD_Wo_work_38 : decode mB_Wo_work 38 = .ok (.iinc 5 1, 3) := by decide +kernel
theorem mD_Wo_work_41 : decode mB_Wo_work 41 = .ok (.goto (-38), 3) := by decide +kernel
theorem mD_Wo_work_44 : decode mB_Wo_work 44 = .ok (.aload_n 0, 1) := by decide +kernel
theorem mD_Wo_work_45 : decode mB_Wo_work 45 = .ok (.getfield 17, 3) := by decide +kernel
theorem mD_Wo_work_48 : decode mB_Wo_work 48 = .ok (.bipush 8, 2) := by decide +kernel
theorem mD_Wo_work_50 : decode mB_Wo_work 50 = .ok (.dup2, 1) := by decide +kernel
theorem mD_Wo_work_51 : decode mB_Wo_work 51 = .ok (.iaload, 1) := by decide +kernel
theorem mD_Wo_work_52 : decode mB_Wo_work 52 = .ok (.getstatic 27, 3) := by decide +kernel
theorem mD_Wo_work_55 : decode mB_Wo_work 55 = .ok (.iload_n 1, 1) := by decide +kernel
theorem mD_Wo_work_56 : decode mB_Wo_work 56 = .ok (.iaload, 1) := by decide +kernel
theorem mD_Wo_work_57 : decode mB_Wo_work 57 = .ok (.ldc 30, 2) := by decide +kernel
theorem mD_Wo_work_59 : decode mB_Wo_work 59 = .ok (.imul, 1) := by decide +kernel
theorem mD_Wo_work_60 : decode mB_Wo_work 60 = .ok (.iadd, 1) := by decide +kernel
theorem mD_Wo_work_61 : decode mB_Wo_work 61 = .ok (.iastore, 1) := by decide +kernel
theorem mD_Wo_work_62 : decode mB_Wo_work 62 = .ok (.aload_n 0, 1) := by decide +kernel
theorem mD_Wo_work_63 : decode mB_Wo_work 63 = .ok (.getfield 9, 3) := by decide +kernel
theorem mD_Wo_work_66 : decode mB_Wo_work 66 = .ok (.aload_n 0, 1) := by decide +kernel
theorem mD_Wo_work_67 : decode mB_Wo_work 67 = .ok (.getfield 17, 3) := by decide +kernel
theorem mD_Wo_work_70 : decode mB_Wo_work 70 = .ok (.aload 4, 2) := by decide +kernel
theorem mD_Wo_work_72 : decode mB_Wo_work 72 = .ok (.invokevirtual 31, 3) := by decide +kernel
theorem mD_Wo_work_75 : decode mB_Wo_work 75 = .ok (.return_, 1) := by decide +kernel
theorem mD_La_bit_0 : decode mB_La_bit 0 = .ok (.aload_n 2, 1) := by decide +kernel
theorem mD_La_bit_1 : decode mB_La_bit 1 = .ok (.iconst 0, 1) := by decide +kernel
theorem mD_La_bit_2 : decode mB_La_bit 2 = .ok (.aload_n 0, 1) := by decide +kernel
theorem mD_La_bit_3 : decode mB_La_bit 3 = .ok (.iload_n 1, 1) := by decide +kernel
theorem mD_La_bit_4 : decode mB_La_bit 4 = .ok (.invokevirtual 7, 3) := by decide +kernel
theorem mD_La_bit_7 : decode mB_La_bit 7 = .ok (.i2l, 1) := by decide +kernel
theorem mD_La_bit_8 : decode mB_La_bit 8 = .ok (.lastore, 1) := by decide +kernel
theorem mD_La_bit_9 : decode mB_La_bit 9 = .ok (.goto 6, 3) := by decide +kernel
theorem mD_La_bit_12 : decode mB_La_bit 12 = .ok (.astore_n 3, 1) := by decide +kernel
theorem mD_La_bit_13 : decode mB_La_bit 13 = .ok (.iconst 1, 1) := by decide +kernel
theorem mD_La_bit_14 : decode mB_La_bit 14 = .ok (.ireturn, 1) := by decide +kernel
theorem mD_La_bit_15 : decode mB_La_bit 15 = .ok (.iconst 0, 1) := by decide +kernel
theorem mD_La_bit_16 : decode mB_La_bit 16 = .ok (.ireturn, 1) := by decide +kernel
theorem mD_La_drop_0 : decode mB_La_drop 0 = .ok (.aload_n 2, 1) := by decide +kernel
theorem mD_La_drop_1 : decode mB_La_drop 1 = .ok (.iconst 0, 1) := by decide +kernel
theorem mD_La_drop_2 : decode mB_La_drop 2 = .ok (.aload_n 0, 1) := by decide +kernel
theorem mD_La_drop_3 : decode mB_La_drop 3 = .ok (.iload_n 1, 1) := by decide +kernel
theorem mD_La_drop_4 : decode mB_La_drop 4 = .ok (.invokevirtual 15, 3) := by decide +kernel
theorem mD_La_drop_7 : decode mB_La_drop 7 = .ok (.i2l, 1) := by decide +kernel
theorem mD_La_drop_8 : decode mB_La_drop 8 = .ok (.lastore, 1) := by decide +kernel
theorem mD_La_drop_9 : decode mB_La_drop 9 = .ok (.goto 6, 3) := by decide +kernel
theorem mD_La_drop_12 : decode mB_La_drop 12 = .ok (.astore_n 3, 1) := by decide +kernel
theorem mD_La_drop_13 : decode mB_La_drop 13 = .ok (.iconst 1, 1) := by decide +kernel
theorem mD_La_drop_14 : decode mB_La_drop 14 = .ok (.ireturn, 1) := by decide +kernel
theorem mD_La_drop_15 : decode mB_La_drop 15 = .ok (.iconst 0, 1) := by decide +kernel
theorem mD_La_drop_16 : decode mB_La_drop 16 = .ok (.ireturn, 1) := by decide +kernel
theorem mD_La_not_0 : decode mB_La_not 0 = .ok (.aload_n 2, 1) := by decide +kernel
theorem mD_La_not_1 : decode mB_La_not 1 = .ok (.iconst 0, 1) := by decide +kernel
theorem mD_La_not_2 : decode mB_La_not 2 = .ok (.aload_n 0, 1) := by decide +kernel
theorem mD_La_not_3 : decode mB_La_not 3 = .ok (.iload_n 1, 1) := by decide +kernel
theorem mD_La_not_4 : decode mB_La_not 4 = .ok (.invokevirtual 21, 3) := by decide +kernel
theorem mD_La_not_7 : decode mB_La_not 7 = .ok (.i2l, 1) := by decide +kernel
theorem mD_La_not_8 : decode mB_La_not 8 = .ok (.lastore, 1) := by decide +kernel
theorem mD_La_not_9 : decode mB_La_not 9 = .ok (.goto 9, 3) := by decide +kernel
theorem mD_La_not_12 : decode mB_La_not 12 = .ok (.astore_n 3, 1) := by decide +kernel
theorem mD_La_not_13 : decode mB_La_not 13 = .ok (.iconst 1, 1) := by decide +kernel
theorem mD_La_not_14 : decode mB_La_not 14 = .ok (.ireturn, 1) := by decide +kernel
theorem mD_La_not_15 : decode mB_La_not 15 = .ok (.astore_n 3, 1) := by decide +kernel
theorem mD_La_not_16 : decode mB_La_not 16 = .ok (.iconst 2, 1) := by decide +kernel
theorem mD_La_not_17 : decode mB_La_not 17 = .ok (.ireturn, 1) := by decide +kernel
theorem mD_La_not_18 : decode mB_La_not 18 = .ok (.iconst 0, 1) := by decide +kernel
theorem mD_La_not_19 : decode mB_La_not 19 = .ok (.ireturn, 1) := by decide +kernel
theorem mD_La_blur_0 : decode mB_La_blur 0 = .ok (.aload_n 3, 1) := by decide +kernel
theorem mD_La_blur_1 : decode mB_La_blur 1 = .ok (.iconst 0, 1) := by decide +kernel
theorem mD_La_blur_2 : decode mB_La_blur 2 = .ok (.aload_n 0, 1) := by decide +kernel
theorem mD_La_blur_3 : decode mB_La_blur 3 = .ok (.iload_n 1, 1) := by decide +kernel
theorem mD_La_blur_4 : decode mB_La_blur 4 = .ok (.iload_n 2, 1) := by decide +kernel
theorem mD_La_blur_5 : decode mB_La_blur 5 = .ok (.invokevirtual 24, 3) := by decide +kernel
theorem mD_La_blur_8 : decode mB_La_blur 8 = .ok (.i2l, 1) := by decide +kernel
theorem mD_La_blur_9 : decode mB_La_blur 9 = .ok (.lastore, 1) := by decide +kernel
theorem mD_La_blur_10 : decode mB_La_blur 10 = .ok (.goto 15, 3) := by decide +kernel
theorem mD_La_blur_13 : decode mB_La_blur 13 = .ok (.astore 4, 2) := by decide +kernel
theorem mD_La_blur_15 : decode mB_La_blur 15 = .ok (.iconst 1, 1) := by decide +kernel
theorem mD_La_blur_16 : decode mB_La_blur 16 = .ok (.ireturn, 1) := by decide +kernel
theorem mD_La_blur_17 : decode mB_La_blur 17 = .ok (.astore 4, 2) := by decide +kernel
theorem mD_La_blur_19 : decode mB_La_blur 19 = .ok (.iconst 2, 1) := by decide +kernel
theorem mD_La_blur_20 : decode mB_La_blur 20 = .ok (.ireturn, 1) := by decide +kernel
theorem mD_La_blur_21 : decode mB_La_blur 21 = .ok (.astore 4, 2) := by decide +kernel
theorem mD_La_blur_23 : decode mB_La_blur 23 = .ok (.iconst 3, 1) := by decide +kernel
theorem mD_La_blur_24 : decode mB_La_blur 24 = .ok (.ireturn, 1) := by decide +kernel
theorem mD_La_blur_25 : decode mB_La_blur 25 = .ok (.iconst 0, 1) := by decide +kernel
theorem mD_La_blur_26 : decode mB_La_blur 26 = .ok (.ireturn, 1) := by decide +kernel
theorem mD_La_pile_0 : decode mB_La_pile 0 = .ok (.aload_n 3, 1) := by decide +kernel
theorem mD_La_pile_1 : decode mB_La_pile 1 = .ok (.iconst 0, 1) := by decide +kernel
theorem mD_La_pile_2 : decode mB_La_pile 2 = .ok (.aload_n 0, 1) := by decide +kernel
theorem mD_La_pile_3 : decode mB_La_pile 3 = .ok (.iload_n 1, 1) := by decide +kernel
theorem mD_La_pile_4 : decode mB_La_pile 4 = .ok (.iload_n 2, 1) := by decide +kernel
theorem mD_La_pile_5 : decode mB_La_pile 5 = .ok (.invokevirtual 30, 3) := by decide +kernel
theorem mD_La_pile_8 : decode mB_La_pile 8 = .ok (.i2l, 1) := by decide +kernel
theorem mD_La_pile_9 : decode mB_La_pile 9 = .ok (.lastore, 1) := by decide +kernel
theorem mD_La_pile_10 : decode mB_La_pile 10 = .ok (.goto 15, 3) := by decide +kernel
theorem mD_La_pile_13 : decode mB_La_pile 13 = .ok (.astore 4, 2) := by decide +kernel
theorem mD_La_pile_15 : decode mB_La_pile 15 = .ok (.iconst 1, 1) := by decide +kernel
theorem mD_La_pile_16 : decode mB_La_pile 16 = .ok (.ireturn, 1) := by decide +kernel
theorem mD_La_pile_17 : decode mB_La_pile 17 = .ok (.astore 4, 2) := by decide +kernel
theorem mD_La_pile_19 : decode mB_La_pile 19 = .ok (.iconst 2, 1) := by decide +kernel
theorem mD_La_pile_20 : decode mB_La_pile 20 = .ok (.ireturn, 1) := by decide +kernel
theorem mD_La_pile_21 : decode mB_La_pile 21 = .ok (.astore 4, 2) := by decide +kernel
theorem mD_La_pile_23 : decode mB_La_pile 23 = .ok (.iconst 3, 1) := by decide +kernel
theorem mD_La_pile_24 : decode mB_La_pile 24 = .ok (.ireturn, 1) := by decide +kernel
theorem mD_La_pile_25 : decode mB_La_pile 25 = .ok (.iconst 0, 1) := by decide +kernel
theorem mD_La_pile_26 : decode mB_La_pile 26 = .ok (.ireturn, 1) := by decide +kernel
theorem mD_La_gate_0 : decode mB_La_gate 0 = .ok (.aload 4, 2) := by decide +kernel
theorem mD_La_gate_2 : decode mB_La_gate 2 = .ok (.iconst 0, 1) := by decide +kernel
theorem mD_La_gate_3 : decode mB_La_gate 3 = .ok (.aload_n 0, 1) := by decide +kernel
theorem mD_La_gate_4 : decode mB_La_gate 4 = .ok (.iload_n 1, 1) := by decide +kernel
theorem mD_La_gate_5 : decode mB_La_gate 5 = .ok (.iload_n 2, 1) := by decide +kernel
theorem mD_La_gate_6 : decode mB_La_gate 6 = .ok (.iload_n 3, 1) := by decide +kernel
theorem mD_La_gate_7 : decode mB_La_gate 7 = .ok (.invokevirtual 33, 3) := by decide +kernel
theorem mD_La_gate_10 : decode mB_La_gate 10 = .ok (.i2l, 1) := by decide +kernel
theorem mD_La_gate_11 : decode mB_La_gate 11 = .ok (.lastore, 1) := by decide +kernel
theorem mD_La_gate_12 : decode mB_La_gate 12 = .ok (.goto 11, 3) := by decide +kernel
theorem mD_La_gate_15 : decode mB_La_gate 15 = .ok (.astore 5, 2) := by decide +kernel
theorem mD_La_gate_17 : decode mB_La_gate 17 = .ok (.iconst 1, 1) := by decide +kernel
theorem mD_La_gate_18 : decode mB_La_gate 18 = .ok (.ireturn, 1) := by decide +kernel
theorem mD_La_gate_19 : decode mB_La_gate 19 = .ok (.astore 5, 2) := by decide +kernel
theorem mD_La_gate_21 : decode mB_La_gate 21 = .ok (.iconst 2, 1) := by decide +kernel
theorem mD_La_gate_22 : decode mB_La_gate 22 = .ok (.ireturn, 1) := by decide +kernel
theorem mD_La_gate_23 : decode mB_La_gate 23 = .ok (.iconst 0, 1) := by decide +kernel
theorem mD_La_gate_24 : decode mB_La_gate 24 = .ok (.ireturn, 1) := by decide +kernel
theorem mD_La_choose_0 : decode mB_La_choose 0 = .ok (.aload 4, 2) := by decide +kernel
theorem mD_La_choose_2 : decode mB_La_choose 2 = .ok (.iconst 0, 1) := by decide +kernel
theorem mD_La_choose_3 : decode mB_La_choose 3 = .ok (.aload_n 0, 1) := by decide +kernel
theorem mD_La_choose_4 : decode mB_La_choose 4 = .ok (.iload_n 1, 1) := by decide +kernel
theorem mD_La_choose_5 : decode mB_La_choose 5 = .ok (.iload_n 2, 1) := by decide +kernel
theorem mD_La_choose_6 : decode mB_La_choose 6 = .ok (.iload_n 3, 1) := by decide +kernel
theorem mD_La_choose_7 : decode mB_La_choose 7 = .ok (.invokevirtual 37, 3) := by decide +kernel
theorem mD_La_choose_10 : decode mB_La_choose 10 = .ok (.i2l, 1) := by decide +kernel
theorem mD_La_choose_11 : decode mB_La_choose 11 = .ok (.lastore, 1) := by decide +kernel
theorem mD_La_choose_12 : decode mB_La_choose 12 = .ok (.goto 11, 3) := by decide +kernel
theorem mD_La_choose_15 : decode mB_La_choose 15 = .ok (.astore 5, 2) := by decide +kernel
theorem mD_La_choose_17 : decode mB_La_choose 17 = .ok (.iconst 1, 1) := by decide +kernel
theorem mD_La_choose_18 : decode mB_La_choose 18 = .ok (.ireturn, 1) := by decide +kernel
theorem mD_La_choose_19 : decode mB_La_choose 19 = .ok (.astore 5, 2) := by decide +kernel
theorem mD_La_choose_21 : decode mB_La_choose 21 = .ok (.iconst 2, 1) := by decide +kernel
theorem mD_La_choose_22 : decode mB_La_choose 22 = .ok (.ireturn, 1) := by decide +kernel
theorem mD_La_choose_23 : decode mB_La_choose 23 = .ok (.iconst 0, 1) := by decide +kernel
theorem mD_La_choose_24 : decode mB_La_choose 24 = .ok (.ireturn, 1) := by decide +kernel
theorem mD_La_open_0 : decode mB_La_open 0 = .ok (.aload_n 2, 1) := by decide +kernel
theorem mD_La_open_1 : decode mB_La_open 1 = .ok (.iconst 0, 1) := by decide +kernel
theorem mD_La_open_2 : decode mB_La_open 2 = .ok (.aload_n 0, 1) := by decide +kernel
theorem mD_La_open_3 : decode mB_La_open 3 = .ok (.iload_n 1, 1) := by decide +kernel
theorem mD_La_open_4 : decode mB_La_open 4 = .ok (.invokevirtual 40, 3) := by decide +kernel
theorem mD_La_open_7 : decode mB_La_open 7 = .ok (.i2l, 1) := by decide +kernel
theorem mD_La_open_8 : decode mB_La_open 8 = .ok (.lastore, 1) := by decide +kernel
theorem mD_La_open_9 : decode mB_La_open 9 = .ok (.goto 9, 3) := by decide +kernel
theorem mD_La_open_12 : decode mB_La_open 12 = .ok (.astore_n 3, 1) := by decide +kernel
theorem mD_La_open_13 : decode mB_La_open 13 = .ok (.iconst 1, 1) := by decide +kernel
theorem mD_La_open_14 : decode mB_La_open 14 = .ok (.ireturn, 1) := by decide +kernel
theorem mD_La_open_15 : decode mB_La_open 15 = .ok (.astore_n 3, 1) := by decide +kernel
theorem mD_La_open_16 : decode mB_La_open 16 = .ok (.iconst 2, 1) := by decide +kernel
theorem mD_La_open_17 : decode mB_La_open 17 = .ok (.ireturn, 1) := by decide +kernel
theorem mD_La_open_18 : decode mB_La_open 18 = .ok (.iconst 0, 1) := by decide +kernel
theorem mD_La_open_19 : decode mB_La_open 19 = .ok (.ireturn, 1) := by decide +kernel
theorem mD_La_bound_0 : decode mB_La_bound 0 = .ok (.aload_n 2, 1) := by decide +kernel
theorem mD_La_bound_1 : decode mB_La_bound 1 = .ok (.iconst 0, 1) := by decide +kernel
theorem mD_La_bound_2 : decode mB_La_bound 2 = .ok (.aload_n 0, 1) := by decide +kernel
theorem mD_La_bound_3 : decode mB_La_bound 3 = .ok (.iload_n 1, 1) := by decide +kernel
theorem mD_La_bound_4 : decode mB_La_bound 4 = .ok (.invokevirtual 43, 3) := by decide +kernel
theorem mD_La_bound_7 : decode mB_La_bound 7 = .ok (.i2l, 1) := by decide +kernel
theorem mD_La_bound_8 : decode mB_La_bound 8 = .ok (.lastore, 1) := by decide +kernel
theorem mD_La_bound_9 : decode mB_La_bound 9 = .ok (.goto 6, 3) := by decide +kernel
theorem mD_La_bound_12 : decode mB_La_bound 12 = .ok (.astore_n 3, 1) := by decide +kernel
theorem mD_La_bound_13 : decode mB_La_bound 13 = .ok (.iconst 1, 1) := by decide +kernel
theorem mD_La_bound_14 : decode mB_La_bound 14 = .ok (.ireturn, 1) := by decide +kernel
theorem mD_La_bound_15 : decode mB_La_bound 15 = .ok (.iconst 0, 1) := by decide +kernel
theorem mD_La_bound_16 : decode mB_La_bound 16 = .ok (.ireturn, 1) := by decide +kernel
theorem mD_La_within_0 : decode mB_La_within 0 = .ok (.aload_n 2, 1) := by decide +kernel
theorem mD_La_within_1 : decode mB_La_within 1 = .ok (.iconst 0, 1) := by decide +kernel
theorem mD_La_within_2 : decode mB_La_within 2 = .ok (.aload_n 0, 1) := by decide +kernel
theorem mD_La_within_3 : decode mB_La_within 3 = .ok (.iload_n 1, 1) := by decide +kernel
theorem mD_La_within_4 : decode mB_La_within 4 = .ok (.invokevirtual 46, 3) := by decide +kernel
theorem mD_La_within_7 : decode mB_La_within 7 = .ok (.ifCond .eq 7, 3) := by decide +kernel
theorem mD_La_within_10 : decode mB_La_within 10 = .ok (.lconst 1, 1) := by decide +kernel
theorem mD_La_within_11 : decode mB_La_within 11 = .ok (.goto 4, 3) := by decide +kernel
theorem mD_La_within_14 : decode mB_La_within 14 = .ok (.lconst 0, 1) := by decide +kernel
theorem mD_La_within_15 : decode mB_La_within 15 = .ok (.lastore, 1) := by decide +kernel
theorem mD_La_within_16 : decode mB_La_within 16 = .ok (.goto 6, 3) := by decide +kernel
theorem mD_La_within_19 : decode mB_La_within 19 = .ok (.astore_n 3, 1) := by decide +kernel
theorem mD_La_within_20 : decode mB_La_within 20 = .ok (.iconst 1, 1) := by decide +kernel
theorem mD_La_within_21 : decode mB_La_within 21 = .ok (.ireturn, 1) := by decide +kernel
theorem mD_La_within_22 : decode mB_La_within 22 = .ok (.iconst 0, 1) := by decide +kernel
theorem mD_La_within_23 : decode mB_La_within 23 = .ok (.ireturn, 1) := by decide +kernel
theorem mD_La_line_0 : decode mB_La_line 0 = .ok (.aload 4, 2) := by decide +kernel
theorem mD_La_line_2 : decode mB_La_line 2 = .ok (.iconst 0, 1) := by decide +kernel
theorem mD_La_line_3 : decode mB_La_line 3 = .ok (.aload_n 0, 1) := by decide +kernel
theorem mD_La_line_4 : decode mB_La_line 4 = .ok (.iload_n 1, 1) := by decide +kernel
theorem mD_La_line_5 : decode mB_La_line 5 = .ok (.iload_n 2, 1) := by decide +kernel
theorem mD_La_line_6 : decode mB_La_line 6 = .ok (.iload_n 3, 1) := by decide +kernel
theorem mD_La_line_7 : decode mB_La_line 7 = .ok (.invokevirtual 50, 3) := by decide +kernel
theorem mD_La_line_10 : decode mB_La_line 10 = .ok (.i2l, 1) := by decide +kernel
theorem mD_La_line_11 : decode mB_La_line 11 = .ok (.lastore, 1) := by decide +kernel
theorem mD_La_line_12 : decode mB_La_line 12 = .ok (.goto 11, 3) := by decide +kernel
theorem mD_La_line_15 : decode mB_La_line 15 = .ok (.astore 5, 2) := by decide +kernel
theorem mD_La_line_17 : decode mB_La_line 17 = .ok (.iconst 1, 1) := by decide +kernel
theorem mD_La_line_18 : decode mB_La_line 18 = .ok (.ireturn, 1) := by decide +kernel
theorem mD_La_line_19 : decode mB_La_line 19 = .ok (.astore 5, 2) := by decide +kernel
theorem mD_La_line_21 : decode mB_La_line 21 = .ok (.iconst 2, 1) := by decide +kernel
theorem mD_La_line_22 : decode mB_La_line 22 = .ok (.ireturn, 1) := by decide +kernel
theorem mD_La_line_23 : decode mB_La_line 23 = .ok (.iconst 0, 1) := by decide +kernel
theorem mD_La_line_24 : decode mB_La_line 24 = .ok (.ireturn, 1) := by decide +kernel
theorem mD_La_play_0 : decode mB_La_play 0 = .ok (.aload_n 3, 1) := by decide +kernel
theorem mD_La_play_1 : decode mB_La_play 1 = .ok (.iconst 0, 1) := by decide +kernel
theorem mD_La_play_2 : decode mB_La_play 2 = .ok (.aload_n 0, 1) := by decide +kernel
theorem mD_La_play_3 : decode mB_La_play 3 = .ok (.iload_n 1, 1) := by decide +kernel
theorem mD_La_play_4 : decode mB_La_play 4 = .ok (.iload_n 2, 1) := by decide +kernel
theorem mD_La_play_5 : decode mB_La_play 5 = .ok (.invokevirtual 53, 3) := by decide +kernel
theorem mD_La_play_8 : decode mB_La_play 8 = .ok (.i2l, 1) := by decide +kernel
theorem mD_La_play_9 : decode mB_La_play 9 = .ok (.lastore, 1) := by decide +kernel
theorem mD_La_play_10 : decode mB_La_play 10 = .ok (.goto 15, 3) := by decide +kernel
theorem mD_La_play_13 : decode mB_La_play 13 = .ok (.astore 4, 2) := by decide +kernel
theorem mD_La_play_15 : decode mB_La_play 15 = .ok (.iconst 1, 1) := by decide +kernel
theorem mD_La_play_16 : decode mB_La_play 16 = .ok (.ireturn, 1) := by decide +kernel
theorem mD_La_play_17 : decode mB_La_play 17 = .ok (.astore 4, 2) := by decide +kernel
theorem mD_La_play_19 : decode mB_La_play 19 = .ok (.iconst 2, 1) := by decide +kernel
theorem mD_La_play_20 : decode mB_La_play 20 = .ok (.ireturn, 1) := by decide +kernel
theorem mD_La_play_21 : decode mB_La_play 21 = .ok (.astore 4, 2) := by decide +kernel
theorem mD_La_play_23 : decode mB_La_play 23 = .ok (.iconst 3, 1) := by decide +kernel
theorem mD_La_play_24 : decode mB_La_play 24 = .ok (.ireturn, 1) := by decide +kernel
theorem mD_La_play_25 : decode mB_La_play 25 = .ok (.iconst 0, 1) := by decide +kernel
theorem mD_La_play_26 : decode mB_La_play 26 = .ok (.ireturn, 1) := by decide +kernel
theorem mD_La_count_0 : decode mB_La_count 0 = .ok (.aload_n 2, 1) := by decide +kernel
theorem mD_La_count_1 : decode mB_La_count 1 = .ok (.iconst 0, 1) := by decide +kernel
theorem mD_La_count_2 : decode mB_La_count 2 = .ok (.aload_n 0, 1) := by decide +kernel
theorem mD_La_count_3 : decode mB_La_count 3 = .ok (.iload_n 1, 1) := by decide +kernel
theorem mD_La_count_4 : decode mB_La_count 4 = .ok (.invokevirtual 56, 3) := by decide +kernel
theorem mD_La_count_7 : decode mB_La_count 7 = .ok (.i2l, 1) := by decide +kernel
theorem mD_La_count_8 : decode mB_La_count 8 = .ok (.lastore, 1) := by decide +kernel
theorem mD_La_count_9 : decode mB_La_count 9 = .ok (.goto 6, 3) := by decide +kernel
theorem mD_La_count_12 : decode mB_La_count 12 = .ok (.astore_n 3, 1) := by decide +kernel
theorem mD_La_count_13 : decode mB_La_count 13 = .ok (.iconst 1, 1) := by decide +kernel
theorem mD_La_count_14 : decode mB_La_count 14 = .ok (.ireturn, 1) := by decide +kernel
theorem mD_La_count_15 : decode mB_La_count 15 = .ok (.iconst 0, 1) := by decide +kernel
theorem mD_La_count_16 : decode mB_La_count 16 = .ok (.ireturn, 1) := by decide +kernel
end
section
theorem mD_La_law_0 : decode mB_La_law 0 = .ok (.new 8, 3) := by decide +kernel
theorem mD_La_law_3 : decode mB_La_law 3 = .ok (.dup, 1) := by decide +kernel
theorem mD_La_law_4 : decode mB_La_law 4 = .ok (.invokespecial 59, 3) := by decide +kernel
theorem mD_La_law_7 : decode mB_La_law 7 = .ok (.astore_n 1, 1) := by decide +kernel
theorem mD_La_law_8 : decode mB_La_law 8 = .ok (.new 60, 3) := by decide +kernel
theorem mD_La_law_11 : decode mB_La_law 11 = .ok (.dup, 1) := by decide +kernel
theorem mD_La_law_12 : decode mB_La_law 12 = .ok (.invokespecial 62, 3) := by decide +kernel
theorem mD_La_law_15 : decode mB_La_law 15 = .ok (.astore_n 2, 1) := by decide +kernel
theorem mD_La_law_16 : decode mB_La_law 16 = .ok (.iconst 1, 1) := by decide +kernel
theorem mD_La_law_17 : decode mB_La_law 17 = .ok (.newarray .long, 2) := by decide +kernel
theorem mD_La_law_19 : decode mB_La_law 19 = .ok (.astore_n 3, 1) := by decide +kernel
theorem mD_La_law_20 : decode mB_La_law 20 = .ok (.iconst 0, 1) := by decide +kernel
theorem mD_La_law_21 : decode mB_La_law 21 = .ok (.istore 4, 2) := by decide +kernel
theorem mD_La_law_23 : decode mB_La_law 23 = .ok (.iload 4, 2) := by decide +kernel
theorem mD_La_law_25 : decode mB_La_law 25 = .ok (.aload_n 0, 1) := by decide +kernel
theorem mD_La_law_26 : decode mB_La_law 26 = .ok (.arraylength, 1) := by decide +kernel
theorem mD_La_law_27 : decode mB_La_law 27 = .ok (.iconst 4, 1) := by decide +kernel
theorem mD_La_law_28 : decode mB_La_law 28 = .ok (.isub, 1) := by decide +kernel
theorem mD_La_law_29 : decode mB_La_law 29 = .ok (.if_icmp .gt 986, 3) := by decide +kernel
theorem mD_La_law_32 : decode mB_La_law 32 = .ok (.aload_n 0, 1) := by decide +kernel
theorem mD_La_law_33 : decode mB_La_law 33 = .ok (.iload 4, 2) := by decide +kernel
theorem mD_La_law_35 : decode mB_La_law 35 = .ok (.iaload, 1) := by decide +kernel
theorem mD_La_law_36 : decode mB_La_law 36 = .ok (.bipush 15, 2) := by decide +kernel
theorem mD_La_law_38 : decode mB_La_law 38 = .ok (.iand, 1) := by decide +kernel
theorem mD_La_law_39 : decode mB_La_law 39 = .ok (.tableswitch 970 0 14 #[73, 98, 170, 226, 282, 350, 418, 498, 578, 634, 690, 753, 833, 901, 914], 73) := by decide +kernel
theorem mD_La_law_112 : decode mB_La_law 112 = .ok (.aload_n 1, 1) := by decide +kernel
theorem mD_La_law_113 : decode mB_La_law 113 = .ok (.aload_n 0, 1) := by decide +kernel
theorem mD_La_law_114 : decode mB_La_law 114 = .ok (.iload 4, 2) := by decide +kernel
theorem mD_La_law_116 : decode mB_La_law 116 = .ok (.iconst 1, 1) := by decide +kernel
theorem mD_La_law_117 : decode mB_La_law 117 = .ok (.iadd, 1) := by decide +kernel
theorem mD_La_law_118 : decode mB_La_law 118 = .ok (.iaload, 1) := by decide +kernel
theorem mD_La_law_119 : decode mB_La_law 119 = .ok (.invokevirtual 63, 3) := by decide +kernel
theorem mD_La_law_122 : decode mB_La_law 122 = .ok (.aload_n 2, 1) := by decide +kernel
theorem mD_La_law_123 : decode mB_La_law 123 = .ok (.aload_n 0, 1) := by decide +kernel
theorem mD_La_law_124 : decode mB_La_law 124 = .ok (.iload 4, 2) := by decide +kernel
theorem mD_La_law_126 : decode mB_La_law 126 = .ok (.iconst 1, 1) := by decide +kernel
theorem mD_La_law_127 : decode mB_La_law 127 = .ok (.iadd, 1) := by decide +kernel
theorem mD_La_law_128 : decode mB_La_law 128 = .ok (.iaload, 1) := by decide +kernel
theorem mD_La_law_129 : decode mB_La_law 129 = .ok (.invokevirtual 66, 3) := by decide +kernel
theorem mD_La_law_132 : decode mB_La_law 132 = .ok (.if_icmp .eq 877, 3) := by decide +kernel
theorem mD_La_law_135 : decode mB_La_law 135 = .ok (.iconst 0, 1) := by decide +kernel
theorem mD_La_law_136 : decode mB_La_law 136 = .ok (.ireturn, 1) := by decide +kernel
theorem mD_La_law_137 : decode mB_La_law 137 = .ok (.aload_n 1, 1) := by decide +kernel
theorem mD_La_law_138 : decode mB_La_law 138 = .ok (.aload_n 0, 1) := by decide +kernel
theorem mD_La_law_139 : decode mB_La_law 139 = .ok (.iload 4, 2) := by decide +kernel
theorem mD_La_law_141 : decode mB_La_law 141 = .ok (.iconst 1, 1) := by decide +kernel
theorem mD_La_law_142 : decode mB_La_law 142 = .ok (.iadd, 1) := by decide +kernel
theorem mD_La_law_143 : decode mB_La_law 143 = .ok (.iaload, 1) := by decide +kernel
theorem mD_La_law_144 : decode mB_La_law 144 = .ok (.ifCond .eq 7, 3) := by decide +kernel
theorem mD_La_law_147 : decode mB_La_law 147 = .ok (.iconst 1, 1) := by decide +kernel
theorem mD_La_law_148 : decode mB_La_law 148 = .ok (.goto 4, 3) := by decide +kernel
theorem mD_La_law_151 : decode mB_La_law 151 = .ok (.iconst 0, 1) := by decide +kernel
theorem mD_La_law_152 : decode mB_La_law 152 = .ok (.aload_n 3, 1) := by decide +kernel
theorem mD_La_law_153 : decode mB_La_law 153 = .ok (.invokestatic 67, 3) := by decide +kernel
theorem mD_La_law_156 : decode mB_La_law 156 = .ok (.istore 5, 2) := by decide +kernel
theorem mD_La_law_158 : decode mB_La_law 158 = .ok (.aload_n 2, 1) := by decide +kernel
theorem mD_La_law_159 : decode mB_La_law 159 = .ok (.aload_n 0, 1) := by decide +kernel
theorem mD_La_law_160 : decode mB_La_law 160 = .ok (.iload 4, 2) := by decide +kernel
theorem mD_La_law_162 : decode mB_La_law 162 = .ok (.iconst 1, 1) := by decide +kernel
theorem mD_La_law_163 : decode mB_La_law 163 = .ok (.iadd, 1) := by decide +kernel
theorem mD_La_law_164 : decode mB_La_law 164 = .ok (.iaload, 1) := by decide +kernel
theorem mD_La_law_165 : decode mB_La_law 165 = .ok (.ifCond .eq 7, 3) := by decide +kernel
theorem mD_La_law_168 : decode mB_La_law 168 = .ok (.iconst 1, 1) := by decide +kernel
theorem mD_La_law_169 : decode mB_La_law 169 = .ok (.goto 4, 3) := by decide +kernel
theorem mD_La_law_172 : decode mB_La_law 172 = .ok (.iconst 0, 1) := by decide +kernel
theorem mD_La_law_173 : decode mB_La_law 173 = .ok (.invokevirtual 72, 3) := by decide +kernel
theorem mD_La_law_176 : decode mB_La_law 176 = .ok (.istore 6, 2) := by decide +kernel
theorem mD_La_law_178 : decode mB_La_law 178 = .ok (.aload_n 2, 1) := by decide +kernel
theorem mD_La_law_179 : decode mB_La_law 179 = .ok (.invokevirtual 73, 3) := by decide +kernel
theorem mD_La_law_182 : decode mB_La_law 182 = .ok (.iload 5, 2) := by decide +kernel
theorem mD_La_law_184 : decode mB_La_law 184 = .ok (.if_icmp .eq 5, 3) := by decide +kernel
theorem mD_La_law_187 : decode mB_La_law 187 = .ok (.iconst 0, 1) := by decide +kernel
theorem mD_La_law_188 : decode mB_La_law 188 = .ok (.ireturn, 1) := by decide +kernel
theorem mD_La_law_189 : decode mB_La_law 189 = .ok (.iload 5, 2) := by decide +kernel
theorem mD_La_law_191 : decode mB_La_law 191 = .ok (.ifCond .ne 15, 3) := by decide +kernel
theorem mD_La_law_194 : decode mB_La_law 194 = .ok (.aload_n 3, 1) := by decide +kernel
theorem mD_La_law_195 : decode mB_La_law 195 = .ok (.iconst 0, 1) := by decide +kernel
theorem mD_La_law_196 : decode mB_La_law 196 = .ok (.laload, 1) := by decide +kernel
theorem mD_La_law_197 : decode mB_La_law 197 = .ok (.iload 6, 2) := by decide +kernel
theorem mD_La_law_199 : decode mB_La_law 199 = .ok (.i2l, 1) := by decide +kernel
theorem mD_La_law_200 : decode mB_La_law 200 = .ok (.lcmp, 1) := by decide +kernel
theorem mD_La_law_201 : decode mB_La_law 201 = .ok (.ifCond .eq 5, 3) := by decide +kernel
theorem mD_La_law_204 : decode mB_La_law 204 = .ok (.iconst 0, 1) := by decide +kernel
theorem mD_La_law_205 : decode mB_La_law 205 = .ok (.ireturn, 1) := by decide +kernel
theorem mD_La_law_206 : decode mB_La_law 206 = .ok (.goto 803, 3) := by decide +kernel
theorem mD_La_law_209 : decode mB_La_law 209 = .ok (.aload_n 1, 1) := by decide +kernel
theorem mD_La_law_210 : decode mB_La_law 210 = .ok (.aload_n 0, 1) := by decide +kernel
theorem mD_La_law_211 : decode mB_La_law 211 = .ok (.iload 4, 2) := by decide +kernel
theorem mD_La_law_213 : decode mB_La_law 213 = .ok (.iconst 1, 1) := by decide +kernel
theorem mD_La_law_214 : decode mB_La_law 214 = .ok (.iadd, 1) := by decide +kernel
theorem mD_La_law_215 : decode mB_La_law 215 = .ok (.iaload, 1) := by decide +kernel
theorem mD_La_law_216 : decode mB_La_law 216 = .ok (.aload_n 3, 1) := by decide +kernel
theorem mD_La_law_217 : decode mB_La_law 217 = .ok (.invokestatic 77, 3) := by decide +kernel
theorem mD_La_law_220 : decode mB_La_law 220 = .ok (.istore 5, 2) := by decide +kernel
theorem mD_La_law_222 : decode mB_La_law 222 = .ok (.aload_n 2, 1) := by decide +kernel
theorem mD_La_law_223 : decode mB_La_law 223 = .ok (.aload_n 0, 1) := by decide +kernel
theorem mD_La_law_224 : decode mB_La_law 224 = .ok (.iload 4, 2) := by decide +kernel
theorem mD_La_law_226 : decode mB_La_law 226 = .ok (.iconst 1, 1) := by decide +kernel
theorem mD_La_law_227 : decode mB_La_law 227 = .ok (.iadd, 1) := by decide +kernel
theorem mD_La_law_228 : decode mB_La_law 228 = .ok (.iaload, 1) := by decide +kernel
end
section
theorem mD_La_law_229 : decode mB_La_law 229 = .ok (.invokevirtual 80, 3) := by decide +kernel
theorem mD_La_law_232 : decode mB_La_law 232 = .ok (.istore 6, 2) := by decide +kernel
theorem mD_La_law_234 : decode mB_La_law 234 = .ok (.aload_n 2, 1) := by decide +kernel
theorem mD_La_law_235 : decode mB_La_law 235 = .ok (.invokevirtual 73, 3) := by decide +kernel
theorem mD_La_law_238 : decode mB_La_law 238 = .ok (.iload 5, 2) := by decide +kernel
theorem mD_La_law_240 : decode mB_La_law 240 = .ok (.if_icmp .eq 5, 3) := by decide +kernel
theorem mD_La_law_243 : decode mB_La_law 243 = .ok (.iconst 0, 1) := by decide +kernel
theorem mD_La_law_244 : decode mB_La_law 244 = .ok (.ireturn, 1) := by decide +kernel
theorem mD_La_law_245 : decode mB_La_law 245 = .ok (.iload 5, 2) := by decide +kernel
theorem mD_La_law_247 : decode mB_La_law 247 = .ok (.ifCond .ne 15, 3) := by decide +kernel
theorem mD_La_law_250 : decode mB_La_law 250 = .ok (.aload_n 3, 1) := by decide +kernel
theorem mD_La_law_251 : decode mB_La_law 251 = .ok (.iconst 0, 1) := by decide +kernel
theorem mD_La_law_252 : decode mB_La_law 252 = .ok (.laload, 1) := by decide +kernel
theorem mD_La_law_253 : decode mB_La_law 253 = .ok (.iload 6, 2) := by decide +kernel
theorem mD_La_law_255 : decode mB_La_law 255 = .ok (.i2l, 1) := by decide +kernel
theorem mD_La_law_256 : decode mB_La_law 256 = .ok (.lcmp, 1) := by decide +kernel
theorem mD_La_law_257 : decode mB_La_law 257 = .ok (.ifCond .eq 5, 3) := by decide +kernel
theorem mD_La_law_260 : decode mB_La_law 260 = .ok (.iconst 0, 1) := by decide +kernel
theorem mD_La_law_261 : decode mB_La_law 261 = .ok (.ireturn, 1) := by decide +kernel
theorem mD_La_law_262 : decode mB_La_law 262 = .ok (.goto 747, 3) := by decide +kernel
theorem mD_La_law_265 : decode mB_La_law 265 = .ok (.aload_n 1, 1) := by decide +kernel
theorem mD_La_law_266 : decode mB_La_law 266 = .ok (.aload_n 0, 1) := by decide +kernel
theorem mD_La_law_267 : decode mB_La_law 267 = .ok (.iload 4, 2) := by decide +kernel
theorem mD_La_law_269 : decode mB_La_law 269 = .ok (.iconst 1, 1) := by decide +kernel
theorem mD_La_law_270 : decode mB_La_law 270 = .ok (.iadd, 1) := by decide +kernel
theorem mD_La_law_271 : decode mB_La_law 271 = .ok (.iaload, 1) := by decide +kernel
theorem mD_La_law_272 : decode mB_La_law 272 = .ok (.aload_n 3, 1) := by decide +kernel
theorem mD_La_law_273 : decode mB_La_law 273 = .ok (.invokestatic 81, 3) := by decide +kernel
theorem mD_La_law_276 : decode mB_La_law 276 = .ok (.istore 5, 2) := by decide +kernel
theorem mD_La_law_278 : decode mB_La_law 278 = .ok (.aload_n 2, 1) := by decide +kernel
theorem mD_La_law_279 : decode mB_La_law 279 = .ok (.aload_n 0, 1) := by decide +kernel
theorem mD_La_law_280 : decode mB_La_law 280 = .ok (.iload 4, 2) := by decide +kernel
theorem mD_La_law_282 : decode mB_La_law 282 = .ok (.iconst 1, 1) := by decide +kernel
theorem mD_La_law_283 : decode mB_La_law 283 = .ok (.iadd, 1) := by decide +kernel
theorem mD_La_law_284 : decode mB_La_law 284 = .ok (.iaload, 1) := by decide +kernel
theorem mD_La_law_285 : decode mB_La_law 285 = .ok (.invokevirtual 83, 3) := by decide +kernel
theorem mD_La_law_288 : decode mB_La_law 288 = .ok (.istore 6, 2) := by decide +kernel
theorem mD_La_law_290 : decode mB_La_law 290 = .ok (.aload_n 2, 1) := by decide +kernel
theorem mD_La_law_291 : decode mB_La_law 291 = .ok (.invokevirtual 73, 3) := by decide +kernel
theorem mD_La_law_294 : decode mB_La_law 294 = .ok (.iload 5, 2) := by decide +kernel
theorem mD_La_law_296 : decode mB_La_law 296 = .ok (.if_icmp .eq 5, 3) := by decide +kernel
theorem mD_La_law_299 : decode mB_La_law 299 = .ok (.iconst 0, 1) := by decide +kernel
theorem mD_La_law_300 : decode mB_La_law 300 = .ok (.ireturn, 1) := by decide +kernel
theorem mD_La_law_301 : decode mB_La_law 301 = .ok (.iload 5, 2) := by decide +kernel
theorem mD_La_law_303 : decode mB_La_law 303 = .ok (.ifCond .ne 15, 3) := by decide +kernel
theorem mD_La_law_306 : decode mB_La_law 306 = .ok (.aload_n 3, 1) := by decide +kernel
theorem mD_La_law_307 : decode mB_La_law 307 = .ok (.iconst 0, 1) := by decide +kernel
theorem mD_La_law_308 : decode mB_La_law 308 = .ok (.laload, 1) := by decide +kernel
theorem mD_La_law_309 : decode mB_La_law 309 = .ok (.iload 6, 2) := by decide +kernel
theorem mD_La_law_311 : decode mB_La_law 311 = .ok (.i2l, 1) := by decide +kernel
theorem mD_La_law_312 : decode mB_La_law 312 = .ok (.lcmp, 1) := by decide +kernel
theorem mD_La_law_313 : decode mB_La_law 313 = .ok (.ifCond .eq 5, 3) := by decide +kernel
theorem mD_La_law_316 : decode mB_La_law 316 = .ok (.iconst 0, 1) := by decide +kernel
theorem mD_La_law_317 : decode mB_La_law 317 = .ok (.ireturn, 1) := by decide +kernel
theorem mD_La_law_318 : decode mB_La_law 318 = .ok (.goto 691, 3) := by decide +kernel
theorem mD_La_law_321 : decode mB_La_law 321 = .ok (.aload_n 1, 1) := by decide +kernel
theorem mD_La_law_322 : decode mB_La_law 322 = .ok (.aload_n 0, 1) := by decide +kernel
theorem mD_La_law_323 : decode mB_La_law 323 = .ok (.iload 4, 2) := by decide +kernel
theorem mD_La_law_325 : decode mB_La_law 325 = .ok (.iconst 1, 1) := by decide +kernel
theorem mD_La_law_326 : decode mB_La_law 326 = .ok (.iadd, 1) := by decide +kernel
theorem mD_La_law_327 : decode mB_La_law 327 = .ok (.iaload, 1) := by decide +kernel
theorem mD_La_law_328 : decode mB_La_law 328 = .ok (.aload_n 0, 1) := by decide +kernel
theorem mD_La_law_329 : decode mB_La_law 329 = .ok (.iload 4, 2) := by decide +kernel
theorem mD_La_law_331 : decode mB_La_law 331 = .ok (.iconst 2, 1) := by decide +kernel
theorem mD_La_law_332 : decode mB_La_law 332 = .ok (.iadd, 1) := by decide +kernel
theorem mD_La_law_333 : decode mB_La_law 333 = .ok (.iaload, 1) := by decide +kernel
theorem mD_La_law_334 : decode mB_La_law 334 = .ok (.aload_n 3, 1) := by decide +kernel
theorem mD_La_law_335 : decode mB_La_law 335 = .ok (.invokestatic 84, 3) := by decide +kernel
theorem mD_La_law_338 : decode mB_La_law 338 = .ok (.istore 5, 2) := by decide +kernel
theorem mD_La_law_340 : decode mB_La_law 340 = .ok (.aload_n 2, 1) := by decide +kernel
theorem mD_La_law_341 : decode mB_La_law 341 = .ok (.aload_n 0, 1) := by decide +kernel
theorem mD_La_law_342 : decode mB_La_law 342 = .ok (.iload 4, 2) := by decide +kernel
theorem mD_La_law_344 : decode mB_La_law 344 = .ok (.iconst 1, 1) := by decide +kernel
theorem mD_La_law_345 : decode mB_La_law 345 = .ok (.iadd, 1) := by decide +kernel
theorem mD_La_law_346 : decode mB_La_law 346 = .ok (.iaload, 1) := by decide +kernel
theorem mD_La_law_347 : decode mB_La_law 347 = .ok (.aload_n 0, 1) := by decide +kernel
theorem mD_La_law_348 : decode mB_La_law 348 = .ok (.iload 4, 2) := by decide +kernel
theorem mD_La_law_350 : decode mB_La_law 350 = .ok (.iconst 2, 1) := by decide +kernel
theorem mD_La_law_351 : decode mB_La_law 351 = .ok (.iadd, 1) := by decide +kernel
theorem mD_La_law_352 : decode mB_La_law 352 = .ok (.iaload, 1) := by decide +kernel
theorem mD_La_law_353 : decode mB_La_law 353 = .ok (.invokevirtual 87, 3) := by decide +kernel
theorem mD_La_law_356 : decode mB_La_law 356 = .ok (.istore 6, 2) := by decide +kernel
theorem mD_La_law_358 : decode mB_La_law 358 = .ok (.aload_n 2, 1) := by decide +kernel
theorem mD_La_law_359 : decode mB_La_law 359 = .ok (.invokevirtual 73, 3) := by decide +kernel
theorem mD_La_law_362 : decode mB_La_law 362 = .ok (.iload 5, 2) := by decide +kernel
theorem mD_La_law_364 : decode mB_La_law 364 = .ok (.if_icmp .eq 5, 3) := by decide +kernel
theorem mD_La_law_367 : decode mB_La_law 367 = .ok (.iconst 0, 1) := by decide +kernel
theorem mD_La_law_368 : decode mB_La_law 368 = .ok (.ireturn, 1) := by decide +kernel
theorem mD_La_law_369 : decode mB_La_law 369 = .ok (.iload 5, 2) := by decide +kernel
theorem mD_La_law_371 : decode mB_La_law 371 = .ok (.ifCond .ne 15, 3) := by decide +kernel
theorem mD_La_law_374 : decode mB_La_law 374 = .ok (.aload_n 3, 1) := by decide +kernel
theorem mD_La_law_375 : decode mB_La_law 375 = .ok (.iconst 0, 1) := by decide +kernel
theorem mD_La_law_376 : decode mB_La_law 376 = .ok (.laload, 1) := by decide +kernel
theorem mD_La_law_377 : decode mB_La_law 377 = .ok (.iload 6, 2) := by decide +kernel
theorem mD_La_law_379 : decode mB_La_law 379 = .ok (.i2l, 1) := by decide +kernel
theorem mD_La_law_380 : decode mB_La_law 380 = .ok (.lcmp, 1) := by decide +kernel
theorem mD_La_law_381 : decode mB_La_law 381 = .ok (.ifCond .eq 5, 3) := by decide +kernel
theorem mD_La_law_384 : decode mB_La_law 384 = .ok (.iconst 0, 1) := by decide +kernel
theorem mD_La_law_385 : decode mB_La_law 385 = .ok (.ireturn, 1) := by decide +kernel
theorem mD_La_law_386 : decode mB_La_law 386 = .ok (.goto 623, 3) := by decide +kernel
end
section
theorem mD_La_law_389 : decode mB_La_law 389 = .ok (.aload_n 1, 1) := by decide +kernel
theorem mD_La_law_390 : decode mB_La_law 390 = .ok (.aload_n 0, 1) := by decide +kernel
theorem mD_La_law_391 : decode mB_La_law 391 = .ok (.iload 4, 2) := by decide +kernel
theorem mD_La_law_393 : decode mB_La_law 393 = .ok (.iconst 1, 1) := by decide +kernel
theorem mD_La_law_394 : decode mB_La_law 394 = .ok (.iadd, 1) := by decide +kernel
theorem mD_La_law_395 : decode mB_La_law 395 = .ok (.iaload, 1) := by decide +kernel
theorem mD_La_law_396 : decode mB_La_law 396 = .ok (.aload_n 0, 1) := by decide +kernel
theorem mD_La_law_397 : decode mB_La_law 397 = .ok (.iload 4, 2) := by decide +kernel
theorem mD_La_law_399 : decode mB_La_law 399 = .ok (.iconst 2, 1) := by decide +kernel
theorem mD_La_law_400 : decode mB_La_law 400 = .ok (.iadd, 1) := by decide +kernel
theorem mD_La_law_401 : decode mB_La_law 401 = .ok (.iaload, 1) := by decide +kernel
theorem mD_La_law_402 : decode mB_La_law 402 = .ok (.aload_n 3, 1) := by decide +kernel
theorem mD_La_law_403 : decode mB_La_law 403 = .ok (.invokestatic 88, 3) := by decide +kernel
theorem mD_La_law_406 : decode mB_La_law 406 = .ok (.istore 5, 2) := by decide +kernel
theorem mD_La_law_408 : decode mB_La_law 408 = .ok (.aload_n 2, 1) := by decide +kernel
theorem mD_La_law_409 : decode mB_La_law 409 = .ok (.aload_n 0, 1) := by decide +kernel
theorem mD_La_law_410 : decode mB_La_law 410 = .ok (.iload 4, 2) := by decide +kernel
theorem mD_La_law_412 : decode mB_La_law 412 = .ok (.iconst 1, 1) := by decide +kernel
theorem mD_La_law_413 : decode mB_La_law 413 = .ok (.iadd, 1) := by decide +kernel
theorem mD_La_law_414 : decode mB_La_law 414 = .ok (.iaload, 1) := by decide +kernel
theorem mD_La_law_415 : decode mB_La_law 415 = .ok (.aload_n 0, 1) := by decide +kernel
theorem mD_La_law_416 : decode mB_La_law 416 = .ok (.iload 4, 2) := by decide +kernel
theorem mD_La_law_418 : decode mB_La_law 418 = .ok (.iconst 2, 1) := by decide +kernel
theorem mD_La_law_419 : decode mB_La_law 419 = .ok (.iadd, 1) := by decide +kernel
theorem mD_La_law_420 : decode mB_La_law 420 = .ok (.iaload, 1) := by decide +kernel
theorem mD_La_law_421 : decode mB_La_law 421 = .ok (.invokevirtual 90, 3) := by decide +kernel
theorem mD_La_law_424 : decode mB_La_law 424 = .ok (.istore 6, 2) := by decide +kernel
theorem mD_La_law_426 : decode mB_La_law 426 = .ok (.aload_n 2, 1) := by decide +kernel
theorem mD_La_law_427 : decode mB_La_law 427 = .ok (.invokevirtual 73, 3) := by decide +kernel
theorem mD_La_law_430 : decode mB_La_law 430 = .ok (.iload 5, 2) := by decide +kernel
theorem mD_La_law_432 : decode mB_La_law 432 = .ok (.if_icmp .eq 5, 3) := by decide +kernel
theorem mD_La_law_435 : decode mB_La_law 435 = .ok (.iconst 0, 1) := by decide +kernel
theorem mD_La_law_436 : decode mB_La_law 436 = .ok (.ireturn, 1) := by decide +kernel
theorem mD_La_law_437 : decode mB_La_law 437 = .ok (.iload 5, 2) := by decide +kernel
theorem mD_La_law_439 : decode mB_La_law 439 = .ok (.ifCond .ne 15, 3) := by decide +kernel
theorem mD_La_law_442 : decode mB_La_law 442 = .ok (.aload_n 3, 1) := by decide +kernel
theorem mD_La_law_443 : decode mB_La_law 443 = .ok (.iconst 0, 1) := by decide +kernel
theorem mD_La_law_444 : decode mB_La_law 444 = .ok (.laload, 1) := by decide +kernel
theorem mD_La_law_445 : decode mB_La_law 445 = .ok (.iload 6, 2) := by decide +kernel
theorem mD_La_law_447 : decode mB_La_law 447 = .ok (.i2l, 1) := by decide +kernel
theorem mD_La_law_448 : decode mB_La_law 448 = .ok (.lcmp, 1) := by decide +kernel
theorem mD_La_law_449 : decode mB_La_law 449 = .ok (.ifCond .eq 5, 3) := by decide +kernel
theorem mD_La_law_452 : decode mB_La_law 452 = .ok (.iconst 0, 1) := by decide +kernel
theorem mD_La_law_453 : decode mB_La_law 453 = .ok (.ireturn, 1) := by decide +kernel
theorem mD_La_law_454 : decode mB_La_law 454 = .ok (.goto 555, 3) := by decide +kernel
theorem mD_La_law_457 : decode mB_La_law 457 = .ok (.aload_n 1, 1) := by decide +kernel
theorem mD_La_law_458 : decode mB_La_law 458 = .ok (.aload_n 0, 1) := by decide +kernel
theorem mD_La_law_459 : decode mB_La_law 459 = .ok (.iload 4, 2) := by decide +kernel
theorem mD_La_law_461 : decode mB_La_law 461 = .ok (.iconst 1, 1) := by decide +kernel
theorem mD_La_law_462 : decode mB_La_law 462 = .ok (.iadd, 1) := by decide +kernel
theorem mD_La_law_463 : decode mB_La_law 463 = .ok (.iaload, 1) := by decide +kernel
theorem mD_La_law_464 : decode mB_La_law 464 = .ok (.aload_n 0, 1) := by decide +kernel
theorem mD_La_law_465 : decode mB_La_law 465 = .ok (.iload 4, 2) := by decide +kernel
theorem mD_La_law_467 : decode mB_La_law 467 = .ok (.iconst 2, 1) := by decide +kernel
theorem mD_La_law_468 : decode mB_La_law 468 = .ok (.iadd, 1) := by decide +kernel
theorem mD_La_law_469 : decode mB_La_law 469 = .ok (.iaload, 1) := by decide +kernel
theorem mD_La_law_470 : decode mB_La_law 470 = .ok (.aload_n 0, 1) := by decide +kernel
theorem mD_La_law_471 : decode mB_La_law 471 = .ok (.iload 4, 2) := by decide +kernel
theorem mD_La_law_473 : decode mB_La_law 473 = .ok (.iconst 3, 1) := by decide +kernel
theorem mD_La_law_474 : decode mB_La_law 474 = .ok (.iadd, 1) := by decide +kernel
theorem mD_La_law_475 : decode mB_La_law 475 = .ok (.iaload, 1) := by decide +kernel
theorem mD_La_law_476 : decode mB_La_law 476 = .ok (.aload_n 3, 1) := by decide +kernel
theorem mD_La_law_477 : decode mB_La_law 477 = .ok (.invokestatic 91, 3) := by decide +kernel
theorem mD_La_law_480 : decode mB_La_law 480 = .ok (.istore 5, 2) := by decide +kernel
theorem mD_La_law_482 : decode mB_La_law 482 = .ok (.aload_n 2, 1) := by decide +kernel
theorem mD_La_law_483 : decode mB_La_law 483 = .ok (.aload_n 0, 1) := by decide +kernel
theorem mD_La_law_484 : decode mB_La_law 484 = .ok (.iload 4, 2) := by decide +kernel
theorem mD_La_law_486 : decode mB_La_law 486 = .ok (.iconst 1, 1) := by decide +kernel
theorem mD_La_law_487 : decode mB_La_law 487 = .ok (.iadd, 1) := by decide +kernel
theorem mD_La_law_488 : decode mB_La_law 488 = .ok (.iaload, 1) := by decide +kernel
theorem mD_La_law_489 : decode mB_La_law 489 = .ok (.aload_n 0, 1) := by decide +kernel
theorem mD_La_law_490 : decode mB_La_law 490 = .ok (.iload 4, 2) := by decide +kernel
theorem mD_La_law_492 : decode mB_La_law 492 = .ok (.iconst 2, 1) := by decide +kernel
theorem mD_La_law_493 : decode mB_La_law 493 = .ok (.iadd, 1) := by decide +kernel
theorem mD_La_law_494 : decode mB_La_law 494 = .ok (.iaload, 1) := by decide +kernel
theorem mD_La_law_495 : decode mB_La_law 495 = .ok (.aload_n 0, 1) := by decide +kernel
theorem mD_La_law_496 : decode mB_La_law 496 = .ok (.iload 4, 2) := by decide +kernel
theorem mD_La_law_498 : decode mB_La_law 498 = .ok (.iconst 3, 1) := by decide +kernel
theorem mD_La_law_499 : decode mB_La_law 499 = .ok (.iadd, 1) := by decide +kernel
theorem mD_La_law_500 : decode mB_La_law 500 = .ok (.iaload, 1) := by decide +kernel
theorem mD_La_law_501 : decode mB_La_law 501 = .ok (.invokevirtual 94, 3) := by decide +kernel
theorem mD_La_law_504 : decode mB_La_law 504 = .ok (.istore 6, 2) := by decide +kernel
theorem mD_La_law_506 : decode mB_La_law 506 = .ok (.aload_n 2, 1) := by decide +kernel
theorem mD_La_law_507 : decode mB_La_law 507 = .ok (.invokevirtual 73, 3) := by decide +kernel
theorem mD_La_law_510 : decode mB_La_law 510 = .ok (.iload 5, 2) := by decide +kernel
theorem mD_La_law_512 : decode mB_La_law 512 = .ok (.if_icmp .eq 5, 3) := by decide +kernel
theorem mD_La_law_515 : decode mB_La_law 515 = .ok (.iconst 0, 1) := by decide +kernel
theorem mD_La_law_516 : decode mB_La_law 516 = .ok (.ireturn, 1) := by decide +kernel
theorem mD_La_law_517 : decode mB_La_law 517 = .ok (.iload 5, 2) := by decide +kernel
theorem mD_La_law_519 : decode mB_La_law 519 = .ok (.ifCond .ne 15, 3) := by decide +kernel
theorem mD_La_law_522 : decode mB_La_law 522 = .ok (.aload_n 3, 1) := by decide +kernel
theorem mD_La_law_523 : decode mB_La_law 523 = .ok (.iconst 0, 1) := by decide +kernel
theorem mD_La_law_524 : decode mB_La_law 524 = .ok (.laload, 1) := by decide +kernel
theorem mD_La_law_525 : decode mB_La_law 525 = .ok (.iload 6, 2) := by decide +kernel
theorem mD_La_law_527 : decode mB_La_law 527 = .ok (.i2l, 1) := by decide +kernel
theorem mD_La_law_528 : decode mB_La_law 528 = .ok (.lcmp, 1) := by decide +kernel
theorem mD_La_law_529 : decode mB_La_law 529 = .ok (.ifCond .eq 5, 3) := by decide +kernel
theorem mD_La_law_532 : decode mB_La_law 532 = .ok (.iconst 0, 1) := by decide +kernel
theorem mD_La_law_533 : decode mB_La_law 533 = .ok (.ireturn, 1) := by decide +kernel
theorem mD_La_law_534 : decode mB_La_law 534 = .ok (.goto 475, 3) := by decide +kernel
end
section
theorem mD_La_law_537 : decode mB_La_law 537 = .ok (.aload_n 1, 1) := by decide +kernel
theorem mD_La_law_538 : decode mB_La_law 538 = .ok (.aload_n 0, 1) := by decide +kernel
theorem mD_La_law_539 : decode mB_La_law 539 = .ok (.iload 4, 2) := by decide +kernel
theorem mD_La_law_541 : decode mB_La_law 541 = .ok (.iconst 1, 1) := by decide +kernel
theorem mD_La_law_542 : decode mB_La_law 542 = .ok (.iadd, 1) := by decide +kernel
theorem mD_La_law_543 : decode mB_La_law 543 = .ok (.iaload, 1) := by decide +kernel
theorem mD_La_law_544 : decode mB_La_law 544 = .ok (.aload_n 0, 1) := by decide +kernel
theorem mD_La_law_545 : decode mB_La_law 545 = .ok (.iload 4, 2) := by decide +kernel
theorem mD_La_law_547 : decode mB_La_law 547 = .ok (.iconst 2, 1) := by decide +kernel
theorem mD_La_law_548 : decode mB_La_law 548 = .ok (.iadd, 1) := by decide +kernel
theorem mD_La_law_549 : decode mB_La_law 549 = .ok (.iaload, 1) := by decide +kernel
theorem mD_La_law_550 : decode mB_La_law 550 = .ok (.aload_n 0, 1) := by decide +kernel
theorem mD_La_law_551 : decode mB_La_law 551 = .ok (.iload 4, 2) := by decide +kernel
theorem mD_La_law_553 : decode mB_La_law 553 = .ok (.iconst 3, 1) := by decide +kernel
theorem mD_La_law_554 : decode mB_La_law 554 = .ok (.iadd, 1) := by decide +kernel
theorem mD_La_law_555 : decode mB_La_law 555 = .ok (.iaload, 1) := by decide +kernel
theorem mD_La_law_556 : decode mB_La_law 556 = .ok (.aload_n 3, 1) := by decide +kernel
theorem mD_La_law_557 : decode mB_La_law 557 = .ok (.invokestatic 95, 3) := by decide +kernel
theorem mD_La_law_560 : decode mB_La_law 560 = .ok (.istore 5, 2) := by decide +kernel
theorem mD_La_law_562 : decode mB_La_law 562 = .ok (.aload_n 2, 1) := by decide +kernel
theorem mD_La_law_563 : decode mB_La_law 563 = .ok (.aload_n 0, 1) := by decide +kernel
theorem mD_La_law_564 : decode mB_La_law 564 = .ok (.iload 4, 2) := by decide +kernel
theorem mD_La_law_566 : decode mB_La_law 566 = .ok (.iconst 1, 1) := by decide +kernel
theorem mD_La_law_567 : decode mB_La_law 567 = .ok (.iadd, 1) := by decide +kernel
theorem mD_La_law_568 : decode mB_La_law 568 = .ok (.iaload, 1) := by decide +kernel
theorem mD_La_law_569 : decode mB_La_law 569 = .ok (.aload_n 0, 1) := by decide +kernel
theorem mD_La_law_570 : decode mB_La_law 570 = .ok (.iload 4, 2) := by decide +kernel
theorem mD_La_law_572 : decode mB_La_law 572 = .ok (.iconst 2, 1) := by decide +kernel
theorem mD_La_law_573 : decode mB_La_law 573 = .ok (.iadd, 1) := by decide +kernel
theorem mD_La_law_574 : decode mB_La_law 574 = .ok (.iaload, 1) := by decide +kernel
theorem mD_La_law_575 : decode mB_La_law 575 = .ok (.aload_n 0, 1) := by decide +kernel
theorem mD_La_law_576 : decode mB_La_law 576 = .ok (.iload 4, 2) := by decide +kernel
theorem mD_La_law_578 : decode mB_La_law 578 = .ok (.iconst 3, 1) := by decide +kernel
theorem mD_La_law_579 : decode mB_La_law 579 = .ok (.iadd, 1) := by decide +kernel
theorem mD_La_law_580 : decode mB_La_law 580 = .ok (.iaload, 1) := by decide +kernel
theorem mD_La_law_581 : decode mB_La_law 581 = .ok (.invokevirtual 97, 3) := by decide +kernel
theorem mD_La_law_584 : decode mB_La_law 584 = .ok (.istore 6, 2) := by decide +kernel
theorem mD_La_law_586 : decode mB_La_law 586 = .ok (.aload_n 2, 1) := by decide +kernel
theorem mD_La_law_587 : decode mB_La_law 587 = .ok (.invokevirtual 73, 3) := by decide +kernel
theorem mD_La_law_590 : decode mB_La_law 590 = .ok (.iload 5, 2) := by decide +kernel
theorem mD_La_law_592 : decode mB_La_law 592 = .ok (.if_icmp .eq 5, 3) := by decide +kernel
theorem mD_La_law_595 : decode mB_La_law 595 = .ok (.iconst 0, 1) := by decide +kernel
theorem mD_La_law_596 : decode mB_La_law 596 = .ok (.ireturn, 1) := by decide +kernel
theorem mD_La_law_597 : decode mB_La_law 597 = .ok (.iload 5, 2) := by decide +kernel
theorem mD_La_law_599 : decode mB_La_law 599 = .ok (.ifCond .ne 15, 3) := by decide +kernel
theorem mD_La_law_602 : decode mB_La_law 602 = .ok (.aload_n 3, 1) := by decide +kernel
theorem mD_La_law_603 : decode mB_La_law 603 = .ok (.iconst 0, 1) := by decide +kernel
theorem mD_La_law_604 : decode mB_La_law 604 = .ok (.laload, 1) := by decide +kernel
theorem mD_La_law_605 : decode mB_La_law 605 = .ok (.iload 6, 2) := by decide +kernel
theorem mD_La_law_607 : decode mB_La_law 607 = .ok (.i2l, 1) := by decide +kernel
theorem mD_La_law_608 : decode mB_La_law 608 = .ok (.lcmp, 1) := by decide +kernel
theorem mD_La_law_609 : decode mB_La_law 609 = .ok (.ifCond .eq 5, 3) := by decide +kernel
theorem mD_La_law_612 : decode mB_La_law 612 = .ok (.iconst 0, 1) := by decide +kernel
theorem mD_La_law_613 : decode mB_La_law 613 = .ok (.ireturn, 1) := by decide +kernel
theorem mD_La_law_614 : decode mB_La_law 614 = .ok (.goto 395, 3) := by decide +kernel
theorem mD_La_law_617 : decode mB_La_law 617 = .ok (.aload_n 1, 1) := by decide +kernel
theorem mD_La_law_618 : decode mB_La_law 618 = .ok (.aload_n 0, 1) := by decide +kernel
theorem mD_La_law_619 : decode mB_La_law 619 = .ok (.iload 4, 2) := by decide +kernel
theorem mD_La_law_621 : decode mB_La_law 621 = .ok (.iconst 1, 1) := by decide +kernel
theorem mD_La_law_622 : decode mB_La_law 622 = .ok (.iadd, 1) := by decide +kernel
theorem mD_La_law_623 : decode mB_La_law 623 = .ok (.iaload, 1) := by decide +kernel
theorem mD_La_law_624 : decode mB_La_law 624 = .ok (.aload_n 3, 1) := by decide +kernel
theorem mD_La_law_625 : decode mB_La_law 625 = .ok (.invokestatic 98, 3) := by decide +kernel
theorem mD_La_law_628 : decode mB_La_law 628 = .ok (.istore 5, 2) := by decide +kernel
theorem mD_La_law_630 : decode mB_La_law 630 = .ok (.aload_n 2, 1) := by decide +kernel
theorem mD_La_law_631 : decode mB_La_law 631 = .ok (.aload_n 0, 1) := by decide +kernel
theorem mD_La_law_632 : decode mB_La_law 632 = .ok (.iload 4, 2) := by decide +kernel
theorem mD_La_law_634 : decode mB_La_law 634 = .ok (.iconst 1, 1) := by decide +kernel
theorem mD_La_law_635 : decode mB_La_law 635 = .ok (.iadd, 1) := by decide +kernel
theorem mD_La_law_636 : decode mB_La_law 636 = .ok (.iaload, 1) := by decide +kernel
theorem mD_La_law_637 : decode mB_La_law 637 = .ok (.invokevirtual 100, 3) := by decide +kernel
theorem mD_La_law_640 : decode mB_La_law 640 = .ok (.istore 6, 2) := by decide +kernel
theorem mD_La_law_642 : decode mB_La_law 642 = .ok (.aload_n 2, 1) := by decide +kernel
theorem mD_La_law_643 : decode mB_La_law 643 = .ok (.invokevirtual 73, 3) := by decide +kernel
theorem mD_La_law_646 : decode mB_La_law 646 = .ok (.iload 5, 2) := by decide +kernel
theorem mD_La_law_648 : decode mB_La_law 648 = .ok (.if_icmp .eq 5, 3) := by decide +kernel
theorem mD_La_law_651 : decode mB_La_law 651 = .ok (.iconst 0, 1) := by decide +kernel
theorem mD_La_law_652 : decode mB_La_law 652 = .ok (.ireturn, 1) := by decide +kernel
theorem mD_La_law_653 : decode mB_La_law 653 = .ok (.iload 5, 2) := by decide +kernel
theorem mD_La_law_655 : decode mB_La_law 655 = .ok (.ifCond .ne 15, 3) := by decide +kernel
theorem mD_La_law_658 : decode mB_La_law 658 = .ok (.aload_n 3, 1) := by decide +kernel
theorem mD_La_law_659 : decode mB_La_law 659 = .ok (.iconst 0, 1) := by decide +kernel
theorem mD_La_law_660 : decode mB_La_law 660 = .ok (.laload, 1) := by decide +kernel
theorem mD_La_law_661 : decode mB_La_law 661 = .ok (.iload 6, 2) := by decide +kernel
theorem mD_La_law_663 : decode mB_La_law 663 = .ok (.i2l, 1) := by decide +kernel
theorem mD_La_law_664 : decode mB_La_law 664 = .ok (.lcmp, 1) := by decide +kernel
theorem mD_La_law_665 : decode mB_La_law 665 = .ok (.ifCond .eq 5, 3) := by decide +kernel
theorem mD_La_law_668 : decode mB_La_law 668 = .ok (.iconst 0, 1) := by decide +kernel
theorem mD_La_law_669 : decode mB_La_law 669 = .ok (.ireturn, 1) := by decide +kernel
theorem mD_La_law_670 : decode mB_La_law 670 = .ok (.goto 339, 3) := by decide +kernel
theorem mD_La_law_673 : decode mB_La_law 673 = .ok (.aload_n 1, 1) := by decide +kernel
theorem mD_La_law_674 : decode mB_La_law 674 = .ok (.aload_n 0, 1) := by decide +kernel
theorem mD_La_law_675 : decode mB_La_law 675 = .ok (.iload 4, 2) := by decide +kernel
theorem mD_La_law_677 : decode mB_La_law 677 = .ok (.iconst 1, 1) := by decide +kernel
theorem mD_La_law_678 : decode mB_La_law 678 = .ok (.iadd, 1) := by decide +kernel
theorem mD_La_law_679 : decode mB_La_law 679 = .ok (.iaload, 1) := by decide +kernel
theorem mD_La_law_680 : decode mB_La_law 680 = .ok (.aload_n 3, 1) := by decide +kernel
theorem mD_La_law_681 : decode mB_La_law 681 = .ok (.invokestatic 101, 3) := by decide +kernel
theorem mD_La_law_684 : decode mB_La_law 684 = .ok (.istore 5, 2) := by decide +kernel
theorem mD_La_law_686 : decode mB_La_law 686 = .ok (.aload_n 2, 1) := by decide +kernel
end
section
theorem mD_La_law_687 : decode mB_La_law 687 = .ok (.aload_n 0, 1) := by decide +kernel
theorem mD_La_law_688 : decode mB_La_law 688 = .ok (.iload 4, 2) := by decide +kernel
theorem mD_La_law_690 : decode mB_La_law 690 = .ok (.iconst 1, 1) := by decide +kernel
theorem mD_La_law_691 : decode mB_La_law 691 = .ok (.iadd, 1) := by decide +kernel
theorem mD_La_law_692 : decode mB_La_law 692 = .ok (.iaload, 1) := by decide +kernel
theorem mD_La_law_693 : decode mB_La_law 693 = .ok (.invokevirtual 103, 3) := by decide +kernel
theorem mD_La_law_696 : decode mB_La_law 696 = .ok (.istore 6, 2) := by decide +kernel
theorem mD_La_law_698 : decode mB_La_law 698 = .ok (.aload_n 2, 1) := by decide +kernel
theorem mD_La_law_699 : decode mB_La_law 699 = .ok (.invokevirtual 73, 3) := by decide +kernel
theorem mD_La_law_702 : decode mB_La_law 702 = .ok (.iload 5, 2) := by decide +kernel
theorem mD_La_law_704 : decode mB_La_law 704 = .ok (.if_icmp .eq 5, 3) := by decide +kernel
theorem mD_La_law_707 : decode mB_La_law 707 = .ok (.iconst 0, 1) := by decide +kernel
theorem mD_La_law_708 : decode mB_La_law 708 = .ok (.ireturn, 1) := by decide +kernel
theorem mD_La_law_709 : decode mB_La_law 709 = .ok (.iload 5, 2) := by decide +kernel
theorem mD_La_law_711 : decode mB_La_law 711 = .ok (.ifCond .ne 15, 3) := by decide +kernel
theorem mD_La_law_714 : decode mB_La_law 714 = .ok (.aload_n 3, 1) := by decide +kernel
theorem mD_La_law_715 : decode mB_La_law 715 = .ok (.iconst 0, 1) := by decide +kernel
theorem mD_La_law_716 : decode mB_La_law 716 = .ok (.laload, 1) := by decide +kernel
theorem mD_La_law_717 : decode mB_La_law 717 = .ok (.iload 6, 2) := by decide +kernel
theorem mD_La_law_719 : decode mB_La_law 719 = .ok (.i2l, 1) := by decide +kernel
theorem mD_La_law_720 : decode mB_La_law 720 = .ok (.lcmp, 1) := by decide +kernel
theorem mD_La_law_721 : decode mB_La_law 721 = .ok (.ifCond .eq 5, 3) := by decide +kernel
theorem mD_La_law_724 : decode mB_La_law 724 = .ok (.iconst 0, 1) := by decide +kernel
theorem mD_La_law_725 : decode mB_La_law 725 = .ok (.ireturn, 1) := by decide +kernel
theorem mD_La_law_726 : decode mB_La_law 726 = .ok (.goto 283, 3) := by decide +kernel
theorem mD_La_law_729 : decode mB_La_law 729 = .ok (.aload_n 1, 1) := by decide +kernel
theorem mD_La_law_730 : decode mB_La_law 730 = .ok (.aload_n 0, 1) := by decide +kernel
theorem mD_La_law_731 : decode mB_La_law 731 = .ok (.iload 4, 2) := by decide +kernel
theorem mD_La_law_733 : decode mB_La_law 733 = .ok (.iconst 1, 1) := by decide +kernel
theorem mD_La_law_734 : decode mB_La_law 734 = .ok (.iadd, 1) := by decide +kernel
theorem mD_La_law_735 : decode mB_La_law 735 = .ok (.iaload, 1) := by decide +kernel
theorem mD_La_law_736 : decode mB_La_law 736 = .ok (.aload_n 3, 1) := by decide +kernel
theorem mD_La_law_737 : decode mB_La_law 737 = .ok (.invokestatic 104, 3) := by decide +kernel
theorem mD_La_law_740 : decode mB_La_law 740 = .ok (.istore 5, 2) := by decide +kernel
theorem mD_La_law_742 : decode mB_La_law 742 = .ok (.aload_n 2, 1) := by decide +kernel
theorem mD_La_law_743 : decode mB_La_law 743 = .ok (.aload_n 0, 1) := by decide +kernel
theorem mD_La_law_744 : decode mB_La_law 744 = .ok (.iload 4, 2) := by decide +kernel
theorem mD_La_law_746 : decode mB_La_law 746 = .ok (.iconst 1, 1) := by decide +kernel
theorem mD_La_law_747 : decode mB_La_law 747 = .ok (.iadd, 1) := by decide +kernel
theorem mD_La_law_748 : decode mB_La_law 748 = .ok (.iaload, 1) := by decide +kernel
theorem mD_La_law_749 : decode mB_La_law 749 = .ok (.invokevirtual 106, 3) := by decide +kernel
theorem mD_La_law_752 : decode mB_La_law 752 = .ok (.istore 6, 2) := by decide +kernel
theorem mD_La_law_754 : decode mB_La_law 754 = .ok (.aload_n 2, 1) := by decide +kernel
theorem mD_La_law_755 : decode mB_La_law 755 = .ok (.invokevirtual 73, 3) := by decide +kernel
theorem mD_La_law_758 : decode mB_La_law 758 = .ok (.iload 5, 2) := by decide +kernel
theorem mD_La_law_760 : decode mB_La_law 760 = .ok (.if_icmp .eq 5, 3) := by decide +kernel
theorem mD_La_law_763 : decode mB_La_law 763 = .ok (.iconst 0, 1) := by decide +kernel
theorem mD_La_law_764 : decode mB_La_law 764 = .ok (.ireturn, 1) := by decide +kernel
theorem mD_La_law_765 : decode mB_La_law 765 = .ok (.iload 5, 2) := by decide +kernel
theorem mD_La_law_767 : decode mB_La_law 767 = .ok (.ifCond .ne 22, 3) := by decide +kernel
theorem mD_La_law_770 : decode mB_La_law 770 = .ok (.aload_n 3, 1) := by decide +kernel
theorem mD_La_law_771 : decode mB_La_law 771 = .ok (.iconst 0, 1) := by decide +kernel
theorem mD_La_law_772 : decode mB_La_law 772 = .ok (.laload, 1) := by decide +kernel
theorem mD_La_law_773 : decode mB_La_law 773 = .ok (.iload 6, 2) := by decide +kernel
theorem mD_La_law_775 : decode mB_La_law 775 = .ok (.ifCond .eq 7, 3) := by decide +kernel
theorem mD_La_law_778 : decode mB_La_law 778 = .ok (.lconst 1, 1) := by decide +kernel
theorem mD_La_law_779 : decode mB_La_law 779 = .ok (.goto 4, 3) := by decide +kernel
theorem mD_La_law_782 : decode mB_La_law 782 = .ok (.lconst 0, 1) := by decide +kernel
theorem mD_La_law_783 : decode mB_La_law 783 = .ok (.lcmp, 1) := by decide +kernel
theorem mD_La_law_784 : decode mB_La_law 784 = .ok (.ifCond .eq 5, 3) := by decide +kernel
theorem mD_La_law_787 : decode mB_La_law 787 = .ok (.iconst 0, 1) := by decide +kernel
theorem mD_La_law_788 : decode mB_La_law 788 = .ok (.ireturn, 1) := by decide +kernel
theorem mD_La_law_789 : decode mB_La_law 789 = .ok (.goto 220, 3) := by decide +kernel
theorem mD_La_law_792 : decode mB_La_law 792 = .ok (.aload_n 1, 1) := by decide +kernel
theorem mD_La_law_793 : decode mB_La_law 793 = .ok (.aload_n 0, 1) := by decide +kernel
theorem mD_La_law_794 : decode mB_La_law 794 = .ok (.iload 4, 2) := by decide +kernel
theorem mD_La_law_796 : decode mB_La_law 796 = .ok (.iconst 1, 1) := by decide +kernel
theorem mD_La_law_797 : decode mB_La_law 797 = .ok (.iadd, 1) := by decide +kernel
theorem mD_La_law_798 : decode mB_La_law 798 = .ok (.iaload, 1) := by decide +kernel
theorem mD_La_law_799 : decode mB_La_law 799 = .ok (.aload_n 0, 1) := by decide +kernel
theorem mD_La_law_800 : decode mB_La_law 800 = .ok (.iload 4, 2) := by decide +kernel
theorem mD_La_law_802 : decode mB_La_law 802 = .ok (.iconst 2, 1) := by decide +kernel
theorem mD_La_law_803 : decode mB_La_law 803 = .ok (.iadd, 1) := by decide +kernel
theorem mD_La_law_804 : decode mB_La_law 804 = .ok (.iaload, 1) := by decide +kernel
theorem mD_La_law_805 : decode mB_La_law 805 = .ok (.aload_n 0, 1) := by decide +kernel
theorem mD_La_law_806 : decode mB_La_law 806 = .ok (.iload 4, 2) := by decide +kernel
theorem mD_La_law_808 : decode mB_La_law 808 = .ok (.iconst 3, 1) := by decide +kernel
theorem mD_La_law_809 : decode mB_La_law 809 = .ok (.iadd, 1) := by decide +kernel
theorem mD_La_law_810 : decode mB_La_law 810 = .ok (.iaload, 1) := by decide +kernel
theorem mD_La_law_811 : decode mB_La_law 811 = .ok (.aload_n 3, 1) := by decide +kernel
theorem mD_La_law_812 : decode mB_La_law 812 = .ok (.invokestatic 107, 3) := by decide +kernel
theorem mD_La_law_815 : decode mB_La_law 815 = .ok (.istore 5, 2) := by decide +kernel
theorem mD_La_law_817 : decode mB_La_law 817 = .ok (.aload_n 2, 1) := by decide +kernel
theorem mD_La_law_818 : decode mB_La_law 818 = .ok (.aload_n 0, 1) := by decide +kernel
theorem mD_La_law_819 : decode mB_La_law 819 = .ok (.iload 4, 2) := by decide +kernel
theorem mD_La_law_821 : decode mB_La_law 821 = .ok (.iconst 1, 1) := by decide +kernel
theorem mD_La_law_822 : decode mB_La_law 822 = .ok (.iadd, 1) := by decide +kernel
theorem mD_La_law_823 : decode mB_La_law 823 = .ok (.iaload, 1) := by decide +kernel
theorem mD_La_law_824 : decode mB_La_law 824 = .ok (.aload_n 0, 1) := by decide +kernel
theorem mD_La_law_825 : decode mB_La_law 825 = .ok (.iload 4, 2) := by decide +kernel
theorem mD_La_law_827 : decode mB_La_law 827 = .ok (.iconst 2, 1) := by decide +kernel
theorem mD_La_law_828 : decode mB_La_law 828 = .ok (.iadd, 1) := by decide +kernel
theorem mD_La_law_829 : decode mB_La_law 829 = .ok (.iaload, 1) := by decide +kernel
theorem mD_La_law_830 : decode mB_La_law 830 = .ok (.aload_n 0, 1) := by decide +kernel
theorem mD_La_law_831 : decode mB_La_law 831 = .ok (.iload 4, 2) := by decide +kernel
theorem mD_La_law_833 : decode mB_La_law 833 = .ok (.iconst 3, 1) := by decide +kernel
theorem mD_La_law_834 : decode mB_La_law 834 = .ok (.iadd, 1) := by decide +kernel
theorem mD_La_law_835 : decode mB_La_law 835 = .ok (.iaload, 1) := by decide +kernel
theorem mD_La_law_836 : decode mB_La_law 836 = .ok (.invokevirtual 109, 3) := by decide +kernel
theorem mD_La_law_839 : decode mB_La_law 839 = .ok (.istore 6, 2) := by decide +kernel
end
section
theorem mD_La_law_841 : decode mB_La_law 841 = .ok (.aload_n 2, 1) := by decide +kernel
theorem mD_La_law_842 : decode mB_La_law 842 = .ok (.invokevirtual 73, 3) := by decide +kernel
theorem mD_La_law_845 : decode mB_La_law 845 = .ok (.iload 5, 2) := by decide +kernel
theorem mD_La_law_847 : decode mB_La_law 847 = .ok (.if_icmp .eq 5, 3) := by decide +kernel
theorem mD_La_law_850 : decode mB_La_law 850 = .ok (.iconst 0, 1) := by decide +kernel
theorem mD_La_law_851 : decode mB_La_law 851 = .ok (.ireturn, 1) := by decide +kernel
theorem mD_La_law_852 : decode mB_La_law 852 = .ok (.iload 5, 2) := by decide +kernel
theorem mD_La_law_854 : decode mB_La_law 854 = .ok (.ifCond .ne 15, 3) := by decide +kernel
theorem mD_La_law_857 : decode mB_La_law 857 = .ok (.aload_n 3, 1) := by decide +kernel
theorem mD_La_law_858 : decode mB_La_law 858 = .ok (.iconst 0, 1) := by decide +kernel
theorem mD_La_law_859 : decode mB_La_law 859 = .ok (.laload, 1) := by decide +kernel
theorem mD_La_law_860 : decode mB_La_law 860 = .ok (.iload 6, 2) := by decide +kernel
theorem mD_La_law_862 : decode mB_La_law 862 = .ok (.i2l, 1) := by decide +kernel
theorem mD_La_law_863 : decode mB_La_law 863 = .ok (.lcmp, 1) := by decide +kernel
theorem mD_La_law_864 : decode mB_La_law 864 = .ok (.ifCond .eq 5, 3) := by decide +kernel
theorem mD_La_law_867 : decode mB_La_law 867 = .ok (.iconst 0, 1) := by decide +kernel
theorem mD_La_law_868 : decode mB_La_law 868 = .ok (.ireturn, 1) := by decide +kernel
theorem mD_La_law_869 : decode mB_La_law 869 = .ok (.goto 140, 3) := by decide +kernel
theorem mD_La_law_872 : decode mB_La_law 872 = .ok (.aload_n 1, 1) := by decide +kernel
theorem mD_La_law_873 : decode mB_La_law 873 = .ok (.aload_n 0, 1) := by decide +kernel
theorem mD_La_law_874 : decode mB_La_law 874 = .ok (.iload 4, 2) := by decide +kernel
theorem mD_La_law_876 : decode mB_La_law 876 = .ok (.iconst 1, 1) := by decide +kernel
theorem mD_La_law_877 : decode mB_La_law 877 = .ok (.iadd, 1) := by decide +kernel
theorem mD_La_law_878 : decode mB_La_law 878 = .ok (.iaload, 1) := by decide +kernel
theorem mD_La_law_879 : decode mB_La_law 879 = .ok (.aload_n 0, 1) := by decide +kernel
theorem mD_La_law_880 : decode mB_La_law 880 = .ok (.iload 4, 2) := by decide +kernel
theorem mD_La_law_882 : decode mB_La_law 882 = .ok (.iconst 2, 1) := by decide +kernel
theorem mD_La_law_883 : decode mB_La_law 883 = .ok (.iadd, 1) := by decide +kernel
theorem mD_La_law_884 : decode mB_La_law 884 = .ok (.iaload, 1) := by decide +kernel
theorem mD_La_law_885 : decode mB_La_law 885 = .ok (.aload_n 3, 1) := by decide +kernel
theorem mD_La_law_886 : decode mB_La_law 886 = .ok (.invokestatic 110, 3) := by decide +kernel
theorem mD_La_law_889 : decode mB_La_law 889 = .ok (.istore 5, 2) := by decide +kernel
theorem mD_La_law_891 : decode mB_La_law 891 = .ok (.aload_n 2, 1) := by decide +kernel
theorem mD_La_law_892 : decode mB_La_law 892 = .ok (.aload_n 0, 1) := by decide +kernel
theorem mD_La_law_893 : decode mB_La_law 893 = .ok (.iload 4, 2) := by decide +kernel
theorem mD_La_law_895 : decode mB_La_law 895 = .ok (.iconst 1, 1) := by decide +kernel
theorem mD_La_law_896 : decode mB_La_law 896 = .ok (.iadd, 1) := by decide +kernel
theorem mD_La_law_897 : decode mB_La_law 897 = .ok (.iaload, 1) := by decide +kernel
theorem mD_La_law_898 : decode mB_La_law 898 = .ok (.aload_n 0, 1) := by decide +kernel
theorem mD_La_law_899 : decode mB_La_law 899 = .ok (.iload 4, 2) := by decide +kernel
theorem mD_La_law_901 : decode mB_La_law 901 = .ok (.iconst 2, 1) := by decide +kernel
theorem mD_La_law_902 : decode mB_La_law 902 = .ok (.iadd, 1) := by decide +kernel
theorem mD_La_law_903 : decode mB_La_law 903 = .ok (.iaload, 1) := by decide +kernel
theorem mD_La_law_904 : decode mB_La_law 904 = .ok (.invokevirtual 112, 3) := by decide +kernel
theorem mD_La_law_907 : decode mB_La_law 907 = .ok (.istore 6, 2) := by decide +kernel
theorem mD_La_law_909 : decode mB_La_law 909 = .ok (.aload_n 2, 1) := by decide +kernel
theorem mD_La_law_910 : decode mB_La_law 910 = .ok (.invokevirtual 73, 3) := by decide +kernel
theorem mD_La_law_913 : decode mB_La_law 913 = .ok (.iload 5, 2) := by decide +kernel
theorem mD_La_law_915 : decode mB_La_law 915 = .ok (.if_icmp .eq 5, 3) := by decide +kernel
theorem mD_La_law_918 : decode mB_La_law 918 = .ok (.iconst 0, 1) := by decide +kernel
theorem mD_La_law_919 : decode mB_La_law 919 = .ok (.ireturn, 1) := by decide +kernel
theorem mD_La_law_920 : decode mB_La_law 920 = .ok (.iload 5, 2) := by decide +kernel
theorem mD_La_law_922 : decode mB_La_law 922 = .ok (.ifCond .ne 15, 3) := by decide +kernel
theorem mD_La_law_925 : decode mB_La_law 925 = .ok (.aload_n 3, 1) := by decide +kernel
theorem mD_La_law_926 : decode mB_La_law 926 = .ok (.iconst 0, 1) := by decide +kernel
theorem mD_La_law_927 : decode mB_La_law 927 = .ok (.laload, 1) := by decide +kernel
theorem mD_La_law_928 : decode mB_La_law 928 = .ok (.iload 6, 2) := by decide +kernel
theorem mD_La_law_930 : decode mB_La_law 930 = .ok (.i2l, 1) := by decide +kernel
theorem mD_La_law_931 : decode mB_La_law 931 = .ok (.lcmp, 1) := by decide +kernel
theorem mD_La_law_932 : decode mB_La_law 932 = .ok (.ifCond .eq 5, 3) := by decide +kernel
theorem mD_La_law_935 : decode mB_La_law 935 = .ok (.iconst 0, 1) := by decide +kernel
theorem mD_La_law_936 : decode mB_La_law 936 = .ok (.ireturn, 1) := by decide +kernel
theorem mD_La_law_937 : decode mB_La_law 937 = .ok (.goto 72, 3) := by decide +kernel
theorem mD_La_law_940 : decode mB_La_law 940 = .ok (.aload_n 1, 1) := by decide +kernel
theorem mD_La_law_941 : decode mB_La_law 941 = .ok (.invokevirtual 113, 3) := by decide +kernel
theorem mD_La_law_944 : decode mB_La_law 944 = .ok (.aload_n 2, 1) := by decide +kernel
theorem mD_La_law_945 : decode mB_La_law 945 = .ok (.invokevirtual 116, 3) := by decide +kernel
theorem mD_La_law_948 : decode mB_La_law 948 = .ok (.if_icmp .eq 61, 3) := by decide +kernel
theorem mD_La_law_951 : decode mB_La_law 951 = .ok (.iconst 0, 1) := by decide +kernel
theorem mD_La_law_952 : decode mB_La_law 952 = .ok (.ireturn, 1) := by decide +kernel
theorem mD_La_law_953 : decode mB_La_law 953 = .ok (.aload_n 1, 1) := by decide +kernel
theorem mD_La_law_954 : decode mB_La_law 954 = .ok (.aload_n 0, 1) := by decide +kernel
theorem mD_La_law_955 : decode mB_La_law 955 = .ok (.iload 4, 2) := by decide +kernel
theorem mD_La_law_957 : decode mB_La_law 957 = .ok (.iconst 1, 1) := by decide +kernel
theorem mD_La_law_958 : decode mB_La_law 958 = .ok (.iadd, 1) := by decide +kernel
theorem mD_La_law_959 : decode mB_La_law 959 = .ok (.iaload, 1) := by decide +kernel
theorem mD_La_law_960 : decode mB_La_law 960 = .ok (.aload_n 3, 1) := by decide +kernel
theorem mD_La_law_961 : decode mB_La_law 961 = .ok (.invokestatic 117, 3) := by decide +kernel
theorem mD_La_law_964 : decode mB_La_law 964 = .ok (.istore 5, 2) := by decide +kernel
theorem mD_La_law_966 : decode mB_La_law 966 = .ok (.aload_n 2, 1) := by decide +kernel
theorem mD_La_law_967 : decode mB_La_law 967 = .ok (.aload_n 0, 1) := by decide +kernel
theorem mD_La_law_968 : decode mB_La_law 968 = .ok (.iload 4, 2) := by decide +kernel
theorem mD_La_law_970 : decode mB_La_law 970 = .ok (.iconst 1, 1) := by decide +kernel
theorem mD_La_law_971 : decode mB_La_law 971 = .ok (.iadd, 1) := by decide +kernel
theorem mD_La_law_972 : decode mB_La_law 972 = .ok (.iaload, 1) := by decide +kernel
theorem mD_La_law_973 : decode mB_La_law 973 = .ok (.invokevirtual 119, 3) := by decide +kernel
theorem mD_La_law_976 : decode mB_La_law 976 = .ok (.istore 6, 2) := by decide +kernel
theorem mD_La_law_978 : decode mB_La_law 978 = .ok (.aload_n 2, 1) := by decide +kernel
theorem mD_La_law_979 : decode mB_La_law 979 = .ok (.invokevirtual 73, 3) := by decide +kernel
theorem mD_La_law_982 : decode mB_La_law 982 = .ok (.iload 5, 2) := by decide +kernel
theorem mD_La_law_984 : decode mB_La_law 984 = .ok (.if_icmp .eq 5, 3) := by decide +kernel
theorem mD_La_law_987 : decode mB_La_law 987 = .ok (.iconst 0, 1) := by decide +kernel
theorem mD_La_law_988 : decode mB_La_law 988 = .ok (.ireturn, 1) := by decide +kernel
theorem mD_La_law_989 : decode mB_La_law 989 = .ok (.iload 5, 2) := by decide +kernel
theorem mD_La_law_991 : decode mB_La_law 991 = .ok (.ifCond .ne 15, 3) := by decide +kernel
theorem mD_La_law_994 : decode mB_La_law 994 = .ok (.aload_n 3, 1) := by decide +kernel
theorem mD_La_law_995 : decode mB_La_law 995 = .ok (.iconst 0, 1) := by decide +kernel
theorem mD_La_law_996 : decode mB_La_law 996 = .ok (.laload, 1) := by decide +kernel
theorem mD_La_law_997 : decode mB_La_law 997 = .ok (.iload 6, 2) := by decide +kernel
theorem mD_La_law_999 : decode mB_La_law 999 = .ok (.i2l, 1) := by decide +kernel
end
section
theorem mD_La_law_1000 : decode mB_La_law 1000 = .ok (.lcmp, 1) := by decide +kernel
theorem mD_La_law_1001 : decode mB_La_law 1001 = .ok (.ifCond .eq 5, 3) := by decide +kernel
theorem mD_La_law_1004 : decode mB_La_law 1004 = .ok (.iconst 0, 1) := by decide +kernel
theorem mD_La_law_1005 : decode mB_La_law 1005 = .ok (.ireturn, 1) := by decide +kernel
theorem mD_La_law_1006 : decode mB_La_law 1006 = .ok (.goto 3, 3) := by decide +kernel
theorem mD_La_law_1009 : decode mB_La_law 1009 = .ok (.iinc 4 4, 3) := by decide +kernel
theorem mD_La_law_1012 : decode mB_La_law 1012 = .ok (.goto (-989), 3) := by decide +kernel
theorem mD_La_law_1015 : decode mB_La_law 1015 = .ok (.iconst 1, 1) := by decide +kernel
theorem mD_La_law_1016 : decode mB_La_law 1016 = .ok (.ireturn, 1) := by decide +kernel
end
section
/-! pure part 1: sums over Int32, small numbers, turned polynomials, phases. No machine in it. -/
def tp_sum : Nat → (Nat → Int32) → Int32
  | 0, _ => 0
  | n + 1, f => tp_sum n f + f n
theorem tp_sum_0 (f : Nat → Int32) : tp_sum 0 f = 0 := rfl
theorem tp_sum_s (n : Nat) (f : Nat → Int32) : tp_sum (n + 1) f = tp_sum n f + f n := rfl
theorem tp_sum_congr {n : Nat} {f g : Nat → Int32} (h : ∀ i, i < n → f i = g i) : tp_sum n f = tp_sum n g := by
  induction n with
  | zero => rfl
  | succ n ih =>
    rw [tp_sum_s, tp_sum_s, ih (fun i hi => h i (by omega)), h n (by omega)]
theorem tp_sum_zero (n : Nat) : tp_sum n (fun _ => 0) = 0 := by
  induction n with
  | zero => rfl
  | succ n ih => rw [tp_sum_s, ih]; rfl
theorem tp_sum_add (n : Nat) (f g : Nat → Int32) : tp_sum n (fun i => f i + g i) = tp_sum n f + tp_sum n g := by
  induction n with
  | zero => rfl
  | succ n ih => rw [tp_sum_s, tp_sum_s, tp_sum_s, ih]; grind
theorem tp_sum_mul (n : Nat) (c : Int32) (f : Nat → Int32) : tp_sum n (fun i => c * f i) = c * tp_sum n f := by
  induction n with
  | zero => rw [tp_sum_0, tp_sum_0]; grind
  | succ n ih => rw [tp_sum_s, tp_sum_s, ih]; grind
theorem tp_sum_neg (n : Nat) (f : Nat → Int32) : tp_sum n (fun i => - f i) = - tp_sum n f := by
  induction n with
  | zero => rw [tp_sum_0, tp_sum_0]; decide
  | succ n ih => rw [tp_sum_s, tp_sum_s, ih]; grind
theorem tp_sum_sub (n : Nat) (f g : Nat → Int32) : tp_sum n (fun i => f i - g i) = tp_sum n f - tp_sum n g := by
  induction n with
  | zero => rw [tp_sum_0, tp_sum_0, tp_sum_0]; decide
  | succ n ih => rw [tp_sum_s, tp_sum_s, tp_sum_s, ih]; grind
theorem tp_sum_swap (n m : Nat) (f : Nat → Nat → Int32) : tp_sum n (fun i => tp_sum m (fun j => f i j)) = tp_sum m (fun j => tp_sum n (fun i => f i j)) := by
  induction n with
  | zero => rw [tp_sum_0]; exact (tp_sum_zero m).symm
  | succ n ih =>
    rw [tp_sum_s, ih, ← tp_sum_add]
    exact tp_sum_congr (fun i _ => (tp_sum_s n _).symm)
theorem tp_sum_one {n k : Nat} (hk : k < n) (f : Nat → Int32) (h : ∀ i, i < n → i ≠ k → f i = 0) : tp_sum n f = f k := by
  induction n with
  | zero => omega
  | succ n ih =>
    rw [tp_sum_s]
    by_cases hn : k = n
    · subst hn
      rw [tp_sum_congr (g := fun _ => 0) (fun i hi => h i (by omega) (by omega)), tp_sum_zero]
      grind
    · rw [ih (by omega) (fun i hi hne => h i (by omega) hne), h n (by omega) (fun e => hn e.symm)]
      grind
/-- x is a number of at most n, up to the torus -/
def tp_sm (n : Nat) (x : Int32) : Prop := ∃ z : Int, z.natAbs ≤ n ∧ x = Int32.ofInt z
theorem tp_sm_0 : tp_sm 0 0 := ⟨0, by decide, rfl⟩
theorem tp_sm_mono {a b : Nat} {x : Int32} (h : tp_sm a x) (hab : a ≤ b) : tp_sm b x := by
  obtain ⟨z, h1, h2⟩ := h
  exact ⟨z, by omega, h2⟩
theorem tp_sm_add {a b : Nat} {x y : Int32} (h1 : tp_sm a x) (h2 : tp_sm b y) : tp_sm (a + b) (x + y) := by
  obtain ⟨z, h3, rfl⟩ := h1
  obtain ⟨w, h4, rfl⟩ := h2
  exact ⟨z + w, by omega, (Int32.ofInt_add z w).symm⟩
theorem tp_sm_sub {a b : Nat} {x y : Int32} (h1 : tp_sm a x) (h2 : tp_sm b y) : tp_sm (a + b) (x - y) := by
  obtain ⟨z, h3, rfl⟩ := h1
  obtain ⟨w, h4, rfl⟩ := h2
  exact ⟨z - w, by omega, (Int32.ofInt_sub z w).symm⟩
theorem tp_sm_neg {a : Nat} {x : Int32} (h1 : tp_sm a x) : tp_sm a (-x) := by
  obtain ⟨z, h3, rfl⟩ := h1
  exact ⟨-z, by omega, (Int32.ofInt_neg z).symm⟩
theorem tp_sm_mul {a b : Nat} {x y : Int32} (h1 : tp_sm a x) (h2 : tp_sm b y) : tp_sm (a * b) (x * y) := by
  obtain ⟨z, h3, rfl⟩ := h1
  obtain ⟨w, h4, rfl⟩ := h2
  exact ⟨z * w, by rw [Int.natAbs_mul]; exact Nat.mul_le_mul h3 h4, (Int32.ofInt_mul z w).symm⟩
theorem tp_sm_sum {n c : Nat} {f : Nat → Int32} (h : ∀ i, i < n → tp_sm c (f i)) : tp_sm (n * c) (tp_sum n f) := by
  induction n with
  | zero => rw [Nat.zero_mul]; exact tp_sm_0
  | succ n ih =>
    rw [Nat.succ_mul, tp_sum_s]
    exact tp_sm_add (ih (fun i hi => h i (by omega))) (h n (by omega))
theorem tp_sm_toInt {n : Nat} {x : Int32} (h1 : - (n : Int) ≤ x.toInt) (h2 : x.toInt ≤ n) : tp_sm n x := ⟨x.toInt, by omega, (Int32.ofInt_toInt x).symm⟩
/-- a bit of a key -/
def tp_bit (x : Int32) : Prop := x = 0 ∨ x = 1
theorem tp_bit_sm {x : Int32} (h : tp_bit x) : tp_sm 1 x := by
  rcases h with rfl | rfl
  · exact ⟨0, by decide, rfl⟩
  · exact ⟨1, by decide, rfl⟩
/-- 32 numbers as a function on all turns: turned once round (32 steps) it changes its sign -/
def tp_ext (f : Nat → Int32) (k : Int) : Int32 := if k % 64 < 32 then f (k % 64).toNat else - f (k % 64 - 32).toNat
theorem tp_ext_mod {f : Nat → Int32} {k j : Int} (h : k % 64 = j % 64) : tp_ext f k = tp_ext f j := by
  unfold tp_ext
  rw [h]
theorem tp_ext_lt {f : Nat → Int32} {i : Nat} (h : i < 32) : tp_ext f i = f i := by
  have h1 : (i : Int) % 64 = i := by omega
  unfold tp_ext
  rw [h1, if_pos (by omega), Int.toNat_natCast]
theorem tp_ext_32 (f : Nat → Int32) (k : Int) : tp_ext f (k + 32) = - tp_ext f k := by
  unfold tp_ext
  by_cases h : k % 64 < 32
  · have h1 : (k + 32) % 64 = k % 64 + 32 := by omega
    rw [h1, if_neg (by omega), if_pos h]
    congr 2
    omega
  · have h1 : (k + 32) % 64 = k % 64 - 32 := by omega
    rw [h1, if_pos (by omega), if_neg h]
    grind
theorem tp_ext_congr {f g : Nat → Int32} (h : ∀ i, i < 32 → f i = g i) (k : Int) : tp_ext f k = tp_ext g k := by
  unfold tp_ext
  by_cases h1 : k % 64 < 32
  · rw [if_pos h1, if_pos h1, h _ (by omega)]
  · rw [if_neg h1, if_neg h1, h _ (by omega)]
/-- what is so at 32 places is so at all turns -/
theorem tp_ext_all {f : Nat → Int32} {g : Int → Int32} (hg : ∀ k, g (k + 32) = - g k) (h : ∀ i : Nat, i < 32 → f i = g i) (hm : ∀ k j : Int, k % 64 = j % 64 → g k = g j) (k : Int) : tp_ext f k = g k := by
  unfold tp_ext
  by_cases h1 : k % 64 < 32
  · rw [if_pos h1, h _ (by omega)]
    exact hm _ _ (by omega)
  · rw [if_neg h1, h _ (by omega), ← hg]
    exact hm _ _ (by omega)
theorem tp_ext_add {f f' g : Nat → Int32} {c : Int32} {t : Int} (h : ∀ i : Nat, i < 32 → f' i = f i + c * tp_ext g ((i : Int) - t)) (k : Int) : tp_ext f' k = tp_ext f k + c * tp_ext g (k - t) := by
  refine tp_ext_all (f := f') (g := fun k => tp_ext f k + c * tp_ext g (k - t)) ?_ ?_ ?_ k
  · intro k
    show tp_ext f (k + 32) + c * tp_ext g (k + 32 - t) = - (tp_ext f k + c * tp_ext g (k - t))
    have e : k + 32 - t = k - t + 32 := by omega
    rw [e, tp_ext_32, tp_ext_32]
    grind
  · intro i hi
    show f' i = tp_ext f i + c * tp_ext g ((i : Int) - t)
    rw [h i hi, tp_ext_lt hi]
  · intro k j hkj
    show tp_ext f k + c * tp_ext g (k - t) = tp_ext f j + c * tp_ext g (j - t)
    rw [tp_ext_mod hkj, tp_ext_mod (k := k - t) (j := j - t) (by omega)]
theorem tp_ext_lin {f g h : Nat → Int32} {c d : Int32} (e : ∀ i : Nat, i < 32 → h i = c * f i + d * g i) (k : Int) : tp_ext h k = c * tp_ext f k + d * tp_ext g k := by
  unfold tp_ext
  by_cases h1 : k % 64 < 32
  · rw [if_pos h1, if_pos h1, if_pos h1, e _ (by omega)]
  · rw [if_neg h1, if_neg h1, if_neg h1, e _ (by omega)]
    grind
theorem tp_ext_sm {f : Nat → Int32} {n : Nat} (h : ∀ i, i < 32 → tp_sm n (f i)) (k : Int) : tp_sm n (tp_ext f k) := by
  unfold tp_ext
  by_cases h1 : k % 64 < 32
  · rw [if_pos h1]; exact h _ (by omega)
  · rw [if_neg h1]; exact tp_sm_neg (h _ (by omega))
/-- the 1 of the ring -/
def tp_one (i : Nat) : Int32 := if i = 0 then 1 else 0
/-- 32 numbers are the sum of their places -/
theorem tp_ext_sum (d : Nat → Int32) (k : Int) : tp_sum 32 (fun t => d t * tp_ext tp_one (k - (t : Int))) = tp_ext d k := by
  refine (tp_ext_all (f := d) (g := fun k => tp_sum 32 (fun t => d t * tp_ext tp_one (k - (t : Int)))) ?_ ?_ ?_ k).symm
  · intro k
    show tp_sum 32 (fun t => d t * tp_ext tp_one (k + 32 - (t : Int))) = - tp_sum 32 (fun t => d t * tp_ext tp_one (k - (t : Int)))
    rw [← tp_sum_neg]
    refine tp_sum_congr (fun t _ => ?_)
    have e : k + 32 - (t : Int) = k - t + 32 := by omega
    rw [e, tp_ext_32]
    grind
  · intro i hi
    show d i = tp_sum 32 (fun t => d t * tp_ext tp_one ((i : Int) - (t : Int)))
    rw [tp_sum_one hi]
    · have e : (i : Int) - i = ((0 : Nat) : Int) := by omega
      rw [e, tp_ext_lt (by omega)]
      show d i = d i * 1
      grind
    · intro t ht hne
      have h0 : tp_ext tp_one ((i : Int) - t) = 0 := by
        unfold tp_ext tp_one
        by_cases h1 : ((i : Int) - t) % 64 < 32
        · rw [if_pos h1, if_neg (by omega)]
        · rw [if_neg h1, if_neg (by omega)]; rfl
      rw [h0]
      grind
  · intro k j hkj
    exact tp_sum_congr (fun t _ => by rw [tp_ext_mod (k := k - t) (j := j - t) (by omega)])
/-- the phase of a pair under the ring's key s -/
def tp_ph (s a b : Nat → Int32) (k : Int) : Int32 := tp_ext b k - tp_sum 32 (fun i => s i * tp_ext a (k - (i : Int)))
theorem tp_ph_mod {s a b : Nat → Int32} {k j : Int} (h : k % 64 = j % 64) : tp_ph s a b k = tp_ph s a b j := by
  unfold tp_ph
  rw [tp_ext_mod h]
  exact congrArg (fun z => tp_ext b j - z) (tp_sum_congr (fun i _ => by rw [tp_ext_mod (k := k - i) (j := j - i) (by omega)]))
theorem tp_ph_32 (s a b : Nat → Int32) (k : Int) : tp_ph s a b (k + 32) = - tp_ph s a b k := by
  unfold tp_ph
  have e : tp_sum 32 (fun i => s i * tp_ext a (k + 32 - (i : Int))) = - tp_sum 32 (fun i => s i * tp_ext a (k - (i : Int))) := by
    rw [← tp_sum_neg]
    refine tp_sum_congr (fun i _ => ?_)
    have e : k + 32 - (i : Int) = k - i + 32 := by omega
    rw [e, tp_ext_32]
    grind
  rw [e, tp_ext_32]
  grind
theorem tp_ph_add {s a b a' b' sa sb : Nat → Int32} {c : Int32} {t : Int} (ha : ∀ i : Nat, i < 32 → a' i = a i + c * tp_ext sa ((i : Int) - t)) (hb : ∀ i : Nat, i < 32 → b' i = b i + c * tp_ext sb ((i : Int) - t)) (k : Int) :
    tp_ph s a' b' k = tp_ph s a b k + c * tp_ph s sa sb (k - t) := by
  unfold tp_ph
  have e : tp_sum 32 (fun i => s i * tp_ext a' (k - (i : Int))) = tp_sum 32 (fun i => s i * tp_ext a (k - (i : Int))) + c * tp_sum 32 (fun i => s i * tp_ext sa (k - t - (i : Int))) := by
    rw [← tp_sum_mul, ← tp_sum_add]
    refine tp_sum_congr (fun i _ => ?_)
    have e : k - (i : Int) - t = k - t - i := by omega
    rw [tp_ext_add ha (k - i), e]
    grind
  rw [e, tp_ext_add hb k]
  grind
theorem tp_ph_congr {s a b a' b' : Nat → Int32} (ha : ∀ i : Nat, i < 32 → a' i = a i) (hb : ∀ i : Nat, i < 32 → b' i = b i) (k : Int) : tp_ph s a' b' k = tp_ph s a b k := by
  unfold tp_ph
  rw [tp_ext_congr hb]
  exact congrArg (fun z => tp_ext b k - z) (tp_sum_congr (fun i _ => by rw [tp_ext_congr ha]))
end
section
/-! pure part 2: digits, help rows, a step of the wheel, the way back, the sign. No machine in it. -/
def tp_W (w : Nat) : Int32 := if w = 0 then 4194304 else 4096
/-- a number's digit and rest, by its 32 bits read without a sign after half of each range was added -/
def tp_y (x : Int32) : Nat := (x + (-2145384448)).toBitVec.toNat
def tp_dg (w : Nat) (x : Int32) : Int32 := if w = 0 then Int32.ofInt ((tp_y x / 4194304 : Nat) : Int) - 512 else Int32.ofInt ((tp_y x / 4096 % 1024 : Nat) : Int) - 512
def tp_rs (x : Int32) : Int32 := Int32.ofInt ((tp_y x % 4096 : Nat) : Int) - 2048
theorem tp_y_lt (x : Int32) : tp_y x < 4294967296 := (x + (-2145384448)).toBitVec.isLt
theorem tp_un (x : Int32) : Int32.ofInt (x.toBitVec.toNat : Int) = x := by
  rw [Int32.ofInt_eq_ofNat]
  exact Int32.toBitVec.inj (by simp)
theorem tp_y_of (x : Int32) : Int32.ofInt (tp_y x : Int) = x + (-2145384448) := tp_un (x + (-2145384448))
theorem tp_dg_sum (x : Int32) : tp_dg 0 x * tp_W 0 + tp_dg 1 x * tp_W 1 + tp_rs x = x := by
  have h1 : (tp_y x : Int) = ((tp_y x / 4194304 : Nat) : Int) * 4194304 + ((tp_y x / 4096 % 1024 : Nat) : Int) * 4096 + ((tp_y x % 4096 : Nat) : Int) := by omega
  have h2 := congrArg Int32.ofInt h1
  rw [tp_y_of, Int32.ofInt_add, Int32.ofInt_add, Int32.ofInt_mul, Int32.ofInt_mul] at h2
  have e1 : Int32.ofInt 4194304 = 4194304 := rfl
  have e2 : Int32.ofInt 4096 = 4096 := rfl
  rw [e1, e2] at h2
  show (Int32.ofInt ((tp_y x / 4194304 : Nat) : Int) - 512) * 4194304 + (Int32.ofInt ((tp_y x / 4096 % 1024 : Nat) : Int) - 512) * 4096 + (Int32.ofInt ((tp_y x % 4096 : Nat) : Int) - 2048) = x
  generalize Int32.ofInt ((tp_y x / 4194304 : Nat) : Int) = a at h2 ⊢
  generalize Int32.ofInt ((tp_y x / 4096 % 1024 : Nat) : Int) = b at h2 ⊢
  generalize Int32.ofInt ((tp_y x % 4096 : Nat) : Int) = c at h2 ⊢
  grind
theorem tp_dg_sm (w : Nat) (x : Int32) : tp_sm 512 (tp_dg w x) := by
  have hy := tp_y_lt x
  unfold tp_dg
  by_cases hw : w = 0
  · rw [if_pos hw]
    exact ⟨((tp_y x / 4194304 : Nat) : Int) - 512, by omega, by rw [Int32.ofInt_sub]; rfl⟩
  · rw [if_neg hw]
    exact ⟨((tp_y x / 4096 % 1024 : Nat) : Int) - 512, by omega, by rw [Int32.ofInt_sub]; rfl⟩
theorem tp_rs_sm (x : Int32) : tp_sm 2048 (tp_rs x) := by
  unfold tp_rs
  exact ⟨((tp_y x % 4096 : Nat) : Int) - 2048, by omega, by rw [Int32.ofInt_sub]; rfl⟩
/-- where a help row hides: half 1 at the wheel's own half, half 0 behind the key -/
def tp_unit (s : Nat → Int32) (h : Nat) (k : Int) : Int32 := if h = 0 then - tp_sum 32 (fun m => s m * tp_ext tp_one (k - (m : Int))) else tp_ext tp_one k
/-- a pair that hides the key's bit times a weight, within 4 -/
def tp_help (s : Nat → Int32) (v : Int32) (h : Nat) (a b : Nat → Int32) : Prop := ∀ k : Int, tp_sm 4 (tp_ph s a b k - v * tp_unit s h k)
theorem tp_unit_sum0 (s x : Nat → Int32) (j : Int) : tp_sum 32 (fun k => x k * tp_unit s 0 (j - (k : Int))) = - tp_sum 32 (fun m => s m * tp_ext x (j - (m : Int))) := by
  have e : ∀ k, k < 32 → x k * tp_unit s 0 (j - (k : Int)) = - tp_sum 32 (fun m => s m * (x k * tp_ext tp_one (j - (m : Int) - (k : Int)))) := by
    intro k _
    unfold tp_unit
    rw [if_pos rfl]
    have e1 : x k * - tp_sum 32 (fun m => s m * tp_ext tp_one (j - (k : Int) - (m : Int))) = - (x k * tp_sum 32 (fun m => s m * tp_ext tp_one (j - (k : Int) - (m : Int)))) := by grind
    rw [e1, ← tp_sum_mul]
    refine congrArg (fun z => - z) (tp_sum_congr (fun m _ => ?_))
    have e2 : j - (k : Int) - m = j - m - k := by omega
    rw [e2]
    grind
  rw [tp_sum_congr e, tp_sum_neg, tp_sum_swap]
  refine congrArg (fun z => - z) (tp_sum_congr (fun m _ => ?_))
  rw [tp_sum_mul, tp_ext_sum]
theorem tp_unit_sum1 (s x : Nat → Int32) (j : Int) : tp_sum 32 (fun k => x k * tp_unit s 1 (j - (k : Int))) = tp_ext x j := by
  rw [← tp_ext_sum x j]
  exact tp_sum_congr (fun k _ => by unfold tp_unit; rw [if_neg (by decide)])
/-- one help row taken digit by digit: what it adds, up to noise -/
theorem tp_take {s d : Nat → Int32} {v : Int32} {h : Nat} {a b : Nat → Int32} (hh : tp_help s v h a b) (hd : ∀ k, k < 32 → tp_sm 512 (d k)) (j : Int) :
    tp_sm 65536 (tp_sum 32 (fun k => d k * tp_ph s a b (j - (k : Int))) - v * tp_sum 32 (fun k => d k * tp_unit s h (j - (k : Int)))) := by
  have e : tp_sum 32 (fun k => d k * tp_ph s a b (j - (k : Int))) - v * tp_sum 32 (fun k => d k * tp_unit s h (j - (k : Int))) = tp_sum 32 (fun k => d k * (tp_ph s a b (j - (k : Int)) - v * tp_unit s h (j - (k : Int)))) := by
    rw [← tp_sum_mul, ← tp_sum_sub]
    exact tp_sum_congr (fun k _ => by grind)
  rw [e]
  exact tp_sm_mono (tp_sm_sum (n := 32) (c := 2048) (fun k hk => tp_sm_mul (hd k hk) (hh _))) (by decide)
/-- both digits of a half -/
theorem tp_take2 {s c : Nat → Int32} {κ : Int32} {h : Nat} {a0 b0 a1 b1 : Nat → Int32} (h0 : tp_help s (κ * tp_W 0) h a0 b0) (h1 : tp_help s (κ * tp_W 1) h a1 b1) (j : Int) :
    tp_sm 131072 (tp_sum 32 (fun k => tp_dg 0 (c k) * tp_ph s a0 b0 (j - (k : Int))) + tp_sum 32 (fun k => tp_dg 1 (c k) * tp_ph s a1 b1 (j - (k : Int)))
      - κ * tp_sum 32 (fun k => (c k - tp_rs (c k)) * tp_unit s h (j - (k : Int)))) := by
  have q0 := tp_take (d := fun k => tp_dg 0 (c k)) h0 (fun k _ => tp_dg_sm 0 (c k)) j
  have q1 := tp_take (d := fun k => tp_dg 1 (c k)) h1 (fun k _ => tp_dg_sm 1 (c k)) j
  have e : κ * tp_sum 32 (fun k => (c k - tp_rs (c k)) * tp_unit s h (j - (k : Int))) = κ * tp_W 0 * tp_sum 32 (fun k => tp_dg 0 (c k) * tp_unit s h (j - (k : Int))) + κ * tp_W 1 * tp_sum 32 (fun k => tp_dg 1 (c k) * tp_unit s h (j - (k : Int))) := by
    rw [← tp_sum_mul, ← tp_sum_mul, ← tp_sum_mul, ← tp_sum_add]
    refine tp_sum_congr (fun k _ => ?_)
    have e1 := tp_dg_sum (c k)
    generalize tp_unit s h (j - (k : Int)) = u
    generalize tp_rs (c k) = r at e1 ⊢
    generalize tp_dg 0 (c k) = d0 at e1 ⊢
    generalize tp_dg 1 (c k) = d1 at e1 ⊢
    generalize tp_W 0 = w0 at e1 ⊢
    generalize tp_W 1 = w1 at e1 ⊢
    rw [← e1]
    grind
  have q := tp_sm_add q0 q1
  rw [e]
  refine tp_sm_mono (b := 131072) ?_ (Nat.le_refl _)
  have e2 : ∀ A B C D : Int32, A + B - (C + D) = A - C + (B - D) := by intro A B C D; grind
  rw [e2]
  exact q
/-- 33 rests are small -/
theorem tp_rests {s ca cb : Nat → Int32} (hs : ∀ i, i < 32 → tp_bit (s i)) (j : Int) : tp_sm 67584 (tp_ph s (fun i => tp_rs (ca i)) (fun i => tp_rs (cb i)) j) := by
  unfold tp_ph
  exact tp_sm_mono (tp_sm_sub (tp_ext_sm (n := 2048) (fun i _ => tp_rs_sm (cb i)) j) (tp_sm_sum (n := 32) (c := 1 * 2048) (fun i hi => tp_sm_mul (tp_bit_sm (hs i hi)) (tp_ext_sm (n := 2048) (fun i _ => tp_rs_sm (ca i)) _)))) (by decide)
/-- a step: the wheel is turned by t if the key's bit is 1, up to noise -/
theorem tp_step {s wa wb ca cb : Nat → Int32} {κ : Int32} {t : Int} {a00 b00 a01 b01 a10 b10 a11 b11 : Nat → Int32} {g : Int → Int32} (hs : ∀ i, i < 32 → tp_bit (s i)) (hκ : tp_bit κ)
    (h00 : tp_help s (κ * tp_W 0) 0 a00 b00) (h01 : tp_help s (κ * tp_W 1) 0 a01 b01) (h10 : tp_help s (κ * tp_W 0) 1 a10 b10) (h11 : tp_help s (κ * tp_W 1) 1 a11 b11)
    (hca : ∀ i : Nat, i < 32 → ca i = tp_ext wa ((i : Int) - t) - wa i) (hcb : ∀ i : Nat, i < 32 → cb i = tp_ext wb ((i : Int) - t) - wb i)
    (hg : ∀ j : Int, g j = tp_ph s wa wb j + tp_sum 32 (fun k => tp_dg 0 (ca k) * tp_ph s a00 b00 (j - (k : Int))) + tp_sum 32 (fun k => tp_dg 1 (ca k) * tp_ph s a01 b01 (j - (k : Int)))
      + tp_sum 32 (fun k => tp_dg 0 (cb k) * tp_ph s a10 b10 (j - (k : Int))) + tp_sum 32 (fun k => tp_dg 1 (cb k) * tp_ph s a11 b11 (j - (k : Int)))) (j : Int) :
    tp_sm 329728 (g j - tp_ph s wa wb (j - (if κ = 1 then t else 0))) := by
  have q0 := tp_take2 (c := ca) h00 h01 j
  have q1 := tp_take2 (c := cb) h10 h11 j
  rw [tp_unit_sum0] at q0
  rw [tp_unit_sum1] at q1
  have hr := tp_rests (ca := ca) (cb := cb) hs j
  have hc : tp_ph s ca cb j = tp_ph s wa wb (j - t) - tp_ph s wa wb j := by
    have e := tp_ph_add (s := s) (a := fun i => - wa i) (b := fun i => - wb i) (a' := ca) (b' := cb) (sa := wa) (sb := wb) (c := 1) (t := t) (fun i hi => by rw [hca i hi]; grind) (fun i hi => by rw [hcb i hi]; grind) j
    have e2 := tp_ph_add (s := s) (a := fun _ => 0) (b := fun _ => 0) (a' := fun i => - wa i) (b' := fun i => - wb i) (sa := wa) (sb := wb) (c := -1) (t := 0) (fun i hi => by rw [Int.sub_zero, tp_ext_lt hi]; grind) (fun i hi => by rw [Int.sub_zero, tp_ext_lt hi]; grind) j
    have e3 : tp_ph s (fun _ => 0) (fun _ => 0) j = 0 := by
      have z : ∀ k : Int, tp_ext (fun _ => (0 : Int32)) k = 0 := by
        intro k
        unfold tp_ext
        by_cases h1 : k % 64 < 32
        · rw [if_pos h1]
        · rw [if_neg h1]; show -(0 : Int32) = 0; decide
      unfold tp_ph
      rw [z, tp_sum_congr (g := fun _ => 0) (fun i _ => by rw [z]; grind), tp_sum_zero]
      rfl
    rw [e3, Int.sub_zero] at e2
    rw [e2] at e
    rw [e]
    grind
  have hx : tp_ext (fun k => cb k - tp_rs (cb k)) j + - tp_sum 32 (fun m => s m * tp_ext (fun k => ca k - tp_rs (ca k)) (j - (m : Int))) = tp_ph s ca cb j - tp_ph s (fun i => tp_rs (ca i)) (fun i => tp_rs (cb i)) j := by
    have z : ∀ (c : Nat → Int32) (k : Int), tp_ext (fun k => c k - tp_rs (c k)) k = tp_ext c k - tp_ext (fun k => tp_rs (c k)) k := by
      intro c k
      rw [tp_ext_lin (f := c) (g := fun k => tp_rs (c k)) (h := fun k => c k - tp_rs (c k)) (c := 1) (d := -1) (fun i _ => by grind) k]
      grind
    unfold tp_ph
    rw [z, tp_sum_congr (g := fun m => s m * tp_ext ca (j - (m : Int)) - s m * tp_ext (fun k => tp_rs (ca k)) (j - (m : Int))) (fun m _ => by rw [z]; grind), tp_sum_sub]
    grind
  have hsm := tp_sm_sub (tp_sm_add q0 q1) (tp_sm_mul (tp_bit_sm hκ) hr)
  have hE : g j - tp_ph s wa wb (j - (if κ = 1 then t else 0)) = (tp_sum 32 (fun k => tp_dg 0 (ca k) * tp_ph s a00 b00 (j - (k : Int))) + tp_sum 32 (fun k => tp_dg 1 (ca k) * tp_ph s a01 b01 (j - (k : Int))) - κ * - tp_sum 32 (fun m => s m * tp_ext (fun k => ca k - tp_rs (ca k)) (j - (m : Int)))
      + (tp_sum 32 (fun k => tp_dg 0 (cb k) * tp_ph s a10 b10 (j - (k : Int))) + tp_sum 32 (fun k => tp_dg 1 (cb k) * tp_ph s a11 b11 (j - (k : Int))) - κ * tp_ext (fun k => cb k - tp_rs (cb k)) j)) - κ * tp_ph s (fun i => tp_rs (ca i)) (fun i => tp_rs (cb i)) j := by
    have hk : tp_ph s wa wb (j - (if κ = 1 then t else 0)) = tp_ph s wa wb j + κ * tp_ph s ca cb j := by
      rcases hκ with rfl | rfl
      · rw [if_neg (by decide), Int.sub_zero]
        grind
      · rw [if_pos rfl, hc]
        grind
    rw [hg j, hk]
    generalize tp_sum 32 (fun k => tp_dg 0 (ca k) * tp_ph s a00 b00 (j - (k : Int))) = A at *
    generalize tp_sum 32 (fun k => tp_dg 1 (ca k) * tp_ph s a01 b01 (j - (k : Int))) = B at *
    generalize tp_sum 32 (fun k => tp_dg 0 (cb k) * tp_ph s a10 b10 (j - (k : Int))) = C at *
    generalize tp_sum 32 (fun k => tp_dg 1 (cb k) * tp_ph s a11 b11 (j - (k : Int))) = D at *
    generalize tp_ext (fun k => cb k - tp_rs (cb k)) j = F at *
    generalize tp_sum 32 (fun m => s m * tp_ext (fun k => ca k - tp_rs (ca k)) (j - (m : Int))) = G at *
    generalize tp_ph s (fun i => tp_rs (ca i)) (fun i => tp_rs (cb i)) j = I at *
    generalize tp_ph s ca cb j = J at *
    generalize tp_ph s wa wb j = K at *
    have e : J = F + - G + I := by rw [hx]; grind
    rw [e]
    grind
  rw [hE]
  exact tp_sm_mono hsm (by decide)
end
section
/-! pure part 3: rows and places, the way back, the sign of a sum, what gates give. No machine in it. -/
def tp_E : Int32 := 536870912
/-- the place of a row under the key for rows -/
def tp_place (κ row : Nat → Int32) : Int32 := row 8 - tp_sum 8 (fun i => row i * κ i)
theorem tp_place_lin {κ r a b : Nat → Int32} {c d : Int32} (h : ∀ i, i < 9 → r i = c * a i + d * b i) : tp_place κ r = c * tp_place κ a + d * tp_place κ b := by
  unfold tp_place
  rw [h 8 (by decide), tp_sum_congr (g := fun i => c * (a i * κ i) + d * (b i * κ i)) (fun i hi => by rw [h i (by omega)]; grind), tp_sum_add, tp_sum_mul, tp_sum_mul]
  grind
theorem tp_place_congr {κ r a : Nat → Int32} (h : ∀ i, i < 9 → r i = a i) : tp_place κ r = tp_place κ a := by
  unfold tp_place
  rw [h 8 (by decide), tp_sum_congr (g := fun i => a i * κ i) (fun i hi => by rw [h i (by omega)])]
/-- the number behind the mask counts as it is -/
theorem tp_place_8 {κ r a : Nat → Int32} {x : Int32} (h : ∀ i, i < 8 → r i = a i) (h8 : r 8 = a 8 + x) : tp_place κ r = tp_place κ a + x := by
  unfold tp_place
  rw [h8, tp_sum_congr (g := fun i => a i * κ i) (fun i hi => by rw [h i hi])]
  grind
def tp_pl (v : Bool) : Int32 := if v then tp_E else - tp_E
/-- the row lies within 'bd' of the place of v -/
def tp_near (κ row : Nat → Int32) (v : Bool) (bd : Nat) : Prop := tp_sm bd (tp_place κ row - tp_pl v)
theorem tp_near_mono {κ row : Nat → Int32} {v : Bool} {a b : Nat} (h : tp_near κ row v a) (hab : a ≤ b) : tp_near κ row v b := tp_sm_mono h hab
theorem tp_near_congr {κ r a : Nat → Int32} {v : Bool} {bd : Nat} (h : tp_near κ a v bd) (e : ∀ i, i < 9 → r i = a i) : tp_near κ r v bd := by
  unfold tp_near at *
  rw [tp_place_congr e]
  exact h
theorem tp_near_not {κ r a : Nat → Int32} {v : Bool} {bd : Nat} (h : tp_near κ a v bd) (e : ∀ i, i < 9 → r i = a i * (-1)) : tp_near κ r (!v) bd := by
  unfold tp_near at *
  rw [tp_place_lin (a := a) (b := a) (c := -1) (d := 0) (fun i hi => by rw [e i hi]; grind)]
  have e2 : -1 * tp_place κ a + 0 * tp_place κ a - tp_pl (!v) = - (tp_place κ a - tp_pl v) := by
    cases v
    · show -1 * tp_place κ a + 0 * tp_place κ a - tp_E = - (tp_place κ a - - tp_E)
      grind
    · show -1 * tp_place κ a + 0 * tp_place κ a - - tp_E = - (tp_place κ a - tp_E)
      grind
  rw [e2]
  exact tp_sm_neg h
theorem tp_near_add {κ r a z : Nat → Int32} {v : Bool} {bd n : Nat} (h : tp_near κ a v bd) (hz : tp_sm n (tp_place κ z)) (e : ∀ i, i < 9 → r i = a i + z i) : tp_near κ r v (bd + n) := by
  unfold tp_near at *
  rw [tp_place_lin (a := a) (b := z) (c := 1) (d := 1) (fun i hi => by rw [e i hi]; grind)]
  have e2 : 1 * tp_place κ a + 1 * tp_place κ z - tp_pl v = tp_place κ a - tp_pl v + tp_place κ z := by grind
  rw [e2]
  exact tp_sm_add h hz
theorem tp_near_pile {κ r a : Nat → Int32} {v : Bool} {bd k : Nat} (h : tp_near κ a v bd) (e : ∀ i, i < 9 → r i = a i * Int32.ofInt ((8 * k + 1 : Nat) : Int)) : tp_near κ r v (bd * (8 * k + 1)) := by
  unfold tp_near at *
  have hc : Int32.ofInt ((8 * k + 1 : Nat) : Int) = 8 * Int32.ofInt (k : Int) + 1 := by
    have e0 : ((8 * k + 1 : Nat) : Int) = 8 * (k : Int) + 1 := by omega
    rw [e0, Int32.ofInt_add, Int32.ofInt_mul]
    rfl
  rw [tp_place_lin (a := a) (b := a) (c := Int32.ofInt ((8 * k + 1 : Nat) : Int)) (d := 0) (fun i hi => by rw [e i hi]; grind)]
  have e1 : Int32.ofInt ((8 * k + 1 : Nat) : Int) * tp_pl v = tp_pl v := by
    have e8 : (8 : Int32) * tp_E = 0 := by decide
    rw [hc]
    cases v
    · show (8 * Int32.ofInt (k : Int) + 1) * - tp_E = - tp_E
      have : (8 * Int32.ofInt (k : Int) + 1) * - tp_E = - (Int32.ofInt (k : Int) * (8 * tp_E)) + - tp_E := by grind
      rw [this, e8]
      grind
    · show (8 * Int32.ofInt (k : Int) + 1) * tp_E = tp_E
      have : (8 * Int32.ofInt (k : Int) + 1) * tp_E = Int32.ofInt (k : Int) * (8 * tp_E) + tp_E := by grind
      rw [this, e8]
      grind
  have e2 : Int32.ofInt ((8 * k + 1 : Nat) : Int) * tp_place κ a + 0 * tp_place κ a - tp_pl v = (tp_place κ a - tp_pl v) * Int32.ofInt ((8 * k + 1 : Nat) : Int) := by
    have : Int32.ofInt ((8 * k + 1 : Nat) : Int) * tp_place κ a + 0 * tp_place κ a - tp_pl v = Int32.ofInt ((8 * k + 1 : Nat) : Int) * tp_place κ a - Int32.ofInt ((8 * k + 1 : Nat) : Int) * tp_pl v := by rw [e1]; grind
    rw [this]
    grind
  rw [e2]
  exact tp_sm_mul h ⟨_, by omega, rfl⟩
/-- the number of a small distance, read with its sign -/
theorem tp_sm_read {n : Nat} {x : Int32} (h : tp_sm n x) (hn : n < 2147483648) : - (n : Int) ≤ x.toInt ∧ x.toInt ≤ n := by
  obtain ⟨z, h1, rfl⟩ := h
  rw [Int32.toInt_ofInt_of_le (by omega) (by omega)]
  omega
theorem tp_E_of : tp_E = Int32.ofInt 536870912 := rfl
/-- what open reads -/
theorem tp_near_open {κ row : Nat → Int32} {v : Bool} {bd : Nat} (h : tp_near κ row v bd) (hb : bd < 536870912) : 0 < (tp_place κ row).toInt ↔ v = true := by
  obtain ⟨z, h1, h2⟩ := h
  cases v
  · have e : tp_place κ row = Int32.ofInt (z + -536870912) := by
      rw [Int32.ofInt_add, ← h2]
      show _ = tp_place κ row - - tp_E + Int32.ofInt (-536870912)
      rw [show Int32.ofInt (-536870912) = - tp_E from rfl]
      grind
    rw [e, Int32.toInt_ofInt_of_le (by omega) (by omega)]
    constructor
    · intro q; omega
    · intro q; cases q
  · have e : tp_place κ row = Int32.ofInt (z + 536870912) := by
      rw [Int32.ofInt_add, ← h2]
      show _ = tp_place κ row - tp_E + Int32.ofInt 536870912
      rw [show Int32.ofInt 536870912 = tp_E from rfl]
      grind
    rw [e, Int32.toInt_ofInt_of_le (by omega) (by omega)]
    constructor
    · intro _; rfl
    · intro _; omega
/-- a number's place of 64, by its 32 bits read without a sign -/
def tp_rd (x : Int32) : Nat := (x + 33554432).toBitVec.toNat / 67108864
theorem tp_rd_lt (x : Int32) : tp_rd x < 64 := by
  have := (x + 33554432).toBitVec.isLt
  unfold tp_rd
  omega
theorem tp_rd_sm (x : Int32) : tp_sm 33554432 (Int32.ofInt (67108864 * (tp_rd x : Int)) - x) := by
  have hy := (x + 33554432).toBitVec.isLt
  have e : Int32.ofInt ((x + 33554432).toBitVec.toNat : Int) = x + 33554432 := tp_un (x + 33554432)
  unfold tp_rd
  generalize (x + 33554432).toBitVec.toNat = y at hy e ⊢
  refine ⟨67108864 * ((y / 67108864 : Nat) : Int) - (y : Int) + 33554432, by omega, ?_⟩
  rw [Int32.ofInt_add, Int32.ofInt_sub, e]
  rw [show Int32.ofInt 33554432 = 33554432 from rfl]
  grind
def tp_sumZ : Nat → (Nat → Int) → Int
  | 0, _ => 0
  | n + 1, f => tp_sumZ n f + f n
theorem tp_sumZ_of (n : Nat) (f : Nat → Int) : Int32.ofInt (tp_sumZ n f) = tp_sum n (fun i => Int32.ofInt (f i)) := by
  induction n with
  | zero => rfl
  | succ n ih => rw [tp_sumZ, Int32.ofInt_add, ih, tp_sum_s]
/-- the turn that the steps make in all -/
def tp_turn (κ row : Nat → Int32) (n : Nat) : Int := tp_sumZ n (fun i => if κ i = 1 then (tp_rd (row i) : Int) else 0)
theorem tp_round {κ row : Nat → Int32} (hκ : ∀ i, i < 8 → tp_bit (κ i)) : tp_sm 301989888 (Int32.ofInt (67108864 * ((tp_rd (row 8) : Int) - tp_turn κ row 8)) - tp_place κ row) := by
  have h8 := tp_rd_sm (row 8)
  have hs : tp_sm (8 * 33554432) (tp_sum 8 (fun i => κ i * (Int32.ofInt (67108864 * (tp_rd (row i) : Int)) - row i))) := tp_sm_sum (fun i hi => tp_sm_mono (tp_sm_mul (tp_bit_sm (hκ i hi)) (tp_rd_sm (row i))) (by decide))
  have e : Int32.ofInt (67108864 * ((tp_rd (row 8) : Int) - tp_turn κ row 8)) - tp_place κ row = (Int32.ofInt (67108864 * (tp_rd (row 8) : Int)) - row 8) - tp_sum 8 (fun i => κ i * (Int32.ofInt (67108864 * (tp_rd (row i) : Int)) - row i)) := by
    have e1 : Int32.ofInt (67108864 * ((tp_rd (row 8) : Int) - tp_turn κ row 8)) = Int32.ofInt (67108864 * (tp_rd (row 8) : Int)) - tp_sum 8 (fun i => κ i * Int32.ofInt (67108864 * (tp_rd (row i) : Int))) := by
      rw [Int.mul_sub, Int32.ofInt_sub]
      refine congrArg (fun z => Int32.ofInt (67108864 * (tp_rd (row 8) : Int)) - z) ?_
      unfold tp_turn
      rw [Int32.ofInt_mul, tp_sumZ_of, ← tp_sum_mul]
      refine tp_sum_congr (fun i hi => ?_)
      rcases hκ i hi with h | h
      · rw [h, if_neg (by decide), show Int32.ofInt 0 = 0 from rfl]
        grind
      · rw [h, if_pos rfl, Int32.ofInt_mul]
        grind
    rw [e1]
    unfold tp_place
    rw [tp_sum_congr (f := fun i => κ i * (Int32.ofInt (67108864 * (tp_rd (row i) : Int)) - row i)) (g := fun i => κ i * Int32.ofInt (67108864 * (tp_rd (row i) : Int)) - row i * κ i) (fun i _ => by grind), tp_sum_sub]
    grind
  rw [e]
  exact tp_sm_mono (tp_sm_sub h8 hs) (by decide)
/-- the wheel at its start, as a function on all turns -/
def tp_w0 (back : Int) (k : Int) : Int32 := if (k + back) % 64 < 32 then tp_E else - tp_E
theorem tp_start {s wa wb : Nat → Int32} {back : Int} (ha : ∀ i, i < 32 → wa i = 0) (hb : ∀ i : Nat, i < 32 → wb i = tp_w0 back i) (k : Int) : tp_ph s wa wb k = tp_w0 back k := by
  have z : ∀ k : Int, tp_ext wa k = 0 := by
    intro k
    unfold tp_ext
    by_cases h1 : k % 64 < 32
    · rw [if_pos h1, ha _ (by omega)]
    · rw [if_neg h1, ha _ (by omega)]; decide
  have e : tp_ext wb k = tp_w0 back k := by
    refine tp_ext_all ?_ hb ?_ k
    · intro k
      unfold tp_w0
      by_cases h : (k + back) % 64 < 32
      · rw [if_pos h, if_neg (by omega)]
      · rw [if_neg h, if_pos (by omega)]
        grind
    · intro k j h
      unfold tp_w0
      rw [show (k + back) % 64 = (j + back) % 64 by omega]
  unfold tp_ph
  rw [e, tp_sum_congr (g := fun _ => 0) (fun i _ => by rw [z]; grind), tp_sum_zero]
  grind
/-- the sign of what was turned is the sign of the row's place -/
theorem tp_sign {κ row : Nat → Int32} (hκ : ∀ i, i < 8 → tp_bit (κ i)) {p : Int} {v : Bool} (hp : tp_place κ row = Int32.ofInt p)
    (h : if v then 301989888 ≤ p ∧ p < 1845493760 else p < -301989888 ∧ -1845493760 ≤ p) : tp_w0 (tp_rd (row 8)) (0 - tp_turn κ row 8) = tp_pl v := by
  obtain ⟨z, h1, h2⟩ := tp_round (row := row) hκ
  rw [hp, ← Int32.ofInt_sub] at h2
  have h3 := congrArg Int32.toInt h2
  rw [Int32.toInt_ofInt, Int32.toInt_ofInt, show Int32.size = 4294967296 from rfl] at h3
  have h4 : (67108864 * ((tp_rd (row 8) : Int) - tp_turn κ row 8) - p) % 4294967296 = z % 4294967296 := by
    have key : ∀ x : Int, x.bmod 4294967296 % 4294967296 = x % 4294967296 := fun x => Int.bmod_emod (x := x) (m := 4294967296)
    have h5 := congrArg (fun x : Int => x % 4294967296) h3
    simp only [key] at h5
    exact h5
  unfold tp_w0
  generalize (tp_rd (row 8) : Int) = a at h4 ⊢
  generalize tp_turn κ row 8 = b at h4 ⊢
  cases v
  · simp only [Bool.false_eq_true, if_false] at h
    rw [if_neg (by omega)]
    rfl
  · simp only [if_true] at h
    rw [if_pos (by omega)]
    rfl
/-- the way back: a row under the key for rows, of the wheel's first number -/
theorem tp_back {s κ wa wb : Nat → Int32} {r : Nat → Int32} {pb : Nat → Nat → Int32} (hs : ∀ i, i < 32 → tp_bit (s i))
    (hpb : ∀ i w, i < 32 → w < 2 → tp_sm 4 (tp_place κ (pb (2 * i + w)) - s i * tp_W w))
    (hr : tp_place κ r = wb 0 - tp_sum 32 (fun i => tp_dg 0 (tp_ext wa (0 - (i : Int))) * tp_place κ (pb (2 * i)) + tp_dg 1 (tp_ext wa (0 - (i : Int))) * tp_place κ (pb (2 * i + 1)))) :
    tp_sm 196608 (tp_place κ r - tp_ph s wa wb 0) := by
  have e : tp_place κ r - tp_ph s wa wb 0 = tp_sum 32 (fun i => s i * tp_rs (tp_ext wa (0 - (i : Int))) - (tp_dg 0 (tp_ext wa (0 - (i : Int))) * (tp_place κ (pb (2 * i)) - s i * tp_W 0) + tp_dg 1 (tp_ext wa (0 - (i : Int))) * (tp_place κ (pb (2 * i + 1)) - s i * tp_W 1))) := by
    rw [hr]
    unfold tp_ph
    have e0 : tp_ext wb 0 = wb 0 := tp_ext_lt (f := wb) (i := 0) (by decide)
    rw [e0]
    have e1 : ∀ A B C : Int32, A - B - (A - C) = C - B := by intro A B C; grind
    rw [e1, ← tp_sum_sub]
    refine tp_sum_congr (fun i _ => ?_)
    have e2 := tp_dg_sum (tp_ext wa (0 - (i : Int)))
    generalize tp_ext wa (0 - (i : Int)) = x at e2 ⊢
    generalize tp_place κ (pb (2 * i)) = A
    generalize tp_place κ (pb (2 * i + 1)) = B
    generalize tp_dg 0 x = d0 at e2 ⊢
    generalize tp_dg 1 x = d1 at e2 ⊢
    generalize tp_rs x = r0 at e2 ⊢
    generalize tp_W 0 = w0 at e2 ⊢
    generalize tp_W 1 = w1 at e2 ⊢
    rw [← e2]
    grind
  rw [e]
  refine tp_sm_mono (tp_sm_sum (n := 32) (c := 6144) (fun i hi => ?_)) (by decide)
  refine tp_sm_mono (tp_sm_sub (tp_sm_mul (tp_bit_sm (hs i hi)) (tp_rs_sm _)) (tp_sm_add (tp_sm_mul (tp_dg_sm 0 _) (hpb i 0 hi (by decide))) (tp_sm_mul (tp_dg_sm 1 _) (hpb i 1 hi (by decide))))) (by decide)
end
section
/-! pure part 4: the eight steps, the gates' sums, what a gate gives. No machine in it. -/
theorem tp_turn_s (κ row : Nat → Int32) (n : Nat) : tp_turn κ row (n + 1) = tp_turn κ row n + (if κ n = 1 then (tp_rd (row n) : Int) else 0) := rfl
/-- one step more -/
theorem tp_iter {κ row : Nat → Int32} {n : Nat} {back : Int} {g g' : Int → Int32} (h : ∀ j, tp_sm (329728 * n) (g j - tp_w0 back (j - tp_turn κ row n)))
    (h' : ∀ j, tp_sm 329728 (g' j - g (j - (if κ n = 1 then (tp_rd (row n) : Int) else 0)))) (j : Int) : tp_sm (329728 * (n + 1)) (g' j - tp_w0 back (j - tp_turn κ row (n + 1))) := by
  have q1 := h' j
  have q2 := h (j - (if κ n = 1 then (tp_rd (row n) : Int) else 0))
  have e : j - (if κ n = 1 then (tp_rd (row n) : Int) else 0) - tp_turn κ row n = j - tp_turn κ row (n + 1) := by rw [tp_turn_s]; omega
  rw [e] at q2
  have q := tp_sm_add q1 q2
  have e2 : ∀ A B C : Int32, A - B + (B - C) = A - C := by intro A B C; grind
  rw [e2] at q
  exact tp_sm_mono q (by omega)
/-- what comes of a refreshed row whose place is read with its sign -/
theorem tp_refreshed {s κ row r wa wb : Nat → Int32} (hκ : ∀ i, i < 8 → tp_bit (κ i)) {p : Int} {v : Bool} (hp : tp_place κ row = Int32.ofInt p)
    (h : if v then 301989888 ≤ p ∧ p < 1845493760 else p < -301989888 ∧ -1845493760 ≤ p)
    (hw : ∀ j, tp_sm (329728 * 8) (tp_ph s wa wb j - tp_w0 (tp_rd (row 8)) (j - tp_turn κ row 8))) (hb : tp_sm 196608 (tp_place κ r - tp_ph s wa wb 0)) : tp_near κ r v 3186688 := by
  have q := tp_sm_add hb (hw 0)
  rw [tp_sign hκ hp h] at q
  have e2 : ∀ A B C : Int32, A - B + (B - C) = A - C := by intro A B C; grind
  rw [e2] at q
  exact tp_sm_mono q (by decide)
def tp_w1 (g : Nat) : Int := match g with
  | 0 => 1
  | 1 => 1
  | 2 => -1
  | 3 => -1
  | 4 => 2
  | 5 => -2
  | 6 => 1
  | _ => 1
def tp_w2 (g : Nat) : Int := match g with
  | 0 => 1
  | 1 => 1
  | 2 => -1
  | 3 => -1
  | 4 => 2
  | 5 => -2
  | 6 => -1
  | _ => -1
def tp_e8 (g : Nat) : Int := match g with
  | 0 => -1
  | 1 => 1
  | 2 => 1
  | 3 => -1
  | 4 => 2
  | 5 => -2
  | 6 => -1
  | _ => 1
def tp_truth (g : Nat) (a b : Bool) : Bool := match g with
  | 0 => a && b
  | 1 => a || b
  | 2 => !(a && b)
  | 3 => !(a || b)
  | 4 => a != b
  | 5 => a == b
  | 6 => a && !b
  | _ => a || !b
/-- the bounds are too great for the gate -/
def tp_far (g b1 b2 : Nat) : Prop := if g = 4 ∨ g = 5 then 771751936 ≤ 2 * (b1 + b2) else 234881024 ≤ b1 + b2
def tp_c (v : Bool) : Int := if v then 536870912 else -536870912
theorem tp_pl_c (v : Bool) : tp_pl v = Int32.ofInt (tp_c v) := by cases v <;> rfl
def tp_wrap (g : Nat) (a b : Bool) : Int := if g = 4 ∧ a = true ∧ b = true then -4294967296 else if g = 5 ∧ a = true ∧ b = true then 4294967296 else 0
theorem tp_wrap_of (g : Nat) (a b : Bool) : Int32.ofInt (tp_wrap g a b) = 0 := by
  unfold tp_wrap
  split
  · rfl
  · split
    · rfl
    · rfl
theorem tp_gate_num {g b1 b2 : Nat} {v1 v2 : Bool} {z1 z2 : Int} (hg : g < 8) (h1 : z1.natAbs ≤ b1) (h2 : z2.natAbs ≤ b2) (hl : ¬ tp_far g b1 b2) :
    if tp_truth g v1 v2 then 301989888 ≤ tp_w1 g * (tp_c v1 + z1) + tp_w2 g * (tp_c v2 + z2) + tp_e8 g * 536870912 + tp_wrap g v1 v2 ∧ tp_w1 g * (tp_c v1 + z1) + tp_w2 g * (tp_c v2 + z2) + tp_e8 g * 536870912 + tp_wrap g v1 v2 < 1845493760
    else tp_w1 g * (tp_c v1 + z1) + tp_w2 g * (tp_c v2 + z2) + tp_e8 g * 536870912 + tp_wrap g v1 v2 < -301989888 ∧ -1845493760 ≤ tp_w1 g * (tp_c v1 + z1) + tp_w2 g * (tp_c v2 + z2) + tp_e8 g * 536870912 + tp_wrap g v1 v2 := by
  have hc : g = 0 ∨ g = 1 ∨ g = 2 ∨ g = 3 ∨ g = 4 ∨ g = 5 ∨ g = 6 ∨ g = 7 := by omega
  rcases hc with rfl | rfl | rfl | rfl | rfl | rfl | rfl | rfl <;> cases v1 <;> cases v2 <;> simp [tp_truth, tp_w1, tp_w2, tp_e8, tp_c, tp_wrap, tp_far] at hl ⊢ <;> omega
theorem tp_gate_sum {κ a b r : Nat → Int32} {g b1 b2 : Nat} {v1 v2 : Bool} (hg : g < 8) (h1 : tp_near κ a v1 b1) (h2 : tp_near κ b v2 b2) (hl : ¬ tp_far g b1 b2)
    (hr : ∀ i, i < 8 → r i = Int32.ofInt (tp_w1 g) * a i + Int32.ofInt (tp_w2 g) * b i) (h8 : r 8 = Int32.ofInt (tp_w1 g) * a 8 + Int32.ofInt (tp_w2 g) * b 8 + Int32.ofInt (tp_e8 g) * tp_E) :
    ∃ p : Int, tp_place κ r = Int32.ofInt p ∧ (if tp_truth g v1 v2 then 301989888 ≤ p ∧ p < 1845493760 else p < -301989888 ∧ -1845493760 ≤ p) := by
  obtain ⟨z1, q1, e1⟩ := h1
  obtain ⟨z2, q2, e2⟩ := h2
  refine ⟨_, ?_, tp_gate_num (v1 := v1) (v2 := v2) hg q1 q2 hl⟩
  rw [Int32.ofInt_add, tp_wrap_of, Int32.ofInt_add, Int32.ofInt_add, Int32.ofInt_mul, Int32.ofInt_mul, Int32.ofInt_mul, Int32.ofInt_add, Int32.ofInt_add, ← tp_pl_c, ← tp_pl_c, ← e1, ← e2]
  rw [tp_place_8 (a := fun i => Int32.ofInt (tp_w1 g) * a i + Int32.ofInt (tp_w2 g) * b i) hr h8, tp_place_lin (a := a) (b := b) (c := Int32.ofInt (tp_w1 g)) (d := Int32.ofInt (tp_w2 g)) (fun i _ => rfl)]
  rw [show Int32.ofInt 536870912 = tp_E from rfl]
  grind
end
section
/-! worlds by places: n cells, place k at the address ad k, holding e k. My own rows over the kit's. -/
def gw (n : Nat) (ad : Nat → Nat) (e : Nat → va_E) : va_W := (List.range n).map (fun k => (ad k, e k))
theorem gw_len {n : Nat} {ad : Nat → Nat} {e : Nat → va_E} : (gw n ad e).length = n := by
  unfold gw
  rw [List.length_map, List.length_range]
theorem gw_at {n k : Nat} {ad : Nat → Nat} {e : Nat → va_E} (h : k < n) : (gw n ad e)[k]? = some (ad k, e k) := by
  unfold gw
  rw [List.getElem?_map, List.getElem?_range h]
  rfl
theorem gw_at' {n k : Nat} {ad : Nat → Nat} {e : Nat → va_E} {x : va_E} (h : k < n) (he : e k = x) : (gw n ad e)[k]? = some (ad k, x) := by
  rw [gw_at h, he]
theorem gw_inv {n k : Nat} {ad : Nat → Nat} {e : Nat → va_E} {q : Nat × va_E} (h : (gw n ad e)[k]? = some q) : k < n ∧ q = (ad k, e k) := by
  have hk : k < n := by
    have h1 := (List.getElem?_eq_some_iff.mp h).1
    rwa [gw_len] at h1
  rw [gw_at hk] at h
  exact ⟨hk, (Option.some.inj h).symm⟩
theorem gw_set {n k : Nat} {ad : Nat → Nat} {e : Nat → va_E} {x : va_E} (h : k < n) : (gw n ad e).set k (ad k, x) = gw n ad (va_up e k x) := by
  refine List.ext_getElem? (fun j => ?_)
  by_cases hj : j < n
  · rw [gw_at hj]
    by_cases hjk : j = k
    · subst hjk
      rw [List.getElem?_set_self (by rw [gw_len]; exact h), va_up_self]
    · rw [List.getElem?_set_ne (fun z => hjk z.symm), gw_at hj, va_up_ne _ _ hjk]
  · rw [List.getElem?_eq_none (by rw [List.length_set, gw_len]; omega), List.getElem?_eq_none (by rw [gw_len]; omega)]
theorem gw_push {n q : Nat} {ad : Nat → Nat} {e : Nat → va_E} {x : va_E} : gw n ad e ++ [(q, x)] = gw (n + 1) (va_up ad n q) (va_up e n x) := by
  refine List.ext_getElem? (fun j => ?_)
  by_cases hj : j < n
  · rw [List.getElem?_append_left (by rw [gw_len]; exact hj), gw_at hj, gw_at (by omega), va_up_ne _ _ (by omega), va_up_ne _ _ (by omega)]
  · by_cases hjn : j = n
    · subst hjn
      rw [List.getElem?_append_right (by rw [gw_len]; omega), gw_len, Nat.sub_self, gw_at (by omega), va_up_self, va_up_self]
      rfl
    · rw [List.getElem?_eq_none (by rw [List.length_append, gw_len]; show n + 1 ≤ j; omega), List.getElem?_eq_none (by rw [gw_len]; omega)]
theorem gw_congr {n : Nat} {ad ad' : Nat → Nat} {e e' : Nat → va_E} (h : ∀ k, k < n → ad k = ad' k ∧ e k = e' k) : gw n ad e = gw n ad' e' := by
  refine List.ext_getElem? (fun j => ?_)
  by_cases hj : j < n
  · rw [gw_at hj, gw_at hj, (h j hj).1, (h j hj).2]
  · rw [List.getElem?_eq_none (by rw [gw_len]; omega), List.getElem?_eq_none (by rw [gw_len]; omega)]
def gw_inj (n : Nat) (ad : Nat → Nat) : Prop := ∀ i j, i < n → j < n → ad i = ad j → i = j
/-- what a method over such a world may change: its cells, and those that it makes -/
def gA (n : Nat) (ad : Nat → Nat) (sz : Nat) : Nat → Prop := fun q => (∃ k, k < n ∧ q = ad k) ∨ sz ≤ q
theorem gA_in {n k sz : Nat} {ad : Nat → Nat} (h : k < n) : gA n ad sz (ad k) := Or.inl ⟨k, h, rfl⟩
theorem gA_new {n sz : Nat} {ad : Nat → Nat} : ∀ q, sz ≤ q → gA n ad sz q := fun _ h => Or.inr h
theorem gA_mono {n sz sz' : Nat} {ad : Nat → Nat} (h : sz ≤ sz') : ∀ q, gA n ad sz' q → gA n ad sz q := fun q hq => by
  rcases hq with h1 | h1
  · exact Or.inl h1
  · exact Or.inr (by omega)
theorem gw_D {n : Nat} {ad : Nat → Nat} {e : Nat → va_E} {A : Nat → Prop} (h : gw_inj n ad) (hA : ∀ k, k < n → A (ad k)) : va_D A (gw n ad e) := by
  refine ⟨fun i j x y hi hj hxy => ?_, fun k q hk => ?_⟩
  · obtain ⟨h1, rfl⟩ := gw_inv hi
    obtain ⟨h2, rfl⟩ := gw_inv hj
    exact h i j h1 h2 hxy
  · obtain ⟨h1, rfl⟩ := gw_inv hk
    exact hA k h1
theorem gw_DA {n sz : Nat} {ad : Nat → Nat} {e : Nat → va_E} (h : gw_inj n ad) : va_D (gA n ad sz) (gw n ad e) := gw_D h (fun _ hk => gA_in hk)
theorem gw_injD {n : Nat} {ad : Nat → Nat} {e : Nat → va_E} {A : Nat → Prop} (h : va_D A (gw n ad e)) : gw_inj n ad := fun i j hi hj hij => h.1 i j _ _ (gw_at hi) (gw_at hj) hij
theorem gw_sub {n m : Nat} {ad : Nat → Nat} {e : Nat → va_E} {D : va_G} {cl : List vw_C} {H : Heap} (h : va_P D cl (gw n ad e) H) (hm : m ≤ n) : va_P D cl (gw m ad e) H := by
  intro k q hk
  obtain ⟨h1, rfl⟩ := gw_inv hk
  exact h k _ (gw_at (by omega))
theorem gw_lt {n k : Nat} {ad : Nat → Nat} {e : Nat → va_E} {D : va_G} {cl : List vw_C} {H : Heap} (h : va_P D cl (gw n ad e) H) (hk : k < n) : ad k < H.size := (h k _ (gw_at hk)).lt
/-- a part of the world has moved on, the rest lies as it was -/
theorem gw_join {n : Nat} {ad : Nat → Nat} {e e' : Nat → va_E} {D : va_G} {cl : List vw_C} {H H1 : Heap} {A : Nat → Prop} (P : Nat → Prop) (h : va_P D cl (gw n ad e) H) (hk : ∀ q : Nat, q < H.size → ¬ A q → H1[q]? = H[q]?)
    (hin : ∀ k, k < n → P k → va_at D cl (ad k, e' k) H1) (hout : ∀ k, k < n → ¬ P k → e' k = e k ∧ ¬ A (ad k)) : va_P D cl (gw n ad e') H1 := by
  intro k q hq
  obtain ⟨h1, rfl⟩ := gw_inv hq
  rcases Classical.em (P k) with hp | hp
  · exact hin k h1 hp
  · obtain ⟨h2, h3⟩ := hout k h1 hp
    rw [h2]
    exact (h k _ (gw_at h1)).kept (hk _ (gw_lt h h1) h3)
section GWR
variable {p : Program} {l : Launch} {e : Env} {R : Room} {s : State} {m : MethodId} {args : Array Value} {below : List Frame} {meth : Method} {c : Code} {H : Heap} {locs : List Loc} {cells slots : Nat} {Q : State → Prop}
variable {cc : ByteArray} {pc : Nat} {ls : Array Slot} {rest : List Value} {D : va_G} {cl : List vw_C} {tys : List (ClassId × FieldType)} {n : Nat} {ad : Nat → Nat} {E : Nat → va_E} {A : Nat → Prop} {H0 : Heap}
theorem gw_get (hexec : p.tables.exec = Jvm.exec) (hb : c.code = cc) {own ref C : String} {T : u_T} {N ci index : Nat} {Ts : List Cond} (hts : ∀ w ∈ Ts, w.before args s = true) (hin : ∀ w ∈ u_ws C T N, w ∈ Ts) (hown : s.vm.findClass own = some m.cls) (hK : va_K D cl tys s) (hP : va_P D cl (gw n ad E) H) (k0 : Nat) (h0 : k0 < n) {fs : List Value} (he : E k0 = .inr (ci, fs)) (hc : cl[ci]? = some (C, T, N)) (k : Nat) (hk : k < N) (hlink : (Cond.fieldLink own index ref (T k).2.1 (T k).2.2.1).before args s = true) (hsame : ∀ x, s.fieldFound? (T k).1 (T k).2.1 (T k).2.2.1 = some x → s.fieldFound? ref (T k).2.1 (T k).2.2.1 = some x) {v : Value} (hv : fs[k]? = some v) (hdg : decode cc pc = .ok (.getfield index, 3))
    (kk : W p l e R s m args below meth c H locs cells slots Q (F0 m (pc + 3) ls (v :: rest))) : W p l e R s m args below meth c H locs cells slots Q (F0 m pc ls (.ref (ad k0) :: rest)) :=
  va_get hexec hb hts hin hown hK hP k0 (gw_at' h0 he) hc k hk hlink hsame hv hdg kk
theorem gw_put (hexec : p.tables.exec = Jvm.exec) (hb : c.code = cc) {own ref C : String} {T : u_T} {N ci index : Nat} {Ts : List Cond} (hts : ∀ w ∈ Ts, w.before args s = true) (hin : ∀ w ∈ u_ws C T N, w ∈ Ts) (ty0 : Nat → FieldType) (hty : ∀ k, k < N → parseFieldDescriptor (T k).2.2.1 = some (ty0 k)) (hnm : ∀ a, a < N → ∀ b, b < N → a ≠ b → (T a).2.1 ≠ (T b).2.1) (hown : s.vm.findClass own = some m.cls) (hK : va_K D cl tys s) (hI : gw_inj n ad) (hA : ∀ k, k < n → A (ad k)) (hP : va_P D cl (gw n ad E) H) (hS0 : va_S A H0 H locs) (k0 : Nat) (h0 : k0 < n) {fs : List Value} (he : E k0 = .inr (ci, fs)) (hc : cl[ci]? = some (C, T, N)) (k : Nat) (hk : k < N) (hlink : (Cond.fieldLink own index ref (T k).2.1 (T k).2.2.1).before args s = true) (hsame : ∀ x, s.fieldFound? (T k).1 (T k).2.1 (T k).2.2.1 = some x → s.fieldFound? ref (T k).2.1 (T k).2.2.1 = some x) (hfin : (T k).2.2.2 = false) {ty : FieldType} {v : Value} (hd : parseFieldDescriptor (T k).2.2.1 = some ty) (hn : narrow ty v = v) (hfit : fits ty v = true) (hl : k < fs.length)
    (hdg : decode cc pc = .ok (.putfield index, 3)) (kk : ∀ (H1 : Heap) (locs1 : List Loc), va_P D cl (gw n ad (va_up E k0 (.inr (ci, fs.set k v)))) H1 → va_S A H0 H1 locs1 → W p l e R s m args below meth c H1 locs1 cells slots Q (F0 m (pc + 3) ls rest)) : W p l e R s m args below meth c H locs cells slots Q (F0 m pc ls (v :: .ref (ad k0) :: rest)) :=
  va_put hexec hb hts hin ty0 hty hnm hown hK hP (gw_D hI hA) hS0 k0 (gw_at' h0 he) hc k hk hlink hsame hfin hd hn hfit hl hdg (fun H1 locs1 h1 _ h3 => kk H1 locs1 (by rw [gw_set h0] at h1; exact h1) h3)
theorem gw_iald (hexec : p.tables.exec = Jvm.exec) (hb : c.code = cc) (hK : va_K D cl tys s) (hP : va_P D cl (gw n ad E) H) (k0 t0 : Nat) (h0 : k0 < n) {cA : ClassId} {N : Nat} {f : Nat → Int32} (he : E k0 = .inl (cA, N, .inl f)) (ht : tys[t0]? = some (cA, .int)) {i : Int32} (j : Nat) (hi : i = nI j) (hj : j < N) (hN : N < 2 ^ 31) (hdg : decode cc pc = .ok (.iaload, 1))
    (kk : W p l e R s m args below meth c H locs cells slots Q (F0 m (pc + 1) ls (.int (f j) :: rest))) : W p l e R s m args below meth c H locs cells slots Q (F0 m pc ls (.int i :: .ref (ad k0) :: rest)) := by
  subst hi
  refine va_iald hexec hb hK hP k0 t0 (gw_at' h0 he) ht (vp_in_nI hj hN) hdg ?_
  rw [nI_clamp (by omega)]
  exact kk
theorem gw_iast (hexec : p.tables.exec = Jvm.exec) (hb : c.code = cc) (hK : va_K D cl tys s) (hI : gw_inj n ad) (hA : ∀ k, k < n → A (ad k)) (hP : va_P D cl (gw n ad E) H) (hS : va_S A H0 H locs) (k0 t0 : Nat) (h0 : k0 < n) {cA : ClassId} {N : Nat} {f : Nat → Int32} (he : E k0 = .inl (cA, N, .inl f)) (ht : tys[t0]? = some (cA, .int)) {i x : Int32} (j : Nat) (hi : i = nI j) (hj : j < N) (hN : N < 2 ^ 31) (hdg : decode cc pc = .ok (.iastore, 1))
    (kk : ∀ (H1 : Heap) (locs1 : List Loc), va_P D cl (gw n ad (va_up E k0 (.inl (cA, N, .inl (upd f j x))))) H1 → va_S A H0 H1 locs1 → W p l e R s m args below meth c H1 locs1 cells slots Q (F0 m (pc + 1) ls rest)) : W p l e R s m args below meth c H locs cells slots Q (F0 m pc ls (.int x :: .int i :: .ref (ad k0) :: rest)) := by
  subst hi
  refine va_iast hexec hb hK hP (gw_D hI hA) hS k0 t0 (gw_at' h0 he) ht (vp_in_nI hj hN) hdg (fun H1 locs1 h1 _ h3 => ?_)
  rw [nI_clamp (by omega), gw_set h0] at h1
  exact kk H1 locs1 h1 h3
theorem gw_zald (hexec : p.tables.exec = Jvm.exec) (hb : c.code = cc) (hK : va_K D cl tys s) (hP : va_P D cl (gw n ad E) H) (k0 t0 : Nat) (h0 : k0 < n) {cA : ClassId} {N : Nat} {f : Nat → Int32} (he : E k0 = .inl (cA, N, .inl f)) (ht : tys[t0]? = some (cA, .boolean)) {i : Int32} (j : Nat) (hi : i = nI j) (hj : j < N) (hN : N < 2 ^ 31) (hdg : decode cc pc = .ok (.baload, 1))
    (kk : W p l e R s m args below meth c H locs cells slots Q (F0 m (pc + 1) ls (.int (f j) :: rest))) : W p l e R s m args below meth c H locs cells slots Q (F0 m pc ls (.int i :: .ref (ad k0) :: rest)) := by
  subst hi
  refine va_zald hexec hb hK hP k0 t0 (gw_at' h0 he) ht (vp_in_nI hj hN) hdg ?_
  rw [nI_clamp (by omega)]
  exact kk
theorem gw_zast (hexec : p.tables.exec = Jvm.exec) (hb : c.code = cc) (hK : va_K D cl tys s) (hI : gw_inj n ad) (hA : ∀ k, k < n → A (ad k)) (hP : va_P D cl (gw n ad E) H) (hS : va_S A H0 H locs) (k0 t0 : Nat) (h0 : k0 < n) {cA : ClassId} {N : Nat} {f : Nat → Int32} (he : E k0 = .inl (cA, N, .inl f)) (ht : tys[t0]? = some (cA, .boolean)) {i x : Int32} (j : Nat) (hi : i = nI j) (hj : j < N) (hN : N < 2 ^ 31) (hdg : decode cc pc = .ok (.bastore, 1))
    (kk : ∀ (H1 : Heap) (locs1 : List Loc), va_P D cl (gw n ad (va_up E k0 (.inl (cA, N, .inl (upd f j (vp_nar .boolean x)))))) H1 → va_S A H0 H1 locs1 → W p l e R s m args below meth c H1 locs1 cells slots Q (F0 m (pc + 1) ls rest)) : W p l e R s m args below meth c H locs cells slots Q (F0 m pc ls (.int x :: .int i :: .ref (ad k0) :: rest)) := by
  subst hi
  refine va_zast hexec hb hK hP (gw_D hI hA) hS k0 t0 (gw_at' h0 he) ht (vp_in_nI hj hN) hdg (fun H1 locs1 h1 _ h3 => ?_)
  rw [nI_clamp (by omega), gw_set h0] at h1
  exact kk H1 locs1 h1 h3
theorem gw_last (hexec : p.tables.exec = Jvm.exec) (hb : c.code = cc) (hK : va_K D cl tys s) (hI : gw_inj n ad) (hA : ∀ k, k < n → A (ad k)) (hP : va_P D cl (gw n ad E) H) (hS : va_S A H0 H locs) (k0 t0 : Nat) (h0 : k0 < n) {cA : ClassId} {N : Nat} {f : Nat → Int64} (he : E k0 = .inl (cA, N, .inr (.inl f))) (ht : tys[t0]? = some (cA, .long)) {i : Int32} {x : Int64} (j : Nat) (hi : i = nI j) (hj : j < N) (hN : N < 2 ^ 31) (hdg : decode cc pc = .ok (.lastore, 1))
    (kk : ∀ (H1 : Heap) (locs1 : List Loc), va_P D cl (gw n ad (va_up E k0 (.inl (cA, N, .inr (.inl (vp_updL f j x)))))) H1 → va_S A H0 H1 locs1 → W p l e R s m args below meth c H1 locs1 cells slots Q (F0 m (pc + 1) ls rest)) : W p l e R s m args below meth c H locs cells slots Q (F0 m pc ls (.long x :: .int i :: .ref (ad k0) :: rest)) := by
  subst hi
  refine va_last hexec hb hK hP (gw_D hI hA) hS k0 t0 (gw_at' h0 he) ht (vp_in_nI hj hN) hdg (fun H1 locs1 h1 _ h3 => ?_)
  rw [nI_clamp (by omega), gw_set h0] at h1
  exact kk H1 locs1 h1 h3
theorem gw_lald (hexec : p.tables.exec = Jvm.exec) (hb : c.code = cc) (hK : va_K D cl tys s) (hP : va_P D cl (gw n ad E) H) (k0 t0 : Nat) (h0 : k0 < n) {cA : ClassId} {N : Nat} {f : Nat → Int64} (he : E k0 = .inl (cA, N, .inr (.inl f))) (ht : tys[t0]? = some (cA, .long)) {i : Int32} (j : Nat) (hi : i = nI j) (hj : j < N) (hN : N < 2 ^ 31) (hdg : decode cc pc = .ok (.laload, 1))
    (kk : W p l e R s m args below meth c H locs cells slots Q (F0 m (pc + 1) ls (.long (f j) :: rest))) : W p l e R s m args below meth c H locs cells slots Q (F0 m pc ls (.int i :: .ref (ad k0) :: rest)) := by
  subst hi
  refine va_lald hexec hb hK hP k0 t0 (gw_at' h0 he) ht (vp_in_nI hj hN) hdg ?_
  rw [nI_clamp (by omega)]
  exact kk
theorem gw_aldq (hexec : p.tables.exec = Jvm.exec) (hb : c.code = cc) (hK : va_K D cl tys s) (hP : va_P D cl (gw n ad E) H) (k0 t0 : Nat) (h0 : k0 < n) {cA : ClassId} {C : String} {N : Nat} {f : Nat → Option Nat} (he : E k0 = .inl (cA, N, .inr (.inr (.inr (.inr f))))) (ht : tys[t0]? = some (cA, .object C)) {i : Int32} (j : Nat) {q : Nat} (hi : i = nI j) (hj : j < N) (hN : N < 2 ^ 31) (hq : f j = some q) (hdg : decode cc pc = .ok (.aaload, 1))
    (kk : W p l e R s m args below meth c H locs cells slots Q (F0 m (pc + 1) ls (.ref q :: rest))) : W p l e R s m args below meth c H locs cells slots Q (F0 m pc ls (.int i :: .ref (ad k0) :: rest)) := by
  subst hi
  refine va_aldq hexec hb hK hP k0 t0 (gw_at' h0 he) ht (vp_in_nI hj hN) hdg ?_
  rw [nI_clamp (by omega), hq]
  exact kk
end GWR
/-- the entry of a method, all that its rows need at hand -/
theorem gw_enter {l : Launch} {y : MethodName} {ws ws' : List Cond} {rm : Room} {av : List Value} {B : State → Prop} {Qc : Array Value → State → Outcome → State → Prop} {mc ms : Nat} {free : Addr → Prop} {cc : ByteArray} {maxL : Nat} {ret : Option FieldType}
    (hy : plainName y.cls = true) (hw : ws = Cond.code y cc maxL ret :: ws') (hlen : (lg_sl av).length ≤ maxL)
    (body : ∀ (p : Program) (e : Env) (s : State) (m : MethodId) (below : List Frame) (meth : Method) (c : Code) (ls : Array Slot), p.tables.exec = Jvm.exec → c.code = cc → meth.sig.returnType = ret → (∀ w ∈ ws, w.before av.toArray s = true) → s.vm.findClass y.cls = some m.cls → meth.locks = false → c.maxLocals = maxL → meth.name = y.name → lv_has ls maxL (lv_args 0 av) → B s →
      W p l e rm s m av.toArray below meth c s.heap [] 0 0 (MQ below Qc av.toArray s mc ms free) (F0 m 0 ls [])) : Met l y ws rm (va_Pc av B) Qc mc ms free := by
  refine Met.ofW (cc := cc) (maxL := maxL) (ret := ret) hy hw ?_
  intro p e s m args below meth c s₁ X hml hv
  obtain ⟨rfl, hB⟩ := hv
  rw [lg_entry_eq]
  exact body p e s m below meth c _ X.exec X.bytes X.returns (atoms_spec (ws := ws) X.pre) (findClass_of_methodNamed X.named) X.notSynchronized hml (name_of_methodNamed X.named X.method).1 (lv_entry av hlen) hB
/-- names for the room and for what is owed at the end -/
theorem gw_nm {p : Program} {l : Launch} {e : Env} {R : Room} {s : State} {m : MethodId} {args : Array Value} {below : List Frame} {meth : Method} {c : Code} {H : Heap} {locs : List Loc} {cells slots : Nat} {Q : State → Prop} {g : JFrame}
    (k : ∀ (R' : Room) (Q' : State → Prop), R' = R → Q' = Q → W p l e R' s m args below meth c H locs cells slots Q' g) : W p l e R s m args below meth c H locs cells slots Q g := k R Q rfl rfl
end
section
/-! contracts over worlds by places, and their calls. My own rows over the kit's. -/
theorem wW_G {y : MethodName} {b : ByteArray} {ml : Nat} {r : Option FieldType} (hc : Cond.code y b ml r ∈ wW) : GoodIn wW (Cond.code y b ml r :: wW) := fun w hw => by
  rcases List.mem_cons.mp hw with rfl | h
  · exact ⟨hc, good_of_word (wW_good hc)⟩
  · exact ⟨h, good_of_word (wW_good h)⟩
abbrev mP (y : MethodName) (n : Nat) : Prop := y.cls ≠ "java/lang/invoke/MethodHandle" ∧ y.cls ≠ "java/lang/invoke/VarHandle" ∧ (parseMethodDescriptor y.desc).map (fun d => d.parameters.length) = some n
/-- a word on the tables and on cells outside A: it lasts -/
def gZ (Z : (Nat → Prop) → State → Prop) : Prop := ∀ (A A' : Nat → Prop) (U U' : State), Z A U → U.WarmedH U'.vm → (∀ q : Nat, q < U.heap.size → ¬ A q → U'.heap[q]? = U.heap[q]?) → (∀ q, A' q → A q) → Z A' U'
def gZ0 : (Nat → Prop) → State → Prop := fun _ _ => True
theorem gZ0_ok : gZ gZ0 := fun _ _ _ _ _ _ _ _ => trivial
/-- what holds where a method over the world begins -/
def gPre (D : va_G) (tys : List (ClassId × FieldType)) (Z : (Nat → Prop) → State → Prop) (n : Nat) (ad : Nat → Nat) (E : Nat → va_E) (sz : Nat) (U : State) : Prop :=
  U.heap.size = sz ∧ va_P D cL (gw n ad E) U.heap ∧ va_K D cL tys U ∧ Z (gA n ad sz) U
def gB {S : Type} (D : va_G) (n : Nat) (ad : Nat → Nat) (wd : S → Nat → va_E) : S → State → Prop := fun x t => va_P D cL (gw n ad (wd x)) t.heap
def gBr {S : Type} (D : va_G) (n : Nat) (ad : Nat → Nat) (wd : S → Nat → va_E) (post : Nat → S → Prop) : S → Nat → State → Prop := fun x a t => va_P D cL (gw n ad (wd x)) t.heap ∧ post a x
/-- a method that answers a number -/
def gMi (l : Launch) (y : MethodName) (b : ByteArray) (ml : Nat) (r : Option FieldType) (rm : Room) (D : va_G) (tys : List (ClassId × FieldType)) (Z : (Nat → Prop) → State → Prop) {S : Type} (n : Nat) (ad : Nat → Nat) (wd : S → Nat → va_E) (av : List Value) (x : S) (post : Int32 → S → Prop) : Prop :=
  ∀ sz : Nat, Met l y (Cond.code y b ml r :: wW) rm (va_Pc av (gPre D tys Z n ad (wd x) sz)) (va_Qi post (gB D n ad wd) (gA n ad sz)) rm.cells rm.slots (gA n ad sz)
/-- a method that answers nothing -/
def gMv (l : Launch) (y : MethodName) (b : ByteArray) (ml : Nat) (r : Option FieldType) (rm : Room) (D : va_G) (tys : List (ClassId × FieldType)) (Z : (Nat → Prop) → State → Prop) {S : Type} (n : Nat) (ad : Nat → Nat) (wd : S → Nat → va_E) (av : List Value) (x : S) (post : S → Prop) : Prop :=
  ∀ sz : Nat, Met l y (Cond.code y b ml r :: wW) rm (va_Pc av (gPre D tys Z n ad (wd x) sz)) (va_Qv post (gB D n ad wd) (gA n ad sz)) rm.cells rm.slots (gA n ad sz)
/-- a method that answers a cell -/
def gMr (l : Launch) (y : MethodName) (b : ByteArray) (ml : Nat) (r : Option FieldType) (rm : Room) (D : va_G) (tys : List (ClassId × FieldType)) (Z : (Nat → Prop) → State → Prop) {S : Type} (n : Nat) (ad : Nat → Nat) (wd : S → Nat → va_E) (av : List Value) (x : S) (post : Nat → S → Prop) : Prop :=
  ∀ sz : Nat, Met l y (Cond.code y b ml r :: wW) rm (va_Pc av (gPre D tys Z n ad (wd x) sz)) (va_Qr (fun _ => True) (gBr D n ad wd post) (gA n ad sz)) rm.cells rm.slots (gA n ad sz)
theorem gc_blind {D : va_G} {tys : List (ClassId × FieldType)} {Z : (Nat → Prop) → State → Prop} {n : Nat} {ad : Nat → Nat} {E : Nat → va_E} {sz : Nat} {av : List Value} (hz : gZ Z) : FrameBlind (va_Pc av (gPre D tys Z n ad E sz)) := fun a U g mk q => by
  obtain ⟨q0, q1, qP, qK, qZ⟩ := q
  exact ⟨q0, q1, qP, va_K.moved (u := U) (U := U.calling g mk a) (Vm.Alike.refl U.vm) qK, hz _ _ _ _ qZ (State.WarmedH.refl U) (fun _ _ _ => rfl) (fun _ h => h)⟩
theorem gc_at {D : va_G} {tys : List (ClassId × FieldType)} {Z : (Nat → Prop) → State → Prop} {n : Nat} {ad : Nat → Nat} {E : Nat → va_E} {av : List Value} {s : State} {H : Heap} (hP : va_P D cL (gw n ad E) H) (hK : va_K D cL tys s) (hZ : ∀ U : State, U.heap = H → s.WarmedH U.vm → Z (gA n ad H.size) U) :
    ∀ U : State, U.heap = H → s.WarmedH U.vm → va_Pc av (gPre D tys Z n ad E H.size) av.toArray U := fun U hU hW => ⟨rfl, by rw [hU], by rw [hU]; exact hP, va_K.moved hW.alike hK, hZ U hU hW⟩
section GC
variable {p : Program} {l : Launch} {e : Env} {R : Room} {s : State} {m : MethodId} {args : Array Value} {below : List Frame} {meth : Method} {c : Code} {H : Heap} {locs : List Loc} {cells slots : Nat} {Q : State → Prop}
variable {cc : ByteArray} {pc nL : Nat} {ls : Array Slot} {rest st0 : List Value} {D : va_G} {tys : List (ClassId × FieldType)} {Z : (Nat → Prop) → State → Prop} {n : Nat} {ad : Nat → Nat} {A : Nat → Prop} {H0 : Heap}
variable {S : Type} {wd : S → Nat → va_E} {x : S} {y : MethodName} {b : ByteArray} {ml np index : Nat} {r0 : Option FieldType} {rm : Room} {own : String} {As : List Value}
/-- invokevirtual, a number comes back -/
theorem gc_Vi {post : Int32 → S → Prop} (hx : p.tables.exec = Jvm.exec) (hb : c.code = cc) (hml : c.maxLocals = nL) (hown : s.vm.findClass own = some m.cls) (htw : ∀ w ∈ wW, w.before args s = true) (hK : va_K D cL tys s) (hP : va_P D cL (gw n ad (wd x)) H) (hS : va_S A H0 H locs) (k0 : Nat) (hM : gMi l y b ml r0 rm D tys Z n ad wd (.ref (ad k0) :: As) x post)
    (hz : gZ Z) (hZ : ∀ U : State, U.heap = H → s.WarmedH U.vm → Z (gA n ad H.size) U) (hA : ∀ q, gA n ad H.size q → A q) (h0 : k0 < n) {ci : Nat} {fs : List Value} {T : u_T} {N : Nat} (he : wd x k0 = .inr (ci, fs)) (hc : cL[ci]? = some (y.cls, T, N))
    (hlk : Cond.methodLink own index y ∈ wW) (hin : Cond.instanceMethod y ∈ wW) (hse : Cond.selects y.cls y y ∈ wW) (hini : Cond.initialized y.cls ∈ wW) (hcd : Cond.code y b ml r0 ∈ wW) (hmp : mP y np) (hR : rm.frames + 1 ≤ R.frames ∧ 8 + (ml + 11) + rm.locals ≤ R.locals) (hn : As.length = np) (hsz : ls.size = nL) (hst : st0 = As.reverse ++ .ref (ad k0) :: rest) (hW : (rest.map fun v => v.category).sum ≤ 8) (hdg : decode cc pc = .ok (.invokevirtual index, 3)) (hf : cells + rm.cells ≤ R.cells ∧ slots + rm.slots ≤ R.slots)
    (kk : ∀ (r : Int32) (x1 : S) (H1 : Heap) (locs1 : List Loc), post r x1 → va_P D cL (gw n ad (wd x1)) H1 → H.size ≤ H1.size → (∀ q : Nat, q < H.size → ¬ gA n ad H.size q → H1[q]? = H[q]?) → va_S A H0 H1 locs1 → W p l e R s m args below meth c H1 locs1 (cells + rm.cells) (slots + rm.slots) Q (F0 m (pc + 3) ls (.int r :: rest))) :
    W p l e R s m args below meth c H locs cells slots Q (F0 m pc ls st0) :=
  va_calli (va_runV (C := y.cls) (n := np) ⟨hx, hb, hml, hown, htw⟩ (hM H.size) ⟨callB_of np htw (wW_G hcd) rfl rfl rfl (htw _ hini) (htw _ hlk) hmp hR, htw _ hin, htw _ hse⟩ ⟨gc_blind hz, va_recv hK hP hc (gw_at' h0 he), gc_at hP hK hZ⟩ rfl hn hsz hst (lv_room hW) hdg hf) hS (fun q _ h => hA q h) hA
    (fun r x1 t H1 locs1 ht _ hp hB hz1 hk1 hS1 => kk r x1 H1 locs1 hp (by rw [← ht]; exact hB) hz1 hk1 hS1)
theorem gc_Vv {post : S → Prop} (hx : p.tables.exec = Jvm.exec) (hb : c.code = cc) (hml : c.maxLocals = nL) (hown : s.vm.findClass own = some m.cls) (htw : ∀ w ∈ wW, w.before args s = true) (hK : va_K D cL tys s) (hP : va_P D cL (gw n ad (wd x)) H) (hS : va_S A H0 H locs) (k0 : Nat) (hM : gMv l y b ml r0 rm D tys Z n ad wd (.ref (ad k0) :: As) x post)
    (hz : gZ Z) (hZ : ∀ U : State, U.heap = H → s.WarmedH U.vm → Z (gA n ad H.size) U) (hA : ∀ q, gA n ad H.size q → A q) (h0 : k0 < n) {ci : Nat} {fs : List Value} {T : u_T} {N : Nat} (he : wd x k0 = .inr (ci, fs)) (hc : cL[ci]? = some (y.cls, T, N))
    (hlk : Cond.methodLink own index y ∈ wW) (hin : Cond.instanceMethod y ∈ wW) (hse : Cond.selects y.cls y y ∈ wW) (hini : Cond.initialized y.cls ∈ wW) (hcd : Cond.code y b ml r0 ∈ wW) (hmp : mP y np) (hR : rm.frames + 1 ≤ R.frames ∧ 8 + (ml + 11) + rm.locals ≤ R.locals) (hn : As.length = np) (hsz : ls.size = nL) (hst : st0 = As.reverse ++ .ref (ad k0) :: rest) (hW : (rest.map fun v => v.category).sum ≤ 8) (hdg : decode cc pc = .ok (.invokevirtual index, 3)) (hf : cells + rm.cells ≤ R.cells ∧ slots + rm.slots ≤ R.slots)
    (kk : ∀ (x1 : S) (H1 : Heap) (locs1 : List Loc), post x1 → va_P D cL (gw n ad (wd x1)) H1 → H.size ≤ H1.size → (∀ q : Nat, q < H.size → ¬ gA n ad H.size q → H1[q]? = H[q]?) → va_S A H0 H1 locs1 → W p l e R s m args below meth c H1 locs1 (cells + rm.cells) (slots + rm.slots) Q (F0 m (pc + 3) ls rest)) :
    W p l e R s m args below meth c H locs cells slots Q (F0 m pc ls st0) :=
  va_callv (va_runV (C := y.cls) (n := np) ⟨hx, hb, hml, hown, htw⟩ (hM H.size) ⟨callB_of np htw (wW_G hcd) rfl rfl rfl (htw _ hini) (htw _ hlk) hmp hR, htw _ hin, htw _ hse⟩ ⟨gc_blind hz, va_recv hK hP hc (gw_at' h0 he), gc_at hP hK hZ⟩ rfl hn hsz hst (lv_room hW) hdg hf) hS (fun q _ h => hA q h) hA
    (fun x1 t H1 locs1 ht _ hp hB hz1 hk1 hS1 => kk x1 H1 locs1 hp (by rw [← ht]; exact hB) hz1 hk1 hS1)
theorem gc_Vr {post : Nat → S → Prop} (hx : p.tables.exec = Jvm.exec) (hb : c.code = cc) (hml : c.maxLocals = nL) (hown : s.vm.findClass own = some m.cls) (htw : ∀ w ∈ wW, w.before args s = true) (hK : va_K D cL tys s) (hP : va_P D cL (gw n ad (wd x)) H) (hS : va_S A H0 H locs) (k0 : Nat) (hM : gMr l y b ml r0 rm D tys Z n ad wd (.ref (ad k0) :: As) x post)
    (hz : gZ Z) (hZ : ∀ U : State, U.heap = H → s.WarmedH U.vm → Z (gA n ad H.size) U) (hA : ∀ q, gA n ad H.size q → A q) (h0 : k0 < n) {ci : Nat} {fs : List Value} {T : u_T} {N : Nat} (he : wd x k0 = .inr (ci, fs)) (hc : cL[ci]? = some (y.cls, T, N))
    (hlk : Cond.methodLink own index y ∈ wW) (hin : Cond.instanceMethod y ∈ wW) (hse : Cond.selects y.cls y y ∈ wW) (hini : Cond.initialized y.cls ∈ wW) (hcd : Cond.code y b ml r0 ∈ wW) (hmp : mP y np) (hR : rm.frames + 1 ≤ R.frames ∧ 8 + (ml + 11) + rm.locals ≤ R.locals) (hn : As.length = np) (hsz : ls.size = nL) (hst : st0 = As.reverse ++ .ref (ad k0) :: rest) (hW : (rest.map fun v => v.category).sum ≤ 8) (hdg : decode cc pc = .ok (.invokevirtual index, 3)) (hf : cells + rm.cells ≤ R.cells ∧ slots + rm.slots ≤ R.slots)
    (kk : ∀ (a : Nat) (x1 : S) (H1 : Heap) (locs1 : List Loc), post a x1 → va_P D cL (gw n ad (wd x1)) H1 → H.size ≤ H1.size → (∀ q : Nat, q < H.size → ¬ gA n ad H.size q → H1[q]? = H[q]?) → va_S A H0 H1 locs1 → W p l e R s m args below meth c H1 locs1 (cells + rm.cells) (slots + rm.slots) Q (F0 m (pc + 3) ls (.ref a :: rest))) :
    W p l e R s m args below meth c H locs cells slots Q (F0 m pc ls st0) :=
  va_callr (va_runV (C := y.cls) (n := np) ⟨hx, hb, hml, hown, htw⟩ (hM H.size) ⟨callB_of np htw (wW_G hcd) rfl rfl rfl (htw _ hini) (htw _ hlk) hmp hR, htw _ hin, htw _ hse⟩ ⟨gc_blind hz, va_recv hK hP hc (gw_at' h0 he), gc_at hP hK hZ⟩ rfl hn hsz hst (lv_room hW) hdg hf) hS (fun q _ h => hA q h) hA
    (fun x1 a t H1 locs1 ht _ _ hB hz1 hk1 hS1 => kk a x1 H1 locs1 hB.2 (by rw [← ht]; exact hB.1) hz1 hk1 hS1)
/-- invokestatic -/
theorem gc_Si {post : Int32 → S → Prop} (hx : p.tables.exec = Jvm.exec) (hb : c.code = cc) (hml : c.maxLocals = nL) (hown : s.vm.findClass own = some m.cls) (htw : ∀ w ∈ wW, w.before args s = true) (hK : va_K D cL tys s) (hP : va_P D cL (gw n ad (wd x)) H) (hS : va_S A H0 H locs) (hM : gMi l y b ml r0 rm D tys Z n ad wd As x post)
    (hz : gZ Z) (hZ : ∀ U : State, U.heap = H → s.WarmedH U.vm → Z (gA n ad H.size) U) (hA : ∀ q, gA n ad H.size q → A q)
    (hlk : Cond.methodLink own index y ∈ wW) (hin : Cond.static y ∈ wW) (hini : Cond.initialized y.cls ∈ wW) (hcd : Cond.code y b ml r0 ∈ wW) (hmp : mP y np) (hR : rm.frames + 1 ≤ R.frames ∧ 8 + (ml + 11) + rm.locals ≤ R.locals) (hn : As.length = np) (hsz : ls.size = nL) (hst : st0 = As.reverse ++ rest) (hW : (rest.map fun v => v.category).sum ≤ 8) (hdg : decode cc pc = .ok (.invokestatic index, 3)) (hf : cells + rm.cells ≤ R.cells ∧ slots + rm.slots ≤ R.slots)
    (kk : ∀ (r : Int32) (x1 : S) (H1 : Heap) (locs1 : List Loc), post r x1 → va_P D cL (gw n ad (wd x1)) H1 → H.size ≤ H1.size → (∀ q : Nat, q < H.size → ¬ gA n ad H.size q → H1[q]? = H[q]?) → va_S A H0 H1 locs1 → W p l e R s m args below meth c H1 locs1 (cells + rm.cells) (slots + rm.slots) Q (F0 m (pc + 3) ls (.int r :: rest))) :
    W p l e R s m args below meth c H locs cells slots Q (F0 m pc ls st0) :=
  va_calli (va_runS (n := np) ⟨hx, hb, hml, hown, htw⟩ (hM H.size) ⟨callB_of np htw (wW_G hcd) rfl rfl rfl (htw _ hini) (htw _ hlk) hmp hR, htw _ hin⟩ ⟨gc_blind hz, gc_at hP hK hZ⟩ rfl hn hsz hst (lv_room hW) hdg hf) hS (fun q _ h => hA q h) hA
    (fun r x1 t H1 locs1 ht _ hp hB hz1 hk1 hS1 => kk r x1 H1 locs1 hp (by rw [← ht]; exact hB) hz1 hk1 hS1)
theorem gc_Sv {post : S → Prop} (hx : p.tables.exec = Jvm.exec) (hb : c.code = cc) (hml : c.maxLocals = nL) (hown : s.vm.findClass own = some m.cls) (htw : ∀ w ∈ wW, w.before args s = true) (hK : va_K D cL tys s) (hP : va_P D cL (gw n ad (wd x)) H) (hS : va_S A H0 H locs) (hM : gMv l y b ml r0 rm D tys Z n ad wd As x post)
    (hz : gZ Z) (hZ : ∀ U : State, U.heap = H → s.WarmedH U.vm → Z (gA n ad H.size) U) (hA : ∀ q, gA n ad H.size q → A q)
    (hlk : Cond.methodLink own index y ∈ wW) (hin : Cond.static y ∈ wW) (hini : Cond.initialized y.cls ∈ wW) (hcd : Cond.code y b ml r0 ∈ wW) (hmp : mP y np) (hR : rm.frames + 1 ≤ R.frames ∧ 8 + (ml + 11) + rm.locals ≤ R.locals) (hn : As.length = np) (hsz : ls.size = nL) (hst : st0 = As.reverse ++ rest) (hW : (rest.map fun v => v.category).sum ≤ 8) (hdg : decode cc pc = .ok (.invokestatic index, 3)) (hf : cells + rm.cells ≤ R.cells ∧ slots + rm.slots ≤ R.slots)
    (kk : ∀ (x1 : S) (H1 : Heap) (locs1 : List Loc), post x1 → va_P D cL (gw n ad (wd x1)) H1 → H.size ≤ H1.size → (∀ q : Nat, q < H.size → ¬ gA n ad H.size q → H1[q]? = H[q]?) → va_S A H0 H1 locs1 → W p l e R s m args below meth c H1 locs1 (cells + rm.cells) (slots + rm.slots) Q (F0 m (pc + 3) ls rest)) :
    W p l e R s m args below meth c H locs cells slots Q (F0 m pc ls st0) :=
  va_callv (va_runS (n := np) ⟨hx, hb, hml, hown, htw⟩ (hM H.size) ⟨callB_of np htw (wW_G hcd) rfl rfl rfl (htw _ hini) (htw _ hlk) hmp hR, htw _ hin⟩ ⟨gc_blind hz, gc_at hP hK hZ⟩ rfl hn hsz hst (lv_room hW) hdg hf) hS (fun q _ h => hA q h) hA
    (fun x1 t H1 locs1 ht _ hp hB hz1 hk1 hS1 => kk x1 H1 locs1 hp (by rw [← ht]; exact hB) hz1 hk1 hS1)
/-- the ends -/
theorem gw_iret {post : Int32 → S → Prop} {mc ms : Nat} {r : Int32} (hx : p.tables.exec = Jvm.exec) (hb : c.code = cc) (hr : meth.sig.returnType = some .int) (hlocks : meth.locks = false) (hP : va_P D cL (gw n ad (wd x)) H) (hS : va_S (gA n ad s.heap.size) s.heap H locs) (hp : post r x) (hdg : decode cc pc = .ok (.ireturn, 1)) (hc : cells ≤ mc) (hs : slots ≤ ms) :
    W p l e R s m args below meth c H locs cells slots (MQ below (va_Qi post (gB D n ad wd) (gA n ad s.heap.size)) args s mc ms (gA n ad s.heap.size)) (F0 m pc ls [.int r]) :=
  W.widen hc hs (W.iret hx hb hr (fun t ht _ => ⟨⟨r, x, rfl, hp, by show va_P D cL (gw n ad (wd x)) t.heap; rw [ht]; exact hP⟩, hS.F ht⟩) hS.2.2 hdg)
theorem gw_zret {post : Int32 → S → Prop} {mc ms : Nat} {r : Int32} (hx : p.tables.exec = Jvm.exec) (hb : c.code = cc) (hr : meth.sig.returnType = some .boolean) (hlocks : meth.locks = false) (hP : va_P D cL (gw n ad (wd x)) H) (hS : va_S (gA n ad s.heap.size) s.heap H locs) (hn : narrow .boolean (.int r) = .int r) (hp : post r x) (hdg : decode cc pc = .ok (.ireturn, 1)) (hc : cells ≤ mc) (hs : slots ≤ ms) :
    W p l e R s m args below meth c H locs cells slots (MQ below (va_Qi post (gB D n ad wd) (gA n ad s.heap.size)) args s mc ms (gA n ad s.heap.size)) (F0 m pc ls [.int r]) :=
  W.widen hc hs (W.zret hx hb hr hn (fun t ht _ => ⟨⟨r, x, rfl, hp, by show va_P D cL (gw n ad (wd x)) t.heap; rw [ht]; exact hP⟩, hS.F ht⟩) hS.2.2 hdg)
theorem gw_vret {post : S → Prop} {mc ms : Nat} (hx : p.tables.exec = Jvm.exec) (hb : c.code = cc) (hr : meth.sig.returnType = none) (hlocks : meth.locks = false) (hP : va_P D cL (gw n ad (wd x)) H) (hS : va_S (gA n ad s.heap.size) s.heap H locs) (hp : post x) (hdg : decode cc pc = .ok (.return_, 1)) (hc : cells ≤ mc) (hs : slots ≤ ms) :
    W p l e R s m args below meth c H locs cells slots (MQ below (va_Qv post (gB D n ad wd) (gA n ad s.heap.size)) args s mc ms (gA n ad s.heap.size)) (F0 m pc ls []) :=
  W.widen hc hs (W.vret hx hb hr (fun t ht _ => ⟨⟨x, rfl, hp, by show va_P D cL (gw n ad (wd x)) t.heap; rw [ht]; exact hP⟩, hS.F ht⟩) hS.2.2 hdg)
theorem gw_aret {post : Nat → S → Prop} {mc ms : Nat} {a : Nat} {nm : String} (hx : p.tables.exec = Jvm.exec) (hb : c.code = cc) (hr : meth.sig.returnType = some (.object nm)) (hlocks : meth.locks = false) (hP : va_P D cL (gw n ad (wd x)) H) (hS : va_S (gA n ad s.heap.size) s.heap H locs) (hp : post a x) (hdg : decode cc pc = .ok (.areturn, 1)) (hc : cells ≤ mc) (hs : slots ≤ ms) :
    W p l e R s m args below meth c H locs cells slots (MQ below (va_Qr (fun _ => True) (gBr D n ad wd post) (gA n ad s.heap.size)) args s mc ms (gA n ad s.heap.size)) (F0 m pc ls [.ref a]) :=
  W.widen hc hs (W.aret hx hb hr (Or.inl ⟨nm, rfl⟩) (Or.inr ⟨a, rfl⟩) (fun t ht _ => ⟨⟨x, a, rfl, trivial, by show va_P D cL (gw n ad (wd x)) t.heap; rw [ht]; exact hP, hp⟩, hS.F ht⟩) hS.2.2 hdg)
end GC
/-- entries -/
theorem gMi_enter {l : Launch} {y : MethodName} {b : ByteArray} {ml : Nat} {r : Option FieldType} {rm : Room} {D : va_G} {tys : List (ClassId × FieldType)} {Z : (Nat → Prop) → State → Prop} {S : Type} {n : Nat} {ad : Nat → Nat} {wd : S → Nat → va_E} {av : List Value} {x : S} {post : Int32 → S → Prop} (hy : plainName y.cls = true) (hlen : (lg_sl av).length ≤ ml)
    (body : ∀ (p : Program) (e : Env) (s : State) (m : MethodId) (below : List Frame) (meth : Method) (c : Code) (ls : Array Slot), p.tables.exec = Jvm.exec → c.code = b → meth.sig.returnType = r → (∀ w ∈ wW, w.before av.toArray s = true) → s.vm.findClass y.cls = some m.cls → meth.locks = false → c.maxLocals = ml → lv_has ls ml (lv_args 0 av) → va_P D cL (gw n ad (wd x)) s.heap → va_K D cL tys s → Z (gA n ad s.heap.size) s → va_S (gA n ad s.heap.size) s.heap s.heap [] →
      W p l e rm s m av.toArray below meth c s.heap [] 0 0 (MQ below (va_Qi post (gB D n ad wd) (gA n ad s.heap.size)) av.toArray s rm.cells rm.slots (gA n ad s.heap.size)) (F0 m 0 ls [])) : gMi l y b ml r rm D tys Z n ad wd av x post := by
  intro sz
  refine gw_enter hy rfl hlen ?_
  intro p e s m below meth c ls hx hb hr hts hown hlocks hml _ hl hB
  obtain ⟨rfl, hP, hK, hZ⟩ := hB
  exact body p e s m below meth c ls hx hb hr (fun w hw => hts w (List.mem_cons_of_mem _ hw)) hown hlocks hml hl hP hK hZ va_S.rf
theorem gMv_enter {l : Launch} {y : MethodName} {b : ByteArray} {ml : Nat} {r : Option FieldType} {rm : Room} {D : va_G} {tys : List (ClassId × FieldType)} {Z : (Nat → Prop) → State → Prop} {S : Type} {n : Nat} {ad : Nat → Nat} {wd : S → Nat → va_E} {av : List Value} {x : S} {post : S → Prop} (hy : plainName y.cls = true) (hlen : (lg_sl av).length ≤ ml)
    (body : ∀ (p : Program) (e : Env) (s : State) (m : MethodId) (below : List Frame) (meth : Method) (c : Code) (ls : Array Slot), p.tables.exec = Jvm.exec → c.code = b → meth.sig.returnType = r → (∀ w ∈ wW, w.before av.toArray s = true) → s.vm.findClass y.cls = some m.cls → meth.locks = false → c.maxLocals = ml → lv_has ls ml (lv_args 0 av) → va_P D cL (gw n ad (wd x)) s.heap → va_K D cL tys s → Z (gA n ad s.heap.size) s → va_S (gA n ad s.heap.size) s.heap s.heap [] →
      W p l e rm s m av.toArray below meth c s.heap [] 0 0 (MQ below (va_Qv post (gB D n ad wd) (gA n ad s.heap.size)) av.toArray s rm.cells rm.slots (gA n ad s.heap.size)) (F0 m 0 ls [])) : gMv l y b ml r rm D tys Z n ad wd av x post := by
  intro sz
  refine gw_enter hy rfl hlen ?_
  intro p e s m below meth c ls hx hb hr hts hown hlocks hml _ hl hB
  obtain ⟨rfl, hP, hK, hZ⟩ := hB
  exact body p e s m below meth c ls hx hb hr (fun w hw => hts w (List.mem_cons_of_mem _ hw)) hown hlocks hml hl hP hK hZ va_S.rf
theorem gMr_enter {l : Launch} {y : MethodName} {b : ByteArray} {ml : Nat} {r : Option FieldType} {rm : Room} {D : va_G} {tys : List (ClassId × FieldType)} {Z : (Nat → Prop) → State → Prop} {S : Type} {n : Nat} {ad : Nat → Nat} {wd : S → Nat → va_E} {av : List Value} {x : S} {post : Nat → S → Prop} (hy : plainName y.cls = true) (hlen : (lg_sl av).length ≤ ml)
    (body : ∀ (p : Program) (e : Env) (s : State) (m : MethodId) (below : List Frame) (meth : Method) (c : Code) (ls : Array Slot), p.tables.exec = Jvm.exec → c.code = b → meth.sig.returnType = r → (∀ w ∈ wW, w.before av.toArray s = true) → s.vm.findClass y.cls = some m.cls → meth.locks = false → c.maxLocals = ml → lv_has ls ml (lv_args 0 av) → va_P D cL (gw n ad (wd x)) s.heap → va_K D cL tys s → Z (gA n ad s.heap.size) s → va_S (gA n ad s.heap.size) s.heap s.heap [] →
      W p l e rm s m av.toArray below meth c s.heap [] 0 0 (MQ below (va_Qr (fun _ => True) (gBr D n ad wd post) (gA n ad s.heap.size)) av.toArray s rm.cells rm.slots (gA n ad s.heap.size)) (F0 m 0 ls [])) : gMr l y b ml r rm D tys Z n ad wd av x post := by
  intro sz
  refine gw_enter hy rfl hlen ?_
  intro p e s m below meth c ls hx hb hr hts hown hlocks hml _ hl hB
  obtain ⟨rfl, hP, hK, hZ⟩ := hB
  exact body p e s m below meth c ls hx hb hr (fun w hw => hts w (List.mem_cons_of_mem _ hw)) hown hlocks hml hl hP hK hZ va_S.rf
end
section
/-! the world of a TorusGates object: 424 places. ct: the array classes (0 int[], 1 Cell[], 2 int[][], 3 boolean[], 4 long[]). My own. -/
def tT (ct : Nat → ClassId) : List (ClassId × FieldType) := [(ct 0, .int), (ct 1, .object cN_Ce), (ct 2, .array .int), (ct 3, .boolean), (ct 4, .long)]
abbrev tI (ct : Nat → ClassId) (n : Nat) (f : Nat → Int32) : va_E := .inl (ct 0, n, .inl f)
abbrev tQ (c : ClassId) (n : Nat) (f : Nat → Option Nat) : va_E := .inl (c, n, .inr (.inr (.inr (.inr f))))
abbrev tCell (ad : Nat → Nat) (f : Nat → Int32) (k : Nat) : va_E := .inr (0, [.ref (ad (k + 1)), .int (f 1), .int (f 2), .int (f 3)])
def tE (ct : Nat → ClassId) (ad : Nat → Nat) (so : Int64) (f : Nat → Int32) (k : Nat) : va_E :=
  if k = 0 then .inr (7, [.ref (ad 1), .ref (ad 2), .ref (ad 5), .ref (ad 106), .ref (ad 108), .ref (ad 350), .ref (ad 354), .ref (ad 419), .ref (ad 421), .ref (ad 423), .int (f 10), .int (f 11)])
  else if k = 1 then .inr (5, [.long so])
  else if k = 2 then .inr (4, [.ref (ad 3), .ref (ad 4)])
  else if k = 3 then tI ct 8 f
  else if k = 4 then tI ct 32 f
  else if k = 5 then .inr (3, [.ref (ad 6), .ref (ad 39), .ref (ad 104), .ref (ad 105)])
  else if k = 6 then tQ (ct 2) 32 (fun i => some (ad (7 + i)))
  else if k < 39 then tI ct 64 f
  else if k = 39 then tQ (ct 2) 64 (fun i => some (ad (40 + i)))
  else if k < 104 then tI ct 9 f
  else if k < 106 then tI ct 64 f
  else if k = 106 then .inr (6, [.ref (ad 5), .ref (ad 107)])
  else if k = 107 then tI ct 9 f
  else if k = 108 then .inr (2, [.ref (ad 109), .int (f 1)])
  else if k = 109 then tQ (ct 1) 120 (fun i => some (ad (110 + 2 * i)))
  else if k < 350 then (if k % 2 = 0 then tCell ad f k else tI ct 9 f)
  else if k = 350 then .inr (1, [.ref (ad 351), .ref (ad 352), .ref (ad 353), .int (f 3)])
  else if k < 354 then tI ct 24 f
  else if k = 354 then tQ (ct 1) 32 (fun i => some (ad (355 + 2 * i)))
  else if k < 423 then (if k % 2 = 1 then tCell ad f k else tI ct 9 f)
  else tI ct 9 f
/-- places of a row, of a cell, of a pair of ring elements -/
def tRow (k : Nat) : Prop := (40 ≤ k ∧ k < 104) ∨ k = 107 ∨ (110 ≤ k ∧ k < 350 ∧ k % 2 = 1) ∨ (355 ≤ k ∧ k < 424 ∧ (k % 2 = 0 ∨ k = 423))
def tCe (k : Nat) : Prop := (110 ≤ k ∧ k < 350 ∧ k % 2 = 0) ∨ (355 ≤ k ∧ k < 423 ∧ k % 2 = 1)
def tPair (k : Nat) : Prop := (7 ≤ k ∧ k < 39) ∨ k = 104 ∨ k = 105
theorem tCe_row {k : Nat} (h : tCe k) : tRow (k + 1) := by unfold tCe at h; unfold tRow; omega
theorem tRow_lt {k : Nat} (h : tRow k) : k < 424 := by unfold tRow at h; omega
theorem tCe_lt {k : Nat} (h : tCe k) : k < 424 := by unfold tCe at h; omega
theorem tPair_lt {k : Nat} (h : tPair k) : k < 424 := by unfold tPair at h; omega
theorem tCe_led {c : Nat} (h : c < 120) : tCe (110 + 2 * c) := by unfold tCe; omega
theorem tCe_pl {c : Nat} (h : c < 32) : tCe (355 + 2 * c) := by unfold tCe; omega
theorem tE_row {ct : Nat → ClassId} {ad : Nat → Nat} {so : Int64} {f : Nat → Int32} {k : Nat} (h : tRow k) : tE ct ad so f k = tI ct 9 f := by
  unfold tRow at h
  unfold tE
  by_cases h1 : k < 104
  · rw [if_neg (by omega), if_neg (by omega), if_neg (by omega), if_neg (by omega), if_neg (by omega), if_neg (by omega), if_neg (by omega), if_neg (by omega), if_neg (by omega), if_pos h1]
  · rw [if_neg (by omega), if_neg (by omega), if_neg (by omega), if_neg (by omega), if_neg (by omega), if_neg (by omega), if_neg (by omega), if_neg (by omega), if_neg (by omega), if_neg h1, if_neg (by omega), if_neg (by omega)]
    by_cases h2 : k = 107
    · rw [if_pos h2]
    · rw [if_neg h2, if_neg (by omega), if_neg (by omega)]
      by_cases h3 : k < 350
      · rw [if_pos h3, if_neg (by omega)]
      · rw [if_neg h3, if_neg (by omega), if_neg (by omega), if_neg (by omega)]
        by_cases h4 : k < 423
        · rw [if_pos h4, if_neg (by omega)]
        · rw [if_neg h4]
theorem tE_cell {ct : Nat → ClassId} {ad : Nat → Nat} {so : Int64} {f : Nat → Int32} {k : Nat} (h : tCe k) : tE ct ad so f k = tCell ad f k := by
  unfold tCe at h
  unfold tE
  rw [if_neg (by omega), if_neg (by omega), if_neg (by omega), if_neg (by omega), if_neg (by omega), if_neg (by omega), if_neg (by omega), if_neg (by omega), if_neg (by omega), if_neg (by omega), if_neg (by omega), if_neg (by omega), if_neg (by omega), if_neg (by omega), if_neg (by omega)]
  by_cases h3 : k < 350
  · rw [if_pos h3, if_pos (by omega)]
  · rw [if_neg h3, if_neg (by omega), if_neg (by omega), if_neg (by omega), if_pos (by omega), if_pos (by omega)]
theorem tE_pair {ct : Nat → ClassId} {ad : Nat → Nat} {so : Int64} {f : Nat → Int32} {k : Nat} (h : tPair k) : tE ct ad so f k = tI ct 64 f := by
  unfold tPair at h
  unfold tE
  rw [if_neg (by omega), if_neg (by omega), if_neg (by omega), if_neg (by omega), if_neg (by omega), if_neg (by omega), if_neg (by omega)]
  by_cases h3 : k < 39
  · rw [if_pos h3]
  · rw [if_neg h3, if_neg (by omega), if_neg (by omega), if_pos (by omega)]
/-- a state of the object: its numbers by place, and the source's state -/
abbrev tS : Type := (Nat → Nat → Int32) × Int64
def tD (ct : Nat → ClassId) (ad : Nat → Nat) (x : tS) (k : Nat) : va_E := tE ct ad x.2 (x.1 k) k
/-- one place's numbers anew -/
def tU (x : tS) (k : Nat) (f : Nat → Int32) : tS := (va_up x.1 k f, x.2)
theorem tU_1 {x : tS} {k : Nat} {f : Nat → Int32} : (tU x k f).1 k = f := va_up_self _ _ _
theorem tU_n {x : tS} {k j : Nat} {f : Nat → Int32} (h : j ≠ k) : (tU x k f).1 j = x.1 j := va_up_ne _ _ h
theorem tU_2 {x : tS} {k : Nat} {f : Nat → Int32} : (tU x k f).2 = x.2 := rfl
theorem tD_up {ct : Nat → ClassId} {ad : Nat → Nat} {x : tS} {k : Nat} {f : Nat → Int32} : va_up (tD ct ad x) k (tE ct ad x.2 f k) = tD ct ad (tU x k f) := by
  funext j
  by_cases h : j = k
  · subst h
    rw [va_up_self]
    unfold tD
    rw [tU_1, tU_2]
  · rw [va_up_ne _ _ h]
    unfold tD
    rw [tU_n h, tU_2]
theorem tD_so {ct : Nat → ClassId} {ad : Nat → Nat} {x : tS} {z : Int64} : va_up (tD ct ad x) 1 (.inr (5, [.long z])) = tD ct ad (x.1, z) := by
  funext j
  by_cases h : j = 1
  · subst h
    rw [va_up_self]
    rfl
  · rw [va_up_ne _ _ h]
    unfold tD tE
    simp only [if_neg h]
section TGR
variable {p : Program} {l : Launch} {e : Env} {R : Room} {s : State} {m : MethodId} {args : Array Value} {below : List Frame} {meth : Method} {c : Code} {H : Heap} {locs : List Loc} {cells slots : Nat} {Q : State → Prop}
variable {cc : ByteArray} {pc : Nat} {ls : Array Slot} {rest : List Value} {D : va_G} {ct : Nat → ClassId} {ad : Nat → Nat} {x : tS} {A : Nat → Prop} {H0 : Heap}
/-- a reference field, a number field -/
theorem t_get (hx : p.tables.exec = Jvm.exec) (hb : c.code = cc) {own C : String} {T : u_T} {N ci index : Nat} (htw : ∀ w ∈ wW, w.before args s = true) (hin : ∀ w ∈ u_ws C T N, w ∈ wW) (hown : s.vm.findClass own = some m.cls) (hK : va_K D cL (tT ct) s) (hP : va_P D cL (gw 424 ad (tD ct ad x)) H) (k0 : Nat) (h0 : k0 < 424) {fs : List Value} (he : tE ct ad x.2 (x.1 k0) k0 = .inr (ci, fs)) (hc : cL[ci]? = some (C, T, N)) (k : Nat) (hk : k < N) (hT : (T k).1 = C) (hlink : Cond.fieldLink own index C (T k).2.1 (T k).2.2.1 ∈ wW) {v : Value} (hv : fs[k]? = some v) (hdg : decode cc pc = .ok (.getfield index, 3))
    (kk : W p l e R s m args below meth c H locs cells slots Q (F0 m (pc + 3) ls (v :: rest))) : W p l e R s m args below meth c H locs cells slots Q (F0 m pc ls (.ref (ad k0) :: rest)) :=
  gw_get hx hb htw hin hown hK hP k0 h0 he hc k hk (htw _ hlink) (fun _ h => by rw [hT] at h; exact h) hv hdg kk
theorem t_put (hx : p.tables.exec = Jvm.exec) (hb : c.code = cc) {own C : String} {T : u_T} {N ci index : Nat} (htw : ∀ w ∈ wW, w.before args s = true) (hin : ∀ w ∈ u_ws C T N, w ∈ wW) (ty0 : Nat → FieldType) (hty : ∀ k, k < N → parseFieldDescriptor (T k).2.2.1 = some (ty0 k)) (hnm : ∀ a, a < N → ∀ b, b < N → a ≠ b → (T a).2.1 ≠ (T b).2.1) (hown : s.vm.findClass own = some m.cls) (hK : va_K D cL (tT ct) s) (hI : gw_inj 424 ad) (hA : ∀ k, k < 424 → A (ad k)) (hP : va_P D cL (gw 424 ad (tD ct ad x)) H) (hS : va_S A H0 H locs) (k0 : Nat) (h0 : k0 < 424) {fs : List Value} (he : tE ct ad x.2 (x.1 k0) k0 = .inr (ci, fs)) (hc : cL[ci]? = some (C, T, N)) (k : Nat) (hk : k < N) (hT : (T k).1 = C) (hlink : Cond.fieldLink own index C (T k).2.1 (T k).2.2.1 ∈ wW) (hfin : (T k).2.2.2 = false) {v : Int32} (hn : narrow (ty0 k) (.int v) = .int v) (hfit : fits (ty0 k) (.int v) = true) (hl : k < fs.length) (he' : .inr (ci, fs.set k (.int v)) = tE ct ad x.2 (upd (x.1 k0) k v) k0)
    (hdg : decode cc pc = .ok (.putfield index, 3)) (kk : ∀ (H1 : Heap) (locs1 : List Loc), va_P D cL (gw 424 ad (tD ct ad (tU x k0 (upd (x.1 k0) k v)))) H1 → va_S A H0 H1 locs1 → W p l e R s m args below meth c H1 locs1 cells slots Q (F0 m (pc + 3) ls rest)) : W p l e R s m args below meth c H locs cells slots Q (F0 m pc ls (.int v :: .ref (ad k0) :: rest)) :=
  gw_put hx hb htw hin ty0 hty hnm hown hK hI hA hP hS k0 h0 he hc k hk (htw _ hlink) (fun _ h => by rw [hT] at h; exact h) hfin (hty k hk) hn hfit hl hdg (fun H1 locs1 h1 h2 => kk H1 locs1 (by rw [he', tD_up] at h1; exact h1) h2)
/-- the source's state is written -/
theorem t_putL (hx : p.tables.exec = Jvm.exec) (hb : c.code = cc) {index : Nat} (htw : ∀ w ∈ wW, w.before args s = true) (hown : s.vm.findClass cN_So = some m.cls) (hK : va_K D cL (tT ct) s) (hI : gw_inj 424 ad) (hA : ∀ k, k < 424 → A (ad k)) (hP : va_P D cL (gw 424 ad (tD ct ad x)) H) (hS : va_S A H0 H locs) (hlink : Cond.fieldLink cN_So index cN_So "state" "J" ∈ wW) {v : Int64}
    (hdg : decode cc pc = .ok (.putfield index, 3)) (kk : ∀ (H1 : Heap) (locs1 : List Loc), va_P D cL (gw 424 ad (tD ct ad (x.1, v))) H1 → va_S A H0 H1 locs1 → W p l e R s m args below meth c H1 locs1 cells slots Q (F0 m (pc + 3) ls rest)) : W p l e R s m args below meth c H locs cells slots Q (F0 m pc ls (.long v :: .ref (ad 1) :: rest)) :=
  gw_put (C := cN_So) (T := cF_So) (N := 1) (ci := 5) (fs := [.long x.2]) hx hb htw wU_So cT_So cO_So cM_So hown hK hI hA hP hS 1 (by decide) rfl rfl 0 (by decide) (htw _ hlink) (fun _ h => h) rfl (cO_So 0 (by decide)) rfl rfl Nat.zero_lt_one hdg (fun H1 locs1 h1 h2 => kk H1 locs1 (by rw [← tD_so]; exact h1) h2)
theorem t_iald (hx : p.tables.exec = Jvm.exec) (hb : c.code = cc) (hK : va_K D cL (tT ct) s) (hP : va_P D cL (gw 424 ad (tD ct ad x)) H) (k0 N : Nat) (h0 : k0 < 424) (he : tE ct ad x.2 (x.1 k0) k0 = tI ct N (x.1 k0)) {i : Int32} (j : Nat) (hi : i = nI j) (hj : j < N) (hN : N < 2 ^ 31) (hdg : decode cc pc = .ok (.iaload, 1))
    (kk : W p l e R s m args below meth c H locs cells slots Q (F0 m (pc + 1) ls (.int (x.1 k0 j) :: rest))) : W p l e R s m args below meth c H locs cells slots Q (F0 m pc ls (.int i :: .ref (ad k0) :: rest)) :=
  gw_iald hx hb hK hP k0 0 h0 he rfl j hi hj hN hdg kk
theorem t_iast (hx : p.tables.exec = Jvm.exec) (hb : c.code = cc) (hK : va_K D cL (tT ct) s) (hI : gw_inj 424 ad) (hA : ∀ k, k < 424 → A (ad k)) (hP : va_P D cL (gw 424 ad (tD ct ad x)) H) (hS : va_S A H0 H locs) (k0 N : Nat) (h0 : k0 < 424) (he : ∀ f, tE ct ad x.2 f k0 = tI ct N f) {i v : Int32} (j : Nat) (hi : i = nI j) (hj : j < N) (hN : N < 2 ^ 31) (hdg : decode cc pc = .ok (.iastore, 1))
    (kk : ∀ (H1 : Heap) (locs1 : List Loc), va_P D cL (gw 424 ad (tD ct ad (tU x k0 (upd (x.1 k0) j v)))) H1 → va_S A H0 H1 locs1 → W p l e R s m args below meth c H1 locs1 cells slots Q (F0 m (pc + 1) ls rest)) : W p l e R s m args below meth c H locs cells slots Q (F0 m pc ls (.int v :: .int i :: .ref (ad k0) :: rest)) :=
  gw_iast hx hb hK hI hA hP hS k0 0 h0 (he _) rfl j hi hj hN hdg (fun H1 locs1 h1 h2 => kk H1 locs1 (by rw [← tD_up, he]; exact h1) h2)
/-- Cell[] -/
theorem t_aldq (hx : p.tables.exec = Jvm.exec) (hb : c.code = cc) (hK : va_K D cL (tT ct) s) (hP : va_P D cL (gw 424 ad (tD ct ad x)) H) (k0 N : Nat) (h0 : k0 < 424) {g : Nat → Option Nat} (he : tE ct ad x.2 (x.1 k0) k0 = tQ (ct 1) N g) {i : Int32} (j : Nat) {q : Nat} (hi : i = nI j) (hj : j < N) (hN : N < 2 ^ 31) (hq : g j = some q) (hdg : decode cc pc = .ok (.aaload, 1))
    (kk : W p l e R s m args below meth c H locs cells slots Q (F0 m (pc + 1) ls (.ref q :: rest))) : W p l e R s m args below meth c H locs cells slots Q (F0 m pc ls (.int i :: .ref (ad k0) :: rest)) :=
  gw_aldq hx hb hK hP k0 1 h0 he rfl j hi hj hN hq hdg kk
/-- int[][] -/
theorem t_alda (hx : p.tables.exec = Jvm.exec) (hb : c.code = cc) (hK : va_K D cL (tT ct) s) (hP : va_P D cL (gw 424 ad (tD ct ad x)) H) (k0 N : Nat) (h0 : k0 < 424) {g : Nat → Option Nat} (he : tE ct ad x.2 (x.1 k0) k0 = tQ (ct 2) N g) {i : Int32} (j : Nat) {q : Nat} (hi : i = nI j) (hj : j < N) (hN : N < 2 ^ 31) (hq : g j = some q) (hdg : decode cc pc = .ok (.aaload, 1))
    (kk : W p l e R s m args below meth c H locs cells slots Q (F0 m (pc + 1) ls (.ref q :: rest))) : W p l e R s m args below meth c H locs cells slots Q (F0 m pc ls (.int i :: .ref (ad k0) :: rest)) := by
  subst hi
  have hin : vp_in (nI j) N := vp_in_nI hj hN
  refine W.aald hx hb (hP k0 _ (gw_at' h0 he)) ((hK.2 2 _ rfl).1 N (fun j => va_rf (g j))) rfl (fun q => by cases q) (by show ¬ (nI j < 0 ∨ (arrV _ _ _).slots.size ≤ _); rw [arrV_size]; exact hin) (v := .ref q) ?_ rfl rfl hdg kk
  show (arrV _ _ _).slots[_]? = _
  rw [nI_clamp (by omega), arrV_read _ _ hj, hq]
  rfl
end TGR
end
section
/-! parameters of methods, counted. Printed by program. -/
theorem mP_TG_init : mP mY_TG_init 0 := by decide +kernel
theorem mP_TG_key : mP mY_TG_key 1 := by decide +kernel
theorem mP_TG_bit : mP mY_TG_bit 1 := by decide +kernel
theorem mP_TG_drop : mP mY_TG_drop 1 := by decide +kernel
theorem mP_TG_not : mP mY_TG_not 1 := by decide +kernel
theorem mP_TG_blur : mP mY_TG_blur 2 := by decide +kernel
theorem mP_TG_pile : mP mY_TG_pile 2 := by decide +kernel
theorem mP_TG_gate : mP mY_TG_gate 3 := by decide +kernel
theorem mP_TG_choose : mP mY_TG_choose 3 := by decide +kernel
theorem mP_TG_open : mP mY_TG_open 1 := by decide +kernel
theorem mP_TG_bound : mP mY_TG_bound 1 := by decide +kernel
theorem mP_TG_within : mP mY_TG_within 1 := by decide +kernel
theorem mP_TG_line : mP mY_TG_line 3 := by decide +kernel
theorem mP_TG_play : mP mY_TG_play 2 := by decide +kernel
theorem mP_TG_clear : mP mY_TG_clear 0 := by decide +kernel
theorem mP_TG_count : mP mY_TG_count 1 := by decide +kernel
theorem mP_TG_makeKey : mP mY_TG_makeKey 1 := by decide +kernel
theorem mP_TG_cellOf : mP mY_TG_cellOf 1 := by decide +kernel
theorem mP_TG_freeNumber : mP mY_TG_freeNumber 0 := by decide +kernel
theorem mP_TG_checkKind : mP mY_TG_checkKind 1 := by decide +kernel
theorem mP_TG_checkRange : mP mY_TG_checkRange 2 := by decide +kernel
theorem mP_TG_checkedBound : mP mY_TG_checkedBound 1 := by decide +kernel
theorem mP_TG_refuseIf : mP mY_TG_refuseIf 1 := by decide +kernel
theorem mP_TG_fillNew : mP mY_TG_fillNew 2 := by decide +kernel
theorem mP_TG_runGate : mP mY_TG_runGate 4 := by decide +kernel
theorem mP_TG_isTooFar : mP mY_TG_isTooFar 3 := by decide +kernel
theorem mP_TG_placeFor : mP mY_TG_placeFor 1 := by decide +kernel
theorem mP_TG_truth : mP mY_TG_truth 3 := by decide +kernel
theorem mP_Mo_init : mP mY_Mo_init 0 := by decide +kernel
theorem mP_Mo_thrown : mP mY_Mo_thrown 0 := by decide +kernel
theorem mP_Mo_goes : mP mY_Mo_goes 3 := by decide +kernel
theorem mP_Mo_isBit : mP mY_Mo_isBit 1 := by decide +kernel
theorem mP_Mo_many : mP mY_Mo_many 0 := by decide +kernel
theorem mP_Mo_made : mP mY_Mo_made 2 := by decide +kernel
theorem mP_Mo_key : mP mY_Mo_key 1 := by decide +kernel
theorem mP_Mo_bit : mP mY_Mo_bit 1 := by decide +kernel
theorem mP_Mo_drop : mP mY_Mo_drop 1 := by decide +kernel
theorem mP_Mo_not : mP mY_Mo_not 1 := by decide +kernel
theorem mP_Mo_bounded : mP mY_Mo_bounded 2 := by decide +kernel
theorem mP_Mo_blur : mP mY_Mo_blur 2 := by decide +kernel
theorem mP_Mo_pile : mP mY_Mo_pile 2 := by decide +kernel
theorem mP_Mo_value : mP mY_Mo_value 3 := by decide +kernel
theorem mP_Mo_great : mP mY_Mo_great 3 := by decide +kernel
theorem mP_Mo_isGate : mP mY_Mo_isGate 1 := by decide +kernel
theorem mP_Mo_gate : mP mY_Mo_gate 3 := by decide +kernel
theorem mP_Mo_choose : mP mY_Mo_choose 3 := by decide +kernel
theorem mP_Mo_open : mP mY_Mo_open 1 := by decide +kernel
theorem mP_Mo_bound : mP mY_Mo_bound 1 := by decide +kernel
theorem mP_Mo_within : mP mY_Mo_within 1 := by decide +kernel
theorem mP_Mo_isAhead : mP mY_Mo_isAhead 1 := by decide +kernel
theorem mP_Mo_line : mP mY_Mo_line 3 := by decide +kernel
theorem mP_Mo_play : mP mY_Mo_play 2 := by decide +kernel
theorem mP_Mo_clear : mP mY_Mo_clear 0 := by decide +kernel
theorem mP_Mo_count : mP mY_Mo_count 1 := by decide +kernel
theorem mP_Ce_init : mP mY_Ce_init 0 := by decide +kernel
theorem mP_Ce_becomeLike : mP mY_Ce_becomeLike 1 := by decide +kernel
theorem mP_Ce_becomeOpposite : mP mY_Ce_becomeOpposite 1 := by decide +kernel
theorem mP_Ce_addRow : mP mY_Ce_addRow 1 := by decide +kernel
theorem mP_Ce_multiply : mP mY_Ce_multiply 1 := by decide +kernel
theorem mP_Ci_init : mP mY_Ci_init 0 := by decide +kernel
theorem mP_Ci_isAhead : mP mY_Ci_isAhead 1 := by decide +kernel
theorem mP_Ci_hasLine : mP mY_Ci_hasLine 1 := by decide +kernel
theorem mP_Ci_add : mP mY_Ci_add 3 := by decide +kernel
theorem mP_Ci_removeAll : mP mY_Ci_removeAll 0 := by decide +kernel
theorem mP_Di_digit : mP mY_Di_digit 2 := by decide +kernel
theorem mP_Di_weight : mP mY_Di_weight 1 := by decide +kernel
theorem mP_Le_init : mP mY_Le_init 0 := by decide +kernel
theorem mP_Le_holds : mP mY_Le_holds 1 := by decide +kernel
theorem mP_Le_leastFree : mP mY_Le_leastFree 0 := by decide +kernel
theorem mP_Le_take : mP mY_Le_take 1 := by decide +kernel
theorem mP_Le_remove : mP mY_Le_remove 1 := by decide +kernel
theorem mP_Le_removeAll : mP mY_Le_removeAll 0 := by decide +kernel
theorem mP_Le_greatestBound : mP mY_Le_greatestBound 0 := by decide +kernel
theorem mP_Re_init : mP mY_Re_init 0 := by decide +kernel
theorem mP_Re_renew : mP mY_Re_renew 2 := by decide +kernel
theorem mP_Re_renewStep : mP mY_Re_renewStep 3 := by decide +kernel
theorem mP_Re_refresh : mP mY_Re_refresh 2 := by decide +kernel
theorem mP_Re_roundToPlaces : mP mY_Re_roundToPlaces 1 := by decide +kernel
theorem mP_Re_startWheel : mP mY_Re_startWheel 1 := by decide +kernel
theorem mP_Re_turnIfKeyBit : mP mY_Re_turnIfKeyBit 2 := by decide +kernel
theorem mP_Re_addChange : mP mY_Re_addChange 3 := by decide +kernel
theorem mP_Re_comeBack : mP mY_Re_comeBack 1 := by decide +kernel
theorem mP_Re_subtract : mP mY_Re_subtract 3 := by decide +kernel
theorem mP_Ri_addTurned : mP mY_Ri_addTurned 6 := by decide +kernel
theorem mP_Ri_turned : mP mY_Ri_turned 4 := by decide +kernel
theorem mP_Se_init : mP mY_Se_init 0 := by decide +kernel
theorem mP_Se_renew : mP mY_Se_renew 1 := by decide +kernel
theorem mP_Se_drawBits : mP mY_Se_drawBits 3 := by decide +kernel
theorem mP_Se_hide : mP mY_Se_hide 4 := by decide +kernel
theorem mP_Se_placeOf : mP mY_Se_placeOf 1 := by decide +kernel
theorem mP_Se_hideNothing : mP mY_Se_hideNothing 2 := by decide +kernel
theorem mP_So_init : mP mY_So_init 0 := by decide +kernel
theorem mP_So_restart : mP mY_So_restart 1 := by decide +kernel
theorem mP_So_draw : mP mY_So_draw 0 := by decide +kernel
theorem mP_So_drawNoise : mP mY_So_drawNoise 1 := by decide +kernel
theorem mP_Wo_init : mP mY_Wo_init 1 := by decide +kernel
theorem mP_Wo_work : mP mY_Wo_work 4 := by decide +kernel
theorem mP_La_bit : mP mY_La_bit 3 := by decide +kernel
theorem mP_La_drop : mP mY_La_drop 3 := by decide +kernel
theorem mP_La_not : mP mY_La_not 3 := by decide +kernel
theorem mP_La_blur : mP mY_La_blur 4 := by decide +kernel
theorem mP_La_pile : mP mY_La_pile 4 := by decide +kernel
theorem mP_La_gate : mP mY_La_gate 5 := by decide +kernel
theorem mP_La_choose : mP mY_La_choose 5 := by decide +kernel
theorem mP_La_open : mP mY_La_open 3 := by decide +kernel
theorem mP_La_bound : mP mY_La_bound 3 := by decide +kernel
theorem mP_La_within : mP mY_La_within 3 := by decide +kernel
theorem mP_La_line : mP mY_La_line 5 := by decide +kernel
theorem mP_La_play : mP mY_La_play 4 := by decide +kernel
theorem mP_La_count : mP mY_La_count 3 := by decide +kernel
end
section
/-! numbers as the machine makes them: digits, weights, turns, places, noise. My own. -/
theorem tn_of (n : Nat) : Int32.ofInt (n : Int) = nI n := Int32.ofInt_eq_ofNat
theorem tn_dg {a : Int32} {w : Nat} (hw : w < 2) : (((a + (-2145384448 : Int32)).toUInt32 >>> ((nI 22 - (nI 10 * nI w)).toUInt32 &&& Int32.toUInt32 31)).toInt32 &&& nI 1023) - nI 512 = tp_dg w a := by
  have hy := tp_y_lt a
  rcases (show w = 0 ∨ w = 1 by omega) with rfl | rfl
  · rw [pk_and _ (m := nI 1023) 10 (by decide), pk_ushr _ _ 22 (by decide)]
    show nI (tp_y a / 2 ^ 22 % 2 ^ 10) - nI 512 = Int32.ofInt ((tp_y a / 4194304 : Nat) : Int) - 512
    rw [tn_of, show tp_y a / 2 ^ 22 % 2 ^ 10 = tp_y a / 4194304 by omega]
    rfl
  · rw [pk_and _ (m := nI 1023) 10 (by decide), pk_ushr _ _ 12 (by decide)]
    show nI (tp_y a / 2 ^ 12 % 2 ^ 10) - nI 512 = Int32.ofInt ((tp_y a / 4096 % 1024 : Nat) : Int) - 512
    rw [tn_of]
    rfl
theorem tn_w {w : Nat} (hw : w < 2) : nI 1 <<< ((nI 22 - (nI 10 * nI w)) &&& 31) = tp_W w := by
  rcases (show w = 0 ∨ w = 1 by omega) with rfl | rfl <;> decide
theorem tn_turn {i T : Nat} (hi : i < 64) (hT : T < 64) : (nI i - nI T) &&& nI 63 = nI ((i + 64 - T) % 64) := by
  rw [pk_and _ (m := nI 63) 6 (by decide)]
  congr 1
  have h : (nI i - nI T).toBitVec.toNat = (2 ^ 32 - T + i) % 2 ^ 32 := by
    rw [Int32.toBitVec_sub, BitVec.toNat_sub, pk_tn (by omega), pk_tn (by omega)]
  rw [h]
  omega
theorem tn_rd (a : Int32) : ((a + (33554432 : Int32)).toUInt32 >>> ((nI 26).toUInt32 &&& Int32.toUInt32 31)).toInt32 = nI (tp_rd a) := by
  have h := pk_ushr (a + (33554432 : Int32)) (nI 26) 26 (by decide)
  have e : ∀ x y : Int32, x.toBitVec.toNat = y.toBitVec.toNat → x = y := fun x y q => Int32.toBitVec.inj (BitVec.eq_of_toNat_eq q)
  apply e
  rw [h, pk_tn (by have := tp_rd_lt a; omega)]
  rfl
theorem tn_noise (r : Int32) {b k n : Nat} (hs : (((nI 32 - nI b).toUInt32 &&& Int32.toUInt32 31).toBitVec % 32).toNat = k) (h1 : nI 1 <<< ((nI b - nI 1) &&& 31) = nI n) (hk : 2 ^ 32 / 2 ^ k ≤ 2 * n) (hk2 : 2 ^ k * (2 ^ 32 / 2 ^ k) = 2 ^ 32) (hn : n < 2 ^ 30) : tp_sm n ((r.toUInt32 >>> ((nI 32 - nI b).toUInt32 &&& Int32.toUInt32 31)).toInt32 - (nI 1 <<< ((nI b - nI 1) &&& 31))) := by
  have h := pk_ushr r (nI 32 - nI b) k hs
  have hlt : r.toBitVec.toNat / 2 ^ k < 2 ^ 32 / 2 ^ k := Nat.div_lt_of_lt_mul (by rw [hk2]; exact r.toBitVec.isLt)
  have e : ∀ x y : Int32, x.toBitVec.toNat = y.toBitVec.toNat → x = y := fun x y q => Int32.toBitVec.inj (BitVec.eq_of_toNat_eq q)
  have h2 : (r.toUInt32 >>> ((nI 32 - nI b).toUInt32 &&& Int32.toUInt32 31)).toInt32 = nI (r.toBitVec.toNat / 2 ^ k) := by
    apply e
    rw [h, pk_tn (by omega)]
  rw [h2, h1]
  generalize r.toBitVec.toNat / 2 ^ k = q at hlt
  refine ⟨(q : Int) - n, by omega, ?_⟩
  rw [Int32.ofInt_sub, tn_of, tn_of]
theorem tn_noise5 (r : Int32) : tp_sm 16 ((r.toUInt32 >>> ((nI 32 - nI 5).toUInt32 &&& Int32.toUInt32 31)).toInt32 - (nI 1 <<< ((nI 5 - nI 1) &&& 31))) := tn_noise r (b := 5) (k := 27) (n := 16) (by decide) (by decide) (by decide) (by decide) (by decide)
theorem tn_noise3 (r : Int32) : tp_sm 4 ((r.toUInt32 >>> ((nI 32 - nI 3).toUInt32 &&& Int32.toUInt32 31)).toInt32 - (nI 1 <<< ((nI 3 - nI 1) &&& 31))) := tn_noise r (b := 3) (k := 29) (n := 4) (by decide) (by decide) (by decide) (by decide) (by decide)
/-- a bit: the top one -/
theorem tn_bit (r : Int32) : tp_bit (r.toUInt32 >>> ((nI 31).toUInt32 &&& Int32.toUInt32 31)).toInt32 := by
  have h := pk_ushr r (nI 31) 31 (by decide)
  have hlt := r.toBitVec.isLt
  have e : ∀ x y : Int32, x.toBitVec.toNat = y.toBitVec.toNat → x = y := fun x y q => Int32.toBitVec.inj (BitVec.eq_of_toNat_eq q)
  rcases (show r.toBitVec.toNat / 2 ^ 31 = 0 ∨ r.toBitVec.toNat / 2 ^ 31 = 1 by omega) with q | q
  · exact Or.inl (e _ _ (by rw [h, q]; rfl))
  · exact Or.inr (e _ _ (by rw [h, q]; rfl))
end
section
/-! leaves: digits, weights, turned numbers, places, the source. Laid by wip/whole/part_leaf.py. -/
abbrev rF (f lo : Nat) : Room := { frames := f, cells := 0, slots := 0, locals := lo }
theorem gw_nmQ {p : Program} {l : Launch} {e : Env} {R : Room} {s : State} {m : MethodId} {args : Array Value} {below : List Frame} {meth : Method} {c : Code} {H : Heap} {locs : List Loc} {cells slots : Nat} {Q : State → Prop} {g : JFrame}
    (k : ∀ Q' : State → Prop, Q' = Q → W p l e R s m args below meth c H locs cells slots Q' g) : W p l e R s m args below meth c H locs cells slots Q g := k Q rfl

set_option maxHeartbeats 4000000 in
set_option maxRecDepth 100000 in
theorem k_Di_digit (l : Launch) (D : va_G) (ct : Nat → ClassId) (ad : Nat → Nat) (hI : gw_inj 424 ad) (x : tS) (a : Int32) {w : Nat} (hw : w < 2) : gMi l mY_Di_digit mB_Di_digit 2 (some .int) (rF 0 0) D (tT ct) gZ0 424 ad (tD ct ad) [.int a, .int (nI w)] x (fun r x' => x' = x ∧ r = tp_dg w a) := by
  refine gMi_enter (by decide) (Nat.le_of_ble_eq_true rfl) ?_
  intro p e s m below meth c ls hx hb hr htw hown hlocks hml hl hP hK hZ hS
  have hA : ∀ k, k < 424 → gA 424 ad s.heap.size (ad k) := fun _ h => gA_in h
  have hl : lv_has ls 2 [(0, .int a), (1, .int (nI w))] := hl
  refine lv_iload_n hx hb mD_Di_digit_0 rfl (lv_at hl 0 rfl) ?_
  refine lv_ldc hx hb hown (htw _ ww_544) mD_Di_digit_1 ?_
  refine lv_iadd hx hb mD_Di_digit_3 ?_
  refine lv_bipush (v := nI 22) hx hb mD_Di_digit_4 (by decide) ?_
  refine lv_bipush (v := nI 10) hx hb mD_Di_digit_6 (by decide) ?_
  refine lv_iload_n hx hb mD_Di_digit_8 rfl (lv_at hl 1 rfl) ?_
  refine lv_imul hx hb mD_Di_digit_9 ?_
  refine lv_isub hx hb mD_Di_digit_10 ?_
  refine lv_iushr hx hb mD_Di_digit_11 rfl ?_
  refine lv_sipush (v := nI 1023) hx hb mD_Di_digit_12 (by decide) ?_
  refine lv_iand hx hb mD_Di_digit_15 ?_
  refine lv_sipush (v := nI 512) hx hb mD_Di_digit_16 (by decide) ?_
  refine lv_isub hx hb mD_Di_digit_19 ?_
  exact gw_iret hx hb hr hlocks hP hS (⟨rfl, tn_dg hw⟩) mD_Di_digit_20 (Nat.zero_le _) (Nat.zero_le _)

set_option maxHeartbeats 4000000 in
set_option maxRecDepth 100000 in
theorem k_Di_weight (l : Launch) (D : va_G) (ct : Nat → ClassId) (ad : Nat → Nat) (hI : gw_inj 424 ad) (x : tS) {w : Nat} (hw : w < 2) : gMi l mY_Di_weight mB_Di_weight 1 (some .int) (rF 0 0) D (tT ct) gZ0 424 ad (tD ct ad) [.int (nI w)] x (fun r x' => x' = x ∧ r = tp_W w) := by
  refine gMi_enter (by decide) (Nat.le_of_ble_eq_true rfl) ?_
  intro p e s m below meth c ls hx hb hr htw hown hlocks hml hl hP hK hZ hS
  have hA : ∀ k, k < 424 → gA 424 ad s.heap.size (ad k) := fun _ h => gA_in h
  have hl : lv_has ls 1 [(0, .int (nI w))] := hl
  refine lv_iconst (v := nI 1) hx hb mD_Di_weight_0 (by decide) ?_
  refine lv_bipush (v := nI 22) hx hb mD_Di_weight_1 (by decide) ?_
  refine lv_bipush (v := nI 10) hx hb mD_Di_weight_3 (by decide) ?_
  refine lv_iload_n hx hb mD_Di_weight_5 rfl (lv_at hl 0 rfl) ?_
  refine lv_imul hx hb mD_Di_weight_6 ?_
  refine lv_isub hx hb mD_Di_weight_7 ?_
  refine lv_ishl hx hb mD_Di_weight_8 ?_
  exact gw_iret hx hb hr hlocks hP hS (⟨rfl, tn_w hw⟩) mD_Di_weight_9 (Nat.zero_le _) (Nat.zero_le _)

set_option maxHeartbeats 4000000 in
set_option maxRecDepth 100000 in
theorem k_Re_roundToPlaces (l : Launch) (D : va_G) (ct : Nat → ClassId) (ad : Nat → Nat) (hI : gw_inj 424 ad) (x : tS) (a : Int32) : gMi l mY_Re_roundToPlaces mB_Re_roundToPlaces 1 (some .int) (rF 0 0) D (tT ct) gZ0 424 ad (tD ct ad) [.int a] x (fun r x' => x' = x ∧ r = nI (tp_rd a)) := by
  refine gMi_enter (by decide) (Nat.le_of_ble_eq_true rfl) ?_
  intro p e s m below meth c ls hx hb hr htw hown hlocks hml hl hP hK hZ hS
  have hA : ∀ k, k < 424 → gA 424 ad s.heap.size (ad k) := fun _ h => gA_in h
  have hl : lv_has ls 1 [(0, .int a)] := hl
  refine lv_iload_n hx hb mD_Re_roundToPlaces_0 rfl (lv_at hl 0 rfl) ?_
  refine lv_ldc hx hb hown (htw _ ww_523) mD_Re_roundToPlaces_1 ?_
  refine lv_iadd hx hb mD_Re_roundToPlaces_3 ?_
  refine lv_bipush (v := nI 26) hx hb mD_Re_roundToPlaces_4 (by decide) ?_
  refine lv_iushr hx hb mD_Re_roundToPlaces_6 rfl ?_
  exact gw_iret hx hb hr hlocks hP hS (⟨rfl, tn_rd a⟩) mD_Re_roundToPlaces_7 (Nat.zero_le _) (Nat.zero_le _)

theorem tn_ext {f : Nat → Int32} {i T : Nat} (hi : i < 32) (hT : T < 64) (h : (i + 64 - T) % 64 < 32) : f ((i + 64 - T) % 64) = tp_ext f ((i : Int) - T) := by
  unfold tp_ext
  have e : ((i : Int) - T) % 64 = (((i + 64 - T) % 64 : Nat) : Int) := by omega
  rw [e, if_pos (by omega), Int.toNat_natCast]
theorem tn_ext2 {f : Nat → Int32} {i T : Nat} (hi : i < 32) (hT : T < 64) (h : ¬ (i + 64 - T) % 64 < 32) : - f ((i + 64 - T) % 64 - 32) = tp_ext f ((i : Int) - T) := by
  unfold tp_ext
  have e : ((i : Int) - T) % 64 = (((i + 64 - T) % 64 : Nat) : Int) := by omega
  rw [e, if_neg (by omega)]
  congr 2
  omega

set_option maxHeartbeats 4000000 in
set_option maxRecDepth 100000 in
theorem k_Ri_turned (l : Launch) (D : va_G) (ct : Nat → ClassId) (ad : Nat → Nat) (hI : gw_inj 424 ad) (x : tS) {T i k fs : Nat} (hT : T < 64) (hi : i < 32) (hk : tPair k) (hfs : fs + 32 ≤ 64) : gMi l mY_Ri_turned mB_Ri_turned 5 (some .int) (rF 0 0) D (tT ct) gZ0 424 ad (tD ct ad) [.int (nI T), .int (nI i), .ref (ad k), .int (nI fs)] x (fun r x' => x' = x ∧ r = tp_ext (fun j => x.1 k (fs + j)) ((i : Int) - T)) := by
  refine gMi_enter (by decide) (Nat.le_of_ble_eq_true rfl) ?_
  intro p e s m below meth c ls hx hb hr htw hown hlocks hml hl hP hK hZ hS
  have hA : ∀ k, k < 424 → gA 424 ad s.heap.size (ad k) := fun _ h => gA_in h
  have hl : lv_has ls 5 [(0, .int (nI T)), (1, .int (nI i)), (2, .ref (ad k)), (3, .int (nI fs))] := hl
  refine lv_iload_n hx hb mD_Ri_turned_0 rfl (lv_at hl 1 rfl) ?_
  refine lv_iload_n hx hb mD_Ri_turned_1 rfl (lv_at hl 0 rfl) ?_
  refine lv_isub hx hb mD_Ri_turned_2 ?_
  refine lv_bipush (v := nI 63) hx hb mD_Ri_turned_3 (by decide) ?_
  refine lv_iand hx hb mD_Ri_turned_5 ?_
  refine lv_topi (fun at_ hat => ?_)
  rw [tn_turn (by omega) hT] at hat
  subst hat
  refine lv_istore (lv' := [(4, .int (nI ((i + 64 - T) % 64))), (0, .int (nI T)), (1, .int (nI i)), (2, .ref (ad k)), (3, .int (nI fs))]) hx hb mD_Ri_turned_6 hl (by decide) rfl (fun ls hl => ?_)
  refine lv_iload hx hb mD_Ri_turned_8 (lv_at hl 0 rfl) ?_
  refine lv_bipush (v := nI 32) hx hb mD_Ri_turned_10 (by decide) ?_
  refine lv_icmp_ge (tgt := 24) hx hb mD_Ri_turned_12 rfl (fun hc => ?_) (fun hc => ?_)
  · skip
    have hc := (nI_leI (by omega) (by omega)).mp hc
    refine lv_aload_n hx hb mD_Ri_turned_24 rfl (lv_at hl 3 rfl) ?_
    refine lv_iload_n hx hb mD_Ri_turned_25 rfl (lv_at hl 4 rfl) ?_
    refine lv_iload hx hb mD_Ri_turned_26 (lv_at hl 0 rfl) ?_
    refine lv_iadd hx hb mD_Ri_turned_28 ?_
    refine lv_bipush (v := nI 32) hx hb mD_Ri_turned_29 (by decide) ?_
    refine lv_isub hx hb mD_Ri_turned_31 ?_
    refine t_iald hx hb hK hP k 64 (tPair_lt hk) (tE_pair hk) ((fs + (((i + 64 - T) % 64) - 32))) (by rw [nI_add, pk_sub (by omega)]; congr 1; omega) (by omega) (by decide) mD_Ri_turned_32 ?_
    refine lv_ineg hx hb mD_Ri_turned_33 ?_
    exact gw_iret hx hb hr hlocks hP hS (⟨rfl, by first | exact tn_ext (f := fun j => x.1 k (fs + j)) hi hT hc | exact tn_ext2 (f := fun j => x.1 k (fs + j)) hi hT (by omega)⟩) mD_Ri_turned_34 (Nat.zero_le _) (Nat.zero_le _)
  · skip
    have hc : ((i + 64 - T) % 64) < 32 := Nat.not_le.mp (fun q => hc ((nI_leI (by omega) (by omega)).mpr q))
    refine lv_aload_n hx hb mD_Ri_turned_15 rfl (lv_at hl 3 rfl) ?_
    refine lv_iload_n hx hb mD_Ri_turned_16 rfl (lv_at hl 4 rfl) ?_
    refine lv_iload hx hb mD_Ri_turned_17 (lv_at hl 0 rfl) ?_
    refine lv_iadd hx hb mD_Ri_turned_19 ?_
    refine t_iald hx hb hK hP k 64 (tPair_lt hk) (tE_pair hk) ((fs + ((i + 64 - T) % 64))) (nI_add _ _) (by omega) (by decide) mD_Ri_turned_20 ?_
    refine lv_goto (tgt := 34) hx hb mD_Ri_turned_21 rfl ?_
    exact gw_iret hx hb hr hlocks hP hS (⟨rfl, by first | exact tn_ext (f := fun j => x.1 k (fs + j)) hi hT hc | exact tn_ext2 (f := fun j => x.1 k (fs + j)) hi hT (by omega)⟩) mD_Ri_turned_34 (Nat.zero_le _) (Nat.zero_le _)

set_option maxHeartbeats 4000000 in
set_option maxRecDepth 100000 in
theorem k_So_restart (l : Launch) (D : va_G) (ct : Nat → ClassId) (ad : Nat → Nat) (hI : gw_inj 424 ad) (x : tS) (a : Int32) : gMv l mY_So_restart mB_So_restart 2 none (rF 0 0) D (tT ct) gZ0 424 ad (tD ct ad) [.ref (ad 1), .int a] x (fun x' => x'.1 = x.1) := by
  refine gMv_enter (by decide) (Nat.le_of_ble_eq_true rfl) ?_
  intro p e s m below meth c ls hx hb hr htw hown hlocks hml hl hP hK hZ hS
  have hA : ∀ k, k < 424 → gA 424 ad s.heap.size (ad k) := fun _ h => gA_in h
  have hl : lv_has ls 2 [(0, .ref (ad 1)), (1, .int a)] := hl
  refine lv_aload_n hx hb mD_So_restart_0 rfl (lv_at hl 0 rfl) ?_
  refine lv_iload_n hx hb mD_So_restart_1 rfl (lv_at hl 1 rfl) ?_
  refine lv_i2l hx hb mD_So_restart_2 rfl ?_
  refine t_putL hx hb htw hown hK hI hA hP hS ww_55 mD_So_restart_3 (fun H locs hP hS => ?_)
  obtain ⟨x1, hx1⟩ : ∃ z, z = (x.1, a.toInt64) := ⟨_, rfl⟩
  rw [← hx1] at hP
  exact gw_vret hx hb hr hlocks hP hS (by rw [hx1]) mD_So_restart_6 (Nat.zero_le _) (Nat.zero_le _)

set_option maxHeartbeats 4000000 in
set_option maxRecDepth 100000 in
theorem k_So_draw (l : Launch) (D : va_G) (ct : Nat → ClassId) (ad : Nat → Nat) (hI : gw_inj 424 ad) (x : tS)  : gMi l mY_So_draw mB_So_draw 3 (some .int) (rF 0 0) D (tT ct) gZ0 424 ad (tD ct ad) [.ref (ad 1)] x (fun _ x' => x'.1 = x.1) := by
  refine gMi_enter (by decide) (Nat.le_of_ble_eq_true rfl) ?_
  intro p e s m below meth c ls hx hb hr htw hown hlocks hml hl hP hK hZ hS
  have hA : ∀ k, k < 424 → gA 424 ad s.heap.size (ad k) := fun _ h => gA_in h
  have hl : lv_has ls 3 [(0, .ref (ad 1))] := hl
  refine lv_aload_n hx hb mD_So_draw_0 rfl (lv_at hl 0 rfl) ?_
  refine lv_dup hx hb mD_So_draw_1 rfl ?_
  refine t_get (C := cN_So) (T := cF_So) (N := 1) (ci := 5) hx hb htw wU_So hown hK hP 1 (by decide) rfl rfl 0 (by decide) rfl ww_55 rfl mD_So_draw_2 ?_
  refine lv_ldc2 hx hb hown (htw _ ww_192) mD_So_draw_5 ?_
  refine lv_ladd hx hb mD_So_draw_8 ?_
  refine t_putL hx hb htw hown hK hI hA hP hS ww_55 mD_So_draw_9 (fun H locs hP hS => ?_)
  obtain ⟨x1, hx1⟩ : ∃ z, z = (x.1, x.2 + ((-7046029254386353131 : Int64))) := ⟨_, rfl⟩
  rw [← hx1] at hP
  refine lv_aload_n hx hb mD_So_draw_12 rfl (lv_at hl 0 rfl) ?_
  refine t_get (C := cN_So) (T := cF_So) (N := 1) (ci := 5) hx hb htw wU_So hown hK hP 1 (by decide) rfl rfl 0 (by decide) rfl ww_55 rfl mD_So_draw_13 ?_
  refine lv_aload_n hx hb mD_So_draw_16 rfl (lv_at hl 0 rfl) ?_
  refine t_get (C := cN_So) (T := cF_So) (N := 1) (ci := 5) hx hb htw wU_So hown hK hP 1 (by decide) rfl rfl 0 (by decide) rfl ww_55 rfl mD_So_draw_17 ?_
  refine lv_bipush (v := nI 30) hx hb mD_So_draw_20 (by decide) ?_
  refine lv_lushr hx hb mD_So_draw_22 rfl ?_
  refine lv_lxor hx hb mD_So_draw_23 ?_
  refine lv_ldc2 hx hb hown (htw _ ww_193) mD_So_draw_24 ?_
  refine lv_lmul hx hb mD_So_draw_27 ?_
  refine lv_lstore_n (lv' := [(1, .long ((x1.2 ^^^ ((x1.2.toUInt64 >>> ((nI 30).toInt64.toUInt64 &&& Int64.toUInt64 63)).toInt64)) * ((-4658895280553007687 : Int64)))), (0, .ref (ad 1))]) hx hb mD_So_draw_28 rfl hl (by decide) rfl (fun ls hl => ?_)
  refine lv_lload_n hx hb mD_So_draw_29 rfl (lv_at hl 0 rfl) ?_
  refine lv_lload_n hx hb mD_So_draw_30 rfl (lv_at hl 0 rfl) ?_
  refine lv_bipush (v := nI 27) hx hb mD_So_draw_31 (by decide) ?_
  refine lv_lushr hx hb mD_So_draw_33 rfl ?_
  refine lv_lxor hx hb mD_So_draw_34 ?_
  refine lv_ldc2 hx hb hown (htw _ ww_194) mD_So_draw_35 ?_
  refine lv_lmul hx hb mD_So_draw_38 ?_
  refine lv_lstore_n (lv' := [(1, .long ((((x1.2 ^^^ ((x1.2.toUInt64 >>> ((nI 30).toInt64.toUInt64 &&& Int64.toUInt64 63)).toInt64)) * ((-4658895280553007687 : Int64))) ^^^ ((((x1.2 ^^^ ((x1.2.toUInt64 >>> ((nI 30).toInt64.toUInt64 &&& Int64.toUInt64 63)).toInt64)) * ((-4658895280553007687 : Int64))).toUInt64 >>> ((nI 27).toInt64.toUInt64 &&& Int64.toUInt64 63)).toInt64)) * ((-7723592293110705685 : Int64)))), (0, .ref (ad 1))]) hx hb mD_So_draw_39 rfl hl (by decide) rfl (fun ls hl => ?_)
  refine lv_lload_n hx hb mD_So_draw_40 rfl (lv_at hl 0 rfl) ?_
  refine lv_bipush (v := nI 32) hx hb mD_So_draw_41 (by decide) ?_
  refine lv_lushr hx hb mD_So_draw_43 rfl ?_
  refine lv_l2i hx hb mD_So_draw_44 rfl ?_
  exact gw_iret hx hb hr hlocks hP hS (by rw [hx1]) mD_So_draw_45 (Nat.zero_le _) (Nat.zero_le _)

set_option maxHeartbeats 4000000 in
set_option maxRecDepth 100000 in
theorem k_So_drawNoise5 (l : Launch) (D : va_G) (ct : Nat → ClassId) (ad : Nat → Nat) (hI : gw_inj 424 ad) (x : tS)  : gMi l mY_So_drawNoise mB_So_drawNoise 2 (some .int) (rF 1 22) D (tT ct) gZ0 424 ad (tD ct ad) [.ref (ad 1), .int (nI 5)] x (fun r x' => x'.1 = x.1 ∧ tp_sm 16 r) := by
  refine gMi_enter (by decide) (Nat.le_of_ble_eq_true rfl) ?_
  intro p e s m below meth c ls hx hb hr htw hown hlocks hml hl hP hK hZ hS
  have hA : ∀ k, k < 424 → gA 424 ad s.heap.size (ad k) := fun _ h => gA_in h
  have hl : lv_has ls 2 [(0, .ref (ad 1)), (1, .int (nI 5))] := hl
  refine lv_aload_n hx hb mD_So_drawNoise_0 rfl (lv_at hl 0 rfl) ?_
  refine gc_Vi (As := []) (rest := []) hx hb hml hown htw hK hP hS 1 (k_So_draw l D ct ad hI x) gZ0_ok (fun _ _ _ => trivial) (gA_mono hS.1) (by decide) rfl rfl ww_211 ww_189 ww_190 ww_24 wC_So_draw mP_So_draw (by decide) rfl hl.1 rfl (Nat.le_of_ble_eq_true rfl) mD_So_drawNoise_1 ⟨Nat.le_of_ble_eq_true rfl, Nat.le_of_ble_eq_true rfl⟩ (fun r2 x1 H locs hp1 hP _ _ hS => ?_)
  refine lv_bipush (v := nI 32) hx hb mD_So_drawNoise_4 (by decide) ?_
  refine lv_iload_n hx hb mD_So_drawNoise_6 rfl (lv_at hl 1 rfl) ?_
  refine lv_isub hx hb mD_So_drawNoise_7 ?_
  refine lv_iushr hx hb mD_So_drawNoise_8 rfl ?_
  refine lv_iconst (v := nI 1) hx hb mD_So_drawNoise_9 (by decide) ?_
  refine lv_iload_n hx hb mD_So_drawNoise_10 rfl (lv_at hl 1 rfl) ?_
  refine lv_iconst (v := nI 1) hx hb mD_So_drawNoise_11 (by decide) ?_
  refine lv_isub hx hb mD_So_drawNoise_12 ?_
  refine lv_ishl hx hb mD_So_drawNoise_13 ?_
  refine lv_isub hx hb mD_So_drawNoise_14 ?_
  exact gw_iret hx hb hr hlocks hP hS (⟨hp1, tn_noise5 _⟩) mD_So_drawNoise_15 (Nat.zero_le _) (Nat.zero_le _)

set_option maxHeartbeats 4000000 in
set_option maxRecDepth 100000 in
theorem k_So_drawNoise3 (l : Launch) (D : va_G) (ct : Nat → ClassId) (ad : Nat → Nat) (hI : gw_inj 424 ad) (x : tS)  : gMi l mY_So_drawNoise mB_So_drawNoise 2 (some .int) (rF 1 22) D (tT ct) gZ0 424 ad (tD ct ad) [.ref (ad 1), .int (nI 3)] x (fun r x' => x'.1 = x.1 ∧ tp_sm 4 r) := by
  refine gMi_enter (by decide) (Nat.le_of_ble_eq_true rfl) ?_
  intro p e s m below meth c ls hx hb hr htw hown hlocks hml hl hP hK hZ hS
  have hA : ∀ k, k < 424 → gA 424 ad s.heap.size (ad k) := fun _ h => gA_in h
  have hl : lv_has ls 2 [(0, .ref (ad 1)), (1, .int (nI 3))] := hl
  refine lv_aload_n hx hb mD_So_drawNoise_0 rfl (lv_at hl 0 rfl) ?_
  refine gc_Vi (As := []) (rest := []) hx hb hml hown htw hK hP hS 1 (k_So_draw l D ct ad hI x) gZ0_ok (fun _ _ _ => trivial) (gA_mono hS.1) (by decide) rfl rfl ww_211 ww_189 ww_190 ww_24 wC_So_draw mP_So_draw (by decide) rfl hl.1 rfl (Nat.le_of_ble_eq_true rfl) mD_So_drawNoise_1 ⟨Nat.le_of_ble_eq_true rfl, Nat.le_of_ble_eq_true rfl⟩ (fun r2 x1 H locs hp1 hP _ _ hS => ?_)
  refine lv_bipush (v := nI 32) hx hb mD_So_drawNoise_4 (by decide) ?_
  refine lv_iload_n hx hb mD_So_drawNoise_6 rfl (lv_at hl 1 rfl) ?_
  refine lv_isub hx hb mD_So_drawNoise_7 ?_
  refine lv_iushr hx hb mD_So_drawNoise_8 rfl ?_
  refine lv_iconst (v := nI 1) hx hb mD_So_drawNoise_9 (by decide) ?_
  refine lv_iload_n hx hb mD_So_drawNoise_10 rfl (lv_at hl 1 rfl) ?_
  refine lv_iconst (v := nI 1) hx hb mD_So_drawNoise_11 (by decide) ?_
  refine lv_isub hx hb mD_So_drawNoise_12 ?_
  refine lv_ishl hx hb mD_So_drawNoise_13 ?_
  refine lv_isub hx hb mD_So_drawNoise_14 ?_
  exact gw_iret hx hb hr hlocks hP hS (⟨hp1, tn_noise3 _⟩) mD_So_drawNoise_15 (Nat.zero_le _) (Nat.zero_le _)
end
section
/-! Ring.addTurned. Laid by wip/whole/part_ring.py. -/
theorem tU_U {x : tS} {k : Nat} {f g : Nat → Int32} : tU (tU x k f) k g = tU x k g := by
  unfold tU
  rw [bx_uu]
theorem tU_self {x : tS} {k : Nat} : tU x k (x.1 k) = x := by
  unfold tU
  have h : va_up x.1 k (x.1 k) = x.1 := by
    funext j
    by_cases h : j = k
    · rw [h, va_up_self]
    · rw [va_up_ne _ _ h]
  rw [h]
/-- what the first loop has done, up to n; what the second -/
def ta_1 (o F g : Nat → Int32) (c : Int32) (t fs ts n : Nat) : Prop := ∀ j, g j = if ts + t ≤ j ∧ j < ts + t + (n - fs) then o j + c * F (j - ts - t) else o j
def ta_2 (o F g : Nat → Int32) (c : Int32) (t fs ts n : Nat) : Prop := ∀ j, g j = if ts + t ≤ j ∧ j < ts + 32 then o j + c * F (j - ts - t) else if ts ≤ j ∧ j < ts + (n - (fs + 32 - t)) then o j - c * F (j - ts + 32 - t) else o j
theorem ta_1s {o F g : Nat → Int32} {c : Int32} {t fs ts n : Nat} (h : ta_1 o F g c t fs ts n) (hn : fs ≤ n) {v : Int32} (hv : v = g (ts + t + (n - fs)) + c * F (n - fs)) : ta_1 o F (upd g (ts + t + (n - fs)) v) c t fs ts (n + 1) := by
  intro j
  by_cases hj : j = ts + t + (n - fs)
  · subst hj
    rw [pk_us, hv, h _, if_neg (by omega), if_pos (by omega)]
    congr 3
    omega
  · rw [pk_un hj, h j]
    by_cases h1 : ts + t ≤ j ∧ j < ts + t + (n - fs)
    · rw [if_pos h1, if_pos (by omega)]
    · rw [if_neg h1, if_neg (by omega)]
theorem ta_2s {o F g : Nat → Int32} {c : Int32} {t fs ts n : Nat} (h : ta_2 o F g c t fs ts n) (ht : t ≤ 32) (hn : fs + 32 - t ≤ n) (hn2 : n < fs + 32) {v : Int32} (hv : v = g (ts + (n - (fs + 32 - t))) - c * F (n - fs)) : ta_2 o F (upd g (ts + (n - (fs + 32 - t))) v) c t fs ts (n + 1) := by
  intro j
  by_cases hj : j = ts + (n - (fs + 32 - t))
  · subst hj
    rw [pk_us, hv, h _, if_neg (by omega), if_neg (by omega), if_neg (by omega), if_pos (by omega)]
    congr 3
    omega
  · rw [pk_un hj, h j]
    by_cases h1 : ts + t ≤ j ∧ j < ts + 32
    · rw [if_pos h1, if_pos h1]
    · rw [if_neg h1, if_neg h1]
      by_cases h2 : ts ≤ j ∧ j < ts + (n - (fs + 32 - t))
      · rw [if_pos h2, if_pos (by omega)]
      · rw [if_neg h2, if_neg (by omega)]
theorem ta_12 {o F g : Nat → Int32} {c : Int32} {t fs ts : Nat} (ht : t ≤ 32) (h : ta_1 o F g c t fs ts (fs + 32 - t)) : ta_2 o F g c t fs ts (fs + 32 - t) := by
  intro j
  rw [h j]
  by_cases h1 : ts + t ≤ j ∧ j < ts + 32
  · rw [if_pos (by omega), if_pos h1]
  · rw [if_neg (by omega), if_neg h1, if_neg (by omega)]
/-- what addTurned makes of the numbers it adds to -/
def ta_ok (o F g : Nat → Int32) (c : Int32) (t ts : Nat) : Prop := (∀ i : Nat, i < 32 → g (ts + i) = o (ts + i) + c * tp_ext F ((i : Int) - t)) ∧ ∀ j, (j < ts ∨ ts + 32 ≤ j) → g j = o j
theorem ta_end {o F g : Nat → Int32} {c : Int32} {t fs ts : Nat} (ht : t < 32) (h : ta_2 o F g c t fs ts (fs + 32)) : ta_ok o F g c t ts := by
  refine ⟨fun i hi => ?_, fun j hj => ?_⟩
  · rw [h (ts + i)]
    unfold tp_ext
    by_cases h1 : t ≤ i
    · rw [if_pos (by omega), if_pos (by omega)]
      congr 3
      omega
    · rw [if_neg (by omega), if_pos (by omega), if_neg (by omega), show ts + i - ts + 32 - t = (((i : Int) - t) % 64 - 32).toNat by omega]
      grind
  · rw [h j, if_neg (by omega), if_neg (by omega)]

theorem ta_lo1 {o F g : Nat → Int32} {c : Int32} {t fs ts n : Nat} (h : ta_1 o F g c t fs ts n) : ∀ j, j < ts → g j = o j := fun j hj => by rw [h j, if_neg (by omega)]
theorem ta_lo2 {o F g : Nat → Int32} {c : Int32} {t fs ts n : Nat} (h : ta_2 o F g c t fs ts n) : ∀ j, j < ts → g j = o j := fun j hj => by rw [h j, if_neg (by omega), if_neg (by omega)]

theorem tn_back {n a r : Nat} (h : 32 ≤ n + a) (hr : n + a - 32 = r) : nI n + (nI a - nI 32) = nI r := by
  have e : nI n + (nI a - nI 32) = nI n + nI a - nI 32 := by grind
  rw [e, nI_add, pk_sub h, hr]

set_option maxHeartbeats 4000000 in
set_option maxRecDepth 100000 in
theorem k_Ri_addTurned (l : Launch) (D : va_G) (ct : Nat → ClassId) (ad : Nat → Nat) (hI : gw_inj 424 ad) (x : tS) (tm : Int32) {t kf fs kt ts : Nat} (ht : t < 32) (hkf : tPair kf) (hkt : tPair kt) (hfs : fs + 32 ≤ 64) (hts : ts + 32 ≤ 64) (hle : fs ≤ ts) (hsep : kf ≠ kt ∨ fs + 32 ≤ ts) : gMv l mY_Ri_addTurned mB_Ri_addTurned 11 none (rF 0 0) D (tT ct) gZ0 424 ad (tD ct ad) [.int tm, .int (nI t), .ref (ad kf), .int (nI fs), .ref (ad kt), .int (nI ts)] x (fun x' => ∃ g, x' = tU x kt g ∧ ta_ok (x.1 kt) (fun j => x.1 kf (fs + j)) g tm t ts) := by
  refine gMv_enter (by decide) (Nat.le_of_ble_eq_true rfl) ?_
  intro p e s m below meth c ls hx hb hr htw hown hlocks hml hl hP hK hZ hS
  have hA : ∀ k, k < 424 → gA 424 ad s.heap.size (ad k) := fun _ h => gA_in h
  have hl : lv_has ls 11 [(0, .int tm), (1, .int (nI t)), (2, .ref (ad kf)), (3, .int (nI fs)), (4, .ref (ad kt)), (5, .int (nI ts))] := hl
  have hfr : ∀ (g : Nat → Int32) (n : Nat), fs ≤ n → n < fs + 32 → (∀ j, j < ts → g j = x.1 kt j) → (tU x kt g).1 kf n = x.1 kf n := fun g n h1 h2 h3 => by
    by_cases hq : kf = kt
    · subst hq; rw [tU_1]; exact h3 n (by rcases hsep with h | h; exact absurd rfl h; omega)
    · rw [tU_n hq]
  refine gw_nmQ (fun Q hQ => ?_)
  refine lv_iload_n hx hb mD_Ri_addTurned_0 rfl (lv_at hl 3 rfl) ?_
  refine lv_bipush (v := nI 32) hx hb mD_Ri_addTurned_1 (by decide) ?_
  refine lv_iadd hx hb mD_Ri_addTurned_3 ?_
  refine lv_topi (fun v_ hv_ => ?_)
  rw [show ((nI fs) + (nI 32) : Int32) = nI (fs + 32) from nI_add _ _] at hv_
  subst hv_
  refine lv_istore (lv' := [(6, .int (nI (fs + 32))), (0, .int tm), (1, .int (nI t)), (2, .ref (ad kf)), (3, .int (nI fs)), (4, .ref (ad kt)), (5, .int (nI ts))]) hx hb mD_Ri_addTurned_4 hl (by decide) rfl (fun ls hl => ?_)
  refine lv_iload hx hb mD_Ri_addTurned_6 (lv_at hl 0 rfl) ?_
  refine lv_iload_n hx hb mD_Ri_addTurned_8 rfl (lv_at hl 2 rfl) ?_
  refine lv_isub hx hb mD_Ri_addTurned_9 ?_
  refine lv_topi (fun v_ hv_ => ?_)
  rw [show ((nI (fs + 32)) - (nI t) : Int32) = nI (fs + 32 - t) from pk_sub (by omega)] at hv_
  subst hv_
  refine lv_istore (lv' := [(7, .int (nI (fs + 32 - t))), (6, .int (nI (fs + 32))), (0, .int tm), (1, .int (nI t)), (2, .ref (ad kf)), (3, .int (nI fs)), (4, .ref (ad kt)), (5, .int (nI ts))]) hx hb mD_Ri_addTurned_10 hl (by decide) rfl (fun ls hl => ?_)
  refine lv_iload hx hb mD_Ri_addTurned_12 (lv_at hl 7 rfl) ?_
  refine lv_iload_n hx hb mD_Ri_addTurned_14 rfl (lv_at hl 5 rfl) ?_
  refine lv_isub hx hb mD_Ri_addTurned_15 ?_
  refine lv_iload_n hx hb mD_Ri_addTurned_16 rfl (lv_at hl 3 rfl) ?_
  refine lv_iadd hx hb mD_Ri_addTurned_17 ?_
  refine lv_topi (fun v_ hv_ => ?_)
  rw [show (((nI ts) - (nI fs)) + (nI t) : Int32) = nI (ts - fs + t) from by rw [pk_sub (by omega), nI_add]] at hv_
  subst hv_
  refine lv_istore (lv' := [(8, .int (nI (ts - fs + t))), (7, .int (nI (fs + 32 - t))), (6, .int (nI (fs + 32))), (0, .int tm), (1, .int (nI t)), (2, .ref (ad kf)), (3, .int (nI fs)), (4, .ref (ad kt)), (5, .int (nI ts))]) hx hb mD_Ri_addTurned_18 hl (by decide) rfl (fun ls hl => ?_)
  refine lv_iload hx hb mD_Ri_addTurned_20 (lv_at hl 0 rfl) ?_
  refine lv_bipush (v := nI 32) hx hb mD_Ri_addTurned_22 (by decide) ?_
  refine lv_isub hx hb mD_Ri_addTurned_24 ?_
  refine lv_istore (lv' := [(9, .int ((nI (ts - fs + t)) - (nI 32))), (8, .int (nI (ts - fs + t))), (7, .int (nI (fs + 32 - t))), (6, .int (nI (fs + 32))), (0, .int tm), (1, .int (nI t)), (2, .ref (ad kf)), (3, .int (nI fs)), (4, .ref (ad kt)), (5, .int (nI ts))]) hx hb mD_Ri_addTurned_25 hl (by decide) rfl (fun ls hl => ?_)
  refine lv_iload_n hx hb mD_Ri_addTurned_27 rfl (lv_at hl 7 rfl) ?_
  refine lv_istore (lv' := [(10, .int (nI fs)), (9, .int ((nI (ts - fs + t)) - (nI 32))), (8, .int (nI (ts - fs + t))), (7, .int (nI (fs + 32 - t))), (6, .int (nI (fs + 32))), (0, .int tm), (1, .int (nI t)), (2, .ref (ad kf)), (3, .int (nI fs)), (4, .ref (ad kt)), (5, .int (nI ts))]) hx hb mD_Ri_addTurned_28 hl (by decide) rfl (fun ls hl => ?_)
  have loop1 : ∀ (d : Nat) (n : Nat) (g : Nat → Int32) (H : Heap) (locs : List Loc) (ls : Array Slot), n + d = fs + 32 - t → lv_has ls 11 [(10, .int (nI n)), (9, .int (nI (ts - fs + t) - nI 32)), (8, .int (nI (ts - fs + t))), (7, .int (nI (fs + 32 - t))), (6, .int (nI (fs + 32))), (0, .int tm), (1, .int (nI t)), (2, .ref (ad kf)), (3, .int (nI fs)), (4, .ref (ad kt)), (5, .int (nI ts))] → va_P D cL (gw 424 ad (tD ct ad (tU x kt g))) H → va_S (gA 424 ad s.heap.size) s.heap H locs → (fs ≤ n ∧ ta_1 (x.1 kt) (fun j => x.1 kf (fs + j)) g tm t fs ts n) → W p l e (rF 0 0) s m [.int tm, .int (nI t), .ref (ad kf), .int (nI fs), .ref (ad kt), .int (nI ts)].toArray below meth c H locs 0 0 Q (F0 m 30 ls []) := by
    intro d
    induction d using Nat.strongRecOn with
    | ind d ih =>
      intro n g H locs ls hd hl hP hS hinv
      refine lv_iload hx hb mD_Ri_addTurned_30 (lv_at hl 0 rfl) ?_
      refine lv_iload hx hb mD_Ri_addTurned_32 (lv_at hl 3 rfl) ?_
      refine lv_icmp_ge (tgt := 60) hx hb mD_Ri_addTurned_34 rfl (fun hc => ?_) (fun hc => ?_)
      · skip
        have hn : n = fs + 32 - t := by have := (nI_leI (by omega) (by omega)).mp hc; omega
        subst hn
        refine lv_iload hx hb mD_Ri_addTurned_60 (lv_at hl 3 rfl) ?_
        refine lv_istore (lv' := [(10, .int (nI (fs + 32 - t))), (9, .int (nI (ts - fs + t) - nI 32)), (8, .int (nI (ts - fs + t))), (7, .int (nI (fs + 32 - t))), (6, .int (nI (fs + 32))), (0, .int tm), (1, .int (nI t)), (2, .ref (ad kf)), (3, .int (nI fs)), (4, .ref (ad kt)), (5, .int (nI ts))]) hx hb mD_Ri_addTurned_62 hl (by decide) rfl (fun ls hl => ?_)
        have loop2 : ∀ (d : Nat) (n : Nat) (g : Nat → Int32) (H : Heap) (locs : List Loc) (ls : Array Slot), n + d = fs + 32 → lv_has ls 11 [(10, .int (nI n)), (9, .int (nI (ts - fs + t) - nI 32)), (8, .int (nI (ts - fs + t))), (7, .int (nI (fs + 32 - t))), (6, .int (nI (fs + 32))), (0, .int tm), (1, .int (nI t)), (2, .ref (ad kf)), (3, .int (nI fs)), (4, .ref (ad kt)), (5, .int (nI ts))] → va_P D cL (gw 424 ad (tD ct ad (tU x kt g))) H → va_S (gA 424 ad s.heap.size) s.heap H locs → (fs + 32 - t ≤ n ∧ ta_2 (x.1 kt) (fun j => x.1 kf (fs + j)) g tm t fs ts n) → W p l e (rF 0 0) s m [.int tm, .int (nI t), .ref (ad kf), .int (nI fs), .ref (ad kt), .int (nI ts)].toArray below meth c H locs 0 0 Q (F0 m 64 ls []) := by
          intro d
          induction d using Nat.strongRecOn with
          | ind d ih2 =>
            intro n g H locs ls hd hl hP hS hinv
            refine lv_iload hx hb mD_Ri_addTurned_64 (lv_at hl 0 rfl) ?_
            refine lv_iload hx hb mD_Ri_addTurned_66 (lv_at hl 4 rfl) ?_
            refine lv_icmp_ge (tgt := 94) hx hb mD_Ri_addTurned_68 rfl (fun hc => ?_) (fun hc => ?_)
            · skip
              have hn : n = fs + 32 := by have := (nI_leI (by omega) (by omega)).mp hc; omega
              subst hn
              subst hQ
              exact gw_vret hx hb hr hlocks hP hS (⟨g, rfl, ta_end ht hinv.2⟩) mD_Ri_addTurned_94 (Nat.zero_le _) (Nat.zero_le _)
            · skip
              have hn : n < fs + 32 := Nat.not_le.mp (fun q => hc ((nI_leI (by omega) (by omega)).mpr q))
              refine lv_aload hx hb mD_Ri_addTurned_71 (lv_at hl 9 rfl) ?_
              refine lv_iload hx hb mD_Ri_addTurned_73 (lv_at hl 0 rfl) ?_
              refine lv_iload hx hb mD_Ri_addTurned_75 (lv_at hl 1 rfl) ?_
              refine lv_iadd hx hb mD_Ri_addTurned_77 ?_
              refine lv_dup2_11 hx hb mD_Ri_addTurned_78 rfl rfl ?_
              refine t_iald hx hb hK hP kt 64 (tPair_lt hkt) (tE_pair hkt) ((ts + (n - (fs + 32 - t)))) (tn_back (by omega) (by omega)) (by omega) (by decide) mD_Ri_addTurned_79 ?_
              refine lv_iload_n hx hb mD_Ri_addTurned_80 rfl (lv_at hl 5 rfl) ?_
              refine lv_aload_n hx hb mD_Ri_addTurned_81 rfl (lv_at hl 7 rfl) ?_
              refine lv_iload hx hb mD_Ri_addTurned_82 (lv_at hl 0 rfl) ?_
              refine t_iald hx hb hK hP kf 64 (tPair_lt hkf) (tE_pair hkf) n rfl (by omega) (by decide) mD_Ri_addTurned_84 ?_
              refine lv_imul hx hb mD_Ri_addTurned_85 ?_
              refine lv_isub hx hb mD_Ri_addTurned_86 ?_
              refine t_iast hx hb hK hI hA hP hS kt 64 (tPair_lt hkt) (fun _ => tE_pair hkt) ((ts + (n - (fs + 32 - t)))) (tn_back (by omega) (by omega)) (by omega) (by decide) mD_Ri_addTurned_87 (fun H locs hP hS => ?_)
              obtain ⟨x1, hx1⟩ : ∃ z, z = tU (tU x kt g) kt (upd ((tU x kt g).1 kt) ((ts + (n - (fs + 32 - t)))) (((tU x kt g).1 kt ((ts + (n - (fs + 32 - t))))) - (tm * ((tU x kt g).1 kf n)))) := ⟨_, rfl⟩
              rw [← hx1] at hP
              refine lv_iinc (k := 0) (v := nI (n + 1)) (lv' := [(10, .int (nI (n + 1))), (9, .int (nI (ts - fs + t) - nI 32)), (8, .int (nI (ts - fs + t))), (7, .int (nI (fs + 32 - t))), (6, .int (nI (fs + 32))), (0, .int tm), (1, .int (nI t)), (2, .ref (ad kf)), (3, .int (nI fs)), (4, .ref (ad kt)), (5, .int (nI ts))]) hx hb mD_Ri_addTurned_88 hl rfl (by rw [lit1, nI_1]) (by decide) rfl (fun ls hl => ?_)
              refine lv_goto (tgt := 64) hx hb mD_Ri_addTurned_91 rfl ?_
              exact ih2 (d - 1) (by omega) (n + 1) (upd g (ts + (n - (fs + 32 - t))) (g (ts + (n - (fs + 32 - t))) - tm * x.1 kf (fs + (n - fs)))) H locs ls (by omega) (lv_sub hl [0, 1, 2, 3, 4, 5, 6, 7, 8, 9, 10] rfl) (by rw [hx1, tU_U, tU_1, hfr g n (by omega) (by omega) (ta_lo2 hinv.2)] at hP; rw [show fs + (n - fs) = n by omega]; exact hP) hS ⟨by omega, ta_2s hinv.2 (by omega) hinv.1 (by omega) rfl⟩
        exact loop2 t (fs + 32 - t) g H locs ls (by omega) hl hP hS ⟨Nat.le_refl _, ta_12 (by omega) hinv.2⟩
      · skip
        have hn : n < fs + 32 - t := Nat.not_le.mp (fun q => hc ((nI_leI (by omega) (by omega)).mpr q))
        refine lv_aload hx hb mD_Ri_addTurned_37 (lv_at hl 9 rfl) ?_
        refine lv_iload hx hb mD_Ri_addTurned_39 (lv_at hl 0 rfl) ?_
        refine lv_iload hx hb mD_Ri_addTurned_41 (lv_at hl 2 rfl) ?_
        refine lv_iadd hx hb mD_Ri_addTurned_43 ?_
        refine lv_dup2_11 hx hb mD_Ri_addTurned_44 rfl rfl ?_
        refine t_iald hx hb hK hP kt 64 (tPair_lt hkt) (tE_pair hkt) ((ts + t + (n - fs))) (by rw [nI_add]; congr 1; omega) (by omega) (by decide) mD_Ri_addTurned_45 ?_
        refine lv_iload_n hx hb mD_Ri_addTurned_46 rfl (lv_at hl 5 rfl) ?_
        refine lv_aload_n hx hb mD_Ri_addTurned_47 rfl (lv_at hl 7 rfl) ?_
        refine lv_iload hx hb mD_Ri_addTurned_48 (lv_at hl 0 rfl) ?_
        refine t_iald hx hb hK hP kf 64 (tPair_lt hkf) (tE_pair hkf) n rfl (by omega) (by decide) mD_Ri_addTurned_50 ?_
        refine lv_imul hx hb mD_Ri_addTurned_51 ?_
        refine lv_iadd hx hb mD_Ri_addTurned_52 ?_
        refine t_iast hx hb hK hI hA hP hS kt 64 (tPair_lt hkt) (fun _ => tE_pair hkt) ((ts + t + (n - fs))) (by rw [nI_add]; congr 1; omega) (by omega) (by decide) mD_Ri_addTurned_53 (fun H locs hP hS => ?_)
        obtain ⟨x2, hx2⟩ : ∃ z, z = tU (tU x kt g) kt (upd ((tU x kt g).1 kt) ((ts + t + (n - fs))) (((tU x kt g).1 kt ((ts + t + (n - fs)))) + (tm * ((tU x kt g).1 kf n)))) := ⟨_, rfl⟩
        rw [← hx2] at hP
        refine lv_iinc (k := 0) (v := nI (n + 1)) (lv' := [(10, .int (nI (n + 1))), (9, .int (nI (ts - fs + t) - nI 32)), (8, .int (nI (ts - fs + t))), (7, .int (nI (fs + 32 - t))), (6, .int (nI (fs + 32))), (0, .int tm), (1, .int (nI t)), (2, .ref (ad kf)), (3, .int (nI fs)), (4, .ref (ad kt)), (5, .int (nI ts))]) hx hb mD_Ri_addTurned_54 hl rfl (by rw [lit1, nI_1]) (by decide) rfl (fun ls hl => ?_)
        refine lv_goto (tgt := 30) hx hb mD_Ri_addTurned_57 rfl ?_
        exact ih (d - 1) (by omega) (n + 1) (upd g (ts + t + (n - fs)) (g (ts + t + (n - fs)) + tm * x.1 kf (fs + (n - fs)))) H locs ls (by omega) (lv_sub hl [0, 1, 2, 3, 4, 5, 6, 7, 8, 9, 10] rfl) (by rw [hx2, tU_U, tU_1, hfr g n hinv.1 (by omega) (ta_lo1 hinv.2)] at hP; rw [show fs + (n - fs) = n by omega]; exact hP) hS ⟨by omega, ta_1s hinv.2 hinv.1 rfl⟩
  exact loop1 (32 - t) fs (x.1 kt) _ _ _ (by omega) hl (by rw [tU_self]; exact hP) hS ⟨Nat.le_refl _, fun j => by rw [if_neg (by omega)]⟩
end
section
/-! Secret: bits of the key, hidden rows, places, pairs that hide nothing. Laid by wip/whole/part_secret.py. -/
theorem va_up_same {α : Type} {f : Nat → α} {k : Nat} : va_up f k (f k) = f := by
  funext j
  by_cases h : j = k
  · rw [h, va_up_self]
  · rw [va_up_ne _ _ h]
theorem tU_f {x : tS} {k : Nat} {f : Nat → Int32} : (tU x k f).1 = va_up x.1 k f := rfl
theorem ts_lt {n N : Nat} (hn : n < 2 ^ 31) (hN : N < 2 ^ 31) (hc : ¬ nI N ≤ nI n) : n < N := Nat.not_le.mp (fun q => hc ((nI_leI hN hn).mpr q))
theorem ts_ge {n N : Nat} (hn : n < 2 ^ 31) (hN : N < 2 ^ 31) (hc : nI N ≤ nI n) : N ≤ n := (nI_leI hN hn).mp hc
theorem ts_bits {g : Nat → Int32} {n : Nat} {v : Int32} (h : ∀ i, i < n → tp_bit (g i)) (hv : tp_bit v) : ∀ i, i < n + 1 → tp_bit (upd g n v i) := fun i hi => by
  by_cases q : i = n
  · rw [q, pk_us]; exact hv
  · rw [pk_un q]; exact h i (by omega)
theorem ts_hide {g key : Nat → Int32} {n b : Nat} {h pl r : Int32} (hh : tp_sm b (h - pl - tp_sum n (fun i => g i * key i))) : tp_sm b (h + upd g n r n * key n - pl - tp_sum (n + 1) (fun i => upd g n r i * key i)) := by
  rw [tp_sum_s, tp_sum_congr (g := fun i => g i * key i) (fun i hi => by rw [pk_un (by omega)])]
  have e : ∀ a b c d : Int32, a + b - c - (d + b) = a - c - d := by intro a b c d; grind
  rw [e]
  exact hh
theorem ts_hide8 {g key : Nat → Int32} {b : Nat} {h pl : Int32} (hh : tp_sm b (h - pl - tp_sum 8 (fun i => g i * key i))) : tp_sm b (tp_place key (upd g 8 h) - pl) := by
  unfold tp_place
  rw [pk_us, tp_sum_congr (g := fun i => g i * key i) (fun i hi => by rw [pk_un (by omega)])]
  have e : ∀ a b c : Int32, a - b - c = a - c - b := by intro a b c; grind
  rw [e]
  exact hh
theorem ts_nothing {s a b e : Nat → Int32} (h : ∀ i : Nat, i < 32 → b i = e i + tp_sum 32 (fun q => s q * tp_ext a ((i : Int) - (q : Int)))) (j : Int) : tp_ph s a b j = tp_ext e j := by
  have q : tp_ext b j = tp_ext e j + tp_sum 32 (fun q => s q * tp_ext a (j - (q : Int))) := by
    refine tp_ext_all (f := b) (g := fun j => tp_ext e j + tp_sum 32 (fun q => s q * tp_ext a (j - (q : Int)))) ?_ ?_ ?_ j
    · intro k
      show tp_ext e (k + 32) + tp_sum 32 (fun q => s q * tp_ext a (k + 32 - (q : Int))) = - (tp_ext e k + tp_sum 32 (fun q => s q * tp_ext a (k - (q : Int))))
      rw [tp_ext_32, tp_sum_congr (g := fun q => - (s q * tp_ext a (k - (q : Int)))) (fun q _ => by rw [show k + 32 - (q : Int) = k - q + 32 by omega, tp_ext_32]; grind), tp_sum_neg]
      grind
    · intro i hi
      show b i = tp_ext e i + _
      rw [h i hi, tp_ext_lt hi]
    · intro k j hkj
      show tp_ext e k + _ = tp_ext e j + _
      rw [tp_ext_mod hkj, tp_sum_congr (fun q _ => by rw [tp_ext_mod (k := k - q) (j := j - q) (by omega)])]
  unfold tp_ph
  rw [q]
  grind
theorem ts_nothing2 {s g g0 : Nat → Int32} (hb : ∀ i, i < 32 → tp_sm 4 (g0 (32 + i))) (hlo : ∀ j, j < 32 → g j = g0 j) (hhi : ∀ i : Nat, i < 32 → g (32 + i) = g0 (32 + i) + tp_sum 32 (fun q => s q * tp_ext g0 ((i : Int) - (q : Int)))) (j : Int) : tp_sm 4 (tp_ph s (fun i => g i) (fun i => g (32 + i)) j) := by
  rw [ts_nothing (a := fun i => g i) (b := fun i => g (32 + i)) (e := fun i => g0 (32 + i)) (fun i hi => ?_) j]
  · exact tp_ext_sm (n := 4) hb j
  · show g (32 + i) = _
    rw [hhi i hi, tp_sum_congr (f := fun q => s q * tp_ext g0 ((i : Int) - (q : Int))) (g := fun q => s q * tp_ext (fun i => g i) ((i : Int) - (q : Int))) (fun q _ => by rw [tp_ext_congr (f := fun i => g i) (g := g0) hlo])]
theorem ts_not3 {k : Nat} (h : tRow k) : (3 : Nat) ≠ k := by unfold tRow at h; omega
theorem ts_not4 {k : Nat} (h : tPair k) : (4 : Nat) ≠ k := by unfold tPair at h; omega
/-- one turn more of the key's product -/
theorem ts_add {g g0 g1 s : Nat → Int32} {n : Nat} (hn : n < 32) (hlo : ∀ j, j < 32 → g j = g0 j) (hhi : ∀ i : Nat, i < 32 → g (32 + i) = g0 (32 + i) + tp_sum n (fun q => s q * tp_ext g0 ((i : Int) - (q : Int))))
    (h : ta_ok g (fun j => g (0 + j)) g1 (s n) n 32) : (∀ j, j < 32 → g1 j = g0 j) ∧ ∀ i : Nat, i < 32 → g1 (32 + i) = g0 (32 + i) + tp_sum (n + 1) (fun q => s q * tp_ext g0 ((i : Int) - (q : Int))) := by
  refine ⟨fun j hj => by rw [h.2 j (Or.inl hj)]; exact hlo j hj, fun i hi => ?_⟩
  rw [h.1 i hi, hhi i hi, tp_sum_s, tp_ext_congr (f := fun j => g (0 + j)) (g := g0) (fun j hj => by show g (0 + j) = _; rw [Nat.zero_add]; exact hlo j hj)]
  grind

set_option maxHeartbeats 4000000 in
set_option maxRecDepth 100000 in
theorem k_Se_drawBits8 (l : Launch) (D : va_G) (ct : Nat → ClassId) (ad : Nat → Nat) (hI : gw_inj 424 ad) (x : tS)  : gMv l mY_Se_drawBits mB_Se_drawBits 4 none (rF 1 22) D (tT ct) gZ0 424 ad (tD ct ad) [.ref (ad 3), .int (nI 8), .ref (ad 1)] x (fun x' => ∃ g, x'.1 = va_up x.1 3 g ∧ ∀ i, i < 8 → tp_bit (g i)) := by
  refine gMv_enter (by decide) (Nat.le_of_ble_eq_true rfl) ?_
  intro p e s m below meth c ls hx hb hr htw hown hlocks hml hl hP hK hZ hS
  have hA : ∀ k, k < 424 → gA 424 ad s.heap.size (ad k) := fun _ h => gA_in h
  have hl : lv_has ls 4 [(0, .ref (ad 3)), (1, .int (nI 8)), (2, .ref (ad 1))] := hl
  refine gw_nmQ (fun Q hQ => ?_)
  refine lv_iconst (v := nI 0) hx hb mD_Se_drawBits_0 (by decide) ?_
  refine lv_istore_n (lv' := [(3, .int (nI 0)), (0, .ref (ad 3)), (1, .int (nI 8)), (2, .ref (ad 1))]) hx hb mD_Se_drawBits_1 rfl hl (by decide) rfl (fun ls hl => ?_)
  have loop : ∀ (d : Nat) (n : Nat) (y : tS) (H : Heap) (locs : List Loc) (ls : Array Slot), n + d = 8 → lv_has ls 4 [(3, .int (nI n)), (0, .ref (ad 3)), (1, .int (nI 8)), (2, .ref (ad 1))] → va_P D cL (gw 424 ad (tD ct ad y)) H → va_S (gA 424 ad s.heap.size) s.heap H locs → (∃ g, y.1 = va_up x.1 3 g ∧ ∀ i, i < n → tp_bit (g i)) → W p l e (rF 1 22) s m [.ref (ad 3), .int (nI 8), .ref (ad 1)].toArray below meth c H locs 0 0 Q (F0 m 2 ls []) := by
    intro d
    induction d using Nat.strongRecOn with
    | ind d ih =>
      intro n y H locs ls hd hl hP hS hinv
      refine lv_iload_n hx hb mD_Se_drawBits_2 rfl (lv_at hl 0 rfl) ?_
      refine lv_iload_n hx hb mD_Se_drawBits_3 rfl (lv_at hl 2 rfl) ?_
      refine lv_icmp_ge (tgt := 23) hx hb mD_Se_drawBits_4 rfl (fun hc => ?_) (fun hc => ?_)
      · skip
        have hn : n = 8 := by have := ts_ge (by omega) (by omega) hc; omega
        subst hn
        subst hQ
        exact gw_vret hx hb hr hlocks hP hS (hinv) mD_Se_drawBits_23 (Nat.zero_le _) (Nat.zero_le _)
      · skip
        have hn : n < 8 := ts_lt (by omega) (by omega) hc
        refine lv_aload_n hx hb mD_Se_drawBits_7 rfl (lv_at hl 1 rfl) ?_
        refine lv_iload_n hx hb mD_Se_drawBits_8 rfl (lv_at hl 0 rfl) ?_
        refine lv_aload_n hx hb mD_Se_drawBits_9 rfl (lv_at hl 3 rfl) ?_
        refine gc_Vi (As := []) (rest := [.int (nI n), .ref (ad 3)]) hx hb hml hown htw hK hP hS 1 (k_So_draw l D ct ad hI y) gZ0_ok (fun _ _ _ => trivial) (gA_mono hS.1) (by decide) rfl rfl ww_188 ww_189 ww_190 ww_24 wC_So_draw mP_So_draw (by decide) rfl hl.1 rfl (Nat.le_of_ble_eq_true rfl) mD_Se_drawBits_10 ⟨Nat.le_of_ble_eq_true rfl, Nat.le_of_ble_eq_true rfl⟩ (fun r2 x1 H locs hp1 hP _ _ hS => ?_)
        refine lv_bipush (v := nI 31) hx hb mD_Se_drawBits_13 (by decide) ?_
        refine lv_iushr hx hb mD_Se_drawBits_15 rfl ?_
        refine t_iast hx hb hK hI hA hP hS 3 8 (by decide) (fun _ => rfl) n rfl (by omega) (by decide) mD_Se_drawBits_16 (fun H locs hP hS => ?_)
        obtain ⟨x3, hx3⟩ : ∃ z, z = tU x1 3 (upd (x1.1 3) n ((r2.toUInt32 >>> ((nI 31).toUInt32 &&& Int32.toUInt32 31)).toInt32)) := ⟨_, rfl⟩
        rw [← hx3] at hP
        refine lv_iinc (k := 0) (v := nI (n + 1)) (lv' := [(3, .int (nI (n + 1))), (0, .ref (ad 3)), (1, .int (nI 8)), (2, .ref (ad 1))]) hx hb mD_Se_drawBits_17 hl rfl (by rw [lit1, nI_1]) (by decide) rfl (fun ls hl => ?_)
        refine lv_goto (tgt := 2) hx hb mD_Se_drawBits_20 rfl ?_
        exact ih (d - 1) (by omega) (n + 1) x3 _ _ _ (by omega) (lv_sub hl [0, 1, 2, 3] rfl) hP hS (by obtain ⟨g, hg, hb9⟩ := hinv; exact ⟨upd g n _, by rw [hx3, tU_f, hp1, hg, bx_uu, va_up_self], ts_bits hb9 (tn_bit _)⟩)
  exact loop 8 0 x _ _ _ (by omega) hl hP hS ⟨x.1 3, va_up_same.symm, fun _ h => absurd h (Nat.not_lt_zero _)⟩

set_option maxHeartbeats 4000000 in
set_option maxRecDepth 100000 in
theorem k_Se_drawBits32 (l : Launch) (D : va_G) (ct : Nat → ClassId) (ad : Nat → Nat) (hI : gw_inj 424 ad) (x : tS)  : gMv l mY_Se_drawBits mB_Se_drawBits 4 none (rF 1 22) D (tT ct) gZ0 424 ad (tD ct ad) [.ref (ad 4), .int (nI 32), .ref (ad 1)] x (fun x' => ∃ g, x'.1 = va_up x.1 4 g ∧ ∀ i, i < 32 → tp_bit (g i)) := by
  refine gMv_enter (by decide) (Nat.le_of_ble_eq_true rfl) ?_
  intro p e s m below meth c ls hx hb hr htw hown hlocks hml hl hP hK hZ hS
  have hA : ∀ k, k < 424 → gA 424 ad s.heap.size (ad k) := fun _ h => gA_in h
  have hl : lv_has ls 4 [(0, .ref (ad 4)), (1, .int (nI 32)), (2, .ref (ad 1))] := hl
  refine gw_nmQ (fun Q hQ => ?_)
  refine lv_iconst (v := nI 0) hx hb mD_Se_drawBits_0 (by decide) ?_
  refine lv_istore_n (lv' := [(3, .int (nI 0)), (0, .ref (ad 4)), (1, .int (nI 32)), (2, .ref (ad 1))]) hx hb mD_Se_drawBits_1 rfl hl (by decide) rfl (fun ls hl => ?_)
  have loop : ∀ (d : Nat) (n : Nat) (y : tS) (H : Heap) (locs : List Loc) (ls : Array Slot), n + d = 32 → lv_has ls 4 [(3, .int (nI n)), (0, .ref (ad 4)), (1, .int (nI 32)), (2, .ref (ad 1))] → va_P D cL (gw 424 ad (tD ct ad y)) H → va_S (gA 424 ad s.heap.size) s.heap H locs → (∃ g, y.1 = va_up x.1 4 g ∧ ∀ i, i < n → tp_bit (g i)) → W p l e (rF 1 22) s m [.ref (ad 4), .int (nI 32), .ref (ad 1)].toArray below meth c H locs 0 0 Q (F0 m 2 ls []) := by
    intro d
    induction d using Nat.strongRecOn with
    | ind d ih =>
      intro n y H locs ls hd hl hP hS hinv
      refine lv_iload_n hx hb mD_Se_drawBits_2 rfl (lv_at hl 0 rfl) ?_
      refine lv_iload_n hx hb mD_Se_drawBits_3 rfl (lv_at hl 2 rfl) ?_
      refine lv_icmp_ge (tgt := 23) hx hb mD_Se_drawBits_4 rfl (fun hc => ?_) (fun hc => ?_)
      · skip
        have hn : n = 32 := by have := ts_ge (by omega) (by omega) hc; omega
        subst hn
        subst hQ
        exact gw_vret hx hb hr hlocks hP hS (hinv) mD_Se_drawBits_23 (Nat.zero_le _) (Nat.zero_le _)
      · skip
        have hn : n < 32 := ts_lt (by omega) (by omega) hc
        refine lv_aload_n hx hb mD_Se_drawBits_7 rfl (lv_at hl 1 rfl) ?_
        refine lv_iload_n hx hb mD_Se_drawBits_8 rfl (lv_at hl 0 rfl) ?_
        refine lv_aload_n hx hb mD_Se_drawBits_9 rfl (lv_at hl 3 rfl) ?_
        refine gc_Vi (As := []) (rest := [.int (nI n), .ref (ad 4)]) hx hb hml hown htw hK hP hS 1 (k_So_draw l D ct ad hI y) gZ0_ok (fun _ _ _ => trivial) (gA_mono hS.1) (by decide) rfl rfl ww_188 ww_189 ww_190 ww_24 wC_So_draw mP_So_draw (by decide) rfl hl.1 rfl (Nat.le_of_ble_eq_true rfl) mD_Se_drawBits_10 ⟨Nat.le_of_ble_eq_true rfl, Nat.le_of_ble_eq_true rfl⟩ (fun r2 x1 H locs hp1 hP _ _ hS => ?_)
        refine lv_bipush (v := nI 31) hx hb mD_Se_drawBits_13 (by decide) ?_
        refine lv_iushr hx hb mD_Se_drawBits_15 rfl ?_
        refine t_iast hx hb hK hI hA hP hS 4 32 (by decide) (fun _ => rfl) n rfl (by omega) (by decide) mD_Se_drawBits_16 (fun H locs hP hS => ?_)
        obtain ⟨x3, hx3⟩ : ∃ z, z = tU x1 4 (upd (x1.1 4) n ((r2.toUInt32 >>> ((nI 31).toUInt32 &&& Int32.toUInt32 31)).toInt32)) := ⟨_, rfl⟩
        rw [← hx3] at hP
        refine lv_iinc (k := 0) (v := nI (n + 1)) (lv' := [(3, .int (nI (n + 1))), (0, .ref (ad 4)), (1, .int (nI 32)), (2, .ref (ad 1))]) hx hb mD_Se_drawBits_17 hl rfl (by rw [lit1, nI_1]) (by decide) rfl (fun ls hl => ?_)
        refine lv_goto (tgt := 2) hx hb mD_Se_drawBits_20 rfl ?_
        exact ih (d - 1) (by omega) (n + 1) x3 _ _ _ (by omega) (lv_sub hl [0, 1, 2, 3] rfl) hP hS (by obtain ⟨g, hg, hb9⟩ := hinv; exact ⟨upd g n _, by rw [hx3, tU_f, hp1, hg, bx_uu, va_up_self], ts_bits hb9 (tn_bit _)⟩)
  exact loop 32 0 x _ _ _ (by omega) hl hP hS ⟨x.1 4, va_up_same.symm, fun _ h => absurd h (Nat.not_lt_zero _)⟩

set_option maxHeartbeats 4000000 in
set_option maxRecDepth 100000 in
theorem k_Se_renew (l : Launch) (D : va_G) (ct : Nat → ClassId) (ad : Nat → Nat) (hI : gw_inj 424 ad) (x : tS)  : gMv l mY_Se_renew mB_Se_renew 2 none (rF 2 45) D (tT ct) gZ0 424 ad (tD ct ad) [.ref (ad 2), .ref (ad 1)] x (fun x' => ∃ g3 g4, x'.1 = va_up (va_up x.1 3 g3) 4 g4 ∧ (∀ i, i < 8 → tp_bit (g3 i)) ∧ ∀ i, i < 32 → tp_bit (g4 i)) := by
  refine gMv_enter (by decide) (Nat.le_of_ble_eq_true rfl) ?_
  intro p e s m below meth c ls hx hb hr htw hown hlocks hml hl hP hK hZ hS
  have hA : ∀ k, k < 424 → gA 424 ad s.heap.size (ad k) := fun _ h => gA_in h
  have hl : lv_has ls 2 [(0, .ref (ad 2)), (1, .ref (ad 1))] := hl
  refine lv_aload_n hx hb mD_Se_renew_0 rfl (lv_at hl 0 rfl) ?_
  refine t_get (C := cN_Se) (T := cF_Se) (N := 2) (ci := 4) hx hb htw wU_Se hown hK hP 2 (by decide) rfl rfl 0 (by decide) rfl ww_65 rfl mD_Se_renew_1 ?_
  refine lv_bipush (v := nI 8) hx hb mD_Se_renew_4 (by decide) ?_
  refine lv_aload_n hx hb mD_Se_renew_6 rfl (lv_at hl 1 rfl) ?_
  refine gc_Sv (As := [.ref (ad 3), .int (nI 8), .ref (ad 1)]) (rest := []) hx hb hml hown htw hK hP hS (k_Se_drawBits8 l D ct ad hI x) gZ0_ok (fun _ _ _ => trivial) (gA_mono hS.1) ww_185 ww_186 ww_25 wC_Se_drawBits mP_Se_drawBits (by decide) rfl hl.1 rfl (Nat.le_of_ble_eq_true rfl) mD_Se_renew_7 ⟨Nat.le_of_ble_eq_true rfl, Nat.le_of_ble_eq_true rfl⟩ (fun x1 H locs hp1 hP _ _ hS => ?_)
  refine lv_aload_n hx hb mD_Se_renew_10 rfl (lv_at hl 0 rfl) ?_
  refine t_get (C := cN_Se) (T := cF_Se) (N := 2) (ci := 4) hx hb htw wU_Se hown hK hP 2 (by decide) rfl rfl 1 (by decide) rfl ww_67 rfl mD_Se_renew_11 ?_
  refine lv_bipush (v := nI 32) hx hb mD_Se_renew_14 (by decide) ?_
  refine lv_aload_n hx hb mD_Se_renew_16 rfl (lv_at hl 1 rfl) ?_
  refine gc_Sv (As := [.ref (ad 4), .int (nI 32), .ref (ad 1)]) (rest := []) hx hb hml hown htw hK hP hS (k_Se_drawBits32 l D ct ad hI x1) gZ0_ok (fun _ _ _ => trivial) (gA_mono hS.1) ww_185 ww_186 ww_25 wC_Se_drawBits mP_Se_drawBits (by decide) rfl hl.1 rfl (Nat.le_of_ble_eq_true rfl) mD_Se_renew_17 ⟨Nat.le_of_ble_eq_true rfl, Nat.le_of_ble_eq_true rfl⟩ (fun x3 H locs hp3 hP _ _ hS => ?_)
  exact gw_vret hx hb hr hlocks hP hS (by obtain ⟨g3, e3, b3⟩ := hp1; obtain ⟨g4, e4, b4⟩ := hp3; exact ⟨g3, g4, by rw [e4, e3], b3, b4⟩) mD_Se_renew_20 (Nat.zero_le _) (Nat.zero_le _)

set_option maxHeartbeats 4000000 in
set_option maxRecDepth 100000 in
theorem k_Se_hide5 (l : Launch) (D : va_G) (ct : Nat → ClassId) (ad : Nat → Nat) (hI : gw_inj 424 ad) (x : tS) (pl : Int32) {k : Nat} (hk : tRow k) : gMv l mY_Se_hide mB_Se_hide 7 none (rF 2 43) D (tT ct) gZ0 424 ad (tD ct ad) [.ref (ad 2), .int pl, .ref (ad k), .int (nI 5), .ref (ad 1)] x (fun x' => ∃ g, x'.1 = va_up x.1 k g ∧ tp_sm 16 (tp_place (x.1 3) g - pl)) := by
  refine gMv_enter (by decide) (Nat.le_of_ble_eq_true rfl) ?_
  intro p e s m below meth c ls hx hb hr htw hown hlocks hml hl hP hK hZ hS
  have hA : ∀ k, k < 424 → gA 424 ad s.heap.size (ad k) := fun _ h => gA_in h
  have hl : lv_has ls 7 [(0, .ref (ad 2)), (1, .int pl), (2, .ref (ad k)), (3, .int (nI 5)), (4, .ref (ad 1))] := hl
  refine gw_nmQ (fun Q hQ => ?_)
  refine lv_iload_n hx hb mD_Se_hide_0 rfl (lv_at hl 1 rfl) ?_
  refine lv_aload hx hb mD_Se_hide_1 (lv_at hl 4 rfl) ?_
  refine lv_iload_n hx hb mD_Se_hide_3 rfl (lv_at hl 3 rfl) ?_
  refine gc_Vi (As := [.int (nI 5)]) (rest := [.int pl]) hx hb hml hown htw hK hP hS 1 (k_So_drawNoise5 l D ct ad hI x) gZ0_ok (fun _ _ _ => trivial) (gA_mono hS.1) (by decide) rfl rfl ww_207 ww_208 ww_209 ww_24 wC_So_drawNoise mP_So_drawNoise (by decide) rfl hl.1 rfl (Nat.le_of_ble_eq_true rfl) mD_Se_hide_4 ⟨Nat.le_of_ble_eq_true rfl, Nat.le_of_ble_eq_true rfl⟩ (fun r2 x1 H locs hp1 hP _ _ hS => ?_)
  refine lv_iadd hx hb mD_Se_hide_7 ?_
  refine lv_istore (lv' := [(5, .int (pl + r2)), (0, .ref (ad 2)), (1, .int pl), (2, .ref (ad k)), (3, .int (nI 5)), (4, .ref (ad 1))]) hx hb mD_Se_hide_8 hl (by decide) rfl (fun ls hl => ?_)
  refine lv_iconst (v := nI 0) hx hb mD_Se_hide_10 (by decide) ?_
  refine lv_istore (lv' := [(6, .int (nI 0)), (5, .int (pl + r2)), (0, .ref (ad 2)), (1, .int pl), (2, .ref (ad k)), (3, .int (nI 5)), (4, .ref (ad 1))]) hx hb mD_Se_hide_11 hl (by decide) rfl (fun ls hl => ?_)
  have loop : ∀ (d : Nat) (n : Nat) (y : tS) (h : Int32) (H : Heap) (locs : List Loc) (ls : Array Slot), n + d = 8 → lv_has ls 7 [(6, .int (nI n)), (5, .int h), (0, .ref (ad 2)), (1, .int pl), (2, .ref (ad k)), (3, .int (nI 5)), (4, .ref (ad 1))] → va_P D cL (gw 424 ad (tD ct ad y)) H → va_S (gA 424 ad s.heap.size) s.heap H locs → (∃ g, y.1 = va_up x.1 k g ∧ tp_sm 16 (h - pl - tp_sum n (fun i => g i * x.1 3 i))) → W p l e (rF 2 43) s m [.ref (ad 2), .int pl, .ref (ad k), .int (nI 5), .ref (ad 1)].toArray below meth c H locs 0 0 Q (F0 m 13 ls []) := by
    intro d
    induction d using Nat.strongRecOn with
    | ind d ih =>
      intro n y h H locs ls hd hl hP hS hinv
      refine lv_iload hx hb mD_Se_hide_13 (lv_at hl 0 rfl) ?_
      refine lv_bipush (v := nI 8) hx hb mD_Se_hide_15 (by decide) ?_
      refine lv_icmp_ge (tgt := 52) hx hb mD_Se_hide_17 rfl (fun hc => ?_) (fun hc => ?_)
      · skip
        have hn : n = 8 := by have := ts_ge (by omega) (by omega) hc; omega
        subst hn
        refine lv_aload_n hx hb mD_Se_hide_52 rfl (lv_at hl 4 rfl) ?_
        refine lv_bipush (v := nI 8) hx hb mD_Se_hide_53 (by decide) ?_
        refine lv_iload hx hb mD_Se_hide_55 (lv_at hl 1 rfl) ?_
        refine t_iast hx hb hK hI hA hP hS k 9 (tRow_lt hk) (fun _ => tE_row hk) 8 rfl (by decide) (by decide) mD_Se_hide_57 (fun H locs hP hS => ?_)
        obtain ⟨x3, hx3⟩ : ∃ z, z = tU y k (upd (y.1 k) 8 h) := ⟨_, rfl⟩
        rw [← hx3] at hP
        subst hQ
        exact gw_vret hx hb hr hlocks hP hS (by obtain ⟨g, hg, hb9⟩ := hinv; exact ⟨upd g 8 h, by rw [hx3, tU_f, hg, bx_uu, va_up_self], ts_hide8 hb9⟩) mD_Se_hide_58 (Nat.zero_le _) (Nat.zero_le _)
      · skip
        have hn : n < 8 := ts_lt (by omega) (by omega) hc
        refine lv_aload_n hx hb mD_Se_hide_20 rfl (lv_at hl 4 rfl) ?_
        refine lv_iload hx hb mD_Se_hide_21 (lv_at hl 0 rfl) ?_
        refine lv_aload hx hb mD_Se_hide_23 (lv_at hl 6 rfl) ?_
        refine gc_Vi (As := []) (rest := [.int (nI n), .ref (ad k)]) hx hb hml hown htw hK hP hS 1 (k_So_draw l D ct ad hI y) gZ0_ok (fun _ _ _ => trivial) (gA_mono hS.1) (by decide) rfl rfl ww_188 ww_189 ww_190 ww_24 wC_So_draw mP_So_draw (by decide) rfl hl.1 rfl (Nat.le_of_ble_eq_true rfl) mD_Se_hide_25 ⟨Nat.le_of_ble_eq_true rfl, Nat.le_of_ble_eq_true rfl⟩ (fun r5 x4 H locs hp4 hP _ _ hS => ?_)
        refine t_iast hx hb hK hI hA hP hS k 9 (tRow_lt hk) (fun _ => tE_row hk) n rfl (by omega) (by decide) mD_Se_hide_28 (fun H locs hP hS => ?_)
        obtain ⟨x6, hx6⟩ : ∃ z, z = tU x4 k (upd (x4.1 k) n r5) := ⟨_, rfl⟩
        rw [← hx6] at hP
        refine lv_iload hx hb mD_Se_hide_29 (lv_at hl 1 rfl) ?_
        refine lv_aload_n hx hb mD_Se_hide_31 rfl (lv_at hl 4 rfl) ?_
        refine lv_iload hx hb mD_Se_hide_32 (lv_at hl 0 rfl) ?_
        refine t_iald hx hb hK hP k 9 (tRow_lt hk) (tE_row hk) n rfl (by omega) (by decide) mD_Se_hide_34 ?_
        refine lv_aload_n hx hb mD_Se_hide_35 rfl (lv_at hl 2 rfl) ?_
        refine t_get (C := cN_Se) (T := cF_Se) (N := 2) (ci := 4) hx hb htw wU_Se hown hK hP 2 (by decide) rfl rfl 0 (by decide) rfl ww_65 rfl mD_Se_hide_36 ?_
        refine lv_iload hx hb mD_Se_hide_39 (lv_at hl 0 rfl) ?_
        refine t_iald hx hb hK hP 3 8 (by decide) rfl n rfl (by omega) (by decide) mD_Se_hide_41 ?_
        refine lv_imul hx hb mD_Se_hide_42 ?_
        refine lv_iadd hx hb mD_Se_hide_43 ?_
        refine lv_istore (lv' := [(5, .int (h + ((x6.1 k n) * (x6.1 3 n)))), (6, .int (nI n)), (0, .ref (ad 2)), (1, .int pl), (2, .ref (ad k)), (3, .int (nI 5)), (4, .ref (ad 1))]) hx hb mD_Se_hide_44 hl (by decide) rfl (fun ls hl => ?_)
        refine lv_iinc (k := 1) (v := nI (n + 1)) (lv' := [(6, .int (nI (n + 1))), (5, .int (h + ((x6.1 k n) * (x6.1 3 n)))), (0, .ref (ad 2)), (1, .int pl), (2, .ref (ad k)), (3, .int (nI 5)), (4, .ref (ad 1))]) hx hb mD_Se_hide_46 hl rfl (by rw [lit1, nI_1]) (by decide) rfl (fun ls hl => ?_)
        refine lv_goto (tgt := 13) hx hb mD_Se_hide_49 rfl ?_
        exact ih (d - 1) (by omega) (n + 1) x6 _ _ _ _ (by omega) (lv_sub hl [0, 1, 2, 3, 4, 5, 6] rfl) hP hS (by obtain ⟨g, hg, hb9⟩ := hinv; have e3 : x6.1 3 = x.1 3 := (by rw [hx6, tU_f, va_up_ne _ _ (ts_not3 hk), hp4, hg, va_up_ne _ _ (ts_not3 hk)]); have ek : x6.1 k = upd g n r5 := (by rw [hx6, tU_f, va_up_self, hp4, hg, va_up_self]); exact ⟨upd g n r5, by rw [hx6, tU_f, hp4, hg, bx_uu, va_up_self], by rw [ek, e3]; exact ts_hide hb9⟩)
  exact loop 8 0 x1 _ _ _ _ (by omega) hl hP hS ⟨x.1 k, by rw [hp1.1, va_up_same], by rw [tp_sum_0]; have e : ∀ a b : Int32, a + b - a - 0 = b := (by intro a b; grind); rw [e]; exact hp1.2⟩

set_option maxHeartbeats 4000000 in
set_option maxRecDepth 100000 in
theorem k_Se_hide3 (l : Launch) (D : va_G) (ct : Nat → ClassId) (ad : Nat → Nat) (hI : gw_inj 424 ad) (x : tS) (pl : Int32) {k : Nat} (hk : tRow k) : gMv l mY_Se_hide mB_Se_hide 7 none (rF 2 43) D (tT ct) gZ0 424 ad (tD ct ad) [.ref (ad 2), .int pl, .ref (ad k), .int (nI 3), .ref (ad 1)] x (fun x' => ∃ g, x'.1 = va_up x.1 k g ∧ tp_sm 4 (tp_place (x.1 3) g - pl)) := by
  refine gMv_enter (by decide) (Nat.le_of_ble_eq_true rfl) ?_
  intro p e s m below meth c ls hx hb hr htw hown hlocks hml hl hP hK hZ hS
  have hA : ∀ k, k < 424 → gA 424 ad s.heap.size (ad k) := fun _ h => gA_in h
  have hl : lv_has ls 7 [(0, .ref (ad 2)), (1, .int pl), (2, .ref (ad k)), (3, .int (nI 3)), (4, .ref (ad 1))] := hl
  refine gw_nmQ (fun Q hQ => ?_)
  refine lv_iload_n hx hb mD_Se_hide_0 rfl (lv_at hl 1 rfl) ?_
  refine lv_aload hx hb mD_Se_hide_1 (lv_at hl 4 rfl) ?_
  refine lv_iload_n hx hb mD_Se_hide_3 rfl (lv_at hl 3 rfl) ?_
  refine gc_Vi (As := [.int (nI 3)]) (rest := [.int pl]) hx hb hml hown htw hK hP hS 1 (k_So_drawNoise3 l D ct ad hI x) gZ0_ok (fun _ _ _ => trivial) (gA_mono hS.1) (by decide) rfl rfl ww_207 ww_208 ww_209 ww_24 wC_So_drawNoise mP_So_drawNoise (by decide) rfl hl.1 rfl (Nat.le_of_ble_eq_true rfl) mD_Se_hide_4 ⟨Nat.le_of_ble_eq_true rfl, Nat.le_of_ble_eq_true rfl⟩ (fun r2 x1 H locs hp1 hP _ _ hS => ?_)
  refine lv_iadd hx hb mD_Se_hide_7 ?_
  refine lv_istore (lv' := [(5, .int (pl + r2)), (0, .ref (ad 2)), (1, .int pl), (2, .ref (ad k)), (3, .int (nI 3)), (4, .ref (ad 1))]) hx hb mD_Se_hide_8 hl (by decide) rfl (fun ls hl => ?_)
  refine lv_iconst (v := nI 0) hx hb mD_Se_hide_10 (by decide) ?_
  refine lv_istore (lv' := [(6, .int (nI 0)), (5, .int (pl + r2)), (0, .ref (ad 2)), (1, .int pl), (2, .ref (ad k)), (3, .int (nI 3)), (4, .ref (ad 1))]) hx hb mD_Se_hide_11 hl (by decide) rfl (fun ls hl => ?_)
  have loop : ∀ (d : Nat) (n : Nat) (y : tS) (h : Int32) (H : Heap) (locs : List Loc) (ls : Array Slot), n + d = 8 → lv_has ls 7 [(6, .int (nI n)), (5, .int h), (0, .ref (ad 2)), (1, .int pl), (2, .ref (ad k)), (3, .int (nI 3)), (4, .ref (ad 1))] → va_P D cL (gw 424 ad (tD ct ad y)) H → va_S (gA 424 ad s.heap.size) s.heap H locs → (∃ g, y.1 = va_up x.1 k g ∧ tp_sm 4 (h - pl - tp_sum n (fun i => g i * x.1 3 i))) → W p l e (rF 2 43) s m [.ref (ad 2), .int pl, .ref (ad k), .int (nI 3), .ref (ad 1)].toArray below meth c H locs 0 0 Q (F0 m 13 ls []) := by
    intro d
    induction d using Nat.strongRecOn with
    | ind d ih =>
      intro n y h H locs ls hd hl hP hS hinv
      refine lv_iload hx hb mD_Se_hide_13 (lv_at hl 0 rfl) ?_
      refine lv_bipush (v := nI 8) hx hb mD_Se_hide_15 (by decide) ?_
      refine lv_icmp_ge (tgt := 52) hx hb mD_Se_hide_17 rfl (fun hc => ?_) (fun hc => ?_)
      · skip
        have hn : n = 8 := by have := ts_ge (by omega) (by omega) hc; omega
        subst hn
        refine lv_aload_n hx hb mD_Se_hide_52 rfl (lv_at hl 4 rfl) ?_
        refine lv_bipush (v := nI 8) hx hb mD_Se_hide_53 (by decide) ?_
        refine lv_iload hx hb mD_Se_hide_55 (lv_at hl 1 rfl) ?_
        refine t_iast hx hb hK hI hA hP hS k 9 (tRow_lt hk) (fun _ => tE_row hk) 8 rfl (by decide) (by decide) mD_Se_hide_57 (fun H locs hP hS => ?_)
        obtain ⟨x3, hx3⟩ : ∃ z, z = tU y k (upd (y.1 k) 8 h) := ⟨_, rfl⟩
        rw [← hx3] at hP
        subst hQ
        exact gw_vret hx hb hr hlocks hP hS (by obtain ⟨g, hg, hb9⟩ := hinv; exact ⟨upd g 8 h, by rw [hx3, tU_f, hg, bx_uu, va_up_self], ts_hide8 hb9⟩) mD_Se_hide_58 (Nat.zero_le _) (Nat.zero_le _)
      · skip
        have hn : n < 8 := ts_lt (by omega) (by omega) hc
        refine lv_aload_n hx hb mD_Se_hide_20 rfl (lv_at hl 4 rfl) ?_
        refine lv_iload hx hb mD_Se_hide_21 (lv_at hl 0 rfl) ?_
        refine lv_aload hx hb mD_Se_hide_23 (lv_at hl 6 rfl) ?_
        refine gc_Vi (As := []) (rest := [.int (nI n), .ref (ad k)]) hx hb hml hown htw hK hP hS 1 (k_So_draw l D ct ad hI y) gZ0_ok (fun _ _ _ => trivial) (gA_mono hS.1) (by decide) rfl rfl ww_188 ww_189 ww_190 ww_24 wC_So_draw mP_So_draw (by decide) rfl hl.1 rfl (Nat.le_of_ble_eq_true rfl) mD_Se_hide_25 ⟨Nat.le_of_ble_eq_true rfl, Nat.le_of_ble_eq_true rfl⟩ (fun r5 x4 H locs hp4 hP _ _ hS => ?_)
        refine t_iast hx hb hK hI hA hP hS k 9 (tRow_lt hk) (fun _ => tE_row hk) n rfl (by omega) (by decide) mD_Se_hide_28 (fun H locs hP hS => ?_)
        obtain ⟨x6, hx6⟩ : ∃ z, z = tU x4 k (upd (x4.1 k) n r5) := ⟨_, rfl⟩
        rw [← hx6] at hP
        refine lv_iload hx hb mD_Se_hide_29 (lv_at hl 1 rfl) ?_
        refine lv_aload_n hx hb mD_Se_hide_31 rfl (lv_at hl 4 rfl) ?_
        refine lv_iload hx hb mD_Se_hide_32 (lv_at hl 0 rfl) ?_
        refine t_iald hx hb hK hP k 9 (tRow_lt hk) (tE_row hk) n rfl (by omega) (by decide) mD_Se_hide_34 ?_
        refine lv_aload_n hx hb mD_Se_hide_35 rfl (lv_at hl 2 rfl) ?_
        refine t_get (C := cN_Se) (T := cF_Se) (N := 2) (ci := 4) hx hb htw wU_Se hown hK hP 2 (by decide) rfl rfl 0 (by decide) rfl ww_65 rfl mD_Se_hide_36 ?_
        refine lv_iload hx hb mD_Se_hide_39 (lv_at hl 0 rfl) ?_
        refine t_iald hx hb hK hP 3 8 (by decide) rfl n rfl (by omega) (by decide) mD_Se_hide_41 ?_
        refine lv_imul hx hb mD_Se_hide_42 ?_
        refine lv_iadd hx hb mD_Se_hide_43 ?_
        refine lv_istore (lv' := [(5, .int (h + ((x6.1 k n) * (x6.1 3 n)))), (6, .int (nI n)), (0, .ref (ad 2)), (1, .int pl), (2, .ref (ad k)), (3, .int (nI 3)), (4, .ref (ad 1))]) hx hb mD_Se_hide_44 hl (by decide) rfl (fun ls hl => ?_)
        refine lv_iinc (k := 1) (v := nI (n + 1)) (lv' := [(6, .int (nI (n + 1))), (5, .int (h + ((x6.1 k n) * (x6.1 3 n)))), (0, .ref (ad 2)), (1, .int pl), (2, .ref (ad k)), (3, .int (nI 3)), (4, .ref (ad 1))]) hx hb mD_Se_hide_46 hl rfl (by rw [lit1, nI_1]) (by decide) rfl (fun ls hl => ?_)
        refine lv_goto (tgt := 13) hx hb mD_Se_hide_49 rfl ?_
        exact ih (d - 1) (by omega) (n + 1) x6 _ _ _ _ (by omega) (lv_sub hl [0, 1, 2, 3, 4, 5, 6] rfl) hP hS (by obtain ⟨g, hg, hb9⟩ := hinv; have e3 : x6.1 3 = x.1 3 := (by rw [hx6, tU_f, va_up_ne _ _ (ts_not3 hk), hp4, hg, va_up_ne _ _ (ts_not3 hk)]); have ek : x6.1 k = upd g n r5 := (by rw [hx6, tU_f, va_up_self, hp4, hg, va_up_self]); exact ⟨upd g n r5, by rw [hx6, tU_f, hp4, hg, bx_uu, va_up_self], by rw [ek, e3]; exact ts_hide hb9⟩)
  exact loop 8 0 x1 _ _ _ _ (by omega) hl hP hS ⟨x.1 k, by rw [hp1.1, va_up_same], by rw [tp_sum_0]; have e : ∀ a b : Int32, a + b - a - 0 = b := (by intro a b; grind); rw [e]; exact hp1.2⟩

set_option maxHeartbeats 4000000 in
set_option maxRecDepth 100000 in
theorem k_Se_placeOf (l : Launch) (D : va_G) (ct : Nat → ClassId) (ad : Nat → Nat) (hI : gw_inj 424 ad) (x : tS) {k : Nat} (hk : tRow k) : gMi l mY_Se_placeOf mB_Se_placeOf 4 (some .int) (rF 0 0) D (tT ct) gZ0 424 ad (tD ct ad) [.ref (ad 2), .ref (ad k)] x (fun r x' => x' = x ∧ r = tp_place (x.1 3) (x.1 k)) := by
  refine gMi_enter (by decide) (Nat.le_of_ble_eq_true rfl) ?_
  intro p e s m below meth c ls hx hb hr htw hown hlocks hml hl hP hK hZ hS
  have hA : ∀ k, k < 424 → gA 424 ad s.heap.size (ad k) := fun _ h => gA_in h
  have hl : lv_has ls 4 [(0, .ref (ad 2)), (1, .ref (ad k))] := hl
  refine gw_nmQ (fun Q hQ => ?_)
  refine lv_aload_n hx hb mD_Se_placeOf_0 rfl (lv_at hl 1 rfl) ?_
  refine lv_bipush (v := nI 8) hx hb mD_Se_placeOf_1 (by decide) ?_
  refine t_iald hx hb hK hP k 9 (tRow_lt hk) (tE_row hk) 8 rfl (by decide) (by decide) mD_Se_placeOf_3 ?_
  refine lv_istore_n (lv' := [(2, .int (x.1 k 8)), (0, .ref (ad 2)), (1, .ref (ad k))]) hx hb mD_Se_placeOf_4 rfl hl (by decide) rfl (fun ls hl => ?_)
  refine lv_iconst (v := nI 0) hx hb mD_Se_placeOf_5 (by decide) ?_
  refine lv_istore_n (lv' := [(3, .int (nI 0)), (2, .int (x.1 k 8)), (0, .ref (ad 2)), (1, .ref (ad k))]) hx hb mD_Se_placeOf_6 rfl hl (by decide) rfl (fun ls hl => ?_)
  have loop : ∀ (d : Nat) (n : Nat) (q : Int32) (H : Heap) (locs : List Loc) (ls : Array Slot), n + d = 8 → lv_has ls 4 [(3, .int (nI n)), (2, .int q), (0, .ref (ad 2)), (1, .ref (ad k))] → va_P D cL (gw 424 ad (tD ct ad x)) H → va_S (gA 424 ad s.heap.size) s.heap H locs → (q = x.1 k 8 - tp_sum n (fun i => x.1 k i * x.1 3 i)) → W p l e (rF 0 0) s m [.ref (ad 2), .ref (ad k)].toArray below meth c H locs 0 0 Q (F0 m 7 ls []) := by
    intro d
    induction d using Nat.strongRecOn with
    | ind d ih =>
      intro n q H locs ls hd hl hP hS hinv
      refine lv_iload_n hx hb mD_Se_placeOf_7 rfl (lv_at hl 0 rfl) ?_
      refine lv_bipush (v := nI 8) hx hb mD_Se_placeOf_8 (by decide) ?_
      refine lv_icmp_ge (tgt := 32) hx hb mD_Se_placeOf_10 rfl (fun hc => ?_) (fun hc => ?_)
      · skip
        have hn : n = 8 := by have := ts_ge (by omega) (by omega) hc; omega
        subst hn
        refine lv_iload_n hx hb mD_Se_placeOf_32 rfl (lv_at hl 1 rfl) ?_
        subst hQ
        exact gw_iret hx hb hr hlocks hP hS (⟨rfl, hinv⟩) mD_Se_placeOf_33 (Nat.zero_le _) (Nat.zero_le _)
      · skip
        have hn : n < 8 := ts_lt (by omega) (by omega) hc
        refine lv_iload_n hx hb mD_Se_placeOf_13 rfl (lv_at hl 1 rfl) ?_
        refine lv_aload_n hx hb mD_Se_placeOf_14 rfl (lv_at hl 3 rfl) ?_
        refine lv_iload_n hx hb mD_Se_placeOf_15 rfl (lv_at hl 0 rfl) ?_
        refine t_iald hx hb hK hP k 9 (tRow_lt hk) (tE_row hk) n rfl (by omega) (by decide) mD_Se_placeOf_16 ?_
        refine lv_aload_n hx hb mD_Se_placeOf_17 rfl (lv_at hl 2 rfl) ?_
        refine t_get (C := cN_Se) (T := cF_Se) (N := 2) (ci := 4) hx hb htw wU_Se hown hK hP 2 (by decide) rfl rfl 0 (by decide) rfl ww_65 rfl mD_Se_placeOf_18 ?_
        refine lv_iload_n hx hb mD_Se_placeOf_21 rfl (lv_at hl 0 rfl) ?_
        refine t_iald hx hb hK hP 3 8 (by decide) rfl n rfl (by omega) (by decide) mD_Se_placeOf_22 ?_
        refine lv_imul hx hb mD_Se_placeOf_23 ?_
        refine lv_isub hx hb mD_Se_placeOf_24 ?_
        refine lv_istore_n (lv' := [(2, .int (q - ((x.1 k n) * (x.1 3 n)))), (3, .int (nI n)), (0, .ref (ad 2)), (1, .ref (ad k))]) hx hb mD_Se_placeOf_25 rfl hl (by decide) rfl (fun ls hl => ?_)
        refine lv_iinc (k := 1) (v := nI (n + 1)) (lv' := [(3, .int (nI (n + 1))), (2, .int (q - ((x.1 k n) * (x.1 3 n)))), (0, .ref (ad 2)), (1, .ref (ad k))]) hx hb mD_Se_placeOf_26 hl rfl (by rw [lit1, nI_1]) (by decide) rfl (fun ls hl => ?_)
        refine lv_goto (tgt := 7) hx hb mD_Se_placeOf_29 rfl ?_
        exact ih (d - 1) (by omega) (n + 1) _ _ _ _ (by omega) (lv_sub hl [0, 1, 2, 3] rfl) hP hS (by rw [hinv, tp_sum_s]; grind)
  exact loop 8 0 _ _ _ _ (by omega) hl hP hS (by rw [tp_sum_0]; grind)

set_option maxHeartbeats 4000000 in
set_option maxRecDepth 100000 in
theorem k_Se_hideNothing (l : Launch) (D : va_G) (ct : Nat → ClassId) (ad : Nat → Nat) (hI : gw_inj 424 ad) (x : tS) {k : Nat} (hk : tPair k) : gMv l mY_Se_hideNothing mB_Se_hideNothing 4 none (rF 2 43) D (tT ct) gZ0 424 ad (tD ct ad) [.ref (ad 2), .ref (ad k), .ref (ad 1)] x (fun x' => ∃ g, x'.1 = va_up x.1 k g ∧ ∀ j : Int, tp_sm 4 (tp_ph (x.1 4) (fun i => g i) (fun i => g (32 + i)) j)) := by
  refine gMv_enter (by decide) (Nat.le_of_ble_eq_true rfl) ?_
  intro p e s m below meth c ls hx hb hr htw hown hlocks hml hl hP hK hZ hS
  have hA : ∀ k, k < 424 → gA 424 ad s.heap.size (ad k) := fun _ h => gA_in h
  have hl : lv_has ls 4 [(0, .ref (ad 2)), (1, .ref (ad k)), (2, .ref (ad 1))] := hl
  refine gw_nmQ (fun Q hQ => ?_)
  refine lv_iconst (v := nI 0) hx hb mD_Se_hideNothing_0 (by decide) ?_
  refine lv_istore_n (lv' := [(3, .int (nI 0)), (0, .ref (ad 2)), (1, .ref (ad k)), (2, .ref (ad 1))]) hx hb mD_Se_hideNothing_1 rfl hl (by decide) rfl (fun ls hl => ?_)
  have loop : ∀ (d : Nat) (n : Nat) (y : tS) (H : Heap) (locs : List Loc) (ls : Array Slot), n + d = 32 → lv_has ls 4 [(3, .int (nI n)), (0, .ref (ad 2)), (1, .ref (ad k)), (2, .ref (ad 1))] → va_P D cL (gw 424 ad (tD ct ad y)) H → va_S (gA 424 ad s.heap.size) s.heap H locs → (∃ g, y.1 = va_up x.1 k g ∧ ∀ i, i < n → tp_sm 4 (g (32 + i))) → W p l e (rF 2 43) s m [.ref (ad 2), .ref (ad k), .ref (ad 1)].toArray below meth c H locs 0 0 Q (F0 m 2 ls []) := by
    intro d
    induction d using Nat.strongRecOn with
    | ind d ih =>
      intro n y H locs ls hd hl hP hS hinv
      refine lv_iload_n hx hb mD_Se_hideNothing_2 rfl (lv_at hl 0 rfl) ?_
      refine lv_bipush (v := nI 32) hx hb mD_Se_hideNothing_3 (by decide) ?_
      refine lv_icmp_ge (tgt := 32) hx hb mD_Se_hideNothing_5 rfl (fun hc => ?_) (fun hc => ?_)
      · skip
        have hn : n = 32 := by have := ts_ge (by omega) (by omega) hc; omega
        subst hn
        obtain ⟨g0, hg0, hb0⟩ := hinv
        refine lv_iconst (v := nI 0) hx hb mD_Se_hideNothing_32 (by decide) ?_
        refine lv_istore_n (lv' := [(3, .int (nI 0)), (0, .ref (ad 2)), (1, .ref (ad k)), (2, .ref (ad 1))]) hx hb mD_Se_hideNothing_33 rfl hl (by decide) rfl (fun ls hl => ?_)
        have loop2 : ∀ (d : Nat) (n : Nat) (y : tS) (H : Heap) (locs : List Loc) (ls : Array Slot), n + d = 32 → lv_has ls 4 [(3, .int (nI n)), (0, .ref (ad 2)), (1, .ref (ad k)), (2, .ref (ad 1))] → va_P D cL (gw 424 ad (tD ct ad y)) H → va_S (gA 424 ad s.heap.size) s.heap H locs → (∃ g, y.1 = va_up x.1 k g ∧ (∀ j, j < 32 → g j = g0 j) ∧ ∀ i : Nat, i < 32 → g (32 + i) = g0 (32 + i) + tp_sum n (fun q => x.1 4 q * tp_ext g0 ((i : Int) - (q : Int)))) → W p l e (rF 2 43) s m [.ref (ad 2), .ref (ad k), .ref (ad 1)].toArray below meth c H locs 0 0 Q (F0 m 34 ls []) := by
          intro d
          induction d using Nat.strongRecOn with
          | ind d ih2 =>
            intro n y H locs ls hd hl hP hS hinv
            refine lv_iload_n hx hb mD_Se_hideNothing_34 rfl (lv_at hl 0 rfl) ?_
            refine lv_bipush (v := nI 32) hx hb mD_Se_hideNothing_35 (by decide) ?_
            refine lv_icmp_ge (tgt := 61) hx hb mD_Se_hideNothing_37 rfl (fun hc => ?_) (fun hc => ?_)
            · skip
              have hn : n = 32 := by have := ts_ge (by omega) (by omega) hc; omega
              subst hn
              subst hQ
              exact gw_vret hx hb hr hlocks hP hS (by obtain ⟨g, hg, hlo, hhi⟩ := hinv; exact ⟨g, hg, ts_nothing2 hb0 hlo hhi⟩) mD_Se_hideNothing_61 (Nat.zero_le _) (Nat.zero_le _)
            · skip
              have hn : n < 32 := ts_lt (by omega) (by omega) hc
              refine lv_aload_n hx hb mD_Se_hideNothing_40 rfl (lv_at hl 1 rfl) ?_
              refine t_get (C := cN_Se) (T := cF_Se) (N := 2) (ci := 4) hx hb htw wU_Se hown hK hP 2 (by decide) rfl rfl 1 (by decide) rfl ww_67 rfl mD_Se_hideNothing_41 ?_
              refine lv_iload_n hx hb mD_Se_hideNothing_44 rfl (lv_at hl 0 rfl) ?_
              refine t_iald hx hb hK hP 4 32 (by decide) rfl n rfl (by omega) (by decide) mD_Se_hideNothing_45 ?_
              refine lv_iload_n hx hb mD_Se_hideNothing_46 rfl (lv_at hl 0 rfl) ?_
              refine lv_aload_n hx hb mD_Se_hideNothing_47 rfl (lv_at hl 2 rfl) ?_
              refine lv_iconst (v := nI 0) hx hb mD_Se_hideNothing_48 (by decide) ?_
              refine lv_aload_n hx hb mD_Se_hideNothing_49 rfl (lv_at hl 2 rfl) ?_
              refine lv_bipush (v := nI 32) hx hb mD_Se_hideNothing_50 (by decide) ?_
              refine gc_Sv (As := [.int (y.1 4 n), .int (nI n), .ref (ad k), .int (nI 0), .ref (ad k), .int (nI 32)]) (rest := []) hx hb hml hown htw hK hP hS (k_Ri_addTurned l D ct ad hI y (y.1 4 n) (t := n) (kf := k) (fs := 0) (kt := k) (ts := 32) (by omega) hk hk (by decide) (by decide) (by decide) (Or.inr (by decide))) gZ0_ok (fun _ _ _ => trivial) (gA_mono hS.1) ww_212 ww_213 ww_31 wC_Ri_addTurned mP_Ri_addTurned (by decide) rfl hl.1 rfl (Nat.le_of_ble_eq_true rfl) mD_Se_hideNothing_52 ⟨Nat.le_of_ble_eq_true rfl, Nat.le_of_ble_eq_true rfl⟩ (fun x1 H locs hp1 hP _ _ hS => ?_)
              refine lv_iinc (k := 0) (v := nI (n + 1)) (lv' := [(3, .int (nI (n + 1))), (0, .ref (ad 2)), (1, .ref (ad k)), (2, .ref (ad 1))]) hx hb mD_Se_hideNothing_55 hl rfl (by rw [lit1, nI_1]) (by decide) rfl (fun ls hl => ?_)
              refine lv_goto (tgt := 34) hx hb mD_Se_hideNothing_58 rfl ?_
              exact ih2 (d - 1) (by omega) (n + 1) x1 _ _ _ (by omega) (lv_sub hl [0, 1, 2, 3] rfl) hP hS (by obtain ⟨g, hg, hlo, hhi⟩ := hinv; obtain ⟨g1, e1, h1⟩ := hp1; have e4 : y.1 4 = x.1 4 := (by rw [hg, va_up_ne _ _ (ts_not4 hk)]); have ek : y.1 k = g := (by rw [hg, va_up_self]); rw [ek, e4] at h1; exact ⟨g1, by rw [e1, tU_f, hg, bx_uu], ts_add hn hlo hhi h1⟩)
        exact loop2 32 0 y _ _ _ (by omega) hl hP hS ⟨g0, hg0, fun _ _ => rfl, fun i _ => by rw [tp_sum_0]; grind⟩
      · skip
        have hn : n < 32 := ts_lt (by omega) (by omega) hc
        refine lv_aload_n hx hb mD_Se_hideNothing_8 rfl (lv_at hl 2 rfl) ?_
        refine lv_iload_n hx hb mD_Se_hideNothing_9 rfl (lv_at hl 0 rfl) ?_
        refine lv_aload_n hx hb mD_Se_hideNothing_10 rfl (lv_at hl 3 rfl) ?_
        refine gc_Vi (As := []) (rest := [.int (nI n), .ref (ad k)]) hx hb hml hown htw hK hP hS 1 (k_So_draw l D ct ad hI y) gZ0_ok (fun _ _ _ => trivial) (gA_mono hS.1) (by decide) rfl rfl ww_188 ww_189 ww_190 ww_24 wC_So_draw mP_So_draw (by decide) rfl hl.1 rfl (Nat.le_of_ble_eq_true rfl) mD_Se_hideNothing_11 ⟨Nat.le_of_ble_eq_true rfl, Nat.le_of_ble_eq_true rfl⟩ (fun r4 x3 H locs hp3 hP _ _ hS => ?_)
        refine t_iast hx hb hK hI hA hP hS k 64 (tPair_lt hk) (fun _ => tE_pair hk) n rfl (by omega) (by decide) mD_Se_hideNothing_14 (fun H locs hP hS => ?_)
        obtain ⟨x5, hx5⟩ : ∃ z, z = tU x3 k (upd (x3.1 k) n r4) := ⟨_, rfl⟩
        rw [← hx5] at hP
        refine lv_aload_n hx hb mD_Se_hideNothing_15 rfl (lv_at hl 2 rfl) ?_
        refine lv_bipush (v := nI 32) hx hb mD_Se_hideNothing_16 (by decide) ?_
        refine lv_iload_n hx hb mD_Se_hideNothing_18 rfl (lv_at hl 0 rfl) ?_
        refine lv_iadd hx hb mD_Se_hideNothing_19 ?_
        refine lv_aload_n hx hb mD_Se_hideNothing_20 rfl (lv_at hl 3 rfl) ?_
        refine lv_iconst (v := nI 3) hx hb mD_Se_hideNothing_21 (by decide) ?_
        refine gc_Vi (As := [.int (nI 3)]) (rest := [.int ((nI 32) + (nI n)), .ref (ad k)]) hx hb hml hown htw hK hP hS 1 (k_So_drawNoise3 l D ct ad hI x5) gZ0_ok (fun _ _ _ => trivial) (gA_mono hS.1) (by decide) rfl rfl ww_207 ww_208 ww_209 ww_24 wC_So_drawNoise mP_So_drawNoise (by decide) rfl hl.1 rfl (Nat.le_of_ble_eq_true rfl) mD_Se_hideNothing_22 ⟨Nat.le_of_ble_eq_true rfl, Nat.le_of_ble_eq_true rfl⟩ (fun r7 x6 H locs hp6 hP _ _ hS => ?_)
        refine t_iast hx hb hK hI hA hP hS k 64 (tPair_lt hk) (fun _ => tE_pair hk) ((32 + n)) (nI_add _ _) (by omega) (by decide) mD_Se_hideNothing_25 (fun H locs hP hS => ?_)
        obtain ⟨x8, hx8⟩ : ∃ z, z = tU x6 k (upd (x6.1 k) ((32 + n)) r7) := ⟨_, rfl⟩
        rw [← hx8] at hP
        refine lv_iinc (k := 0) (v := nI (n + 1)) (lv' := [(3, .int (nI (n + 1))), (0, .ref (ad 2)), (1, .ref (ad k)), (2, .ref (ad 1))]) hx hb mD_Se_hideNothing_26 hl rfl (by rw [lit1, nI_1]) (by decide) rfl (fun ls hl => ?_)
        refine lv_goto (tgt := 2) hx hb mD_Se_hideNothing_29 rfl ?_
        exact ih (d - 1) (by omega) (n + 1) x8 _ _ _ (by omega) (lv_sub hl [0, 1, 2, 3] rfl) hP hS (by obtain ⟨g, hg, hb9⟩ := hinv; exact ⟨upd (upd g n _) (32 + n) _, by rw [hx8, tU_f, hp6.1, hx5, tU_f, hp3, hg, bx_uu, bx_uu, va_up_self, va_up_self], fun i hi => by by_cases q : i = n; rw [q, pk_us]; exact hp6.2; rw [pk_un (by omega), pk_un (by omega)]; exact hb9 i (by omega)⟩)
  exact loop 32 0 x _ _ _ (by omega) hl hP hS ⟨x.1 k, va_up_same.symm, fun _ h => absurd h (Nat.not_lt_zero _)⟩
end
section
/-! Refresher.renew: the rows that hide the key. Laid by wip/whole/part_renew.py. -/
def th_step (v : Nat → Nat → Int32) (i h w : Nat) : Prop := tp_help (v 4) (v 3 i * tp_W w) h (fun j => v (7 + (4 * i + 2 * h + w)) j) (fun j => v (7 + (4 * i + 2 * h + w)) (32 + j))
def th_way (v : Nat → Nat → Int32) (i w : Nat) : Prop := tp_sm 4 (tp_place (v 3) (v (40 + (2 * i + w))) - v 4 i * tp_W w)
theorem th_step_eq {v v' : Nat → Nat → Int32} {i h w : Nat} (H : th_step v i h w) (h3 : v' 3 = v 3) (h4 : v' 4 = v 4) (hk : v' (7 + (4 * i + 2 * h + w)) = v (7 + (4 * i + 2 * h + w))) : th_step v' i h w := by
  unfold th_step at *
  rw [h3, h4, hk]
  exact H
theorem th_way_eq {v v' : Nat → Nat → Int32} {i w : Nat} (H : th_way v i w) (h3 : v' 3 = v 3) (h4 : v' 4 = v 4) (hk : v' (40 + (2 * i + w)) = v (40 + (2 * i + w))) : th_way v' i w := by
  unfold th_way at *
  rw [h3, h4, hk]
  exact H
theorem th_ext0 (k : Int) : tp_ext (fun _ => (0 : Int32)) k = 0 := by
  unfold tp_ext
  by_cases h1 : k % 64 < 32
  · rw [if_pos h1]
  · rw [if_neg h1]; show -(0 : Int32) = 0; decide
theorem th_one0 (s : Nat → Int32) (k : Int) : tp_ph s tp_one (fun _ => 0) k = tp_unit s 0 k := by
  unfold tp_ph tp_unit
  rw [if_pos rfl, th_ext0]
  grind
theorem th_one1 (s : Nat → Int32) (k : Int) : tp_ph s (fun _ => 0) tp_one k = tp_unit s 1 k := by
  unfold tp_ph tp_unit
  rw [if_neg (by decide), tp_sum_congr (g := fun _ => 0) (fun i _ => by rw [th_ext0]; grind), tp_sum_zero]
  grind
theorem th_add {s g : Nat → Int32} {a : Nat} (ha : a < 2) {v : Int32} (h : ∀ j : Int, tp_sm 4 (tp_ph s (fun i => g i) (fun i => g (32 + i)) j)) : tp_help s v a (fun i => upd g (a * 32) (g (a * 32) + v) i) (fun i => upd g (a * 32) (g (a * 32) + v) (32 + i)) := by
  intro k
  rcases (show a = 0 ∨ a = 1 by omega) with rfl | rfl
  · rw [tp_ph_add (a := fun i => g i) (b := fun i => g (32 + i)) (sa := tp_one) (sb := fun _ => 0) (c := v) (t := 0) (fun i hi => ?_) (fun i hi => ?_) k, Int.sub_zero, th_one0]
    · have e : ∀ A B : Int32, A + B - B = A := by intro A B; grind
      rw [e]
      exact h k
    · show upd g (0 * 32) _ i = _
      rw [Int.sub_zero, tp_ext_lt hi, Nat.zero_mul]
      by_cases q : i = 0
      · subst q; rw [pk_us]; show _ = g 0 + v * 1; grind
      · rw [pk_un q]; unfold tp_one; rw [if_neg q]; grind
    · show upd g (0 * 32) _ (32 + i) = _
      rw [th_ext0, pk_un (by omega)]
      grind
  · rw [tp_ph_add (a := fun i => g i) (b := fun i => g (32 + i)) (sa := fun _ => 0) (sb := tp_one) (c := v) (t := 0) (fun i hi => ?_) (fun i hi => ?_) k, Int.sub_zero, th_one1]
    · have e : ∀ A B : Int32, A + B - B = A := by intro A B; grind
      rw [e]
      exact h k
    · show upd g (1 * 32) _ i = _
      rw [th_ext0, pk_un (by omega)]
      grind
    · show upd g (1 * 32) _ (32 + i) = _
      rw [Int.sub_zero, tp_ext_lt hi]
      by_cases q : i = 0
      · subst q; rw [pk_us]; show _ = g (32 + 0) + v * 1; grind
      · rw [pk_un (by omega)]; unfold tp_one; rw [if_neg q]; grind

set_option maxHeartbeats 4000000 in
set_option maxRecDepth 100000 in
theorem k_Re_renewStep (l : Launch) (D : va_G) (ct : Nat → ClassId) (ad : Nat → Nat) (hI : gw_inj 424 ad) (x : tS) {i : Nat} (hi : i < 8) : gMv l mY_Re_renewStep mB_Re_renewStep 7 none (rF 3 66) D (tT ct) gZ0 424 ad (tD ct ad) [.ref (ad 5), .int (nI i), .ref (ad 2), .ref (ad 1)] x (fun x' => (∀ k, (k < 7 + 4 * i ∨ 11 + 4 * i ≤ k) → x'.1 k = x.1 k) ∧ ∀ h w, h < 2 → w < 2 → th_step x'.1 i h w) := by
  refine gMv_enter (by decide) (Nat.le_of_ble_eq_true rfl) ?_
  intro p e s m below meth c ls hx hb hr htw hown hlocks hml hl hP hK hZ hS
  have hA : ∀ k, k < 424 → gA 424 ad s.heap.size (ad k) := fun _ h => gA_in h
  have hl : lv_has ls 7 [(0, .ref (ad 5)), (1, .int (nI i)), (2, .ref (ad 2)), (3, .ref (ad 1))] := hl
  refine gw_nmQ (fun Q hQ => ?_)
  refine lv_iconst (v := nI 0) hx hb mD_Re_renewStep_0 (by decide) ?_
  refine lv_istore (lv' := [(4, .int (nI 0)), (0, .ref (ad 5)), (1, .int (nI i)), (2, .ref (ad 2)), (3, .ref (ad 1))]) hx hb mD_Re_renewStep_1 hl (by decide) rfl (fun ls hl => ?_)
  have loop : ∀ (d3 : Nat) (a : Nat) (y : tS) (H : Heap) (locs : List Loc) (ls : Array Slot), a + d3 = 2 → lv_has ls 7 [(4, .int (nI a)), (0, .ref (ad 5)), (1, .int (nI i)), (2, .ref (ad 2)), (3, .ref (ad 1))] → va_P D cL (gw 424 ad (tD ct ad y)) H → va_S (gA 424 ad s.heap.size) s.heap H locs → ((∀ k, (k < 7 + 4 * i ∨ 11 + 4 * i ≤ k) → y.1 k = x.1 k) ∧ ∀ h w, h < a → w < 2 → th_step y.1 i h w) → W p l e (rF 3 66) s m [.ref (ad 5), .int (nI i), .ref (ad 2), .ref (ad 1)].toArray below meth c H locs 0 0 Q (F0 m 3 ls []) := by
    intro d3
    induction d3 using Nat.strongRecOn with
    | ind d3 ih =>
      intro a y H locs ls hd hl hP hS hinv
      refine lv_iload hx hb mD_Re_renewStep_3 (lv_at hl 0 rfl) ?_
      refine lv_iconst (v := nI 2) hx hb mD_Re_renewStep_5 (by decide) ?_
      refine lv_icmp_ge (tgt := 78) hx hb mD_Re_renewStep_6 rfl (fun hc => ?_) (fun hc => ?_)
      · skip
        have hn : a = 2 := by have := ts_ge (by omega) (by omega) hc; omega
        subst hn
        subst hQ
        exact gw_vret hx hb hr hlocks hP hS (hinv) mD_Re_renewStep_78 (Nat.zero_le _) (Nat.zero_le _)
      · skip
        have hn_a : a < 2 := ts_lt (by omega) (by omega) hc
        refine lv_iconst (v := nI 0) hx hb mD_Re_renewStep_9 (by decide) ?_
        refine lv_istore (lv' := [(5, .int (nI 0)), (4, .int (nI a)), (0, .ref (ad 5)), (1, .int (nI i)), (2, .ref (ad 2)), (3, .ref (ad 1))]) hx hb mD_Re_renewStep_10 hl (by decide) rfl (fun ls hl => ?_)
        have loop2 : ∀ (d12 : Nat) (b : Nat) (z : tS) (H : Heap) (locs : List Loc) (ls : Array Slot), b + d12 = 2 → lv_has ls 7 [(5, .int (nI b)), (4, .int (nI a)), (0, .ref (ad 5)), (1, .int (nI i)), (2, .ref (ad 2)), (3, .ref (ad 1))] → va_P D cL (gw 424 ad (tD ct ad z)) H → va_S (gA 424 ad s.heap.size) s.heap H locs → ((∀ k, (k < 7 + 4 * i ∨ 11 + 4 * i ≤ k) → z.1 k = x.1 k) ∧ (∀ h w, h < a → w < 2 → th_step z.1 i h w) ∧ ∀ w, w < b → th_step z.1 i a w) → W p l e (rF 3 66) s m [.ref (ad 5), .int (nI i), .ref (ad 2), .ref (ad 1)].toArray below meth c H locs 0 0 Q (F0 m 12 ls []) := by
          intro d12
          induction d12 using Nat.strongRecOn with
          | ind d12 ih2 =>
            intro b z H locs ls hd hl hP hS hinv2
            refine lv_iload hx hb mD_Re_renewStep_12 (lv_at hl 0 rfl) ?_
            refine lv_iconst (v := nI 2) hx hb mD_Re_renewStep_14 (by decide) ?_
            refine lv_icmp_ge (tgt := 72) hx hb mD_Re_renewStep_15 rfl (fun hc => ?_) (fun hc => ?_)
            · skip
              have hn : b = 2 := by have := ts_ge (by omega) (by omega) hc; omega
              subst hn
              refine lv_iinc (k := 1) (v := nI (a + 1)) (lv' := [(4, .int (nI (a + 1))), (5, .int (nI 2)), (0, .ref (ad 5)), (1, .int (nI i)), (2, .ref (ad 2)), (3, .ref (ad 1))]) hx hb mD_Re_renewStep_72 hl rfl (by rw [lit1, nI_1]) (by decide) rfl (fun ls hl => ?_)
              refine lv_goto (tgt := 3) hx hb mD_Re_renewStep_75 rfl ?_
              exact ih (d3 - 1) (by omega) (a + 1) z _ _ _ (by omega) (lv_sub hl [0, 2, 3, 4, 5] rfl) hP hS ⟨hinv2.1, fun h w h1 h2 => by by_cases q : h = a; rw [q]; exact hinv2.2.2 w h2; exact hinv2.2.1 h w (by omega) h2⟩
            · skip
              have hn_b : b < 2 := ts_lt (by omega) (by omega) hc
              refine lv_aload_n hx hb mD_Re_renewStep_18 rfl (lv_at hl 2 rfl) ?_
              refine t_get (C := cN_Re) (T := cF_Re) (N := 4) (ci := 3) hx hb htw wU_Re hown hK hP 5 (by decide) rfl rfl 0 (by decide) rfl ww_83 rfl mD_Re_renewStep_19 ?_
              refine lv_iload_n hx hb mD_Re_renewStep_22 rfl (lv_at hl 3 rfl) ?_
              refine lv_iconst (v := nI 4) hx hb mD_Re_renewStep_23 (by decide) ?_
              refine lv_imul hx hb mD_Re_renewStep_24 ?_
              refine lv_iload hx hb mD_Re_renewStep_25 (lv_at hl 1 rfl) ?_
              refine lv_iconst (v := nI 2) hx hb mD_Re_renewStep_27 (by decide) ?_
              refine lv_imul hx hb mD_Re_renewStep_28 ?_
              refine lv_iadd hx hb mD_Re_renewStep_29 ?_
              refine lv_iload hx hb mD_Re_renewStep_30 (lv_at hl 0 rfl) ?_
              refine lv_iadd hx hb mD_Re_renewStep_32 ?_
              refine t_alda hx hb hK hP 6 32 (by decide) rfl ((4 * i + 2 * a + b)) (by rw [pk_mul, pk_mul, nI_add, nI_add]; congr 1; omega) (by omega) (by decide) rfl mD_Re_renewStep_33 ?_
              refine lv_astore (lv' := [(6, .ref (ad ((7 + ((4 * i + 2 * a + b)))))), (5, .int (nI b)), (4, .int (nI a)), (0, .ref (ad 5)), (1, .int (nI i)), (2, .ref (ad 2)), (3, .ref (ad 1))]) hx hb mD_Re_renewStep_34 hl (by decide) rfl (fun ls hl => ?_)
              refine lv_aload_n hx hb mD_Re_renewStep_36 rfl (lv_at hl 5 rfl) ?_
              refine lv_aload hx hb mD_Re_renewStep_37 (lv_at hl 0 rfl) ?_
              refine lv_aload_n hx hb mD_Re_renewStep_39 rfl (lv_at hl 6 rfl) ?_
              refine gc_Vv (As := [.ref (ad ((7 + ((4 * i + 2 * a + b))))), .ref (ad 1)]) (rest := []) hx hb hml hown htw hK hP hS 2 (k_Se_hideNothing l D ct ad hI z (k := (7 + (4 * i + 2 * a + b))) (show tPair (7 + (4 * i + 2 * a + b)) by unfold tPair; omega)) gZ0_ok (fun _ _ _ => trivial) (gA_mono hS.1) (by decide) rfl rfl ww_203 ww_204 ww_205 ww_25 wC_Se_hideNothing mP_Se_hideNothing (by decide) rfl hl.1 rfl (Nat.le_of_ble_eq_true rfl) mD_Re_renewStep_40 ⟨Nat.le_of_ble_eq_true rfl, Nat.le_of_ble_eq_true rfl⟩ (fun x1 H locs hp1 hP _ _ hS => ?_)
              refine lv_aload hx hb mD_Re_renewStep_43 (lv_at hl 0 rfl) ?_
              refine lv_iload hx hb mD_Re_renewStep_45 (lv_at hl 2 rfl) ?_
              refine lv_bipush (v := nI 32) hx hb mD_Re_renewStep_47 (by decide) ?_
              refine lv_imul hx hb mD_Re_renewStep_49 ?_
              refine lv_dup2_11 hx hb mD_Re_renewStep_50 rfl rfl ?_
              refine t_iald hx hb hK hP ((7 + ((4 * i + 2 * a + b)))) 64 (tPair_lt (show tPair (7 + ((4 * i + 2 * a + b))) by unfold tPair; omega)) (tE_pair (show tPair (7 + ((4 * i + 2 * a + b))) by unfold tPair; omega)) ((a * 32)) (pk_mul _ _) (by omega) (by decide) mD_Re_renewStep_51 ?_
              refine lv_aload_n hx hb mD_Re_renewStep_52 rfl (lv_at hl 5 rfl) ?_
              refine t_get (C := cN_Se) (T := cF_Se) (N := 2) (ci := 4) hx hb htw wU_Se hown hK hP 2 (by decide) rfl rfl 0 (by decide) rfl ww_66 rfl mD_Re_renewStep_53 ?_
              refine lv_iload_n hx hb mD_Re_renewStep_56 rfl (lv_at hl 4 rfl) ?_
              refine t_iald hx hb hK hP 3 8 (by decide) rfl i rfl (by omega) (by decide) mD_Re_renewStep_57 ?_
              refine lv_iload hx hb mD_Re_renewStep_58 (lv_at hl 1 rfl) ?_
              refine gc_Si (As := [.int (nI b)]) (rest := [.int (x1.1 3 i), .int (x1.1 ((7 + ((4 * i + 2 * a + b)))) ((a * 32))), .int ((nI a) * (nI 32)), .ref (ad ((7 + ((4 * i + 2 * a + b)))))]) hx hb hml hown htw hK hP hS (k_Di_weight l D ct ad hI x1 (w := b) (by omega)) gZ0_ok (fun _ _ _ => trivial) (gA_mono hS.1) ww_215 ww_216 ww_32 wC_Di_weight mP_Di_weight (by decide) rfl hl.1 rfl (Nat.le_of_ble_eq_true rfl) mD_Re_renewStep_60 ⟨Nat.le_of_ble_eq_true rfl, Nat.le_of_ble_eq_true rfl⟩ (fun r4 x3 H locs hp3 hP _ _ hS => ?_)
              obtain ⟨hq_, rfl⟩ := hp3
              rw [hq_] at hP
              refine lv_imul hx hb mD_Re_renewStep_63 ?_
              refine lv_iadd hx hb mD_Re_renewStep_64 ?_
              refine t_iast hx hb hK hI hA hP hS ((7 + ((4 * i + 2 * a + b)))) 64 (tPair_lt (show tPair (7 + ((4 * i + 2 * a + b))) by unfold tPair; omega)) (fun _ => tE_pair (show tPair (7 + ((4 * i + 2 * a + b))) by unfold tPair; omega)) ((a * 32)) (pk_mul _ _) (by omega) (by decide) mD_Re_renewStep_65 (fun H locs hP hS => ?_)
              obtain ⟨x5, hx5⟩ : ∃ z, z = tU x1 ((7 + ((4 * i + 2 * a + b)))) (upd (x1.1 ((7 + ((4 * i + 2 * a + b))))) ((a * 32)) ((x1.1 ((7 + ((4 * i + 2 * a + b)))) ((a * 32))) + ((x1.1 3 i) * (tp_W b)))) := ⟨_, rfl⟩
              rw [← hx5] at hP
              refine lv_iinc (k := 1) (v := nI (b + 1)) (lv' := [(5, .int (nI (b + 1))), (6, .ref (ad ((7 + ((4 * i + 2 * a + b)))))), (4, .int (nI a)), (0, .ref (ad 5)), (1, .int (nI i)), (2, .ref (ad 2)), (3, .ref (ad 1))]) hx hb mD_Re_renewStep_66 hl rfl (by rw [lit1, nI_1]) (by decide) rfl (fun ls hl => ?_)
              refine lv_goto (tgt := 12) hx hb mD_Re_renewStep_69 rfl ?_
              exact ih2 (d12 - 1) (by omega) (b + 1) x5 _ _ _ (by omega) (lv_sub hl [0, 2, 3, 4, 5, 6] rfl) hP hS (by obtain ⟨g, eg, hg⟩ := hp1; have ef : x5.1 = va_up z.1 (7 + (4 * i + 2 * a + b)) (upd g (a * 32) (g (a * 32) + z.1 3 i * tp_W b)) := (by rw [hx5, tU_f, eg, bx_uu, va_up_self, va_up_ne _ _ (show (3 : Nat) ≠ (7 + (4 * i + 2 * a + b)) by omega)]); have e3 : x5.1 3 = z.1 3 := (by rw [ef, va_up_ne _ _ (by omega)]); have e4 : x5.1 4 = z.1 4 := (by rw [ef, va_up_ne _ _ (by omega)]); exact ⟨fun k hk => by rw [ef, va_up_ne _ _ (by omega)]; exact hinv2.1 k hk, fun h w h1 h2 => th_step_eq (hinv2.2.1 h w h1 h2) e3 e4 (by rw [ef, va_up_ne _ _ (by omega)]), fun w h1 => by by_cases q : w = b; subst q; unfold th_step; rw [e3, e4, ef, va_up_self]; exact th_add (by omega) hg; exact th_step_eq (hinv2.2.2 w (by omega)) e3 e4 (by rw [ef, va_up_ne _ _ (by omega)])⟩)
        exact loop2 2 0 y _ _ _ (by omega) hl hP hS ⟨hinv.1, hinv.2, fun _ h => absurd h (Nat.not_lt_zero _)⟩
  exact loop 2 0 x _ _ _ (by omega) hl hP hS ⟨fun _ _ => rfl, fun _ _ h => absurd h (Nat.not_lt_zero _)⟩

set_option maxHeartbeats 4000000 in
set_option maxRecDepth 100000 in
theorem k_Re_renew (l : Launch) (D : va_G) (ct : Nat → ClassId) (ad : Nat → Nat) (hI : gw_inj 424 ad) (x : tS)  : gMv l mY_Re_renew mB_Re_renew 6 none (rF 4 92) D (tT ct) gZ0 424 ad (tD ct ad) [.ref (ad 5), .ref (ad 2), .ref (ad 1)] x (fun x' => (∀ k, (k < 7 ∨ 104 ≤ k) → x'.1 k = x.1 k) ∧ (∀ i h w, i < 8 → h < 2 → w < 2 → th_step x'.1 i h w) ∧ ∀ i w, i < 32 → w < 2 → th_way x'.1 i w) := by
  refine gMv_enter (by decide) (Nat.le_of_ble_eq_true rfl) ?_
  intro p e s m below meth c ls hx hb hr htw hown hlocks hml hl hP hK hZ hS
  have hA : ∀ k, k < 424 → gA 424 ad s.heap.size (ad k) := fun _ h => gA_in h
  have hl : lv_has ls 6 [(0, .ref (ad 5)), (1, .ref (ad 2)), (2, .ref (ad 1))] := hl
  refine gw_nmQ (fun Q hQ => ?_)
  refine lv_iconst (v := nI 0) hx hb mD_Re_renew_0 (by decide) ?_
  refine lv_istore_n (lv' := [(3, .int (nI 0)), (0, .ref (ad 5)), (1, .ref (ad 2)), (2, .ref (ad 1))]) hx hb mD_Re_renew_1 rfl hl (by decide) rfl (fun ls hl => ?_)
  have loop : ∀ (d2 : Nat) (n : Nat) (y : tS) (H : Heap) (locs : List Loc) (ls : Array Slot), n + d2 = 8 → lv_has ls 6 [(3, .int (nI n)), (0, .ref (ad 5)), (1, .ref (ad 2)), (2, .ref (ad 1))] → va_P D cL (gw 424 ad (tD ct ad y)) H → va_S (gA 424 ad s.heap.size) s.heap H locs → ((∀ k, (k < 7 ∨ 104 ≤ k) → y.1 k = x.1 k) ∧ ∀ i h w, i < n → h < 2 → w < 2 → th_step y.1 i h w) → W p l e (rF 4 92) s m [.ref (ad 5), .ref (ad 2), .ref (ad 1)].toArray below meth c H locs 0 0 Q (F0 m 2 ls []) := by
    intro d2
    induction d2 using Nat.strongRecOn with
    | ind d2 ih =>
      intro n y H locs ls hd hl hP hS hinv
      refine lv_iload_n hx hb mD_Re_renew_2 rfl (lv_at hl 0 rfl) ?_
      refine lv_bipush (v := nI 8) hx hb mD_Re_renew_3 (by decide) ?_
      refine lv_icmp_ge (tgt := 21) hx hb mD_Re_renew_5 rfl (fun hc => ?_) (fun hc => ?_)
      · skip
        have hn : n = 8 := by have := ts_ge (by omega) (by omega) hc; omega
        subst hn
        refine lv_iconst (v := nI 0) hx hb mD_Re_renew_21 (by decide) ?_
        refine lv_istore_n (lv' := [(3, .int (nI 0)), (0, .ref (ad 5)), (1, .ref (ad 2)), (2, .ref (ad 1))]) hx hb mD_Re_renew_22 rfl hl (by decide) rfl (fun ls hl => ?_)
        have loop2 : ∀ (d23 : Nat) (n : Nat) (y : tS) (H : Heap) (locs : List Loc) (ls : Array Slot), n + d23 = 32 → lv_has ls 6 [(3, .int (nI n)), (0, .ref (ad 5)), (1, .ref (ad 2)), (2, .ref (ad 1))] → va_P D cL (gw 424 ad (tD ct ad y)) H → va_S (gA 424 ad s.heap.size) s.heap H locs → ((∀ k, (k < 7 ∨ 104 ≤ k) → y.1 k = x.1 k) ∧ (∀ i h w, i < 8 → h < 2 → w < 2 → th_step y.1 i h w) ∧ ∀ i w, i < n → w < 2 → th_way y.1 i w) → W p l e (rF 4 92) s m [.ref (ad 5), .ref (ad 2), .ref (ad 1)].toArray below meth c H locs 0 0 Q (F0 m 23 ls []) := by
          intro d23
          induction d23 using Nat.strongRecOn with
          | ind d23 ih2 =>
            intro n y H locs ls hd hl hP hS hinv2
            refine lv_iload_n hx hb mD_Re_renew_23 rfl (lv_at hl 0 rfl) ?_
            refine lv_bipush (v := nI 32) hx hb mD_Re_renew_24 (by decide) ?_
            refine lv_icmp_ge (tgt := 83) hx hb mD_Re_renew_26 rfl (fun hc => ?_) (fun hc => ?_)
            · skip
              have hn : n = 32 := by have := ts_ge (by omega) (by omega) hc; omega
              subst hn
              subst hQ
              exact gw_vret hx hb hr hlocks hP hS (hinv2) mD_Re_renew_83 (Nat.zero_le _) (Nat.zero_le _)
            · skip
              have hn_n : n < 32 := ts_lt (by omega) (by omega) hc
              refine lv_iconst (v := nI 0) hx hb mD_Re_renew_29 (by decide) ?_
              refine lv_istore (lv' := [(4, .int (nI 0)), (3, .int (nI n)), (0, .ref (ad 5)), (1, .ref (ad 2)), (2, .ref (ad 1))]) hx hb mD_Re_renew_30 hl (by decide) rfl (fun ls hl => ?_)
              have loop3 : ∀ (d32 : Nat) (b : Nat) (z : tS) (H : Heap) (locs : List Loc) (ls : Array Slot), b + d32 = 2 → lv_has ls 6 [(4, .int (nI b)), (3, .int (nI n)), (0, .ref (ad 5)), (1, .ref (ad 2)), (2, .ref (ad 1))] → va_P D cL (gw 424 ad (tD ct ad z)) H → va_S (gA 424 ad s.heap.size) s.heap H locs → ((∀ k, (k < 7 ∨ 104 ≤ k) → z.1 k = x.1 k) ∧ (∀ i h w, i < 8 → h < 2 → w < 2 → th_step z.1 i h w) ∧ (∀ i w, i < n → w < 2 → th_way z.1 i w) ∧ ∀ w, w < b → th_way z.1 n w) → W p l e (rF 4 92) s m [.ref (ad 5), .ref (ad 2), .ref (ad 1)].toArray below meth c H locs 0 0 Q (F0 m 32 ls []) := by
                intro d32
                induction d32 using Nat.strongRecOn with
                | ind d32 ih3 =>
                  intro b z H locs ls hd hl hP hS hinv3
                  refine lv_iload hx hb mD_Re_renew_32 (lv_at hl 0 rfl) ?_
                  refine lv_iconst (v := nI 2) hx hb mD_Re_renew_34 (by decide) ?_
                  refine lv_icmp_ge (tgt := 77) hx hb mD_Re_renew_35 rfl (fun hc => ?_) (fun hc => ?_)
                  · skip
                    have hn : b = 2 := by have := ts_ge (by omega) (by omega) hc; omega
                    subst hn
                    refine lv_iinc (k := 1) (v := nI (n + 1)) (lv' := [(3, .int (nI (n + 1))), (4, .int (nI 2)), (0, .ref (ad 5)), (1, .ref (ad 2)), (2, .ref (ad 1))]) hx hb mD_Re_renew_77 hl rfl (by rw [lit1, nI_1]) (by decide) rfl (fun ls hl => ?_)
                    refine lv_goto (tgt := 23) hx hb mD_Re_renew_80 rfl ?_
                    exact ih2 (d23 - 1) (by omega) (n + 1) z _ _ _ (by omega) (lv_sub hl [0, 2, 3, 4] rfl) hP hS ⟨hinv3.1, hinv3.2.1, fun i w h1 h2 => by by_cases q : i = n; rw [q]; exact hinv3.2.2.2 w h2; exact hinv3.2.2.1 i w (by omega) h2⟩
                  · skip
                    have hn_b : b < 2 := ts_lt (by omega) (by omega) hc
                    refine lv_aload_n hx hb mD_Re_renew_38 rfl (lv_at hl 3 rfl) ?_
                    refine t_get (C := cN_Se) (T := cF_Se) (N := 2) (ci := 4) hx hb htw wU_Se hown hK hP 2 (by decide) rfl rfl 1 (by decide) rfl ww_68 rfl mD_Re_renew_39 ?_
                    refine lv_iload_n hx hb mD_Re_renew_42 rfl (lv_at hl 1 rfl) ?_
                    refine t_iald hx hb hK hP 4 32 (by decide) rfl n rfl (by omega) (by decide) mD_Re_renew_43 ?_
                    refine lv_iload hx hb mD_Re_renew_44 (lv_at hl 0 rfl) ?_
                    refine gc_Si (As := [.int (nI b)]) (rest := [.int (z.1 4 n)]) hx hb hml hown htw hK hP hS (k_Di_weight l D ct ad hI z (w := b) (by omega)) gZ0_ok (fun _ _ _ => trivial) (gA_mono hS.1) ww_215 ww_216 ww_32 wC_Di_weight mP_Di_weight (by decide) rfl hl.1 rfl (Nat.le_of_ble_eq_true rfl) mD_Re_renew_46 ⟨Nat.le_of_ble_eq_true rfl, Nat.le_of_ble_eq_true rfl⟩ (fun r2 x1 H locs hp1 hP _ _ hS => ?_)
                    obtain ⟨hq_, rfl⟩ := hp1
                    rw [hq_] at hP
                    refine lv_imul hx hb mD_Re_renew_49 ?_
                    refine lv_istore (lv' := [(5, .int ((z.1 4 n) * (tp_W b))), (4, .int (nI b)), (3, .int (nI n)), (0, .ref (ad 5)), (1, .ref (ad 2)), (2, .ref (ad 1))]) hx hb mD_Re_renew_50 hl (by decide) rfl (fun ls hl => ?_)
                    refine lv_aload_n hx hb mD_Re_renew_52 rfl (lv_at hl 4 rfl) ?_
                    refine lv_iload hx hb mD_Re_renew_53 (lv_at hl 0 rfl) ?_
                    refine lv_aload_n hx hb mD_Re_renew_55 rfl (lv_at hl 3 rfl) ?_
                    refine t_get (C := cN_Re) (T := cF_Re) (N := 4) (ci := 3) hx hb htw wU_Re hown hK hP 5 (by decide) rfl rfl 1 (by decide) rfl ww_84 rfl mD_Re_renew_56 ?_
                    refine lv_iload_n hx hb mD_Re_renew_59 rfl (lv_at hl 2 rfl) ?_
                    refine lv_iconst (v := nI 2) hx hb mD_Re_renew_60 (by decide) ?_
                    refine lv_imul hx hb mD_Re_renew_61 ?_
                    refine lv_iload hx hb mD_Re_renew_62 (lv_at hl 1 rfl) ?_
                    refine lv_iadd hx hb mD_Re_renew_64 ?_
                    refine t_alda hx hb hK hP 39 64 (by decide) rfl ((2 * n + b)) (by rw [pk_mul, nI_add]; congr 1; omega) (by omega) (by decide) rfl mD_Re_renew_65 ?_
                    refine lv_iconst (v := nI 3) hx hb mD_Re_renew_66 (by decide) ?_
                    refine lv_aload_n hx hb mD_Re_renew_67 rfl (lv_at hl 5 rfl) ?_
                    refine gc_Vv (As := [.int ((z.1 4 n) * (tp_W b)), .ref (ad ((40 + ((2 * n + b))))), .int (nI 3), .ref (ad 1)]) (rest := []) hx hb hml hown htw hK hP hS 2 (k_Se_hide3 l D ct ad hI z _ (k := (40 + (2 * n + b))) (show tRow (40 + (2 * n + b)) by unfold tRow; omega)) gZ0_ok (fun _ _ _ => trivial) (gA_mono hS.1) (by decide) rfl rfl ww_218 ww_219 ww_220 ww_25 wC_Se_hide mP_Se_hide (by decide) rfl hl.1 rfl (Nat.le_of_ble_eq_true rfl) mD_Re_renew_68 ⟨Nat.le_of_ble_eq_true rfl, Nat.le_of_ble_eq_true rfl⟩ (fun x3 H locs hp3 hP _ _ hS => ?_)
                    refine lv_iinc (k := 1) (v := nI (b + 1)) (lv' := [(4, .int (nI (b + 1))), (5, .int ((z.1 4 n) * (tp_W b))), (3, .int (nI n)), (0, .ref (ad 5)), (1, .ref (ad 2)), (2, .ref (ad 1))]) hx hb mD_Re_renew_71 hl rfl (by rw [lit1, nI_1]) (by decide) rfl (fun ls hl => ?_)
                    refine lv_goto (tgt := 32) hx hb mD_Re_renew_74 rfl ?_
                    exact ih3 (d32 - 1) (by omega) (b + 1) x3 _ _ _ (by omega) (lv_sub hl [0, 2, 3, 4, 5] rfl) hP hS (by obtain ⟨g, eg, hg⟩ := hp3; have e3 : x3.1 3 = z.1 3 := (by rw [eg, va_up_ne _ _ (by omega)]); have e4 : x3.1 4 = z.1 4 := (by rw [eg, va_up_ne _ _ (by omega)]); exact ⟨fun k hk => by rw [eg, va_up_ne _ _ (by omega)]; exact hinv3.1 k hk, fun i h w h1 h2 h3 => th_step_eq (hinv3.2.1 i h w h1 h2 h3) e3 e4 (by rw [eg, va_up_ne _ _ (by omega)]), fun i w h1 h2 => th_way_eq (hinv3.2.2.1 i w h1 h2) e3 e4 (by rw [eg, va_up_ne _ _ (by omega)]), fun w h1 => by by_cases q : w = b; subst q; unfold th_way; rw [e3, e4, eg, va_up_self]; exact hg; exact th_way_eq (hinv3.2.2.2 w (by omega)) e3 e4 (by rw [eg, va_up_ne _ _ (by omega)])⟩)
              exact loop3 2 0 y _ _ _ (by omega) hl hP hS ⟨hinv2.1, hinv2.2.1, hinv2.2.2, fun _ h => absurd h (Nat.not_lt_zero _)⟩
        exact loop2 32 0 y _ _ _ (by omega) hl hP hS ⟨hinv.1, hinv.2, fun _ _ h => absurd h (Nat.not_lt_zero _)⟩
      · skip
        have hn_n : n < 8 := ts_lt (by omega) (by omega) hc
        refine lv_aload_n hx hb mD_Re_renew_8 rfl (lv_at hl 1 rfl) ?_
        refine lv_iload_n hx hb mD_Re_renew_9 rfl (lv_at hl 0 rfl) ?_
        refine lv_aload_n hx hb mD_Re_renew_10 rfl (lv_at hl 2 rfl) ?_
        refine lv_aload_n hx hb mD_Re_renew_11 rfl (lv_at hl 3 rfl) ?_
        refine gc_Vv (As := [.int (nI n), .ref (ad 2), .ref (ad 1)]) (rest := []) hx hb hml hown htw hK hP hS 5 (k_Re_renewStep l D ct ad hI y (i := n) hn_n) gZ0_ok (fun _ _ _ => trivial) (gA_mono hS.1) (by decide) rfl rfl ww_199 ww_201 ww_1 ww_26 wC_Re_renewStep mP_Re_renewStep (by decide) rfl hl.1 rfl (Nat.le_of_ble_eq_true rfl) mD_Re_renew_12 ⟨Nat.le_of_ble_eq_true rfl, Nat.le_of_ble_eq_true rfl⟩ (fun x5 H locs hp5 hP _ _ hS => ?_)
        refine lv_iinc (k := 0) (v := nI (n + 1)) (lv' := [(3, .int (nI (n + 1))), (0, .ref (ad 5)), (1, .ref (ad 2)), (2, .ref (ad 1))]) hx hb mD_Re_renew_15 hl rfl (by rw [lit1, nI_1]) (by decide) rfl (fun ls hl => ?_)
        refine lv_goto (tgt := 2) hx hb mD_Re_renew_18 rfl ?_
        exact ih (d2 - 1) (by omega) (n + 1) x5 _ _ _ (by omega) (lv_sub hl [0, 1, 2, 3] rfl) hP hS (by obtain ⟨q1, q2⟩ := hp5; exact ⟨fun k hk => by rw [q1 k (by omega)]; exact hinv.1 k hk, fun i h w h1 h2 h3 => by by_cases q : i = n; rw [q]; exact q2 h w h2 h3; exact th_step_eq (hinv.2 i h w (by omega) h2 h3) (q1 _ (by omega)) (q1 _ (by omega)) (q1 _ (by omega))⟩)
  exact loop 8 0 x _ _ _ (by omega) hl hP hS ⟨fun _ _ => rfl, fun _ _ _ h => absurd h (Nat.not_lt_zero _)⟩
end
section
/-! Refresher: the wheel, a step, the way back, refresh. Laid by wip/whole/part_refresh.py. -/
theorem tr_wh {n B : Nat} (h : n + B < 2 ^ 32) : (nI n + nI B) &&& nI 63 = nI ((n + B) % 64) := by
  rw [nI_add, pk_andN h (m := nI 63) 6 (by decide)]
theorem tr_104 : tPair 104 := Or.inr (Or.inl rfl)
theorem tr_w0p {n B : Nat} (h : (n + B) % 64 < 32) : (536870912 : Int32) = tp_w0 (B : Int) (n : Int) := by
  unfold tp_w0
  rw [if_pos (by omega)]
  rfl
theorem tr_w0n {n B : Nat} (h : 32 ≤ (n + B) % 64) : (-536870912 : Int32) = tp_w0 (B : Int) (n : Int) := by
  unfold tp_w0
  rw [if_neg (by omega)]
  rfl
theorem tr_upd2 {g : Nat → Int32} {n : Nat} {a b : Int32} {P : Nat → Int32 → Prop} (h1 : ∀ i, i < n → P i (g i)) (hn : n < 32) (ha : P n a) : ∀ i, i < n + 1 → P i (upd (upd g n a) (32 + n) b i) := fun i hi => by
  rw [pk_un (by omega)]
  by_cases q : i = n
  · rw [q, pk_us]; exact ha
  · rw [pk_un q]; exact h1 i (by omega)
theorem tr_upd3 {g : Nat → Int32} {n : Nat} {a b : Int32} {P : Nat → Int32 → Prop} (h1 : ∀ i, i < n → P i (g (32 + i))) (hn : n < 32) (hb : P n b) : ∀ i, i < n + 1 → P i (upd (upd g n a) (32 + n) b (32 + i)) := fun i hi => by
  by_cases q : i = n
  · rw [q, pk_us]; exact hb
  · rw [pk_un (by omega), pk_un (by omega)]; exact h1 i (by omega)
/-- two additions, one in each half, are one of the pair -/
theorem tr_two {w pr g1 g2 : Nat → Int32} {c : Int32} {t : Nat} (h1 : ta_ok w (fun j => pr (0 + j)) g1 c t 0) (h2 : ta_ok g1 (fun j => pr (32 + j)) g2 c t 32) (s : Nat → Int32) (j : Int) :
    tp_ph s (fun i => g2 i) (fun i => g2 (32 + i)) j = tp_ph s (fun i => w i) (fun i => w (32 + i)) j + c * tp_ph s (fun i => pr i) (fun i => pr (32 + i)) (j - t) := by
  refine tp_ph_add (fun i hi => ?_) (fun i hi => ?_) j
  · show g2 i = w i + _
    have q := h1.1 i hi
    rw [Nat.zero_add] at q
    rw [h2.2 i (Or.inl hi), q, tp_ext_congr (f := fun j => pr (0 + j)) (g := fun i => pr i) (fun j _ => by show pr (0 + j) = _; rw [Nat.zero_add])]
  · show g2 (32 + i) = w (32 + i) + _
    rw [h2.1 i hi, h1.2 (32 + i) (Or.inr (by omega))]
/-- a place whose row isn't among the way back's -/
def tFar (k : Nat) : Prop := tRow k ∧ 104 ≤ k
theorem tr_end {s κ : Nat → Int32} {v : Nat → Nat → Int32} {n : Nat} : tp_sum n (fun i => tp_sum 2 (fun w => tp_dg w (tp_ext s (0 - (i : Int))) * tp_place κ (v (40 + (2 * i + w))))) = tp_sum n (fun i => tp_dg 0 (tp_ext s (0 - (i : Int))) * tp_place κ ((fun q => v (40 + q)) (2 * i)) + tp_dg 1 (tp_ext s (0 - (i : Int))) * tp_place κ ((fun q => v (40 + q)) (2 * i + 1))) := by
  refine tp_sum_congr (fun i _ => ?_)
  show tp_sum 1 _ + _ = _
  show tp_sum 0 _ + _ + _ = _
  rw [tp_sum_0]
  show 0 + tp_dg 0 _ * tp_place κ (v (40 + (2 * i + 0))) + _ = _
  rw [Nat.add_zero]
  grind
theorem tr_sub {κ g d r : Nat → Int32} {tm : Int32} (h : ∀ i, i < 9 → g i = d i - tm * r i) : tp_place κ g = tp_place κ d - tm * tp_place κ r := by
  rw [tp_place_lin (a := d) (b := r) (c := 1) (d := -tm) (fun i hi => by rw [h i hi]; grind)]
  grind
theorem tr_zero {κ g : Nat → Int32} (h : ∀ i, i < 8 → g i = 0) : tp_place κ g = g 8 := by
  unfold tp_place
  rw [tp_sum_congr (g := fun _ => 0) (fun i hi => by rw [h i hi]; grind), tp_sum_zero]
  grind

set_option maxHeartbeats 4000000 in
set_option maxRecDepth 100000 in
theorem k_Re_startWheel (l : Launch) (D : va_G) (ct : Nat → ClassId) (ad : Nat → Nat) (hI : gw_inj 424 ad) (x : tS) {B : Nat} (hB : B < 64) : gMv l mY_Re_startWheel mB_Re_startWheel 3 none (rF 0 0) D (tT ct) gZ0 424 ad (tD ct ad) [.ref (ad 5), .int (nI B)] x (fun x' => ∃ g, x'.1 = va_up x.1 104 g ∧ (∀ i, i < 32 → g i = 0) ∧ ∀ i : Nat, i < 32 → g (32 + i) = tp_w0 (B : Int) (i : Int)) := by
  refine gMv_enter (by decide) (Nat.le_of_ble_eq_true rfl) ?_
  intro p e s m below meth c ls hx hb hr htw hown hlocks hml hl hP hK hZ hS
  have hA : ∀ k, k < 424 → gA 424 ad s.heap.size (ad k) := fun _ h => gA_in h
  have hl : lv_has ls 3 [(0, .ref (ad 5)), (1, .int (nI B))] := hl
  refine gw_nmQ (fun Q hQ => ?_)
  refine lv_iconst (v := nI 0) hx hb mD_Re_startWheel_0 (by decide) ?_
  refine lv_istore_n (lv' := [(2, .int (nI 0)), (0, .ref (ad 5)), (1, .int (nI B))]) hx hb mD_Re_startWheel_1 rfl hl (by decide) rfl (fun ls hl => ?_)
  have loop : ∀ (d2 : Nat) (n : Nat) (y : tS) (H : Heap) (locs : List Loc) (ls : Array Slot), n + d2 = 32 → lv_has ls 3 [(2, .int (nI n)), (0, .ref (ad 5)), (1, .int (nI B))] → va_P D cL (gw 424 ad (tD ct ad y)) H → va_S (gA 424 ad s.heap.size) s.heap H locs → (∃ g, y.1 = va_up x.1 104 g ∧ (∀ i, i < n → g i = 0) ∧ ∀ i : Nat, i < n → g (32 + i) = tp_w0 (B : Int) (i : Int)) → W p l e (rF 0 0) s m [.ref (ad 5), .int (nI B)].toArray below meth c H locs 0 0 Q (F0 m 2 ls []) := by
    intro d2
    induction d2 using Nat.strongRecOn with
    | ind d2 ih =>
      intro n y H locs ls hd hl hP hS hinv
      refine lv_iload_n hx hb mD_Re_startWheel_2 rfl (lv_at hl 0 rfl) ?_
      refine lv_bipush (v := nI 32) hx hb mD_Re_startWheel_3 (by decide) ?_
      refine lv_icmp_ge (tgt := 48) hx hb mD_Re_startWheel_5 rfl (fun hc => ?_) (fun hc => ?_)
      · skip
        have hn : n = 32 := by have := ts_ge (by omega) (by omega) hc; omega
        subst hn
        subst hQ
        exact gw_vret hx hb hr hlocks hP hS (hinv) mD_Re_startWheel_48 (Nat.zero_le _) (Nat.zero_le _)
      · skip
        have hn_n : n < 32 := ts_lt (by omega) (by omega) hc
        refine lv_aload_n hx hb mD_Re_startWheel_8 rfl (lv_at hl 1 rfl) ?_
        refine t_get (C := cN_Re) (T := cF_Re) (N := 4) (ci := 3) hx hb htw wU_Re hown hK hP 5 (by decide) rfl rfl 2 (by decide) rfl ww_85 rfl mD_Re_startWheel_9 ?_
        refine lv_iload_n hx hb mD_Re_startWheel_12 rfl (lv_at hl 0 rfl) ?_
        refine lv_iconst (v := nI 0) hx hb mD_Re_startWheel_13 (by decide) ?_
        refine t_iast hx hb hK hI hA hP hS 104 64 (by decide) (fun _ => rfl) n rfl (by omega) (by decide) mD_Re_startWheel_14 (fun H locs hP hS => ?_)
        obtain ⟨x1, hx1⟩ : ∃ z, z = tU y 104 (upd (y.1 104) n (nI 0)) := ⟨_, rfl⟩
        rw [← hx1] at hP
        refine lv_aload_n hx hb mD_Re_startWheel_15 rfl (lv_at hl 1 rfl) ?_
        refine t_get (C := cN_Re) (T := cF_Re) (N := 4) (ci := 3) hx hb htw wU_Re hown hK hP 5 (by decide) rfl rfl 2 (by decide) rfl ww_85 rfl mD_Re_startWheel_16 ?_
        refine lv_bipush (v := nI 32) hx hb mD_Re_startWheel_19 (by decide) ?_
        refine lv_iload_n hx hb mD_Re_startWheel_21 rfl (lv_at hl 0 rfl) ?_
        refine lv_iadd hx hb mD_Re_startWheel_22 ?_
        refine lv_iload_n hx hb mD_Re_startWheel_23 rfl (lv_at hl 0 rfl) ?_
        refine lv_iload_n hx hb mD_Re_startWheel_24 rfl (lv_at hl 2 rfl) ?_
        refine lv_iadd hx hb mD_Re_startWheel_25 ?_
        refine lv_bipush (v := nI 63) hx hb mD_Re_startWheel_26 (by decide) ?_
        refine lv_iand hx hb mD_Re_startWheel_28 ?_
        refine lv_bipush (v := nI 32) hx hb mD_Re_startWheel_29 (by decide) ?_
        refine lv_icmp_ge (tgt := 39) hx hb mD_Re_startWheel_31 rfl (fun hc => ?_) (fun hc => ?_)
        · skip
          rw [tr_wh (by omega)] at hc
          have hw := ts_ge (by omega) (by omega) hc
          refine lv_ldc hx hb hown (htw _ ww_529) mD_Re_startWheel_39 ?_
          refine t_iast hx hb hK hI hA hP hS 104 64 (by decide) (fun _ => rfl) ((32 + n)) (nI_add _ _) (by omega) (by decide) mD_Re_startWheel_41 (fun H locs hP hS => ?_)
          obtain ⟨x2, hx2⟩ : ∃ z, z = tU x1 104 (upd (x1.1 104) ((32 + n)) ((-536870912 : Int32))) := ⟨_, rfl⟩
          rw [← hx2] at hP
          refine lv_iinc (k := 0) (v := nI (n + 1)) (lv' := [(2, .int (nI (n + 1))), (0, .ref (ad 5)), (1, .int (nI B))]) hx hb mD_Re_startWheel_42 hl rfl (by rw [lit1, nI_1]) (by decide) rfl (fun ls hl => ?_)
          refine lv_goto (tgt := 2) hx hb mD_Re_startWheel_45 rfl ?_
          exact ih (d2 - 1) (by omega) (n + 1) x2 _ _ _ (by omega) (lv_sub hl [0, 1, 2] rfl) hP hS (by obtain ⟨g, hg, h1, h2⟩ := hinv; exact ⟨upd (upd g n 0) (32 + n) _, by rw [hx2, tU_f, hx1, tU_f, hg, bx_uu, bx_uu, va_up_self, va_up_self]; rfl, tr_upd2 (P := fun _ z => z = 0) h1 (by omega) rfl, tr_upd3 (P := fun i z => z = tp_w0 (B : Int) (i : Int)) h2 (by omega) (by first | exact tr_w0p hw | exact tr_w0n hw)⟩)
        · skip
          rw [tr_wh (by omega)] at hc
          have hw := ts_lt (by omega) (by omega) hc
          refine lv_ldc hx hb hown (htw _ ww_528) mD_Re_startWheel_34 ?_
          refine lv_goto (tgt := 41) hx hb mD_Re_startWheel_36 rfl ?_
          refine t_iast hx hb hK hI hA hP hS 104 64 (by decide) (fun _ => rfl) ((32 + n)) (nI_add _ _) (by omega) (by decide) mD_Re_startWheel_41 (fun H locs hP hS => ?_)
          obtain ⟨x3, hx3⟩ : ∃ z, z = tU x1 104 (upd (x1.1 104) ((32 + n)) ((536870912 : Int32))) := ⟨_, rfl⟩
          rw [← hx3] at hP
          refine lv_iinc (k := 0) (v := nI (n + 1)) (lv' := [(2, .int (nI (n + 1))), (0, .ref (ad 5)), (1, .int (nI B))]) hx hb mD_Re_startWheel_42 hl rfl (by rw [lit1, nI_1]) (by decide) rfl (fun ls hl => ?_)
          refine lv_goto (tgt := 2) hx hb mD_Re_startWheel_45 rfl ?_
          exact ih (d2 - 1) (by omega) (n + 1) x3 _ _ _ (by omega) (lv_sub hl [0, 1, 2] rfl) hP hS (by obtain ⟨g, hg, h1, h2⟩ := hinv; exact ⟨upd (upd g n 0) (32 + n) _, by rw [hx3, tU_f, hx1, tU_f, hg, bx_uu, bx_uu, va_up_self, va_up_self]; rfl, tr_upd2 (P := fun _ z => z = 0) h1 (by omega) rfl, tr_upd3 (P := fun i z => z = tp_w0 (B : Int) (i : Int)) h2 (by omega) (by first | exact tr_w0p hw | exact tr_w0n hw)⟩)
  exact loop 32 0 x _ _ _ (by omega) hl hP hS ⟨x.1 104, va_up_same.symm, fun _ h => absurd h (Nat.not_lt_zero _), fun _ h => absurd h (Nat.not_lt_zero _)⟩

set_option maxHeartbeats 4000000 in
set_option maxRecDepth 100000 in
theorem k_Re_addChange (l : Launch) (D : va_G) (ct : Nat → ClassId) (ad : Nat → Nat) (hI : gw_inj 424 ad) (x : tS) {sv : Int32} {st w kp : Nat} (hsv : sv = nI st) (hst : st + 32 ≤ 64) (hw : w < 2) (hkp : tPair kp) (hkn : kp ≠ 104) : gMv l mY_Re_addChange mB_Re_addChange 6 none (rF 1 30) D (tT ct) gZ0 424 ad (tD ct ad) [.ref (ad 5), .int sv, .int (nI w), .ref (ad kp)] x (fun x' => ∃ g, x'.1 = va_up x.1 104 g ∧ ∀ (q : Nat → Int32) (j : Int), tp_ph q (fun i => g i) (fun i => g (32 + i)) j = tp_ph q (fun i => x.1 104 i) (fun i => x.1 104 (32 + i)) j + tp_sum 32 (fun k => tp_dg w (x.1 105 (st + k)) * tp_ph q (fun i => x.1 kp i) (fun i => x.1 kp (32 + i)) (j - (k : Int)))) := by
  refine gMv_enter (by decide) (Nat.le_of_ble_eq_true rfl) ?_
  intro p e s m below meth c ls hx hb hr htw hown hlocks hml hl hP hK hZ hS
  have hA : ∀ k, k < 424 → gA 424 ad s.heap.size (ad k) := fun _ h => gA_in h
  have hl : lv_has ls 6 [(0, .ref (ad 5)), (1, .int sv), (2, .int (nI w)), (3, .ref (ad kp))] := hl
  refine gw_nmQ (fun Q hQ => ?_)
  refine lv_iconst (v := nI 0) hx hb mD_Re_addChange_0 (by decide) ?_
  refine lv_istore (lv' := [(4, .int (nI 0)), (0, .ref (ad 5)), (1, .int sv), (2, .int (nI w)), (3, .ref (ad kp))]) hx hb mD_Re_addChange_1 hl (by decide) rfl (fun ls hl => ?_)
  have loop : ∀ (d3 : Nat) (n : Nat) (y : tS) (H : Heap) (locs : List Loc) (ls : Array Slot), n + d3 = 32 → lv_has ls 6 [(4, .int (nI n)), (0, .ref (ad 5)), (1, .int sv), (2, .int (nI w)), (3, .ref (ad kp))] → va_P D cL (gw 424 ad (tD ct ad y)) H → va_S (gA 424 ad s.heap.size) s.heap H locs → (∃ g, y.1 = va_up x.1 104 g ∧ ∀ (q : Nat → Int32) (j : Int), tp_ph q (fun i => g i) (fun i => g (32 + i)) j = tp_ph q (fun i => x.1 104 i) (fun i => x.1 104 (32 + i)) j + tp_sum n (fun k => tp_dg w (x.1 105 (st + k)) * tp_ph q (fun i => x.1 kp i) (fun i => x.1 kp (32 + i)) (j - (k : Int)))) → W p l e (rF 1 30) s m [.ref (ad 5), .int sv, .int (nI w), .ref (ad kp)].toArray below meth c H locs 0 0 Q (F0 m 3 ls []) := by
    intro d3
    induction d3 using Nat.strongRecOn with
    | ind d3 ih =>
      intro n y H locs ls hd hl hP hS hinv
      refine lv_iload hx hb mD_Re_addChange_3 (lv_at hl 0 rfl) ?_
      refine lv_bipush (v := nI 32) hx hb mD_Re_addChange_5 (by decide) ?_
      refine lv_icmp_ge (tgt := 66) hx hb mD_Re_addChange_7 rfl (fun hc => ?_) (fun hc => ?_)
      · skip
        have hn : n = 32 := by have := ts_ge (by omega) (by omega) hc; omega
        subst hn
        subst hQ
        exact gw_vret hx hb hr hlocks hP hS (hinv) mD_Re_addChange_66 (Nat.zero_le _) (Nat.zero_le _)
      · skip
        have hn_n : n < 32 := ts_lt (by omega) (by omega) hc
        refine lv_aload_n hx hb mD_Re_addChange_10 rfl (lv_at hl 1 rfl) ?_
        refine t_get (C := cN_Re) (T := cF_Re) (N := 4) (ci := 3) hx hb htw wU_Re hown hK hP 5 (by decide) rfl rfl 3 (by decide) rfl ww_86 rfl mD_Re_addChange_11 ?_
        refine lv_iload_n hx hb mD_Re_addChange_14 rfl (lv_at hl 2 rfl) ?_
        refine lv_iload hx hb mD_Re_addChange_15 (lv_at hl 0 rfl) ?_
        refine lv_iadd hx hb mD_Re_addChange_17 ?_
        refine t_iald hx hb hK hP 105 64 (by decide) rfl ((st + n)) (by rw [hsv, nI_add]) (by omega) (by decide) mD_Re_addChange_18 ?_
        refine lv_iload_n hx hb mD_Re_addChange_19 rfl (lv_at hl 3 rfl) ?_
        refine gc_Si (As := [.int (y.1 105 ((st + n))), .int (nI w)]) (rest := []) hx hb hml hown htw hK hP hS (k_Di_digit l D ct ad hI y _ (w := w) hw) gZ0_ok (fun _ _ _ => trivial) (gA_mono hS.1) ww_541 ww_542 ww_32 wC_Di_digit mP_Di_digit (by decide) rfl hl.1 rfl (Nat.le_of_ble_eq_true rfl) mD_Re_addChange_20 ⟨Nat.le_of_ble_eq_true rfl, Nat.le_of_ble_eq_true rfl⟩ (fun r2 x1 H locs hp1 hP _ _ hS => ?_)
        obtain ⟨hq_, rfl⟩ := hp1
        rw [hq_] at hP
        obtain ⟨g, hg, hsum⟩ := hinv
        have e5 : y.1 105 = x.1 105 := by rw [hg, va_up_ne _ _ (by decide)]
        have ekp : y.1 kp = x.1 kp := by rw [hg, va_up_ne _ _ hkn]
        have e104 : y.1 104 = g := by rw [hg, va_up_self]
        refine lv_istore (lv' := [(5, .int (tp_dg w (y.1 105 (st + n)))), (4, .int (nI n)), (0, .ref (ad 5)), (1, .int sv), (2, .int (nI w)), (3, .ref (ad kp))]) hx hb mD_Re_addChange_23 hl (by decide) rfl (fun ls hl => ?_)
        refine lv_iload hx hb mD_Re_addChange_25 (lv_at hl 0 rfl) ?_
        refine lv_if_eq (tgt := 60) hx hb mD_Re_addChange_27 rfl (fun hc => ?_) (fun hc => ?_)
        · skip
          refine lv_iinc (k := 1) (v := nI (n + 1)) (lv' := [(4, .int (nI (n + 1))), (5, .int (tp_dg w (y.1 105 (st + n)))), (0, .ref (ad 5)), (1, .int sv), (2, .int (nI w)), (3, .ref (ad kp))]) hx hb mD_Re_addChange_60 hl rfl (by rw [lit1, nI_1]) (by decide) rfl (fun ls hl => ?_)
          refine lv_goto (tgt := 3) hx hb mD_Re_addChange_63 rfl ?_
          exact ih (d3 - 1) (by omega) (n + 1) y _ _ _ (by omega) (lv_sub hl [0, 2, 3, 4, 5] rfl) hP hS ⟨g, hg, fun q j => by rw [hsum q j, tp_sum_s, ← e5, hc]; grind⟩
        · skip
          refine lv_iload hx hb mD_Re_addChange_30 (lv_at hl 0 rfl) ?_
          refine lv_iload hx hb mD_Re_addChange_32 (lv_at hl 1 rfl) ?_
          refine lv_aload_n hx hb mD_Re_addChange_34 rfl (lv_at hl 5 rfl) ?_
          refine lv_iconst (v := nI 0) hx hb mD_Re_addChange_35 (by decide) ?_
          refine lv_aload_n hx hb mD_Re_addChange_36 rfl (lv_at hl 2 rfl) ?_
          refine t_get (C := cN_Re) (T := cF_Re) (N := 4) (ci := 3) hx hb htw wU_Re hown hK hP 5 (by decide) rfl rfl 2 (by decide) rfl ww_85 rfl mD_Re_addChange_37 ?_
          refine lv_iconst (v := nI 0) hx hb mD_Re_addChange_40 (by decide) ?_
          refine gc_Sv (As := [.int (tp_dg w (y.1 105 (st + n))), .int (nI n), .ref (ad kp), .int (nI 0), .ref (ad 104), .int (nI 0)]) (rest := []) hx hb hml hown htw hK hP hS (k_Ri_addTurned l D ct ad hI y _ (t := n) (kf := kp) (fs := 0) (kt := 104) (ts := 0) (by omega) hkp tr_104 (by decide) (by decide) (Nat.le_refl _) (Or.inl hkn)) gZ0_ok (fun _ _ _ => trivial) (gA_mono hS.1) ww_545 ww_213 ww_31 wC_Ri_addTurned mP_Ri_addTurned (by decide) rfl hl.1 rfl (Nat.le_of_ble_eq_true rfl) mD_Re_addChange_41 ⟨Nat.le_of_ble_eq_true rfl, Nat.le_of_ble_eq_true rfl⟩ (fun x3 H locs hp3 hP _ _ hS => ?_)
          refine lv_iload hx hb mD_Re_addChange_44 (lv_at hl 0 rfl) ?_
          refine lv_iload hx hb mD_Re_addChange_46 (lv_at hl 1 rfl) ?_
          refine lv_aload_n hx hb mD_Re_addChange_48 rfl (lv_at hl 5 rfl) ?_
          refine lv_bipush (v := nI 32) hx hb mD_Re_addChange_49 (by decide) ?_
          refine lv_aload_n hx hb mD_Re_addChange_51 rfl (lv_at hl 2 rfl) ?_
          refine t_get (C := cN_Re) (T := cF_Re) (N := 4) (ci := 3) hx hb htw wU_Re hown hK hP 5 (by decide) rfl rfl 2 (by decide) rfl ww_85 rfl mD_Re_addChange_52 ?_
          refine lv_bipush (v := nI 32) hx hb mD_Re_addChange_55 (by decide) ?_
          refine gc_Sv (As := [.int (tp_dg w (y.1 105 (st + n))), .int (nI n), .ref (ad kp), .int (nI 32), .ref (ad 104), .int (nI 32)]) (rest := []) hx hb hml hown htw hK hP hS (k_Ri_addTurned l D ct ad hI x3 _ (t := n) (kf := kp) (fs := 32) (kt := 104) (ts := 32) (by omega) hkp tr_104 (by decide) (by decide) (Nat.le_refl _) (Or.inl hkn)) gZ0_ok (fun _ _ _ => trivial) (gA_mono hS.1) ww_545 ww_213 ww_31 wC_Ri_addTurned mP_Ri_addTurned (by decide) rfl hl.1 rfl (Nat.le_of_ble_eq_true rfl) mD_Re_addChange_57 ⟨Nat.le_of_ble_eq_true rfl, Nat.le_of_ble_eq_true rfl⟩ (fun x5 H locs hp5 hP _ _ hS => ?_)
          refine lv_iinc (k := 1) (v := nI (n + 1)) (lv' := [(4, .int (nI (n + 1))), (5, .int (tp_dg w (y.1 105 (st + n)))), (0, .ref (ad 5)), (1, .int sv), (2, .int (nI w)), (3, .ref (ad kp))]) hx hb mD_Re_addChange_60 hl rfl (by rw [lit1, nI_1]) (by decide) rfl (fun ls hl => ?_)
          refine lv_goto (tgt := 3) hx hb mD_Re_addChange_63 rfl ?_
          exact ih (d3 - 1) (by omega) (n + 1) x5 _ _ _ (by omega) (lv_sub hl [0, 2, 3, 4, 5] rfl) hP hS (by obtain ⟨g1, eg1, h1⟩ := hp3; obtain ⟨g2, eg2, h2⟩ := hp5; rw [e104, ekp] at h1; have ek1 : x3.1 kp = x.1 kp := (by rw [eg1, tU_n hkn, ekp]); rw [ek1, show x3.1 104 = g1 by rw [eg1, tU_1]] at h2; exact ⟨g2, by rw [eg2, tU_f, eg1, tU_f, hg, bx_uu, bx_uu], fun q j => by rw [tr_two h1 h2 q j, hsum q j, tp_sum_s, e5]; grind⟩)
  exact loop 32 0 x _ _ _ (by omega) hl hP hS ⟨x.1 104, va_up_same.symm, fun q j => by rw [tp_sum_0]; grind⟩
end
section
/-! Refresher: turnIfKeyBit, subtract, comeBack, refresh. Laid by wip/whole/part_refresh2.py. -/
theorem tq_ext {w : Nat → Int32} {k : Int} : tp_ext (fun j => w (0 + j)) k = tp_ext (fun j => w j) k := tp_ext_congr (fun j _ => by rw [Nat.zero_add]) k
theorem tq_sum2 (f : Nat → Int32) : tp_sum 2 f = f 0 + f 1 := by
  show tp_sum 0 f + f 0 + f 1 = _
  rw [tp_sum_0]
  grind
/-- what the four rows of a step add to the phase -/
def tq_S (v : Nat → Nat → Int32) (gc : Nat → Int32) (i h w : Nat) (j : Int) : Int32 := tp_sum 32 (fun k => tp_dg w (gc (h * 32 + k)) * tp_ph (v 4) (fun q => v (7 + (4 * i + 2 * h + w)) q) (fun q => v (7 + (4 * i + 2 * h + w)) (32 + q)) (j - (k : Int)))
theorem tq_step {v : Nat → Nat → Int32} {gc gw : Nat → Int32} {i T : Nat} (hs : ∀ q, q < 32 → tp_bit (v 4 q)) (hκ : tp_bit (v 3 i)) (hst : ∀ h w, h < 2 → w < 2 → th_step v i h w)
    (ha : ∀ k : Nat, k < 32 → gc k = tp_ext (fun j => v 104 j) ((k : Int) - (T : Int)) - v 104 k) (hb : ∀ k : Nat, k < 32 → gc (32 + k) = tp_ext (fun j => v 104 (32 + j)) ((k : Int) - (T : Int)) - v 104 (32 + k))
    (hg : ∀ j : Int, tp_ph (v 4) (fun q => gw q) (fun q => gw (32 + q)) j = tp_ph (v 4) (fun q => v 104 q) (fun q => v 104 (32 + q)) j + tp_sum 2 (fun h => tp_sum 2 (fun w => tq_S v gc i h w j))) (j : Int) :
    tp_sm 329728 (tp_ph (v 4) (fun q => gw q) (fun q => gw (32 + q)) j - tp_ph (v 4) (fun q => v 104 q) (fun q => v 104 (32 + q)) (j - (if v 3 i = 1 then (T : Int) else 0))) := by
  refine tp_step (s := v 4) (wa := fun q => v 104 q) (wb := fun q => v 104 (32 + q)) (ca := fun k => gc k) (cb := fun k => gc (32 + k)) (g := fun j => tp_ph (v 4) (fun q => gw q) (fun q => gw (32 + q)) j) hs hκ (hst 0 0 (by decide) (by decide)) (hst 0 1 (by decide) (by decide)) (hst 1 0 (by decide) (by decide)) (hst 1 1 (by decide) (by decide)) ha hb ?_ j
  intro j
  show tp_ph (v 4) (fun q => gw q) (fun q => gw (32 + q)) j = _
  rw [hg j, tq_sum2, tq_sum2, tq_sum2]
  have e0 : ∀ w, tq_S v gc i 0 w j = tp_sum 32 (fun k => tp_dg w (gc k) * tp_ph (v 4) (fun q => v (7 + (4 * i + 2 * 0 + w)) q) (fun q => v (7 + (4 * i + 2 * 0 + w)) (32 + q)) (j - (k : Int))) := fun w => by
    unfold tq_S
    exact tp_sum_congr (fun k _ => by rw [Nat.zero_mul, Nat.zero_add])
  have e1 : ∀ w, tq_S v gc i 1 w j = tp_sum 32 (fun k => tp_dg w (gc (32 + k)) * tp_ph (v 4) (fun q => v (7 + (4 * i + 2 * 1 + w)) q) (fun q => v (7 + (4 * i + 2 * 1 + w)) (32 + q)) (j - (k : Int))) := fun w => by
    unfold tq_S
    exact tp_sum_congr (fun k _ => by rw [Nat.one_mul])
  rw [e0, e0, e1, e1]
  have ass : ∀ A B C D E : Int32, A + (B + C + (D + E)) = A + B + C + D + E := by intro A B C D E; grind
  exact ass _ _ _ _ _

set_option maxHeartbeats 4000000 in
set_option maxRecDepth 100000 in
theorem k_Re_turnIfKeyBit (l : Launch) (D : va_G) (ct : Nat → ClassId) (ad : Nat → Nat) (hI : gw_inj 424 ad) (x : tS) {i T : Nat} (hi : i < 8) (hT : T < 64) (hks : ∀ q, q < 32 → tp_bit (x.1 4 q)) (hkb : tp_bit (x.1 3 i)) (hst : ∀ h w, h < 2 → w < 2 → th_step x.1 i h w) : gMv l mY_Re_turnIfKeyBit mB_Re_turnIfKeyBit 5 none (rF 2 55) D (tT ct) gZ0 424 ad (tD ct ad) [.ref (ad 5), .int (nI i), .int (nI T)] x (fun x' => ∃ gc gw, x'.1 = va_up (va_up x.1 105 gc) 104 gw ∧ ∀ j : Int, tp_sm 329728 (tp_ph (x.1 4) (fun q => gw q) (fun q => gw (32 + q)) j - tp_ph (x.1 4) (fun q => x.1 104 q) (fun q => x.1 104 (32 + q)) (j - (if x.1 3 i = 1 then (T : Int) else 0)))) := by
  refine gMv_enter (by decide) (Nat.le_of_ble_eq_true rfl) ?_
  intro p e s m below meth c ls hx hb hr htw hown hlocks hml hl hP hK hZ hS
  have hA : ∀ k, k < 424 → gA 424 ad s.heap.size (ad k) := fun _ h => gA_in h
  have hl : lv_has ls 5 [(0, .ref (ad 5)), (1, .int (nI i)), (2, .int (nI T))] := hl
  refine gw_nmQ (fun Q hQ => ?_)
  refine lv_iconst (v := nI 0) hx hb mD_Re_turnIfKeyBit_0 (by decide) ?_
  refine lv_istore_n (lv' := [(3, .int (nI 0)), (0, .ref (ad 5)), (1, .int (nI i)), (2, .int (nI T))]) hx hb mD_Re_turnIfKeyBit_1 rfl hl (by decide) rfl (fun ls hl => ?_)
  have loop : ∀ (d2 : Nat) (n : Nat) (y : tS) (H : Heap) (locs : List Loc) (ls : Array Slot), n + d2 = 32 → lv_has ls 5 [(3, .int (nI n)), (0, .ref (ad 5)), (1, .int (nI i)), (2, .int (nI T))] → va_P D cL (gw 424 ad (tD ct ad y)) H → va_S (gA 424 ad s.heap.size) s.heap H locs → (∃ g, y.1 = va_up x.1 105 g ∧ (∀ k : Nat, k < n → g k = tp_ext (fun j => x.1 104 j) ((k : Int) - (T : Int)) - x.1 104 k) ∧ ∀ k : Nat, k < n → g (32 + k) = tp_ext (fun j => x.1 104 (32 + j)) ((k : Int) - (T : Int)) - x.1 104 (32 + k)) → W p l e (rF 2 55) s m [.ref (ad 5), .int (nI i), .int (nI T)].toArray below meth c H locs 0 0 Q (F0 m 2 ls []) := by
    intro d2
    induction d2 using Nat.strongRecOn with
    | ind d2 ih =>
      intro n y H locs ls hd hl hP hS hinv
      refine lv_iload_n hx hb mD_Re_turnIfKeyBit_2 rfl (lv_at hl 0 rfl) ?_
      refine lv_bipush (v := nI 32) hx hb mD_Re_turnIfKeyBit_3 (by decide) ?_
      refine lv_icmp_ge (tgt := 67) hx hb mD_Re_turnIfKeyBit_5 rfl (fun hc => ?_) (fun hc => ?_)
      · skip
        have hn : n = 32 := by have := ts_ge (by omega) (by omega) hc; omega
        subst hn
        obtain ⟨gc, hgc, hca, hcb⟩ := hinv
        refine lv_iconst (v := nI 0) hx hb mD_Re_turnIfKeyBit_67 (by decide) ?_
        refine lv_istore_n (lv' := [(3, .int (nI 0)), (0, .ref (ad 5)), (1, .int (nI i)), (2, .int (nI T))]) hx hb mD_Re_turnIfKeyBit_68 rfl hl (by decide) rfl (fun ls hl => ?_)
        have loop2 : ∀ (d69 : Nat) (a : Nat) (y : tS) (H : Heap) (locs : List Loc) (ls : Array Slot), a + d69 = 2 → lv_has ls 5 [(3, .int (nI a)), (0, .ref (ad 5)), (1, .int (nI i)), (2, .int (nI T))] → va_P D cL (gw 424 ad (tD ct ad y)) H → va_S (gA 424 ad s.heap.size) s.heap H locs → (∃ gw, y.1 = va_up (va_up x.1 105 gc) 104 gw ∧ ∀ j : Int, tp_ph (x.1 4) (fun q => gw q) (fun q => gw (32 + q)) j = tp_ph (x.1 4) (fun q => x.1 104 q) (fun q => x.1 104 (32 + q)) j + tp_sum a (fun h => tp_sum 2 (fun w => tq_S x.1 gc i h w j))) → W p l e (rF 2 55) s m [.ref (ad 5), .int (nI i), .int (nI T)].toArray below meth c H locs 0 0 Q (F0 m 69 ls []) := by
          intro d69
          induction d69 using Nat.strongRecOn with
          | ind d69 ih2 =>
            intro a y H locs ls hd hl hP hS hinv2
            refine lv_iload_n hx hb mD_Re_turnIfKeyBit_69 rfl (lv_at hl 0 rfl) ?_
            refine lv_iconst (v := nI 2) hx hb mD_Re_turnIfKeyBit_70 (by decide) ?_
            refine lv_icmp_ge (tgt := 120) hx hb mD_Re_turnIfKeyBit_71 rfl (fun hc => ?_) (fun hc => ?_)
            · skip
              have hn : a = 2 := by have := ts_ge (by omega) (by omega) hc; omega
              subst hn
              subst hQ
              exact gw_vret hx hb hr hlocks hP hS (by obtain ⟨gw, e, h⟩ := hinv2; exact ⟨gc, gw, e, tq_step hks hkb hst hca hcb h⟩) mD_Re_turnIfKeyBit_120 (Nat.zero_le _) (Nat.zero_le _)
            · skip
              have hn_a : a < 2 := ts_lt (by omega) (by omega) hc
              refine lv_iconst (v := nI 0) hx hb mD_Re_turnIfKeyBit_74 (by decide) ?_
              refine lv_istore (lv' := [(4, .int (nI 0)), (3, .int (nI a)), (0, .ref (ad 5)), (1, .int (nI i)), (2, .int (nI T))]) hx hb mD_Re_turnIfKeyBit_75 hl (by decide) rfl (fun ls hl => ?_)
              have loop3 : ∀ (d77 : Nat) (b : Nat) (z : tS) (H : Heap) (locs : List Loc) (ls : Array Slot), b + d77 = 2 → lv_has ls 5 [(4, .int (nI b)), (3, .int (nI a)), (0, .ref (ad 5)), (1, .int (nI i)), (2, .int (nI T))] → va_P D cL (gw 424 ad (tD ct ad z)) H → va_S (gA 424 ad s.heap.size) s.heap H locs → (∃ gw, z.1 = va_up (va_up x.1 105 gc) 104 gw ∧ ∀ j : Int, tp_ph (x.1 4) (fun q => gw q) (fun q => gw (32 + q)) j = tp_ph (x.1 4) (fun q => x.1 104 q) (fun q => x.1 104 (32 + q)) j + tp_sum a (fun h => tp_sum 2 (fun w => tq_S x.1 gc i h w j)) + tp_sum b (fun w => tq_S x.1 gc i a w j)) → W p l e (rF 2 55) s m [.ref (ad 5), .int (nI i), .int (nI T)].toArray below meth c H locs 0 0 Q (F0 m 77 ls []) := by
                intro d77
                induction d77 using Nat.strongRecOn with
                | ind d77 ih3 =>
                  intro b z H locs ls hd hl hP hS hinv3
                  refine lv_iload hx hb mD_Re_turnIfKeyBit_77 (lv_at hl 0 rfl) ?_
                  refine lv_iconst (v := nI 2) hx hb mD_Re_turnIfKeyBit_79 (by decide) ?_
                  refine lv_icmp_ge (tgt := 114) hx hb mD_Re_turnIfKeyBit_80 rfl (fun hc => ?_) (fun hc => ?_)
                  · skip
                    have hn : b = 2 := by have := ts_ge (by omega) (by omega) hc; omega
                    subst hn
                    refine lv_iinc (k := 1) (v := nI (a + 1)) (lv' := [(3, .int (nI (a + 1))), (4, .int (nI 2)), (0, .ref (ad 5)), (1, .int (nI i)), (2, .int (nI T))]) hx hb mD_Re_turnIfKeyBit_114 hl rfl (by rw [lit1, nI_1]) (by decide) rfl (fun ls hl => ?_)
                    refine lv_goto (tgt := 69) hx hb mD_Re_turnIfKeyBit_117 rfl ?_
                    exact ih2 (d69 - 1) (by omega) (a + 1) z _ _ _ (by omega) (lv_sub hl [0, 2, 3, 4] rfl) hP hS (by obtain ⟨gw, e, h⟩ := hinv3; exact ⟨gw, e, fun j => by rw [h j, tp_sum_s a]; have ass : ∀ A B C : Int32, A + B + C = A + (B + C) := (by intro A B C; grind); exact ass _ _ _⟩)
                  · skip
                    have hn_b : b < 2 := ts_lt (by omega) (by omega) hc
                    refine lv_aload_n hx hb mD_Re_turnIfKeyBit_83 rfl (lv_at hl 2 rfl) ?_
                    refine lv_iload_n hx hb mD_Re_turnIfKeyBit_84 rfl (lv_at hl 1 rfl) ?_
                    refine lv_bipush (v := nI 32) hx hb mD_Re_turnIfKeyBit_85 (by decide) ?_
                    refine lv_imul hx hb mD_Re_turnIfKeyBit_87 ?_
                    refine lv_iload hx hb mD_Re_turnIfKeyBit_88 (lv_at hl 0 rfl) ?_
                    refine lv_aload_n hx hb mD_Re_turnIfKeyBit_90 rfl (lv_at hl 2 rfl) ?_
                    refine t_get (C := cN_Re) (T := cF_Re) (N := 4) (ci := 3) hx hb htw wU_Re hown hK hP 5 (by decide) rfl rfl 0 (by decide) rfl ww_83 rfl mD_Re_turnIfKeyBit_91 ?_
                    refine lv_iload_n hx hb mD_Re_turnIfKeyBit_94 rfl (lv_at hl 3 rfl) ?_
                    refine lv_iconst (v := nI 4) hx hb mD_Re_turnIfKeyBit_95 (by decide) ?_
                    refine lv_imul hx hb mD_Re_turnIfKeyBit_96 ?_
                    refine lv_iload_n hx hb mD_Re_turnIfKeyBit_97 rfl (lv_at hl 1 rfl) ?_
                    refine lv_iconst (v := nI 2) hx hb mD_Re_turnIfKeyBit_98 (by decide) ?_
                    refine lv_imul hx hb mD_Re_turnIfKeyBit_99 ?_
                    refine lv_iadd hx hb mD_Re_turnIfKeyBit_100 ?_
                    refine lv_iload hx hb mD_Re_turnIfKeyBit_101 (lv_at hl 0 rfl) ?_
                    refine lv_iadd hx hb mD_Re_turnIfKeyBit_103 ?_
                    refine t_alda hx hb hK hP 6 32 (by decide) rfl ((4 * i + 2 * a + b)) (by rw [pk_mul, pk_mul, nI_add, nI_add]; congr 1; omega) (by omega) (by decide) rfl mD_Re_turnIfKeyBit_104 ?_
                    refine gc_Vv (As := [.int ((nI a) * (nI 32)), .int (nI b), .ref (ad ((7 + ((4 * i + 2 * a + b)))))]) (rest := []) hx hb hml hown htw hK hP hS 5 (k_Re_addChange l D ct ad hI z (sv := nI a * nI 32) (st := a * 32) (w := b) (kp := (7 + (4 * i + 2 * a + b))) (pk_mul _ _) (by omega) (by omega) (show tPair (7 + (4 * i + 2 * a + b)) by unfold tPair; omega) (by omega)) gZ0_ok (fun _ _ _ => trivial) (gA_mono hS.1) (by decide) rfl rfl ww_537 ww_539 ww_13 ww_26 wC_Re_addChange mP_Re_addChange (by decide) rfl hl.1 rfl (Nat.le_of_ble_eq_true rfl) mD_Re_turnIfKeyBit_105 ⟨Nat.le_of_ble_eq_true rfl, Nat.le_of_ble_eq_true rfl⟩ (fun x1 H locs hp1 hP _ _ hS => ?_)
                    refine lv_iinc (k := 0) (v := nI (b + 1)) (lv' := [(4, .int (nI (b + 1))), (3, .int (nI a)), (0, .ref (ad 5)), (1, .int (nI i)), (2, .int (nI T))]) hx hb mD_Re_turnIfKeyBit_108 hl rfl (by rw [lit1, nI_1]) (by decide) rfl (fun ls hl => ?_)
                    refine lv_goto (tgt := 77) hx hb mD_Re_turnIfKeyBit_111 rfl ?_
                    exact ih3 (d77 - 1) (by omega) (b + 1) x1 _ _ _ (by omega) (lv_sub hl [0, 1, 2, 3, 4] rfl) hP hS (by obtain ⟨gw, e, h⟩ := hinv3; obtain ⟨g1, e1, h1⟩ := hp1; have e5 : z.1 105 = gc := (by rw [e, va_up_ne _ _ (by decide), va_up_self]); have ek : z.1 (7 + (4 * i + 2 * a + b)) = x.1 (7 + (4 * i + 2 * a + b)) := (by rw [e, va_up_ne _ _ (by omega), va_up_ne _ _ (by omega)]); have e104 : z.1 104 = gw := (by rw [e, va_up_self]); rw [e5, ek, e104] at h1; exact ⟨g1, by rw [e1, e, bx_uu], fun j => by rw [h1 (x.1 4) j, h j, tp_sum_s b (fun w => tq_S x.1 gc i a w j)]; have ass : ∀ A B C D : Int32, A + B + C + D = A + B + (C + D) := (by intro A B C D; grind); exact ass _ _ _ _⟩)
              exact loop3 2 0 y _ _ _ (by omega) hl hP hS (by obtain ⟨gw, e, h⟩ := hinv2; exact ⟨gw, e, fun j => by rw [h j, tp_sum_0 (fun w => tq_S x.1 gc i a w j)]; have ass : ∀ A B : Int32, A + B = A + B + 0 := (by intro A B; grind); exact ass _ _⟩)
        exact loop2 2 0 y _ _ _ (by omega) hl hP hS ⟨x.1 104, by rw [hgc, show x.1 104 = (va_up x.1 105 gc) 104 by rw [va_up_ne _ _ (by decide)], va_up_same], fun j => by rw [tp_sum_0]; grind⟩
      · skip
        have hn_n : n < 32 := ts_lt (by omega) (by omega) hc
        refine lv_aload_n hx hb mD_Re_turnIfKeyBit_8 rfl (lv_at hl 1 rfl) ?_
        refine t_get (C := cN_Re) (T := cF_Re) (N := 4) (ci := 3) hx hb htw wU_Re hown hK hP 5 (by decide) rfl rfl 3 (by decide) rfl ww_86 rfl mD_Re_turnIfKeyBit_9 ?_
        refine lv_iload_n hx hb mD_Re_turnIfKeyBit_12 rfl (lv_at hl 0 rfl) ?_
        refine lv_iload_n hx hb mD_Re_turnIfKeyBit_13 rfl (lv_at hl 3 rfl) ?_
        refine lv_iload_n hx hb mD_Re_turnIfKeyBit_14 rfl (lv_at hl 0 rfl) ?_
        refine lv_aload_n hx hb mD_Re_turnIfKeyBit_15 rfl (lv_at hl 1 rfl) ?_
        refine t_get (C := cN_Re) (T := cF_Re) (N := 4) (ci := 3) hx hb htw wU_Re hown hK hP 5 (by decide) rfl rfl 2 (by decide) rfl ww_85 rfl mD_Re_turnIfKeyBit_16 ?_
        refine lv_iconst (v := nI 0) hx hb mD_Re_turnIfKeyBit_19 (by decide) ?_
        refine gc_Si (As := [.int (nI T), .int (nI n), .ref (ad 104), .int (nI 0)]) (rest := [.int (nI n), .ref (ad 105)]) hx hb hml hown htw hK hP hS (k_Ri_turned l D ct ad hI y (T := T) (i := n) (k := 104) (fs := 0) hT (by omega) tr_104 (by decide)) gZ0_ok (fun _ _ _ => trivial) (gA_mono hS.1) ww_534 ww_535 ww_31 wC_Ri_turned mP_Ri_turned (by decide) rfl hl.1 rfl (Nat.le_of_ble_eq_true rfl) mD_Re_turnIfKeyBit_20 ⟨Nat.le_of_ble_eq_true rfl, Nat.le_of_ble_eq_true rfl⟩ (fun r4 x3 H locs hp3 hP _ _ hS => ?_)
        obtain ⟨hq_, rfl⟩ := hp3
        rw [hq_] at hP
        refine lv_aload_n hx hb mD_Re_turnIfKeyBit_23 rfl (lv_at hl 1 rfl) ?_
        refine t_get (C := cN_Re) (T := cF_Re) (N := 4) (ci := 3) hx hb htw wU_Re hown hK hP 5 (by decide) rfl rfl 2 (by decide) rfl ww_85 rfl mD_Re_turnIfKeyBit_24 ?_
        refine lv_iload_n hx hb mD_Re_turnIfKeyBit_27 rfl (lv_at hl 0 rfl) ?_
        refine t_iald hx hb hK hP 104 64 (by decide) rfl n rfl (by omega) (by decide) mD_Re_turnIfKeyBit_28 ?_
        refine lv_isub hx hb mD_Re_turnIfKeyBit_29 ?_
        refine t_iast hx hb hK hI hA hP hS 105 64 (by decide) (fun _ => rfl) n rfl (by omega) (by decide) mD_Re_turnIfKeyBit_30 (fun H locs hP hS => ?_)
        obtain ⟨x5, hx5⟩ : ∃ z, z = tU y 105 (upd (y.1 105) n ((tp_ext (fun j => y.1 104 (0 + j)) ((n : Int) - (T : Int))) - (y.1 104 n))) := ⟨_, rfl⟩
        rw [← hx5] at hP
        refine lv_aload_n hx hb mD_Re_turnIfKeyBit_31 rfl (lv_at hl 1 rfl) ?_
        refine t_get (C := cN_Re) (T := cF_Re) (N := 4) (ci := 3) hx hb htw wU_Re hown hK hP 5 (by decide) rfl rfl 3 (by decide) rfl ww_86 rfl mD_Re_turnIfKeyBit_32 ?_
        refine lv_bipush (v := nI 32) hx hb mD_Re_turnIfKeyBit_35 (by decide) ?_
        refine lv_iload_n hx hb mD_Re_turnIfKeyBit_37 rfl (lv_at hl 0 rfl) ?_
        refine lv_iadd hx hb mD_Re_turnIfKeyBit_38 ?_
        refine lv_iload_n hx hb mD_Re_turnIfKeyBit_39 rfl (lv_at hl 3 rfl) ?_
        refine lv_iload_n hx hb mD_Re_turnIfKeyBit_40 rfl (lv_at hl 0 rfl) ?_
        refine lv_aload_n hx hb mD_Re_turnIfKeyBit_41 rfl (lv_at hl 1 rfl) ?_
        refine t_get (C := cN_Re) (T := cF_Re) (N := 4) (ci := 3) hx hb htw wU_Re hown hK hP 5 (by decide) rfl rfl 2 (by decide) rfl ww_85 rfl mD_Re_turnIfKeyBit_42 ?_
        refine lv_bipush (v := nI 32) hx hb mD_Re_turnIfKeyBit_45 (by decide) ?_
        refine gc_Si (As := [.int (nI T), .int (nI n), .ref (ad 104), .int (nI 32)]) (rest := [.int ((nI 32) + (nI n)), .ref (ad 105)]) hx hb hml hown htw hK hP hS (k_Ri_turned l D ct ad hI x5 (T := T) (i := n) (k := 104) (fs := 32) hT (by omega) tr_104 (by decide)) gZ0_ok (fun _ _ _ => trivial) (gA_mono hS.1) ww_534 ww_535 ww_31 wC_Ri_turned mP_Ri_turned (by decide) rfl hl.1 rfl (Nat.le_of_ble_eq_true rfl) mD_Re_turnIfKeyBit_47 ⟨Nat.le_of_ble_eq_true rfl, Nat.le_of_ble_eq_true rfl⟩ (fun r7 x6 H locs hp6 hP _ _ hS => ?_)
        obtain ⟨hq_, rfl⟩ := hp6
        rw [hq_] at hP
        refine lv_aload_n hx hb mD_Re_turnIfKeyBit_50 rfl (lv_at hl 1 rfl) ?_
        refine t_get (C := cN_Re) (T := cF_Re) (N := 4) (ci := 3) hx hb htw wU_Re hown hK hP 5 (by decide) rfl rfl 2 (by decide) rfl ww_85 rfl mD_Re_turnIfKeyBit_51 ?_
        refine lv_bipush (v := nI 32) hx hb mD_Re_turnIfKeyBit_54 (by decide) ?_
        refine lv_iload_n hx hb mD_Re_turnIfKeyBit_56 rfl (lv_at hl 0 rfl) ?_
        refine lv_iadd hx hb mD_Re_turnIfKeyBit_57 ?_
        refine t_iald hx hb hK hP 104 64 (by decide) rfl ((32 + n)) (nI_add _ _) (by omega) (by decide) mD_Re_turnIfKeyBit_58 ?_
        refine lv_isub hx hb mD_Re_turnIfKeyBit_59 ?_
        refine t_iast hx hb hK hI hA hP hS 105 64 (by decide) (fun _ => rfl) ((32 + n)) (nI_add _ _) (by omega) (by decide) mD_Re_turnIfKeyBit_60 (fun H locs hP hS => ?_)
        obtain ⟨x8, hx8⟩ : ∃ z, z = tU x5 105 (upd (x5.1 105) ((32 + n)) ((tp_ext (fun j => x5.1 104 (32 + j)) ((n : Int) - (T : Int))) - (x5.1 104 ((32 + n))))) := ⟨_, rfl⟩
        rw [← hx8] at hP
        refine lv_iinc (k := 0) (v := nI (n + 1)) (lv' := [(3, .int (nI (n + 1))), (0, .ref (ad 5)), (1, .int (nI i)), (2, .int (nI T))]) hx hb mD_Re_turnIfKeyBit_61 hl rfl (by rw [lit1, nI_1]) (by decide) rfl (fun ls hl => ?_)
        refine lv_goto (tgt := 2) hx hb mD_Re_turnIfKeyBit_64 rfl ?_
        exact ih (d2 - 1) (by omega) (n + 1) x8 _ _ _ (by omega) (lv_sub hl [0, 1, 2, 3] rfl) hP hS (by obtain ⟨g, hg, h1, h2⟩ := hinv; have e4 : y.1 104 = x.1 104 := (by rw [hg, va_up_ne _ _ (by decide)]); have e4b : x5.1 104 = x.1 104 := (by rw [hx5, tU_n (by decide), e4]); exact ⟨upd (upd g n (tp_ext (fun j => x.1 104 (0 + j)) ((n : Int) - (T : Int)) - x.1 104 n)) (32 + n) (tp_ext (fun j => x.1 104 (32 + j)) ((n : Int) - (T : Int)) - x.1 104 (32 + n)), by rw [hx8, tU_f, e4b, hx5, tU_f, e4, hg, bx_uu, bx_uu, va_up_self, va_up_self], tr_upd2 (P := fun (k : Nat) z => z = tp_ext (fun j => x.1 104 j) ((k : Int) - (T : Int)) - x.1 104 k) h1 (by omega) (by rw [tq_ext]), tr_upd3 (P := fun (k : Nat) z => z = tp_ext (fun j => x.1 104 (32 + j)) ((k : Int) - (T : Int)) - x.1 104 (32 + k)) h2 (by omega) rfl⟩)
  exact loop 32 0 x _ _ _ (by omega) hl hP hS ⟨x.1 105, va_up_same.symm, fun _ h => absurd h (Nat.not_lt_zero _), fun _ h => absurd h (Nat.not_lt_zero _)⟩

set_option maxHeartbeats 4000000 in
set_option maxRecDepth 100000 in
theorem k_Re_subtract (l : Launch) (D : va_G) (ct : Nat → ClassId) (ad : Nat → Nat) (hI : gw_inj 424 ad) (x : tS) (tm : Int32) {kr kd : Nat} (hkr : tRow kr) (hkd : tRow kd) (hne : kr ≠ kd) : gMv l mY_Re_subtract mB_Re_subtract 4 none (rF 0 0) D (tT ct) gZ0 424 ad (tD ct ad) [.int tm, .ref (ad kr), .ref (ad kd)] x (fun x' => ∃ g, x'.1 = va_up x.1 kd g ∧ ∀ i, i < 9 → g i = x.1 kd i - tm * x.1 kr i) := by
  refine gMv_enter (by decide) (Nat.le_of_ble_eq_true rfl) ?_
  intro p e s m below meth c ls hx hb hr htw hown hlocks hml hl hP hK hZ hS
  have hA : ∀ k, k < 424 → gA 424 ad s.heap.size (ad k) := fun _ h => gA_in h
  have hl : lv_has ls 4 [(0, .int tm), (1, .ref (ad kr)), (2, .ref (ad kd))] := hl
  refine gw_nmQ (fun Q hQ => ?_)
  refine lv_iconst (v := nI 0) hx hb mD_Re_subtract_0 (by decide) ?_
  refine lv_istore_n (lv' := [(3, .int (nI 0)), (0, .int tm), (1, .ref (ad kr)), (2, .ref (ad kd))]) hx hb mD_Re_subtract_1 rfl hl (by decide) rfl (fun ls hl => ?_)
  have loop : ∀ (d2 : Nat) (n : Nat) (y : tS) (H : Heap) (locs : List Loc) (ls : Array Slot), n + d2 = 9 → lv_has ls 4 [(3, .int (nI n)), (0, .int tm), (1, .ref (ad kr)), (2, .ref (ad kd))] → va_P D cL (gw 424 ad (tD ct ad y)) H → va_S (gA 424 ad s.heap.size) s.heap H locs → (∃ g, y.1 = va_up x.1 kd g ∧ (∀ i, i < n → g i = x.1 kd i - tm * x.1 kr i) ∧ ∀ i, n ≤ i → g i = x.1 kd i) → W p l e (rF 0 0) s m [.int tm, .ref (ad kr), .ref (ad kd)].toArray below meth c H locs 0 0 Q (F0 m 2 ls []) := by
    intro d2
    induction d2 using Nat.strongRecOn with
    | ind d2 ih =>
      intro n y H locs ls hd hl hP hS hinv
      refine lv_iload_n hx hb mD_Re_subtract_2 rfl (lv_at hl 0 rfl) ?_
      refine lv_bipush (v := nI 9) hx hb mD_Re_subtract_3 (by decide) ?_
      refine lv_icmp_ge (tgt := 25) hx hb mD_Re_subtract_5 rfl (fun hc => ?_) (fun hc => ?_)
      · skip
        have hn : n = 9 := by have := ts_ge (by omega) (by omega) hc; omega
        subst hn
        subst hQ
        exact gw_vret hx hb hr hlocks hP hS (by obtain ⟨g, hg, h1, _⟩ := hinv; exact ⟨g, hg, h1⟩) mD_Re_subtract_25 (Nat.zero_le _) (Nat.zero_le _)
      · skip
        have hn_n : n < 9 := ts_lt (by omega) (by omega) hc
        refine lv_aload_n hx hb mD_Re_subtract_8 rfl (lv_at hl 3 rfl) ?_
        refine lv_iload_n hx hb mD_Re_subtract_9 rfl (lv_at hl 0 rfl) ?_
        refine lv_dup2_11 hx hb mD_Re_subtract_10 rfl rfl ?_
        refine t_iald hx hb hK hP kd 9 (tRow_lt hkd) (tE_row hkd) n rfl (by omega) (by decide) mD_Re_subtract_11 ?_
        refine lv_iload_n hx hb mD_Re_subtract_12 rfl (lv_at hl 1 rfl) ?_
        refine lv_aload_n hx hb mD_Re_subtract_13 rfl (lv_at hl 2 rfl) ?_
        refine lv_iload_n hx hb mD_Re_subtract_14 rfl (lv_at hl 0 rfl) ?_
        refine t_iald hx hb hK hP kr 9 (tRow_lt hkr) (tE_row hkr) n rfl (by omega) (by decide) mD_Re_subtract_15 ?_
        refine lv_imul hx hb mD_Re_subtract_16 ?_
        refine lv_isub hx hb mD_Re_subtract_17 ?_
        refine t_iast hx hb hK hI hA hP hS kd 9 (tRow_lt hkd) (fun _ => tE_row hkd) n rfl (by omega) (by decide) mD_Re_subtract_18 (fun H locs hP hS => ?_)
        obtain ⟨x1, hx1⟩ : ∃ z, z = tU y kd (upd (y.1 kd) n ((y.1 kd n) - (tm * (y.1 kr n)))) := ⟨_, rfl⟩
        rw [← hx1] at hP
        refine lv_iinc (k := 0) (v := nI (n + 1)) (lv' := [(3, .int (nI (n + 1))), (0, .int tm), (1, .ref (ad kr)), (2, .ref (ad kd))]) hx hb mD_Re_subtract_19 hl rfl (by rw [lit1, nI_1]) (by decide) rfl (fun ls hl => ?_)
        refine lv_goto (tgt := 2) hx hb mD_Re_subtract_22 rfl ?_
        exact ih (d2 - 1) (by omega) (n + 1) x1 _ _ _ (by omega) (lv_sub hl [0, 1, 2, 3] rfl) hP hS (by obtain ⟨g, hg, h1, h2⟩ := hinv; have ed : y.1 kd = g := (by rw [hg, va_up_self]); have er : y.1 kr = x.1 kr := (by rw [hg, va_up_ne _ _ hne]); exact ⟨upd g n (g n - tm * x.1 kr n), by rw [hx1, tU_f, ed, er, hg, bx_uu], fun i hi => by by_cases q : i = n; rw [q, pk_us, h2 n (Nat.le_refl _)]; rw [pk_un q]; exact h1 i (by omega), fun i hi => by rw [pk_un (by omega)]; exact h2 i (by omega)⟩)
  exact loop 9 0 x _ _ _ (by omega) hl hP hS ⟨x.1 kd, va_up_same.symm, fun _ h => absurd h (Nat.not_lt_zero _), fun _ _ => rfl⟩

set_option maxHeartbeats 4000000 in
set_option maxRecDepth 100000 in
theorem k_Re_comeBack (l : Launch) (D : va_G) (ct : Nat → ClassId) (ad : Nat → Nat) (hI : gw_inj 424 ad) (x : tS) {kd : Nat} (hkd : tFar kd) : gMv l mY_Re_comeBack mB_Re_comeBack 5 none (rF 1 24) D (tT ct) gZ0 424 ad (tD ct ad) [.ref (ad 5), .ref (ad kd)] x (fun x' => ∃ g, x'.1 = va_up x.1 kd g ∧ tp_place (x.1 3) g = x.1 104 32 - tp_sum 32 (fun i => tp_sum 2 (fun w => tp_dg w (tp_ext (fun j => x.1 104 j) (0 - (i : Int))) * tp_place (x.1 3) (x.1 (40 + (2 * i + w)))))) := by
  refine gMv_enter (by decide) (Nat.le_of_ble_eq_true rfl) ?_
  intro p e s m below meth c ls hx hb hr htw hown hlocks hml hl hP hK hZ hS
  have hA : ∀ k, k < 424 → gA 424 ad s.heap.size (ad k) := fun _ h => gA_in h
  have hl : lv_has ls 5 [(0, .ref (ad 5)), (1, .ref (ad kd))] := hl
  refine gw_nmQ (fun Q hQ => ?_)
  refine lv_iconst (v := nI 0) hx hb mD_Re_comeBack_0 (by decide) ?_
  refine lv_istore_n (lv' := [(2, .int (nI 0)), (0, .ref (ad 5)), (1, .ref (ad kd))]) hx hb mD_Re_comeBack_1 rfl hl (by decide) rfl (fun ls hl => ?_)
  have loop : ∀ (d2 : Nat) (n : Nat) (y : tS) (H : Heap) (locs : List Loc) (ls : Array Slot), n + d2 = 8 → lv_has ls 5 [(2, .int (nI n)), (0, .ref (ad 5)), (1, .ref (ad kd))] → va_P D cL (gw 424 ad (tD ct ad y)) H → va_S (gA 424 ad s.heap.size) s.heap H locs → (∃ g, y.1 = va_up x.1 kd g ∧ ∀ i, i < n → g i = 0) → W p l e (rF 1 24) s m [.ref (ad 5), .ref (ad kd)].toArray below meth c H locs 0 0 Q (F0 m 2 ls []) := by
    intro d2
    induction d2 using Nat.strongRecOn with
    | ind d2 ih =>
      intro n y H locs ls hd hl hP hS hinv
      refine lv_iload_n hx hb mD_Re_comeBack_2 rfl (lv_at hl 0 rfl) ?_
      refine lv_bipush (v := nI 8) hx hb mD_Re_comeBack_3 (by decide) ?_
      refine lv_icmp_ge (tgt := 18) hx hb mD_Re_comeBack_5 rfl (fun hc => ?_) (fun hc => ?_)
      · skip
        have hn : n = 8 := by have := ts_ge (by omega) (by omega) hc; omega
        subst hn
        refine lv_aload_n hx hb mD_Re_comeBack_18 rfl (lv_at hl 2 rfl) ?_
        refine lv_bipush (v := nI 8) hx hb mD_Re_comeBack_19 (by decide) ?_
        refine lv_aload_n hx hb mD_Re_comeBack_21 rfl (lv_at hl 1 rfl) ?_
        refine t_get (C := cN_Re) (T := cF_Re) (N := 4) (ci := 3) hx hb htw wU_Re hown hK hP 5 (by decide) rfl rfl 2 (by decide) rfl ww_85 rfl mD_Re_comeBack_22 ?_
        refine lv_bipush (v := nI 32) hx hb mD_Re_comeBack_25 (by decide) ?_
        refine t_iald hx hb hK hP 104 64 (by decide) rfl 32 rfl (by decide) (by decide) mD_Re_comeBack_27 ?_
        refine t_iast hx hb hK hI hA hP hS kd 9 (tRow_lt hkd.1) (fun _ => tE_row hkd.1) 8 rfl (by decide) (by decide) mD_Re_comeBack_28 (fun H locs hP hS => ?_)
        obtain ⟨x1, hx1⟩ : ∃ z, z = tU y kd (upd (y.1 kd) 8 (y.1 104 32)) := ⟨_, rfl⟩
        rw [← hx1] at hP
        refine lv_iconst (v := nI 0) hx hb mD_Re_comeBack_29 (by decide) ?_
        refine lv_istore_n (lv' := [(2, .int (nI 0)), (0, .ref (ad 5)), (1, .ref (ad kd))]) hx hb mD_Re_comeBack_30 rfl hl (by decide) rfl (fun ls hl => ?_)
        have loop2 : ∀ (d31 : Nat) (n : Nat) (y : tS) (H : Heap) (locs : List Loc) (ls : Array Slot), n + d31 = 32 → lv_has ls 5 [(2, .int (nI n)), (0, .ref (ad 5)), (1, .ref (ad kd))] → va_P D cL (gw 424 ad (tD ct ad y)) H → va_S (gA 424 ad s.heap.size) s.heap H locs → (∃ g, y.1 = va_up x.1 kd g ∧ tp_place (x.1 3) g = x.1 104 32 - tp_sum n (fun i => tp_sum 2 (fun w => tp_dg w (tp_ext (fun j => x.1 104 j) (0 - (i : Int))) * tp_place (x.1 3) (x.1 (40 + (2 * i + w)))))) → W p l e (rF 1 24) s m [.ref (ad 5), .ref (ad kd)].toArray below meth c H locs 0 0 Q (F0 m 31 ls []) := by
          intro d31
          induction d31 using Nat.strongRecOn with
          | ind d31 ih2 =>
            intro n y H locs ls hd hl hP hS hinv2
            refine lv_iload_n hx hb mD_Re_comeBack_31 rfl (lv_at hl 0 rfl) ?_
            refine lv_bipush (v := nI 32) hx hb mD_Re_comeBack_32 (by decide) ?_
            refine lv_icmp_ge (tgt := 90) hx hb mD_Re_comeBack_34 rfl (fun hc => ?_) (fun hc => ?_)
            · skip
              have hn : n = 32 := by have := ts_ge (by omega) (by omega) hc; omega
              subst hn
              subst hQ
              exact gw_vret hx hb hr hlocks hP hS (by obtain ⟨g, hg, h1⟩ := hinv2; exact ⟨g, hg, h1⟩) mD_Re_comeBack_90 (Nat.zero_le _) (Nat.zero_le _)
            · skip
              have hn_n : n < 32 := ts_lt (by omega) (by omega) hc
              refine lv_iload_n hx hb mD_Re_comeBack_37 rfl (lv_at hl 0 rfl) ?_
              refine lv_iconst (v := nI 0) hx hb mD_Re_comeBack_38 (by decide) ?_
              refine lv_aload_n hx hb mD_Re_comeBack_39 rfl (lv_at hl 1 rfl) ?_
              refine t_get (C := cN_Re) (T := cF_Re) (N := 4) (ci := 3) hx hb htw wU_Re hown hK hP 5 (by decide) rfl rfl 2 (by decide) rfl ww_85 rfl mD_Re_comeBack_40 ?_
              refine lv_iconst (v := nI 0) hx hb mD_Re_comeBack_43 (by decide) ?_
              refine gc_Si (As := [.int (nI n), .int (nI 0), .ref (ad 104), .int (nI 0)]) (rest := []) hx hb hml hown htw hK hP hS (k_Ri_turned l D ct ad hI y (T := n) (i := 0) (k := 104) (fs := 0) (by omega) (by decide) tr_104 (by decide)) gZ0_ok (fun _ _ _ => trivial) (gA_mono hS.1) ww_534 ww_535 ww_31 wC_Ri_turned mP_Ri_turned (by decide) rfl hl.1 rfl (Nat.le_of_ble_eq_true rfl) mD_Re_comeBack_44 ⟨Nat.le_of_ble_eq_true rfl, Nat.le_of_ble_eq_true rfl⟩ (fun r3 x2 H locs hp2 hP _ _ hS => ?_)
              obtain ⟨hq_, rfl⟩ := hp2
              rw [hq_] at hP
              refine lv_topi (fun v_ hv_ => ?_)
              rw [show y.1 104 = x.1 104 by obtain ⟨g, hg, _⟩ := hinv2; rw [hg, va_up_ne _ _ (by have := hkd.1; unfold tRow at this; omega)], tq_ext, show ((0 : Nat) : Int) - (n : Int) = 0 - (n : Int) by omega] at hv_
              subst hv_
              refine lv_istore_n (lv' := [(3, .int ((tp_ext (fun j => x.1 104 j) (0 - (n : Int))))), (2, .int (nI n)), (0, .ref (ad 5)), (1, .ref (ad kd))]) hx hb mD_Re_comeBack_47 rfl hl (by decide) rfl (fun ls hl => ?_)
              refine lv_iconst (v := nI 0) hx hb mD_Re_comeBack_48 (by decide) ?_
              refine lv_istore (lv' := [(4, .int (nI 0)), (3, .int ((tp_ext (fun j => x.1 104 j) (0 - (n : Int))))), (2, .int (nI n)), (0, .ref (ad 5)), (1, .ref (ad kd))]) hx hb mD_Re_comeBack_49 hl (by decide) rfl (fun ls hl => ?_)
              have loop3 : ∀ (d51 : Nat) (b : Nat) (z : tS) (H : Heap) (locs : List Loc) (ls : Array Slot), b + d51 = 2 → lv_has ls 5 [(4, .int (nI b)), (3, .int ((tp_ext (fun j => x.1 104 j) (0 - (n : Int))))), (2, .int (nI n)), (0, .ref (ad 5)), (1, .ref (ad kd))] → va_P D cL (gw 424 ad (tD ct ad z)) H → va_S (gA 424 ad s.heap.size) s.heap H locs → (∃ g, z.1 = va_up x.1 kd g ∧ tp_place (x.1 3) g = x.1 104 32 - tp_sum n (fun i => tp_sum 2 (fun w => tp_dg w (tp_ext (fun j => x.1 104 j) (0 - (i : Int))) * tp_place (x.1 3) (x.1 (40 + (2 * i + w))))) - tp_sum b (fun w => tp_dg w (tp_ext (fun j => x.1 104 j) (0 - (n : Int))) * tp_place (x.1 3) (x.1 (40 + (2 * n + w))))) → W p l e (rF 1 24) s m [.ref (ad 5), .ref (ad kd)].toArray below meth c H locs 0 0 Q (F0 m 51 ls []) := by
                intro d51
                induction d51 using Nat.strongRecOn with
                | ind d51 ih3 =>
                  intro b z H locs ls hd hl hP hS hinv3
                  refine lv_iload hx hb mD_Re_comeBack_51 (lv_at hl 0 rfl) ?_
                  refine lv_iconst (v := nI 2) hx hb mD_Re_comeBack_53 (by decide) ?_
                  refine lv_icmp_ge (tgt := 84) hx hb mD_Re_comeBack_54 rfl (fun hc => ?_) (fun hc => ?_)
                  · skip
                    have hn : b = 2 := by have := ts_ge (by omega) (by omega) hc; omega
                    subst hn
                    refine lv_iinc (k := 2) (v := nI (n + 1)) (lv' := [(2, .int (nI (n + 1))), (4, .int (nI 2)), (3, .int ((tp_ext (fun j => x.1 104 j) (0 - (n : Int))))), (0, .ref (ad 5)), (1, .ref (ad kd))]) hx hb mD_Re_comeBack_84 hl rfl (by rw [lit1, nI_1]) (by decide) rfl (fun ls hl => ?_)
                    refine lv_goto (tgt := 31) hx hb mD_Re_comeBack_87 rfl ?_
                    exact ih2 (d31 - 1) (by omega) (n + 1) z _ _ _ (by omega) (lv_sub hl [0, 3, 4] rfl) hP hS (by obtain ⟨g, hg, h1⟩ := hinv3; exact ⟨g, hg, by rw [h1, tp_sum_s n]; have ass : ∀ A B C : Int32, A - B - C = A - (B + C) := (by intro A B C; grind); exact ass _ _ _⟩)
                  · skip
                    have hn_b : b < 2 := ts_lt (by omega) (by omega) hc
                    refine lv_iload_n hx hb mD_Re_comeBack_57 rfl (lv_at hl 1 rfl) ?_
                    refine lv_iload hx hb mD_Re_comeBack_58 (lv_at hl 0 rfl) ?_
                    refine gc_Si (As := [.int ((tp_ext (fun j => x.1 104 j) (0 - (n : Int)))), .int (nI b)]) (rest := []) hx hb hml hown htw hK hP hS (k_Di_digit l D ct ad hI z _ (w := b) (by omega)) gZ0_ok (fun _ _ _ => trivial) (gA_mono hS.1) ww_541 ww_542 ww_32 wC_Di_digit mP_Di_digit (by decide) rfl hl.1 rfl (Nat.le_of_ble_eq_true rfl) mD_Re_comeBack_60 ⟨Nat.le_of_ble_eq_true rfl, Nat.le_of_ble_eq_true rfl⟩ (fun r5 x4 H locs hp4 hP _ _ hS => ?_)
                    obtain ⟨hq_, rfl⟩ := hp4
                    rw [hq_] at hP
                    refine lv_aload_n hx hb mD_Re_comeBack_63 rfl (lv_at hl 3 rfl) ?_
                    refine t_get (C := cN_Re) (T := cF_Re) (N := 4) (ci := 3) hx hb htw wU_Re hown hK hP 5 (by decide) rfl rfl 1 (by decide) rfl ww_84 rfl mD_Re_comeBack_64 ?_
                    refine lv_iload_n hx hb mD_Re_comeBack_67 rfl (lv_at hl 2 rfl) ?_
                    refine lv_iconst (v := nI 2) hx hb mD_Re_comeBack_68 (by decide) ?_
                    refine lv_imul hx hb mD_Re_comeBack_69 ?_
                    refine lv_iload hx hb mD_Re_comeBack_70 (lv_at hl 0 rfl) ?_
                    refine lv_iadd hx hb mD_Re_comeBack_72 ?_
                    refine t_alda hx hb hK hP 39 64 (by decide) rfl ((2 * n + b)) (by rw [pk_mul, nI_add]; congr 1; omega) (by omega) (by decide) rfl mD_Re_comeBack_73 ?_
                    refine lv_aload_n hx hb mD_Re_comeBack_74 rfl (lv_at hl 4 rfl) ?_
                    refine gc_Sv (As := [.int (tp_dg b (tp_ext (fun j => x.1 104 j) (0 - (n : Int)))), .ref (ad ((40 + ((2 * n + b))))), .ref (ad kd)]) (rest := []) hx hb hml hown htw hK hP hS (k_Re_subtract l D ct ad hI z _ (kr := (40 + (2 * n + b))) (kd := kd) (show tRow (40 + (2 * n + b)) by unfold tRow; omega) hkd.1 (by have := hkd.2; omega)) gZ0_ok (fun _ _ _ => trivial) (gA_mono hS.1) ww_550 ww_551 ww_26 wC_Re_subtract mP_Re_subtract (by decide) rfl hl.1 rfl (Nat.le_of_ble_eq_true rfl) mD_Re_comeBack_75 ⟨Nat.le_of_ble_eq_true rfl, Nat.le_of_ble_eq_true rfl⟩ (fun x6 H locs hp6 hP _ _ hS => ?_)
                    refine lv_iinc (k := 0) (v := nI (b + 1)) (lv' := [(4, .int (nI (b + 1))), (3, .int ((tp_ext (fun j => x.1 104 j) (0 - (n : Int))))), (2, .int (nI n)), (0, .ref (ad 5)), (1, .ref (ad kd))]) hx hb mD_Re_comeBack_78 hl rfl (by rw [lit1, nI_1]) (by decide) rfl (fun ls hl => ?_)
                    refine lv_goto (tgt := 51) hx hb mD_Re_comeBack_81 rfl ?_
                    exact ih3 (d51 - 1) (by omega) (b + 1) x6 _ _ _ (by omega) (lv_sub hl [0, 1, 2, 3, 4] rfl) hP hS (by obtain ⟨g, hg, h1⟩ := hinv3; obtain ⟨g1, e1, h2⟩ := hp6; have ed : z.1 kd = g := (by rw [hg, va_up_self]); have er : z.1 (40 + (2 * n + b)) = x.1 (40 + (2 * n + b)) := (by rw [hg, va_up_ne _ _ (by have := hkd.2; omega)]); rw [ed, er] at h2; exact ⟨g1, by rw [e1, hg, bx_uu], by rw [tr_sub h2, h1, tp_sum_s b]; have ass : ∀ A B C D : Int32, A - B - C - D = A - B - (C + D) := (by intro A B C D; grind); exact ass _ _ _ _⟩)
              exact loop3 2 0 y _ _ _ (by omega) hl hP hS (by obtain ⟨g, hg, h1⟩ := hinv2; exact ⟨g, hg, by rw [h1, tp_sum_0 (fun w => tp_dg w (tp_ext (fun j => x.1 104 j) (0 - (n : Int))) * tp_place (x.1 3) (x.1 (40 + (2 * n + w))))]; have ass : ∀ A B : Int32, A - B = A - B - 0 := (by intro A B; grind); exact ass _ _⟩)
        exact loop2 32 0 x1 _ _ _ (by omega) hl hP hS (by obtain ⟨g, hg, h1⟩ := hinv; have e4 : y.1 104 = x.1 104 := (by rw [hg, va_up_ne _ _ (by have := hkd.1; unfold tRow at this; omega)]); exact ⟨upd g 8 (x.1 104 32), by rw [hx1, tU_f, hg, bx_uu, va_up_self, ← hg, e4], by rw [tr_zero (fun i hi => by rw [pk_un (by omega)]; exact h1 i hi), pk_us, tp_sum_0]; grind⟩)
      · skip
        have hn_n : n < 8 := ts_lt (by omega) (by omega) hc
        refine lv_aload_n hx hb mD_Re_comeBack_8 rfl (lv_at hl 2 rfl) ?_
        refine lv_iload_n hx hb mD_Re_comeBack_9 rfl (lv_at hl 0 rfl) ?_
        refine lv_iconst (v := nI 0) hx hb mD_Re_comeBack_10 (by decide) ?_
        refine t_iast hx hb hK hI hA hP hS kd 9 (tRow_lt hkd.1) (fun _ => tE_row hkd.1) n rfl (by omega) (by decide) mD_Re_comeBack_11 (fun H locs hP hS => ?_)
        obtain ⟨x8, hx8⟩ : ∃ z, z = tU y kd (upd (y.1 kd) n (nI 0)) := ⟨_, rfl⟩
        rw [← hx8] at hP
        refine lv_iinc (k := 0) (v := nI (n + 1)) (lv' := [(2, .int (nI (n + 1))), (0, .ref (ad 5)), (1, .ref (ad kd))]) hx hb mD_Re_comeBack_12 hl rfl (by rw [lit1, nI_1]) (by decide) rfl (fun ls hl => ?_)
        refine lv_goto (tgt := 2) hx hb mD_Re_comeBack_15 rfl ?_
        exact ih (d2 - 1) (by omega) (n + 1) x8 _ _ _ (by omega) (lv_sub hl [0, 1, 2] rfl) hP hS (by obtain ⟨g, hg, h1⟩ := hinv; exact ⟨upd g n 0, by rw [hx8, tU_f, hg, bx_uu, va_up_self]; rfl, fun i hi => by by_cases q : i = n; rw [q, pk_us]; rw [pk_un q]; exact h1 i (by omega)⟩)
  exact loop 8 0 x _ _ _ (by omega) hl hP hS ⟨x.1 kd, va_up_same.symm, fun _ h => absurd h (Nat.not_lt_zero _)⟩
end
section
/-! more words. -/
theorem wX_inisys : Cond.initialized "java/lang/System" ∈ wW := wW_i1 17 rfl rfl
theorem wX_lkcopy : Cond.methodLink cN_Ce 15 arraycopyName ∈ wW := wW_i2 162 rfl rfl
theorem wX_stcopy : Cond.static arraycopyName ∈ wW := wW_i2 163 rfl rfl
theorem wX_natcopy : Cond.native arraycopyName ∈ wW := wW_i2 164 rfl rfl
end
section
/-! refresh; cells; the ledger; the circuit. Laid by wip/whole/part_cells.py. -/
/-- the key and all rows that hide it -/
def tKey (v : Nat → Nat → Int32) : Prop := (∀ i, i < 8 → tp_bit (v 3 i)) ∧ (∀ i, i < 32 → tp_bit (v 4 i)) ∧ (∀ i h w, i < 8 → h < 2 → w < 2 → th_step v i h w) ∧ ∀ i w, i < 32 → w < 2 → th_way v i w
theorem tKey_eq {v v' : Nat → Nat → Int32} (h : tKey v) (e : ∀ k, k < 104 → v' k = v k) : tKey v' := by
  obtain ⟨h1, h2, h3, h4⟩ := h
  refine ⟨by rw [e 3 (by decide)]; exact h1, by rw [e 4 (by decide)]; exact h2, fun i h w a b c => th_step_eq (h3 i h w a b c) (e _ (by decide)) (e _ (by decide)) (e _ (by omega)), fun i w a b => th_way_eq (h4 i w a b) (e _ (by decide)) (e _ (by decide)) (e _ (by omega))⟩
theorem tb_4 {f : Nat → Nat → Int32} {a b c d : Nat → Int32} : va_up (va_up (va_up (va_up f 105 a) 104 b) 105 c) 104 d = va_up (va_up f 105 c) 104 d := by
  funext j
  by_cases h : j = 104
  · rw [h, va_up_self, va_up_self]
  · rw [va_up_ne _ _ h, va_up_ne _ _ h]
    by_cases h2 : j = 105
    · rw [h2, va_up_self, va_up_self]
    · rw [va_up_ne _ _ h2, va_up_ne _ _ h, va_up_ne _ _ h2, va_up_ne _ _ h2]
theorem tb_rk {k : Nat} (h : tRow k) : k ≠ 104 ∧ k ≠ 105 ∧ k ≠ 3 ∧ k ≠ 4 ∧ k ≠ 1 ∧ k ≠ 0 ∧ k ≠ 108 ∧ k ≠ 350 := by unfold tRow at h; omega
theorem tb_ck {k : Nat} (h : tCe k) : k ≠ 104 ∧ k ≠ 105 ∧ k ≠ 3 ∧ k ≠ 4 ∧ k ≠ 107 ∧ k ≠ 0 ∧ k ≠ 108 ∧ k ≠ 350 ∧ 104 ≤ k := by unfold tCe at h; omega
theorem tb_cr {k j : Nat} (h : tCe k) (h2 : tCe j) : k ≠ j + 1 := by unfold tCe at h h2; omega
/-- the wheel after the eight steps, come back -/
theorem tb_refresh {v : Nat → Nat → Int32} {row gw r : Nat → Int32} (hk : tKey v) (hw : ∀ j : Int, tp_sm (329728 * 8) (tp_ph (v 4) (fun q => gw q) (fun q => gw (32 + q)) j - tp_w0 (tp_rd (row 8)) (j - tp_turn (v 3) row 8)))
    (hr : tp_place (v 3) r = gw 32 - tp_sum 32 (fun i => tp_sum 2 (fun w => tp_dg w (tp_ext (fun j => gw j) (0 - (i : Int))) * tp_place (v 3) (v (40 + (2 * i + w)))))) {p : Int} {z : Bool} (hp : tp_place (v 3) row = Int32.ofInt p)
    (h : if z then 301989888 ≤ p ∧ p < 1845493760 else p < -301989888 ∧ -1845493760 ≤ p) : tp_near (v 3) r z 3186688 := by
  refine tp_refreshed (s := v 4) (wa := fun q => gw q) (wb := fun q => gw (32 + q)) hk.1 hp h hw ?_
  rw [tr_end] at hr
  exact tp_back (pb := fun q => v (40 + q)) hk.2.1 hk.2.2.2 hr

set_option maxHeartbeats 4000000 in
set_option maxRecDepth 100000 in
theorem k_Re_refresh (l : Launch) (D : va_G) (ct : Nat → ClassId) (ad : Nat → Nat) (hI : gw_inj 424 ad) (x : tS) {kr kd : Nat} (hkr : tRow kr) (hkd : tFar kd) (hk : tKey x.1) : gMv l mY_Re_refresh mB_Re_refresh 4 none (rF 3 79) D (tT ct) gZ0 424 ad (tD ct ad) [.ref (ad 5), .ref (ad kr), .ref (ad kd)] x (fun x' => ∃ gc gw g, x'.1 = va_up (va_up (va_up x.1 105 gc) 104 gw) kd g ∧ ∀ (p : Int) (z : Bool), tp_place (x.1 3) (x.1 kr) = Int32.ofInt p → (if z then 301989888 ≤ p ∧ p < 1845493760 else p < -301989888 ∧ -1845493760 ≤ p) → tp_near (x.1 3) g z 3186688) := by
  refine gMv_enter (by decide) (Nat.le_of_ble_eq_true rfl) ?_
  intro p e s m below meth c ls hx hb hr htw hown hlocks hml hl hP hK hZ hS
  have hA : ∀ k, k < 424 → gA 424 ad s.heap.size (ad k) := fun _ h => gA_in h
  have hl : lv_has ls 4 [(0, .ref (ad 5)), (1, .ref (ad kr)), (2, .ref (ad kd))] := hl
  refine gw_nmQ (fun Q hQ => ?_)
  refine lv_aload_n hx hb mD_Re_refresh_0 rfl (lv_at hl 0 rfl) ?_
  refine lv_aload_n hx hb mD_Re_refresh_1 rfl (lv_at hl 1 rfl) ?_
  refine lv_bipush (v := nI 8) hx hb mD_Re_refresh_2 (by decide) ?_
  refine t_iald hx hb hK hP kr 9 (tRow_lt hkr) (tE_row hkr) 8 rfl (by decide) (by decide) mD_Re_refresh_4 ?_
  refine gc_Si (As := [.int (x.1 kr 8)]) (rest := [.ref (ad 5)]) hx hb hml hown htw hK hP hS (k_Re_roundToPlaces l D ct ad hI x _) gZ0_ok (fun _ _ _ => trivial) (gA_mono hS.1) ww_520 ww_521 ww_26 wC_Re_roundToPlaces mP_Re_roundToPlaces (by decide) rfl hl.1 rfl (Nat.le_of_ble_eq_true rfl) mD_Re_refresh_5 ⟨Nat.le_of_ble_eq_true rfl, Nat.le_of_ble_eq_true rfl⟩ (fun r2 x1 H locs hp1 hP _ _ hS => ?_)
  obtain ⟨hq_, rfl⟩ := hp1
  rw [hq_] at hP
  refine gc_Vv (As := [.int (nI (tp_rd (x.1 kr 8)))]) (rest := []) hx hb hml hown htw hK hP hS 5 (k_Re_startWheel l D ct ad hI x (B := tp_rd (x.1 kr 8)) (tp_rd_lt _)) gZ0_ok (fun _ _ _ => trivial) (gA_mono hS.1) (by decide) rfl rfl ww_524 ww_526 ww_11 ww_26 wC_Re_startWheel mP_Re_startWheel (by decide) rfl hl.1 rfl (Nat.le_of_ble_eq_true rfl) mD_Re_refresh_8 ⟨Nat.le_of_ble_eq_true rfl, Nat.le_of_ble_eq_true rfl⟩ (fun x3 H locs hp3 hP _ _ hS => ?_)
  refine lv_iconst (v := nI 0) hx hb mD_Re_refresh_11 (by decide) ?_
  refine lv_istore_n (lv' := [(3, .int (nI 0)), (0, .ref (ad 5)), (1, .ref (ad kr)), (2, .ref (ad kd))]) hx hb mD_Re_refresh_12 rfl hl (by decide) rfl (fun ls hl => ?_)
  have loop : ∀ (d13 : Nat) (n : Nat) (y : tS) (H : Heap) (locs : List Loc) (ls : Array Slot), n + d13 = 8 → lv_has ls 4 [(3, .int (nI n)), (0, .ref (ad 5)), (1, .ref (ad kr)), (2, .ref (ad kd))] → va_P D cL (gw 424 ad (tD ct ad y)) H → va_S (gA 424 ad s.heap.size) s.heap H locs → (∃ gc gw, y.1 = va_up (va_up x.1 105 gc) 104 gw ∧ ∀ j : Int, tp_sm (329728 * n) (tp_ph (x.1 4) (fun q => gw q) (fun q => gw (32 + q)) j - tp_w0 (tp_rd (x.1 kr 8)) (j - tp_turn (x.1 3) (x.1 kr) n))) → W p l e (rF 3 79) s m [.ref (ad 5), .ref (ad kr), .ref (ad kd)].toArray below meth c H locs 0 0 Q (F0 m 13 ls []) := by
    intro d13
    induction d13 using Nat.strongRecOn with
    | ind d13 ih =>
      intro n y H locs ls hd hl hP hS hinv
      refine lv_iload_n hx hb mD_Re_refresh_13 rfl (lv_at hl 0 rfl) ?_
      refine lv_bipush (v := nI 8) hx hb mD_Re_refresh_14 (by decide) ?_
      refine lv_icmp_ge (tgt := 36) hx hb mD_Re_refresh_16 rfl (fun hc => ?_) (fun hc => ?_)
      · skip
        have hn : n = 8 := by have := ts_ge (by omega) (by omega) hc; omega
        subst hn
        obtain ⟨gc, gw, e, hph⟩ := hinv
        refine lv_aload_n hx hb mD_Re_refresh_36 rfl (lv_at hl 1 rfl) ?_
        refine lv_aload_n hx hb mD_Re_refresh_37 rfl (lv_at hl 3 rfl) ?_
        refine gc_Vv (As := [.ref (ad kd)]) (rest := []) hx hb hml hown htw hK hP hS 5 (k_Re_comeBack l D ct ad hI y (kd := kd) hkd) gZ0_ok (fun _ _ _ => trivial) (gA_mono hS.1) (by decide) rfl rfl ww_546 ww_548 ww_14 ww_26 wC_Re_comeBack mP_Re_comeBack (by decide) rfl hl.1 rfl (Nat.le_of_ble_eq_true rfl) mD_Re_refresh_38 ⟨Nat.le_of_ble_eq_true rfl, Nat.le_of_ble_eq_true rfl⟩ (fun x5 H locs hp5 hP _ _ hS => ?_)
        subst hQ
        exact gw_vret hx hb hr hlocks hP hS (by obtain ⟨g, eg, hg⟩ := hp5; have elo : ∀ k, k < 104 → y.1 k = x.1 k := (fun k h => by rw [e, va_up_ne _ _ (by omega), va_up_ne _ _ (by omega)]); have e104 : y.1 104 = gw := (by rw [e, va_up_self]); exact ⟨gc, gw, g, by rw [eg, e], fun p z hp h => by rw [elo 3 (by decide), e104, tp_sum_congr (g := fun i => tp_sum 2 (fun w => tp_dg w (tp_ext (fun j => gw j) (0 - (i : Int))) * tp_place (x.1 3) (x.1 (40 + (2 * i + w))))) (fun i hi => tp_sum_congr (fun w hw => by rw [elo _ (by omega)]))] at hg; exact tb_refresh hk hph hg hp h⟩) mD_Re_refresh_41 (Nat.zero_le _) (Nat.zero_le _)
      · skip
        have hn_n : n < 8 := ts_lt (by omega) (by omega) hc
        obtain ⟨gc, gw, e, hph⟩ := hinv
        have ek : y.1 kr = x.1 kr := by rw [e, va_up_ne _ _ (tb_rk hkr).1, va_up_ne _ _ (tb_rk hkr).2.1]
        have elo : ∀ k, k < 104 → y.1 k = x.1 k := fun k h => by rw [e, va_up_ne _ _ (by omega), va_up_ne _ _ (by omega)]
        have e4 := elo 4 (by decide)
        have e3 := elo 3 (by decide)
        have e104 : y.1 104 = gw := by rw [e, va_up_self]
        have hk1 := tKey_eq hk elo
        refine lv_aload_n hx hb mD_Re_refresh_19 rfl (lv_at hl 1 rfl) ?_
        refine lv_iload_n hx hb mD_Re_refresh_20 rfl (lv_at hl 0 rfl) ?_
        refine lv_aload_n hx hb mD_Re_refresh_21 rfl (lv_at hl 2 rfl) ?_
        refine lv_iload_n hx hb mD_Re_refresh_22 rfl (lv_at hl 0 rfl) ?_
        refine t_iald hx hb hK hP kr 9 (tRow_lt hkr) (tE_row hkr) n rfl (by omega) (by decide) mD_Re_refresh_23 ?_
        refine gc_Si (As := [.int (y.1 kr n)]) (rest := [.int (nI n), .ref (ad 5)]) hx hb hml hown htw hK hP hS (k_Re_roundToPlaces l D ct ad hI y _) gZ0_ok (fun _ _ _ => trivial) (gA_mono hS.1) ww_520 ww_521 ww_26 wC_Re_roundToPlaces mP_Re_roundToPlaces (by decide) rfl hl.1 rfl (Nat.le_of_ble_eq_true rfl) mD_Re_refresh_24 ⟨Nat.le_of_ble_eq_true rfl, Nat.le_of_ble_eq_true rfl⟩ (fun r8 x7 H locs hp7 hP _ _ hS => ?_)
        obtain ⟨hq_, rfl⟩ := hp7
        rw [hq_] at hP
        rw [ek]
        refine gc_Vv (As := [.int (nI n), .int (nI (tp_rd (x.1 kr n)))]) (rest := []) hx hb hml hown htw hK hP hS 5 (k_Re_turnIfKeyBit l D ct ad hI y (i := n) (T := tp_rd (x.1 kr n)) hn_n (tp_rd_lt _) hk1.2.1 (hk1.1 n hn_n) (fun h w => hk1.2.2.1 n h w hn_n)) gZ0_ok (fun _ _ _ => trivial) (gA_mono hS.1) (by decide) rfl rfl ww_530 ww_532 ww_12 ww_26 wC_Re_turnIfKeyBit mP_Re_turnIfKeyBit (by decide) rfl hl.1 rfl (Nat.le_of_ble_eq_true rfl) mD_Re_refresh_27 ⟨Nat.le_of_ble_eq_true rfl, Nat.le_of_ble_eq_true rfl⟩ (fun x9 H locs hp9 hP _ _ hS => ?_)
        refine lv_iinc (k := 0) (v := nI (n + 1)) (lv' := [(3, .int (nI (n + 1))), (0, .ref (ad 5)), (1, .ref (ad kr)), (2, .ref (ad kd))]) hx hb mD_Re_refresh_30 hl rfl (by rw [lit1, nI_1]) (by decide) rfl (fun ls hl => ?_)
        refine lv_goto (tgt := 13) hx hb mD_Re_refresh_33 rfl ?_
        exact ih (d13 - 1) (by omega) (n + 1) x9 _ _ _ (by omega) (lv_sub hl [0, 1, 2, 3] rfl) hP hS (by obtain ⟨gc1, gw1, e1, h1⟩ := hp9; exact ⟨gc1, gw1, by rw [e1, e, tb_4], fun j => tp_iter (κ := x.1 3) (row := x.1 kr) (g := fun j => tp_ph (x.1 4) (fun q => gw q) (fun q => gw (32 + q)) j) (g' := fun j => tp_ph (x.1 4) (fun q => gw1 q) (fun q => gw1 (32 + q)) j) hph (fun j => by have q := h1 j; rw [e4, e104, e3] at q; exact q) j⟩)
  exact loop 8 0 x3 _ _ _ (by omega) hl hP hS (by obtain ⟨g, hg, h1, h2⟩ := hp3; exact ⟨x.1 105, g, by rw [hg, va_up_same], fun j => by rw [tp_start (back := (tp_rd (x.1 kr 8) : Int)) (fun i hi => h1 i hi) (fun i hi => h2 i hi) j, show tp_turn (x.1 3) (x.1 kr) 0 = 0 from rfl, Int.sub_zero]; have z : ∀ A : Int32, A - A = 0 := (by intro A; grind); rw [z]; exact tp_sm_mono tp_sm_0 (Nat.zero_le _)⟩)
end
section
/-! cells; the ledger; the circuit. Laid by wip/whole/part_ledger.py. -/
theorem tb_idx {a : Int32} {N : Nat} (hN : N < 2 ^ 31) (h0 : ¬ a < 0) (h1 : ¬ nI N ≤ a) : ∃ q, q < N ∧ a = nI q := by
  rcases pk_ix a hN with h | h | h
  · exact absurd h h0
  · exact absurd h h1
  · exact h
theorem tb_nar {v : Int32} (h : tp_bit v) : narrow .boolean (.int v) = .int v ∧ fits .boolean (.int v) = true := by
  rcases h with rfl | rfl <;> exact ⟨rfl, rfl⟩
theorem tb_up2 {f : Nat → Nat → Int32} {k j : Nat} {a b c : Nat → Int32} (h : k ≠ j) : va_up (va_up (va_up f k a) j b) k c = va_up (va_up f k c) j b := by
  funext q
  by_cases h1 : q = k
  · rw [h1, va_up_self, va_up_ne _ _ h, va_up_self]
  · rw [va_up_ne _ _ h1]
    by_cases h2 : q = j
    · rw [h2, va_up_self, va_up_self]
    · rw [va_up_ne _ _ h2, va_up_ne _ _ h2, va_up_ne _ _ h1, va_up_ne _ _ h1]
theorem tb_swap {f : Nat → Nat → Int32} {k j : Nat} {a b : Nat → Int32} (h : k ≠ j) : va_up (va_up f k a) j b = va_up (va_up f j b) k a := by
  funext q
  by_cases h1 : q = k
  · rw [h1, va_up_self, va_up_ne _ _ h, va_up_self]
  · rw [va_up_ne _ _ h1]
    by_cases h2 : q = j
    · rw [h2, va_up_self, va_up_self]
    · rw [va_up_ne _ _ h2, va_up_ne _ _ h2, va_up_ne _ _ h1]
theorem tb_uu {f : Nat → Int32} {k : Nat} {a b : Int32} : upd (upd f k a) k b = upd f k b := by
  funext j
  by_cases h : j = k
  · rw [h, pk_us, pk_us]
  · rw [pk_un h, pk_un h, pk_un h]
theorem tb_led {j k : Nat} (h : j ≠ k) : 110 + 2 * j ≠ 110 + 2 * k := by omega
section TCP
variable {p : Program} {l : Launch} {e : Env} {R : Room} {s : State} {m : MethodId} {args : Array Value} {below : List Frame} {meth : Method} {c : Code} {H : Heap} {locs : List Loc} {cells slots : Nat} {Q : State → Prop}
variable {cc : ByteArray} {pc : Nat} {ls : Array Slot} {rest : List Value} {D : va_G} {ct : Nat → ClassId} {ad : Nat → Nat} {x : tS} {A : Nat → Prop} {H0 : Heap}
/-- System.arraycopy of a whole row -/
theorem t_copy9 (hx : p.tables.exec = Jvm.exec) (hb : c.code = cc) (hml : c.maxLocals = ls.size) (hown : s.vm.findClass cN_Ce = some m.cls) (htw : ∀ w ∈ wW, w.before args s = true) (hK : va_K D cL (tT ct) s) (hI : gw_inj 424 ad) (hA : ∀ k, k < 424 → A (ad k)) (hP : va_P D cL (gw 424 ad (tD ct ad x)) H) (hS : va_S A H0 H locs) {kf kt : Nat} (hf : tRow kf) (ht : tRow kt)
    (hframes : 1 ≤ R.frames) (hlocals : (rest.map fun v => v.category).sum + (nativeFrameWords "java/lang/System" "arraycopy" 5 + 11) ≤ R.locals) (hdg : decode cc pc = .ok (.invokestatic 15, 3))
    (kk : ∀ (H1 : Heap) (locs1 : List Loc), va_P D cL (gw 424 ad (tD ct ad (tU x kt (va_cpy (x.1 kf) (x.1 kt) 0 0 9)))) H1 → va_S A H0 H1 locs1 → W p l e R s m args below meth c H1 locs1 cells slots Q (F0 m (pc + 3) ls rest)) : W p l e R s m args below meth c H locs cells slots Q (F0 m pc ls (.int (nI 9) :: .int (nI 0) :: .ref (ad kt) :: .int (nI 0) :: .ref (ad kf) :: rest)) := by
  refine va_copyi hx hb hml hown (htw _ wX_lkcopy) (htw _ wX_natcopy) (htw _ wX_stcopy) (htw _ wX_inisys) hK hP (gw_D hI hA) hS kf kt 0 0 (gw_at' (tRow_lt hf) (tE_row (ct := ct) (ad := ad) (so := x.2) (f := x.1 kf) hf)) (gw_at' (tRow_lt ht) (tE_row (ct := ct) (ad := ad) (so := x.2) (f := x.1 kt) ht)) rfl rfl rfl (by decide) (by decide) (by decide) (by decide) (by decide) (fun _ _ => rfl) hframes hlocals hdg (fun H1 locs1 h1 _ h3 => kk H1 locs1 ?_ h3)
  rw [gw_set (tRow_lt ht)] at h1
  rw [← tD_up, tE_row ht]
  exact h1
end TCP

set_option maxHeartbeats 4000000 in
set_option maxRecDepth 100000 in
theorem k_Ce_addRow (l : Launch) (D : va_G) (ct : Nat → ClassId) (ad : Nat → Nat) (hI : gw_inj 424 ad) (x : tS) {kc ko : Nat} (hkc : tCe kc) (hko : tRow ko) (hne : ko ≠ kc + 1) : gMv l mY_Ce_addRow mB_Ce_addRow 3 none (rF 0 0) D (tT ct) gZ0 424 ad (tD ct ad) [.ref (ad kc), .ref (ad ko)] x (fun x' => ∃ g, x'.1 = va_up x.1 (kc + 1) g ∧ ∀ i, i < 9 → g i = x.1 (kc + 1) i + x.1 ko i) := by
  refine gMv_enter (by decide) (Nat.le_of_ble_eq_true rfl) ?_
  intro p e s m below meth c ls hx hb hr htw hown hlocks hml hl hP hK hZ hS
  have hA : ∀ k, k < 424 → gA 424 ad s.heap.size (ad k) := fun _ h => gA_in h
  have hl : lv_has ls 3 [(0, .ref (ad kc)), (1, .ref (ad ko))] := hl
  refine gw_nmQ (fun Q hQ => ?_)
  refine lv_iconst (v := nI 0) hx hb mD_Ce_addRow_0 (by decide) ?_
  refine lv_istore_n (lv' := [(2, .int (nI 0)), (0, .ref (ad kc)), (1, .ref (ad ko))]) hx hb mD_Ce_addRow_1 rfl hl (by decide) rfl (fun ls hl => ?_)
  have loop : ∀ (d2 : Nat) (n : Nat) (y : tS) (H : Heap) (locs : List Loc) (ls : Array Slot), n + d2 = 9 → lv_has ls 3 [(2, .int (nI n)), (0, .ref (ad kc)), (1, .ref (ad ko))] → va_P D cL (gw 424 ad (tD ct ad y)) H → va_S (gA 424 ad s.heap.size) s.heap H locs → (∃ g, y.1 = va_up x.1 (kc + 1) g ∧ (∀ i, i < n → g i = x.1 (kc + 1) i + x.1 ko i) ∧ ∀ i, n ≤ i → g i = x.1 (kc + 1) i) → W p l e (rF 0 0) s m [.ref (ad kc), .ref (ad ko)].toArray below meth c H locs 0 0 Q (F0 m 2 ls []) := by
    intro d2
    induction d2 using Nat.strongRecOn with
    | ind d2 ih =>
      intro n y H locs ls hd hl hP hS hinv
      refine lv_iload_n hx hb mD_Ce_addRow_2 rfl (lv_at hl 0 rfl) ?_
      refine lv_bipush (v := nI 9) hx hb mD_Ce_addRow_3 (by decide) ?_
      refine lv_icmp_ge (tgt := 26) hx hb mD_Ce_addRow_5 rfl (fun hc => ?_) (fun hc => ?_)
      · skip
        have hn : n = 9 := by have := ts_ge (by omega) (by omega) hc; omega
        subst hn
        subst hQ
        exact gw_vret hx hb hr hlocks hP hS (by obtain ⟨g, hg, h1, _⟩ := hinv; exact ⟨g, hg, h1⟩) mD_Ce_addRow_26 (Nat.zero_le _) (Nat.zero_le _)
      · skip
        have hn_n : n < 9 := ts_lt (by omega) (by omega) hc
        refine lv_aload_n hx hb mD_Ce_addRow_8 rfl (lv_at hl 1 rfl) ?_
        refine t_get (C := cN_Ce) (T := cF_Ce) (N := 4) (ci := 0) hx hb htw wU_Ce hown hK hP kc (tCe_lt hkc) (tE_cell hkc) rfl 0 (by decide) rfl ww_122 rfl mD_Ce_addRow_9 ?_
        refine lv_iload_n hx hb mD_Ce_addRow_12 rfl (lv_at hl 0 rfl) ?_
        refine lv_dup2_11 hx hb mD_Ce_addRow_13 rfl rfl ?_
        refine t_iald hx hb hK hP ((kc + 1)) 9 (tRow_lt (tCe_row hkc)) (tE_row (tCe_row hkc)) n rfl (by omega) (by decide) mD_Ce_addRow_14 ?_
        refine lv_aload_n hx hb mD_Ce_addRow_15 rfl (lv_at hl 2 rfl) ?_
        refine lv_iload_n hx hb mD_Ce_addRow_16 rfl (lv_at hl 0 rfl) ?_
        refine t_iald hx hb hK hP ko 9 (tRow_lt hko) (tE_row hko) n rfl (by omega) (by decide) mD_Ce_addRow_17 ?_
        refine lv_iadd hx hb mD_Ce_addRow_18 ?_
        refine t_iast hx hb hK hI hA hP hS ((kc + 1)) 9 (tRow_lt (tCe_row hkc)) (fun _ => tE_row (tCe_row hkc)) n rfl (by omega) (by decide) mD_Ce_addRow_19 (fun H locs hP hS => ?_)
        obtain ⟨x1, hx1⟩ : ∃ z, z = tU y ((kc + 1)) (upd (y.1 ((kc + 1))) n ((y.1 ((kc + 1)) n) + (y.1 ko n))) := ⟨_, rfl⟩
        rw [← hx1] at hP
        refine lv_iinc (k := 0) (v := nI (n + 1)) (lv' := [(2, .int (nI (n + 1))), (0, .ref (ad kc)), (1, .ref (ad ko))]) hx hb mD_Ce_addRow_20 hl rfl (by rw [lit1, nI_1]) (by decide) rfl (fun ls hl => ?_)
        refine lv_goto (tgt := 2) hx hb mD_Ce_addRow_23 rfl ?_
        exact ih (d2 - 1) (by omega) (n + 1) x1 _ _ _ (by omega) (lv_sub hl [0, 1, 2] rfl) hP hS (by obtain ⟨g, hg, h1, h2⟩ := hinv; have ed : y.1 (kc + 1) = g := (by rw [hg, va_up_self]); have er : y.1 ko = x.1 ko := (by rw [hg, va_up_ne _ _ hne]); exact ⟨upd g n (g n + x.1 ko n), by rw [hx1, tU_f, ed, er, hg, bx_uu], fun i hi => by by_cases q : i = n; rw [q, pk_us, h2 n (Nat.le_refl _)]; rw [pk_un q]; exact h1 i (by omega), fun i hi => by rw [pk_un (by omega)]; exact h2 i (by omega)⟩)
  exact loop 9 0 x _ _ _ (by omega) hl hP hS ⟨x.1 (kc + 1), va_up_same.symm, fun _ h => absurd h (Nat.not_lt_zero _), fun _ _ => rfl⟩

set_option maxHeartbeats 4000000 in
set_option maxRecDepth 100000 in
theorem k_Ce_multiply (l : Launch) (D : va_G) (ct : Nat → ClassId) (ad : Nat → Nat) (hI : gw_inj 424 ad) (x : tS) {kc : Nat} (hkc : tCe kc) (tm : Int32) : gMv l mY_Ce_multiply mB_Ce_multiply 3 none (rF 0 0) D (tT ct) gZ0 424 ad (tD ct ad) [.ref (ad kc), .int tm] x (fun x' => ∃ g, x'.1 = va_up x.1 (kc + 1) g ∧ ∀ i, i < 9 → g i = x.1 (kc + 1) i * tm) := by
  refine gMv_enter (by decide) (Nat.le_of_ble_eq_true rfl) ?_
  intro p e s m below meth c ls hx hb hr htw hown hlocks hml hl hP hK hZ hS
  have hA : ∀ k, k < 424 → gA 424 ad s.heap.size (ad k) := fun _ h => gA_in h
  have hl : lv_has ls 3 [(0, .ref (ad kc)), (1, .int tm)] := hl
  refine gw_nmQ (fun Q hQ => ?_)
  refine lv_iconst (v := nI 0) hx hb mD_Ce_multiply_0 (by decide) ?_
  refine lv_istore_n (lv' := [(2, .int (nI 0)), (0, .ref (ad kc)), (1, .int tm)]) hx hb mD_Ce_multiply_1 rfl hl (by decide) rfl (fun ls hl => ?_)
  have loop : ∀ (d2 : Nat) (n : Nat) (y : tS) (H : Heap) (locs : List Loc) (ls : Array Slot), n + d2 = 9 → lv_has ls 3 [(2, .int (nI n)), (0, .ref (ad kc)), (1, .int tm)] → va_P D cL (gw 424 ad (tD ct ad y)) H → va_S (gA 424 ad s.heap.size) s.heap H locs → (∃ g, y.1 = va_up x.1 (kc + 1) g ∧ (∀ i, i < n → g i = x.1 (kc + 1) i * tm) ∧ ∀ i, n ≤ i → g i = x.1 (kc + 1) i) → W p l e (rF 0 0) s m [.ref (ad kc), .int tm].toArray below meth c H locs 0 0 Q (F0 m 2 ls []) := by
    intro d2
    induction d2 using Nat.strongRecOn with
    | ind d2 ih =>
      intro n y H locs ls hd hl hP hS hinv
      refine lv_iload_n hx hb mD_Ce_multiply_2 rfl (lv_at hl 0 rfl) ?_
      refine lv_bipush (v := nI 9) hx hb mD_Ce_multiply_3 (by decide) ?_
      refine lv_icmp_ge (tgt := 24) hx hb mD_Ce_multiply_5 rfl (fun hc => ?_) (fun hc => ?_)
      · skip
        have hn : n = 9 := by have := ts_ge (by omega) (by omega) hc; omega
        subst hn
        subst hQ
        exact gw_vret hx hb hr hlocks hP hS (by obtain ⟨g, hg, h1, _⟩ := hinv; exact ⟨g, hg, h1⟩) mD_Ce_multiply_24 (Nat.zero_le _) (Nat.zero_le _)
      · skip
        have hn_n : n < 9 := ts_lt (by omega) (by omega) hc
        refine lv_aload_n hx hb mD_Ce_multiply_8 rfl (lv_at hl 1 rfl) ?_
        refine t_get (C := cN_Ce) (T := cF_Ce) (N := 4) (ci := 0) hx hb htw wU_Ce hown hK hP kc (tCe_lt hkc) (tE_cell hkc) rfl 0 (by decide) rfl ww_122 rfl mD_Ce_multiply_9 ?_
        refine lv_iload_n hx hb mD_Ce_multiply_12 rfl (lv_at hl 0 rfl) ?_
        refine lv_dup2_11 hx hb mD_Ce_multiply_13 rfl rfl ?_
        refine t_iald hx hb hK hP ((kc + 1)) 9 (tRow_lt (tCe_row hkc)) (tE_row (tCe_row hkc)) n rfl (by omega) (by decide) mD_Ce_multiply_14 ?_
        refine lv_iload_n hx hb mD_Ce_multiply_15 rfl (lv_at hl 2 rfl) ?_
        refine lv_imul hx hb mD_Ce_multiply_16 ?_
        refine t_iast hx hb hK hI hA hP hS ((kc + 1)) 9 (tRow_lt (tCe_row hkc)) (fun _ => tE_row (tCe_row hkc)) n rfl (by omega) (by decide) mD_Ce_multiply_17 (fun H locs hP hS => ?_)
        obtain ⟨x1, hx1⟩ : ∃ z, z = tU y ((kc + 1)) (upd (y.1 ((kc + 1))) n ((y.1 ((kc + 1)) n) * tm)) := ⟨_, rfl⟩
        rw [← hx1] at hP
        refine lv_iinc (k := 0) (v := nI (n + 1)) (lv' := [(2, .int (nI (n + 1))), (0, .ref (ad kc)), (1, .int tm)]) hx hb mD_Ce_multiply_18 hl rfl (by rw [lit1, nI_1]) (by decide) rfl (fun ls hl => ?_)
        refine lv_goto (tgt := 2) hx hb mD_Ce_multiply_21 rfl ?_
        exact ih (d2 - 1) (by omega) (n + 1) x1 _ _ _ (by omega) (lv_sub hl [0, 1, 2] rfl) hP hS (by obtain ⟨g, hg, h1, h2⟩ := hinv; have ed : y.1 (kc + 1) = g := (by rw [hg, va_up_self]); exact ⟨upd g n (g n * tm), by rw [hx1, tU_f, ed, hg, bx_uu], fun i hi => by by_cases q : i = n; rw [q, pk_us, h2 n (Nat.le_refl _)]; rw [pk_un q]; exact h1 i (by omega), fun i hi => by rw [pk_un (by omega)]; exact h2 i (by omega)⟩)
  exact loop 9 0 x _ _ _ (by omega) hl hP hS ⟨x.1 (kc + 1), va_up_same.symm, fun _ h => absurd h (Nat.not_lt_zero _), fun _ _ => rfl⟩

set_option maxHeartbeats 4000000 in
set_option maxRecDepth 100000 in
theorem k_Ce_becomeLike (l : Launch) (D : va_G) (ct : Nat → ClassId) (ad : Nat → Nat) (hI : gw_inj 424 ad) (x : tS) {kc ko : Nat} (hkc : tCe kc) (hko : tCe ko) (hne : kc ≠ ko) (hdue : tp_bit (x.1 ko 2)) : gMv l mY_Ce_becomeLike mB_Ce_becomeLike 2 none (rF 1 64) D (tT ct) gZ0 424 ad (tD ct ad) [.ref (ad kc), .ref (ad ko)] x (fun x' => ∃ g, x'.1 = va_up (va_up x.1 (kc + 1) g) kc (upd (upd (x.1 kc) 1 (x.1 ko 1)) 2 (x.1 ko 2)) ∧ ∀ i, i < 9 → g i = x.1 (ko + 1) i) := by
  refine gMv_enter (by decide) (Nat.le_of_ble_eq_true rfl) ?_
  intro p e s m below meth c ls hx hb hr htw hown hlocks hml hl hP hK hZ hS
  have hA : ∀ k, k < 424 → gA 424 ad s.heap.size (ad k) := fun _ h => gA_in h
  have hl : lv_has ls 2 [(0, .ref (ad kc)), (1, .ref (ad ko))] := hl
  refine lv_aload_n hx hb mD_Ce_becomeLike_0 rfl (lv_at hl 1 rfl) ?_
  refine t_get (C := cN_Ce) (T := cF_Ce) (N := 4) (ci := 0) hx hb htw wU_Ce hown hK hP ko (tCe_lt hko) (tE_cell hko) rfl 0 (by decide) rfl ww_122 rfl mD_Ce_becomeLike_1 ?_
  refine lv_iconst (v := nI 0) hx hb mD_Ce_becomeLike_4 (by decide) ?_
  refine lv_aload_n hx hb mD_Ce_becomeLike_5 rfl (lv_at hl 0 rfl) ?_
  refine t_get (C := cN_Ce) (T := cF_Ce) (N := 4) (ci := 0) hx hb htw wU_Ce hown hK hP kc (tCe_lt hkc) (tE_cell hkc) rfl 0 (by decide) rfl ww_122 rfl mD_Ce_becomeLike_6 ?_
  refine lv_iconst (v := nI 0) hx hb mD_Ce_becomeLike_9 (by decide) ?_
  refine lv_bipush (v := nI 9) hx hb mD_Ce_becomeLike_10 (by decide) ?_
  refine t_copy9 (kf := ko + 1) (kt := kc + 1) hx hb (hml.trans hl.1.symm) hown htw hK hI hA hP hS (tCe_row hko) (tCe_row hkc) (by decide) (by decide) mD_Ce_becomeLike_12 (fun H locs hP hS => ?_)
  obtain ⟨x1, hx1⟩ : ∃ z, z = tU x (kc + 1) (va_cpy (x.1 (ko + 1)) (x.1 (kc + 1)) 0 0 9) := ⟨_, rfl⟩
  rw [← hx1] at hP
  have e1 : ∀ k, k ≠ kc + 1 → x1.1 k = x.1 k := fun k h => by rw [hx1, tU_n h]
  refine lv_aload_n hx hb mD_Ce_becomeLike_15 rfl (lv_at hl 0 rfl) ?_
  refine lv_aload_n hx hb mD_Ce_becomeLike_16 rfl (lv_at hl 1 rfl) ?_
  refine t_get (C := cN_Ce) (T := cF_Ce) (N := 4) (ci := 0) hx hb htw wU_Ce hown hK hP ko (tCe_lt hko) (tE_cell hko) rfl 1 (by decide) rfl ww_124 rfl mD_Ce_becomeLike_17 ?_
  refine t_put (C := cN_Ce) (T := cF_Ce) (N := 4) (ci := 0) hx hb htw wU_Ce cT_Ce cO_Ce cM_Ce hown hK hI hA hP hS kc (tCe_lt hkc) (tE_cell hkc) rfl 1 (by decide) rfl ww_124 rfl rfl rfl (Nat.le_of_ble_eq_true rfl) (by rw [tE_cell hkc]; rfl) mD_Ce_becomeLike_20 (fun H locs hP hS => ?_)
  obtain ⟨x2, hx2⟩ : ∃ z, z = tU x1 kc (upd (x1.1 kc) 1 (x1.1 ko 1)) := ⟨_, rfl⟩
  rw [← hx2] at hP
  refine lv_aload_n hx hb mD_Ce_becomeLike_23 rfl (lv_at hl 0 rfl) ?_
  refine lv_aload_n hx hb mD_Ce_becomeLike_24 rfl (lv_at hl 1 rfl) ?_
  refine t_get (C := cN_Ce) (T := cF_Ce) (N := 4) (ci := 0) hx hb htw wU_Ce hown hK hP ko (tCe_lt hko) (tE_cell hko) rfl 2 (by decide) rfl ww_127 rfl mD_Ce_becomeLike_25 ?_
  refine t_put (C := cN_Ce) (T := cF_Ce) (N := 4) (ci := 0) hx hb htw wU_Ce cT_Ce cO_Ce cM_Ce hown hK hI hA hP hS kc (tCe_lt hkc) (tE_cell hkc) rfl 2 (by decide) rfl ww_127 rfl (tb_nar (by rw [hx2, tU_n hne.symm, e1 _ (tb_cr hko hkc)]; exact hdue)).1 (tb_nar (by rw [hx2, tU_n hne.symm, e1 _ (tb_cr hko hkc)]; exact hdue)).2 (Nat.le_of_ble_eq_true rfl) (by rw [tE_cell hkc]; rfl) mD_Ce_becomeLike_28 (fun H locs hP hS => ?_)
  obtain ⟨x3, hx3⟩ : ∃ z, z = tU x2 kc (upd (x2.1 kc) 2 (x2.1 ko 2)) := ⟨_, rfl⟩
  rw [← hx3] at hP
  exact gw_vret hx hb hr hlocks hP hS (⟨va_cpy (x.1 (ko + 1)) (x.1 (kc + 1)) 0 0 9, by rw [hx3, tU_f, hx2, tU_f, hx1, tU_f, bx_uu, va_up_self, va_up_ne _ _ (tb_cr hkc hkc), va_up_ne _ _ (tb_cr hko hkc), va_up_ne _ _ hne.symm, va_up_ne _ _ (tb_cr hko hkc)], fun i hi => by unfold va_cpy; rw [if_pos (by omega), show 0 + (i - 0) = i by omega]⟩) mD_Ce_becomeLike_31 (Nat.zero_le _) (Nat.zero_le _)

set_option maxHeartbeats 4000000 in
set_option maxRecDepth 100000 in
theorem k_Ce_becomeOpposite (l : Launch) (D : va_G) (ct : Nat → ClassId) (ad : Nat → Nat) (hI : gw_inj 424 ad) (x : tS) {kc ko : Nat} (hkc : tCe kc) (hko : tCe ko) (hne : kc ≠ ko) (hdue : tp_bit (x.1 ko 2)) : gMv l mY_Ce_becomeOpposite mB_Ce_becomeOpposite 2 none (rF 2 85) D (tT ct) gZ0 424 ad (tD ct ad) [.ref (ad kc), .ref (ad ko)] x (fun x' => ∃ g, x'.1 = va_up (va_up x.1 (kc + 1) g) kc (upd (upd (x.1 kc) 1 (x.1 ko 1)) 2 (if x.1 ko 2 = 0 then 1 else 0)) ∧ ∀ i, i < 9 → g i = x.1 (ko + 1) i * (-1)) := by
  refine gMv_enter (by decide) (Nat.le_of_ble_eq_true rfl) ?_
  intro p e s m below meth c ls hx hb hr htw hown hlocks hml hl hP hK hZ hS
  have hA : ∀ k, k < 424 → gA 424 ad s.heap.size (ad k) := fun _ h => gA_in h
  have hl : lv_has ls 2 [(0, .ref (ad kc)), (1, .ref (ad ko))] := hl
  refine lv_aload_n hx hb mD_Ce_becomeOpposite_0 rfl (lv_at hl 0 rfl) ?_
  refine lv_aload_n hx hb mD_Ce_becomeOpposite_1 rfl (lv_at hl 1 rfl) ?_
  refine gc_Vv (As := [.ref (ad ko)]) (rest := []) hx hb hml hown htw hK hP hS kc (k_Ce_becomeLike l D ct ad hI x (kc := kc) (ko := ko) hkc hko hne hdue) gZ0_ok (fun _ _ _ => trivial) (gA_mono hS.1) (tCe_lt hkc) (tE_cell hkc) rfl ww_420 ww_421 ww_422 ww_29 wC_Ce_becomeLike mP_Ce_becomeLike (by decide) rfl hl.1 rfl (Nat.le_of_ble_eq_true rfl) mD_Ce_becomeOpposite_2 ⟨Nat.le_of_ble_eq_true rfl, Nat.le_of_ble_eq_true rfl⟩ (fun x1 H locs hp1 hP _ _ hS => ?_)
  obtain ⟨g, eg, hg⟩ := hp1
  refine lv_aload_n hx hb mD_Ce_becomeOpposite_5 rfl (lv_at hl 0 rfl) ?_
  refine lv_iconst (v := (-1)) hx hb mD_Ce_becomeOpposite_6 (by decide) ?_
  refine gc_Vv (As := [.int ((-1))]) (rest := []) hx hb hml hown htw hK hP hS kc (k_Ce_multiply l D ct ad hI x1 (kc := kc) hkc (-1)) gZ0_ok (fun _ _ _ => trivial) (gA_mono hS.1) (tCe_lt hkc) (tE_cell hkc) rfl ww_427 ww_428 ww_429 ww_29 wC_Ce_multiply mP_Ce_multiply (by decide) rfl hl.1 rfl (Nat.le_of_ble_eq_true rfl) mD_Ce_becomeOpposite_7 ⟨Nat.le_of_ble_eq_true rfl, Nat.le_of_ble_eq_true rfl⟩ (fun x3 H locs hp3 hP _ _ hS => ?_)
  obtain ⟨g2, eg2, hg2⟩ := hp3
  have e2 : x3.1 = va_up (va_up x.1 (kc + 1) g2) kc (upd (upd (x.1 kc) 1 (x.1 ko 1)) 2 (x.1 ko 2)) := by rw [eg2, eg, tb_up2 (tb_cr hkc hkc).symm]
  have eo : x3.1 ko = x.1 ko := by rw [e2, va_up_ne _ _ hne.symm, va_up_ne _ _ (tb_cr hko hkc)]
  have hg3 : ∀ i, i < 9 → g2 i = x.1 (ko + 1) i * (-1) := fun i hi => by rw [hg2 i hi, eg, va_up_ne _ _ (tb_cr hkc hkc).symm, va_up_self, hg i hi]
  refine lv_aload_n hx hb mD_Ce_becomeOpposite_10 rfl (lv_at hl 0 rfl) ?_
  refine lv_aload_n hx hb mD_Ce_becomeOpposite_11 rfl (lv_at hl 1 rfl) ?_
  refine t_get (C := cN_Ce) (T := cF_Ce) (N := 4) (ci := 0) hx hb htw wU_Ce hown hK hP ko (tCe_lt hko) (tE_cell hko) rfl 2 (by decide) rfl ww_127 rfl mD_Ce_becomeOpposite_12 ?_
  refine lv_if_ne (tgt := 22) hx hb mD_Ce_becomeOpposite_15 rfl (fun hc => ?_) (fun hc => ?_)
  · skip
    rw [eo] at hc
    refine lv_iconst (v := nI 0) hx hb mD_Ce_becomeOpposite_22 (by decide) ?_
    refine t_put (C := cN_Ce) (T := cF_Ce) (N := 4) (ci := 0) hx hb htw wU_Ce cT_Ce cO_Ce cM_Ce hown hK hI hA hP hS kc (tCe_lt hkc) (tE_cell hkc) rfl 2 (by decide) rfl ww_127 rfl rfl rfl (Nat.le_of_ble_eq_true rfl) (by rw [tE_cell hkc]; rfl) mD_Ce_becomeOpposite_23 (fun H locs hP hS => ?_)
    obtain ⟨x5, hx5⟩ : ∃ z, z = tU x3 kc (upd (x3.1 kc) 2 (nI 0)) := ⟨_, rfl⟩
    rw [← hx5] at hP
    exact gw_vret hx hb hr hlocks hP hS (⟨g2, by rw [hx5, tU_f, e2, bx_uu, va_up_self]; rw [tb_uu]; (first | rw [if_pos hc] | rw [if_neg hc]); rfl, hg3⟩) mD_Ce_becomeOpposite_26 (Nat.zero_le _) (Nat.zero_le _)
  · skip
    rw [eo] at hc
    refine lv_iconst (v := nI 1) hx hb mD_Ce_becomeOpposite_18 (by decide) ?_
    refine lv_goto (tgt := 23) hx hb mD_Ce_becomeOpposite_19 rfl ?_
    refine t_put (C := cN_Ce) (T := cF_Ce) (N := 4) (ci := 0) hx hb htw wU_Ce cT_Ce cO_Ce cM_Ce hown hK hI hA hP hS kc (tCe_lt hkc) (tE_cell hkc) rfl 2 (by decide) rfl ww_127 rfl rfl rfl (Nat.le_of_ble_eq_true rfl) (by rw [tE_cell hkc]; rfl) mD_Ce_becomeOpposite_23 (fun H locs hP hS => ?_)
    obtain ⟨x6, hx6⟩ : ∃ z, z = tU x3 kc (upd (x3.1 kc) 2 (nI 1)) := ⟨_, rfl⟩
    rw [← hx6] at hP
    exact gw_vret hx hb hr hlocks hP hS (⟨g2, by rw [hx6, tU_f, e2, bx_uu, va_up_self]; rw [tb_uu]; (first | rw [if_pos hc] | rw [if_neg hc]); rfl, hg3⟩) mD_Ce_becomeOpposite_26 (Nat.zero_le _) (Nat.zero_le _)

/-- the bit a is there -/
def tHas (v : Nat → Nat → Int32) (a : Int32) : Prop := ∃ q, q < 120 ∧ a = nI q ∧ v (110 + 2 * q) 3 ≠ 0
theorem tHas_i {v : Nat → Nat → Int32} {q : Nat} (hq : q < 120) : tHas v (nI q) ↔ v (110 + 2 * q) 3 ≠ 0 := by
  constructor
  · rintro ⟨j, hj, e, h⟩
    rw [(nI_eq (by omega) (by omega)).mp e]
    exact h
  · intro h
    exact ⟨q, hq, rfl, h⟩
theorem tHas_lt {v : Nat → Nat → Int32} {a : Int32} (h : a < 0) : ¬ tHas v a := by
  rintro ⟨j, hj, rfl, -⟩
  exact nI_pos (by omega) h
theorem tHas_ge {v : Nat → Nat → Int32} {a : Int32} (h : nI 120 ≤ a) : ¬ tHas v a := by
  rintro ⟨j, hj, rfl, -⟩
  have := (nI_leI (by omega) (by omega)).mp h
  omega
def tGB (v : Nat → Nat → Int32) : Nat → Int32
  | 0 => 0
  | n + 1 => if v (110 + 2 * n) 3 ≠ 0 ∧ ¬ v (110 + 2 * n) 1 ≤ tGB v n then v (110 + 2 * n) 1 else tGB v n

set_option maxHeartbeats 4000000 in
set_option maxRecDepth 100000 in
theorem k_Le_holds (l : Launch) (D : va_G) (ct : Nat → ClassId) (ad : Nat → Nat) (hI : gw_inj 424 ad) (x : tS) (a : Int32) : gMi l mY_Le_holds mB_Le_holds 2 (some .boolean) (rF 0 0) D (tT ct) gZ0 424 ad (tD ct ad) [.ref (ad 108), .int a] x (fun r x' => x' = x ∧ ((r = nI 1 ∧ tHas x.1 a) ∨ (r = nI 0 ∧ ¬ tHas x.1 a))) := by
  refine gMi_enter (by decide) (Nat.le_of_ble_eq_true rfl) ?_
  intro p e s m below meth c ls hx hb hr htw hown hlocks hml hl hP hK hZ hS
  have hA : ∀ k, k < 424 → gA 424 ad s.heap.size (ad k) := fun _ h => gA_in h
  have hl : lv_has ls 2 [(0, .ref (ad 108)), (1, .int a)] := hl
  refine lv_iload_n hx hb mD_Le_holds_0 rfl (lv_at hl 1 rfl) ?_
  refine lv_if_lt (tgt := 26) hx hb mD_Le_holds_1 rfl (fun h0 => ?_) (fun h0 => ?_)
  · skip
    refine lv_iconst (v := nI 0) hx hb mD_Le_holds_26 (by decide) ?_
    exact gw_zret hx hb hr hlocks hP hS rfl (⟨rfl, by first | exact Or.inr ⟨rfl, tHas_lt h0⟩ | exact Or.inr ⟨rfl, tHas_ge h1⟩ | exact Or.inr ⟨rfl, fun z => (tHas_i hq).mp z h2⟩ | exact Or.inl ⟨rfl, (tHas_i hq).mpr h2⟩⟩) mD_Le_holds_27 (Nat.zero_le _) (Nat.zero_le _)
  · skip
    refine lv_iload_n hx hb mD_Le_holds_4 rfl (lv_at hl 1 rfl) ?_
    refine lv_bipush (v := nI 120) hx hb mD_Le_holds_5 (by decide) ?_
    refine lv_icmp_ge (tgt := 26) hx hb mD_Le_holds_7 rfl (fun h1 => ?_) (fun h1 => ?_)
    · skip
      refine lv_iconst (v := nI 0) hx hb mD_Le_holds_26 (by decide) ?_
      exact gw_zret hx hb hr hlocks hP hS rfl (⟨rfl, by first | exact Or.inr ⟨rfl, tHas_lt h0⟩ | exact Or.inr ⟨rfl, tHas_ge h1⟩ | exact Or.inr ⟨rfl, fun z => (tHas_i hq).mp z h2⟩ | exact Or.inl ⟨rfl, (tHas_i hq).mpr h2⟩⟩) mD_Le_holds_27 (Nat.zero_le _) (Nat.zero_le _)
    · skip
      obtain ⟨q, hq, hqa⟩ := tb_idx (by decide) h0 h1
      subst hqa
      refine lv_aload_n hx hb mD_Le_holds_10 rfl (lv_at hl 0 rfl) ?_
      refine t_get (C := cN_Le) (T := cF_Le) (N := 2) (ci := 2) hx hb htw wU_Le hown hK hP 108 (by decide) rfl rfl 0 (by decide) rfl ww_139 rfl mD_Le_holds_11 ?_
      refine lv_iload_n hx hb mD_Le_holds_14 rfl (lv_at hl 1 rfl) ?_
      refine t_aldq hx hb hK hP 109 120 (by decide) rfl q rfl hq (by decide) rfl mD_Le_holds_15 ?_
      refine t_get (C := cN_Ce) (T := cF_Ce) (N := 4) (ci := 0) hx hb htw wU_Ce hown hK hP ((110 + 2 * q)) (tCe_lt (tCe_led (c := q) (by omega))) (tE_cell (tCe_led (c := q) (by omega))) rfl 3 (by decide) rfl ww_129 rfl mD_Le_holds_16 ?_
      refine lv_if_eq (tgt := 26) hx hb mD_Le_holds_19 rfl (fun h2 => ?_) (fun h2 => ?_)
      · skip
        refine lv_iconst (v := nI 0) hx hb mD_Le_holds_26 (by decide) ?_
        exact gw_zret hx hb hr hlocks hP hS rfl (⟨rfl, by first | exact Or.inr ⟨rfl, tHas_lt h0⟩ | exact Or.inr ⟨rfl, tHas_ge h1⟩ | exact Or.inr ⟨rfl, fun z => (tHas_i hq).mp z h2⟩ | exact Or.inl ⟨rfl, (tHas_i hq).mpr h2⟩⟩) mD_Le_holds_27 (Nat.zero_le _) (Nat.zero_le _)
      · skip
        refine lv_iconst (v := nI 1) hx hb mD_Le_holds_22 (by decide) ?_
        refine lv_goto (tgt := 27) hx hb mD_Le_holds_23 rfl ?_
        exact gw_zret hx hb hr hlocks hP hS rfl (⟨rfl, by first | exact Or.inr ⟨rfl, tHas_lt h0⟩ | exact Or.inr ⟨rfl, tHas_ge h1⟩ | exact Or.inr ⟨rfl, fun z => (tHas_i hq).mp z h2⟩ | exact Or.inl ⟨rfl, (tHas_i hq).mpr h2⟩⟩) mD_Le_holds_27 (Nat.zero_le _) (Nat.zero_le _)

set_option maxHeartbeats 4000000 in
set_option maxRecDepth 100000 in
theorem k_Le_leastFree (l : Launch) (D : va_G) (ct : Nat → ClassId) (ad : Nat → Nat) (hI : gw_inj 424 ad) (x : tS)  : gMi l mY_Le_leastFree mB_Le_leastFree 2 (some .int) (rF 0 0) D (tT ct) gZ0 424 ad (tD ct ad) [.ref (ad 108)] x (fun r x' => x' = x ∧ ((∃ q, q < 120 ∧ r = nI q ∧ x.1 (110 + 2 * q) 3 = 0 ∧ ∀ j, j < q → x.1 (110 + 2 * j) 3 ≠ 0) ∨ (r = -1 ∧ ∀ j, j < 120 → x.1 (110 + 2 * j) 3 ≠ 0))) := by
  refine gMi_enter (by decide) (Nat.le_of_ble_eq_true rfl) ?_
  intro p e s m below meth c ls hx hb hr htw hown hlocks hml hl hP hK hZ hS
  have hA : ∀ k, k < 424 → gA 424 ad s.heap.size (ad k) := fun _ h => gA_in h
  have hl : lv_has ls 2 [(0, .ref (ad 108))] := hl
  refine gw_nmQ (fun Q hQ => ?_)
  refine lv_iconst (v := nI 0) hx hb mD_Le_leastFree_0 (by decide) ?_
  refine lv_istore_n (lv' := [(1, .int (nI 0)), (0, .ref (ad 108))]) hx hb mD_Le_leastFree_1 rfl hl (by decide) rfl (fun ls hl => ?_)
  have loop : ∀ (d2 : Nat) (n : Nat) (H : Heap) (locs : List Loc) (ls : Array Slot), n + d2 = 120 → lv_has ls 2 [(1, .int (nI n)), (0, .ref (ad 108))] → va_P D cL (gw 424 ad (tD ct ad x)) H → va_S (gA 424 ad s.heap.size) s.heap H locs → (∀ j, j < n → x.1 (110 + 2 * j) 3 ≠ 0) → W p l e (rF 0 0) s m [.ref (ad 108)].toArray below meth c H locs 0 0 Q (F0 m 2 ls []) := by
    intro d2
    induction d2 using Nat.strongRecOn with
    | ind d2 ih =>
      intro n H locs ls hd hl hP hS hinv
      refine lv_iload_n hx hb mD_Le_leastFree_2 rfl (lv_at hl 0 rfl) ?_
      refine lv_bipush (v := nI 120) hx hb mD_Le_leastFree_3 (by decide) ?_
      refine lv_icmp_ge (tgt := 28) hx hb mD_Le_leastFree_5 rfl (fun hc => ?_) (fun hc => ?_)
      · skip
        have hn : n = 120 := by have := ts_ge (by omega) (by omega) hc; omega
        subst hn
        refine lv_iconst (v := (-1)) hx hb mD_Le_leastFree_28 (by decide) ?_
        subst hQ
        exact gw_iret hx hb hr hlocks hP hS (⟨rfl, Or.inr ⟨rfl, hinv⟩⟩) mD_Le_leastFree_29 (Nat.zero_le _) (Nat.zero_le _)
      · skip
        have hn_n : n < 120 := ts_lt (by omega) (by omega) hc
        refine lv_aload_n hx hb mD_Le_leastFree_8 rfl (lv_at hl 1 rfl) ?_
        refine t_get (C := cN_Le) (T := cF_Le) (N := 2) (ci := 2) hx hb htw wU_Le hown hK hP 108 (by decide) rfl rfl 0 (by decide) rfl ww_139 rfl mD_Le_leastFree_9 ?_
        refine lv_iload_n hx hb mD_Le_leastFree_12 rfl (lv_at hl 0 rfl) ?_
        refine t_aldq hx hb hK hP 109 120 (by decide) rfl n rfl (by omega) (by decide) rfl mD_Le_leastFree_13 ?_
        refine t_get (C := cN_Ce) (T := cF_Ce) (N := 4) (ci := 0) hx hb htw wU_Ce hown hK hP ((110 + 2 * n)) (tCe_lt (tCe_led (c := n) (by omega))) (tE_cell (tCe_led (c := n) (by omega))) rfl 3 (by decide) rfl ww_129 rfl mD_Le_leastFree_14 ?_
        refine lv_if_ne (tgt := 22) hx hb mD_Le_leastFree_17 rfl (fun h2 => ?_) (fun h2 => ?_)
        · skip
          refine lv_iinc (k := 0) (v := nI (n + 1)) (lv' := [(1, .int (nI (n + 1))), (0, .ref (ad 108))]) hx hb mD_Le_leastFree_22 hl rfl (by rw [lit1, nI_1]) (by decide) rfl (fun ls hl => ?_)
          refine lv_goto (tgt := 2) hx hb mD_Le_leastFree_25 rfl ?_
          exact ih (d2 - 1) (by omega) (n + 1) _ _ _ (by omega) (lv_sub hl [0, 1] rfl) hP hS (fun j hj => by by_cases q : j = n; rw [q]; exact h2; exact hinv j (by omega))
        · skip
          refine lv_iload_n hx hb mD_Le_leastFree_20 rfl (lv_at hl 0 rfl) ?_
          subst hQ
          exact gw_iret hx hb hr hlocks hP hS (⟨rfl, Or.inl ⟨n, hn_n, rfl, h2, hinv⟩⟩) mD_Le_leastFree_21 (Nat.zero_le _) (Nat.zero_le _)
  exact loop 120 0 _ _ _ (by omega) hl hP hS (fun _ h => absurd h (Nat.not_lt_zero _))

set_option maxHeartbeats 4000000 in
set_option maxRecDepth 100000 in
theorem k_Le_take (l : Launch) (D : va_G) (ct : Nat → ClassId) (ad : Nat → Nat) (hI : gw_inj 424 ad) (x : tS) {q : Nat} (hq : q < 120) : gMr l mY_Le_take mB_Le_take 3 (some (.object "TorusGates$Cell")) (rF 0 0) D (tT ct) gZ0 424 ad (tD ct ad) [.ref (ad 108), .int (nI q)] x (fun a x' => a = ad (110 + 2 * q) ∧ x'.1 = va_up (va_up x.1 (110 + 2 * q) (upd (x.1 (110 + 2 * q)) 3 1)) 108 (upd (x.1 108) 1 (x.1 108 1 + 1))) := by
  refine gMr_enter (by decide) (Nat.le_of_ble_eq_true rfl) ?_
  intro p e s m below meth c ls hx hb hr htw hown hlocks hml hl hP hK hZ hS
  have hA : ∀ k, k < 424 → gA 424 ad s.heap.size (ad k) := fun _ h => gA_in h
  have hl : lv_has ls 3 [(0, .ref (ad 108)), (1, .int (nI q))] := hl
  refine lv_aload_n hx hb mD_Le_take_0 rfl (lv_at hl 0 rfl) ?_
  refine t_get (C := cN_Le) (T := cF_Le) (N := 2) (ci := 2) hx hb htw wU_Le hown hK hP 108 (by decide) rfl rfl 0 (by decide) rfl ww_139 rfl mD_Le_take_1 ?_
  refine lv_iload_n hx hb mD_Le_take_4 rfl (lv_at hl 1 rfl) ?_
  refine t_aldq hx hb hK hP 109 120 (by decide) rfl q rfl hq (by decide) rfl mD_Le_take_5 ?_
  refine lv_astore_n (lv' := [(2, .ref (ad ((110 + 2 * q)))), (0, .ref (ad 108)), (1, .int (nI q))]) hx hb mD_Le_take_6 rfl hl (by decide) rfl (fun ls hl => ?_)
  refine lv_aload_n hx hb mD_Le_take_7 rfl (lv_at hl 0 rfl) ?_
  refine lv_iconst (v := nI 1) hx hb mD_Le_take_8 (by decide) ?_
  refine t_put (C := cN_Ce) (T := cF_Ce) (N := 4) (ci := 0) hx hb htw wU_Ce cT_Ce cO_Ce cM_Ce hown hK hI hA hP hS ((110 + 2 * q)) (tCe_lt (tCe_led (c := q) (by omega))) (tE_cell (tCe_led (c := q) (by omega))) rfl 3 (by decide) rfl ww_129 rfl rfl rfl (Nat.le_of_ble_eq_true rfl) (by rw [tE_cell (tCe_led (c := q) (by omega))]; rfl) mD_Le_take_9 (fun H locs hP hS => ?_)
  obtain ⟨x1, hx1⟩ : ∃ z, z = tU x ((110 + 2 * q)) (upd (x.1 ((110 + 2 * q))) 3 (nI 1)) := ⟨_, rfl⟩
  rw [← hx1] at hP
  refine lv_aload_n hx hb mD_Le_take_12 rfl (lv_at hl 1 rfl) ?_
  refine lv_dup hx hb mD_Le_take_13 rfl ?_
  refine t_get (C := cN_Le) (T := cF_Le) (N := 2) (ci := 2) hx hb htw wU_Le hown hK hP 108 (by decide) rfl rfl 1 (by decide) rfl ww_141 rfl mD_Le_take_14 ?_
  refine lv_iconst (v := nI 1) hx hb mD_Le_take_17 (by decide) ?_
  refine lv_iadd hx hb mD_Le_take_18 ?_
  refine t_put (C := cN_Le) (T := cF_Le) (N := 2) (ci := 2) hx hb htw wU_Le cT_Le cO_Le cM_Le hown hK hI hA hP hS 108 (by decide) rfl rfl 1 (by decide) rfl ww_141 rfl rfl rfl (Nat.le_of_ble_eq_true rfl) rfl mD_Le_take_19 (fun H locs hP hS => ?_)
  obtain ⟨x2, hx2⟩ : ∃ z, z = tU x1 108 (upd (x1.1 108) 1 ((x1.1 108 1) + (nI 1))) := ⟨_, rfl⟩
  rw [← hx2] at hP
  refine lv_aload_n hx hb mD_Le_take_22 rfl (lv_at hl 0 rfl) ?_
  exact gw_aret hx hb hr hlocks hP hS (⟨rfl, by rw [hx2, tU_f, hx1, tU_f, va_up_ne _ _ (show (108 : Nat) ≠ 110 + 2 * q by omega)]; rfl⟩) mD_Le_take_23 (Nat.zero_le _) (Nat.zero_le _)

set_option maxHeartbeats 4000000 in
set_option maxRecDepth 100000 in
theorem k_Le_remove (l : Launch) (D : va_G) (ct : Nat → ClassId) (ad : Nat → Nat) (hI : gw_inj 424 ad) (x : tS) {kc : Nat} (hkc : tCe kc) : gMv l mY_Le_remove mB_Le_remove 2 none (rF 0 0) D (tT ct) gZ0 424 ad (tD ct ad) [.ref (ad 108), .ref (ad kc)] x (fun x' => x'.1 = va_up (va_up x.1 kc (upd (x.1 kc) 3 0)) 108 (upd (x.1 108) 1 (x.1 108 1 - 1))) := by
  refine gMv_enter (by decide) (Nat.le_of_ble_eq_true rfl) ?_
  intro p e s m below meth c ls hx hb hr htw hown hlocks hml hl hP hK hZ hS
  have hA : ∀ k, k < 424 → gA 424 ad s.heap.size (ad k) := fun _ h => gA_in h
  have hl : lv_has ls 2 [(0, .ref (ad 108)), (1, .ref (ad kc))] := hl
  refine lv_aload_n hx hb mD_Le_remove_0 rfl (lv_at hl 1 rfl) ?_
  refine lv_iconst (v := nI 0) hx hb mD_Le_remove_1 (by decide) ?_
  refine t_put (C := cN_Ce) (T := cF_Ce) (N := 4) (ci := 0) hx hb htw wU_Ce cT_Ce cO_Ce cM_Ce hown hK hI hA hP hS kc (tCe_lt hkc) (tE_cell hkc) rfl 3 (by decide) rfl ww_129 rfl rfl rfl (Nat.le_of_ble_eq_true rfl) (by rw [tE_cell hkc]; rfl) mD_Le_remove_2 (fun H locs hP hS => ?_)
  obtain ⟨x1, hx1⟩ : ∃ z, z = tU x kc (upd (x.1 kc) 3 (nI 0)) := ⟨_, rfl⟩
  rw [← hx1] at hP
  refine lv_aload_n hx hb mD_Le_remove_5 rfl (lv_at hl 0 rfl) ?_
  refine lv_dup hx hb mD_Le_remove_6 rfl ?_
  refine t_get (C := cN_Le) (T := cF_Le) (N := 2) (ci := 2) hx hb htw wU_Le hown hK hP 108 (by decide) rfl rfl 1 (by decide) rfl ww_141 rfl mD_Le_remove_7 ?_
  refine lv_iconst (v := nI 1) hx hb mD_Le_remove_10 (by decide) ?_
  refine lv_isub hx hb mD_Le_remove_11 ?_
  refine t_put (C := cN_Le) (T := cF_Le) (N := 2) (ci := 2) hx hb htw wU_Le cT_Le cO_Le cM_Le hown hK hI hA hP hS 108 (by decide) rfl rfl 1 (by decide) rfl ww_141 rfl rfl rfl (Nat.le_of_ble_eq_true rfl) rfl mD_Le_remove_12 (fun H locs hP hS => ?_)
  obtain ⟨x2, hx2⟩ : ∃ z, z = tU x1 108 (upd (x1.1 108) 1 ((x1.1 108 1) - (nI 1))) := ⟨_, rfl⟩
  rw [← hx2] at hP
  exact gw_vret hx hb hr hlocks hP hS (by rw [hx2, tU_f, hx1, tU_f, va_up_ne _ _ (tb_ck hkc).2.2.2.2.2.2.1.symm]; rfl) mD_Le_remove_15 (Nat.zero_le _) (Nat.zero_le _)

set_option maxHeartbeats 4000000 in
set_option maxRecDepth 100000 in
theorem k_Le_removeAll (l : Launch) (D : va_G) (ct : Nat → ClassId) (ad : Nat → Nat) (hI : gw_inj 424 ad) (x : tS)  : gMi l mY_Le_removeAll mB_Le_removeAll 3 (some .int) (rF 0 0) D (tT ct) gZ0 424 ad (tD ct ad) [.ref (ad 108)] x (fun r x' => r = x.1 108 1 ∧ (∀ j, j < 120 → x'.1 (110 + 2 * j) = upd (x.1 (110 + 2 * j)) 3 0) ∧ x'.1 108 = upd (x.1 108) 1 0 ∧ ∀ k, k ≠ 108 → (∀ j, j < 120 → k ≠ 110 + 2 * j) → x'.1 k = x.1 k) := by
  refine gMi_enter (by decide) (Nat.le_of_ble_eq_true rfl) ?_
  intro p e s m below meth c ls hx hb hr htw hown hlocks hml hl hP hK hZ hS
  have hA : ∀ k, k < 424 → gA 424 ad s.heap.size (ad k) := fun _ h => gA_in h
  have hl : lv_has ls 3 [(0, .ref (ad 108))] := hl
  refine gw_nmQ (fun Q hQ => ?_)
  refine lv_aload_n hx hb mD_Le_removeAll_0 rfl (lv_at hl 0 rfl) ?_
  refine t_get (C := cN_Le) (T := cF_Le) (N := 2) (ci := 2) hx hb htw wU_Le hown hK hP 108 (by decide) rfl rfl 1 (by decide) rfl ww_141 rfl mD_Le_removeAll_1 ?_
  refine lv_istore_n (lv' := [(1, .int (x.1 108 1)), (0, .ref (ad 108))]) hx hb mD_Le_removeAll_4 rfl hl (by decide) rfl (fun ls hl => ?_)
  refine lv_iconst (v := nI 0) hx hb mD_Le_removeAll_5 (by decide) ?_
  refine lv_istore_n (lv' := [(2, .int (nI 0)), (1, .int (x.1 108 1)), (0, .ref (ad 108))]) hx hb mD_Le_removeAll_6 rfl hl (by decide) rfl (fun ls hl => ?_)
  have loop : ∀ (d7 : Nat) (n : Nat) (y : tS) (H : Heap) (locs : List Loc) (ls : Array Slot), n + d7 = 120 → lv_has ls 3 [(2, .int (nI n)), (1, .int (x.1 108 1)), (0, .ref (ad 108))] → va_P D cL (gw 424 ad (tD ct ad y)) H → va_S (gA 424 ad s.heap.size) s.heap H locs → ((∀ j, j < n → y.1 (110 + 2 * j) = upd (x.1 (110 + 2 * j)) 3 0) ∧ ∀ k, (∀ j, j < n → k ≠ 110 + 2 * j) → y.1 k = x.1 k) → W p l e (rF 0 0) s m [.ref (ad 108)].toArray below meth c H locs 0 0 Q (F0 m 7 ls []) := by
    intro d7
    induction d7 using Nat.strongRecOn with
    | ind d7 ih =>
      intro n y H locs ls hd hl hP hS hinv
      refine lv_iload_n hx hb mD_Le_removeAll_7 rfl (lv_at hl 0 rfl) ?_
      refine lv_bipush (v := nI 120) hx hb mD_Le_removeAll_8 (by decide) ?_
      refine lv_icmp_ge (tgt := 29) hx hb mD_Le_removeAll_10 rfl (fun hc => ?_) (fun hc => ?_)
      · skip
        have hn : n = 120 := by have := ts_ge (by omega) (by omega) hc; omega
        subst hn
        refine lv_aload_n hx hb mD_Le_removeAll_29 rfl (lv_at hl 2 rfl) ?_
        refine lv_iconst (v := nI 0) hx hb mD_Le_removeAll_30 (by decide) ?_
        refine t_put (C := cN_Le) (T := cF_Le) (N := 2) (ci := 2) hx hb htw wU_Le cT_Le cO_Le cM_Le hown hK hI hA hP hS 108 (by decide) rfl rfl 1 (by decide) rfl ww_141 rfl rfl rfl (Nat.le_of_ble_eq_true rfl) rfl mD_Le_removeAll_31 (fun H locs hP hS => ?_)
        obtain ⟨x1, hx1⟩ : ∃ z, z = tU y 108 (upd (y.1 108) 1 (nI 0)) := ⟨_, rfl⟩
        rw [← hx1] at hP
        refine lv_iload_n hx hb mD_Le_removeAll_34 rfl (lv_at hl 1 rfl) ?_
        subst hQ
        exact gw_iret hx hb hr hlocks hP hS (⟨rfl, fun j hj => by rw [hx1, tU_n (by omega)]; exact hinv.1 j hj, by rw [hx1, tU_1, hinv.2 108 (fun j _ => by omega)]; rfl, fun k h1 h2 => by rw [hx1, tU_n h1]; exact hinv.2 k h2⟩) mD_Le_removeAll_35 (Nat.zero_le _) (Nat.zero_le _)
      · skip
        have hn_n : n < 120 := ts_lt (by omega) (by omega) hc
        refine lv_aload_n hx hb mD_Le_removeAll_13 rfl (lv_at hl 2 rfl) ?_
        refine t_get (C := cN_Le) (T := cF_Le) (N := 2) (ci := 2) hx hb htw wU_Le hown hK hP 108 (by decide) rfl rfl 0 (by decide) rfl ww_139 rfl mD_Le_removeAll_14 ?_
        refine lv_iload_n hx hb mD_Le_removeAll_17 rfl (lv_at hl 0 rfl) ?_
        refine t_aldq hx hb hK hP 109 120 (by decide) rfl n rfl (by omega) (by decide) rfl mD_Le_removeAll_18 ?_
        refine lv_iconst (v := nI 0) hx hb mD_Le_removeAll_19 (by decide) ?_
        refine t_put (C := cN_Ce) (T := cF_Ce) (N := 4) (ci := 0) hx hb htw wU_Ce cT_Ce cO_Ce cM_Ce hown hK hI hA hP hS ((110 + 2 * n)) (tCe_lt (tCe_led (c := n) (by omega))) (tE_cell (tCe_led (c := n) (by omega))) rfl 3 (by decide) rfl ww_129 rfl rfl rfl (Nat.le_of_ble_eq_true rfl) (by rw [tE_cell (tCe_led (c := n) (by omega))]; rfl) mD_Le_removeAll_20 (fun H locs hP hS => ?_)
        obtain ⟨x2, hx2⟩ : ∃ z, z = tU y ((110 + 2 * n)) (upd (y.1 ((110 + 2 * n))) 3 (nI 0)) := ⟨_, rfl⟩
        rw [← hx2] at hP
        refine lv_iinc (k := 0) (v := nI (n + 1)) (lv' := [(2, .int (nI (n + 1))), (1, .int (x.1 108 1)), (0, .ref (ad 108))]) hx hb mD_Le_removeAll_23 hl rfl (by rw [lit1, nI_1]) (by decide) rfl (fun ls hl => ?_)
        refine lv_goto (tgt := 7) hx hb mD_Le_removeAll_26 rfl ?_
        exact ih (d7 - 1) (by omega) (n + 1) x2 _ _ _ (by omega) (lv_sub hl [0, 1, 2] rfl) hP hS ⟨fun j hj => by by_cases q : j = n; subst q; rw [hx2, tU_1, hinv.2 _ (fun i hi => by omega)]; rfl; rw [hx2, tU_n (tb_led q)]; exact hinv.1 j (by omega), fun k hk => by rw [hx2, tU_n (hk n (by omega))]; exact hinv.2 k (fun j hj => hk j (by omega))⟩
  exact loop 120 0 x _ _ _ (by omega) hl hP hS ⟨fun _ h => absurd h (Nat.not_lt_zero _), fun _ _ => rfl⟩

set_option maxHeartbeats 4000000 in
set_option maxRecDepth 100000 in
theorem k_Le_greatestBound (l : Launch) (D : va_G) (ct : Nat → ClassId) (ad : Nat → Nat) (hI : gw_inj 424 ad) (x : tS)  : gMi l mY_Le_greatestBound mB_Le_greatestBound 3 (some .int) (rF 0 0) D (tT ct) gZ0 424 ad (tD ct ad) [.ref (ad 108)] x (fun r x' => x' = x ∧ r = tGB x.1 120) := by
  refine gMi_enter (by decide) (Nat.le_of_ble_eq_true rfl) ?_
  intro p e s m below meth c ls hx hb hr htw hown hlocks hml hl hP hK hZ hS
  have hA : ∀ k, k < 424 → gA 424 ad s.heap.size (ad k) := fun _ h => gA_in h
  have hl : lv_has ls 3 [(0, .ref (ad 108))] := hl
  refine gw_nmQ (fun Q hQ => ?_)
  refine lv_iconst (v := nI 0) hx hb mD_Le_greatestBound_0 (by decide) ?_
  refine lv_istore_n (lv' := [(1, .int (nI 0)), (0, .ref (ad 108))]) hx hb mD_Le_greatestBound_1 rfl hl (by decide) rfl (fun ls hl => ?_)
  refine lv_iconst (v := nI 0) hx hb mD_Le_greatestBound_2 (by decide) ?_
  refine lv_istore_n (lv' := [(2, .int (nI 0)), (1, .int (nI 0)), (0, .ref (ad 108))]) hx hb mD_Le_greatestBound_3 rfl hl (by decide) rfl (fun ls hl => ?_)
  have loop : ∀ (d4 : Nat) (n : Nat) (g : Int32) (H : Heap) (locs : List Loc) (ls : Array Slot), n + d4 = 120 → lv_has ls 3 [(2, .int (nI n)), (1, .int g), (0, .ref (ad 108))] → va_P D cL (gw 424 ad (tD ct ad x)) H → va_S (gA 424 ad s.heap.size) s.heap H locs → (g = tGB x.1 n) → W p l e (rF 0 0) s m [.ref (ad 108)].toArray below meth c H locs 0 0 Q (F0 m 4 ls []) := by
    intro d4
    induction d4 using Nat.strongRecOn with
    | ind d4 ih =>
      intro n g H locs ls hd hl hP hS hinv
      refine lv_iload_n hx hb mD_Le_greatestBound_4 rfl (lv_at hl 0 rfl) ?_
      refine lv_bipush (v := nI 120) hx hb mD_Le_greatestBound_5 (by decide) ?_
      refine lv_icmp_ge (tgt := 51) hx hb mD_Le_greatestBound_7 rfl (fun hc => ?_) (fun hc => ?_)
      · skip
        have hn : n = 120 := by have := ts_ge (by omega) (by omega) hc; omega
        subst hn
        refine lv_iload_n hx hb mD_Le_greatestBound_51 rfl (lv_at hl 1 rfl) ?_
        subst hQ
        exact gw_iret hx hb hr hlocks hP hS (⟨rfl, hinv⟩) mD_Le_greatestBound_52 (Nat.zero_le _) (Nat.zero_le _)
      · skip
        have hn_n : n < 120 := ts_lt (by omega) (by omega) hc
        refine lv_aload_n hx hb mD_Le_greatestBound_10 rfl (lv_at hl 2 rfl) ?_
        refine t_get (C := cN_Le) (T := cF_Le) (N := 2) (ci := 2) hx hb htw wU_Le hown hK hP 108 (by decide) rfl rfl 0 (by decide) rfl ww_139 rfl mD_Le_greatestBound_11 ?_
        refine lv_iload_n hx hb mD_Le_greatestBound_14 rfl (lv_at hl 0 rfl) ?_
        refine t_aldq hx hb hK hP 109 120 (by decide) rfl n rfl (by omega) (by decide) rfl mD_Le_greatestBound_15 ?_
        refine t_get (C := cN_Ce) (T := cF_Ce) (N := 4) (ci := 0) hx hb htw wU_Ce hown hK hP ((110 + 2 * n)) (tCe_lt (tCe_led (c := n) (by omega))) (tE_cell (tCe_led (c := n) (by omega))) rfl 3 (by decide) rfl ww_129 rfl mD_Le_greatestBound_16 ?_
        refine lv_if_eq (tgt := 45) hx hb mD_Le_greatestBound_19 rfl (fun h2 => ?_) (fun h2 => ?_)
        · skip
          refine lv_iinc (k := 0) (v := nI (n + 1)) (lv' := [(2, .int (nI (n + 1))), (1, .int g), (0, .ref (ad 108))]) hx hb mD_Le_greatestBound_45 hl rfl (by rw [lit1, nI_1]) (by decide) rfl (fun ls hl => ?_)
          refine lv_goto (tgt := 4) hx hb mD_Le_greatestBound_48 rfl ?_
          exact ih (d4 - 1) (by omega) (n + 1) _ _ _ _ (by omega) (lv_sub hl [0, 1, 2] rfl) hP hS (by unfold tGB; rw [← hinv]; first | simp [h2, h3] | simp [h2])
        · skip
          refine lv_aload_n hx hb mD_Le_greatestBound_22 rfl (lv_at hl 2 rfl) ?_
          refine t_get (C := cN_Le) (T := cF_Le) (N := 2) (ci := 2) hx hb htw wU_Le hown hK hP 108 (by decide) rfl rfl 0 (by decide) rfl ww_139 rfl mD_Le_greatestBound_23 ?_
          refine lv_iload_n hx hb mD_Le_greatestBound_26 rfl (lv_at hl 0 rfl) ?_
          refine t_aldq hx hb hK hP 109 120 (by decide) rfl n rfl (by omega) (by decide) rfl mD_Le_greatestBound_27 ?_
          refine t_get (C := cN_Ce) (T := cF_Ce) (N := 4) (ci := 0) hx hb htw wU_Ce hown hK hP ((110 + 2 * n)) (tCe_lt (tCe_led (c := n) (by omega))) (tE_cell (tCe_led (c := n) (by omega))) rfl 1 (by decide) rfl ww_126 rfl mD_Le_greatestBound_28 ?_
          refine lv_iload_n hx hb mD_Le_greatestBound_31 rfl (lv_at hl 1 rfl) ?_
          refine lv_icmp_le (tgt := 45) hx hb mD_Le_greatestBound_32 rfl (fun h3 => ?_) (fun h3 => ?_)
          · skip
            refine lv_iinc (k := 0) (v := nI (n + 1)) (lv' := [(2, .int (nI (n + 1))), (1, .int g), (0, .ref (ad 108))]) hx hb mD_Le_greatestBound_45 hl rfl (by rw [lit1, nI_1]) (by decide) rfl (fun ls hl => ?_)
            refine lv_goto (tgt := 4) hx hb mD_Le_greatestBound_48 rfl ?_
            exact ih (d4 - 1) (by omega) (n + 1) _ _ _ _ (by omega) (lv_sub hl [0, 1, 2] rfl) hP hS (by unfold tGB; rw [← hinv]; first | simp [h2, h3] | simp [h2])
          · skip
            refine lv_aload_n hx hb mD_Le_greatestBound_35 rfl (lv_at hl 2 rfl) ?_
            refine t_get (C := cN_Le) (T := cF_Le) (N := 2) (ci := 2) hx hb htw wU_Le hown hK hP 108 (by decide) rfl rfl 0 (by decide) rfl ww_139 rfl mD_Le_greatestBound_36 ?_
            refine lv_iload_n hx hb mD_Le_greatestBound_39 rfl (lv_at hl 0 rfl) ?_
            refine t_aldq hx hb hK hP 109 120 (by decide) rfl n rfl (by omega) (by decide) rfl mD_Le_greatestBound_40 ?_
            refine t_get (C := cN_Ce) (T := cF_Ce) (N := 4) (ci := 0) hx hb htw wU_Ce hown hK hP ((110 + 2 * n)) (tCe_lt (tCe_led (c := n) (by omega))) (tE_cell (tCe_led (c := n) (by omega))) rfl 1 (by decide) rfl ww_126 rfl mD_Le_greatestBound_41 ?_
            refine lv_istore_n (lv' := [(1, .int (x.1 ((110 + 2 * n)) 1)), (2, .int (nI n)), (0, .ref (ad 108))]) hx hb mD_Le_greatestBound_44 rfl hl (by decide) rfl (fun ls hl => ?_)
            refine lv_iinc (k := 1) (v := nI (n + 1)) (lv' := [(2, .int (nI (n + 1))), (1, .int (x.1 ((110 + 2 * n)) 1)), (0, .ref (ad 108))]) hx hb mD_Le_greatestBound_45 hl rfl (by rw [lit1, nI_1]) (by decide) rfl (fun ls hl => ?_)
            refine lv_goto (tgt := 4) hx hb mD_Le_greatestBound_48 rfl ?_
            exact ih (d4 - 1) (by omega) (n + 1) _ _ _ _ (by omega) (lv_sub hl [0, 1, 2] rfl) hP hS (by unfold tGB; rw [← hinv]; first | simp [h2, h3] | simp [h2])
  exact loop 120 0 _ _ _ _ (by omega) hl hP hS rfl

theorem tb_hl0 {a : Int32} {sz : Nat} (h0 : a < nI 8) (h : 8 + sz < 2 ^ 31) : nI 0 = nI 0 ∧ ¬ ∃ q, 8 ≤ q ∧ q < 8 + sz ∧ a = nI q := ⟨rfl, fun ⟨q, h8, hq, e⟩ => by subst e; exact nI_nlt h8 (by omega) h0⟩
theorem tb_hl1 {a r : Int32} {sz : Nat} (h0 : ¬ a < nI 8) (hr : (r = nI 1 ∧ ∃ q, q < 8 + sz ∧ a = nI q) ∨ (r = nI 0 ∧ ¬ ∃ q, q < 8 + sz ∧ a = nI q)) (h2 : ¬ r = 0) (h : 8 + sz < 2 ^ 31) : (nI 1 = nI 1 ∧ ∃ q, 8 ≤ q ∧ q < 8 + sz ∧ a = nI q) ∨ (nI 1 = nI 0 ∧ ¬ ∃ q, 8 ≤ q ∧ q < 8 + sz ∧ a = nI q) := by
  rcases hr with ⟨-, q, hq, e⟩ | ⟨e, -⟩
  · exact Or.inl ⟨rfl, q, Nat.not_lt.mp (fun z => h0 (by rw [e]; exact nI_lt z (by omega))), hq, e⟩
  · exact absurd e h2
theorem tb_hl2 {a r : Int32} {sz : Nat} (hr : (r = nI 1 ∧ ∃ q, q < 8 + sz ∧ a = nI q) ∨ (r = nI 0 ∧ ¬ ∃ q, q < 8 + sz ∧ a = nI q)) (h2 : r = 0) : (nI 0 = nI 1 ∧ ∃ q, 8 ≤ q ∧ q < 8 + sz ∧ a = nI q) ∨ (nI 0 = nI 0 ∧ ¬ ∃ q, 8 ≤ q ∧ q < 8 + sz ∧ a = nI q) := by
  rcases hr with ⟨e, -⟩ | ⟨-, hn⟩
  · exact absurd (e.symm.trans h2) (by decide)
  · exact Or.inr ⟨rfl, fun ⟨q, _, hq, e⟩ => hn ⟨q, hq, e⟩⟩

set_option maxHeartbeats 4000000 in
set_option maxRecDepth 100000 in
theorem k_Ci_isAhead (l : Launch) (D : va_G) (ct : Nat → ClassId) (ad : Nat → Nat) (hI : gw_inj 424 ad) (x : tS) (a : Int32) {sz : Nat} (hsz : x.1 350 3 = nI sz) (hs24 : sz ≤ 24) : gMi l mY_Ci_isAhead mB_Ci_isAhead 2 (some .boolean) (rF 0 0) D (tT ct) gZ0 424 ad (tD ct ad) [.ref (ad 350), .int a] x (fun r x' => x' = x ∧ ((r = nI 1 ∧ ∃ q, q < 8 + sz ∧ a = nI q) ∨ (r = nI 0 ∧ ¬ ∃ q, q < 8 + sz ∧ a = nI q))) := by
  refine gMi_enter (by decide) (Nat.le_of_ble_eq_true rfl) ?_
  intro p e s m below meth c ls hx hb hr htw hown hlocks hml hl hP hK hZ hS
  have hA : ∀ k, k < 424 → gA 424 ad s.heap.size (ad k) := fun _ h => gA_in h
  have hl : lv_has ls 2 [(0, .ref (ad 350)), (1, .int a)] := hl
  refine lv_iload_n hx hb mD_Ci_isAhead_0 rfl (lv_at hl 1 rfl) ?_
  refine lv_if_lt (tgt := 19) hx hb mD_Ci_isAhead_1 rfl (fun h0 => ?_) (fun h0 => ?_)
  · skip
    refine lv_iconst (v := nI 0) hx hb mD_Ci_isAhead_19 (by decide) ?_
    exact gw_zret hx hb hr hlocks hP hS rfl (⟨rfl, by first | exact Or.inr ⟨rfl, fun ⟨q, _, e⟩ => by subst e; exact nI_pos (by omega) h0⟩ | exact Or.inr ⟨rfl, fun ⟨q, hq, e⟩ => by subst e; have := (nI_leI (by omega) (by omega)).mp h1; omega⟩ | exact Or.inl ⟨rfl, tb_idx (by omega) h0 h1⟩⟩) mD_Ci_isAhead_20 (Nat.zero_le _) (Nat.zero_le _)
  · skip
    refine lv_iload_n hx hb mD_Ci_isAhead_4 rfl (lv_at hl 1 rfl) ?_
    refine lv_bipush (v := nI 8) hx hb mD_Ci_isAhead_5 (by decide) ?_
    refine lv_aload_n hx hb mD_Ci_isAhead_7 rfl (lv_at hl 0 rfl) ?_
    refine t_get (C := cN_Ci) (T := cF_Ci) (N := 4) (ci := 1) hx hb htw wU_Ci hown hK hP 350 (by decide) rfl rfl 3 (by decide) rfl ww_160 rfl mD_Ci_isAhead_8 ?_
    refine lv_iadd hx hb mD_Ci_isAhead_11 ?_
    refine lv_icmp_ge (tgt := 19) hx hb mD_Ci_isAhead_12 rfl (fun h1 => ?_) (fun h1 => ?_)
    · skip
      rw [hsz, nI_add] at h1
      refine lv_iconst (v := nI 0) hx hb mD_Ci_isAhead_19 (by decide) ?_
      exact gw_zret hx hb hr hlocks hP hS rfl (⟨rfl, by first | exact Or.inr ⟨rfl, fun ⟨q, _, e⟩ => by subst e; exact nI_pos (by omega) h0⟩ | exact Or.inr ⟨rfl, fun ⟨q, hq, e⟩ => by subst e; have := (nI_leI (by omega) (by omega)).mp h1; omega⟩ | exact Or.inl ⟨rfl, tb_idx (by omega) h0 h1⟩⟩) mD_Ci_isAhead_20 (Nat.zero_le _) (Nat.zero_le _)
    · skip
      rw [hsz, nI_add] at h1
      refine lv_iconst (v := nI 1) hx hb mD_Ci_isAhead_15 (by decide) ?_
      refine lv_goto (tgt := 20) hx hb mD_Ci_isAhead_16 rfl ?_
      exact gw_zret hx hb hr hlocks hP hS rfl (⟨rfl, by first | exact Or.inr ⟨rfl, fun ⟨q, _, e⟩ => by subst e; exact nI_pos (by omega) h0⟩ | exact Or.inr ⟨rfl, fun ⟨q, hq, e⟩ => by subst e; have := (nI_leI (by omega) (by omega)).mp h1; omega⟩ | exact Or.inl ⟨rfl, tb_idx (by omega) h0 h1⟩⟩) mD_Ci_isAhead_20 (Nat.zero_le _) (Nat.zero_le _)

set_option maxHeartbeats 4000000 in
set_option maxRecDepth 100000 in
theorem k_Ci_hasLine (l : Launch) (D : va_G) (ct : Nat → ClassId) (ad : Nat → Nat) (hI : gw_inj 424 ad) (x : tS) (a : Int32) {sz : Nat} (hsz : x.1 350 3 = nI sz) (hs24 : sz ≤ 24) : gMi l mY_Ci_hasLine mB_Ci_hasLine 2 (some .boolean) (rF 1 21) D (tT ct) gZ0 424 ad (tD ct ad) [.ref (ad 350), .int a] x (fun r x' => x' = x ∧ ((r = nI 1 ∧ ∃ q, 8 ≤ q ∧ q < 8 + sz ∧ a = nI q) ∨ (r = nI 0 ∧ ¬ ∃ q, 8 ≤ q ∧ q < 8 + sz ∧ a = nI q))) := by
  refine gMi_enter (by decide) (Nat.le_of_ble_eq_true rfl) ?_
  intro p e s m below meth c ls hx hb hr htw hown hlocks hml hl hP hK hZ hS
  have hA : ∀ k, k < 424 → gA 424 ad s.heap.size (ad k) := fun _ h => gA_in h
  have hl : lv_has ls 2 [(0, .ref (ad 350)), (1, .int a)] := hl
  refine lv_iload_n hx hb mD_Ci_hasLine_0 rfl (lv_at hl 1 rfl) ?_
  refine lv_bipush (v := nI 8) hx hb mD_Ci_hasLine_1 (by decide) ?_
  refine lv_icmp_lt (tgt := 18) hx hb mD_Ci_hasLine_3 rfl (fun h0 => ?_) (fun h0 => ?_)
  · skip
    refine lv_iconst (v := nI 0) hx hb mD_Ci_hasLine_18 (by decide) ?_
    exact gw_zret hx hb hr hlocks hP hS rfl (⟨rfl, by first | exact Or.inr (tb_hl0 h0 (by omega)) | exact tb_hl1 h0 hr_ h2 (by omega) | exact tb_hl2 hr_ h2⟩) mD_Ci_hasLine_19 (Nat.zero_le _) (Nat.zero_le _)
  · skip
    refine lv_aload_n hx hb mD_Ci_hasLine_6 rfl (lv_at hl 0 rfl) ?_
    refine lv_iload_n hx hb mD_Ci_hasLine_7 rfl (lv_at hl 1 rfl) ?_
    refine gc_Vi (As := [.int a]) (rest := []) hx hb hml hown htw hK hP hS 350 (k_Ci_isAhead l D ct ad hI x a hsz hs24) gZ0_ok (fun _ _ _ => trivial) (gA_mono hS.1) (by decide) rfl rfl ww_619 ww_599 ww_600 ww_30 wC_Ci_isAhead mP_Ci_isAhead (by decide) rfl hl.1 rfl (Nat.le_of_ble_eq_true rfl) mD_Ci_hasLine_8 ⟨Nat.le_of_ble_eq_true rfl, Nat.le_of_ble_eq_true rfl⟩ (fun r2 x1 H locs hp1 hP _ _ hS => ?_)
    obtain ⟨hq_, hr_⟩ := hp1
    rw [hq_] at hP
    refine lv_if_eq (tgt := 18) hx hb mD_Ci_hasLine_11 rfl (fun h2 => ?_) (fun h2 => ?_)
    · skip
      refine lv_iconst (v := nI 0) hx hb mD_Ci_hasLine_18 (by decide) ?_
      exact gw_zret hx hb hr hlocks hP hS rfl (⟨rfl, by first | exact Or.inr (tb_hl0 h0 (by omega)) | exact tb_hl1 h0 hr_ h2 (by omega) | exact tb_hl2 hr_ h2⟩) mD_Ci_hasLine_19 (Nat.zero_le _) (Nat.zero_le _)
    · skip
      refine lv_iconst (v := nI 1) hx hb mD_Ci_hasLine_14 (by decide) ?_
      refine lv_goto (tgt := 19) hx hb mD_Ci_hasLine_15 rfl ?_
      exact gw_zret hx hb hr hlocks hP hS rfl (⟨rfl, by first | exact Or.inr (tb_hl0 h0 (by omega)) | exact tb_hl1 h0 hr_ h2 (by omega) | exact tb_hl2 hr_ h2⟩) mD_Ci_hasLine_19 (Nat.zero_le _) (Nat.zero_le _)

set_option maxHeartbeats 4000000 in
set_option maxRecDepth 100000 in
theorem k_Ci_add (l : Launch) (D : va_G) (ct : Nat → ClassId) (ad : Nat → Nat) (hI : gw_inj 424 ad) (x : tS) (k a b : Int32) {sz : Nat} (hsz : x.1 350 3 = nI sz) (hs24 : sz < 24) : gMi l mY_Ci_add mB_Ci_add 4 (some .int) (rF 0 0) D (tT ct) gZ0 424 ad (tD ct ad) [.ref (ad 350), .int k, .int a, .int b] x (fun r x' => r = nI (8 + sz) ∧ x'.1 = va_up (va_up (va_up (va_up x.1 351 (upd (x.1 351) sz k)) 352 (upd (x.1 352) sz a)) 353 (upd (x.1 353) sz b)) 350 (upd (x.1 350) 3 (nI (sz + 1)))) := by
  refine gMi_enter (by decide) (Nat.le_of_ble_eq_true rfl) ?_
  intro p e s m below meth c ls hx hb hr htw hown hlocks hml hl hP hK hZ hS
  have hA : ∀ k, k < 424 → gA 424 ad s.heap.size (ad k) := fun _ h => gA_in h
  have hl : lv_has ls 4 [(0, .ref (ad 350)), (1, .int k), (2, .int a), (3, .int b)] := hl
  refine lv_aload_n hx hb mD_Ci_add_0 rfl (lv_at hl 0 rfl) ?_
  refine t_get (C := cN_Ci) (T := cF_Ci) (N := 4) (ci := 1) hx hb htw wU_Ci hown hK hP 350 (by decide) rfl rfl 0 (by decide) rfl ww_154 rfl mD_Ci_add_1 ?_
  refine lv_aload_n hx hb mD_Ci_add_4 rfl (lv_at hl 0 rfl) ?_
  refine t_get (C := cN_Ci) (T := cF_Ci) (N := 4) (ci := 1) hx hb htw wU_Ci hown hK hP 350 (by decide) rfl rfl 3 (by decide) rfl ww_160 rfl mD_Ci_add_5 ?_
  refine lv_iload_n hx hb mD_Ci_add_8 rfl (lv_at hl 1 rfl) ?_
  refine t_iast hx hb hK hI hA hP hS 351 24 (by decide) (fun _ => rfl) sz hsz (by omega) (by decide) mD_Ci_add_9 (fun H locs hP hS => ?_)
  obtain ⟨x1, hx1⟩ : ∃ z, z = tU x 351 (upd (x.1 351) sz k) := ⟨_, rfl⟩
  rw [← hx1] at hP
  refine lv_aload_n hx hb mD_Ci_add_10 rfl (lv_at hl 0 rfl) ?_
  refine t_get (C := cN_Ci) (T := cF_Ci) (N := 4) (ci := 1) hx hb htw wU_Ci hown hK hP 350 (by decide) rfl rfl 1 (by decide) rfl ww_156 rfl mD_Ci_add_11 ?_
  refine lv_aload_n hx hb mD_Ci_add_14 rfl (lv_at hl 0 rfl) ?_
  refine t_get (C := cN_Ci) (T := cF_Ci) (N := 4) (ci := 1) hx hb htw wU_Ci hown hK hP 350 (by decide) rfl rfl 3 (by decide) rfl ww_160 rfl mD_Ci_add_15 ?_
  refine lv_iload_n hx hb mD_Ci_add_18 rfl (lv_at hl 2 rfl) ?_
  refine t_iast hx hb hK hI hA hP hS 352 24 (by decide) (fun _ => rfl) sz (by rw [hx1, tU_n (by decide)]; exact hsz) (by omega) (by decide) mD_Ci_add_19 (fun H locs hP hS => ?_)
  obtain ⟨x2, hx2⟩ : ∃ z, z = tU x1 352 (upd (x1.1 352) sz a) := ⟨_, rfl⟩
  rw [← hx2] at hP
  refine lv_aload_n hx hb mD_Ci_add_20 rfl (lv_at hl 0 rfl) ?_
  refine t_get (C := cN_Ci) (T := cF_Ci) (N := 4) (ci := 1) hx hb htw wU_Ci hown hK hP 350 (by decide) rfl rfl 2 (by decide) rfl ww_158 rfl mD_Ci_add_21 ?_
  refine lv_aload_n hx hb mD_Ci_add_24 rfl (lv_at hl 0 rfl) ?_
  refine t_get (C := cN_Ci) (T := cF_Ci) (N := 4) (ci := 1) hx hb htw wU_Ci hown hK hP 350 (by decide) rfl rfl 3 (by decide) rfl ww_160 rfl mD_Ci_add_25 ?_
  refine lv_iload_n hx hb mD_Ci_add_28 rfl (lv_at hl 3 rfl) ?_
  refine t_iast hx hb hK hI hA hP hS 353 24 (by decide) (fun _ => rfl) sz (by rw [hx2, tU_n (by decide), hx1, tU_n (by decide)]; exact hsz) (by omega) (by decide) mD_Ci_add_29 (fun H locs hP hS => ?_)
  obtain ⟨x3, hx3⟩ : ∃ z, z = tU x2 353 (upd (x2.1 353) sz b) := ⟨_, rfl⟩
  rw [← hx3] at hP
  refine lv_aload_n hx hb mD_Ci_add_30 rfl (lv_at hl 0 rfl) ?_
  refine lv_dup hx hb mD_Ci_add_31 rfl ?_
  refine t_get (C := cN_Ci) (T := cF_Ci) (N := 4) (ci := 1) hx hb htw wU_Ci hown hK hP 350 (by decide) rfl rfl 3 (by decide) rfl ww_160 rfl mD_Ci_add_32 ?_
  refine lv_iconst (v := nI 1) hx hb mD_Ci_add_35 (by decide) ?_
  refine lv_iadd hx hb mD_Ci_add_36 ?_
  refine t_put (C := cN_Ci) (T := cF_Ci) (N := 4) (ci := 1) hx hb htw wU_Ci cT_Ci cO_Ci cM_Ci hown hK hI hA hP hS 350 (by decide) rfl rfl 3 (by decide) rfl ww_160 rfl rfl rfl (Nat.le_of_ble_eq_true rfl) rfl mD_Ci_add_37 (fun H locs hP hS => ?_)
  obtain ⟨x4, hx4⟩ : ∃ z, z = tU x3 350 (upd (x3.1 350) 3 ((x3.1 350 3) + (nI 1))) := ⟨_, rfl⟩
  rw [← hx4] at hP
  refine lv_bipush (v := nI 8) hx hb mD_Ci_add_40 (by decide) ?_
  refine lv_aload_n hx hb mD_Ci_add_42 rfl (lv_at hl 0 rfl) ?_
  refine t_get (C := cN_Ci) (T := cF_Ci) (N := 4) (ci := 1) hx hb htw wU_Ci hown hK hP 350 (by decide) rfl rfl 3 (by decide) rfl ww_160 rfl mD_Ci_add_43 ?_
  refine lv_iadd hx hb mD_Ci_add_46 ?_
  refine lv_iconst (v := nI 1) hx hb mD_Ci_add_47 (by decide) ?_
  refine lv_isub hx hb mD_Ci_add_48 ?_
  exact gw_iret hx hb hr hlocks hP hS (have e3 : x3.1 350 = x.1 350 := (by rw [hx3, tU_n (by decide), hx2, tU_n (by decide), hx1, tU_n (by decide)]); ⟨by rw [hx4, tU_1, pk_us, e3, hsz, nI_add, nI_add, pk_sub (by omega), show 8 + (sz + 1) - 1 = 8 + sz by omega], by rw [hx4, tU_f, e3, hsz, nI_add, hx3, tU_f, hx2, tU_f, hx1, tU_f]; rfl⟩) mD_Ci_add_49 (Nat.zero_le _) (Nat.zero_le _)

set_option maxHeartbeats 4000000 in
set_option maxRecDepth 100000 in
theorem k_Ci_removeAll (l : Launch) (D : va_G) (ct : Nat → ClassId) (ad : Nat → Nat) (hI : gw_inj 424 ad) (x : tS)  : gMi l mY_Ci_removeAll mB_Ci_removeAll 2 (some .int) (rF 0 0) D (tT ct) gZ0 424 ad (tD ct ad) [.ref (ad 350)] x (fun r x' => r = x.1 350 3 ∧ x'.1 = va_up x.1 350 (upd (x.1 350) 3 0)) := by
  refine gMi_enter (by decide) (Nat.le_of_ble_eq_true rfl) ?_
  intro p e s m below meth c ls hx hb hr htw hown hlocks hml hl hP hK hZ hS
  have hA : ∀ k, k < 424 → gA 424 ad s.heap.size (ad k) := fun _ h => gA_in h
  have hl : lv_has ls 2 [(0, .ref (ad 350))] := hl
  refine lv_aload_n hx hb mD_Ci_removeAll_0 rfl (lv_at hl 0 rfl) ?_
  refine t_get (C := cN_Ci) (T := cF_Ci) (N := 4) (ci := 1) hx hb htw wU_Ci hown hK hP 350 (by decide) rfl rfl 3 (by decide) rfl ww_160 rfl mD_Ci_removeAll_1 ?_
  refine lv_istore_n (lv' := [(1, .int (x.1 350 3)), (0, .ref (ad 350))]) hx hb mD_Ci_removeAll_4 rfl hl (by decide) rfl (fun ls hl => ?_)
  refine lv_aload_n hx hb mD_Ci_removeAll_5 rfl (lv_at hl 1 rfl) ?_
  refine lv_iconst (v := nI 0) hx hb mD_Ci_removeAll_6 (by decide) ?_
  refine t_put (C := cN_Ci) (T := cF_Ci) (N := 4) (ci := 1) hx hb htw wU_Ci cT_Ci cO_Ci cM_Ci hown hK hI hA hP hS 350 (by decide) rfl rfl 3 (by decide) rfl ww_160 rfl rfl rfl (Nat.le_of_ble_eq_true rfl) rfl mD_Ci_removeAll_7 (fun H locs hP hS => ?_)
  obtain ⟨x1, hx1⟩ : ∃ z, z = tU x 350 (upd (x.1 350) 3 (nI 0)) := ⟨_, rfl⟩
  rw [← hx1] at hP
  refine lv_iload_n hx hb mD_Ci_removeAll_10 rfl (lv_at hl 0 rfl) ?_
  exact gw_iret hx hb hr hlocks hP hS (⟨rfl, by rw [hx1, tU_f]; rfl⟩) mD_Ci_removeAll_11 (Nat.zero_le _) (Nat.zero_le _)
end
section
/-! methods that throw always: the contract, the throw itself, the call. My own rows; the walk of the constructors is the library's (ctorMessageOffV), put together as the library's own ctorThrowS does it, for a constructor of any index. -/
set_option maxHeartbeats 1000000 in
theorem tx_ctor {p : Program} {l : Launch} {e : Env} {R : Room} {s : State} {m₀ : MethodId} {args : Array Value} {below : List Frame} {meth : Method} {c : Code} {W : State} {locs : List Loc} {cells slots : Nat}
    (X : Stand p l e R s m₀ args below meth c W locs cells slots) (hexec : p.tables.exec = Jvm.exec) (htr : e.platform.stackTraces = false) {own cls : String} {names : List String} {ic ix : Nat} {rx : ByteArray}
    (x0 : decode rx 0 = .ok (.aload_n 0, 1)) (x1 : decode rx 1 = .ok (.aload_n 1, 1)) (x2 : decode rx 2 = .ok (.invokespecial ix, 3)) (x5 : decode rx 5 = .ok (.return_, 1))
    (hown : s.vm.findClass own = some m₀.cls) (hcls : Bundle.fit cls = true) (hnames : ∀ n ∈ names, Bundle.fit n = true)
    (h : ∀ a ∈ Bundle.ownAtomsX own ic cls ix rx names, a.before args s = true)
    (hlocs : ∀ x ∈ locs, ∀ cell, s.heap[x.base]? = some cell → cell.vm.isStatics = false)
    {a : Addr} {cX : ClassId} {kX : Class} (hfoundX : s.vm.findClass cls = some cX) (hkX : s.vm.classes[cX]? = some kX) (hcell : W.heap[a]? = some (freshCell cX kX)) (hnew : s.heap.size ≤ a)
    {msg : Value} (hmsg : msg.isRef = true)
    {g : JFrame} (hg : g.method = m₀) (hsize : g.locals.size = c.maxLocals) (hlocked : g.locked = none) (hentered : g.entered = []) {rest : List Value} (hstack : g.stack = msg :: .ref a :: .ref a :: rest)
    (hd6 : decode c.code g.pc = .ok (.invokespecial ic, 3)) (hd9 : decode c.code (g.pc + 3) = .ok (.athrow, 1)) (hout : ∀ x ∈ c.exceptionTable.toList, covers x (g.pc + 3) = false)
    (hRframes : names.length + 3 < R.frames) (hRlocals : 2 * g.monitorRoom + ((Value.ref a :: rest).map fun v => v.category).sum + (13 * (names.length + 1) + 42) ≤ R.locals) (hlocks : meth.locks = false) :
    ∃ U : State, Steps p.tables e below (W.setTop g) U ∧ U.status = .running ∧ Ended U below (.threw a) ∧ s.WarmedH U.vm ∧ s.sameButNew ({ U with vm := s.vm } : State) locs cells slots ∧
      ∃ ce, U.heap[a]? = some ce ∧ ce.cls = cX ∧ ce.vm = .none ∧ U.heap = W.heap.setIfInBounds a ce := by
  have howns : e.platform.frameOwnsMonitors = true := by rw [X.admits.platform]
  have hfin : e.platform.finalization = false := by rw [X.admits.platform]
  have hpl : e.platform.magicAccessors = ({} : Platform).magicAccessors := by rw [X.admits.platform]
  have a' : ∀ x, x ∈ Bundle.ownAtomsX own ic cls ix rx names → x.holds args s none s [] = true := fun x hx => h x hx
  obtain ⟨T, Z0, L, -, Y⟩ := ThrowableC.of_atoms (args := args) howns hfin hpl (fun x hx => h x (by simp [Bundle.ownAtomsX, hx]))
  obtain ⟨Z, M, LZ, LM, hnZ⟩ := Init0T.ofS_atoms (args := args) hpl L Y (fun x hx => h x (by simp [Bundle.ownAtomsX, hx]))
  obtain ⟨P1, Ps, hlen, L1, hL, hP1m, hlink1, hlink⟩ := Bundle.chainSX (args := args) hpl hnZ x0 x1 x2 x5 names cls hcls hnames (fun x hx => h x (by simp [Bundle.ownAtomsX, hx]))
  have hfound : s.vm.findClass cls = some P1.m.cls := findClass_of_methodNamed hP1m
  cases Option.some.inj (hfoundX.symm.trans hfound)
  obtain ⟨c1, kX', hc1, hk, hord, -, -, hn6⟩ := Cond.instantiable_spec (a' (.instantiable cls 6) (by simp [Bundle.ownAtomsX]))
  cases Option.some.inj (hc1.symm.trans hfound)
  cases Option.some.inj (hkX.symm.trans hk)
  have hsel0 : selectMethod e.platform s.vm P1.m.cls T.fill0 = .method T.fill0 := by
    obtain ⟨c2, r2, m2, q1, q2, q3, q4, -⟩ := Cond.selects_spec (a' (.selects cls Bundle.tFill0 Bundle.tFill0) (by simp [Bundle.ownAtomsX]))
    cases Option.some.inj (q1.symm.trans hfound)
    cases Option.some.inj (q2.symm.trans (State.methodFound?_of_named Y.fill0 (by decide)))
    cases Option.some.inj (q3.symm.trans Y.fill0)
    rw [Launch.admits_selectMethod X.admits]; exact q4
  have hselF : selectMethod e.platform s.vm P1.m.cls T.fill = .method T.fill := by
    obtain ⟨c2, r2, m2, q1, q2, q3, q4, -⟩ := Cond.selects_spec (a' (.selects cls Bundle.tFill Bundle.tFill) (by simp [Bundle.ownAtomsX]))
    cases Option.some.inj (q1.symm.trans hfound)
    cases Option.some.inj (q2.symm.trans (State.methodFound?_of_named Y.fill (by decide)))
    cases Option.some.inj (q3.symm.trans Y.fill)
    rw [Launch.admits_selectMethod X.admits]; exact q4
  obtain ⟨cellS0, hcS0, hiss⟩ := Y.statics
  obtain ⟨u0, hu0⟩ := Cond.staticRefV Y.unassigned L.unassignedStatic L.statics hcS0 hiss (a' (.isRef (.static Bundle.tN "UNASSIGNED_STACK" Bundle.steD)) (by simp [Bundle.ownAtomsX]))
  obtain ⟨sen, hsen⟩ := Cond.staticRefV Y.sentinel L.sentinelStatic L.statics hcS0 hiss (a' (.isRef (.static Bundle.tN "SUPPRESSED_SENTINEL" Bundle.listD)) (by simp [Bundle.ownAtomsX]))
  obtain ⟨ci198, i198, fB, hk198, hg198, ha198, hsB, -, hnB, htB, hffB⟩ := Cond.ownField (t := .object "java/lang/Object") Y.found L.cls (by decide +kernel) (a' (.fieldLink Bundle.tN 198 Bundle.tN "backtrace" "Ljava/lang/Object;") (by simp [Bundle.ownAtomsX])) (a' (.lays Bundle.tN Bundle.tN "backtrace" "Ljava/lang/Object;") (by simp [Bundle.ownAtomsX])) e.platform hpl
  obtain ⟨cellS, hcS', heS, -, hkeep⟩ := X.same.2.2.2.2.2 T.aS cellS0 hcS0
  have hcellS : W.heap[T.aS]? = some cellS := hcS'
  have hout' : ∀ i, (⟨T.aS, i⟩ : Loc) ∉ locs := fun i hmem => by
    have := hlocs _ hmem cellS0 hcS0
    rw [hiss] at this; cases this
  have hknownS : cellS.vm ≠ .unknown := by
    rw [heS]; intro hu
    rw [show cellS0.vm = .unknown from hu] at hiss
    cases hiss
  have hneS : T.aS ≠ a := Nat.ne_of_lt (Nat.lt_of_lt_of_le (Array.getElem?_eq_some_iff.mp hcS0).1 hnew)
  obtain ⟨iM, hffM⟩ := Y.msg
  obtain ⟨tyC, dC, hdC, hdnC⟩ := Cond.laysAt hfound hk Y.cause (a' (.lays cls Bundle.tN "cause" "Ljava/lang/Throwable;") (by simp [Bundle.ownAtomsX]))
  obtain ⟨tyS, dS, hdS, hdnS⟩ := Cond.laysAt hfound hk Y.stack (a' (.lays cls Bundle.tN "stackTrace" Bundle.steD) (by simp [Bundle.ownAtomsX]))
  obtain ⟨tyP, dP, hdP, hdnP⟩ := Cond.laysAt hfound hk Y.supp (a' (.lays cls Bundle.tN "suppressedExceptions" Bundle.listD) (by simp [Bundle.ownAtomsX]))
  obtain ⟨tyM, dM, hdM, hdnM⟩ := Cond.laysAt hfound hk hffM (a' (.lays cls Bundle.tN "detailMessage" "Ljava/lang/String;") (by simp [Bundle.ownAtomsX]))
  obtain ⟨tyB, dB, hdB, hdnB⟩ := Cond.laysAt hfound hk hffB (a' (.lays cls Bundle.tN "backtrace" "Ljava/lang/Object;") (by simp [Bundle.ownAtomsX]))
  have bC := Cond.laysApart hdB hdC hdnB hdnC (by rw [hnB, Y.causeName]; decide)
  have bS := Cond.laysApart hdB hdS hdnB hdnS (by rw [hnB, Y.stackName]; decide)
  have bP := Cond.laysApart hdB hdP hdnB hdnP (by rw [hnB, Y.suppName]; decide)
  have hskip : SkipFacts T e.platform s (fun u => u) u0 ((preparedCellV T.toThrowableT (freshCell P1.m.cls kX) a u0 sen).withEntry W.cur) :=
    ⟨{ ci198 := ci198, i198 := i198, fBack := fB }, ⟨hk198, hg198, ha198, hsB⟩, by
      have := fresh_default (c := P1.m.cls) tyB
      rw [htB] at this
      simpa [preparedCellV, Cell.setSlot, Cell.withEntry, Array.getElem?_setIfInBounds, bC, bS, bP, bC.symm, bS.symm, bP.symm, defaultValue] using this, fun _ _ => rfl⟩
  obtain ⟨tm, methC, cdC, kC, vm₁, hnC, -, -, -, -, -, -, -, hW₁, st1⟩ := Steps.initColdS (tb := p.tables) (e := e) (below := below) (s := s) (U := W) X.here hexec X.warmed hpl hown (t := Bundle.initS cls) rfl rfl (Bundle.fit_spec hcls).2
    (a' (.methodLink own ic (Bundle.initS cls)) (by simp [Bundle.ownAtomsX])) (h (.instanceMethod (Bundle.initS cls)) (by cases names <;> simp [Bundle.ownAtomsX, Bundle.chainSAtomsX, Bundle.passSAtoms])) (bytes := rx) (maxL := 2) (h (.code (Bundle.initS cls) rx 2 none) (by cases names <;> simp [Bundle.ownAtomsX, Bundle.chainSAtomsX, Bundle.passSAtoms]))
    (f := g) hg (a := a) (msg := msg) (rest := .ref a :: rest) hstack hd6
  cases Option.some.inj (hnC.symm.trans hP1m)
  have X₁ := X.noted hW₁
  obtain ⟨vm₂, X₂, st2⟩ := X₁.ctorMessageOffV hexec (g := { g with stack := .ref a :: rest }) hg hsize T L Z LZ M LM (P1 :: Ps)
    (fun P hP => by rcases List.mem_cons.mp hP with rfl | hP; exact L1; exact hL P hP) ⟨hlink1, hlink⟩ (u0 := u0) (sen := sen) (self := a) hmsg (cell := freshCell P1.m.cls kX) (cellS := cellS)
    hcell (fun _ => by simp) (by simp) rfl rfl hsel0 hselF hcellS hneS hknownS (by rw [hkeep _ (hout' _)]; exact hu0) (by rw [hkeep _ (hout' _)]; exact hsen)
    (Takes.of_laid hk hord tyC (by rw [Y.causeType]; rfl)) (Takes.of_laid hk hord tyS (by rw [Y.stackType]; exact fits_refV_array _ u0)) (Takes.of_laid hk hord tyP (by rw [Y.suppType]; exact fits_refV_object _ sen))
    (Takes.of_laid hk hord tyM (by rw [Y.msgType]; exact fits_refV_object _ ⟨msg, hmsg⟩)) Y.objLocals hskip htr [] hd6
    (by simp only [List.length_cons, hlen]; omega) (by simp only [List.length_cons, hlen]; exact hRlocals)
  obtain ⟨hwalk, hrun, hended, hWU, hsame⟩ := X₂.athrowLeaves hexec (g := { g with stack := .ref a :: rest, pc := g.pc + 3 }) hg hlocked hentered hout (a := a) (rest := rest) rfl hd9 hlocks
  have hlt : a < ((W.setVm vm₁).setVm vm₂).heap.size := (Array.getElem?_eq_some_iff.mp hcell).1
  have hU := heapAt_setCell_self (s := (W.setVm vm₁).setVm vm₂) (plainBareV T.toThrowableT (freshCell P1.m.cls kX) a u0 sen msg) hlt
  refine ⟨_, st1 _ (fun acts => ?_), hrun, hended, hWU, hsame.weaken (fun y hy hlt' => ?_) (Nat.le_refl _) (Nat.le_refl _), _, hU, rfl, rfl, rfl⟩
  · rw [doInvoke_state]
    exact st2 _ hwalk
  · rcases List.mem_append.mp hy with h1 | h1
    · exact h1
    · exfalso
      have hb : y.base = a := by
        simp only [List.mem_cons, List.not_mem_nil, or_false] at h1
        rcases h1 with rfl | rfl | rfl | rfl | rfl <;> rfl
      rw [hb] at hlt'
      exact Nat.not_lt.mpr hnew hlt'
/-- thrown: which object, of which class; what else has changed -/
def tx_T (E : String) (PX : State → State → Prop) (mc ms : Nat) (free : Addr → Prop) : Array Value → State → Outcome → State → Prop := fun _ st o t =>
  ∃ (q : Addr) (ce : Cell) (L : List Loc), o = .threw q ∧ t.heap[q]? = some ce ∧ ce.vm = .none ∧ st.vm.findClass E = some ce.cls ∧ PX st t ∧ st.WarmedH t.vm ∧ st.sameButNew ({ t with vm := st.vm } : State) L mc ms ∧ ∀ z ∈ L, free z.base
def tx_PX {S : Type} (D : va_G) (n : Nat) (ad : Nat → Nat) (wd : S → Nat → va_E) (sz : Nat) (post : S → Prop) : State → State → Prop := fun st t => (∃ x, post x ∧ va_P D cL (gw n ad (wd x)) t.heap) ∧ va_F (gA n ad sz) st t
/-- a method that throws an E, always -/
def gX (l : Launch) (y : MethodName) (b : ByteArray) (ml : Nat) (r : Option FieldType) (rm : Room) (D : va_G) (tys : List (ClassId × FieldType)) (Z : (Nat → Prop) → State → Prop) {S : Type} (n : Nat) (ad : Nat → Nat) (wd : S → Nat → va_E) (av : List Value) (x : S) (E : String) (post : S → Prop) : Prop :=
  ∀ sz : Nat, MetFree l y (headSpec (Cond.code y b ml r :: wW) rm) (va_Pc av (gPre D tys Z n ad (wd x) sz)) (fun _ _ _ _ _ => True) (tx_T E (tx_PX D n ad wd sz post) rm.cells rm.slots (gA n ad sz))
def tx_MQ (below : List Frame) (Qx : Array Value → State → Outcome → State → Prop) (a : Array Value) (s : State) : State → Prop := fun t => ∃ o, t.status = .running ∧ Ended t below o ∧ Qx a s o t
theorem gX_enter {l : Launch} {y : MethodName} {b : ByteArray} {ml : Nat} {r : Option FieldType} {rm : Room} {D : va_G} {tys : List (ClassId × FieldType)} {Z : (Nat → Prop) → State → Prop} {S : Type} {n : Nat} {ad : Nat → Nat} {wd : S → Nat → va_E} {av : List Value} {x : S} {E : String} {post : S → Prop} (hy : plainName y.cls = true) (hlen : (lg_sl av).length ≤ ml)
    (body : ∀ (p : Program) (e : Env) (s : State) (m : MethodId) (below : List Frame) (meth : Method) (c : Code) (ls : Array Slot), p.tables.exec = Jvm.exec → c.code = b → meth.sig.returnType = r → (∀ w ∈ wW, w.before av.toArray s = true) → s.vm.findClass y.cls = some m.cls → meth.locks = false → c.maxLocals = ml → lv_has ls ml (lv_args 0 av) → va_P D cL (gw n ad (wd x)) s.heap → va_K D cL tys s → Z (gA n ad s.heap.size) s → va_S (gA n ad s.heap.size) s.heap s.heap [] → (∀ z ∈ c.exceptionTable.toList, False) →
      W p l e rm s m av.toArray below meth c s.heap [] 0 0 (tx_MQ below (tx_T E (tx_PX D n ad wd s.heap.size post) rm.cells rm.slots (gA n ad s.heap.size)) av.toArray s) (F0 m 0 ls [])) : gX l y b ml r rm D tys Z n ad wd av x E post := by
  intro sz
  refine MetFree.of_bodyS (code := b) (maxLocals := ml) (ret := r) hy ?_ ?_
  · intro args s m h hn
    obtain ⟨meth, c, h1, h2, h3, h4, h5, h6, -, -⟩ := Cond.code_spec hn (atoms_spec (ws := Cond.code y b ml r :: wW) h _ List.mem_cons_self)
    exact ⟨meth, c, h1, h2, h3, h4, h5, h6⟩
  · intro p e s m args below meth c s₁ B hml hv _
    obtain ⟨rfl, rfl, hP, hK, hZ⟩ := hv
    have hts := atoms_spec (ws := Cond.code y b ml r :: wW) B.pre
    have hno : ∀ z ∈ c.exceptionTable.toList, False := fun z hz => by
      have h1 := B.noHandlers (hts _ List.mem_cons_self)
      have h2 : c.exceptionTable.toList = [] := by
        have h3 : c.exceptionTable = #[] := Array.isEmpty_iff.mp h1
        rw [h3]
      rw [h2] at hz
      cases hz
    have hh0 : s₁.heap = s.heap := by rw [B.state]; rfl
    have k := body p e s m below meth c _ B.exec B.bytes B.returns (fun w hw => hts w (List.mem_cons_of_mem _ hw)) (findClass_of_methodNamed B.named) B.notSynchronized hml (lv_entry av hlen) hP hK hZ va_S.rf hno
    rw [← lg_entry_eq] at k
    obtain ⟨t, a1, o, b1, b2, b3⟩ := k s₁ hh0 (Stand.of_body B)
    exact ⟨t, o, a1, b1, b2, b3⟩
/-- the frame with q thrown over it -/
def xW (p : Program) (l : Launch) (e : Env) (R : Room) (s : State) (m : MethodId) (args : Array Value) (below : List Frame) (meth : Method) (c : Code) (H : Heap) (locs : List Loc) (cells slots : Nat) (Q : State → Prop) (g : JFrame) (q : Addr) : Prop :=
  ∀ T : State, T.heap = H → Stand p l e R s m args below meth c T locs cells slots → ∃ t, Steps p.tables e below ((T.setTop g).pushFrame (.throwing q)) t ∧ Q t
section TX
variable {p : Program} {l : Launch} {e : Env} {R : Room} {s : State} {m : MethodId} {args : Array Value} {below : List Frame} {meth : Method} {c : Code} {H : Heap} {locs : List Loc} {cells slots : Nat} {Q : State → Prop}
variable {cc : ByteArray} {pc nL : Nat} {ls : Array Slot} {rest st0 : List Value} {D : va_G} {tys : List (ClassId × FieldType)} {Z : (Nat → Prop) → State → Prop} {n : Nat} {ad : Nat → Nat} {A : Nat → Prop} {H0 : Heap}
variable {S : Type} {wd : S → Nat → va_E} {x : S} {y : MethodName} {b : ByteArray} {ml np index : Nat} {r0 : Option FieldType} {rm : Room} {own : String} {As : List Value}
/-- it leaves this method -/
theorem tx_out {E : String} {post : S → Prop} {mc ms : Nat} {q : Addr} {ce : Cell} (hno : ∀ z ∈ c.exceptionTable.toList, False) (hlocks : meth.locks = false) (hP : va_P D cL (gw n ad (wd x)) H) (hS : va_S (gA n ad s.heap.size) s.heap H locs) (hp : post x) (hcell : H[q]? = some ce) (hv : ce.vm = .none) (hcl : s.vm.findClass E = some ce.cls) (hc : cells ≤ mc) (hs : slots ≤ ms) :
    xW p l e R s m args below meth c H locs cells slots (tx_MQ below (tx_T E (tx_PX D n ad wd s.heap.size post) mc ms (gA n ad s.heap.size)) args s) (F0 m pc ls rest) q := by
  intro T hT X
  obtain ⟨st1, hrun, hend, hW, hsm⟩ := X.leaveThrown q (g := F0 m pc ls rest) rfl rfl rfl (fun z hz => (hno z hz).elim) hlocks
  have hh : (T.setFrames (.throwing q :: below)).heap = H := hT
  exact ⟨_, st1, .threw q, hrun, hend, q, ce, locs, rfl, by rw [hh]; exact hcell, hv, hcl, ⟨⟨x, hp, by rw [hh]; exact hP⟩, hS.F hh⟩, hW, hsm.mono hc hs, hS.2.2⟩
/-- invokevirtual of a method that throws -/
theorem tx_call {E : String} {post : S → Prop} (hx : p.tables.exec = Jvm.exec) (hb : c.code = cc) (hml : c.maxLocals = nL) (hown : s.vm.findClass own = some m.cls) (htw : ∀ w ∈ wW, w.before args s = true) (hK : va_K D cL tys s) (hP : va_P D cL (gw n ad (wd x)) H) (hS : va_S A H0 H locs) (k0 : Nat) (hM : gX l y b ml r0 rm D tys Z n ad wd (.ref (ad k0) :: As) x E post)
    (hz : gZ Z) (hZ : ∀ U : State, U.heap = H → s.WarmedH U.vm → Z (gA n ad H.size) U) (hA : ∀ q, gA n ad H.size q → A q) (h0 : k0 < n) {ci : Nat} {fs : List Value} {T0 : u_T} {N : Nat} (he : wd x k0 = .inr (ci, fs)) (hc : cL[ci]? = some (y.cls, T0, N))
    (hlk : Cond.methodLink own index y ∈ wW) (hin : Cond.instanceMethod y ∈ wW) (hse : Cond.selects y.cls y y ∈ wW) (hini : Cond.initialized y.cls ∈ wW) (hcd : Cond.code y b ml r0 ∈ wW) (hmp : mP y np) (hR : rm.frames + 1 ≤ R.frames ∧ 8 + (ml + 11) + rm.locals ≤ R.locals) (hn : As.length = np) (hsz : ls.size = nL) (hst : st0 = As.reverse ++ .ref (ad k0) :: rest) (hW : (rest.map fun v => v.category).sum ≤ 8) (hdg : decode cc pc = .ok (.invokevirtual index, 3)) (hf : cells + rm.cells ≤ R.cells ∧ slots + rm.slots ≤ R.slots)
    (kx : ∀ (q : Addr) (ce : Cell) (x1 : S) (H1 : Heap) (locs1 : List Loc), post x1 → va_P D cL (gw n ad (wd x1)) H1 → H.size ≤ H1.size → (∀ z : Nat, z < H.size → ¬ gA n ad H.size z → H1[z]? = H[z]?) → va_S A H0 H1 locs1 → H1[q]? = some ce → ce.vm = .none → s.vm.findClass E = some ce.cls → xW p l e R s m args below meth c H1 locs1 (cells + rm.cells) (slots + rm.slots) Q (F0 m pc ls rest) q) :
    W p l e R s m args below meth c H locs cells slots Q (F0 m pc ls st0) := by
  intro T hT X
  subst hst
  obtain ⟨cellB, hcellB, hobB, hclB⟩ := va_recv hK hP hc (gw_at' h0 he)
  obtain ⟨mk, methM, hnamed, hmethM, hstM, habM⟩ := Cond.instanceMethod_spec (htw _ hin)
  obtain ⟨methM', cM, hmethM', hcM, -, hlM, -, -, -, hsigM⟩ := Cond.code_spec hnamed (htw _ hcd)
  cases hmethM.symm.trans hmethM'
  obtain ⟨c2, r2, m2, q1, q2, q3, q4, kP, hkP, hkPi⟩ := Cond.selects_spec (htw _ hse)
  cases hclB.symm.trans q1
  cases (State.methodFound?_of_named hnamed ⟨hmp.1, hmp.2.1⟩).symm.trans q2
  cases hnamed.symm.trans q3
  have hselP : selectMethod e.platform s.vm cellB.cls mk = .method mk := by rw [Launch.admits_selectMethod X.admits]; exact q4
  have hnp : As.length = methM.sig.parameters.length := by
    have h2 := hmp.2.2
    rw [hsigM] at h2
    exact hn.trans (Option.some.inj h2).symm
  obtain ⟨vm₁, X₁, hstep₁⟩ := X.invokevirtual hx hown (htw _ hlk) hnamed hmethM hstM hkP hkPi ⟨hmp.1, hmp.2.1⟩ (a := ad k0) (cell := cellB) (by rw [hT]; exact hcellB)
    (fun z h => by rw [h] at hobB; cases hobB) hselP hmethM habM hkP hkPi (g := F0 m pc ls (As.reverse ++ .ref (ad k0) :: rest)) rfl (argsL := As) (rest := rest) hnp rfl (by rw [hb]; exact hdg)
  have hU : (T.setVm vm₁).heap = H := hT
  have hn1 : (T.setVm vm₁).methodNamed? y = some mk := X₁.named hnamed
  have hws : ∀ w ∈ (Cond.code y b ml r0 :: wW), w.before (Value.ref (ad k0) :: As).toArray (T.setVm vm₁) = true := fun w hw => word_at X₁.warmed (wW_G hcd w hw).2 (htw _ (wW_G hcd w hw).1)
  obtain ⟨kY, hkY, -⟩ := className_of_methodNamed hn1
  have hinitY : kY.init = .initialized := Cond.initialized_spec (findClass_of_methodNamed hn1) hkY (word_at (a' := (Value.ref (ad k0) :: As).toArray) X₁.warmed (good_of_word (wW_good hini)) (htw _ hini))
  obtain ⟨methY, cY, hmY, hcY, -, hlY, -, -, -, -⟩ := Cond.code_spec hn1 (hws _ List.mem_cons_self)
  have hA1 : At (T.setVm vm₁) m c below := X₁.here
  have hdg' : decode c.code (F0 m pc ls rest).pc = .ok (.invokevirtual index, 3) := by rw [hb]; exact hdg
  have happ : (headSpec (Cond.code y b ml r0 :: wW) rm).appliesLoose y e.platform ((T.setVm vm₁).calling (F0 m pc ls rest) mk (Value.ref (ad k0) :: As).toArray) = true :=
    Spec.appliesLoose_calling (g := F0 m pc ls rest) hA1 hdg' hn1 hkY hinitY
      (X₁.room_calling (g := F0 m pc ls rest) (R' := rm) (hsz.trans hml.symm) hmY hcY hR.1 (by rw [hlY]; have := hR.2; show 2 * 0 + (rest.map fun v => v.category).sum + (ml + 11) + rm.locals ≤ R.locals; omega) hf.1 hf.2) (atoms_intro hws)
  obtain ⟨mid, hmid⟩ := hA1.above
  have hfr : ((T.setVm vm₁).setTop (F0 m pc ls rest)).frames = (.java (F0 m pc ls rest) :: mid) ++ below := by rw [State.frames_setTop' (F0 m pc ls rest) hA1.top, hmid]; rfl
  have hPc : va_Pc (.ref (ad k0) :: As) (gPre D tys Z n ad (wd x) H.size) (Value.ref (ad k0) :: As).toArray ((T.setVm vm₁).calling (F0 m pc ls rest) mk (Value.ref (ad k0) :: As).toArray) :=
    gc_blind hz _ _ _ _ (gc_at hP hK hZ (T.setVm vm₁) hU X₁.warmed)
  obtain ⟨o, s₂, hsteps, -, hend, hq⟩ := Steps.callFree (hM H.size) p X₁.admits X₁.cas X₁.clock (acts := []) hfr happ hPc trivial
  rw [State.frames_setTop' (F0 m pc ls rest) hA1.top, X₁.tail] at hend
  obtain ⟨q, ce, L, rfl, hce, hcv, hcl, ⟨⟨x1, hp1, hP1⟩, hF⟩, hW2, hsm, hL⟩ := hq
  obtain ⟨T', X', -, -, hs₂⟩ := X₁.outOfThrown (g := F0 m pc ls rest) rfl (mk := mk) (a := (Value.ref (ad k0) :: As).toArray) hend hW2 hsm
  have hT' : T'.heap = s₂.heap := by rw [hs₂]; exact (throwing_heap T' (F0 m pc ls rest) q).symm
  have hst0 : ((T.setVm vm₁).calling (F0 m pc ls rest) mk (Value.ref (ad k0) :: As).toArray).heap = H := hT
  obtain ⟨hz1, hk1⟩ := hF
  have hsize : (State.pushFrame ((T.setVm vm₁).setTop (F0 m pc ls rest)) (.invoking mk (Value.ref (ad k0) :: As).toArray)).heap = H := hT
  rw [hsize] at hz1 hk1
  have hS' : va_S A H0 T'.heap (locs ++ L) := by
    refine ⟨?_, fun z h1 h2 => ?_, fun z hz => ?_⟩
    · rw [hT']; exact Nat.le_trans hS.1 hz1
    · rw [hT', hk1 z (Nat.lt_of_lt_of_le h1 hS.1) (fun q => h2 (hA z q))]
      exact hS.2.1 z h1 h2
    · rcases List.mem_append.mp hz with h | h
      · exact hS.2.2 z h
      · exact hA _ (hL z h)
  have hclE : s.vm.findClass E = some ce.cls := by
    have h1 : (T.setVm vm₁).vm.findClass E = some ce.cls := hcl
    rw [X₁.warmed.alike.findClass] at h1
    exact h1
  obtain ⟨t, a1, b1⟩ := kx q ce x1 T'.heap (locs ++ L) hp1 (by rw [hT']; exact hP1) (by rw [hT']; exact hz1) (fun z h1 h2 => by rw [hT']; exact hk1 z h1 h2) hS' (by rw [hT']; exact hce) hcv hclE T' rfl X'
  refine ⟨t, hstep₁ _ (fun acts => ?_), b1⟩
  rw [doInvoke_state]
  rw [hs₂] at hsteps
  exact hsteps.trans a1
end TX
end
section
/-! what was there when the law began lies as it was: words, tables and strings of that hour hold on. The throw itself. My own rows. -/
def tZ (s0 : State) : (Nat → Prop) → State → Prop := fun A U => s0.WarmedH U.vm ∧ ∀ a : Nat, a < s0.heap.size → ¬ A a ∧ U.heap[a]? = s0.heap[a]?
theorem tZ_ok (s0 : State) : gZ (tZ s0) := by
  intro A A' U U' h hW hh hA
  refine ⟨State.WarmedH.trans h.1 hW, fun a ha => ?_⟩
  obtain ⟨h1, h2⟩ := h.2 a ha
  have h3 : s0.heap[a]? = some s0.heap[a] := Array.getElem?_eq_getElem ha
  have h4 : a < U.heap.size := by
    rw [h3] at h2
    exact (Array.getElem?_eq_some_iff.mp h2).1
  refine ⟨fun q => h1 (hA a q), ?_⟩
  rw [hh a h4 h1]
  exact h2
theorem tZ_at {s0 s : State} {n : Nat} {ad : Nat → Nat} {H : Heap} {locs : List Loc} (h : tZ s0 (gA n ad s.heap.size) s) (hS : va_S (gA n ad s.heap.size) s.heap H locs) : ∀ U : State, U.heap = H → s.WarmedH U.vm → tZ s0 (gA n ad H.size) U :=
  fun U hU hW => tZ_ok s0 _ _ _ _ h hW (fun q h1 h2 => by rw [hU]; exact hS.2.1 q h1 h2) (gA_mono hS.1)
def tB (s0 : State) : Nat → Prop := fun a => s0.heap.size ≤ a
theorem tZ_sub {s0 : State} {A : Nat → Prop} {U : State} (h : tZ s0 A U) : ∀ q, A q → tB s0 q := fun q hq => Nat.le_of_not_lt (fun z => (h.2 q z).1 hq)
theorem tZ_heap {s0 : State} {A : Nat → Prop} {U : State} (h : tZ s0 A U) : ∀ a : Nat, a < s0.heap.size → ¬ tB s0 a → U.heap[a]? = s0.heap[a]? := fun a ha _ => (h.2 a ha).2
theorem tZ_Z {s0 : State} {A : Nat → Prop} {U : State} {C n d : String} {v : Value} (h : tZ s0 A U) (hz : va_Z C n d v (tB s0) s0 s0.heap) : va_Z C n d v A U U.heap := ((hz.kept (tZ_heap h)).moved h.1.alike).narrow (tZ_sub h)
theorem tZ_T {s0 : State} {A : Nat → Prop} {U : State} {ty : FieldType} {t N : Nat} {f : Nat → Value} (h : tZ s0 A U) (hz : va_T ty t N f (tB s0) s0 s0.heap) : va_T ty t N f A U U.heap := ((hz.kept (tZ_heap h)).moved h.1.alike).narrow (tZ_sub h)
theorem tZ_st {s0 : State} {A : Nat → Prop} {U : State} (h : tZ s0 A U) : StaticsKept s0 U := fun y cy hy _ => by
  rw [(h.2 y (Array.getElem?_eq_some_iff.mp hy).1).2]
  exact hy
def tX_N : String := "java/util/NoSuchElementException"
def tX_S : String := "java/lang/IllegalStateException"
def tX_A : String := "java/lang/IllegalArgumentException"
def tX_up : List String := ["java/lang/RuntimeException", "java/lang/Exception"]
def tX_wN : List Cond := Bundle.ownAtomsX cN_TG 174 tX_N 13 prog_20_method_4_code tX_up ++ [.classLink cN_TG 170 tX_N, .initialized tX_N]
def tX_wS : List Cond := Bundle.ownAtomsX cN_TG 148 tX_S 7 prog_15_method_2_code tX_up ++ [.classLink cN_TG 144 tX_S, .initialized tX_S]
def tX_wA : List Cond := Bundle.ownAtomsX cN_TG 213 tX_A 7 prog_14_method_2_code tX_up ++ [.classLink cN_TG 209 tX_A, .initialized tX_A]
theorem tX_rN : tX_wN.all Cond.ridesK = true := by decide +kernel
theorem tX_rS : tX_wS.all Cond.ridesK = true := by decide +kernel
theorem tX_rA : tX_wA.all Cond.ridesK = true := by decide +kernel
theorem gw_ns {D : va_G} {cl : List vw_C} {n k : Nat} {ad : Nat → Nat} {E : Nat → va_E} {H : Heap} {cell : Cell} (hP : va_P D cl (gw n ad E) H) (hk : k < n) (hc : H[ad k]? = some cell) : cell.vm.isStatics = false := by
  have h := hP k _ (gw_at hk)
  unfold va_at at h
  generalize E k = z at h
  cases z with
  | inl a =>
    have h1 : H[ad k]? = some (vp_cell a.1 a.2) := h
    cases Option.some.inj (hc.symm.trans h1)
    obtain ⟨c0, n0, f0⟩ := a
    rcases f0 with f0 | f0 | f0 | f0 | f0 <;> rfl
  | inr o =>
    obtain ⟨r, -, cl1, h2, -, h3, -⟩ := h
    cases Option.some.inj (hc.symm.trans h2)
    rw [h3]
    rfl
section TXN
variable {p : Program} {l : Launch} {e : Env} {R : Room} {s : State} {m : MethodId} {args : Array Value} {below : List Frame} {meth : Method} {c : Code} {H : Heap} {locs : List Loc} {cells slots : Nat}
variable {cc : ByteArray} {pc : Nat} {ls : Array Slot} {D : va_G} {n : Nat} {ad : Nat → Nat} {S : Type} {wd : S → Nat → va_E} {x x0 : S} {own : String}
/-- new E(text); throw -/
theorem tx_throw {E : String} {post : S → Prop} {ik ic ix idx : Nat} {rx : ByteArray} {tx : String} {sa mc ms : Nat} (hx : p.tables.exec = Jvm.exec) (hb : c.code = cc) (hml : ls.size = c.maxLocals) (hown : s.vm.findClass own = some m.cls) (hl : l.stackTraces = false) (hno : ∀ z ∈ c.exceptionTable.toList, False) (hlocks : meth.locks = false)
    (y0 : decode rx 0 = .ok (.aload_n 0, 1)) (y1 : decode rx 1 = .ok (.aload_n 1, 1)) (y2 : decode rx 2 = .ok (.invokespecial ix, 3)) (y5 : decode rx 5 = .ok (.return_, 1)) (hE : Bundle.fit E = true)
    (hw : ∀ w ∈ Bundle.ownAtomsX own ic E ix rx tX_up ++ [.classLink own ik E, .initialized E], w.before args s = true) (hv : vk_R own idx tx sa s)
    (hP0 : va_P D cL (gw n ad (wd x0)) s.heap) (hP : va_P D cL (gw n ad (wd x)) H) (hS : va_S (gA n ad s.heap.size) s.heap H locs) (hp : post x) (hcm : cells + 1 ≤ mc) (hsm : slots + 6 ≤ ms) (hcR : cells + 1 ≤ R.cells) (hsR : slots + 6 ≤ R.slots) (hF : 5 < R.frames) (hL : 82 ≤ R.locals)
    (d0 : decode cc pc = .ok (.new ik, 3)) (d1 : decode cc (pc + 3) = .ok (.dup, 1)) (d2 : decode cc (pc + 4) = .ok (.ldc idx, 2)) (d3 : decode cc (pc + 6) = .ok (.invokespecial ic, 3)) (d4 : decode cc (pc + 9) = .ok (.athrow, 1)) :
    W p l e R s m args below meth c H locs cells slots (tx_MQ below (tx_T E (tx_PX D n ad wd s.heap.size post) mc ms (gA n ad s.heap.size)) args s) (F0 m pc ls []) := by
  intro T hT X
  have htr : e.platform.stackTraces = false := by rw [X.admits.platform]; exact hl
  have hw1 : ∀ a ∈ Bundle.ownAtomsX own ic E ix rx tX_up, a.before args s = true := fun a ha => hw a (List.mem_append_left _ ha)
  obtain ⟨vm1, cC, kC, hfc, hk, -, -, X1, st1⟩ := X.newCold hx (own := own) (C := E) (index := ik) (n := 6) hown (hw _ (List.mem_append_right _ List.mem_cons_self)) (hw1 _ (by simp [Bundle.ownAtomsX])) (hw _ (List.mem_append_right _ (List.mem_cons_of_mem _ List.mem_cons_self)))
    (g := F0 m pc ls []) rfl (by rw [hb]; exact d0) hcR hsR
  have hc1 : ((T.setVm vm1).pushCell { cls := cC, slots := kC.instanceTypes.map defaultValue, vm := .none }).heap[T.heap.size]? = some (freshCell cC kC) := by
    show (T.heap.push _)[T.heap.size]? = _
    simp
  have hh1 : ((T.setVm vm1).pushCell { cls := cC, slots := kC.instanceTypes.map defaultValue, vm := .none }).heap = H.push { cls := cC, slots := kC.instanceTypes.map defaultValue, vm := .none } := by
    show T.heap.push _ = _
    rw [hT]
  rw [hT] at hc1 st1
  generalize (T.setVm vm1).pushCell { cls := cC, slots := kC.instanceTypes.map defaultValue, vm := .none } = T1 at X1 st1 hc1 hh1
  have hlocs : ∀ z ∈ locs, ∀ cell, s.heap[z.base]? = some cell → cell.vm.isStatics = false := fun z hz cell hcell => by
    rcases hS.2.2 z hz with ⟨k, hk1, hk2⟩ | h
    · rw [hk2] at hcell
      exact gw_ns hP0 hk1 hcell
    · exact absurd (Array.getElem?_eq_some_iff.mp hcell).1 (Nat.not_lt.mpr h)
  obtain ⟨U, hst, hrun, hend, hW, hsame, ce, hce, hcl, hcv, hUh⟩ := tx_ctor X1 hx htr (own := own) (cls := E) (names := tX_up) (ic := ic) y0 y1 y2 y5 hown hE (by decide +kernel) hw1 hlocs (a := H.size) hfc hk hc1 hS.1 (msg := .ref sa) rfl
    (g := F0 m (pc + 6) ls [.ref sa, .ref H.size, .ref H.size]) rfl hml rfl rfl (rest := []) rfl (by rw [hb]; exact d3) (by rw [hb]; exact d4) (fun z hz => (hno z hz).elim) (by exact hF) (by exact hL) hlocks
  have hkeep : ∀ q : Nat, q < H.size → U.heap[q]? = H[q]? := fun q hq => by
    rw [hUh, hh1, Array.getElem?_setIfInBounds_ne (by omega), Array.getElem?_push_lt hq, Array.getElem?_eq_getElem hq]
  have hsz : U.heap.size = H.size + 1 := by rw [hUh, hh1, Array.size_setIfInBounds, Array.size_push]
  refine ⟨U, st1 _ ?_, .threw H.size, hrun, hend, H.size, ce, locs, rfl, hce, hcv, by rw [hcl]; exact hfc, ⟨⟨x, hp, hP.kept (fun k q hq => ?_)⟩, by rw [hsz]; have := hS.1; omega, fun q h1 h2 => ?_⟩, hW, hsame.mono hcm hsm, hS.2.2⟩
  · show Steps p.tables e below (T1.setTop (F0 m (pc + 3) ls [.ref H.size])) _
    jvm_step X1.here [X1.here.top, hx, hb, d1, Value.category]
    exact X1.ldcString hx (own := own) (index := idx) (a := sa) hown hv.1 hv.2 (g := F0 m (pc + 4) ls [.ref H.size, .ref H.size]) rfl (by rw [hb]; exact d2) _ hst
  · obtain ⟨h1, rfl⟩ := gw_inv hq
    exact hkeep _ (gw_lt hP h1)
  · rw [hkeep q (Nat.lt_of_lt_of_le h1 hS.1)]
    exact hS.2.1 q h1 h2
end TXN
/-- what holds when the law begins: the words for the throws, the strings, the three tables of Works -/
def tX_str : List (Nat × String) := [(235, "there are 120 bits"), (227, "there is no such bit"), (239, "the number is out of its range"), (243, "the bound would be too great"), (237, "there is no such gate"), (245, "the bounds are too great for the gate"), (146, "the bit's bound is too great to open it"), (172, "there is no such input and no such line ahead"), (176, "there are 24 lines"), (185, "there is no such line"), (211, "there is no such count")]
def tW1 (j : Nat) : Int32 := Int32.ofInt (tp_w1 j)
def tW2 (j : Nat) : Int32 := Int32.ofInt (tp_w2 j)
def tW3 (j : Nat) : Int32 := Int32.ofInt (tp_e8 j)
def tO (s0 : State) (zt : Nat → Nat) : Prop :=
  (∀ w ∈ tX_wN, w.before #[] s0 = true) ∧ (∀ w ∈ tX_wS, w.before #[] s0 = true) ∧ (∀ w ∈ tX_wA, w.before #[] s0 = true) ∧ (∀ q ∈ tX_str, ∃ a, vk_R cN_TG q.1 q.2 a s0) ∧
  (va_Z cN_Wo "FIRST_WEIGHTS" "[I" (.ref (zt 0)) (tB s0) s0 s0.heap ∧ va_Z cN_Wo "SECOND_WEIGHTS" "[I" (.ref (zt 1)) (tB s0) s0 s0.heap ∧ va_Z cN_Wo "EIGHTHS" "[I" (.ref (zt 2)) (tB s0) s0 s0.heap) ∧
  (va_T .int (zt 0) 8 (fun j => .int (tW1 j)) (tB s0) s0 s0.heap ∧ va_T .int (zt 1) 8 (fun j => .int (tW2 j)) (tB s0) s0 s0.heap ∧ va_T .int (zt 2) 8 (fun j => .int (tW3 j)) (tB s0) s0 s0.heap)
section TZR
variable {s0 : State} {zt : Nat → Nat} {A : Nat → Prop} {U : State} {a : Array Value}
theorem tO_N (h : tO s0 zt) (hZ : tZ s0 A U) : ∀ w ∈ tX_wN, w.before a U = true := rideK_all hZ.1 (tZ_st hZ) tX_rN h.1
theorem tO_S (h : tO s0 zt) (hZ : tZ s0 A U) : ∀ w ∈ tX_wS, w.before a U = true := rideK_all hZ.1 (tZ_st hZ) tX_rS h.2.1
theorem tO_A (h : tO s0 zt) (hZ : tZ s0 A U) : ∀ w ∈ tX_wA, w.before a U = true := rideK_all hZ.1 (tZ_st hZ) tX_rA h.2.2.1
theorem tO_str (h : tO s0 zt) (hZ : tZ s0 A U) (k : Nat) {q : Nat × String} (hq : tX_str[k]? = some q) : ∃ a, vk_R cN_TG q.1 q.2 a U := by
  obtain ⟨a, ha⟩ := h.2.2.2.1 q (List.mem_of_getElem? hq)
  exact ⟨a, ha.warm hZ.1⟩
theorem tO_z0 (h : tO s0 zt) (hZ : tZ s0 A U) : va_Z cN_Wo "FIRST_WEIGHTS" "[I" (.ref (zt 0)) A U U.heap := tZ_Z hZ h.2.2.2.2.1.1
theorem tO_z1 (h : tO s0 zt) (hZ : tZ s0 A U) : va_Z cN_Wo "SECOND_WEIGHTS" "[I" (.ref (zt 1)) A U U.heap := tZ_Z hZ h.2.2.2.2.1.2.1
theorem tO_z2 (h : tO s0 zt) (hZ : tZ s0 A U) : va_Z cN_Wo "EIGHTHS" "[I" (.ref (zt 2)) A U U.heap := tZ_Z hZ h.2.2.2.2.1.2.2
theorem tO_t0 (h : tO s0 zt) (hZ : tZ s0 A U) : va_T .int (zt 0) 8 (fun j => .int (tW1 j)) A U U.heap := tZ_T hZ h.2.2.2.2.2.1
theorem tO_t1 (h : tO s0 zt) (hZ : tZ s0 A U) : va_T .int (zt 1) 8 (fun j => .int (tW2 j)) A U U.heap := tZ_T hZ h.2.2.2.2.2.2.1
theorem tO_t2 (h : tO s0 zt) (hZ : tZ s0 A U) : va_T .int (zt 2) 8 (fun j => .int (tW3 j)) A U U.heap := tZ_T hZ h.2.2.2.2.2.2.2
end TZR
section TTI
variable {p : Program} {l : Launch} {e : Env} {R : Room} {s : State} {m : MethodId} {args : Array Value} {below : List Frame} {meth : Method} {c : Code} {H : Heap} {locs : List Loc} {cells slots : Nat} {Q : State → Prop}
variable {cc : ByteArray} {pc : Nat} {ls : Array Slot} {rest : List Value} {A : Nat → Prop} {t N : Nat} {f : Nat → Int32}
theorem t_ti (hx : p.tables.exec = Jvm.exec) (hb : c.code = cc) (hT : va_T .int t N (fun j => .int (f j)) A s s.heap) (hS : va_S A s.heap H locs) {g : Nat} (hg : g < N) (hN : N < 2 ^ 31) (hdg : decode cc pc = .ok (.iaload, 1))
    (kk : W p l e R s m args below meth c H locs cells slots Q (F0 m (pc + 1) ls (.int (f g) :: rest))) : W p l e R s m args below meth c H locs cells slots Q (F0 m pc ls (.int (nI g) :: .ref t :: rest)) :=
  va_ti hx hb hT hS (vp_in_nI hg hN) (v := .int (f g)) (by show Value.int (f _) = _; rw [nI_clamp (by omega)]) hdg kk
end TTI
abbrev rX (f lo : Nat) : Room := { frames := f, cells := 1, slots := 6, locals := lo }
section TXT
variable {p : Program} {l : Launch} {e : Env} {R : Room} {s : State} {m : MethodId} {args : Array Value} {below : List Frame} {meth : Method} {c : Code} {H : Heap} {locs : List Loc} {cells slots : Nat}
variable {cc : ByteArray} {pc : Nat} {ls : Array Slot} {D : va_G} {n : Nat} {ad : Nat → Nat} {S : Type} {wd : S → Nat → va_E} {x x0 : S} {s0 : State} {zt : Nat → Nat}
theorem tx_thN {post : S → Prop} {idx : Nat} {tx : String} {sa mc ms : Nat} (hx : p.tables.exec = Jvm.exec) (hb : c.code = cc) (hml : ls.size = c.maxLocals) (hown : s.vm.findClass cN_TG = some m.cls) (hl : l.stackTraces = false) (hno : ∀ z ∈ c.exceptionTable.toList, False) (hlocks : meth.locks = false) (h0 : tO s0 zt) (hZ : tZ s0 (gA n ad s.heap.size) s) (hv : vk_R cN_TG idx tx sa s)
    (hP0 : va_P D cL (gw n ad (wd x0)) s.heap) (hP : va_P D cL (gw n ad (wd x)) H) (hS : va_S (gA n ad s.heap.size) s.heap H locs) (hp : post x) (hcm : cells + 1 ≤ mc) (hsm : slots + 6 ≤ ms) (hcR : cells + 1 ≤ R.cells) (hsR : slots + 6 ≤ R.slots) (hF : 5 < R.frames) (hL : 82 ≤ R.locals)
    (d0 : decode cc pc = .ok (.new 170, 3)) (d1 : decode cc (pc + 3) = .ok (.dup, 1)) (d2 : decode cc (pc + 4) = .ok (.ldc idx, 2)) (d3 : decode cc (pc + 6) = .ok (.invokespecial 174, 3)) (d4 : decode cc (pc + 9) = .ok (.athrow, 1)) :
    W p l e R s m args below meth c H locs cells slots (tx_MQ below (tx_T tX_N (tx_PX D n ad wd s.heap.size post) mc ms (gA n ad s.heap.size)) args s) (F0 m pc ls []) :=
  tx_throw (rx := prog_20_method_4_code) hx hb hml hown hl hno hlocks (by decide +kernel) (by decide +kernel) (by decide +kernel) (by decide +kernel) (by decide +kernel) (tO_N h0 hZ) hv hP0 hP hS hp hcm hsm hcR hsR hF hL d0 d1 d2 d3 d4
theorem tx_thS {post : S → Prop} {idx : Nat} {tx : String} {sa mc ms : Nat} (hx : p.tables.exec = Jvm.exec) (hb : c.code = cc) (hml : ls.size = c.maxLocals) (hown : s.vm.findClass cN_TG = some m.cls) (hl : l.stackTraces = false) (hno : ∀ z ∈ c.exceptionTable.toList, False) (hlocks : meth.locks = false) (h0 : tO s0 zt) (hZ : tZ s0 (gA n ad s.heap.size) s) (hv : vk_R cN_TG idx tx sa s)
    (hP0 : va_P D cL (gw n ad (wd x0)) s.heap) (hP : va_P D cL (gw n ad (wd x)) H) (hS : va_S (gA n ad s.heap.size) s.heap H locs) (hp : post x) (hcm : cells + 1 ≤ mc) (hsm : slots + 6 ≤ ms) (hcR : cells + 1 ≤ R.cells) (hsR : slots + 6 ≤ R.slots) (hF : 5 < R.frames) (hL : 82 ≤ R.locals)
    (d0 : decode cc pc = .ok (.new 144, 3)) (d1 : decode cc (pc + 3) = .ok (.dup, 1)) (d2 : decode cc (pc + 4) = .ok (.ldc idx, 2)) (d3 : decode cc (pc + 6) = .ok (.invokespecial 148, 3)) (d4 : decode cc (pc + 9) = .ok (.athrow, 1)) :
    W p l e R s m args below meth c H locs cells slots (tx_MQ below (tx_T tX_S (tx_PX D n ad wd s.heap.size post) mc ms (gA n ad s.heap.size)) args s) (F0 m pc ls []) :=
  tx_throw (rx := prog_15_method_2_code) hx hb hml hown hl hno hlocks (by decide +kernel) (by decide +kernel) (by decide +kernel) (by decide +kernel) (by decide +kernel) (tO_S h0 hZ) hv hP0 hP hS hp hcm hsm hcR hsR hF hL d0 d1 d2 d3 d4
theorem tx_thA {post : S → Prop} {idx : Nat} {tx : String} {sa mc ms : Nat} (hx : p.tables.exec = Jvm.exec) (hb : c.code = cc) (hml : ls.size = c.maxLocals) (hown : s.vm.findClass cN_TG = some m.cls) (hl : l.stackTraces = false) (hno : ∀ z ∈ c.exceptionTable.toList, False) (hlocks : meth.locks = false) (h0 : tO s0 zt) (hZ : tZ s0 (gA n ad s.heap.size) s) (hv : vk_R cN_TG idx tx sa s)
    (hP0 : va_P D cL (gw n ad (wd x0)) s.heap) (hP : va_P D cL (gw n ad (wd x)) H) (hS : va_S (gA n ad s.heap.size) s.heap H locs) (hp : post x) (hcm : cells + 1 ≤ mc) (hsm : slots + 6 ≤ ms) (hcR : cells + 1 ≤ R.cells) (hsR : slots + 6 ≤ R.slots) (hF : 5 < R.frames) (hL : 82 ≤ R.locals)
    (d0 : decode cc pc = .ok (.new 209, 3)) (d1 : decode cc (pc + 3) = .ok (.dup, 1)) (d2 : decode cc (pc + 4) = .ok (.ldc idx, 2)) (d3 : decode cc (pc + 6) = .ok (.invokespecial 213, 3)) (d4 : decode cc (pc + 9) = .ok (.athrow, 1)) :
    W p l e R s m args below meth c H locs cells slots (tx_MQ below (tx_T tX_A (tx_PX D n ad wd s.heap.size post) mc ms (gA n ad s.heap.size)) args s) (F0 m pc ls []) :=
  tx_throw (rx := prog_14_method_2_code) hx hb hml hown hl hno hlocks (by decide +kernel) (by decide +kernel) (by decide +kernel) (by decide +kernel) (by decide +kernel) (tO_A h0 hZ) hv hP0 hP hS hp hcm hsm hcR hsR hF hL d0 d1 d2 d3 d4
end TXT
end
section
/-! Works.work: a gate over two rows. Laid by wip/whole/part_works.py. -/

set_option maxHeartbeats 4000000 in
set_option maxRecDepth 100000 in
theorem k_Wo_work (l : Launch) (D : va_G) (ct : Nat → ClassId) (ad : Nat → Nat) (hI : gw_inj 424 ad) (x : tS) {s0 : State} {zt : Nat → Nat} (h0 : tO s0 zt) {gt k1 k2 kd : Nat} (hgt : gt < 8) (hk1 : tRow k1) (hk2 : tRow k2) (hkd : tFar kd) (hn1 : k1 ≠ 107) (hn2 : k2 ≠ 107) (hk : tKey x.1) : gMv l mY_Wo_work mB_Wo_work 6 none (rF 4 102) D (tT ct) (tZ s0) 424 ad (tD ct ad) [.ref (ad 106), .int (nI gt), .ref (ad k1), .ref (ad k2), .ref (ad kd)] x (fun x' => ∃ g0 gc gw g, x'.1 = va_up (va_up (va_up (va_up x.1 107 g0) 105 gc) 104 gw) kd g ∧ ∀ (v1 v2 : Bool) (b1 b2 : Nat), tp_near (x.1 3) (x.1 k1) v1 b1 → tp_near (x.1 3) (x.1 k2) v2 b2 → ¬ tp_far gt b1 b2 → tp_near (x.1 3) g (tp_truth gt v1 v2) 3186688) := by
  refine gMv_enter (by decide) (Nat.le_of_ble_eq_true rfl) ?_
  intro p e s m below meth c ls hx hb hr htw hown hlocks hml hl hP hK hZ hS
  have hA : ∀ k, k < 424 → gA 424 ad s.heap.size (ad k) := fun _ h => gA_in h
  have hl : lv_has ls 6 [(0, .ref (ad 106)), (1, .int (nI gt)), (2, .ref (ad k1)), (3, .ref (ad k2)), (4, .ref (ad kd))] := hl
  refine gw_nmQ (fun Q hQ => ?_)
  refine lv_iconst (v := nI 0) hx hb mD_Wo_work_0 (by decide) ?_
  refine lv_istore (lv' := [(5, .int (nI 0)), (0, .ref (ad 106)), (1, .int (nI gt)), (2, .ref (ad k1)), (3, .ref (ad k2)), (4, .ref (ad kd))]) hx hb mD_Wo_work_1 hl (by decide) rfl (fun ls hl => ?_)
  have loop : ∀ (d3 : Nat) (n : Nat) (y : tS) (H : Heap) (locs : List Loc) (ls : Array Slot), n + d3 = 9 → lv_has ls 6 [(5, .int (nI n)), (0, .ref (ad 106)), (1, .int (nI gt)), (2, .ref (ad k1)), (3, .ref (ad k2)), (4, .ref (ad kd))] → va_P D cL (gw 424 ad (tD ct ad y)) H → va_S (gA 424 ad s.heap.size) s.heap H locs → (∃ g, y.1 = va_up x.1 107 g ∧ ∀ i, i < n → g i = tW1 gt * x.1 k1 i + tW2 gt * x.1 k2 i) → W p l e (rF 4 102) s m [.ref (ad 106), .int (nI gt), .ref (ad k1), .ref (ad k2), .ref (ad kd)].toArray below meth c H locs 0 0 Q (F0 m 3 ls []) := by
    intro d3
    induction d3 using Nat.strongRecOn with
    | ind d3 ih =>
      intro n y H locs ls hd hl hP hS hinv
      refine lv_iload hx hb mD_Wo_work_3 (lv_at hl 0 rfl) ?_
      refine lv_bipush (v := nI 9) hx hb mD_Wo_work_5 (by decide) ?_
      refine lv_icmp_ge (tgt := 44) hx hb mD_Wo_work_7 rfl (fun hc => ?_) (fun hc => ?_)
      · skip
        have hn : n = 9 := by have := ts_ge (by omega) (by omega) hc; omega
        subst hn
        obtain ⟨g0, hg0, hg1⟩ := hinv
        have e7 : y.1 107 = g0 := by rw [hg0, va_up_self]
        refine lv_aload_n hx hb mD_Wo_work_44 rfl (lv_at hl 1 rfl) ?_
        refine t_get (C := cN_Wo) (T := cF_Wo) (N := 2) (ci := 6) hx hb htw wU_Wo hown hK hP 106 (by decide) rfl rfl 1 (by decide) rfl ww_103 rfl mD_Wo_work_45 ?_
        refine lv_bipush (v := nI 8) hx hb mD_Wo_work_48 (by decide) ?_
        refine lv_dup2_11 hx hb mD_Wo_work_50 rfl rfl ?_
        refine t_iald hx hb hK hP 107 9 (by decide) rfl 8 rfl (by decide) (by decide) mD_Wo_work_51 ?_
        refine va_gets hx hb (tO_z2 h0 hZ) hS hown (htw _ ww_513) (fun _ h => h) mD_Wo_work_52 ?_
        refine lv_iload_n hx hb mD_Wo_work_55 rfl (lv_at hl 2 rfl) ?_
        refine t_ti (f := tW3) hx hb (tO_t2 h0 hZ) hS (g := gt) hgt (by decide) mD_Wo_work_56 ?_
        refine lv_ldc hx hb hown (htw _ ww_515) mD_Wo_work_57 ?_
        refine lv_imul hx hb mD_Wo_work_59 ?_
        refine lv_iadd hx hb mD_Wo_work_60 ?_
        refine t_iast hx hb hK hI hA hP hS 107 9 (by decide) (fun _ => rfl) 8 rfl (by decide) (by decide) mD_Wo_work_61 (fun H locs hP hS => ?_)
        obtain ⟨x1, hx1⟩ : ∃ z, z = tU y 107 (upd (y.1 107) 8 ((y.1 107 8) + ((tW3 gt) * ((536870912 : Int32))))) := ⟨_, rfl⟩
        rw [← hx1] at hP
        have e3 : ∀ k, k ≠ 107 → x1.1 k = x.1 k := fun k hk => by rw [hx1, tU_n hk, hg0, va_up_ne _ _ hk]
        have e4 : x1.1 107 = upd g0 8 (g0 8 + tW3 gt * 536870912) := by rw [hx1, tU_1, e7]
        have hkey : tKey x1.1 := tKey_eq hk (fun k h => e3 k (by omega))
        refine lv_aload_n hx hb mD_Wo_work_62 rfl (lv_at hl 1 rfl) ?_
        refine t_get (C := cN_Wo) (T := cF_Wo) (N := 2) (ci := 6) hx hb htw wU_Wo hown hK hP 106 (by decide) rfl rfl 0 (by decide) rfl ww_102 rfl mD_Wo_work_63 ?_
        refine lv_aload_n hx hb mD_Wo_work_66 rfl (lv_at hl 1 rfl) ?_
        refine t_get (C := cN_Wo) (T := cF_Wo) (N := 2) (ci := 6) hx hb htw wU_Wo hown hK hP 106 (by decide) rfl rfl 1 (by decide) rfl ww_103 rfl mD_Wo_work_67 ?_
        refine lv_aload hx hb mD_Wo_work_70 (lv_at hl 5 rfl) ?_
        refine gc_Vv (As := [.ref (ad 107), .ref (ad kd)]) (rest := []) hx hb hml hown htw hK hP hS 5 (k_Re_refresh l D ct ad hI x1 (kr := 107) (kd := kd) (Or.inr (Or.inl rfl)) hkd hkey) gZ0_ok (fun _ _ _ => trivial) (gA_mono hS.1) (by decide) rfl rfl ww_516 ww_517 ww_518 ww_26 wC_Re_refresh mP_Re_refresh (by decide) rfl hl.1 rfl (Nat.le_of_ble_eq_true rfl) mD_Wo_work_72 ⟨Nat.le_of_ble_eq_true rfl, Nat.le_of_ble_eq_true rfl⟩ (fun x2 H locs hp2 hP _ _ hS => ?_)
        obtain ⟨gc, gw0, g, eg, hg⟩ := hp2
        have e5 : ∃ h0 : Nat → Int32, x1.1 = va_up x.1 107 h0 := ⟨upd g0 8 (g0 8 + tW3 gt * 536870912), by rw [hx1, tU_f, e7, hg0, bx_uu]⟩
        obtain ⟨h0_, e5⟩ := e5
        subst hQ
        exact gw_vret hx hb hr hlocks hP hS (⟨h0_, gc, gw0, g, by rw [eg, e5], fun v1 v2 b1 b2 q1 q2 q3 => by obtain ⟨pz, z1, z2⟩ := tp_gate_sum (r := upd g0 8 (g0 8 + tW3 gt * 536870912)) hgt q1 q2 q3 (fun i hi => by rw [pk_un (by omega)]; exact hg1 i (by omega)) (by rw [pk_us, hg1 8 (by omega)]; rfl); have z3 := hg pz (tp_truth gt v1 v2) (by rw [e3 3 (by decide), e4]; exact z1) z2; rw [e3 3 (by decide)] at z3; exact z3⟩) mD_Wo_work_75 (Nat.zero_le _) (Nat.zero_le _)
      · skip
        have hn_n : n < 9 := ts_lt (by omega) (by omega) hc
        refine lv_aload_n hx hb mD_Wo_work_10 rfl (lv_at hl 1 rfl) ?_
        refine t_get (C := cN_Wo) (T := cF_Wo) (N := 2) (ci := 6) hx hb htw wU_Wo hown hK hP 106 (by decide) rfl rfl 1 (by decide) rfl ww_103 rfl mD_Wo_work_11 ?_
        refine lv_iload hx hb mD_Wo_work_14 (lv_at hl 0 rfl) ?_
        refine va_gets hx hb (tO_z0 h0 hZ) hS hown (htw _ ww_509) (fun _ h => h) mD_Wo_work_16 ?_
        refine lv_iload_n hx hb mD_Wo_work_19 rfl (lv_at hl 2 rfl) ?_
        refine t_ti (f := tW1) hx hb (tO_t0 h0 hZ) hS (g := gt) hgt (by decide) mD_Wo_work_20 ?_
        refine lv_aload_n hx hb mD_Wo_work_21 rfl (lv_at hl 3 rfl) ?_
        refine lv_iload hx hb mD_Wo_work_22 (lv_at hl 0 rfl) ?_
        refine t_iald hx hb hK hP k1 9 (tRow_lt hk1) (tE_row hk1) n rfl (by omega) (by decide) mD_Wo_work_24 ?_
        refine lv_imul hx hb mD_Wo_work_25 ?_
        refine va_gets hx hb (tO_z1 h0 hZ) hS hown (htw _ ww_511) (fun _ h => h) mD_Wo_work_26 ?_
        refine lv_iload_n hx hb mD_Wo_work_29 rfl (lv_at hl 2 rfl) ?_
        refine t_ti (f := tW2) hx hb (tO_t1 h0 hZ) hS (g := gt) hgt (by decide) mD_Wo_work_30 ?_
        refine lv_aload_n hx hb mD_Wo_work_31 rfl (lv_at hl 4 rfl) ?_
        refine lv_iload hx hb mD_Wo_work_32 (lv_at hl 0 rfl) ?_
        refine t_iald hx hb hK hP k2 9 (tRow_lt hk2) (tE_row hk2) n rfl (by omega) (by decide) mD_Wo_work_34 ?_
        refine lv_imul hx hb mD_Wo_work_35 ?_
        refine lv_iadd hx hb mD_Wo_work_36 ?_
        refine t_iast hx hb hK hI hA hP hS 107 9 (by decide) (fun _ => rfl) n rfl (by omega) (by decide) mD_Wo_work_37 (fun H locs hP hS => ?_)
        obtain ⟨x4, hx4⟩ : ∃ z, z = tU y 107 (upd (y.1 107) n (((tW1 gt) * (y.1 k1 n)) + ((tW2 gt) * (y.1 k2 n)))) := ⟨_, rfl⟩
        rw [← hx4] at hP
        refine lv_iinc (k := 0) (v := nI (n + 1)) (lv' := [(5, .int (nI (n + 1))), (0, .ref (ad 106)), (1, .int (nI gt)), (2, .ref (ad k1)), (3, .ref (ad k2)), (4, .ref (ad kd))]) hx hb mD_Wo_work_38 hl rfl (by rw [lit1, nI_1]) (by decide) rfl (fun ls hl => ?_)
        refine lv_goto (tgt := 3) hx hb mD_Wo_work_41 rfl ?_
        exact ih (d3 - 1) (by omega) (n + 1) x4 _ _ _ (by omega) (lv_sub hl [0, 1, 2, 3, 4, 5] rfl) hP hS (by obtain ⟨g, hg, h1⟩ := hinv; have e1 : y.1 k1 = x.1 k1 := (by rw [hg, va_up_ne _ _ hn1]); have e2 : y.1 k2 = x.1 k2 := (by rw [hg, va_up_ne _ _ hn2]); have ed : y.1 107 = g := (by rw [hg, va_up_self]); exact ⟨upd g n (tW1 gt * x.1 k1 n + tW2 gt * x.1 k2 n), by rw [hx4, tU_f, ed, e1, e2, hg, bx_uu], fun i hi => by by_cases q : i = n; rw [q, pk_us]; rw [pk_un q]; exact h1 i (by omega)⟩)
  exact loop 9 0 x _ _ _ (by omega) hl hP hS ⟨x.1 107, va_up_same.symm, fun _ h => absurd h (Nat.not_lt_zero _)⟩
end
section
/-! TorusGates' own private methods. Laid by wip/whole/part_tg1.py. -/
def tBi (z : Bool) : Int32 := if z then 1 else 0
theorem tBi_bit (z : Bool) : tp_bit (tBi z) := by
  cases z
  · exact Or.inl rfl
  · exact Or.inr rfl
theorem tBi_inj {a b : Bool} (h : tBi a = tBi b) : a = b := by
  cases a <;> cases b <;> first | rfl | (exact absurd h (by decide))
theorem tl_lt (x y : Int64) : lg_cmp x y < 0 ↔ x.toInt < y.toInt := by
  have h := lg_cmp_ge x y
  rw [← Int64.lt_iff_toInt_lt]
  constructor
  · intro q
    exact Int64.not_le.mp (fun z => Int32.not_le.mpr q (h.mpr z))
  · intro q
    exact Int32.not_le.mp (fun z => Int64.not_le.mpr q (h.mp z))
theorem tl_toInt {n : Nat} (h : n < 2 ^ 62) : (lN n).toInt = (n : Int) := lg_ofNat_toInt (by omega)
theorem tl_ltn {n m : Nat} {y : Int64} (h : n < 2 ^ 62) (hy : y.toInt = (m : Int)) : lg_cmp (lN n) y < 0 ↔ n < m := by
  rw [tl_lt, tl_toInt h, hy]
  omega
theorem tl_far2 {g b1 b2 : Nat} {v1 v2 : Int32} (e1 : v1 = nI b1) (e2 : v2 = nI b2) (l1 : b1 < 1073741824) (l2 : b2 < 1073741824) (hg : g = 4 ∨ g = 5) : lg_cmp ((2 : Int64) * (v1.toInt64 + v2.toInt64)) (771751936 : Int64) < 0 ↔ ¬ tp_far g b1 b2 := by
  rw [e1, e2, nI_l (by omega), nI_l (by omega), lN_add, show (2 : Int64) = lN 2 from rfl, lN_mul, tl_ltn (m := 771751936) (by omega) (by decide)]
  unfold tp_far
  rw [if_pos hg]
  omega
theorem tl_far1 {g b1 b2 : Nat} {v1 v2 : Int32} (e1 : v1 = nI b1) (e2 : v2 = nI b2) (l1 : b1 < 1073741824) (l2 : b2 < 1073741824) (hg : ¬ (g = 4 ∨ g = 5)) : lg_cmp (v1.toInt64 + v2.toInt64) (234881024 : Int64) < 0 ↔ ¬ tp_far g b1 b2 := by
  rw [e1, e2, nI_l (by omega), nI_l (by omega), lN_add, tl_ltn (m := 234881024) (by omega) (by decide)]
  unfold tp_far
  rw [if_neg hg]
  omega

set_option maxHeartbeats 4000000 in
set_option maxRecDepth 100000 in
theorem k_TG_placeFor (l : Launch) (D : va_G) (ct : Nat → ClassId) (ad : Nat → Nat) (hI : gw_inj 424 ad) (x : tS) (z : Bool) : gMi l mY_TG_placeFor mB_TG_placeFor 1 (some .int) (rF 0 0) D (tT ct) gZ0 424 ad (tD ct ad) [.int (tBi z)] x (fun r x' => x' = x ∧ r = tp_pl z) := by
  refine gMi_enter (by decide) (Nat.le_of_ble_eq_true rfl) ?_
  intro p e s m below meth c ls hx hb hr htw hown hlocks hml hl hP hK hZ hS
  have hA : ∀ k, k < 424 → gA 424 ad s.heap.size (ad k) := fun _ h => gA_in h
  have hl : lv_has ls 1 [(0, .int (tBi z))] := hl
  refine lv_iload_n hx hb mD_TG_placeFor_0 rfl (lv_at hl 0 rfl) ?_
  refine lv_if_eq (tgt := 10) hx hb mD_TG_placeFor_1 rfl (fun hc => ?_) (fun hc => ?_)
  · skip
    have hz : z = false := by cases z; rfl; exact absurd hc (by decide)
    subst hz
    refine lv_ldcw hx hb hown (htw _ ww_371) mD_TG_placeFor_10 ?_
    exact gw_iret hx hb hr hlocks hP hS (⟨rfl, rfl⟩) mD_TG_placeFor_13 (Nat.zero_le _) (Nat.zero_le _)
  · skip
    have hz : z = true := by cases z; exact absurd rfl hc; rfl
    subst hz
    refine lv_ldcw hx hb hown (htw _ ww_370) mD_TG_placeFor_4 ?_
    refine lv_goto (tgt := 13) hx hb mD_TG_placeFor_7 rfl ?_
    exact gw_iret hx hb hr hlocks hP hS (⟨rfl, rfl⟩) mD_TG_placeFor_13 (Nat.zero_le _) (Nat.zero_le _)

set_option maxHeartbeats 4000000 in
set_option maxRecDepth 100000 in
theorem k_TG_truth (l : Launch) (D : va_G) (ct : Nat → ClassId) (ad : Nat → Nat) (hI : gw_inj 424 ad) (x : tS) {gt : Nat} (hgt : gt < 8) (z1 z2 : Bool) : gMi l mY_TG_truth mB_TG_truth 3 (some .boolean) (rF 0 0) D (tT ct) gZ0 424 ad (tD ct ad) [.int (nI gt), .int (tBi z1), .int (tBi z2)] x (fun r x' => x' = x ∧ r = tBi (tp_truth gt z1 z2)) := by
  refine gMi_enter (by decide) (Nat.le_of_ble_eq_true rfl) ?_
  intro p e s m below meth c ls hx hb hr htw hown hlocks hml hl hP hK hZ hS
  have hA : ∀ k, k < 424 → gA 424 ad s.heap.size (ad k) := fun _ h => gA_in h
  have hl : lv_has ls 3 [(0, .int (nI gt)), (1, .int (tBi z1)), (2, .int (tBi z2))] := hl
  refine lv_iload_n hx hb mD_TG_truth_0 rfl (lv_at hl 0 rfl) ?_
  rcases (show gt = 0 ∨ gt = 1 ∨ gt = 2 ∨ gt = 3 ∨ gt = 4 ∨ gt = 5 ∨ gt = 6 ∨ gt = 7 by omega) with rfl | rfl | rfl | rfl | rfl | rfl | rfl | rfl
  · skip
    refine lv_tableIn (tgt := 44) hx hb mD_TG_truth_1 (by decide) (by decide) rfl rfl ?_
    refine lv_iload_n hx hb mD_TG_truth_44 rfl (lv_at hl 1 rfl) ?_
    refine lv_if_eq (tgt := 56) hx hb mD_TG_truth_45 rfl (fun h45 => ?_) (fun h45 => ?_)
    · skip
      refine lv_iconst (v := nI 0) hx hb mD_TG_truth_56 (by decide) ?_
      exact gw_zret hx hb hr hlocks hP hS rfl (⟨rfl, by cases z1 <;> cases z2 <;> simp_all [tBi, tp_truth, nI]⟩) mD_TG_truth_57 (Nat.zero_le _) (Nat.zero_le _)
    · skip
      refine lv_iload_n hx hb mD_TG_truth_48 rfl (lv_at hl 2 rfl) ?_
      refine lv_if_eq (tgt := 56) hx hb mD_TG_truth_49 rfl (fun h49 => ?_) (fun h49 => ?_)
      · skip
        refine lv_iconst (v := nI 0) hx hb mD_TG_truth_56 (by decide) ?_
        exact gw_zret hx hb hr hlocks hP hS rfl (⟨rfl, by cases z1 <;> cases z2 <;> simp_all [tBi, tp_truth, nI]⟩) mD_TG_truth_57 (Nat.zero_le _) (Nat.zero_le _)
      · skip
        refine lv_iconst (v := nI 1) hx hb mD_TG_truth_52 (by decide) ?_
        refine lv_goto (tgt := 57) hx hb mD_TG_truth_53 rfl ?_
        exact gw_zret hx hb hr hlocks hP hS rfl (⟨rfl, by cases z1 <;> cases z2 <;> simp_all [tBi, tp_truth, nI]⟩) mD_TG_truth_57 (Nat.zero_le _) (Nat.zero_le _)
  · skip
    refine lv_tableIn (tgt := 58) hx hb mD_TG_truth_1 (by decide) (by decide) rfl rfl ?_
    refine lv_iload_n hx hb mD_TG_truth_58 rfl (lv_at hl 1 rfl) ?_
    refine lv_if_ne (tgt := 66) hx hb mD_TG_truth_59 rfl (fun h59 => ?_) (fun h59 => ?_)
    · skip
      refine lv_iconst (v := nI 1) hx hb mD_TG_truth_66 (by decide) ?_
      refine lv_goto (tgt := 71) hx hb mD_TG_truth_67 rfl ?_
      exact gw_zret hx hb hr hlocks hP hS rfl (⟨rfl, by cases z1 <;> cases z2 <;> simp_all [tBi, tp_truth, nI]⟩) mD_TG_truth_71 (Nat.zero_le _) (Nat.zero_le _)
    · skip
      refine lv_iload_n hx hb mD_TG_truth_62 rfl (lv_at hl 2 rfl) ?_
      refine lv_if_eq (tgt := 70) hx hb mD_TG_truth_63 rfl (fun h63 => ?_) (fun h63 => ?_)
      · skip
        refine lv_iconst (v := nI 0) hx hb mD_TG_truth_70 (by decide) ?_
        exact gw_zret hx hb hr hlocks hP hS rfl (⟨rfl, by cases z1 <;> cases z2 <;> simp_all [tBi, tp_truth, nI]⟩) mD_TG_truth_71 (Nat.zero_le _) (Nat.zero_le _)
      · skip
        refine lv_iconst (v := nI 1) hx hb mD_TG_truth_66 (by decide) ?_
        refine lv_goto (tgt := 71) hx hb mD_TG_truth_67 rfl ?_
        exact gw_zret hx hb hr hlocks hP hS rfl (⟨rfl, by cases z1 <;> cases z2 <;> simp_all [tBi, tp_truth, nI]⟩) mD_TG_truth_71 (Nat.zero_le _) (Nat.zero_le _)
  · skip
    refine lv_tableIn (tgt := 72) hx hb mD_TG_truth_1 (by decide) (by decide) rfl rfl ?_
    refine lv_iload_n hx hb mD_TG_truth_72 rfl (lv_at hl 1 rfl) ?_
    refine lv_if_eq (tgt := 80) hx hb mD_TG_truth_73 rfl (fun h73 => ?_) (fun h73 => ?_)
    · skip
      refine lv_iconst (v := nI 1) hx hb mD_TG_truth_80 (by decide) ?_
      refine lv_goto (tgt := 85) hx hb mD_TG_truth_81 rfl ?_
      exact gw_zret hx hb hr hlocks hP hS rfl (⟨rfl, by cases z1 <;> cases z2 <;> simp_all [tBi, tp_truth, nI]⟩) mD_TG_truth_85 (Nat.zero_le _) (Nat.zero_le _)
    · skip
      refine lv_iload_n hx hb mD_TG_truth_76 rfl (lv_at hl 2 rfl) ?_
      refine lv_if_ne (tgt := 84) hx hb mD_TG_truth_77 rfl (fun h77 => ?_) (fun h77 => ?_)
      · skip
        refine lv_iconst (v := nI 0) hx hb mD_TG_truth_84 (by decide) ?_
        exact gw_zret hx hb hr hlocks hP hS rfl (⟨rfl, by cases z1 <;> cases z2 <;> simp_all [tBi, tp_truth, nI]⟩) mD_TG_truth_85 (Nat.zero_le _) (Nat.zero_le _)
      · skip
        refine lv_iconst (v := nI 1) hx hb mD_TG_truth_80 (by decide) ?_
        refine lv_goto (tgt := 85) hx hb mD_TG_truth_81 rfl ?_
        exact gw_zret hx hb hr hlocks hP hS rfl (⟨rfl, by cases z1 <;> cases z2 <;> simp_all [tBi, tp_truth, nI]⟩) mD_TG_truth_85 (Nat.zero_le _) (Nat.zero_le _)
  · skip
    refine lv_tableIn (tgt := 86) hx hb mD_TG_truth_1 (by decide) (by decide) rfl rfl ?_
    refine lv_iload_n hx hb mD_TG_truth_86 rfl (lv_at hl 1 rfl) ?_
    refine lv_if_ne (tgt := 98) hx hb mD_TG_truth_87 rfl (fun h87 => ?_) (fun h87 => ?_)
    · skip
      refine lv_iconst (v := nI 0) hx hb mD_TG_truth_98 (by decide) ?_
      exact gw_zret hx hb hr hlocks hP hS rfl (⟨rfl, by cases z1 <;> cases z2 <;> simp_all [tBi, tp_truth, nI]⟩) mD_TG_truth_99 (Nat.zero_le _) (Nat.zero_le _)
    · skip
      refine lv_iload_n hx hb mD_TG_truth_90 rfl (lv_at hl 2 rfl) ?_
      refine lv_if_ne (tgt := 98) hx hb mD_TG_truth_91 rfl (fun h91 => ?_) (fun h91 => ?_)
      · skip
        refine lv_iconst (v := nI 0) hx hb mD_TG_truth_98 (by decide) ?_
        exact gw_zret hx hb hr hlocks hP hS rfl (⟨rfl, by cases z1 <;> cases z2 <;> simp_all [tBi, tp_truth, nI]⟩) mD_TG_truth_99 (Nat.zero_le _) (Nat.zero_le _)
      · skip
        refine lv_iconst (v := nI 1) hx hb mD_TG_truth_94 (by decide) ?_
        refine lv_goto (tgt := 99) hx hb mD_TG_truth_95 rfl ?_
        exact gw_zret hx hb hr hlocks hP hS rfl (⟨rfl, by cases z1 <;> cases z2 <;> simp_all [tBi, tp_truth, nI]⟩) mD_TG_truth_99 (Nat.zero_le _) (Nat.zero_le _)
  · skip
    refine lv_tableIn (tgt := 100) hx hb mD_TG_truth_1 (by decide) (by decide) rfl rfl ?_
    refine lv_iload_n hx hb mD_TG_truth_100 rfl (lv_at hl 1 rfl) ?_
    refine lv_iload_n hx hb mD_TG_truth_101 rfl (lv_at hl 2 rfl) ?_
    refine lv_icmp_eq (tgt := 109) hx hb mD_TG_truth_102 rfl (fun h102 => ?_) (fun h102 => ?_)
    · skip
      refine lv_iconst (v := nI 0) hx hb mD_TG_truth_109 (by decide) ?_
      exact gw_zret hx hb hr hlocks hP hS rfl (⟨rfl, by cases z1 <;> cases z2 <;> simp_all [tBi, tp_truth, nI]⟩) mD_TG_truth_110 (Nat.zero_le _) (Nat.zero_le _)
    · skip
      refine lv_iconst (v := nI 1) hx hb mD_TG_truth_105 (by decide) ?_
      refine lv_goto (tgt := 110) hx hb mD_TG_truth_106 rfl ?_
      exact gw_zret hx hb hr hlocks hP hS rfl (⟨rfl, by cases z1 <;> cases z2 <;> simp_all [tBi, tp_truth, nI]⟩) mD_TG_truth_110 (Nat.zero_le _) (Nat.zero_le _)
  · skip
    refine lv_tableIn (tgt := 111) hx hb mD_TG_truth_1 (by decide) (by decide) rfl rfl ?_
    refine lv_iload_n hx hb mD_TG_truth_111 rfl (lv_at hl 1 rfl) ?_
    refine lv_iload_n hx hb mD_TG_truth_112 rfl (lv_at hl 2 rfl) ?_
    refine lv_icmp_ne (tgt := 120) hx hb mD_TG_truth_113 rfl (fun h113 => ?_) (fun h113 => ?_)
    · skip
      refine lv_iconst (v := nI 0) hx hb mD_TG_truth_120 (by decide) ?_
      exact gw_zret hx hb hr hlocks hP hS rfl (⟨rfl, by cases z1 <;> cases z2 <;> simp_all [tBi, tp_truth, nI]⟩) mD_TG_truth_121 (Nat.zero_le _) (Nat.zero_le _)
    · skip
      refine lv_iconst (v := nI 1) hx hb mD_TG_truth_116 (by decide) ?_
      refine lv_goto (tgt := 121) hx hb mD_TG_truth_117 rfl ?_
      exact gw_zret hx hb hr hlocks hP hS rfl (⟨rfl, by cases z1 <;> cases z2 <;> simp_all [tBi, tp_truth, nI]⟩) mD_TG_truth_121 (Nat.zero_le _) (Nat.zero_le _)
  · skip
    refine lv_tableIn (tgt := 122) hx hb mD_TG_truth_1 (by decide) (by decide) rfl rfl ?_
    refine lv_iload_n hx hb mD_TG_truth_122 rfl (lv_at hl 1 rfl) ?_
    refine lv_if_eq (tgt := 134) hx hb mD_TG_truth_123 rfl (fun h123 => ?_) (fun h123 => ?_)
    · skip
      refine lv_iconst (v := nI 0) hx hb mD_TG_truth_134 (by decide) ?_
      exact gw_zret hx hb hr hlocks hP hS rfl (⟨rfl, by cases z1 <;> cases z2 <;> simp_all [tBi, tp_truth, nI]⟩) mD_TG_truth_135 (Nat.zero_le _) (Nat.zero_le _)
    · skip
      refine lv_iload_n hx hb mD_TG_truth_126 rfl (lv_at hl 2 rfl) ?_
      refine lv_if_ne (tgt := 134) hx hb mD_TG_truth_127 rfl (fun h127 => ?_) (fun h127 => ?_)
      · skip
        refine lv_iconst (v := nI 0) hx hb mD_TG_truth_134 (by decide) ?_
        exact gw_zret hx hb hr hlocks hP hS rfl (⟨rfl, by cases z1 <;> cases z2 <;> simp_all [tBi, tp_truth, nI]⟩) mD_TG_truth_135 (Nat.zero_le _) (Nat.zero_le _)
      · skip
        refine lv_iconst (v := nI 1) hx hb mD_TG_truth_130 (by decide) ?_
        refine lv_goto (tgt := 135) hx hb mD_TG_truth_131 rfl ?_
        exact gw_zret hx hb hr hlocks hP hS rfl (⟨rfl, by cases z1 <;> cases z2 <;> simp_all [tBi, tp_truth, nI]⟩) mD_TG_truth_135 (Nat.zero_le _) (Nat.zero_le _)
  · skip
    refine lv_tableOut (tgt := 136) hx hb mD_TG_truth_1 (by decide) rfl ?_
    refine lv_iload_n hx hb mD_TG_truth_136 rfl (lv_at hl 1 rfl) ?_
    refine lv_if_ne (tgt := 144) hx hb mD_TG_truth_137 rfl (fun h137 => ?_) (fun h137 => ?_)
    · skip
      refine lv_iconst (v := nI 1) hx hb mD_TG_truth_144 (by decide) ?_
      refine lv_goto (tgt := 149) hx hb mD_TG_truth_145 rfl ?_
      exact gw_zret hx hb hr hlocks hP hS rfl (⟨rfl, by cases z1 <;> cases z2 <;> simp_all [tBi, tp_truth, nI]⟩) mD_TG_truth_149 (Nat.zero_le _) (Nat.zero_le _)
    · skip
      refine lv_iload_n hx hb mD_TG_truth_140 rfl (lv_at hl 2 rfl) ?_
      refine lv_if_ne (tgt := 148) hx hb mD_TG_truth_141 rfl (fun h141 => ?_) (fun h141 => ?_)
      · skip
        refine lv_iconst (v := nI 0) hx hb mD_TG_truth_148 (by decide) ?_
        exact gw_zret hx hb hr hlocks hP hS rfl (⟨rfl, by cases z1 <;> cases z2 <;> simp_all [tBi, tp_truth, nI]⟩) mD_TG_truth_149 (Nat.zero_le _) (Nat.zero_le _)
      · skip
        refine lv_iconst (v := nI 1) hx hb mD_TG_truth_144 (by decide) ?_
        refine lv_goto (tgt := 149) hx hb mD_TG_truth_145 rfl ?_
        exact gw_zret hx hb hr hlocks hP hS rfl (⟨rfl, by cases z1 <;> cases z2 <;> simp_all [tBi, tp_truth, nI]⟩) mD_TG_truth_149 (Nat.zero_le _) (Nat.zero_le _)

set_option maxHeartbeats 4000000 in
set_option maxRecDepth 100000 in
theorem k_TG_isTooFar (l : Launch) (D : va_G) (ct : Nat → ClassId) (ad : Nat → Nat) (hI : gw_inj 424 ad) (x : tS) {gt k1 k2 b1 b2 : Nat} (hgt : gt < 8) (hk1 : tCe k1) (hk2 : tCe k2) (e1 : x.1 k1 1 = nI b1) (e2 : x.1 k2 1 = nI b2) (l1 : b1 < 1073741824) (l2 : b2 < 1073741824) : gMi l mY_TG_isTooFar mB_TG_isTooFar 5 (some .boolean) (rF 0 0) D (tT ct) gZ0 424 ad (tD ct ad) [.int (nI gt), .ref (ad k1), .ref (ad k2)] x (fun r x' => x' = x ∧ ((r = nI 1 ∧ tp_far gt b1 b2) ∨ (r = nI 0 ∧ ¬ tp_far gt b1 b2))) := by
  refine gMi_enter (by decide) (Nat.le_of_ble_eq_true rfl) ?_
  intro p e s m below meth c ls hx hb hr htw hown hlocks hml hl hP hK hZ hS
  have hA : ∀ k, k < 424 → gA 424 ad s.heap.size (ad k) := fun _ h => gA_in h
  have hl : lv_has ls 5 [(0, .int (nI gt)), (1, .ref (ad k1)), (2, .ref (ad k2))] := hl
  refine lv_aload_n hx hb mD_TG_isTooFar_0 rfl (lv_at hl 1 rfl) ?_
  refine t_get (C := cN_Ce) (T := cF_Ce) (N := 4) (ci := 0) hx hb htw wU_Ce hown hK hP k1 (tCe_lt hk1) (tE_cell hk1) rfl 1 (by decide) rfl ww_125 rfl mD_TG_isTooFar_1 ?_
  refine lv_i2l hx hb mD_TG_isTooFar_4 rfl ?_
  refine lv_aload_n hx hb mD_TG_isTooFar_5 rfl (lv_at hl 2 rfl) ?_
  refine t_get (C := cN_Ce) (T := cF_Ce) (N := 4) (ci := 0) hx hb htw wU_Ce hown hK hP k2 (tCe_lt hk2) (tE_cell hk2) rfl 1 (by decide) rfl ww_125 rfl mD_TG_isTooFar_6 ?_
  refine lv_i2l hx hb mD_TG_isTooFar_9 rfl ?_
  refine lv_ladd hx hb mD_TG_isTooFar_10 ?_
  refine lv_lstore_n (lv' := [(3, .long (((x.1 k1 1).toInt64) + ((x.1 k2 1).toInt64))), (0, .int (nI gt)), (1, .ref (ad k1)), (2, .ref (ad k2))]) hx hb mD_TG_isTooFar_11 rfl hl (by decide) rfl (fun ls hl => ?_)
  refine lv_iload_n hx hb mD_TG_isTooFar_12 rfl (lv_at hl 1 rfl) ?_
  refine lv_iconst (v := nI 4) hx hb mD_TG_isTooFar_13 (by decide) ?_
  refine lv_icmp_eq (tgt := 22) hx hb mD_TG_isTooFar_14 rfl (fun h4 => ?_) (fun h4 => ?_)
  · skip
    refine lv_ldc2 hx hb hown (htw _ ww_493) mD_TG_isTooFar_22 ?_
    refine lv_lload_n hx hb mD_TG_isTooFar_25 rfl (lv_at hl 0 rfl) ?_
    refine lv_lmul hx hb mD_TG_isTooFar_26 ?_
    refine lv_ldc2 hx hb hown (htw _ ww_494) mD_TG_isTooFar_27 ?_
    refine W.lcmp hx hb mD_TG_isTooFar_30 ?_
    refine lv_if_lt (tgt := 38) hx hb mD_TG_isTooFar_31 rfl (fun h7 => ?_) (fun h7 => ?_)
    · skip
      refine lv_iconst (v := nI 0) hx hb mD_TG_isTooFar_38 (by decide) ?_
      exact gw_zret hx hb hr hlocks hP hS rfl (⟨rfl, by first | exact Or.inr ⟨rfl, (tl_far2 e1 e2 l1 l2 (by first | exact Or.inl ((nI_eq (by omega) (by omega)).mp h4) | exact Or.inr ((nI_eq (by omega) (by omega)).mp h5))).mp h7⟩ | exact Or.inl ⟨rfl, Classical.not_not.mp (fun q => h7 ((tl_far2 e1 e2 l1 l2 (by first | exact Or.inl ((nI_eq (by omega) (by omega)).mp h4) | exact Or.inr ((nI_eq (by omega) (by omega)).mp h5))).mpr q))⟩⟩) mD_TG_isTooFar_39 (Nat.zero_le _) (Nat.zero_le _)
    · skip
      refine lv_iconst (v := nI 1) hx hb mD_TG_isTooFar_34 (by decide) ?_
      refine lv_goto (tgt := 39) hx hb mD_TG_isTooFar_35 rfl ?_
      exact gw_zret hx hb hr hlocks hP hS rfl (⟨rfl, by first | exact Or.inr ⟨rfl, (tl_far2 e1 e2 l1 l2 (by first | exact Or.inl ((nI_eq (by omega) (by omega)).mp h4) | exact Or.inr ((nI_eq (by omega) (by omega)).mp h5))).mp h7⟩ | exact Or.inl ⟨rfl, Classical.not_not.mp (fun q => h7 ((tl_far2 e1 e2 l1 l2 (by first | exact Or.inl ((nI_eq (by omega) (by omega)).mp h4) | exact Or.inr ((nI_eq (by omega) (by omega)).mp h5))).mpr q))⟩⟩) mD_TG_isTooFar_39 (Nat.zero_le _) (Nat.zero_le _)
  · skip
    refine lv_iload_n hx hb mD_TG_isTooFar_17 rfl (lv_at hl 1 rfl) ?_
    refine lv_iconst (v := nI 5) hx hb mD_TG_isTooFar_18 (by decide) ?_
    refine lv_icmp_ne (tgt := 40) hx hb mD_TG_isTooFar_19 rfl (fun h5 => ?_) (fun h5 => ?_)
    · skip
      refine lv_lload_n hx hb mD_TG_isTooFar_40 rfl (lv_at hl 0 rfl) ?_
      refine lv_ldc2 hx hb hown (htw _ ww_495) mD_TG_isTooFar_41 ?_
      refine W.lcmp hx hb mD_TG_isTooFar_44 ?_
      refine lv_if_lt (tgt := 52) hx hb mD_TG_isTooFar_45 rfl (fun h7 => ?_) (fun h7 => ?_)
      · skip
        refine lv_iconst (v := nI 0) hx hb mD_TG_isTooFar_52 (by decide) ?_
        exact gw_zret hx hb hr hlocks hP hS rfl (⟨rfl, by first | exact Or.inr ⟨rfl, (tl_far1 e1 e2 l1 l2 (fun q => by rcases q with q | q; exact h4 (by rw [q]); exact h5 (by rw [q]))).mp h7⟩ | exact Or.inl ⟨rfl, Classical.not_not.mp (fun q => h7 ((tl_far1 e1 e2 l1 l2 (fun q => by rcases q with q | q; exact h4 (by rw [q]); exact h5 (by rw [q]))).mpr q))⟩⟩) mD_TG_isTooFar_53 (Nat.zero_le _) (Nat.zero_le _)
      · skip
        refine lv_iconst (v := nI 1) hx hb mD_TG_isTooFar_48 (by decide) ?_
        refine lv_goto (tgt := 53) hx hb mD_TG_isTooFar_49 rfl ?_
        exact gw_zret hx hb hr hlocks hP hS rfl (⟨rfl, by first | exact Or.inr ⟨rfl, (tl_far1 e1 e2 l1 l2 (fun q => by rcases q with q | q; exact h4 (by rw [q]); exact h5 (by rw [q]))).mp h7⟩ | exact Or.inl ⟨rfl, Classical.not_not.mp (fun q => h7 ((tl_far1 e1 e2 l1 l2 (fun q => by rcases q with q | q; exact h4 (by rw [q]); exact h5 (by rw [q]))).mpr q))⟩⟩) mD_TG_isTooFar_53 (Nat.zero_le _) (Nat.zero_le _)
    · skip
      refine lv_ldc2 hx hb hown (htw _ ww_493) mD_TG_isTooFar_22 ?_
      refine lv_lload_n hx hb mD_TG_isTooFar_25 rfl (lv_at hl 0 rfl) ?_
      refine lv_lmul hx hb mD_TG_isTooFar_26 ?_
      refine lv_ldc2 hx hb hown (htw _ ww_494) mD_TG_isTooFar_27 ?_
      refine W.lcmp hx hb mD_TG_isTooFar_30 ?_
      refine lv_if_lt (tgt := 38) hx hb mD_TG_isTooFar_31 rfl (fun h7 => ?_) (fun h7 => ?_)
      · skip
        refine lv_iconst (v := nI 0) hx hb mD_TG_isTooFar_38 (by decide) ?_
        exact gw_zret hx hb hr hlocks hP hS rfl (⟨rfl, by first | exact Or.inr ⟨rfl, (tl_far2 e1 e2 l1 l2 (by first | exact Or.inl ((nI_eq (by omega) (by omega)).mp h4) | exact Or.inr ((nI_eq (by omega) (by omega)).mp h5))).mp h7⟩ | exact Or.inl ⟨rfl, Classical.not_not.mp (fun q => h7 ((tl_far2 e1 e2 l1 l2 (by first | exact Or.inl ((nI_eq (by omega) (by omega)).mp h4) | exact Or.inr ((nI_eq (by omega) (by omega)).mp h5))).mpr q))⟩⟩) mD_TG_isTooFar_39 (Nat.zero_le _) (Nat.zero_le _)
      · skip
        refine lv_iconst (v := nI 1) hx hb mD_TG_isTooFar_34 (by decide) ?_
        refine lv_goto (tgt := 39) hx hb mD_TG_isTooFar_35 rfl ?_
        exact gw_zret hx hb hr hlocks hP hS rfl (⟨rfl, by first | exact Or.inr ⟨rfl, (tl_far2 e1 e2 l1 l2 (by first | exact Or.inl ((nI_eq (by omega) (by omega)).mp h4) | exact Or.inr ((nI_eq (by omega) (by omega)).mp h5))).mp h7⟩ | exact Or.inl ⟨rfl, Classical.not_not.mp (fun q => h7 ((tl_far2 e1 e2 l1 l2 (by first | exact Or.inl ((nI_eq (by omega) (by omega)).mp h4) | exact Or.inr ((nI_eq (by omega) (by omega)).mp h5))).mpr q))⟩⟩) mD_TG_isTooFar_39 (Nat.zero_le _) (Nat.zero_le _)

set_option maxHeartbeats 4000000 in
set_option maxRecDepth 100000 in
theorem k_TG_makeKey (l : Launch) (D : va_G) (ct : Nat → ClassId) (ad : Nat → Nat) (hI : gw_inj 424 ad) (x : tS) (a : Int32) : gMv l mY_TG_makeKey mB_TG_makeKey 2 none (rF 5 117) D (tT ct) gZ0 424 ad (tD ct ad) [.ref (ad 0), .int a] x (fun x' => tKey x'.1 ∧ ∀ k, (k < 3 ∨ 104 ≤ k) → x'.1 k = x.1 k) := by
  refine gMv_enter (by decide) (Nat.le_of_ble_eq_true rfl) ?_
  intro p e s m below meth c ls hx hb hr htw hown hlocks hml hl hP hK hZ hS
  have hA : ∀ k, k < 424 → gA 424 ad s.heap.size (ad k) := fun _ h => gA_in h
  have hl : lv_has ls 2 [(0, .ref (ad 0)), (1, .int a)] := hl
  refine lv_aload_n hx hb mD_TG_makeKey_0 rfl (lv_at hl 0 rfl) ?_
  refine t_get (C := cN_TG) (T := cF_TG) (N := 12) (ci := 7) hx hb htw wU_TG hown hK hP 0 (by decide) rfl rfl 0 (by decide) rfl ww_222 rfl mD_TG_makeKey_1 ?_
  refine lv_iload_n hx hb mD_TG_makeKey_4 rfl (lv_at hl 1 rfl) ?_
  refine gc_Vv (As := [.int a]) (rest := []) hx hb hml hown htw hK hP hS 1 (k_So_restart l D ct ad hI x a) gZ0_ok (fun _ _ _ => trivial) (gA_mono hS.1) (by decide) rfl rfl ww_177 ww_178 ww_179 ww_24 wC_So_restart mP_So_restart (by decide) rfl hl.1 rfl (Nat.le_of_ble_eq_true rfl) mD_TG_makeKey_5 ⟨Nat.le_of_ble_eq_true rfl, Nat.le_of_ble_eq_true rfl⟩ (fun x1 H locs hp1 hP _ _ hS => ?_)
  have e1 : x1.1 = x.1 := hp1
  refine lv_aload_n hx hb mD_TG_makeKey_8 rfl (lv_at hl 0 rfl) ?_
  refine t_get (C := cN_TG) (T := cF_TG) (N := 12) (ci := 7) hx hb htw wU_TG hown hK hP 0 (by decide) rfl rfl 1 (by decide) rfl ww_223 rfl mD_TG_makeKey_9 ?_
  refine lv_aload_n hx hb mD_TG_makeKey_12 rfl (lv_at hl 0 rfl) ?_
  refine t_get (C := cN_TG) (T := cF_TG) (N := 12) (ci := 7) hx hb htw wU_TG hown hK hP 0 (by decide) rfl rfl 0 (by decide) rfl ww_222 rfl mD_TG_makeKey_13 ?_
  refine gc_Vv (As := [.ref (ad 1)]) (rest := []) hx hb hml hown htw hK hP hS 2 (k_Se_renew l D ct ad hI x1) gZ0_ok (fun _ _ _ => trivial) (gA_mono hS.1) (by decide) rfl rfl ww_181 ww_182 ww_183 ww_25 wC_Se_renew mP_Se_renew (by decide) rfl hl.1 rfl (Nat.le_of_ble_eq_true rfl) mD_TG_makeKey_16 ⟨Nat.le_of_ble_eq_true rfl, Nat.le_of_ble_eq_true rfl⟩ (fun x3 H locs hp3 hP _ _ hS => ?_)
  obtain ⟨g3, g4, e2, hb3, hb4⟩ := hp3
  refine lv_aload_n hx hb mD_TG_makeKey_19 rfl (lv_at hl 0 rfl) ?_
  refine t_get (C := cN_TG) (T := cF_TG) (N := 12) (ci := 7) hx hb htw wU_TG hown hK hP 0 (by decide) rfl rfl 2 (by decide) rfl ww_224 rfl mD_TG_makeKey_20 ?_
  refine lv_aload_n hx hb mD_TG_makeKey_23 rfl (lv_at hl 0 rfl) ?_
  refine t_get (C := cN_TG) (T := cF_TG) (N := 12) (ci := 7) hx hb htw wU_TG hown hK hP 0 (by decide) rfl rfl 1 (by decide) rfl ww_223 rfl mD_TG_makeKey_24 ?_
  refine lv_aload_n hx hb mD_TG_makeKey_27 rfl (lv_at hl 0 rfl) ?_
  refine t_get (C := cN_TG) (T := cF_TG) (N := 12) (ci := 7) hx hb htw wU_TG hown hK hP 0 (by decide) rfl rfl 0 (by decide) rfl ww_222 rfl mD_TG_makeKey_28 ?_
  refine gc_Vv (As := [.ref (ad 2), .ref (ad 1)]) (rest := []) hx hb hml hown htw hK hP hS 5 (k_Re_renew l D ct ad hI x3) gZ0_ok (fun _ _ _ => trivial) (gA_mono hS.1) (by decide) rfl rfl ww_195 ww_196 ww_197 ww_26 wC_Re_renew mP_Re_renew (by decide) rfl hl.1 rfl (Nat.le_of_ble_eq_true rfl) mD_TG_makeKey_31 ⟨Nat.le_of_ble_eq_true rfl, Nat.le_of_ble_eq_true rfl⟩ (fun x5 H locs hp5 hP _ _ hS => ?_)
  obtain ⟨e3, hs, hw⟩ := hp5
  exact gw_vret hx hb hr hlocks hP hS (⟨⟨fun i hi => by rw [e3 3 (Or.inl (by decide)), e2, va_up_ne _ _ (by decide), va_up_self]; exact hb3 i hi, fun i hi => by rw [e3 4 (Or.inl (by decide)), e2, va_up_self]; exact hb4 i hi, hs, hw⟩, fun k hk => by rw [e3 k (by omega), e2, va_up_ne _ _ (by omega), va_up_ne _ _ (by omega), e1]⟩) mD_TG_makeKey_34 (Nat.zero_le _) (Nat.zero_le _)

set_option maxHeartbeats 4000000 in
set_option maxRecDepth 100000 in
theorem k_TG_fillNew (l : Launch) (D : va_G) (ct : Nat → ClassId) (ad : Nat → Nat) (hI : gw_inj 424 ad) (x : tS) {kc : Nat} (hkc : tCe kc) (z : Bool) : gMv l mY_TG_fillNew mB_TG_fillNew 3 none (rF 3 69) D (tT ct) gZ0 424 ad (tD ct ad) [.ref (ad 0), .ref (ad kc), .int (tBi z)] x (fun x' => ∃ g, x'.1 = va_up (va_up x.1 (kc + 1) g) kc (upd (upd (x.1 kc) 1 (nI 16)) 2 (tBi z)) ∧ tp_near (x.1 3) g z 16) := by
  refine gMv_enter (by decide) (Nat.le_of_ble_eq_true rfl) ?_
  intro p e s m below meth c ls hx hb hr htw hown hlocks hml hl hP hK hZ hS
  have hA : ∀ k, k < 424 → gA 424 ad s.heap.size (ad k) := fun _ h => gA_in h
  have hl : lv_has ls 3 [(0, .ref (ad 0)), (1, .ref (ad kc)), (2, .int (tBi z))] := hl
  refine lv_aload_n hx hb mD_TG_fillNew_0 rfl (lv_at hl 0 rfl) ?_
  refine t_get (C := cN_TG) (T := cF_TG) (N := 12) (ci := 7) hx hb htw wU_TG hown hK hP 0 (by decide) rfl rfl 1 (by decide) rfl ww_223 rfl mD_TG_fillNew_1 ?_
  refine lv_iload_n hx hb mD_TG_fillNew_4 rfl (lv_at hl 2 rfl) ?_
  refine gc_Si (As := [.int (tBi z)]) (rest := [.ref (ad 2)]) hx hb hml hown htw hK hP hS (k_TG_placeFor l D ct ad hI x z) gZ0_ok (fun _ _ _ => trivial) (gA_mono hS.1) ww_367 ww_368 ww_23 wC_TG_placeFor mP_TG_placeFor (by decide) rfl hl.1 rfl (Nat.le_of_ble_eq_true rfl) mD_TG_fillNew_5 ⟨Nat.le_of_ble_eq_true rfl, Nat.le_of_ble_eq_true rfl⟩ (fun r2 x1 H locs hp1 hP _ _ hS => ?_)
  obtain ⟨hq_, rfl⟩ := hp1
  rw [hq_] at hP
  refine lv_aload_n hx hb mD_TG_fillNew_8 rfl (lv_at hl 1 rfl) ?_
  refine t_get (C := cN_Ce) (T := cF_Ce) (N := 4) (ci := 0) hx hb htw wU_Ce hown hK hP kc (tCe_lt hkc) (tE_cell hkc) rfl 0 (by decide) rfl ww_123 rfl mD_TG_fillNew_9 ?_
  refine lv_iconst (v := nI 5) hx hb mD_TG_fillNew_12 (by decide) ?_
  refine lv_aload_n hx hb mD_TG_fillNew_13 rfl (lv_at hl 0 rfl) ?_
  refine t_get (C := cN_TG) (T := cF_TG) (N := 12) (ci := 7) hx hb htw wU_TG hown hK hP 0 (by decide) rfl rfl 0 (by decide) rfl ww_222 rfl mD_TG_fillNew_14 ?_
  refine gc_Vv (As := [.int (tp_pl z), .ref (ad ((kc + 1))), .int (nI 5), .ref (ad 1)]) (rest := []) hx hb hml hown htw hK hP hS 2 (k_Se_hide5 l D ct ad hI x (tp_pl z) (k := kc + 1) (tCe_row hkc)) gZ0_ok (fun _ _ _ => trivial) (gA_mono hS.1) (by decide) rfl rfl ww_372 ww_219 ww_220 ww_25 wC_Se_hide mP_Se_hide (by decide) rfl hl.1 rfl (Nat.le_of_ble_eq_true rfl) mD_TG_fillNew_17 ⟨Nat.le_of_ble_eq_true rfl, Nat.le_of_ble_eq_true rfl⟩ (fun x3 H locs hp3 hP _ _ hS => ?_)
  obtain ⟨g, eg, hg⟩ := hp3
  refine lv_aload_n hx hb mD_TG_fillNew_20 rfl (lv_at hl 1 rfl) ?_
  refine lv_bipush (v := nI 16) hx hb mD_TG_fillNew_21 (by decide) ?_
  refine t_put (C := cN_Ce) (T := cF_Ce) (N := 4) (ci := 0) hx hb htw wU_Ce cT_Ce cO_Ce cM_Ce hown hK hI hA hP hS kc (tCe_lt hkc) (tE_cell hkc) rfl 1 (by decide) rfl ww_125 rfl rfl rfl (Nat.le_of_ble_eq_true rfl) (by rw [tE_cell hkc]; rfl) mD_TG_fillNew_23 (fun H locs hP hS => ?_)
  obtain ⟨x5, hx5⟩ : ∃ z_, z_ = tU x3 kc (upd (x3.1 kc) 1 (nI 16)) := ⟨_, rfl⟩
  rw [← hx5] at hP
  refine lv_aload_n hx hb mD_TG_fillNew_26 rfl (lv_at hl 1 rfl) ?_
  refine lv_iload_n hx hb mD_TG_fillNew_27 rfl (lv_at hl 2 rfl) ?_
  refine t_put (C := cN_Ce) (T := cF_Ce) (N := 4) (ci := 0) hx hb htw wU_Ce cT_Ce cO_Ce cM_Ce hown hK hI hA hP hS kc (tCe_lt hkc) (tE_cell hkc) rfl 2 (by decide) rfl ww_128 rfl (tb_nar (tBi_bit z)).1 (tb_nar (tBi_bit z)).2 (Nat.le_of_ble_eq_true rfl) (by rw [tE_cell hkc]; rfl) mD_TG_fillNew_28 (fun H locs hP hS => ?_)
  obtain ⟨x6, hx6⟩ : ∃ z_, z_ = tU x5 kc (upd (x5.1 kc) 2 (tBi z)) := ⟨_, rfl⟩
  rw [← hx6] at hP
  exact gw_vret hx hb hr hlocks hP hS (⟨g, by rw [hx6, tU_f, hx5, tU_f, bx_uu, va_up_self, eg, va_up_ne _ _ (tb_cr hkc hkc)], hg⟩) mD_TG_fillNew_31 (Nat.zero_le _) (Nat.zero_le _)
end
section
/-! TorusGates' private methods, second part: runGate, and those that may throw. Laid by wip/whole/part_tg2.py. -/
theorem tc_far {k : Nat} (h : tCe k) : tFar (k + 1) := ⟨tCe_row h, by unfold tCe at h; omega⟩
theorem tc_ne {k : Nat} (h : tCe k) : k ≠ 0 ∧ k ≠ 104 ∧ k ≠ 105 ∧ k ≠ 107 ∧ k + 1 ≠ 0 ∧ k + 1 ≠ 104 ∧ k + 1 ≠ 105 ∧ k + 1 ≠ 107 ∧ k ≠ 3 ∧ k + 1 ≠ 3 ∧ 104 ≤ k := by unfold tCe at h; omega
theorem tc_apart {k j : Nat} (h : tCe k) (h' : tCe j) : k ≠ j + 1 := by unfold tCe at h h'; omega

set_option maxHeartbeats 4000000 in
set_option maxRecDepth 100000 in
theorem k_TG_runGate (l : Launch) (D : va_G) (ct : Nat → ClassId) (ad : Nat → Nat) (hI : gw_inj 424 ad) (x : tS) {s0 : State} {zt : Nat → Nat} (h0 : tO s0 zt) {gt k1 k2 kd : Nat} {z1 z2 : Bool} (hgt : gt < 8) (hk1 : tCe k1) (hk2 : tCe k2) (hkd : tCe kd) (hn1 : k1 ≠ kd) (hn2 : k2 ≠ kd) (d1 : x.1 k1 2 = tBi z1) (d2 : x.1 k2 2 = tBi z2) (hk : tKey x.1) : gMv l mY_TG_runGate mB_TG_runGate 5 none (rF 5 127) D (tT ct) (tZ s0) 424 ad (tD ct ad) [.ref (ad 0), .int (nI gt), .ref (ad k1), .ref (ad k2), .ref (ad kd)] x (fun x' => (∀ k, k ≠ 0 → k ≠ 104 → k ≠ 105 → k ≠ 107 → k ≠ kd → k ≠ kd + 1 → x'.1 k = x.1 k) ∧ x'.1 kd = upd (upd (x.1 kd) 1 3186688) 2 (tBi (tp_truth gt z1 z2)) ∧ x'.1 0 = upd (x.1 0) 10 (x.1 0 10 + 1) ∧ ∀ b1 b2 : Nat, tp_near (x.1 3) (x.1 (k1 + 1)) z1 b1 → tp_near (x.1 3) (x.1 (k2 + 1)) z2 b2 → ¬ tp_far gt b1 b2 → tp_near (x.1 3) (x'.1 (kd + 1)) (tp_truth gt z1 z2) 3186688) := by
  refine gMv_enter (by decide) (Nat.le_of_ble_eq_true rfl) ?_
  intro p e s m below meth c ls hx hb hr htw hown hlocks hml hl hP hK hZ hS
  have hA : ∀ k, k < 424 → gA 424 ad s.heap.size (ad k) := fun _ h => gA_in h
  have hl : lv_has ls 5 [(0, .ref (ad 0)), (1, .int (nI gt)), (2, .ref (ad k1)), (3, .ref (ad k2)), (4, .ref (ad kd))] := hl
  refine lv_aload_n hx hb mD_TG_runGate_0 rfl (lv_at hl 0 rfl) ?_
  refine t_get (C := cN_TG) (T := cF_TG) (N := 12) (ci := 7) hx hb htw wU_TG hown hK hP 0 (by decide) rfl rfl 3 (by decide) rfl ww_225 rfl mD_TG_runGate_1 ?_
  refine lv_iload_n hx hb mD_TG_runGate_4 rfl (lv_at hl 1 rfl) ?_
  refine lv_aload_n hx hb mD_TG_runGate_5 rfl (lv_at hl 2 rfl) ?_
  refine t_get (C := cN_Ce) (T := cF_Ce) (N := 4) (ci := 0) hx hb htw wU_Ce hown hK hP k1 (tCe_lt hk1) (tE_cell hk1) rfl 0 (by decide) rfl ww_123 rfl mD_TG_runGate_6 ?_
  refine lv_aload_n hx hb mD_TG_runGate_9 rfl (lv_at hl 3 rfl) ?_
  refine t_get (C := cN_Ce) (T := cF_Ce) (N := 4) (ci := 0) hx hb htw wU_Ce hown hK hP k2 (tCe_lt hk2) (tE_cell hk2) rfl 0 (by decide) rfl ww_123 rfl mD_TG_runGate_10 ?_
  refine lv_aload hx hb mD_TG_runGate_13 (lv_at hl 4 rfl) ?_
  refine t_get (C := cN_Ce) (T := cF_Ce) (N := 4) (ci := 0) hx hb htw wU_Ce hown hK hP kd (tCe_lt hkd) (tE_cell hkd) rfl 0 (by decide) rfl ww_123 rfl mD_TG_runGate_15 ?_
  refine gc_Vv (As := [.int (nI gt), .ref (ad ((k1 + 1))), .ref (ad ((k2 + 1))), .ref (ad ((kd + 1)))]) (rest := []) hx hb hml hown htw hK hP hS 106 (k_Wo_work l D ct ad hI x h0 (gt := gt) (k1 := k1 + 1) (k2 := k2 + 1) (kd := kd + 1) hgt (tCe_row hk1) (tCe_row hk2) (tc_far hkd) (tc_ne hk1).2.2.2.2.2.2.2.1 (tc_ne hk2).2.2.2.2.2.2.2.1 hk) (tZ_ok s0) (tZ_at hZ hS) (gA_mono hS.1) (by decide) rfl rfl ww_505 ww_506 ww_507 ww_27 wC_Wo_work mP_Wo_work (by decide) rfl hl.1 rfl (Nat.le_of_ble_eq_true rfl) mD_TG_runGate_18 ⟨Nat.le_of_ble_eq_true rfl, Nat.le_of_ble_eq_true rfl⟩ (fun x1 H locs hp1 hP _ _ hS => ?_)
  obtain ⟨g0, gc, gw0, g, eg, hg⟩ := hp1
  refine lv_aload hx hb mD_TG_runGate_21 (lv_at hl 4 rfl) ?_
  refine lv_ldc hx hb hown (htw _ ww_553) mD_TG_runGate_23 ?_
  refine t_put (C := cN_Ce) (T := cF_Ce) (N := 4) (ci := 0) hx hb htw wU_Ce cT_Ce cO_Ce cM_Ce hown hK hI hA hP hS kd (tCe_lt hkd) (tE_cell hkd) rfl 1 (by decide) rfl ww_125 rfl rfl rfl (Nat.le_of_ble_eq_true rfl) (by rw [tE_cell hkd]; rfl) mD_TG_runGate_25 (fun H locs hP hS => ?_)
  obtain ⟨x3, hx3⟩ : ∃ z_, z_ = tU x1 kd (upd (x1.1 kd) 1 ((3186688 : Int32))) := ⟨_, rfl⟩
  rw [← hx3] at hP
  refine lv_aload hx hb mD_TG_runGate_28 (lv_at hl 4 rfl) ?_
  refine lv_iload_n hx hb mD_TG_runGate_30 rfl (lv_at hl 1 rfl) ?_
  refine lv_aload_n hx hb mD_TG_runGate_31 rfl (lv_at hl 2 rfl) ?_
  refine t_get (C := cN_Ce) (T := cF_Ce) (N := 4) (ci := 0) hx hb htw wU_Ce hown hK hP k1 (tCe_lt hk1) (tE_cell hk1) rfl 2 (by decide) rfl ww_128 rfl mD_TG_runGate_32 ?_
  refine lv_aload_n hx hb mD_TG_runGate_35 rfl (lv_at hl 3 rfl) ?_
  refine t_get (C := cN_Ce) (T := cF_Ce) (N := 4) (ci := 0) hx hb htw wU_Ce hown hK hP k2 (tCe_lt hk2) (tE_cell hk2) rfl 2 (by decide) rfl ww_128 rfl mD_TG_runGate_36 ?_
  have q1 : x3.1 k1 2 = tBi z1 := by rw [hx3, tU_n hn1, eg, va_up_ne _ _ (tc_apart hk1 hkd), va_up_ne _ _ (tc_ne hk1).2.1, va_up_ne _ _ (tc_ne hk1).2.2.1, va_up_ne _ _ (tc_ne hk1).2.2.2.1]; exact d1
  have q2 : x3.1 k2 2 = tBi z2 := by rw [hx3, tU_n hn2, eg, va_up_ne _ _ (tc_apart hk2 hkd), va_up_ne _ _ (tc_ne hk2).2.1, va_up_ne _ _ (tc_ne hk2).2.2.1, va_up_ne _ _ (tc_ne hk2).2.2.2.1]; exact d2
  rw [q1, q2]
  refine gc_Si (As := [.int (nI gt), .int (tBi z1), .int (tBi z2)]) (rest := [.ref (ad kd)]) hx hb hml hown htw hK hP hS (k_TG_truth l D ct ad hI x3 hgt z1 z2) gZ0_ok (fun _ _ _ => trivial) (gA_mono hS.1) ww_554 ww_555 ww_23 wC_TG_truth mP_TG_truth (by decide) rfl hl.1 rfl (Nat.le_of_ble_eq_true rfl) mD_TG_runGate_39 ⟨Nat.le_of_ble_eq_true rfl, Nat.le_of_ble_eq_true rfl⟩ (fun r5 x4 H locs hp4 hP _ _ hS => ?_)
  obtain ⟨hq_, rfl⟩ := hp4
  rw [hq_] at hP
  refine t_put (C := cN_Ce) (T := cF_Ce) (N := 4) (ci := 0) hx hb htw wU_Ce cT_Ce cO_Ce cM_Ce hown hK hI hA hP hS kd (tCe_lt hkd) (tE_cell hkd) rfl 2 (by decide) rfl ww_128 rfl (tb_nar (tBi_bit _)).1 (tb_nar (tBi_bit _)).2 (Nat.le_of_ble_eq_true rfl) (by rw [tE_cell hkd]; rfl) mD_TG_runGate_42 (fun H locs hP hS => ?_)
  obtain ⟨x6, hx6⟩ : ∃ z_, z_ = tU x3 kd (upd (x3.1 kd) 2 (tBi (tp_truth gt z1 z2))) := ⟨_, rfl⟩
  rw [← hx6] at hP
  refine lv_aload_n hx hb mD_TG_runGate_45 rfl (lv_at hl 0 rfl) ?_
  refine lv_dup hx hb mD_TG_runGate_46 rfl ?_
  refine t_get (C := cN_TG) (T := cF_TG) (N := 12) (ci := 7) hx hb htw wU_TG hown hK hP 0 (by decide) rfl rfl 10 (by decide) rfl ww_232 rfl mD_TG_runGate_47 ?_
  refine lv_iconst (v := nI 1) hx hb mD_TG_runGate_50 (by decide) ?_
  refine lv_iadd hx hb mD_TG_runGate_51 ?_
  refine t_put (C := cN_TG) (T := cF_TG) (N := 12) (ci := 7) hx hb htw wU_TG cT_TG cO_TG cM_TG hown hK hI hA hP hS 0 (by decide) rfl rfl 10 (by decide) rfl ww_232 rfl rfl rfl (Nat.le_of_ble_eq_true rfl) rfl mD_TG_runGate_52 (fun H locs hP hS => ?_)
  obtain ⟨x7, hx7⟩ : ∃ z_, z_ = tU x6 0 (upd (x6.1 0) 10 ((x6.1 0 10) + (nI 1))) := ⟨_, rfl⟩
  rw [← hx7] at hP
  exact gw_vret hx hb hr hlocks hP hS (have en : ∀ k, k ≠ 0 → k ≠ 104 → k ≠ 105 → k ≠ 107 → k ≠ kd → k ≠ kd + 1 → x7.1 k = x.1 k := (fun k a1 a2 a3 a4 a5 a6 => by rw [hx7, tU_n a1, hx6, tU_n a5, hx3, tU_n a5, eg, va_up_ne _ _ a6, va_up_ne _ _ a2, va_up_ne _ _ a3, va_up_ne _ _ a4]); have ew : ∀ k, k ≠ 104 → k ≠ 105 → k ≠ 107 → k ≠ kd + 1 → x1.1 k = x.1 k := (fun k a2 a3 a4 a6 => by rw [eg, va_up_ne _ _ a6, va_up_ne _ _ a2, va_up_ne _ _ a3, va_up_ne _ _ a4]); ⟨en, by rw [hx7, tU_n (tc_ne hkd).1, hx6, tU_1, hx3, tU_1, ew kd (tc_ne hkd).2.1 (tc_ne hkd).2.2.1 (tc_ne hkd).2.2.2.1 (Nat.ne_of_lt (Nat.lt_succ_self _))], by rw [hx7, tU_1, hx6, tU_n (tc_ne hkd).1.symm, hx3, tU_n (tc_ne hkd).1.symm, ew 0 (by decide) (by decide) (by decide) (tc_ne hkd).2.2.2.2.1.symm]; rfl, fun b1 b2 q1 q2 q3 => by rw [hx7, tU_n (tc_ne hkd).2.2.2.2.1, hx6, tU_n (Nat.ne_of_gt (Nat.lt_succ_self _)), hx3, tU_n (Nat.ne_of_gt (Nat.lt_succ_self _)), eg, va_up_self]; exact hg z1 z2 b1 b2 q1 q2 q3⟩) mD_TG_runGate_55 (Nat.zero_le _) (Nat.zero_le _)

set_option maxHeartbeats 4000000 in
set_option maxRecDepth 100000 in
theorem k_TG_cellOf (l : Launch) (D : va_G) (ct : Nat → ClassId) (ad : Nat → Nat) (hI : gw_inj 424 ad) (x : tS) {q : Nat} (hq : q < 120) (hh : x.1 (110 + 2 * q) 3 ≠ 0) : gMr l mY_TG_cellOf mB_TG_cellOf 2 (some (.object "TorusGates$Cell")) (rF 1 21) D (tT ct) gZ0 424 ad (tD ct ad) [.ref (ad 0), .int (nI q)] x (fun a x' => a = ad (110 + 2 * q) ∧ x' = x) := by
  refine gMr_enter (by decide) (Nat.le_of_ble_eq_true rfl) ?_
  intro p e s m below meth c ls hx hb hr htw hown hlocks hml hl hP hK hZ hS
  have hA : ∀ k, k < 424 → gA 424 ad s.heap.size (ad k) := fun _ h => gA_in h
  have hl : lv_has ls 2 [(0, .ref (ad 0)), (1, .int (nI q))] := hl
  refine lv_aload_n hx hb mD_TG_cellOf_0 rfl (lv_at hl 0 rfl) ?_
  refine t_get (C := cN_TG) (T := cF_TG) (N := 12) (ci := 7) hx hb htw wU_TG hown hK hP 0 (by decide) rfl rfl 4 (by decide) rfl ww_226 rfl mD_TG_cellOf_1 ?_
  refine lv_iload_n hx hb mD_TG_cellOf_4 rfl (lv_at hl 1 rfl) ?_
  refine gc_Vi (As := [.int (nI q)]) (rest := []) hx hb hml hown htw hK hP hS 108 (k_Le_holds l D ct ad hI x (nI q)) gZ0_ok (fun _ _ _ => trivial) (gA_mono hS.1) (by decide) rfl rfl ww_385 ww_386 ww_387 ww_28 wC_Le_holds mP_Le_holds (by decide) rfl hl.1 rfl (Nat.le_of_ble_eq_true rfl) mD_TG_cellOf_5 ⟨Nat.le_of_ble_eq_true rfl, Nat.le_of_ble_eq_true rfl⟩ (fun r2 x1 H locs hp1 hP _ _ hS => ?_)
  obtain ⟨hq_, hr_⟩ := hp1
  rw [hq_] at hP
  refine lv_if_ne (tgt := 21) hx hb mD_TG_cellOf_8 rfl (fun hc => ?_) (fun hc => ?_)
  · skip
    refine lv_aload_n hx hb mD_TG_cellOf_21 rfl (lv_at hl 0 rfl) ?_
    refine t_get (C := cN_TG) (T := cF_TG) (N := 12) (ci := 7) hx hb htw wU_TG hown hK hP 0 (by decide) rfl rfl 4 (by decide) rfl ww_226 rfl mD_TG_cellOf_22 ?_
    refine t_get (C := cN_Le) (T := cF_Le) (N := 2) (ci := 2) hx hb htw wU_Le hown hK hP 108 (by decide) rfl rfl 0 (by decide) rfl ww_140 rfl mD_TG_cellOf_25 ?_
    refine lv_iload_n hx hb mD_TG_cellOf_28 rfl (lv_at hl 1 rfl) ?_
    refine t_aldq hx hb hK hP 109 120 (by decide) rfl q rfl hq (by decide) rfl mD_TG_cellOf_29 ?_
    exact gw_aret hx hb hr hlocks hP hS (⟨rfl, rfl⟩) mD_TG_cellOf_30 (Nat.zero_le _) (Nat.zero_le _)
  · skip
    exfalso; rcases hr_ with ⟨e, _⟩ | ⟨_, h⟩; exact absurd (e.symm.trans hc) (by decide); exact h ((tHas_i hq).mpr hh)

set_option maxHeartbeats 4000000 in
set_option maxRecDepth 100000 in
theorem x_TG_cellOf (l : Launch) (D : va_G) (ct : Nat → ClassId) (ad : Nat → Nat) (hI : gw_inj 424 ad) (x : tS) (hls : l.stackTraces = false) {s0 : State} {zt : Nat → Nat} (h0 : tO s0 zt) (a : Int32) (hh : ¬ tHas x.1 a) : gX l mY_TG_cellOf mB_TG_cellOf 2 (some (.object "TorusGates$Cell")) (rX 6 82) D (tT ct) (tZ s0) 424 ad (tD ct ad) [.ref (ad 0), .int a] x tX_N (fun x' => x' = x) := by
  refine gX_enter (by decide) (Nat.le_of_ble_eq_true rfl) ?_
  intro p e s m below meth c ls hx hb hr htw hown hlocks hml hl hP hK hZ hS hno
  have hA : ∀ k, k < 424 → gA 424 ad s.heap.size (ad k) := fun _ h => gA_in h
  have hl : lv_has ls 2 [(0, .ref (ad 0)), (1, .int a)] := hl
  have hP0 := hP
  refine lv_aload_n hx hb mD_TG_cellOf_0 rfl (lv_at hl 0 rfl) ?_
  refine t_get (C := cN_TG) (T := cF_TG) (N := 12) (ci := 7) hx hb htw wU_TG hown hK hP 0 (by decide) rfl rfl 4 (by decide) rfl ww_226 rfl mD_TG_cellOf_1 ?_
  refine lv_iload_n hx hb mD_TG_cellOf_4 rfl (lv_at hl 1 rfl) ?_
  refine gc_Vi (As := [.int a]) (rest := []) hx hb hml hown htw hK hP hS 108 (k_Le_holds l D ct ad hI x a) gZ0_ok (fun _ _ _ => trivial) (gA_mono hS.1) (by decide) rfl rfl ww_385 ww_386 ww_387 ww_28 wC_Le_holds mP_Le_holds (by decide) rfl hl.1 rfl (Nat.le_of_ble_eq_true rfl) mD_TG_cellOf_5 ⟨Nat.le_of_ble_eq_true rfl, Nat.le_of_ble_eq_true rfl⟩ (fun r2 x1 H locs hp1 hP _ _ hS => ?_)
  obtain ⟨hq_, hr_⟩ := hp1
  rw [hq_] at hP
  refine lv_if_ne (tgt := 21) hx hb mD_TG_cellOf_8 rfl (fun hc => ?_) (fun hc => ?_)
  · skip
    exfalso; rcases hr_ with ⟨_, h⟩ | ⟨e, _⟩; exact hh h; exact hc e
  · skip
    obtain ⟨sa, hsa⟩ := tO_str h0 hZ 1 rfl
    exact tx_thN hx hb (hl.1.trans hml.symm) hown hls hno hlocks h0 hZ hsa hP0 hP hS (rfl) (by decide) (by decide) (by decide) (by decide) (by decide) (by decide) mD_TG_cellOf_11 mD_TG_cellOf_14 mD_TG_cellOf_15 mD_TG_cellOf_17 mD_TG_cellOf_20

theorem tf_uniq {v : Nat → Nat → Int32} {q r : Nat} (h1 : v (110 + 2 * q) 3 = 0) (h2 : ∀ j, j < q → v (110 + 2 * j) 3 ≠ 0) (h3 : v (110 + 2 * r) 3 = 0) (h4 : ∀ j, j < r → v (110 + 2 * j) 3 ≠ 0) : r = q := by
  rcases Nat.lt_trichotomy r q with h | h | h
  · exact absurd h3 (h2 r h)
  · exact h
  · exact absurd h1 (h4 q h)
theorem tf_m1 {q : Nat} (h : q < 2 ^ 31) : ¬ nI q = (-1 : Int32) := by
  intro e
  have h1 := congrArg Int32.toInt e
  rw [nI_toInt h] at h1
  have h2 : (-1 : Int32).toInt = -1 := by decide
  omega

set_option maxHeartbeats 4000000 in
set_option maxRecDepth 100000 in
theorem k_TG_freeNumber (l : Launch) (D : va_G) (ct : Nat → ClassId) (ad : Nat → Nat) (hI : gw_inj 424 ad) (x : tS) {q : Nat} (hq : q < 120) (hf : x.1 (110 + 2 * q) 3 = 0) (hm : ∀ j, j < q → x.1 (110 + 2 * j) 3 ≠ 0) : gMi l mY_TG_freeNumber mB_TG_freeNumber 2 (some .int) (rF 1 21) D (tT ct) gZ0 424 ad (tD ct ad) [.ref (ad 0)] x (fun r x' => x' = x ∧ r = nI q) := by
  refine gMi_enter (by decide) (Nat.le_of_ble_eq_true rfl) ?_
  intro p e s m below meth c ls hx hb hr htw hown hlocks hml hl hP hK hZ hS
  have hA : ∀ k, k < 424 → gA 424 ad s.heap.size (ad k) := fun _ h => gA_in h
  have hl : lv_has ls 2 [(0, .ref (ad 0))] := hl
  refine lv_aload_n hx hb mD_TG_freeNumber_0 rfl (lv_at hl 0 rfl) ?_
  refine t_get (C := cN_TG) (T := cF_TG) (N := 12) (ci := 7) hx hb htw wU_TG hown hK hP 0 (by decide) rfl rfl 4 (by decide) rfl ww_226 rfl mD_TG_freeNumber_1 ?_
  refine gc_Vi (As := []) (rest := []) hx hb hml hown htw hK hP hS 108 (k_Le_leastFree l D ct ad hI x) gZ0_ok (fun _ _ _ => trivial) (gA_mono hS.1) (by decide) rfl rfl ww_287 ww_288 ww_289 ww_28 wC_Le_leastFree mP_Le_leastFree (by decide) rfl hl.1 rfl (Nat.le_of_ble_eq_true rfl) mD_TG_freeNumber_4 ⟨Nat.le_of_ble_eq_true rfl, Nat.le_of_ble_eq_true rfl⟩ (fun r2 x1 H locs hp1 hP _ _ hS => ?_)
  obtain ⟨hq_, hr_⟩ := hp1
  rw [hq_] at hP
  have er : r2 = nI q := by rcases hr_ with ⟨r0, hr0, e, h1, h2⟩ | ⟨_, h1⟩; rw [e, tf_uniq hf hm h1 h2]; exact absurd hf (h1 q hq)
  subst er
  refine lv_istore_n (lv' := [(1, .int (nI q)), (0, .ref (ad 0))]) hx hb mD_TG_freeNumber_7 rfl hl (by decide) rfl (fun ls hl => ?_)
  refine lv_iload_n hx hb mD_TG_freeNumber_8 rfl (lv_at hl 0 rfl) ?_
  refine lv_iconst (v := (-1)) hx hb mD_TG_freeNumber_9 (by decide) ?_
  refine lv_icmp_ne (tgt := 23) hx hb mD_TG_freeNumber_10 rfl (fun hc => ?_) (fun hc => ?_)
  · skip
    refine lv_iload_n hx hb mD_TG_freeNumber_23 rfl (lv_at hl 0 rfl) ?_
    exact gw_iret hx hb hr hlocks hP hS (⟨rfl, rfl⟩) mD_TG_freeNumber_24 (Nat.zero_le _) (Nat.zero_le _)
  · skip
    exfalso; exact tf_m1 (by omega) hc

set_option maxHeartbeats 4000000 in
set_option maxRecDepth 100000 in
theorem x_TG_freeNumber (l : Launch) (D : va_G) (ct : Nat → ClassId) (ad : Nat → Nat) (hI : gw_inj 424 ad) (x : tS) (hls : l.stackTraces = false) {s0 : State} {zt : Nat → Nat} (h0 : tO s0 zt) (hm : ∀ j, j < 120 → x.1 (110 + 2 * j) 3 ≠ 0) : gX l mY_TG_freeNumber mB_TG_freeNumber 2 (some .int) (rX 6 82) D (tT ct) (tZ s0) 424 ad (tD ct ad) [.ref (ad 0)] x tX_S (fun x' => x' = x) := by
  refine gX_enter (by decide) (Nat.le_of_ble_eq_true rfl) ?_
  intro p e s m below meth c ls hx hb hr htw hown hlocks hml hl hP hK hZ hS hno
  have hA : ∀ k, k < 424 → gA 424 ad s.heap.size (ad k) := fun _ h => gA_in h
  have hl : lv_has ls 2 [(0, .ref (ad 0))] := hl
  have hP0 := hP
  refine lv_aload_n hx hb mD_TG_freeNumber_0 rfl (lv_at hl 0 rfl) ?_
  refine t_get (C := cN_TG) (T := cF_TG) (N := 12) (ci := 7) hx hb htw wU_TG hown hK hP 0 (by decide) rfl rfl 4 (by decide) rfl ww_226 rfl mD_TG_freeNumber_1 ?_
  refine gc_Vi (As := []) (rest := []) hx hb hml hown htw hK hP hS 108 (k_Le_leastFree l D ct ad hI x) gZ0_ok (fun _ _ _ => trivial) (gA_mono hS.1) (by decide) rfl rfl ww_287 ww_288 ww_289 ww_28 wC_Le_leastFree mP_Le_leastFree (by decide) rfl hl.1 rfl (Nat.le_of_ble_eq_true rfl) mD_TG_freeNumber_4 ⟨Nat.le_of_ble_eq_true rfl, Nat.le_of_ble_eq_true rfl⟩ (fun r2 x1 H locs hp1 hP _ _ hS => ?_)
  obtain ⟨hq_, hr_⟩ := hp1
  rw [hq_] at hP
  have er : r2 = (-1 : Int32) := by rcases hr_ with ⟨r0, hr0, e, h1, h2⟩ | ⟨e, _⟩; exact absurd h1 (hm r0 hr0); exact e
  subst er
  refine lv_istore_n (lv' := [(1, .int ((-1 : Int32))), (0, .ref (ad 0))]) hx hb mD_TG_freeNumber_7 rfl hl (by decide) rfl (fun ls hl => ?_)
  refine lv_iload_n hx hb mD_TG_freeNumber_8 rfl (lv_at hl 0 rfl) ?_
  refine lv_iconst (v := (-1)) hx hb mD_TG_freeNumber_9 (by decide) ?_
  refine lv_icmp_ne (tgt := 23) hx hb mD_TG_freeNumber_10 rfl (fun hc => ?_) (fun hc => ?_)
  · skip
    exfalso; exact hc rfl
  · skip
    obtain ⟨sa, hsa⟩ := tO_str h0 hZ 0 rfl
    exact tx_thS hx hb (hl.1.trans hml.symm) hown hls hno hlocks h0 hZ hsa hP0 hP hS (rfl) (by decide) (by decide) (by decide) (by decide) (by decide) (by decide) mD_TG_freeNumber_13 mD_TG_freeNumber_16 mD_TG_freeNumber_17 mD_TG_freeNumber_19 mD_TG_freeNumber_22

set_option maxHeartbeats 4000000 in
set_option maxRecDepth 100000 in
theorem k_TG_checkKind (l : Launch) (D : va_G) (ct : Nat → ClassId) (ad : Nat → Nat) (hI : gw_inj 424 ad) (x : tS) {q : Nat} (hq : q < 8) : gMv l mY_TG_checkKind mB_TG_checkKind 2 none (rF 0 0) D (tT ct) gZ0 424 ad (tD ct ad) [.ref (ad 0), .int (nI q)] x (fun x' => x' = x) := by
  refine gMv_enter (by decide) (Nat.le_of_ble_eq_true rfl) ?_
  intro p e s m below meth c ls hx hb hr htw hown hlocks hml hl hP hK hZ hS
  have hA : ∀ k, k < 424 → gA 424 ad s.heap.size (ad k) := fun _ h => gA_in h
  have hl : lv_has ls 2 [(0, .ref (ad 0)), (1, .int (nI q))] := hl
  refine lv_iload_n hx hb mD_TG_checkKind_0 rfl (lv_at hl 1 rfl) ?_
  refine lv_if_lt (tgt := 10) hx hb mD_TG_checkKind_1 rfl (fun hc => ?_) (fun hc => ?_)
  · skip
    exfalso; exact nI_pos (by omega) hc
  · skip
    refine lv_iload_n hx hb mD_TG_checkKind_4 rfl (lv_at hl 1 rfl) ?_
    refine lv_bipush (v := nI 7) hx hb mD_TG_checkKind_5 (by decide) ?_
    refine lv_icmp_le (tgt := 20) hx hb mD_TG_checkKind_7 rfl (fun hc => ?_) (fun hc => ?_)
    · skip
      exact gw_vret hx hb hr hlocks hP hS (rfl) mD_TG_checkKind_20 (Nat.zero_le _) (Nat.zero_le _)
    · skip
      exfalso; exact hc ((nI_leI (by omega) (by omega)).mpr (by omega))

theorem tk_rng {a : Int32} {N : Nat} (hN : N < 2 ^ 30) (h0 : ¬ a < 0) (h1 : a ≤ nI N) : ∃ q, q ≤ N ∧ a = nI q := by
  obtain ⟨q, h2, h3⟩ := tb_idx (N := N + 1) (by omega) h0 (fun z => by
    have h4 := Int32.le_iff_toInt_le.mp h1
    have h5 := Int32.le_iff_toInt_le.mp z
    rw [nI_toInt (by omega)] at h4 h5
    omega)
  exact ⟨q, by omega, h3⟩

set_option maxHeartbeats 4000000 in
set_option maxRecDepth 100000 in
theorem x_TG_checkKind (l : Launch) (D : va_G) (ct : Nat → ClassId) (ad : Nat → Nat) (hI : gw_inj 424 ad) (x : tS) (hls : l.stackTraces = false) {s0 : State} {zt : Nat → Nat} (h0 : tO s0 zt) (a : Int32) (hh : ¬ ∃ q, q < 8 ∧ a = nI q) : gX l mY_TG_checkKind mB_TG_checkKind 2 none (rX 6 82) D (tT ct) (tZ s0) 424 ad (tD ct ad) [.ref (ad 0), .int a] x tX_N (fun x' => x' = x) := by
  refine gX_enter (by decide) (Nat.le_of_ble_eq_true rfl) ?_
  intro p e s m below meth c ls hx hb hr htw hown hlocks hml hl hP hK hZ hS hno
  have hA : ∀ k, k < 424 → gA 424 ad s.heap.size (ad k) := fun _ h => gA_in h
  have hl : lv_has ls 2 [(0, .ref (ad 0)), (1, .int a)] := hl
  have hP0 := hP
  refine lv_iload_n hx hb mD_TG_checkKind_0 rfl (lv_at hl 1 rfl) ?_
  refine lv_if_lt (tgt := 10) hx hb mD_TG_checkKind_1 rfl (fun h1 => ?_) (fun h1 => ?_)
  · skip
    obtain ⟨sa, hsa⟩ := tO_str h0 hZ 4 rfl
    exact tx_thN hx hb (hl.1.trans hml.symm) hown hls hno hlocks h0 hZ hsa hP0 hP hS (rfl) (by decide) (by decide) (by decide) (by decide) (by decide) (by decide) mD_TG_checkKind_10 mD_TG_checkKind_13 mD_TG_checkKind_14 mD_TG_checkKind_16 mD_TG_checkKind_19
  · skip
    refine lv_iload_n hx hb mD_TG_checkKind_4 rfl (lv_at hl 1 rfl) ?_
    refine lv_bipush (v := nI 7) hx hb mD_TG_checkKind_5 (by decide) ?_
    refine lv_icmp_le (tgt := 20) hx hb mD_TG_checkKind_7 rfl (fun h2 => ?_) (fun h2 => ?_)
    · skip
      exfalso; obtain ⟨q, z1, z2⟩ := tk_rng (by decide) h1 h2; exact hh ⟨q, by omega, z2⟩
    · skip
      obtain ⟨sa, hsa⟩ := tO_str h0 hZ 4 rfl
      exact tx_thN hx hb (hl.1.trans hml.symm) hown hls hno hlocks h0 hZ hsa hP0 hP hS (rfl) (by decide) (by decide) (by decide) (by decide) (by decide) (by decide) mD_TG_checkKind_10 mD_TG_checkKind_13 mD_TG_checkKind_14 mD_TG_checkKind_16 mD_TG_checkKind_19

set_option maxHeartbeats 4000000 in
set_option maxRecDepth 100000 in
theorem k_TG_checkRange (l : Launch) (D : va_G) (ct : Nat → ClassId) (ad : Nat → Nat) (hI : gw_inj 424 ad) (x : tS) {q N : Nat} (hq : q ≤ N) (hN : N < 2 ^ 30) : gMv l mY_TG_checkRange mB_TG_checkRange 3 none (rF 0 0) D (tT ct) gZ0 424 ad (tD ct ad) [.ref (ad 0), .int (nI q), .int (nI N)] x (fun x' => x' = x) := by
  refine gMv_enter (by decide) (Nat.le_of_ble_eq_true rfl) ?_
  intro p e s m below meth c ls hx hb hr htw hown hlocks hml hl hP hK hZ hS
  have hA : ∀ k, k < 424 → gA 424 ad s.heap.size (ad k) := fun _ h => gA_in h
  have hl : lv_has ls 3 [(0, .ref (ad 0)), (1, .int (nI q)), (2, .int (nI N))] := hl
  refine lv_iload_n hx hb mD_TG_checkRange_0 rfl (lv_at hl 1 rfl) ?_
  refine lv_if_lt (tgt := 9) hx hb mD_TG_checkRange_1 rfl (fun hc => ?_) (fun hc => ?_)
  · skip
    exfalso; exact nI_pos (by omega) hc
  · skip
    refine lv_iload_n hx hb mD_TG_checkRange_4 rfl (lv_at hl 1 rfl) ?_
    refine lv_iload_n hx hb mD_TG_checkRange_5 rfl (lv_at hl 2 rfl) ?_
    refine lv_icmp_le (tgt := 19) hx hb mD_TG_checkRange_6 rfl (fun hc => ?_) (fun hc => ?_)
    · skip
      exact gw_vret hx hb hr hlocks hP hS (rfl) mD_TG_checkRange_19 (Nat.zero_le _) (Nat.zero_le _)
    · skip
      exfalso; exact hc ((nI_leI (by omega) (by omega)).mpr (by omega))

set_option maxHeartbeats 4000000 in
set_option maxRecDepth 100000 in
theorem x_TG_checkRange (l : Launch) (D : va_G) (ct : Nat → ClassId) (ad : Nat → Nat) (hI : gw_inj 424 ad) (x : tS) (hls : l.stackTraces = false) {s0 : State} {zt : Nat → Nat} (h0 : tO s0 zt) (a : Int32) {N : Nat} (hN : N < 2 ^ 30) (hh : ¬ ∃ q, q ≤ N ∧ a = nI q) : gX l mY_TG_checkRange mB_TG_checkRange 3 none (rX 6 82) D (tT ct) (tZ s0) 424 ad (tD ct ad) [.ref (ad 0), .int a, .int (nI N)] x tX_A (fun x' => x' = x) := by
  refine gX_enter (by decide) (Nat.le_of_ble_eq_true rfl) ?_
  intro p e s m below meth c ls hx hb hr htw hown hlocks hml hl hP hK hZ hS hno
  have hA : ∀ k, k < 424 → gA 424 ad s.heap.size (ad k) := fun _ h => gA_in h
  have hl : lv_has ls 3 [(0, .ref (ad 0)), (1, .int a), (2, .int (nI N))] := hl
  have hP0 := hP
  refine lv_iload_n hx hb mD_TG_checkRange_0 rfl (lv_at hl 1 rfl) ?_
  refine lv_if_lt (tgt := 9) hx hb mD_TG_checkRange_1 rfl (fun h1 => ?_) (fun h1 => ?_)
  · skip
    obtain ⟨sa, hsa⟩ := tO_str h0 hZ 2 rfl
    exact tx_thA hx hb (hl.1.trans hml.symm) hown hls hno hlocks h0 hZ hsa hP0 hP hS (rfl) (by decide) (by decide) (by decide) (by decide) (by decide) (by decide) mD_TG_checkRange_9 mD_TG_checkRange_12 mD_TG_checkRange_13 mD_TG_checkRange_15 mD_TG_checkRange_18
  · skip
    refine lv_iload_n hx hb mD_TG_checkRange_4 rfl (lv_at hl 1 rfl) ?_
    refine lv_iload_n hx hb mD_TG_checkRange_5 rfl (lv_at hl 2 rfl) ?_
    refine lv_icmp_le (tgt := 19) hx hb mD_TG_checkRange_6 rfl (fun h2 => ?_) (fun h2 => ?_)
    · skip
      exfalso; exact hh (tk_rng hN h1 h2)
    · skip
      obtain ⟨sa, hsa⟩ := tO_str h0 hZ 2 rfl
      exact tx_thA hx hb (hl.1.trans hml.symm) hown hls hno hlocks h0 hZ hsa hP0 hP hS (rfl) (by decide) (by decide) (by decide) (by decide) (by decide) (by decide) mD_TG_checkRange_9 mD_TG_checkRange_12 mD_TG_checkRange_13 mD_TG_checkRange_15 mD_TG_checkRange_18

set_option maxHeartbeats 4000000 in
set_option maxRecDepth 100000 in
theorem k_TG_checkedBound (l : Launch) (D : va_G) (ct : Nat → ClassId) (ad : Nat → Nat) (hI : gw_inj 424 ad) (x : tS) {q : Nat} (hq : q < 1073741824) : gMi l mY_TG_checkedBound mB_TG_checkedBound 3 (some .int) (rF 0 0) D (tT ct) gZ0 424 ad (tD ct ad) [.ref (ad 0), .long (lN q)] x (fun r x' => x' = x ∧ r = nI q) := by
  refine gMi_enter (by decide) (Nat.le_of_ble_eq_true rfl) ?_
  intro p e s m below meth c ls hx hb hr htw hown hlocks hml hl hP hK hZ hS
  have hA : ∀ k, k < 424 → gA 424 ad s.heap.size (ad k) := fun _ h => gA_in h
  have hl : lv_has ls 3 [(0, .ref (ad 0)), (1, .long (lN q))] := hl
  refine lv_lload_n hx hb mD_TG_checkedBound_0 rfl (lv_at hl 1 rfl) ?_
  refine lv_ldc2 hx hb hown (htw _ ww_464) mD_TG_checkedBound_1 ?_
  refine W.lcmp hx hb mD_TG_checkedBound_4 ?_
  refine lv_if_lt (tgt := 18) hx hb mD_TG_checkedBound_5 rfl (fun hc => ?_) (fun hc => ?_)
  · skip
    refine lv_lload_n hx hb mD_TG_checkedBound_18 rfl (lv_at hl 1 rfl) ?_
    refine lv_l2i hx hb mD_TG_checkedBound_19 rfl ?_
    exact gw_iret hx hb hr hlocks hP hS (⟨rfl, lN_i q⟩) mD_TG_checkedBound_20 (Nat.zero_le _) (Nat.zero_le _)
  · skip
    exfalso; exact hc ((tl_ltn (m := 1073741824) (by omega) (by decide)).mpr hq)

set_option maxHeartbeats 4000000 in
set_option maxRecDepth 100000 in
theorem x_TG_checkedBound (l : Launch) (D : va_G) (ct : Nat → ClassId) (ad : Nat → Nat) (hI : gw_inj 424 ad) (x : tS) (hls : l.stackTraces = false) {s0 : State} {zt : Nat → Nat} (h0 : tO s0 zt) {q : Nat} (hq : 1073741824 ≤ q) (hq2 : q < 2 ^ 62) : gX l mY_TG_checkedBound mB_TG_checkedBound 3 (some .int) (rX 6 82) D (tT ct) (tZ s0) 424 ad (tD ct ad) [.ref (ad 0), .long (lN q)] x tX_S (fun x' => x' = x) := by
  refine gX_enter (by decide) (Nat.le_of_ble_eq_true rfl) ?_
  intro p e s m below meth c ls hx hb hr htw hown hlocks hml hl hP hK hZ hS hno
  have hA : ∀ k, k < 424 → gA 424 ad s.heap.size (ad k) := fun _ h => gA_in h
  have hl : lv_has ls 3 [(0, .ref (ad 0)), (1, .long (lN q))] := hl
  have hP0 := hP
  refine lv_lload_n hx hb mD_TG_checkedBound_0 rfl (lv_at hl 1 rfl) ?_
  refine lv_ldc2 hx hb hown (htw _ ww_464) mD_TG_checkedBound_1 ?_
  refine W.lcmp hx hb mD_TG_checkedBound_4 ?_
  refine lv_if_lt (tgt := 18) hx hb mD_TG_checkedBound_5 rfl (fun hc => ?_) (fun hc => ?_)
  · skip
    exfalso; have := (tl_ltn (m := 1073741824) hq2 (by decide)).mp hc; omega
  · skip
    obtain ⟨sa, hsa⟩ := tO_str h0 hZ 3 rfl
    exact tx_thS hx hb (hl.1.trans hml.symm) hown hls hno hlocks h0 hZ hsa hP0 hP hS (rfl) (by decide) (by decide) (by decide) (by decide) (by decide) (by decide) mD_TG_checkedBound_8 mD_TG_checkedBound_11 mD_TG_checkedBound_12 mD_TG_checkedBound_14 mD_TG_checkedBound_17

set_option maxHeartbeats 4000000 in
set_option maxRecDepth 100000 in
theorem k_TG_refuseIf (l : Launch) (D : va_G) (ct : Nat → ClassId) (ad : Nat → Nat) (hI : gw_inj 424 ad) (x : tS)  : gMv l mY_TG_refuseIf mB_TG_refuseIf 2 none (rF 0 0) D (tT ct) gZ0 424 ad (tD ct ad) [.ref (ad 0), .int (nI 0)] x (fun x' => x' = x) := by
  refine gMv_enter (by decide) (Nat.le_of_ble_eq_true rfl) ?_
  intro p e s m below meth c ls hx hb hr htw hown hlocks hml hl hP hK hZ hS
  have hA : ∀ k, k < 424 → gA 424 ad s.heap.size (ad k) := fun _ h => gA_in h
  have hl : lv_has ls 2 [(0, .ref (ad 0)), (1, .int (nI 0))] := hl
  refine lv_iload_n hx hb mD_TG_refuseIf_0 rfl (lv_at hl 1 rfl) ?_
  refine lv_if_eq (tgt := 24) hx hb mD_TG_refuseIf_1 rfl (fun hc => ?_) (fun hc => ?_)
  · skip
    exact gw_vret hx hb hr hlocks hP hS (rfl) mD_TG_refuseIf_24 (Nat.zero_le _) (Nat.zero_le _)
  · skip
    exfalso; exact hc rfl

set_option maxHeartbeats 4000000 in
set_option maxRecDepth 100000 in
theorem x_TG_refuseIf (l : Launch) (D : va_G) (ct : Nat → ClassId) (ad : Nat → Nat) (hI : gw_inj 424 ad) (x : tS) (hls : l.stackTraces = false) {s0 : State} {zt : Nat → Nat} (h0 : tO s0 zt)  : gX l mY_TG_refuseIf mB_TG_refuseIf 2 none (rX 6 82) D (tT ct) (tZ s0) 424 ad (tD ct ad) [.ref (ad 0), .int (nI 1)] x tX_S (fun x' => x'.1 = va_up x.1 0 (upd (x.1 0) 11 (x.1 0 11 + 1))) := by
  refine gX_enter (by decide) (Nat.le_of_ble_eq_true rfl) ?_
  intro p e s m below meth c ls hx hb hr htw hown hlocks hml hl hP hK hZ hS hno
  have hA : ∀ k, k < 424 → gA 424 ad s.heap.size (ad k) := fun _ h => gA_in h
  have hl : lv_has ls 2 [(0, .ref (ad 0)), (1, .int (nI 1))] := hl
  have hP0 := hP
  refine lv_iload_n hx hb mD_TG_refuseIf_0 rfl (lv_at hl 1 rfl) ?_
  refine lv_if_eq (tgt := 24) hx hb mD_TG_refuseIf_1 rfl (fun hc => ?_) (fun hc => ?_)
  · skip
    exfalso; exact absurd hc (by decide)
  · skip
    refine lv_aload_n hx hb mD_TG_refuseIf_4 rfl (lv_at hl 0 rfl) ?_
    refine lv_dup hx hb mD_TG_refuseIf_5 rfl ?_
    refine t_get (C := cN_TG) (T := cF_TG) (N := 12) (ci := 7) hx hb htw wU_TG hown hK hP 0 (by decide) rfl rfl 11 (by decide) rfl ww_233 rfl mD_TG_refuseIf_6 ?_
    refine lv_iconst (v := nI 1) hx hb mD_TG_refuseIf_9 (by decide) ?_
    refine lv_iadd hx hb mD_TG_refuseIf_10 ?_
    refine t_put (C := cN_TG) (T := cF_TG) (N := 12) (ci := 7) hx hb htw wU_TG cT_TG cO_TG cM_TG hown hK hI hA hP hS 0 (by decide) rfl rfl 11 (by decide) rfl ww_233 rfl rfl rfl (Nat.le_of_ble_eq_true rfl) rfl mD_TG_refuseIf_11 (fun H locs hP hS => ?_)
    obtain ⟨x1, hx1⟩ : ∃ z_, z_ = tU x 0 (upd (x.1 0) 11 ((x.1 0 11) + (nI 1))) := ⟨_, rfl⟩
    rw [← hx1] at hP
    obtain ⟨sa, hsa⟩ := tO_str h0 hZ 5 rfl
    exact tx_thS hx hb (hl.1.trans hml.symm) hown hls hno hlocks h0 hZ hsa hP0 hP hS (by rw [hx1]; rfl) (by decide) (by decide) (by decide) (by decide) (by decide) (by decide) mD_TG_refuseIf_14 mD_TG_refuseIf_17 mD_TG_refuseIf_18 mD_TG_refuseIf_20 mD_TG_refuseIf_23
end
section
/-! the abstract state that class and reference share: which numbers are there, bound and value of each, the lines, gates done, refusals; and how the class's world stands to it. My own. -/
abbrev tA : Type := (Nat → Bool) × (Nat → Nat) × (Nat → Bool) × Nat × (Nat → Nat × Nat × Nat) × Int32 × Int32
def aT (α : tA) : Nat → Bool := α.1
def aB (α : tA) : Nat → Nat := α.2.1
def aV (α : tA) : Nat → Bool := α.2.2.1
def aZ (α : tA) : Nat := α.2.2.2.1
def aL (α : tA) : Nat → Nat × Nat × Nat := α.2.2.2.2.1
def aG (α : tA) : Int32 := α.2.2.2.2.2.1
def aR (α : tA) : Int32 := α.2.2.2.2.2.2
def aMade (α : tA) (q : Nat) (z : Bool) (b : Nat) : tA := (va_up (aT α) q true, va_up (aB α) q b, va_up (aV α) q z, aZ α, aL α, aG α, aR α)
def aDrop (α : tA) (q : Nat) : tA := (va_up (aT α) q false, aB α, aV α, aZ α, aL α, aG α, aR α)
def aBound (α : tA) (q b : Nat) : tA := (aT α, va_up (aB α) q b, aV α, aZ α, aL α, aG α, aR α)
def aKey (α : tA) : tA := (fun _ => false, aB α, aV α, aZ α, aL α, aG α, aR α)
def aGates (α : tA) (g : Int32) : tA := (aT α, aB α, aV α, aZ α, aL α, g, aR α)
def aRefus (α : tA) : tA := (aT α, aB α, aV α, aZ α, aL α, aG α, aR α + 1)
def aLine (α : tA) (ln : Nat × Nat × Nat) : tA := (aT α, aB α, aV α, aZ α + 1, va_up (aL α) (aZ α) ln, aG α, aR α)
def aClear (α : tA) : tA := (aT α, aB α, aV α, 0, aL α, aG α, aR α)
def aCnt (f : Nat → Bool) : Nat → Nat
  | 0 => 0
  | n + 1 => aCnt f n + (if f n then 1 else 0)
def aFree (α : tA) (q : Nat) : Prop := q < 120 ∧ aT α q = false ∧ ∀ j, j < q → aT α j = true
def aFull (α : tA) : Prop := ∀ j, j < 120 → aT α j = true
def aHas (α : tA) (a : Int32) : Prop := ∃ q, q < 120 ∧ a = nI q ∧ aT α q = true
theorem aCnt_le (f : Nat → Bool) (n : Nat) : aCnt f n ≤ n := by
  induction n with
  | zero => exact Nat.le_refl _
  | succ n ih => unfold aCnt; split <;> omega
theorem aCnt_congr {f g : Nat → Bool} {n : Nat} (h : ∀ j, j < n → f j = g j) : aCnt f n = aCnt g n := by
  induction n with
  | zero => rfl
  | succ n ih => unfold aCnt; rw [ih (fun j hj => h j (by omega)), h n (by omega)]
theorem aCnt_on {f : Nat → Bool} {n q : Nat} (hq : q < n) (hf : f q = false) : aCnt (va_up f q true) n = aCnt f n + 1 := by
  induction n with
  | zero => omega
  | succ n ih =>
    unfold aCnt
    by_cases h : q = n
    · subst h
      rw [va_up_self, hf, aCnt_congr (g := f) (fun j hj => va_up_ne _ _ (by omega))]
      rfl
    · rw [ih (by omega), va_up_ne _ _ (fun z => h z.symm)]
      omega
theorem aCnt_off {f : Nat → Bool} {n q : Nat} (hq : q < n) (hf : f q = true) : aCnt (va_up f q false) n + 1 = aCnt f n := by
  induction n with
  | zero => omega
  | succ n ih =>
    unfold aCnt
    by_cases h : q = n
    · subst h
      rw [va_up_self, hf, aCnt_congr (g := f) (fun j hj => va_up_ne _ _ (by omega))]
      rfl
    · rw [va_up_ne _ _ (fun z => h z.symm), ← ih (by omega)]
      omega
theorem aCnt_none (n : Nat) : aCnt (fun _ => false) n = 0 := by
  induction n with
  | zero => rfl
  | succ n ih => unfold aCnt; rw [ih]; rfl
theorem aCnt_full {f : Nat → Bool} {n : Nat} (h : ∀ j, j < n → f j = true) : aCnt f n = n := by
  induction n with
  | zero => rfl
  | succ n ih => unfold aCnt; rw [ih (fun j hj => h j (by omega)), h n (by omega)]; rfl
theorem aCnt_lt {f : Nat → Bool} {n q : Nat} (hq : q < n) (hf : f q = false) : aCnt f n < n := by
  have h1 := aCnt_on hq hf
  have h2 := aCnt_le (va_up f q true) n
  omega
theorem aFree_or (α : tA) : (∃ q, aFree α q) ∨ aFull α := by
  have h : ∀ n, (∃ q, q < n ∧ aT α q = false ∧ ∀ j, j < q → aT α j = true) ∨ ∀ j, j < n → aT α j = true := by
    intro n
    induction n with
    | zero => exact Or.inr (fun j hj => absurd hj (Nat.not_lt_zero _))
    | succ n ih =>
      rcases ih with ⟨q, h1, h2, h3⟩ | h
      · exact Or.inl ⟨q, by omega, h2, h3⟩
      · cases hn : aT α n with
        | false => exact Or.inl ⟨n, by omega, hn, h⟩
        | true => exact Or.inr (fun j hj => by by_cases q : j = n; rw [q]; exact hn; exact h j (by omega))
  rcases h 120 with ⟨q, h1, h2, h3⟩ | h
  · exact Or.inl ⟨q, h1, h2, h3⟩
  · exact Or.inr h
/-- a cell that is there: its bound, its value, and how near its row lies -/
def tCok (v : Nat → Nat → Int32) (k b : Nat) (z : Bool) : Prop := b < 1073741824 ∧ v k 1 = nI b ∧ v k 2 = tBi z ∧ tp_near (v 3) (v (k + 1)) z b
def tLn (v : Nat → Nat → Int32) (i : Nat) (ln : Nat × Nat × Nat) : Prop := (v 351 i = nI ln.1 ∧ ln.1 < 8) ∧ (v 352 i = nI ln.2.1 ∧ ln.2.1 < 8 + i) ∧ v 353 i = nI ln.2.2 ∧ ln.2.2 < 8 + i
def tR (α : tA) (v : Nat → Nat → Int32) : Prop :=
  tKey v ∧ (∀ q, q < 120 → v (110 + 2 * q) 3 = tBi (aT α q) ∧ (aT α q = true → tCok v (110 + 2 * q) (aB α q) (aV α q))) ∧ v 108 1 = nI (aCnt (aT α) 120) ∧ (aZ α ≤ 24 ∧ v 350 3 = nI (aZ α) ∧ ∀ i, i < aZ α → tLn v i (aL α i)) ∧ v 0 10 = aG α ∧ v 0 11 = aR α
theorem tCok_eq {v v' : Nat → Nat → Int32} {k b : Nat} {z : Bool} (h : tCok v k b z) (e3 : v' 3 = v 3) (e1 : v' k = v k) (e2 : v' (k + 1) = v (k + 1)) : tCok v' k b z := by
  unfold tCok
  rw [e3, e1, e2]
  exact h
theorem tLn_eq {v v' : Nat → Nat → Int32} {i : Nat} {ln : Nat × Nat × Nat} (h : tLn v i ln) (e1 : v' 351 = v 351) (e2 : v' 352 = v 352) (e3 : v' 353 = v 353) : tLn v' i ln := by
  unfold tLn
  rw [e1, e2, e3]
  exact h
theorem tBi_t {z : Bool} : tBi z ≠ 0 ↔ z = true := by cases z <;> simp [tBi]
theorem tR_has {α : tA} {v : Nat → Nat → Int32} (h : tR α v) (a : Int32) : tHas v a ↔ aHas α a := by
  constructor
  · rintro ⟨q, h1, h2, h3⟩
    exact ⟨q, h1, h2, tBi_t.mp (by rw [← (h.2.1 q h1).1]; exact h3)⟩
  · rintro ⟨q, h1, h2, h3⟩
    exact ⟨q, h1, h2, by rw [(h.2.1 q h1).1]; exact tBi_t.mpr h3⟩
theorem tR_th {α : tA} {v : Nat → Nat → Int32} (h : tR α v) {q : Nat} (hq : q < 120) (ht : aT α q = true) : v (110 + 2 * q) 3 ≠ 0 := by
  rw [(h.2.1 q hq).1]
  exact tBi_t.mpr ht
theorem tR_fr {α : tA} {v : Nat → Nat → Int32} (h : tR α v) {q : Nat} (hf : aFree α q) : v (110 + 2 * q) 3 = 0 ∧ ∀ j, j < q → v (110 + 2 * j) 3 ≠ 0 :=
  ⟨by rw [(h.2.1 q hf.1).1, hf.2.1]; rfl, fun j hj => tR_th h (Nat.lt_trans hj hf.1) (hf.2.2 j hj)⟩
theorem tR_fl {α : tA} {v : Nat → Nat → Int32} (h : tR α v) (hf : aFull α) : ∀ j, j < 120 → v (110 + 2 * j) 3 ≠ 0 := fun j hj => tR_th h hj (hf j hj)
/-- a new number -/
theorem tR_made {α : tA} {v v' : Nat → Nat → Int32} {q b : Nat} {z : Bool} {g : Int32} (h : tR α v) (hf : aFree α q) (hs : ∀ k, k ≠ 0 → k ≠ 104 → k ≠ 105 → k ≠ 107 → k ≠ 108 → k ≠ 110 + 2 * q → k ≠ 110 + 2 * q + 1 → ¬ (355 ≤ k ∧ k < 424) → v' k = v k)
    (h8 : v' 108 1 = v 108 1 + 1) (h3 : v' (110 + 2 * q) 3 = 1) (hc : tCok v' (110 + 2 * q) b z) (h10 : v' 0 10 = g) (h11 : v' 0 11 = v 0 11) : tR (aGates (aMade α q z b) g) v' := by
  obtain ⟨k1, k2, k3, ⟨k4, k5, k6⟩, k7, k8⟩ := h
  have hq := hf.1
  have e : ∀ k, k < 104 → k ≠ 0 → v' k = v k := fun k h1 h0 => hs k h0 (by omega) (by omega) (by omega) (by omega) (by omega) (by omega) (by omega)
  refine ⟨?_, fun j hj => ?_, ?_, ⟨k4, ?_, fun i hi => ?_⟩, h10, ?_⟩
  · refine ⟨fun i hi => ?_, fun i hi => ?_, fun i hh w a1 a2 a3 => ?_, fun i w a1 a2 => ?_⟩
    · rw [e 3 (by decide) (by decide)]; exact k1.1 i hi
    · rw [e 4 (by decide) (by decide)]; exact k1.2.1 i hi
    · unfold th_step
      rw [e 4 (by decide) (by decide), e 3 (by decide) (by decide), e (7 + (4 * i + 2 * hh + w)) (by omega) (by omega)]
      exact k1.2.2.1 i hh w a1 a2 a3
    · unfold th_way
      rw [e 4 (by decide) (by decide), e 3 (by decide) (by decide), e (40 + (2 * i + w)) (by omega) (by omega)]
      exact k1.2.2.2 i w a1 a2
  · show v' (110 + 2 * j) 3 = tBi (va_up (aT α) q true j) ∧ (va_up (aT α) q true j = true → tCok v' (110 + 2 * j) (va_up (aB α) q b j) (va_up (aV α) q z j))
    by_cases hjq : j = q
    · subst hjq
      rw [va_up_self, va_up_self, va_up_self]
      exact ⟨h3, fun _ => hc⟩
    · rw [va_up_ne _ _ hjq, va_up_ne _ _ hjq, va_up_ne _ _ hjq]
      have e1 : v' (110 + 2 * j) = v (110 + 2 * j) := hs _ (by omega) (by omega) (by omega) (by omega) (by omega) (by omega) (by omega) (by omega)
      have e2 : v' (110 + 2 * j + 1) = v (110 + 2 * j + 1) := hs _ (by omega) (by omega) (by omega) (by omega) (by omega) (by omega) (by omega) (by omega)
      rw [e1]
      exact ⟨(k2 j hj).1, fun z => tCok_eq ((k2 j hj).2 z) (e 3 (by decide) (by decide)) e1 e2⟩
  · show v' 108 1 = nI (aCnt (va_up (aT α) q true) 120)
    rw [h8, k3, aCnt_on hq hf.2.1, nI_1]
  · rw [hs 350 (by decide) (by decide) (by decide) (by decide) (by decide) (by omega) (by omega) (by decide)]
    exact k5
  · exact tLn_eq (k6 i hi) (hs _ (by decide) (by decide) (by decide) (by decide) (by decide) (by omega) (by omega) (by decide)) (hs _ (by decide) (by decide) (by decide) (by decide) (by decide) (by omega) (by omega) (by decide)) (hs _ (by decide) (by decide) (by decide) (by decide) (by decide) (by omega) (by omega) (by decide))
  · rw [h11]; exact k8
theorem aGates_same (α : tA) : aGates α (aG α) = α := rfl
/-- a cell's row and bound -/
theorem tR_bound {α : tA} {v v' : Nat → Nat → Int32} {q b : Nat} (h : tR α v) (hq : q < 120) (ht : aT α q = true) (hs : ∀ k, k ≠ 110 + 2 * q → k ≠ 110 + 2 * q + 1 → k ≠ 423 → v' k = v k) (h3 : v' (110 + 2 * q) 3 = v (110 + 2 * q) 3) (hc : tCok v' (110 + 2 * q) b (aV α q)) : tR (aBound α q b) v' := by
  obtain ⟨k1, k2, k3, ⟨k4, k5, k6⟩, k7, k8⟩ := h
  refine ⟨tKey_eq k1 (fun k hk => hs k (by omega) (by omega) (by omega)), fun j hj => ?_, ?_, ⟨k4, ?_, fun i hi => ?_⟩, ?_, ?_⟩
  · show v' (110 + 2 * j) 3 = tBi (aT α j) ∧ (aT α j = true → tCok v' (110 + 2 * j) (va_up (aB α) q b j) (aV α j))
    by_cases hjq : j = q
    · subst hjq
      rw [va_up_self, h3]
      exact ⟨(k2 j hj).1, fun _ => hc⟩
    · rw [va_up_ne _ _ hjq]
      have e1 : v' (110 + 2 * j) = v (110 + 2 * j) := hs _ (by omega) (by omega) (by omega)
      have e2 : v' (110 + 2 * j + 1) = v (110 + 2 * j + 1) := hs _ (by omega) (by omega) (by omega)
      rw [e1]
      exact ⟨(k2 j hj).1, fun z => tCok_eq ((k2 j hj).2 z) (hs 3 (by omega) (by omega) (by omega)) e1 e2⟩
  · rw [hs 108 (by omega) (by omega) (by omega)]; exact k3
  · rw [hs 350 (by omega) (by omega) (by omega)]; exact k5
  · exact tLn_eq (k6 i hi) (hs _ (by omega) (by omega) (by omega)) (hs _ (by omega) (by omega) (by omega)) (hs _ (by omega) (by omega) (by omega))
  · rw [hs 0 (by omega) (by omega) (by omega)]; exact k7
  · rw [hs 0 (by omega) (by omega) (by omega)]; exact k8
/-- a number goes -/
theorem tR_drop {α : tA} {v v' : Nat → Nat → Int32} {q : Nat} (h : tR α v) (hq : q < 120) (ht : aT α q = true) (e : v' = va_up (va_up v (110 + 2 * q) (upd (v (110 + 2 * q)) 3 0)) 108 (upd (v 108) 1 (v 108 1 - 1))) : tR (aDrop α q) v' ∧ v' 108 1 = nI (aCnt (aT (aDrop α q)) 120) := by
  obtain ⟨k1, k2, k3, ⟨k4, k5, k6⟩, k7, k8⟩ := h
  have hs : ∀ k, k ≠ 110 + 2 * q → k ≠ 108 → v' k = v k := fun k a b => by rw [e, va_up_ne _ _ b, va_up_ne _ _ a]
  have h8 : v' 108 1 = nI (aCnt (aT (aDrop α q)) 120) := by
    show v' 108 1 = nI (aCnt (va_up (aT α) q false) 120)
    have h1 := aCnt_off hq ht
    rw [e, va_up_self, pk_us, k3, ← h1, ← nI_1, Int32.add_sub_cancel]
  refine ⟨⟨tKey_eq k1 (fun k hk => hs k (by omega) (by omega)), fun j hj => ?_, h8, ⟨k4, ?_, fun i hi => ?_⟩, ?_, ?_⟩, h8⟩
  · show v' (110 + 2 * j) 3 = tBi (va_up (aT α) q false j) ∧ (va_up (aT α) q false j = true → tCok v' (110 + 2 * j) (aB α j) (aV α j))
    by_cases hjq : j = q
    · subst hjq
      rw [va_up_self, e, va_up_ne _ _ (by omega), va_up_self, pk_us]
      exact ⟨rfl, fun z => by cases z⟩
    · rw [va_up_ne _ _ hjq]
      have e1 : v' (110 + 2 * j) = v (110 + 2 * j) := hs _ (by omega) (by omega)
      have e2 : v' (110 + 2 * j + 1) = v (110 + 2 * j + 1) := hs _ (by omega) (by omega)
      rw [e1]
      exact ⟨(k2 j hj).1, fun z => tCok_eq ((k2 j hj).2 z) (hs 3 (by omega) (by omega)) e1 e2⟩
  · rw [hs 350 (by omega) (by omega)]; exact k5
  · exact tLn_eq (k6 i hi) (hs _ (by omega) (by omega)) (hs _ (by omega) (by omega)) (hs _ (by omega) (by omega))
  · rw [hs 0 (by omega) (by omega)]; exact k7
  · rw [hs 0 (by omega) (by omega)]; exact k8
/-- all numbers go, the key is new -/
theorem tR_key {α : tA} {v v' : Nat → Nat → Int32} (h : tR α v) (hk : tKey v') (h1 : ∀ j, j < 120 → v' (110 + 2 * j) 3 = 0) (h2 : v' 108 1 = 0) (hs : ∀ k, k = 0 ∨ 350 ≤ k → v' k = v k) : tR (aKey α) v' := by
  obtain ⟨k1, k2, k3, ⟨k4, k5, k6⟩, k7, k8⟩ := h
  refine ⟨hk, fun j hj => ⟨h1 j hj, fun z => by cases z⟩, ?_, ⟨k4, ?_, fun i hi => ?_⟩, ?_, ?_⟩
  · show v' 108 1 = nI (aCnt (fun _ => false) 120)
    rw [h2, aCnt_none]; rfl
  · rw [hs 350 (by omega)]; exact k5
  · exact tLn_eq (k6 i hi) (hs _ (by omega)) (hs _ (by omega)) (hs _ (by omega))
  · rw [hs 0 (by omega)]; exact k7
  · rw [hs 0 (by omega)]; exact k8
theorem tR_ref {α : tA} {v v' : Nat → Nat → Int32} (h : tR α v) (e : v' = va_up v 0 (upd (v 0) 11 (v 0 11 + 1))) : tR (aRefus α) v' := by
  obtain ⟨k1, k2, k3, ⟨k4, k5, k6⟩, k7, k8⟩ := h
  have hs : ∀ k, k ≠ 0 → v' k = v k := fun k a => by rw [e, va_up_ne _ _ a]
  refine ⟨?_, fun j hj => ?_, ?_, ⟨k4, ?_, fun i hi => ?_⟩, ?_, ?_⟩
  · refine ⟨fun i hi => ?_, fun i hi => ?_, fun i hh w a1 a2 a3 => ?_, fun i w a1 a2 => ?_⟩
    · rw [hs 3 (by decide)]; exact k1.1 i hi
    · rw [hs 4 (by decide)]; exact k1.2.1 i hi
    · unfold th_step
      rw [hs 4 (by decide), hs 3 (by decide), hs (7 + (4 * i + 2 * hh + w)) (by omega)]
      exact k1.2.2.1 i hh w a1 a2 a3
    · unfold th_way
      rw [hs 4 (by decide), hs 3 (by decide), hs (40 + (2 * i + w)) (by omega)]
      exact k1.2.2.2 i w a1 a2
  · rw [hs (110 + 2 * j) (by omega)]
    exact ⟨(k2 j hj).1, fun z => tCok_eq ((k2 j hj).2 z) (hs 3 (by decide)) (hs _ (by omega)) (hs _ (by omega))⟩
  · rw [hs 108 (by decide)]; exact k3
  · rw [hs 350 (by decide)]; exact k5
  · exact tLn_eq (k6 i hi) (hs _ (by decide)) (hs _ (by decide)) (hs _ (by decide))
  · rw [e, va_up_self, pk_un (by decide)]; exact k7
  · show v' 0 11 = aR α + 1
    rw [e, va_up_self, pk_us, k8]
/-- lines -/
theorem tR_line {α : tA} {v v' : Nat → Nat → Int32} {ln : Nat × Nat × Nat} (h : tR α v) (hz : aZ α < 24) (h1 : ln.1 < 8) (h2 : ln.2.1 < 8 + aZ α) (h3 : ln.2.2 < 8 + aZ α)
    (e : v' = va_up (va_up (va_up (va_up v 351 (upd (v 351) (aZ α) (nI ln.1))) 352 (upd (v 352) (aZ α) (nI ln.2.1))) 353 (upd (v 353) (aZ α) (nI ln.2.2))) 350 (upd (v 350) 3 (nI (aZ α + 1)))) : tR (aLine α ln) v' := by
  obtain ⟨k1, k2, k3, ⟨k4, k5, k6⟩, k7, k8⟩ := h
  have hs : ∀ k, k ≠ 350 → k ≠ 351 → k ≠ 352 → k ≠ 353 → v' k = v k := fun k a b c d => by rw [e, va_up_ne _ _ a, va_up_ne _ _ d, va_up_ne _ _ c, va_up_ne _ _ b]
  have e1 : v' 351 = upd (v 351) (aZ α) (nI ln.1) := by rw [e, va_up_ne _ _ (by decide), va_up_ne _ _ (by decide), va_up_ne _ _ (by decide), va_up_self]
  have e2 : v' 352 = upd (v 352) (aZ α) (nI ln.2.1) := by rw [e, va_up_ne _ _ (by decide), va_up_ne _ _ (by decide), va_up_self]
  have e3 : v' 353 = upd (v 353) (aZ α) (nI ln.2.2) := by rw [e, va_up_ne _ _ (by decide), va_up_self]
  refine ⟨tKey_eq k1 (fun k hk => hs k (by omega) (by omega) (by omega) (by omega)), fun j hj => ?_, ?_, ⟨hz, ?_, fun i hi => ?_⟩, ?_, ?_⟩
  · rw [hs (110 + 2 * j) (by omega) (by omega) (by omega) (by omega)]
    exact ⟨(k2 j hj).1, fun z => tCok_eq ((k2 j hj).2 z) (hs 3 (by decide) (by decide) (by decide) (by decide)) (hs _ (by omega) (by omega) (by omega) (by omega)) (hs _ (by omega) (by omega) (by omega) (by omega))⟩
  · rw [hs 108 (by decide) (by decide) (by decide) (by decide)]; exact k3
  · rw [e, va_up_self, pk_us]; rfl
  · show tLn v' i (va_up (aL α) (aZ α) ln i)
    have hi' : i < aZ α + 1 := hi
    unfold tLn
    rw [e1, e2, e3]
    by_cases q : i = aZ α
    · subst q
      rw [va_up_self, pk_us, pk_us, pk_us]
      exact ⟨⟨rfl, h1⟩, ⟨rfl, h2⟩, rfl, h3⟩
    · rw [va_up_ne _ _ q, pk_un q, pk_un q, pk_un q]
      exact k6 i (by omega)
  · rw [hs 0 (by decide) (by decide) (by decide) (by decide)]; exact k7
  · rw [hs 0 (by decide) (by decide) (by decide) (by decide)]; exact k8
theorem tR_clear {α : tA} {v v' : Nat → Nat → Int32} (h : tR α v) (e : v' = va_up v 350 (upd (v 350) 3 0)) : tR (aClear α) v' := by
  obtain ⟨k1, k2, k3, ⟨k4, k5, k6⟩, k7, k8⟩ := h
  have hs : ∀ k, k ≠ 350 → v' k = v k := fun k a => by rw [e, va_up_ne _ _ a]
  refine ⟨tKey_eq k1 (fun k hk => hs k (by omega)), fun j hj => ?_, ?_, ⟨Nat.zero_le _, ?_, fun i hi => absurd hi (Nat.not_lt_zero _)⟩, ?_, ?_⟩
  · rw [hs (110 + 2 * j) (by omega)]
    exact ⟨(k2 j hj).1, fun z => tCok_eq ((k2 j hj).2 z) (hs 3 (by decide)) (hs _ (by omega)) (hs _ (by omega))⟩
  · rw [hs 108 (by decide)]; exact k3
  · rw [e, va_up_self, pk_us]; rfl
  · rw [hs 0 (by decide)]; exact k7
  · rw [hs 0 (by decide)]; exact k8
end
section
/-! TorusGates' public methods, first part. Laid by wip/whole/part_tg3.py. -/
theorem tR_new {α : tA} {v v1 v' : Nat → Nat → Int32} {q b : Nat} {z : Bool} {g : Int32} (h : tR α v) (hf : aFree α q) (e1 : v1 = va_up (va_up v (110 + 2 * q) (upd (v (110 + 2 * q)) 3 1)) 108 (upd (v 108) 1 (v 108 1 + 1)))
    (hs : ∀ k, k ≠ 0 → k ≠ 104 → k ≠ 105 → k ≠ 107 → k ≠ 110 + 2 * q → k ≠ 110 + 2 * q + 1 → ¬ (355 ≤ k ∧ k < 424) → v' k = v1 k) (h3 : v' (110 + 2 * q) 3 = v1 (110 + 2 * q) 3) (hc : tCok v' (110 + 2 * q) b z) (h10 : v' 0 10 = g) (h11 : v' 0 11 = v1 0 11) : tR (aGates (aMade α q z b) g) v' := by
  have hq := hf.1
  refine tR_made h hf (fun k a1 a2 a3 a4 a5 a6 a7 a8 => ?_) ?_ ?_ hc h10 ?_
  · rw [hs k a1 a2 a3 a4 a6 a7 a8, e1, va_up_ne _ _ a5, va_up_ne _ _ a6]
  · rw [hs 108 (by omega) (by omega) (by omega) (by omega) (by omega) (by omega) (by omega), e1, va_up_self, pk_us]
  · rw [h3, e1, va_up_ne _ _ (by omega), va_up_self, pk_us]
  · rw [h11, e1, va_up_ne _ _ (by omega), va_up_ne _ _ (by omega)]
theorem tn_8k (k : Nat) : nI 8 * nI k + nI 1 = nI (8 * k + 1) := by
  show Int32.ofNat 8 * Int32.ofNat k + nI 1 = _
  rw [← Int32.ofNat_mul]
  exact nI_add _ _
theorem tn_not {z : Bool} {v : Int32} (h : v = tBi z) : (if v = 0 then (1 : Int32) else 0) = tBi (!z) := by
  subst h
  cases z <;> rfl
theorem tn_in {b : Nat} {d : Int32} (h : tp_sm b d) (hb : b < 1073741824) : d ≤ nI b ∧ ¬ d < -nI b := by
  obtain ⟨w, h1, rfl⟩ := h
  have hsz : Int32.size = 4294967296 := rfl
  have e1 : (Int32.ofInt w).toInt = w := by
    rw [Int32.toInt_ofInt]
    exact Int.bmod_eq_of_le (by omega) (by omega)
  have e2 : (nI b).toInt = b := nI_toInt (by omega)
  have e3 : (-nI b).toInt = -(b : Int) := by
    rw [Int32.toInt_neg, e2]
    exact Int.bmod_eq_of_le (by omega) (by omega)
  rw [Int32.le_iff_toInt_le, Int32.lt_iff_toInt_lt, e1, e2, e3]
  omega
theorem tn_open {z : Bool} {pl : Int32} (ho : 0 < pl.toInt ↔ z = true) : (pl ≤ 0 → nI 0 = tBi z) ∧ (¬ pl ≤ 0 → nI 1 = tBi z) := by
  have h0 : (0 : Int32).toInt = 0 := by decide
  rw [Int32.le_iff_toInt_le, h0]
  cases z with
  | true =>
    have h1 := ho.mpr rfl
    exact ⟨fun h => by omega, fun _ => rfl⟩
  | false =>
    refine ⟨fun _ => rfl, fun h => ?_⟩
    have h1 := ho.mp (by omega)
    cases h1
def aGB (α : tA) : Nat → Nat
  | 0 => 0
  | n + 1 => if aT α n = true ∧ aGB α n < aB α n then aB α n else aGB α n
theorem aGB_lt {α : tA} (h : ∀ q, q < 120 → aT α q = true → aB α q < 1073741824) {n : Nat} (hn : n ≤ 120) : aGB α n < 1073741824 := by
  induction n with
  | zero =>
    show (0 : Nat) < 1073741824
    decide
  | succ n ih =>
    unfold aGB
    split
    · rename_i q
      exact h n (by omega) q.1
    · exact ih (by omega)
theorem aGB_eq {α : tA} {v : Nat → Nat → Int32} (h : tR α v) {n : Nat} (hn : n ≤ 120) : tGB v n = nI (aGB α n) := by
  induction n with
  | zero => rfl
  | succ n ih =>
    have i1 := ih (by omega)
    have h1 := (h.2.1 n (by omega)).1
    have h2 := (h.2.1 n (by omega)).2
    have h4 := aGB_lt (fun q a b => ((h.2.1 q a).2 b).1) (show n ≤ 120 by omega)
    unfold tGB aGB
    rw [i1, h1]
    cases ht : aT α n with
    | false => simp [tBi]
    | true =>
      have h3 := h2 ht
      rw [h3.2.1]
      have h5 := h3.1
      by_cases q : aGB α n < aB α n
      · rw [if_pos ⟨by decide, fun z => by have := (nI_leI (by omega) (by omega)).mp z; omega⟩, if_pos ⟨rfl, q⟩]
      · rw [if_neg (fun z => z.2 ((nI_leI (by omega) (by omega)).mpr (by omega))), if_neg (fun z => q z.2)]
def aCount (α : tA) (w : Nat) : Int32 := if w = 0 then nI (aCnt (aT α) 120) else if w = 1 then aG α else if w = 2 then aR α else if w = 3 then nI (aZ α) else nI (aGB α 120)

set_option maxHeartbeats 4000000 in
set_option maxRecDepth 100000 in
theorem k_TG_key (l : Launch) (D : va_G) (ct : Nat → ClassId) (ad : Nat → Nat) (hI : gw_inj 424 ad) (x : tS) (α : tA) (hR : tR α x.1) (a : Int32) : gMi l mY_TG_key mB_TG_key 2 (some .int) (rF 6 138) D (tT ct) gZ0 424 ad (tD ct ad) [.ref (ad 0), .int a] x (fun r x' => r = nI (aCnt (aT α) 120) ∧ tR (aKey α) x'.1) := by
  refine gMi_enter (by decide) (Nat.le_of_ble_eq_true rfl) ?_
  intro p e s m below meth c ls hx hb hr htw hown hlocks hml hl hP hK hZ hS
  have hA : ∀ k, k < 424 → gA 424 ad s.heap.size (ad k) := fun _ h => gA_in h
  have hl : lv_has ls 2 [(0, .ref (ad 0)), (1, .int a)] := hl
  refine lv_aload_n hx hb mD_TG_key_0 rfl (lv_at hl 0 rfl) ?_
  refine lv_iload_n hx hb mD_TG_key_1 rfl (lv_at hl 1 rfl) ?_
  refine gc_Vv (As := [.int a]) (rest := []) hx hb hml hown htw hK hP hS 0 (k_TG_makeKey l D ct ad hI x a) gZ0_ok (fun _ _ _ => trivial) (gA_mono hS.1) (by decide) rfl rfl ww_173 ww_175 ww_0 ww_23 wC_TG_makeKey mP_TG_makeKey (by decide) rfl hl.1 rfl (Nat.le_of_ble_eq_true rfl) mD_TG_key_2 ⟨Nat.le_of_ble_eq_true rfl, Nat.le_of_ble_eq_true rfl⟩ (fun x1 H locs hp1 hP _ _ hS => ?_)
  obtain ⟨hk1, e1⟩ := hp1
  refine lv_aload_n hx hb mD_TG_key_5 rfl (lv_at hl 0 rfl) ?_
  refine t_get (C := cN_TG) (T := cF_TG) (N := 12) (ci := 7) hx hb htw wU_TG hown hK hP 0 (by decide) rfl rfl 4 (by decide) rfl ww_226 rfl mD_TG_key_6 ?_
  refine gc_Vi (As := []) (rest := []) hx hb hml hown htw hK hP hS 108 (k_Le_removeAll l D ct ad hI x1) gZ0_ok (fun _ _ _ => trivial) (gA_mono hS.1) (by decide) rfl rfl ww_263 ww_264 ww_265 ww_28 wC_Le_removeAll mP_Le_removeAll (by decide) rfl hl.1 rfl (Nat.le_of_ble_eq_true rfl) mD_TG_key_9 ⟨Nat.le_of_ble_eq_true rfl, Nat.le_of_ble_eq_true rfl⟩ (fun r4 x3 H locs hp3 hP _ _ hS => ?_)
  obtain ⟨er, hj, h8, he⟩ := hp3
  exact gw_iret hx hb hr hlocks hP hS (⟨by rw [er, e1 108 (by omega)]; exact hR.2.2.1, tR_key hR (tKey_eq hk1 (fun k hk => he k (by omega) (fun j hj => by omega))) (fun j hj_ => by rw [hj j hj_, pk_us]) (by rw [h8, pk_us]) (fun k hk => by rw [he k (by omega) (fun j hj => by omega), e1 k (by omega)])⟩) mD_TG_key_12 (Nat.zero_le _) (Nat.zero_le _)

set_option maxHeartbeats 4000000 in
set_option maxRecDepth 100000 in
theorem k_TG_bit (l : Launch) (D : va_G) (ct : Nat → ClassId) (ad : Nat → Nat) (hI : gw_inj 424 ad) (x : tS) (α : tA) (hR : tR α x.1) (z : Bool) {q : Nat} (hf : aFree α q) : gMi l mY_TG_bit mB_TG_bit 3 (some .int) (rF 4 91) D (tT ct) gZ0 424 ad (tD ct ad) [.ref (ad 0), .int (tBi z)] x (fun r x' => r = nI q ∧ tR (aMade α q z 16) x'.1) := by
  refine gMi_enter (by decide) (Nat.le_of_ble_eq_true rfl) ?_
  intro p e s m below meth c ls hx hb hr htw hown hlocks hml hl hP hK hZ hS
  have hA : ∀ k, k < 424 → gA 424 ad s.heap.size (ad k) := fun _ h => gA_in h
  have hl : lv_has ls 3 [(0, .ref (ad 0)), (1, .int (tBi z))] := hl
  refine lv_aload_n hx hb mD_TG_bit_0 rfl (lv_at hl 0 rfl) ?_
  refine gc_Vi (As := []) (rest := []) hx hb hml hown htw hK hP hS 0 (k_TG_freeNumber l D ct ad hI x (q := q) hf.1 (tR_fr hR hf).1 (tR_fr hR hf).2) gZ0_ok (fun _ _ _ => trivial) (gA_mono hS.1) (by decide) rfl rfl ww_283 ww_285 ww_2 ww_23 wC_TG_freeNumber mP_TG_freeNumber (by decide) rfl hl.1 rfl (Nat.le_of_ble_eq_true rfl) mD_TG_bit_1 ⟨Nat.le_of_ble_eq_true rfl, Nat.le_of_ble_eq_true rfl⟩ (fun r2 x1 H locs hp1 hP _ _ hS => ?_)
  obtain ⟨hq_, rfl⟩ := hp1
  rw [hq_] at hP
  refine lv_istore_n (lv' := [(2, .int (nI q)), (0, .ref (ad 0)), (1, .int (tBi z))]) hx hb mD_TG_bit_4 rfl hl (by decide) rfl (fun ls hl => ?_)
  refine lv_aload_n hx hb mD_TG_bit_5 rfl (lv_at hl 1 rfl) ?_
  refine lv_aload_n hx hb mD_TG_bit_6 rfl (lv_at hl 1 rfl) ?_
  refine t_get (C := cN_TG) (T := cF_TG) (N := 12) (ci := 7) hx hb htw wU_TG hown hK hP 0 (by decide) rfl rfl 4 (by decide) rfl ww_226 rfl mD_TG_bit_7 ?_
  refine lv_iload_n hx hb mD_TG_bit_10 rfl (lv_at hl 0 rfl) ?_
  refine gc_Vr (As := [.int (nI q)]) (rest := [.ref (ad 0)]) hx hb hml hown htw hK hP hS 108 (k_Le_take l D ct ad hI x (q := q) hf.1) gZ0_ok (fun _ _ _ => trivial) (gA_mono hS.1) (by decide) rfl rfl ww_359 ww_360 ww_361 ww_28 wC_Le_take mP_Le_take (by decide) rfl hl.1 rfl (Nat.le_of_ble_eq_true rfl) mD_TG_bit_11 ⟨Nat.le_of_ble_eq_true rfl, Nat.le_of_ble_eq_true rfl⟩ (fun r4 x3 H locs hp3 hP _ _ hS => ?_)
  obtain ⟨ra, e1⟩ := hp3
  subst ra
  refine lv_iload_n hx hb mD_TG_bit_14 rfl (lv_at hl 2 rfl) ?_
  refine gc_Vv (As := [.ref (ad ((110 + 2 * q))), .int (tBi z)]) (rest := []) hx hb hml hown htw hK hP hS 0 (k_TG_fillNew l D ct ad hI x3 (kc := 110 + 2 * q) (tCe_led hf.1) z) gZ0_ok (fun _ _ _ => trivial) (gA_mono hS.1) (by decide) rfl rfl ww_363 ww_365 ww_4 ww_23 wC_TG_fillNew mP_TG_fillNew (by decide) rfl hl.1 rfl (Nat.le_of_ble_eq_true rfl) mD_TG_bit_15 ⟨Nat.le_of_ble_eq_true rfl, Nat.le_of_ble_eq_true rfl⟩ (fun x5 H locs hp5 hP _ _ hS => ?_)
  obtain ⟨g, e2, hg⟩ := hp5
  refine lv_iload_n hx hb mD_TG_bit_18 rfl (lv_at hl 0 rfl) ?_
  exact gw_iret hx hb hr hlocks hP hS (have hn : (110 + 2 * q) + 1 ≠ 110 + 2 * q := Nat.succ_ne_self _; have hq := hf.1; ⟨rfl, tR_new (g := aG α) hR hf e1 (fun k a1 a2 a3 a4 a5 a6 a7 => by rw [e2, va_up_ne _ _ a5, va_up_ne _ _ a6]) (by rw [e2, va_up_self, pk_un (by decide), pk_un (by decide)]) ⟨by decide, by rw [e2, va_up_self, pk_un (by decide), pk_us], by rw [e2, va_up_self, pk_us], by rw [e2, va_up_ne _ _ hn, va_up_self, va_up_ne _ _ (by omega), va_up_ne _ _ (by omega)]; exact hg⟩ (by rw [e2, va_up_ne _ _ (by omega), va_up_ne _ _ (by omega), e1, va_up_ne _ _ (by omega), va_up_ne _ _ (by omega)]; exact hR.2.2.2.2.1) (by rw [e2, va_up_ne _ _ (by omega), va_up_ne _ _ (by omega)])⟩) mD_TG_bit_19 (Nat.zero_le _) (Nat.zero_le _)

set_option maxHeartbeats 4000000 in
set_option maxRecDepth 100000 in
theorem x_TG_bit (l : Launch) (D : va_G) (ct : Nat → ClassId) (ad : Nat → Nat) (hI : gw_inj 424 ad) (x : tS) (hls : l.stackTraces = false) {s0 : State} {zt : Nat → Nat} (h0 : tO s0 zt) (α : tA) (hR : tR α x.1) (z : Bool) (hf : aFull α) : gX l mY_TG_bit mB_TG_bit 3 (some .int) (rX 7 103) D (tT ct) (tZ s0) 424 ad (tD ct ad) [.ref (ad 0), .int (tBi z)] x tX_S (fun x' => tR α x'.1) := by
  refine gX_enter (by decide) (Nat.le_of_ble_eq_true rfl) ?_
  intro p e s m below meth c ls hx hb hr htw hown hlocks hml hl hP hK hZ hS hno
  have hA : ∀ k, k < 424 → gA 424 ad s.heap.size (ad k) := fun _ h => gA_in h
  have hl : lv_has ls 3 [(0, .ref (ad 0)), (1, .int (tBi z))] := hl
  have hP0 := hP
  refine lv_aload_n hx hb mD_TG_bit_0 rfl (lv_at hl 0 rfl) ?_
  refine tx_call (As := []) (rest := []) hx hb hml hown htw hK hP hS 0 (x_TG_freeNumber l D ct ad hI x hls h0 (tR_fl hR hf)) (tZ_ok s0) (tZ_at hZ hS) (gA_mono hS.1) (by decide) rfl rfl ww_283 ww_285 ww_2 ww_23 wC_TG_freeNumber mP_TG_freeNumber (by decide) rfl hl.1 rfl (Nat.le_of_ble_eq_true rfl) mD_TG_bit_1 ⟨Nat.le_of_ble_eq_true rfl, Nat.le_of_ble_eq_true rfl⟩ (fun q ce x1 H locs hp hP _ _ hS hce hcv hcl => ?_)
  exact tx_out hno hlocks hP hS (hp ▸ hR) hce hcv hcl (by decide) (by decide)

set_option maxHeartbeats 4000000 in
set_option maxRecDepth 100000 in
theorem k_TG_drop (l : Launch) (D : va_G) (ct : Nat → ClassId) (ad : Nat → Nat) (hI : gw_inj 424 ad) (x : tS) (α : tA) (hR : tR α x.1) {q : Nat} (hq : q < 120) (ht : aT α q = true) : gMi l mY_TG_drop mB_TG_drop 3 (some .int) (rF 2 42) D (tT ct) gZ0 424 ad (tD ct ad) [.ref (ad 0), .int (nI q)] x (fun r x' => r = nI (aCnt (aT (aDrop α q)) 120) ∧ tR (aDrop α q) x'.1) := by
  refine gMi_enter (by decide) (Nat.le_of_ble_eq_true rfl) ?_
  intro p e s m below meth c ls hx hb hr htw hown hlocks hml hl hP hK hZ hS
  have hA : ∀ k, k < 424 → gA 424 ad s.heap.size (ad k) := fun _ h => gA_in h
  have hl : lv_has ls 3 [(0, .ref (ad 0)), (1, .int (nI q))] := hl
  refine lv_aload_n hx hb mD_TG_drop_0 rfl (lv_at hl 0 rfl) ?_
  refine lv_iload_n hx hb mD_TG_drop_1 rfl (lv_at hl 1 rfl) ?_
  refine gc_Vr (As := [.int (nI q)]) (rest := []) hx hb hml hown htw hK hP hS 0 (k_TG_cellOf l D ct ad hI x (q := q) hq (tR_th hR hq ht)) gZ0_ok (fun _ _ _ => trivial) (gA_mono hS.1) (by decide) rfl rfl ww_381 ww_383 ww_5 ww_23 wC_TG_cellOf mP_TG_cellOf (by decide) rfl hl.1 rfl (Nat.le_of_ble_eq_true rfl) mD_TG_drop_2 ⟨Nat.le_of_ble_eq_true rfl, Nat.le_of_ble_eq_true rfl⟩ (fun r2 x1 H locs hp1 hP _ _ hS => ?_)
  obtain ⟨ra, hq_⟩ := hp1
  subst ra
  rw [hq_] at hP
  refine lv_astore_n (lv' := [(2, .ref (ad ((110 + 2 * q)))), (0, .ref (ad 0)), (1, .int (nI q))]) hx hb mD_TG_drop_5 rfl hl (by decide) rfl (fun ls hl => ?_)
  refine lv_aload_n hx hb mD_TG_drop_6 rfl (lv_at hl 1 rfl) ?_
  refine t_get (C := cN_TG) (T := cF_TG) (N := 12) (ci := 7) hx hb htw wU_TG hown hK hP 0 (by decide) rfl rfl 4 (by decide) rfl ww_226 rfl mD_TG_drop_7 ?_
  refine lv_aload_n hx hb mD_TG_drop_10 rfl (lv_at hl 0 rfl) ?_
  refine gc_Vv (As := [.ref (ad ((110 + 2 * q)))]) (rest := []) hx hb hml hown htw hK hP hS 108 (k_Le_remove l D ct ad hI x (kc := 110 + 2 * q) (tCe_led hq)) gZ0_ok (fun _ _ _ => trivial) (gA_mono hS.1) (by decide) rfl rfl ww_405 ww_406 ww_407 ww_28 wC_Le_remove mP_Le_remove (by decide) rfl hl.1 rfl (Nat.le_of_ble_eq_true rfl) mD_TG_drop_11 ⟨Nat.le_of_ble_eq_true rfl, Nat.le_of_ble_eq_true rfl⟩ (fun x3 H locs hp3 hP _ _ hS => ?_)
  have e1 := hp3
  refine lv_aload_n hx hb mD_TG_drop_14 rfl (lv_at hl 1 rfl) ?_
  refine t_get (C := cN_TG) (T := cF_TG) (N := 12) (ci := 7) hx hb htw wU_TG hown hK hP 0 (by decide) rfl rfl 4 (by decide) rfl ww_226 rfl mD_TG_drop_15 ?_
  refine t_get (C := cN_Le) (T := cF_Le) (N := 2) (ci := 2) hx hb htw wU_Le hown hK hP 108 (by decide) rfl rfl 1 (by decide) rfl ww_142 rfl mD_TG_drop_18 ?_
  exact gw_iret hx hb hr hlocks hP hS (⟨(tR_drop hR hq ht e1).2, (tR_drop hR hq ht e1).1⟩) mD_TG_drop_21 (Nat.zero_le _) (Nat.zero_le _)

set_option maxHeartbeats 4000000 in
set_option maxRecDepth 100000 in
theorem x_TG_drop (l : Launch) (D : va_G) (ct : Nat → ClassId) (ad : Nat → Nat) (hI : gw_inj 424 ad) (x : tS) (hls : l.stackTraces = false) {s0 : State} {zt : Nat → Nat} (h0 : tO s0 zt) (α : tA) (hR : tR α x.1) (a : Int32) (hh : ¬ aHas α a) : gX l mY_TG_drop mB_TG_drop 3 (some .int) (rX 7 103) D (tT ct) (tZ s0) 424 ad (tD ct ad) [.ref (ad 0), .int a] x tX_N (fun x' => tR α x'.1) := by
  refine gX_enter (by decide) (Nat.le_of_ble_eq_true rfl) ?_
  intro p e s m below meth c ls hx hb hr htw hown hlocks hml hl hP hK hZ hS hno
  have hA : ∀ k, k < 424 → gA 424 ad s.heap.size (ad k) := fun _ h => gA_in h
  have hl : lv_has ls 3 [(0, .ref (ad 0)), (1, .int a)] := hl
  have hP0 := hP
  refine lv_aload_n hx hb mD_TG_drop_0 rfl (lv_at hl 0 rfl) ?_
  refine lv_iload_n hx hb mD_TG_drop_1 rfl (lv_at hl 1 rfl) ?_
  refine tx_call (As := [.int a]) (rest := []) hx hb hml hown htw hK hP hS 0 (x_TG_cellOf l D ct ad hI x hls h0 a (fun q => hh ((tR_has hR _).mp q))) (tZ_ok s0) (tZ_at hZ hS) (gA_mono hS.1) (by decide) rfl rfl ww_381 ww_383 ww_5 ww_23 wC_TG_cellOf mP_TG_cellOf (by decide) rfl hl.1 rfl (Nat.le_of_ble_eq_true rfl) mD_TG_drop_2 ⟨Nat.le_of_ble_eq_true rfl, Nat.le_of_ble_eq_true rfl⟩ (fun q ce x1 H locs hp hP _ _ hS hce hcv hcl => ?_)
  exact tx_out hno hlocks hP hS (hp ▸ hR) hce hcv hcl (by decide) (by decide)

set_option maxHeartbeats 4000000 in
set_option maxRecDepth 100000 in
theorem k_TG_not (l : Launch) (D : va_G) (ct : Nat → ClassId) (ad : Nat → Nat) (hI : gw_inj 424 ad) (x : tS) (α : tA) (hR : tR α x.1) {q u : Nat} (hu : u < 120) (hut : aT α u = true) (hf : aFree α q) : gMi l mY_TG_not mB_TG_not 4 (some .int) (rF 3 106) D (tT ct) gZ0 424 ad (tD ct ad) [.ref (ad 0), .int (nI u)] x (fun r x' => r = nI q ∧ tR (aMade α q (!(aV α u)) (aB α u)) x'.1) := by
  refine gMi_enter (by decide) (Nat.le_of_ble_eq_true rfl) ?_
  intro p e s m below meth c ls hx hb hr htw hown hlocks hml hl hP hK hZ hS
  have hA : ∀ k, k < 424 → gA 424 ad s.heap.size (ad k) := fun _ h => gA_in h
  have hl : lv_has ls 4 [(0, .ref (ad 0)), (1, .int (nI u))] := hl
  refine lv_aload_n hx hb mD_TG_not_0 rfl (lv_at hl 0 rfl) ?_
  refine lv_iload_n hx hb mD_TG_not_1 rfl (lv_at hl 1 rfl) ?_
  refine gc_Vr (As := [.int (nI u)]) (rest := []) hx hb hml hown htw hK hP hS 0 (k_TG_cellOf l D ct ad hI x (q := u) hu (tR_th hR hu hut)) gZ0_ok (fun _ _ _ => trivial) (gA_mono hS.1) (by decide) rfl rfl ww_381 ww_383 ww_5 ww_23 wC_TG_cellOf mP_TG_cellOf (by decide) rfl hl.1 rfl (Nat.le_of_ble_eq_true rfl) mD_TG_not_2 ⟨Nat.le_of_ble_eq_true rfl, Nat.le_of_ble_eq_true rfl⟩ (fun r2 x1 H locs hp1 hP _ _ hS => ?_)
  obtain ⟨ra, hq_⟩ := hp1
  subst ra
  rw [hq_] at hP
  refine lv_astore_n (lv' := [(2, .ref (ad ((110 + 2 * u)))), (0, .ref (ad 0)), (1, .int (nI u))]) hx hb mD_TG_not_5 rfl hl (by decide) rfl (fun ls hl => ?_)
  refine lv_aload_n hx hb mD_TG_not_6 rfl (lv_at hl 1 rfl) ?_
  refine gc_Vi (As := []) (rest := []) hx hb hml hown htw hK hP hS 0 (k_TG_freeNumber l D ct ad hI x (q := q) hf.1 (tR_fr hR hf).1 (tR_fr hR hf).2) gZ0_ok (fun _ _ _ => trivial) (gA_mono hS.1) (by decide) rfl rfl ww_283 ww_285 ww_2 ww_23 wC_TG_freeNumber mP_TG_freeNumber (by decide) rfl hl.1 rfl (Nat.le_of_ble_eq_true rfl) mD_TG_not_7 ⟨Nat.le_of_ble_eq_true rfl, Nat.le_of_ble_eq_true rfl⟩ (fun r4 x3 H locs hp3 hP _ _ hS => ?_)
  obtain ⟨hq_, rfl⟩ := hp3
  rw [hq_] at hP
  refine lv_istore_n (lv' := [(3, .int (nI q)), (2, .ref (ad ((110 + 2 * u)))), (0, .ref (ad 0)), (1, .int (nI u))]) hx hb mD_TG_not_10 rfl hl (by decide) rfl (fun ls hl => ?_)
  refine lv_aload_n hx hb mD_TG_not_11 rfl (lv_at hl 2 rfl) ?_
  refine t_get (C := cN_TG) (T := cF_TG) (N := 12) (ci := 7) hx hb htw wU_TG hown hK hP 0 (by decide) rfl rfl 4 (by decide) rfl ww_226 rfl mD_TG_not_12 ?_
  refine lv_iload_n hx hb mD_TG_not_15 rfl (lv_at hl 0 rfl) ?_
  refine gc_Vr (As := [.int (nI q)]) (rest := []) hx hb hml hown htw hK hP hS 108 (k_Le_take l D ct ad hI x (q := q) hf.1) gZ0_ok (fun _ _ _ => trivial) (gA_mono hS.1) (by decide) rfl rfl ww_359 ww_360 ww_361 ww_28 wC_Le_take mP_Le_take (by decide) rfl hl.1 rfl (Nat.le_of_ble_eq_true rfl) mD_TG_not_16 ⟨Nat.le_of_ble_eq_true rfl, Nat.le_of_ble_eq_true rfl⟩ (fun r6 x5 H locs hp5 hP _ _ hS => ?_)
  obtain ⟨ra, e1⟩ := hp5
  subst ra
  have hne : u ≠ q := fun z => by have h1 := hf.2.1; rw [← z, hut] at h1; cases h1
  have hq := hf.1
  have hu0 := (hR.2.1 u hu).2 hut
  have eu : x5.1 (110 + 2 * u) = x.1 (110 + 2 * u) := by rw [e1, va_up_ne _ _ (by omega), va_up_ne _ _ (by omega)]
  have eu1 : x5.1 (110 + 2 * u + 1) = x.1 (110 + 2 * u + 1) := by rw [e1, va_up_ne _ _ (by omega), va_up_ne _ _ (by omega)]
  refine lv_aload_n hx hb mD_TG_not_19 rfl (lv_at hl 1 rfl) ?_
  refine gc_Vv (As := [.ref (ad ((110 + 2 * u)))]) (rest := []) hx hb hml hown htw hK hP hS ((110 + 2 * q)) (k_Ce_becomeOpposite l D ct ad hI x5 (kc := 110 + 2 * q) (ko := 110 + 2 * u) (tCe_led hq) (tCe_led hu) (by omega) (by rw [eu, hu0.2.2.1]; exact tBi_bit _)) gZ0_ok (fun _ _ _ => trivial) (gA_mono hS.1) (tCe_lt (tCe_led (c := q) hf.1)) (tE_cell (tCe_led (c := q) hf.1)) rfl ww_416 ww_417 ww_418 ww_29 wC_Ce_becomeOpposite mP_Ce_becomeOpposite (by decide) rfl hl.1 rfl (Nat.le_of_ble_eq_true rfl) mD_TG_not_20 ⟨Nat.le_of_ble_eq_true rfl, Nat.le_of_ble_eq_true rfl⟩ (fun x7 H locs hp7 hP _ _ hS => ?_)
  obtain ⟨g, e2, hg⟩ := hp7
  rw [eu] at e2
  refine lv_iload_n hx hb mD_TG_not_23 rfl (lv_at hl 0 rfl) ?_
  exact gw_iret hx hb hr hlocks hP hS (have hn : (110 + 2 * q) + 1 ≠ 110 + 2 * q := Nat.succ_ne_self _; ⟨rfl, tR_new (g := aG α) hR hf e1 (fun k a1 a2 a3 a4 a5 a6 a7 => by rw [e2, va_up_ne _ _ a5, va_up_ne _ _ a6]) (by rw [e2, va_up_self, pk_un (by decide), pk_un (by decide)]) ⟨hu0.1, by rw [e2, va_up_self, pk_un (by decide), pk_us]; exact hu0.2.1, by rw [e2, va_up_self, pk_us]; exact tn_not hu0.2.2.1, by rw [e2, va_up_ne _ _ hn, va_up_self, va_up_ne _ _ (by omega), va_up_ne _ _ (by omega), e1, va_up_ne _ _ (by omega), va_up_ne _ _ (by omega)]; exact tp_near_not hu0.2.2.2 (fun i hi => by rw [hg i hi, eu1])⟩ (by rw [e2, va_up_ne _ _ (by omega), va_up_ne _ _ (by omega), e1, va_up_ne _ _ (by omega), va_up_ne _ _ (by omega)]; exact hR.2.2.2.2.1) (by rw [e2, va_up_ne _ _ (by omega), va_up_ne _ _ (by omega)])⟩) mD_TG_not_24 (Nat.zero_le _) (Nat.zero_le _)

set_option maxHeartbeats 4000000 in
set_option maxRecDepth 100000 in
theorem x_TG_not1 (l : Launch) (D : va_G) (ct : Nat → ClassId) (ad : Nat → Nat) (hI : gw_inj 424 ad) (x : tS) (hls : l.stackTraces = false) {s0 : State} {zt : Nat → Nat} (h0 : tO s0 zt) (α : tA) (hR : tR α x.1) (a : Int32) (hh : ¬ aHas α a) : gX l mY_TG_not mB_TG_not 4 (some .int) (rX 7 106) D (tT ct) (tZ s0) 424 ad (tD ct ad) [.ref (ad 0), .int a] x tX_N (fun x' => tR α x'.1) := by
  refine gX_enter (by decide) (Nat.le_of_ble_eq_true rfl) ?_
  intro p e s m below meth c ls hx hb hr htw hown hlocks hml hl hP hK hZ hS hno
  have hA : ∀ k, k < 424 → gA 424 ad s.heap.size (ad k) := fun _ h => gA_in h
  have hl : lv_has ls 4 [(0, .ref (ad 0)), (1, .int a)] := hl
  have hP0 := hP
  refine lv_aload_n hx hb mD_TG_not_0 rfl (lv_at hl 0 rfl) ?_
  refine lv_iload_n hx hb mD_TG_not_1 rfl (lv_at hl 1 rfl) ?_
  refine tx_call (As := [.int a]) (rest := []) hx hb hml hown htw hK hP hS 0 (x_TG_cellOf l D ct ad hI x hls h0 a (fun q => hh ((tR_has hR _).mp q))) (tZ_ok s0) (tZ_at hZ hS) (gA_mono hS.1) (by decide) rfl rfl ww_381 ww_383 ww_5 ww_23 wC_TG_cellOf mP_TG_cellOf (by decide) rfl hl.1 rfl (Nat.le_of_ble_eq_true rfl) mD_TG_not_2 ⟨Nat.le_of_ble_eq_true rfl, Nat.le_of_ble_eq_true rfl⟩ (fun q ce x1 H locs hp hP _ _ hS hce hcv hcl => ?_)
  exact tx_out hno hlocks hP hS (hp ▸ hR) hce hcv hcl (by decide) (by decide)

set_option maxHeartbeats 4000000 in
set_option maxRecDepth 100000 in
theorem x_TG_not2 (l : Launch) (D : va_G) (ct : Nat → ClassId) (ad : Nat → Nat) (hI : gw_inj 424 ad) (x : tS) (hls : l.stackTraces = false) {s0 : State} {zt : Nat → Nat} (h0 : tO s0 zt) (α : tA) (hR : tR α x.1) {u : Nat} (hu : u < 120) (hut : aT α u = true) (hf : aFull α) : gX l mY_TG_not mB_TG_not 4 (some .int) (rX 7 106) D (tT ct) (tZ s0) 424 ad (tD ct ad) [.ref (ad 0), .int (nI u)] x tX_S (fun x' => tR α x'.1) := by
  refine gX_enter (by decide) (Nat.le_of_ble_eq_true rfl) ?_
  intro p e s m below meth c ls hx hb hr htw hown hlocks hml hl hP hK hZ hS hno
  have hA : ∀ k, k < 424 → gA 424 ad s.heap.size (ad k) := fun _ h => gA_in h
  have hl : lv_has ls 4 [(0, .ref (ad 0)), (1, .int (nI u))] := hl
  have hP0 := hP
  refine lv_aload_n hx hb mD_TG_not_0 rfl (lv_at hl 0 rfl) ?_
  refine lv_iload_n hx hb mD_TG_not_1 rfl (lv_at hl 1 rfl) ?_
  refine gc_Vr (As := [.int (nI u)]) (rest := []) hx hb hml hown htw hK hP hS 0 (k_TG_cellOf l D ct ad hI x (q := u) hu (tR_th hR hu hut)) gZ0_ok (fun _ _ _ => trivial) (gA_mono hS.1) (by decide) rfl rfl ww_381 ww_383 ww_5 ww_23 wC_TG_cellOf mP_TG_cellOf (by decide) rfl hl.1 rfl (Nat.le_of_ble_eq_true rfl) mD_TG_not_2 ⟨Nat.le_of_ble_eq_true rfl, Nat.le_of_ble_eq_true rfl⟩ (fun r2 x1 H locs hp1 hP _ _ hS => ?_)
  obtain ⟨ra, hq_⟩ := hp1
  subst ra
  rw [hq_] at hP
  refine lv_astore_n (lv' := [(2, .ref (ad ((110 + 2 * u)))), (0, .ref (ad 0)), (1, .int (nI u))]) hx hb mD_TG_not_5 rfl hl (by decide) rfl (fun ls hl => ?_)
  refine lv_aload_n hx hb mD_TG_not_6 rfl (lv_at hl 1 rfl) ?_
  refine tx_call (As := []) (rest := []) hx hb hml hown htw hK hP hS 0 (x_TG_freeNumber l D ct ad hI x hls h0 (tR_fl hR hf)) (tZ_ok s0) (tZ_at hZ hS) (gA_mono hS.1) (by decide) rfl rfl ww_283 ww_285 ww_2 ww_23 wC_TG_freeNumber mP_TG_freeNumber (by decide) rfl hl.1 rfl (Nat.le_of_ble_eq_true rfl) mD_TG_not_7 ⟨Nat.le_of_ble_eq_true rfl, Nat.le_of_ble_eq_true rfl⟩ (fun q ce x3 H locs hp hP _ _ hS hce hcv hcl => ?_)
  exact tx_out hno hlocks hP hS (hp ▸ hR) hce hcv hcl (by decide) (by decide)

set_option maxHeartbeats 4000000 in
set_option maxRecDepth 100000 in
theorem k_TG_open (l : Launch) (D : va_G) (ct : Nat → ClassId) (ad : Nat → Nat) (hI : gw_inj 424 ad) (x : tS) (α : tA) (hR : tR α x.1) {u : Nat} (hu : u < 120) (hut : aT α u = true) (hb_ : aB α u < 268435456) : gMi l mY_TG_open mB_TG_open 3 (some .int) (rF 2 42) D (tT ct) gZ0 424 ad (tD ct ad) [.ref (ad 0), .int (nI u)] x (fun r x' => r = tBi (aV α u) ∧ tR α x'.1) := by
  refine gMi_enter (by decide) (Nat.le_of_ble_eq_true rfl) ?_
  intro p e s m below meth c ls hx hb hr htw hown hlocks hml hl hP hK hZ hS
  have hA : ∀ k, k < 424 → gA 424 ad s.heap.size (ad k) := fun _ h => gA_in h
  have hl : lv_has ls 3 [(0, .ref (ad 0)), (1, .int (nI u))] := hl
  refine lv_aload_n hx hb mD_TG_open_0 rfl (lv_at hl 0 rfl) ?_
  refine lv_iload_n hx hb mD_TG_open_1 rfl (lv_at hl 1 rfl) ?_
  refine gc_Vr (As := [.int (nI u)]) (rest := []) hx hb hml hown htw hK hP hS 0 (k_TG_cellOf l D ct ad hI x (q := u) hu (tR_th hR hu hut)) gZ0_ok (fun _ _ _ => trivial) (gA_mono hS.1) (by decide) rfl rfl ww_381 ww_383 ww_5 ww_23 wC_TG_cellOf mP_TG_cellOf (by decide) rfl hl.1 rfl (Nat.le_of_ble_eq_true rfl) mD_TG_open_2 ⟨Nat.le_of_ble_eq_true rfl, Nat.le_of_ble_eq_true rfl⟩ (fun r2 x1 H locs hp1 hP _ _ hS => ?_)
  obtain ⟨ra, hq_⟩ := hp1
  subst ra
  rw [hq_] at hP
  refine lv_astore_n (lv' := [(2, .ref (ad ((110 + 2 * u)))), (0, .ref (ad 0)), (1, .int (nI u))]) hx hb mD_TG_open_5 rfl hl (by decide) rfl (fun ls hl => ?_)
  have hu0 := (hR.2.1 u hu).2 hut
  refine lv_aload_n hx hb mD_TG_open_6 rfl (lv_at hl 0 rfl) ?_
  refine t_get (C := cN_Ce) (T := cF_Ce) (N := 4) (ci := 0) hx hb htw wU_Ce hown hK hP ((110 + 2 * u)) (tCe_lt (tCe_led (c := u) hu)) (tE_cell (tCe_led (c := u) hu)) rfl 1 (by decide) rfl ww_125 rfl mD_TG_open_7 ?_
  refine lv_ldc hx hb hown (htw _ ww_571) mD_TG_open_10 ?_
  refine lv_icmp_lt (tgt := 25) hx hb mD_TG_open_12 rfl (fun hc => ?_) (fun hc => ?_)
  · skip
    refine lv_aload_n hx hb mD_TG_open_25 rfl (lv_at hl 1 rfl) ?_
    refine t_get (C := cN_TG) (T := cF_TG) (N := 12) (ci := 7) hx hb htw wU_TG hown hK hP 0 (by decide) rfl rfl 1 (by decide) rfl ww_223 rfl mD_TG_open_26 ?_
    refine lv_aload_n hx hb mD_TG_open_29 rfl (lv_at hl 0 rfl) ?_
    refine t_get (C := cN_Ce) (T := cF_Ce) (N := 4) (ci := 0) hx hb htw wU_Ce hown hK hP ((110 + 2 * u)) (tCe_lt (tCe_led (c := u) hu)) (tE_cell (tCe_led (c := u) hu)) rfl 0 (by decide) rfl ww_123 rfl mD_TG_open_30 ?_
    refine gc_Vi (As := [.ref (ad (((110 + 2 * u) + 1)))]) (rest := []) hx hb hml hown htw hK hP hS 2 (k_Se_placeOf l D ct ad hI x (k := 110 + 2 * u + 1) (tCe_row (tCe_led hu))) gZ0_ok (fun _ _ _ => trivial) (gA_mono hS.1) (by decide) rfl rfl ww_573 ww_574 ww_575 ww_25 wC_Se_placeOf mP_Se_placeOf (by decide) rfl hl.1 rfl (Nat.le_of_ble_eq_true rfl) mD_TG_open_33 ⟨Nat.le_of_ble_eq_true rfl, Nat.le_of_ble_eq_true rfl⟩ (fun r4 x3 H locs hp3 hP _ _ hS => ?_)
    obtain ⟨hq_, rfl⟩ := hp3
    rw [hq_] at hP
    have ho := tp_near_open hu0.2.2.2 (by omega)
    refine lv_if_le (tgt := 43) hx hb mD_TG_open_36 rfl (fun h6 => ?_) (fun h6 => ?_)
    · skip
      refine lv_iconst (v := nI 0) hx hb mD_TG_open_43 (by decide) ?_
      exact gw_iret hx hb hr hlocks hP hS (⟨by first | exact (tn_open ho).1 h6 | exact (tn_open ho).2 h6, hR⟩) mD_TG_open_44 (Nat.zero_le _) (Nat.zero_le _)
    · skip
      refine lv_iconst (v := nI 1) hx hb mD_TG_open_39 (by decide) ?_
      refine lv_goto (tgt := 44) hx hb mD_TG_open_40 rfl ?_
      exact gw_iret hx hb hr hlocks hP hS (⟨by first | exact (tn_open ho).1 h6 | exact (tn_open ho).2 h6, hR⟩) mD_TG_open_44 (Nat.zero_le _) (Nat.zero_le _)
  · skip
    exfalso; rw [hu0.2.1] at hc; exact hc (nI_lt (b := 268435456) hb_ (by decide))

set_option maxHeartbeats 4000000 in
set_option maxRecDepth 100000 in
theorem x_TG_open1 (l : Launch) (D : va_G) (ct : Nat → ClassId) (ad : Nat → Nat) (hI : gw_inj 424 ad) (x : tS) (hls : l.stackTraces = false) {s0 : State} {zt : Nat → Nat} (h0 : tO s0 zt) (α : tA) (hR : tR α x.1) (a : Int32) (hh : ¬ aHas α a) : gX l mY_TG_open mB_TG_open 3 (some .int) (rX 7 103) D (tT ct) (tZ s0) 424 ad (tD ct ad) [.ref (ad 0), .int a] x tX_N (fun x' => tR α x'.1) := by
  refine gX_enter (by decide) (Nat.le_of_ble_eq_true rfl) ?_
  intro p e s m below meth c ls hx hb hr htw hown hlocks hml hl hP hK hZ hS hno
  have hA : ∀ k, k < 424 → gA 424 ad s.heap.size (ad k) := fun _ h => gA_in h
  have hl : lv_has ls 3 [(0, .ref (ad 0)), (1, .int a)] := hl
  have hP0 := hP
  refine lv_aload_n hx hb mD_TG_open_0 rfl (lv_at hl 0 rfl) ?_
  refine lv_iload_n hx hb mD_TG_open_1 rfl (lv_at hl 1 rfl) ?_
  refine tx_call (As := [.int a]) (rest := []) hx hb hml hown htw hK hP hS 0 (x_TG_cellOf l D ct ad hI x hls h0 a (fun q => hh ((tR_has hR _).mp q))) (tZ_ok s0) (tZ_at hZ hS) (gA_mono hS.1) (by decide) rfl rfl ww_381 ww_383 ww_5 ww_23 wC_TG_cellOf mP_TG_cellOf (by decide) rfl hl.1 rfl (Nat.le_of_ble_eq_true rfl) mD_TG_open_2 ⟨Nat.le_of_ble_eq_true rfl, Nat.le_of_ble_eq_true rfl⟩ (fun q ce x1 H locs hp hP _ _ hS hce hcv hcl => ?_)
  exact tx_out hno hlocks hP hS (hp ▸ hR) hce hcv hcl (by decide) (by decide)

set_option maxHeartbeats 4000000 in
set_option maxRecDepth 100000 in
theorem x_TG_open2 (l : Launch) (D : va_G) (ct : Nat → ClassId) (ad : Nat → Nat) (hI : gw_inj 424 ad) (x : tS) (hls : l.stackTraces = false) {s0 : State} {zt : Nat → Nat} (h0 : tO s0 zt) (α : tA) (hR : tR α x.1) {u : Nat} (hu : u < 120) (hut : aT α u = true) (hb_ : 268435456 ≤ aB α u) : gX l mY_TG_open mB_TG_open 3 (some .int) (rX 7 103) D (tT ct) (tZ s0) 424 ad (tD ct ad) [.ref (ad 0), .int (nI u)] x tX_S (fun x' => tR α x'.1) := by
  refine gX_enter (by decide) (Nat.le_of_ble_eq_true rfl) ?_
  intro p e s m below meth c ls hx hb hr htw hown hlocks hml hl hP hK hZ hS hno
  have hA : ∀ k, k < 424 → gA 424 ad s.heap.size (ad k) := fun _ h => gA_in h
  have hl : lv_has ls 3 [(0, .ref (ad 0)), (1, .int (nI u))] := hl
  have hP0 := hP
  refine lv_aload_n hx hb mD_TG_open_0 rfl (lv_at hl 0 rfl) ?_
  refine lv_iload_n hx hb mD_TG_open_1 rfl (lv_at hl 1 rfl) ?_
  refine gc_Vr (As := [.int (nI u)]) (rest := []) hx hb hml hown htw hK hP hS 0 (k_TG_cellOf l D ct ad hI x (q := u) hu (tR_th hR hu hut)) gZ0_ok (fun _ _ _ => trivial) (gA_mono hS.1) (by decide) rfl rfl ww_381 ww_383 ww_5 ww_23 wC_TG_cellOf mP_TG_cellOf (by decide) rfl hl.1 rfl (Nat.le_of_ble_eq_true rfl) mD_TG_open_2 ⟨Nat.le_of_ble_eq_true rfl, Nat.le_of_ble_eq_true rfl⟩ (fun r2 x1 H locs hp1 hP _ _ hS => ?_)
  obtain ⟨ra, hq_⟩ := hp1
  subst ra
  rw [hq_] at hP
  refine lv_astore_n (lv' := [(2, .ref (ad ((110 + 2 * u)))), (0, .ref (ad 0)), (1, .int (nI u))]) hx hb mD_TG_open_5 rfl hl (by decide) rfl (fun ls hl => ?_)
  have hu0 := (hR.2.1 u hu).2 hut
  refine lv_aload_n hx hb mD_TG_open_6 rfl (lv_at hl 0 rfl) ?_
  refine t_get (C := cN_Ce) (T := cF_Ce) (N := 4) (ci := 0) hx hb htw wU_Ce hown hK hP ((110 + 2 * u)) (tCe_lt (tCe_led (c := u) hu)) (tE_cell (tCe_led (c := u) hu)) rfl 1 (by decide) rfl ww_125 rfl mD_TG_open_7 ?_
  refine lv_ldc hx hb hown (htw _ ww_571) mD_TG_open_10 ?_
  refine lv_icmp_lt (tgt := 25) hx hb mD_TG_open_12 rfl (fun hc => ?_) (fun hc => ?_)
  · skip
    exfalso; rw [hu0.2.1] at hc; exact nI_nlt (b := 268435456) hb_ (by have := hu0.1; omega) hc
  · skip
    obtain ⟨sa, hsa⟩ := tO_str h0 hZ 6 rfl
    exact tx_thS hx hb (hl.1.trans hml.symm) hown hls hno hlocks h0 hZ hsa hP0 hP hS (hR) (by decide) (by decide) (by decide) (by decide) (by decide) (by decide) mD_TG_open_15 mD_TG_open_18 mD_TG_open_19 mD_TG_open_21 mD_TG_open_24

set_option maxHeartbeats 4000000 in
set_option maxRecDepth 100000 in
theorem k_TG_bound (l : Launch) (D : va_G) (ct : Nat → ClassId) (ad : Nat → Nat) (hI : gw_inj 424 ad) (x : tS) (α : tA) (hR : tR α x.1) {u : Nat} (hu : u < 120) (hut : aT α u = true) : gMi l mY_TG_bound mB_TG_bound 2 (some .int) (rF 2 42) D (tT ct) gZ0 424 ad (tD ct ad) [.ref (ad 0), .int (nI u)] x (fun r x' => r = nI (aB α u) ∧ tR α x'.1) := by
  refine gMi_enter (by decide) (Nat.le_of_ble_eq_true rfl) ?_
  intro p e s m below meth c ls hx hb hr htw hown hlocks hml hl hP hK hZ hS
  have hA : ∀ k, k < 424 → gA 424 ad s.heap.size (ad k) := fun _ h => gA_in h
  have hl : lv_has ls 2 [(0, .ref (ad 0)), (1, .int (nI u))] := hl
  refine lv_aload_n hx hb mD_TG_bound_0 rfl (lv_at hl 0 rfl) ?_
  refine lv_iload_n hx hb mD_TG_bound_1 rfl (lv_at hl 1 rfl) ?_
  refine gc_Vr (As := [.int (nI u)]) (rest := []) hx hb hml hown htw hK hP hS 0 (k_TG_cellOf l D ct ad hI x (q := u) hu (tR_th hR hu hut)) gZ0_ok (fun _ _ _ => trivial) (gA_mono hS.1) (by decide) rfl rfl ww_381 ww_383 ww_5 ww_23 wC_TG_cellOf mP_TG_cellOf (by decide) rfl hl.1 rfl (Nat.le_of_ble_eq_true rfl) mD_TG_bound_2 ⟨Nat.le_of_ble_eq_true rfl, Nat.le_of_ble_eq_true rfl⟩ (fun r2 x1 H locs hp1 hP _ _ hS => ?_)
  obtain ⟨ra, hq_⟩ := hp1
  subst ra
  rw [hq_] at hP
  refine t_get (C := cN_Ce) (T := cF_Ce) (N := 4) (ci := 0) hx hb htw wU_Ce hown hK hP ((110 + 2 * u)) (tCe_lt (tCe_led (c := u) hu)) (tE_cell (tCe_led (c := u) hu)) rfl 1 (by decide) rfl ww_125 rfl mD_TG_bound_5 ?_
  exact gw_iret hx hb hr hlocks hP hS (⟨((hR.2.1 u hu).2 hut).2.1, hR⟩) mD_TG_bound_8 (Nat.zero_le _) (Nat.zero_le _)

set_option maxHeartbeats 4000000 in
set_option maxRecDepth 100000 in
theorem x_TG_bound (l : Launch) (D : va_G) (ct : Nat → ClassId) (ad : Nat → Nat) (hI : gw_inj 424 ad) (x : tS) (hls : l.stackTraces = false) {s0 : State} {zt : Nat → Nat} (h0 : tO s0 zt) (α : tA) (hR : tR α x.1) (a : Int32) (hh : ¬ aHas α a) : gX l mY_TG_bound mB_TG_bound 2 (some .int) (rX 7 103) D (tT ct) (tZ s0) 424 ad (tD ct ad) [.ref (ad 0), .int a] x tX_N (fun x' => tR α x'.1) := by
  refine gX_enter (by decide) (Nat.le_of_ble_eq_true rfl) ?_
  intro p e s m below meth c ls hx hb hr htw hown hlocks hml hl hP hK hZ hS hno
  have hA : ∀ k, k < 424 → gA 424 ad s.heap.size (ad k) := fun _ h => gA_in h
  have hl : lv_has ls 2 [(0, .ref (ad 0)), (1, .int a)] := hl
  have hP0 := hP
  refine lv_aload_n hx hb mD_TG_bound_0 rfl (lv_at hl 0 rfl) ?_
  refine lv_iload_n hx hb mD_TG_bound_1 rfl (lv_at hl 1 rfl) ?_
  refine tx_call (As := [.int a]) (rest := []) hx hb hml hown htw hK hP hS 0 (x_TG_cellOf l D ct ad hI x hls h0 a (fun q => hh ((tR_has hR _).mp q))) (tZ_ok s0) (tZ_at hZ hS) (gA_mono hS.1) (by decide) rfl rfl ww_381 ww_383 ww_5 ww_23 wC_TG_cellOf mP_TG_cellOf (by decide) rfl hl.1 rfl (Nat.le_of_ble_eq_true rfl) mD_TG_bound_2 ⟨Nat.le_of_ble_eq_true rfl, Nat.le_of_ble_eq_true rfl⟩ (fun q ce x1 H locs hp hP _ _ hS hce hcv hcl => ?_)
  exact tx_out hno hlocks hP hS (hp ▸ hR) hce hcv hcl (by decide) (by decide)

set_option maxHeartbeats 4000000 in
set_option maxRecDepth 100000 in
theorem k_TG_within (l : Launch) (D : va_G) (ct : Nat → ClassId) (ad : Nat → Nat) (hI : gw_inj 424 ad) (x : tS) (α : tA) (hR : tR α x.1) {u : Nat} (hu : u < 120) (hut : aT α u = true) : gMi l mY_TG_within mB_TG_within 4 (some .boolean) (rF 2 42) D (tT ct) gZ0 424 ad (tD ct ad) [.ref (ad 0), .int (nI u)] x (fun r x' => r = nI 1 ∧ tR α x'.1) := by
  refine gMi_enter (by decide) (Nat.le_of_ble_eq_true rfl) ?_
  intro p e s m below meth c ls hx hb hr htw hown hlocks hml hl hP hK hZ hS
  have hA : ∀ k, k < 424 → gA 424 ad s.heap.size (ad k) := fun _ h => gA_in h
  have hl : lv_has ls 4 [(0, .ref (ad 0)), (1, .int (nI u))] := hl
  refine lv_aload_n hx hb mD_TG_within_0 rfl (lv_at hl 0 rfl) ?_
  refine lv_iload_n hx hb mD_TG_within_1 rfl (lv_at hl 1 rfl) ?_
  refine gc_Vr (As := [.int (nI u)]) (rest := []) hx hb hml hown htw hK hP hS 0 (k_TG_cellOf l D ct ad hI x (q := u) hu (tR_th hR hu hut)) gZ0_ok (fun _ _ _ => trivial) (gA_mono hS.1) (by decide) rfl rfl ww_381 ww_383 ww_5 ww_23 wC_TG_cellOf mP_TG_cellOf (by decide) rfl hl.1 rfl (Nat.le_of_ble_eq_true rfl) mD_TG_within_2 ⟨Nat.le_of_ble_eq_true rfl, Nat.le_of_ble_eq_true rfl⟩ (fun r2 x1 H locs hp1 hP _ _ hS => ?_)
  obtain ⟨ra, hq_⟩ := hp1
  subst ra
  rw [hq_] at hP
  refine lv_astore_n (lv' := [(2, .ref (ad ((110 + 2 * u)))), (0, .ref (ad 0)), (1, .int (nI u))]) hx hb mD_TG_within_5 rfl hl (by decide) rfl (fun ls hl => ?_)
  have hu0 := (hR.2.1 u hu).2 hut
  have hin := tn_in hu0.2.2.2 hu0.1
  refine lv_aload_n hx hb mD_TG_within_6 rfl (lv_at hl 1 rfl) ?_
  refine t_get (C := cN_TG) (T := cF_TG) (N := 12) (ci := 7) hx hb htw wU_TG hown hK hP 0 (by decide) rfl rfl 1 (by decide) rfl ww_223 rfl mD_TG_within_7 ?_
  refine lv_aload_n hx hb mD_TG_within_10 rfl (lv_at hl 0 rfl) ?_
  refine t_get (C := cN_Ce) (T := cF_Ce) (N := 4) (ci := 0) hx hb htw wU_Ce hown hK hP ((110 + 2 * u)) (tCe_lt (tCe_led (c := u) hu)) (tE_cell (tCe_led (c := u) hu)) rfl 0 (by decide) rfl ww_123 rfl mD_TG_within_11 ?_
  refine gc_Vi (As := [.ref (ad (((110 + 2 * u) + 1)))]) (rest := []) hx hb hml hown htw hK hP hS 2 (k_Se_placeOf l D ct ad hI x (k := 110 + 2 * u + 1) (tCe_row (tCe_led hu))) gZ0_ok (fun _ _ _ => trivial) (gA_mono hS.1) (by decide) rfl rfl ww_573 ww_574 ww_575 ww_25 wC_Se_placeOf mP_Se_placeOf (by decide) rfl hl.1 rfl (Nat.le_of_ble_eq_true rfl) mD_TG_within_14 ⟨Nat.le_of_ble_eq_true rfl, Nat.le_of_ble_eq_true rfl⟩ (fun r4 x3 H locs hp3 hP _ _ hS => ?_)
  obtain ⟨hq_, rfl⟩ := hp3
  rw [hq_] at hP
  refine lv_aload_n hx hb mD_TG_within_17 rfl (lv_at hl 0 rfl) ?_
  refine t_get (C := cN_Ce) (T := cF_Ce) (N := 4) (ci := 0) hx hb htw wU_Ce hown hK hP ((110 + 2 * u)) (tCe_lt (tCe_led (c := u) hu)) (tE_cell (tCe_led (c := u) hu)) rfl 2 (by decide) rfl ww_128 rfl mD_TG_within_18 ?_
  rw [hu0.2.2.1]
  refine gc_Si (As := [.int (tBi (aV α u))]) (rest := [.int (tp_place (x.1 3) (x.1 (110 + 2 * u + 1)))]) hx hb hml hown htw hK hP hS (k_TG_placeFor l D ct ad hI x (aV α u)) gZ0_ok (fun _ _ _ => trivial) (gA_mono hS.1) ww_367 ww_368 ww_23 wC_TG_placeFor mP_TG_placeFor (by decide) rfl hl.1 rfl (Nat.le_of_ble_eq_true rfl) mD_TG_within_21 ⟨Nat.le_of_ble_eq_true rfl, Nat.le_of_ble_eq_true rfl⟩ (fun r6 x5 H locs hp5 hP _ _ hS => ?_)
  obtain ⟨hq_, rfl⟩ := hp5
  rw [hq_] at hP
  refine lv_isub hx hb mD_TG_within_24 ?_
  refine lv_istore_n (lv' := [(3, .int ((tp_place (x.1 3) (x.1 (110 + 2 * u + 1))) - (tp_pl (aV α u)))), (2, .ref (ad ((110 + 2 * u)))), (0, .ref (ad 0)), (1, .int (nI u))]) hx hb mD_TG_within_25 rfl hl (by decide) rfl (fun ls hl => ?_)
  refine lv_iload_n hx hb mD_TG_within_26 rfl (lv_at hl 0 rfl) ?_
  refine lv_aload_n hx hb mD_TG_within_27 rfl (lv_at hl 1 rfl) ?_
  refine t_get (C := cN_Ce) (T := cF_Ce) (N := 4) (ci := 0) hx hb htw wU_Ce hown hK hP ((110 + 2 * u)) (tCe_lt (tCe_led (c := u) hu)) (tE_cell (tCe_led (c := u) hu)) rfl 1 (by decide) rfl ww_125 rfl mD_TG_within_28 ?_
  refine lv_icmp_gt (tgt := 47) hx hb mD_TG_within_31 rfl (fun hc => ?_) (fun hc => ?_)
  · skip
    exfalso; rw [hu0.2.1] at hc; first | exact hc hin.1 | exact Int32.not_le.mpr hc hin.1
  · skip
    refine lv_iload_n hx hb mD_TG_within_34 rfl (lv_at hl 0 rfl) ?_
    refine lv_aload_n hx hb mD_TG_within_35 rfl (lv_at hl 1 rfl) ?_
    refine t_get (C := cN_Ce) (T := cF_Ce) (N := 4) (ci := 0) hx hb htw wU_Ce hown hK hP ((110 + 2 * u)) (tCe_lt (tCe_led (c := u) hu)) (tE_cell (tCe_led (c := u) hu)) rfl 1 (by decide) rfl ww_125 rfl mD_TG_within_36 ?_
    refine lv_ineg hx hb mD_TG_within_39 ?_
    refine lv_icmp_lt (tgt := 47) hx hb mD_TG_within_40 rfl (fun hc => ?_) (fun hc => ?_)
    · skip
      exfalso; rw [hu0.2.1] at hc; first | exact hin.2 hc | exact hc hin.2
    · skip
      refine lv_iconst (v := nI 1) hx hb mD_TG_within_43 (by decide) ?_
      refine lv_goto (tgt := 48) hx hb mD_TG_within_44 rfl ?_
      exact gw_zret hx hb hr hlocks hP hS rfl (⟨rfl, hR⟩) mD_TG_within_48 (Nat.zero_le _) (Nat.zero_le _)

set_option maxHeartbeats 4000000 in
set_option maxRecDepth 100000 in
theorem x_TG_within (l : Launch) (D : va_G) (ct : Nat → ClassId) (ad : Nat → Nat) (hI : gw_inj 424 ad) (x : tS) (hls : l.stackTraces = false) {s0 : State} {zt : Nat → Nat} (h0 : tO s0 zt) (α : tA) (hR : tR α x.1) (a : Int32) (hh : ¬ aHas α a) : gX l mY_TG_within mB_TG_within 4 (some .boolean) (rX 7 103) D (tT ct) (tZ s0) 424 ad (tD ct ad) [.ref (ad 0), .int a] x tX_N (fun x' => tR α x'.1) := by
  refine gX_enter (by decide) (Nat.le_of_ble_eq_true rfl) ?_
  intro p e s m below meth c ls hx hb hr htw hown hlocks hml hl hP hK hZ hS hno
  have hA : ∀ k, k < 424 → gA 424 ad s.heap.size (ad k) := fun _ h => gA_in h
  have hl : lv_has ls 4 [(0, .ref (ad 0)), (1, .int a)] := hl
  have hP0 := hP
  refine lv_aload_n hx hb mD_TG_within_0 rfl (lv_at hl 0 rfl) ?_
  refine lv_iload_n hx hb mD_TG_within_1 rfl (lv_at hl 1 rfl) ?_
  refine tx_call (As := [.int a]) (rest := []) hx hb hml hown htw hK hP hS 0 (x_TG_cellOf l D ct ad hI x hls h0 a (fun q => hh ((tR_has hR _).mp q))) (tZ_ok s0) (tZ_at hZ hS) (gA_mono hS.1) (by decide) rfl rfl ww_381 ww_383 ww_5 ww_23 wC_TG_cellOf mP_TG_cellOf (by decide) rfl hl.1 rfl (Nat.le_of_ble_eq_true rfl) mD_TG_within_2 ⟨Nat.le_of_ble_eq_true rfl, Nat.le_of_ble_eq_true rfl⟩ (fun q ce x1 H locs hp hP _ _ hS hce hcv hcl => ?_)
  exact tx_out hno hlocks hP hS (hp ▸ hR) hce hcv hcl (by decide) (by decide)

set_option maxHeartbeats 4000000 in
set_option maxRecDepth 100000 in
theorem k_TG_clear (l : Launch) (D : va_G) (ct : Nat → ClassId) (ad : Nat → Nat) (hI : gw_inj 424 ad) (x : tS) (α : tA) (hR : tR α x.1)  : gMi l mY_TG_clear mB_TG_clear 1 (some .int) (rF 1 21) D (tT ct) gZ0 424 ad (tD ct ad) [.ref (ad 0)] x (fun r x' => r = nI (aZ α) ∧ tR (aClear α) x'.1) := by
  refine gMi_enter (by decide) (Nat.le_of_ble_eq_true rfl) ?_
  intro p e s m below meth c ls hx hb hr htw hown hlocks hml hl hP hK hZ hS
  have hA : ∀ k, k < 424 → gA 424 ad s.heap.size (ad k) := fun _ h => gA_in h
  have hl : lv_has ls 1 [(0, .ref (ad 0))] := hl
  refine lv_aload_n hx hb mD_TG_clear_0 rfl (lv_at hl 0 rfl) ?_
  refine t_get (C := cN_TG) (T := cF_TG) (N := 12) (ci := 7) hx hb htw wU_TG hown hK hP 0 (by decide) rfl rfl 5 (by decide) rfl ww_227 rfl mD_TG_clear_1 ?_
  refine gc_Vi (As := []) (rest := []) hx hb hml hown htw hK hP hS 350 (k_Ci_removeAll l D ct ad hI x) gZ0_ok (fun _ _ _ => trivial) (gA_mono hS.1) (by decide) rfl rfl ww_271 ww_272 ww_273 ww_30 wC_Ci_removeAll mP_Ci_removeAll (by decide) rfl hl.1 rfl (Nat.le_of_ble_eq_true rfl) mD_TG_clear_4 ⟨Nat.le_of_ble_eq_true rfl, Nat.le_of_ble_eq_true rfl⟩ (fun r2 x1 H locs hp1 hP _ _ hS => ?_)
  obtain ⟨er, e1⟩ := hp1
  exact gw_iret hx hb hr hlocks hP hS (⟨by rw [er]; exact hR.2.2.2.1.2.1, tR_clear hR e1⟩) mD_TG_clear_7 (Nat.zero_le _) (Nat.zero_le _)

set_option maxHeartbeats 4000000 in
set_option maxRecDepth 100000 in
theorem k_TG_count (l : Launch) (D : va_G) (ct : Nat → ClassId) (ad : Nat → Nat) (hI : gw_inj 424 ad) (x : tS) (α : tA) (hR : tR α x.1) {w : Nat} (hw : w < 5) : gMi l mY_TG_count mB_TG_count 2 (some .int) (rF 1 22) D (tT ct) gZ0 424 ad (tD ct ad) [.ref (ad 0), .int (nI w)] x (fun r x' => r = aCount α w ∧ tR α x'.1) := by
  refine gMi_enter (by decide) (Nat.le_of_ble_eq_true rfl) ?_
  intro p e s m below meth c ls hx hb hr htw hown hlocks hml hl hP hK hZ hS
  have hA : ∀ k, k < 424 → gA 424 ad s.heap.size (ad k) := fun _ h => gA_in h
  have hl : lv_has ls 2 [(0, .ref (ad 0)), (1, .int (nI w))] := hl
  refine lv_iload_n hx hb mD_TG_count_0 rfl (lv_at hl 1 rfl) ?_
  rcases (show w = 0 ∨ w = 1 ∨ w = 2 ∨ w = 3 ∨ w = 4 by omega) with rfl | rfl | rfl | rfl | rfl
  · skip
    refine lv_tableIn (tgt := 36) hx hb mD_TG_count_1 (by decide) (by decide) rfl rfl ?_
    refine lv_aload_n hx hb mD_TG_count_36 rfl (lv_at hl 0 rfl) ?_
    refine t_get (C := cN_TG) (T := cF_TG) (N := 12) (ci := 7) hx hb htw wU_TG hown hK hP 0 (by decide) rfl rfl 4 (by decide) rfl ww_226 rfl mD_TG_count_37 ?_
    refine t_get (C := cN_Le) (T := cF_Le) (N := 2) (ci := 2) hx hb htw wU_Le hown hK hP 108 (by decide) rfl rfl 1 (by decide) rfl ww_142 rfl mD_TG_count_40 ?_
    exact gw_iret hx hb hr hlocks hP hS (⟨hR.2.2.1, hR⟩) mD_TG_count_43 (Nat.zero_le _) (Nat.zero_le _)
  · skip
    refine lv_tableIn (tgt := 44) hx hb mD_TG_count_1 (by decide) (by decide) rfl rfl ?_
    refine lv_aload_n hx hb mD_TG_count_44 rfl (lv_at hl 0 rfl) ?_
    refine t_get (C := cN_TG) (T := cF_TG) (N := 12) (ci := 7) hx hb htw wU_TG hown hK hP 0 (by decide) rfl rfl 10 (by decide) rfl ww_232 rfl mD_TG_count_45 ?_
    exact gw_iret hx hb hr hlocks hP hS (⟨hR.2.2.2.2.1, hR⟩) mD_TG_count_48 (Nat.zero_le _) (Nat.zero_le _)
  · skip
    refine lv_tableIn (tgt := 49) hx hb mD_TG_count_1 (by decide) (by decide) rfl rfl ?_
    refine lv_aload_n hx hb mD_TG_count_49 rfl (lv_at hl 0 rfl) ?_
    refine t_get (C := cN_TG) (T := cF_TG) (N := 12) (ci := 7) hx hb htw wU_TG hown hK hP 0 (by decide) rfl rfl 11 (by decide) rfl ww_233 rfl mD_TG_count_50 ?_
    exact gw_iret hx hb hr hlocks hP hS (⟨hR.2.2.2.2.2, hR⟩) mD_TG_count_53 (Nat.zero_le _) (Nat.zero_le _)
  · skip
    refine lv_tableIn (tgt := 54) hx hb mD_TG_count_1 (by decide) (by decide) rfl rfl ?_
    refine lv_aload_n hx hb mD_TG_count_54 rfl (lv_at hl 0 rfl) ?_
    refine t_get (C := cN_TG) (T := cF_TG) (N := 12) (ci := 7) hx hb htw wU_TG hown hK hP 0 (by decide) rfl rfl 5 (by decide) rfl ww_227 rfl mD_TG_count_55 ?_
    refine t_get (C := cN_Ci) (T := cF_Ci) (N := 4) (ci := 1) hx hb htw wU_Ci hown hK hP 350 (by decide) rfl rfl 3 (by decide) rfl ww_161 rfl mD_TG_count_58 ?_
    exact gw_iret hx hb hr hlocks hP hS (⟨hR.2.2.2.1.2.1, hR⟩) mD_TG_count_61 (Nat.zero_le _) (Nat.zero_le _)
  · skip
    refine lv_tableIn (tgt := 62) hx hb mD_TG_count_1 (by decide) (by decide) rfl rfl ?_
    refine lv_aload_n hx hb mD_TG_count_62 rfl (lv_at hl 0 rfl) ?_
    refine t_get (C := cN_TG) (T := cF_TG) (N := 12) (ci := 7) hx hb htw wU_TG hown hK hP 0 (by decide) rfl rfl 4 (by decide) rfl ww_226 rfl mD_TG_count_63 ?_
    refine gc_Vi (As := []) (rest := []) hx hb hml hown htw hK hP hS 108 (k_Le_greatestBound l D ct ad hI x) gZ0_ok (fun _ _ _ => trivial) (gA_mono hS.1) (by decide) rfl rfl ww_629 ww_630 ww_631 ww_28 wC_Le_greatestBound mP_Le_greatestBound (by decide) rfl hl.1 rfl (Nat.le_of_ble_eq_true rfl) mD_TG_count_66 ⟨Nat.le_of_ble_eq_true rfl, Nat.le_of_ble_eq_true rfl⟩ (fun r2 x1 H locs hp1 hP _ _ hS => ?_)
    obtain ⟨hq_, er⟩ := hp1
    rw [hq_] at hP
    exact gw_iret hx hb hr hlocks hP hS (⟨by rw [er]; exact aGB_eq hR (Nat.le_refl _), hR⟩) mD_TG_count_69 (Nat.zero_le _) (Nat.zero_le _)

theorem tk_out {a : Int32} (h : ¬ ∃ w, w < 5 ∧ a = nI w) : a.toInt < 0 ∨ 4 < a.toInt := by
  rcases Classical.em (a.toInt < 0) with h1 | h1
  · exact Or.inl h1
  · refine Or.inr (Int.not_le.mp (fun z => h ?_))
    obtain ⟨q, h2, h3⟩ := tb_idx (a := a) (N := 5) (by decide) (fun q => h1 (by have := Int32.lt_iff_toInt_lt.mp q; exact this)) (fun q => by have h5 := Int32.le_iff_toInt_le.mp q; rw [nI_toInt (by decide)] at h5; omega)
    exact ⟨q, h2, h3⟩

set_option maxHeartbeats 4000000 in
set_option maxRecDepth 100000 in
theorem x_TG_count (l : Launch) (D : va_G) (ct : Nat → ClassId) (ad : Nat → Nat) (hI : gw_inj 424 ad) (x : tS) (hls : l.stackTraces = false) {s0 : State} {zt : Nat → Nat} (h0 : tO s0 zt) (α : tA) (hR : tR α x.1) (a : Int32) (hh : ¬ ∃ w, w < 5 ∧ a = nI w) : gX l mY_TG_count mB_TG_count 2 (some .int) (rX 6 82) D (tT ct) (tZ s0) 424 ad (tD ct ad) [.ref (ad 0), .int a] x tX_A (fun x' => tR α x'.1) := by
  refine gX_enter (by decide) (Nat.le_of_ble_eq_true rfl) ?_
  intro p e s m below meth c ls hx hb hr htw hown hlocks hml hl hP hK hZ hS hno
  have hA : ∀ k, k < 424 → gA 424 ad s.heap.size (ad k) := fun _ h => gA_in h
  have hl : lv_has ls 2 [(0, .ref (ad 0)), (1, .int a)] := hl
  have hP0 := hP
  refine lv_iload_n hx hb mD_TG_count_0 rfl (lv_at hl 1 rfl) ?_
  refine lv_tableOut (tgt := 70) hx hb mD_TG_count_1 (tk_out hh) rfl ?_
  obtain ⟨sa, hsa⟩ := tO_str h0 hZ 10 rfl
  exact tx_thA hx hb (hl.1.trans hml.symm) hown hls hno hlocks h0 hZ hsa hP0 hP hS (hR) (by decide) (by decide) (by decide) (by decide) (by decide) (by decide) mD_TG_count_70 mD_TG_count_73 mD_TG_count_74 mD_TG_count_76 mD_TG_count_79
end
section
/-! TorusGates' public methods, second part: blur, pile, line. Laid by wip/whole/part_tg4.py. -/
theorem tn_blur {v : Int32} {b n : Nat} (e : v = nI b) (hb : b < 1073741824) (hn : n ≤ 1000) : v.toInt64 + (16 : Int64) * (nI n).toInt64 = lN (b + 16 * n) := by
  rw [e, nI_l (by omega), nI_l (by omega), show (16 : Int64) = lN 16 from rfl, lN_mul, lN_add]
theorem tn_pile {v : Int32} {b k : Nat} (e : v = nI b) (hb : b < 1073741824) (hk : k ≤ 100) : v.toInt64 * (nI (8 * k + 1)).toInt64 = lN (b * (8 * k + 1)) := by
  rw [e, nI_l (by omega), nI_l (by omega), lN_mul]
theorem tn_plt {b k : Nat} (hb : b < 1073741824) (hk : k ≤ 100) : b * (8 * k + 1) < 2 ^ 62 := by
  have h : b * (8 * k + 1) ≤ 1073741824 * 801 := Nat.mul_le_mul (by omega) (by omega)
  omega
theorem tn_s0 (w : Int32) : w - nI 0 = w := by
  show w - 0 = w
  exact Int32.sub_zero w
theorem tr_423 : tRow 423 := by unfold tRow; omega

set_option maxHeartbeats 4000000 in
set_option maxRecDepth 100000 in
theorem k_TG_blur (l : Launch) (D : va_G) (ct : Nat → ClassId) (ad : Nat → Nat) (hI : gw_inj 424 ad) (x : tS) (α : tA) (hR : tR α x.1) {u : Nat} (hu : u < 120) (hut : aT α u = true) {n : Nat} (hn : n ≤ 1000) (hbd : aB α u + 16 * n < 1073741824) : gMi l mY_TG_blur mB_TG_blur 6 (some .int) (rF 3 69) D (tT ct) gZ0 424 ad (tD ct ad) [.ref (ad 0), .int (nI u), .int (nI n)] x (fun r x' => r = nI (aB α u + 16 * n) ∧ tR (aBound α u (aB α u + 16 * n)) x'.1) := by
  refine gMi_enter (by decide) (Nat.le_of_ble_eq_true rfl) ?_
  intro p e s m below meth c ls hx hb hr htw hown hlocks hml hl hP hK hZ hS
  have hA : ∀ k, k < 424 → gA 424 ad s.heap.size (ad k) := fun _ h => gA_in h
  have hl : lv_has ls 6 [(0, .ref (ad 0)), (1, .int (nI u)), (2, .int (nI n))] := hl
  refine gw_nmQ (fun Q hQ => ?_)
  refine lv_aload_n hx hb mD_TG_blur_0 rfl (lv_at hl 0 rfl) ?_
  refine lv_iload_n hx hb mD_TG_blur_1 rfl (lv_at hl 1 rfl) ?_
  refine gc_Vr (As := [.int (nI u)]) (rest := []) hx hb hml hown htw hK hP hS 0 (k_TG_cellOf l D ct ad hI x (q := u) hu (tR_th hR hu hut)) gZ0_ok (fun _ _ _ => trivial) (gA_mono hS.1) (by decide) rfl rfl ww_381 ww_383 ww_5 ww_23 wC_TG_cellOf mP_TG_cellOf (by decide) rfl hl.1 rfl (Nat.le_of_ble_eq_true rfl) mD_TG_blur_2 ⟨Nat.le_of_ble_eq_true rfl, Nat.le_of_ble_eq_true rfl⟩ (fun r2 x1 H locs hp1 hP _ _ hS => ?_)
  obtain ⟨ra, hq_⟩ := hp1
  subst ra
  rw [hq_] at hP
  refine lv_astore_n (lv' := [(3, .ref (ad ((110 + 2 * u)))), (0, .ref (ad 0)), (1, .int (nI u)), (2, .int (nI n))]) hx hb mD_TG_blur_5 rfl hl (by decide) rfl (fun ls hl => ?_)
  have hu0 := (hR.2.1 u hu).2 hut
  have hkc := tCe_led hu
  refine lv_aload_n hx hb mD_TG_blur_6 rfl (lv_at hl 1 rfl) ?_
  refine lv_iload_n hx hb mD_TG_blur_7 rfl (lv_at hl 3 rfl) ?_
  refine lv_sipush (v := nI 1000) hx hb mD_TG_blur_8 (by decide) ?_
  refine gc_Vv (As := [.int (nI n), .int (nI 1000)]) (rest := []) hx hb hml hown htw hK hP hS 0 (k_TG_checkRange l D ct ad hI x (q := n) (N := 1000) hn (by decide)) gZ0_ok (fun _ _ _ => trivial) (gA_mono hS.1) (by decide) rfl rfl ww_439 ww_441 ww_6 ww_23 wC_TG_checkRange mP_TG_checkRange (by decide) rfl hl.1 rfl (Nat.le_of_ble_eq_true rfl) mD_TG_blur_11 ⟨Nat.le_of_ble_eq_true rfl, Nat.le_of_ble_eq_true rfl⟩ (fun x3 H locs hp3 hP _ _ hS => ?_)
  have hq_ := hp3
  rw [hq_] at hP
  refine lv_aload_n hx hb mD_TG_blur_14 rfl (lv_at hl 1 rfl) ?_
  refine lv_aload_n hx hb mD_TG_blur_15 rfl (lv_at hl 0 rfl) ?_
  refine t_get (C := cN_Ce) (T := cF_Ce) (N := 4) (ci := 0) hx hb htw wU_Ce hown hK hP ((110 + 2 * u)) (tCe_lt (tCe_led (c := u) hu)) (tE_cell (tCe_led (c := u) hu)) rfl 1 (by decide) rfl ww_125 rfl mD_TG_blur_16 ?_
  refine lv_i2l hx hb mD_TG_blur_19 rfl ?_
  refine lv_ldc2 hx hb hown (htw _ ww_459) mD_TG_blur_20 ?_
  refine lv_iload_n hx hb mD_TG_blur_23 rfl (lv_at hl 3 rfl) ?_
  refine lv_i2l hx hb mD_TG_blur_24 rfl ?_
  refine lv_lmul hx hb mD_TG_blur_25 ?_
  refine lv_ladd hx hb mD_TG_blur_26 ?_
  rw [tn_blur hu0.2.1 hu0.1 hn]
  refine gc_Vi (As := [.long (lN (aB α u + 16 * n))]) (rest := []) hx hb hml hown htw hK hP hS 0 (k_TG_checkedBound l D ct ad hI x (q := aB α u + 16 * n) hbd) gZ0_ok (fun _ _ _ => trivial) (gA_mono hS.1) (by decide) rfl rfl ww_460 ww_462 ww_7 ww_23 wC_TG_checkedBound mP_TG_checkedBound (by decide) rfl hl.1 rfl (Nat.le_of_ble_eq_true rfl) mD_TG_blur_27 ⟨Nat.le_of_ble_eq_true rfl, Nat.le_of_ble_eq_true rfl⟩ (fun r6 x5 H locs hp5 hP _ _ hS => ?_)
  obtain ⟨hq_, rfl⟩ := hp5
  rw [hq_] at hP
  refine lv_istore (lv' := [(4, .int (nI (aB α u + 16 * n))), (3, .ref (ad ((110 + 2 * u)))), (0, .ref (ad 0)), (1, .int (nI u)), (2, .int (nI n))]) hx hb mD_TG_blur_30 hl (by decide) rfl (fun ls hl => ?_)
  refine lv_iconst (v := nI 0) hx hb mD_TG_blur_32 (by decide) ?_
  refine lv_istore (lv' := [(5, .int (nI 0)), (4, .int (nI (aB α u + 16 * n))), (3, .ref (ad ((110 + 2 * u)))), (0, .ref (ad 0)), (1, .int (nI u)), (2, .int (nI n))]) hx hb mD_TG_blur_33 hl (by decide) rfl (fun ls hl => ?_)
  have loop : ∀ (d35 : Nat) (i : Nat) (y : tS) (H : Heap) (locs : List Loc) (ls : Array Slot), i + d35 = n → lv_has ls 6 [(5, .int (nI i)), (4, .int (nI (aB α u + 16 * n))), (3, .ref (ad ((110 + 2 * u)))), (0, .ref (ad 0)), (1, .int (nI u)), (2, .int (nI n))] → va_P D cL (gw 424 ad (tD ct ad y)) H → va_S (gA 424 ad s.heap.size) s.heap H locs → (∃ gz g, y.1 = va_up (va_up x.1 423 gz) (110 + 2 * u + 1) g ∧ tp_near (x.1 3) g (aV α u) (aB α u + 16 * i)) → W p l e (rF 3 69) s m [.ref (ad 0), .int (nI u), .int (nI n)].toArray below meth c H locs 0 0 Q (F0 m 35 ls []) := by
    intro d35
    induction d35 using Nat.strongRecOn with
    | ind d35 ih =>
      intro i y H locs ls hd hl hP hS hinv
      refine lv_iload hx hb mD_TG_blur_35 (lv_at hl 0 rfl) ?_
      refine lv_iload_n hx hb mD_TG_blur_37 rfl (lv_at hl 5 rfl) ?_
      refine lv_icmp_ge (tgt := 72) hx hb mD_TG_blur_38 rfl (fun hc => ?_) (fun hc => ?_)
      · skip
        have hin : i = n := by have := ts_ge (by omega) (by omega) hc; omega
        obtain ⟨gz, gy, ey, hy⟩ := hinv
        rw [hin] at hy
        refine lv_aload_n hx hb mD_TG_blur_72 rfl (lv_at hl 2 rfl) ?_
        refine lv_iload hx hb mD_TG_blur_73 (lv_at hl 1 rfl) ?_
        refine t_put (C := cN_Ce) (T := cF_Ce) (N := 4) (ci := 0) hx hb htw wU_Ce cT_Ce cO_Ce cM_Ce hown hK hI hA hP hS ((110 + 2 * u)) (tCe_lt (tCe_led (c := u) hu)) (tE_cell (tCe_led (c := u) hu)) rfl 1 (by decide) rfl ww_125 rfl rfl rfl (Nat.le_of_ble_eq_true rfl) (by rw [tE_cell (tCe_led (c := u) hu)]; rfl) mD_TG_blur_75 (fun H locs hP hS => ?_)
        obtain ⟨x7, hx7⟩ : ∃ z_, z_ = tU y ((110 + 2 * u)) (upd (y.1 ((110 + 2 * u))) 1 (nI (aB α u + 16 * n))) := ⟨_, rfl⟩
        rw [← hx7] at hP
        refine lv_iload hx hb mD_TG_blur_78 (lv_at hl 1 rfl) ?_
        subst hQ
        exact gw_iret hx hb hr hlocks hP hS (have hne : (110 + 2 * u) + 1 ≠ 110 + 2 * u := Nat.succ_ne_self _; have ek : y.1 (110 + 2 * u) = x.1 (110 + 2 * u) := (by rw [ey, va_up_ne _ _ hne.symm, va_up_ne _ _ (by omega)]); ⟨rfl, tR_bound hR hu hut (fun k a1 a2 a3 => by rw [hx7, tU_n a1, ey, va_up_ne _ _ a2, va_up_ne _ _ a3]) (by rw [hx7, tU_1, pk_un (by decide), ek]) ⟨hbd, by rw [hx7, tU_1, pk_us], by rw [hx7, tU_1, pk_un (by decide), ek]; exact hu0.2.2.1, by rw [hx7, tU_n hne, tU_n (by omega), ey, va_up_self, va_up_ne _ _ (by omega), va_up_ne _ _ (by omega)]; exact hy⟩⟩) mD_TG_blur_80 (Nat.zero_le _) (Nat.zero_le _)
      · skip
        have hn_i : i < n := ts_lt (by omega) (by omega) hc
        refine lv_aload_n hx hb mD_TG_blur_41 rfl (lv_at hl 3 rfl) ?_
        refine t_get (C := cN_TG) (T := cF_TG) (N := 12) (ci := 7) hx hb htw wU_TG hown hK hP 0 (by decide) rfl rfl 1 (by decide) rfl ww_223 rfl mD_TG_blur_42 ?_
        refine lv_iconst (v := nI 0) hx hb mD_TG_blur_45 (by decide) ?_
        refine lv_aload_n hx hb mD_TG_blur_46 rfl (lv_at hl 3 rfl) ?_
        refine t_get (C := cN_TG) (T := cF_TG) (N := 12) (ci := 7) hx hb htw wU_TG hown hK hP 0 (by decide) rfl rfl 9 (by decide) rfl ww_231 rfl mD_TG_blur_47 ?_
        refine lv_iconst (v := nI 5) hx hb mD_TG_blur_50 (by decide) ?_
        refine lv_aload_n hx hb mD_TG_blur_51 rfl (lv_at hl 3 rfl) ?_
        refine t_get (C := cN_TG) (T := cF_TG) (N := 12) (ci := 7) hx hb htw wU_TG hown hK hP 0 (by decide) rfl rfl 0 (by decide) rfl ww_222 rfl mD_TG_blur_52 ?_
        refine gc_Vv (As := [.int (nI 0), .ref (ad 423), .int (nI 5), .ref (ad 1)]) (rest := []) hx hb hml hown htw hK hP hS 2 (k_Se_hide5 l D ct ad hI y (nI 0) (k := 423) tr_423) gZ0_ok (fun _ _ _ => trivial) (gA_mono hS.1) (by decide) rfl rfl ww_372 ww_219 ww_220 ww_25 wC_Se_hide mP_Se_hide (by decide) rfl hl.1 rfl (Nat.le_of_ble_eq_true rfl) mD_TG_blur_55 ⟨Nat.le_of_ble_eq_true rfl, Nat.le_of_ble_eq_true rfl⟩ (fun x8 H locs hp8 hP _ _ hS => ?_)
        obtain ⟨g1, e1, hg1⟩ := hp8
        obtain ⟨gz, gy, ey, hy⟩ := hinv
        have e3 : y.1 3 = x.1 3 := by rw [ey, va_up_ne _ _ (by omega), va_up_ne _ _ (by omega)]
        have hg1 : tp_sm 16 (tp_place (x.1 3) g1) := by rw [e3, tn_s0] at hg1; exact hg1
        refine lv_aload_n hx hb mD_TG_blur_58 rfl (lv_at hl 2 rfl) ?_
        refine lv_aload_n hx hb mD_TG_blur_59 rfl (lv_at hl 3 rfl) ?_
        refine t_get (C := cN_TG) (T := cF_TG) (N := 12) (ci := 7) hx hb htw wU_TG hown hK hP 0 (by decide) rfl rfl 9 (by decide) rfl ww_231 rfl mD_TG_blur_60 ?_
        refine gc_Vv (As := [.ref (ad 423)]) (rest := []) hx hb hml hown htw hK hP hS ((110 + 2 * u)) (k_Ce_addRow l D ct ad hI x8 (kc := 110 + 2 * u) (ko := 423) hkc tr_423 (by omega)) gZ0_ok (fun _ _ _ => trivial) (gA_mono hS.1) (tCe_lt (tCe_led (c := u) hu)) (tE_cell (tCe_led (c := u) hu)) rfl ww_466 ww_467 ww_468 ww_29 wC_Ce_addRow mP_Ce_addRow (by decide) rfl hl.1 rfl (Nat.le_of_ble_eq_true rfl) mD_TG_blur_63 ⟨Nat.le_of_ble_eq_true rfl, Nat.le_of_ble_eq_true rfl⟩ (fun x10 H locs hp10 hP _ _ hS => ?_)
        obtain ⟨g2, e2, hg2⟩ := hp10
        refine lv_iinc (k := 0) (v := nI (i + 1)) (lv' := [(5, .int (nI (i + 1))), (4, .int (nI (aB α u + 16 * n))), (3, .ref (ad ((110 + 2 * u)))), (0, .ref (ad 0)), (1, .int (nI u)), (2, .int (nI n))]) hx hb mD_TG_blur_66 hl rfl (by rw [lit1, nI_1]) (by decide) rfl (fun ls hl => ?_)
        refine lv_goto (tgt := 35) hx hb mD_TG_blur_69 rfl ?_
        exact ih (d35 - 1) (by omega) (i + 1) x10 _ _ _ (by omega) (lv_sub hl [0, 1, 2, 3, 4, 5] rfl) hP hS ⟨g1, g2, by rw [e2, e1, ey, tb_up2 (by omega), tb_up2 (by omega)], tp_near_add (bd := aB α u + 16 * i) (n := 16) hy hg1 (fun i hi => by rw [hg2 i hi, e1, va_up_ne _ _ (by omega), va_up_self, ey, va_up_self])⟩
  exact loop n 0 x _ _ _ (by omega) hl hP hS ⟨x.1 423, x.1 (110 + 2 * u + 1), by rw [va_up_same, va_up_same], hu0.2.2.2⟩

set_option maxHeartbeats 4000000 in
set_option maxRecDepth 100000 in
theorem x_TG_blur1 (l : Launch) (D : va_G) (ct : Nat → ClassId) (ad : Nat → Nat) (hI : gw_inj 424 ad) (x : tS) (hls : l.stackTraces = false) {s0 : State} {zt : Nat → Nat} (h0 : tO s0 zt) (α : tA) (hR : tR α x.1) (a b : Int32) (hh : ¬ aHas α a) : gX l mY_TG_blur mB_TG_blur 6 (some .int) (rX 7 104) D (tT ct) (tZ s0) 424 ad (tD ct ad) [.ref (ad 0), .int a, .int b] x tX_N (fun x' => tR α x'.1) := by
  refine gX_enter (by decide) (Nat.le_of_ble_eq_true rfl) ?_
  intro p e s m below meth c ls hx hb hr htw hown hlocks hml hl hP hK hZ hS hno
  have hA : ∀ k, k < 424 → gA 424 ad s.heap.size (ad k) := fun _ h => gA_in h
  have hl : lv_has ls 6 [(0, .ref (ad 0)), (1, .int a), (2, .int b)] := hl
  have hP0 := hP
  refine lv_aload_n hx hb mD_TG_blur_0 rfl (lv_at hl 0 rfl) ?_
  refine lv_iload_n hx hb mD_TG_blur_1 rfl (lv_at hl 1 rfl) ?_
  refine tx_call (As := [.int a]) (rest := []) hx hb hml hown htw hK hP hS 0 (x_TG_cellOf l D ct ad hI x hls h0 a (fun q => hh ((tR_has hR _).mp q))) (tZ_ok s0) (tZ_at hZ hS) (gA_mono hS.1) (by decide) rfl rfl ww_381 ww_383 ww_5 ww_23 wC_TG_cellOf mP_TG_cellOf (by decide) rfl hl.1 rfl (Nat.le_of_ble_eq_true rfl) mD_TG_blur_2 ⟨Nat.le_of_ble_eq_true rfl, Nat.le_of_ble_eq_true rfl⟩ (fun q ce x1 H locs hp hP _ _ hS hce hcv hcl => ?_)
  exact tx_out hno hlocks hP hS (hp ▸ hR) hce hcv hcl (by decide) (by decide)

set_option maxHeartbeats 4000000 in
set_option maxRecDepth 100000 in
theorem x_TG_blur2 (l : Launch) (D : va_G) (ct : Nat → ClassId) (ad : Nat → Nat) (hI : gw_inj 424 ad) (x : tS) (hls : l.stackTraces = false) {s0 : State} {zt : Nat → Nat} (h0 : tO s0 zt) (α : tA) (hR : tR α x.1) {u : Nat} (hu : u < 120) (hut : aT α u = true) (b : Int32) (hn : ¬ ∃ q, q ≤ 1000 ∧ b = nI q) : gX l mY_TG_blur mB_TG_blur 6 (some .int) (rX 7 104) D (tT ct) (tZ s0) 424 ad (tD ct ad) [.ref (ad 0), .int (nI u), .int b] x tX_A (fun x' => tR α x'.1) := by
  refine gX_enter (by decide) (Nat.le_of_ble_eq_true rfl) ?_
  intro p e s m below meth c ls hx hb hr htw hown hlocks hml hl hP hK hZ hS hno
  have hA : ∀ k, k < 424 → gA 424 ad s.heap.size (ad k) := fun _ h => gA_in h
  have hl : lv_has ls 6 [(0, .ref (ad 0)), (1, .int (nI u)), (2, .int b)] := hl
  have hP0 := hP
  refine lv_aload_n hx hb mD_TG_blur_0 rfl (lv_at hl 0 rfl) ?_
  refine lv_iload_n hx hb mD_TG_blur_1 rfl (lv_at hl 1 rfl) ?_
  refine gc_Vr (As := [.int (nI u)]) (rest := []) hx hb hml hown htw hK hP hS 0 (k_TG_cellOf l D ct ad hI x (q := u) hu (tR_th hR hu hut)) gZ0_ok (fun _ _ _ => trivial) (gA_mono hS.1) (by decide) rfl rfl ww_381 ww_383 ww_5 ww_23 wC_TG_cellOf mP_TG_cellOf (by decide) rfl hl.1 rfl (Nat.le_of_ble_eq_true rfl) mD_TG_blur_2 ⟨Nat.le_of_ble_eq_true rfl, Nat.le_of_ble_eq_true rfl⟩ (fun r2 x1 H locs hp1 hP _ _ hS => ?_)
  obtain ⟨ra, hq_⟩ := hp1
  subst ra
  rw [hq_] at hP
  refine lv_astore_n (lv' := [(3, .ref (ad ((110 + 2 * u)))), (0, .ref (ad 0)), (1, .int (nI u)), (2, .int b)]) hx hb mD_TG_blur_5 rfl hl (by decide) rfl (fun ls hl => ?_)
  refine lv_aload_n hx hb mD_TG_blur_6 rfl (lv_at hl 1 rfl) ?_
  refine lv_iload_n hx hb mD_TG_blur_7 rfl (lv_at hl 3 rfl) ?_
  refine lv_sipush (v := nI 1000) hx hb mD_TG_blur_8 (by decide) ?_
  refine tx_call (As := [.int b, .int (nI 1000)]) (rest := []) hx hb hml hown htw hK hP hS 0 (x_TG_checkRange l D ct ad hI x hls h0 b (N := 1000) (by decide) hn) (tZ_ok s0) (tZ_at hZ hS) (gA_mono hS.1) (by decide) rfl rfl ww_439 ww_441 ww_6 ww_23 wC_TG_checkRange mP_TG_checkRange (by decide) rfl hl.1 rfl (Nat.le_of_ble_eq_true rfl) mD_TG_blur_11 ⟨Nat.le_of_ble_eq_true rfl, Nat.le_of_ble_eq_true rfl⟩ (fun q ce x3 H locs hp hP _ _ hS hce hcv hcl => ?_)
  exact tx_out hno hlocks hP hS (hp ▸ hR) hce hcv hcl (by decide) (by decide)

set_option maxHeartbeats 4000000 in
set_option maxRecDepth 100000 in
theorem x_TG_blur3 (l : Launch) (D : va_G) (ct : Nat → ClassId) (ad : Nat → Nat) (hI : gw_inj 424 ad) (x : tS) (hls : l.stackTraces = false) {s0 : State} {zt : Nat → Nat} (h0 : tO s0 zt) (α : tA) (hR : tR α x.1) {u : Nat} (hu : u < 120) (hut : aT α u = true) {n : Nat} (hn : n ≤ 1000) (hbd : 1073741824 ≤ aB α u + 16 * n) : gX l mY_TG_blur mB_TG_blur 6 (some .int) (rX 7 104) D (tT ct) (tZ s0) 424 ad (tD ct ad) [.ref (ad 0), .int (nI u), .int (nI n)] x tX_S (fun x' => tR α x'.1) := by
  refine gX_enter (by decide) (Nat.le_of_ble_eq_true rfl) ?_
  intro p e s m below meth c ls hx hb hr htw hown hlocks hml hl hP hK hZ hS hno
  have hA : ∀ k, k < 424 → gA 424 ad s.heap.size (ad k) := fun _ h => gA_in h
  have hl : lv_has ls 6 [(0, .ref (ad 0)), (1, .int (nI u)), (2, .int (nI n))] := hl
  have hP0 := hP
  refine lv_aload_n hx hb mD_TG_blur_0 rfl (lv_at hl 0 rfl) ?_
  refine lv_iload_n hx hb mD_TG_blur_1 rfl (lv_at hl 1 rfl) ?_
  refine gc_Vr (As := [.int (nI u)]) (rest := []) hx hb hml hown htw hK hP hS 0 (k_TG_cellOf l D ct ad hI x (q := u) hu (tR_th hR hu hut)) gZ0_ok (fun _ _ _ => trivial) (gA_mono hS.1) (by decide) rfl rfl ww_381 ww_383 ww_5 ww_23 wC_TG_cellOf mP_TG_cellOf (by decide) rfl hl.1 rfl (Nat.le_of_ble_eq_true rfl) mD_TG_blur_2 ⟨Nat.le_of_ble_eq_true rfl, Nat.le_of_ble_eq_true rfl⟩ (fun r2 x1 H locs hp1 hP _ _ hS => ?_)
  obtain ⟨ra, hq_⟩ := hp1
  subst ra
  rw [hq_] at hP
  refine lv_astore_n (lv' := [(3, .ref (ad ((110 + 2 * u)))), (0, .ref (ad 0)), (1, .int (nI u)), (2, .int (nI n))]) hx hb mD_TG_blur_5 rfl hl (by decide) rfl (fun ls hl => ?_)
  have hu0 := (hR.2.1 u hu).2 hut
  have hkc := tCe_led hu
  refine lv_aload_n hx hb mD_TG_blur_6 rfl (lv_at hl 1 rfl) ?_
  refine lv_iload_n hx hb mD_TG_blur_7 rfl (lv_at hl 3 rfl) ?_
  refine lv_sipush (v := nI 1000) hx hb mD_TG_blur_8 (by decide) ?_
  refine gc_Vv (As := [.int (nI n), .int (nI 1000)]) (rest := []) hx hb hml hown htw hK hP hS 0 (k_TG_checkRange l D ct ad hI x (q := n) (N := 1000) hn (by decide)) gZ0_ok (fun _ _ _ => trivial) (gA_mono hS.1) (by decide) rfl rfl ww_439 ww_441 ww_6 ww_23 wC_TG_checkRange mP_TG_checkRange (by decide) rfl hl.1 rfl (Nat.le_of_ble_eq_true rfl) mD_TG_blur_11 ⟨Nat.le_of_ble_eq_true rfl, Nat.le_of_ble_eq_true rfl⟩ (fun x3 H locs hp3 hP _ _ hS => ?_)
  have hq_ := hp3
  rw [hq_] at hP
  refine lv_aload_n hx hb mD_TG_blur_14 rfl (lv_at hl 1 rfl) ?_
  refine lv_aload_n hx hb mD_TG_blur_15 rfl (lv_at hl 0 rfl) ?_
  refine t_get (C := cN_Ce) (T := cF_Ce) (N := 4) (ci := 0) hx hb htw wU_Ce hown hK hP ((110 + 2 * u)) (tCe_lt (tCe_led (c := u) hu)) (tE_cell (tCe_led (c := u) hu)) rfl 1 (by decide) rfl ww_125 rfl mD_TG_blur_16 ?_
  refine lv_i2l hx hb mD_TG_blur_19 rfl ?_
  refine lv_ldc2 hx hb hown (htw _ ww_459) mD_TG_blur_20 ?_
  refine lv_iload_n hx hb mD_TG_blur_23 rfl (lv_at hl 3 rfl) ?_
  refine lv_i2l hx hb mD_TG_blur_24 rfl ?_
  refine lv_lmul hx hb mD_TG_blur_25 ?_
  refine lv_ladd hx hb mD_TG_blur_26 ?_
  rw [tn_blur hu0.2.1 hu0.1 hn]
  refine tx_call (As := [.long (lN (aB α u + 16 * n))]) (rest := []) hx hb hml hown htw hK hP hS 0 (x_TG_checkedBound l D ct ad hI x hls h0 (q := aB α u + 16 * n) hbd (by have := hu0.1; omega)) (tZ_ok s0) (tZ_at hZ hS) (gA_mono hS.1) (by decide) rfl rfl ww_460 ww_462 ww_7 ww_23 wC_TG_checkedBound mP_TG_checkedBound (by decide) rfl hl.1 rfl (Nat.le_of_ble_eq_true rfl) mD_TG_blur_27 ⟨Nat.le_of_ble_eq_true rfl, Nat.le_of_ble_eq_true rfl⟩ (fun q ce x5 H locs hp hP _ _ hS hce hcv hcl => ?_)
  exact tx_out hno hlocks hP hS (hp ▸ hR) hce hcv hcl (by decide) (by decide)

set_option maxHeartbeats 4000000 in
set_option maxRecDepth 100000 in
theorem k_TG_pile (l : Launch) (D : va_G) (ct : Nat → ClassId) (ad : Nat → Nat) (hI : gw_inj 424 ad) (x : tS) (α : tA) (hR : tR α x.1) {u : Nat} (hu : u < 120) (hut : aT α u = true) {k : Nat} (hn : k ≤ 100) (hbd : aB α u * (8 * k + 1) < 1073741824) : gMi l mY_TG_pile mB_TG_pile 6 (some .int) (rF 2 42) D (tT ct) gZ0 424 ad (tD ct ad) [.ref (ad 0), .int (nI u), .int (nI k)] x (fun r x' => r = nI (aB α u * (8 * k + 1)) ∧ tR (aBound α u (aB α u * (8 * k + 1))) x'.1) := by
  refine gMi_enter (by decide) (Nat.le_of_ble_eq_true rfl) ?_
  intro p e s m below meth c ls hx hb hr htw hown hlocks hml hl hP hK hZ hS
  have hA : ∀ k, k < 424 → gA 424 ad s.heap.size (ad k) := fun _ h => gA_in h
  have hl : lv_has ls 6 [(0, .ref (ad 0)), (1, .int (nI u)), (2, .int (nI k))] := hl
  refine lv_aload_n hx hb mD_TG_pile_0 rfl (lv_at hl 0 rfl) ?_
  refine lv_iload_n hx hb mD_TG_pile_1 rfl (lv_at hl 1 rfl) ?_
  refine gc_Vr (As := [.int (nI u)]) (rest := []) hx hb hml hown htw hK hP hS 0 (k_TG_cellOf l D ct ad hI x (q := u) hu (tR_th hR hu hut)) gZ0_ok (fun _ _ _ => trivial) (gA_mono hS.1) (by decide) rfl rfl ww_381 ww_383 ww_5 ww_23 wC_TG_cellOf mP_TG_cellOf (by decide) rfl hl.1 rfl (Nat.le_of_ble_eq_true rfl) mD_TG_pile_2 ⟨Nat.le_of_ble_eq_true rfl, Nat.le_of_ble_eq_true rfl⟩ (fun r2 x1 H locs hp1 hP _ _ hS => ?_)
  obtain ⟨ra, hq_⟩ := hp1
  subst ra
  rw [hq_] at hP
  refine lv_astore_n (lv' := [(3, .ref (ad ((110 + 2 * u)))), (0, .ref (ad 0)), (1, .int (nI u)), (2, .int (nI k))]) hx hb mD_TG_pile_5 rfl hl (by decide) rfl (fun ls hl => ?_)
  have hu0 := (hR.2.1 u hu).2 hut
  have hkc := tCe_led hu
  refine lv_aload_n hx hb mD_TG_pile_6 rfl (lv_at hl 1 rfl) ?_
  refine lv_iload_n hx hb mD_TG_pile_7 rfl (lv_at hl 3 rfl) ?_
  refine lv_bipush (v := nI 100) hx hb mD_TG_pile_8 (by decide) ?_
  refine gc_Vv (As := [.int (nI k), .int (nI 100)]) (rest := []) hx hb hml hown htw hK hP hS 0 (k_TG_checkRange l D ct ad hI x (q := k) (N := 100) hn (by decide)) gZ0_ok (fun _ _ _ => trivial) (gA_mono hS.1) (by decide) rfl rfl ww_439 ww_441 ww_6 ww_23 wC_TG_checkRange mP_TG_checkRange (by decide) rfl hl.1 rfl (Nat.le_of_ble_eq_true rfl) mD_TG_pile_10 ⟨Nat.le_of_ble_eq_true rfl, Nat.le_of_ble_eq_true rfl⟩ (fun x3 H locs hp3 hP _ _ hS => ?_)
  have hq_ := hp3
  rw [hq_] at hP
  refine lv_bipush (v := nI 8) hx hb mD_TG_pile_13 (by decide) ?_
  refine lv_iload_n hx hb mD_TG_pile_15 rfl (lv_at hl 3 rfl) ?_
  refine lv_imul hx hb mD_TG_pile_16 ?_
  refine lv_iconst (v := nI 1) hx hb mD_TG_pile_17 (by decide) ?_
  refine lv_iadd hx hb mD_TG_pile_18 ?_
  rw [tn_8k]
  refine lv_istore (lv' := [(4, .int (nI (8 * k + 1))), (3, .ref (ad ((110 + 2 * u)))), (0, .ref (ad 0)), (1, .int (nI u)), (2, .int (nI k))]) hx hb mD_TG_pile_19 hl (by decide) rfl (fun ls hl => ?_)
  refine lv_aload_n hx hb mD_TG_pile_21 rfl (lv_at hl 2 rfl) ?_
  refine lv_aload_n hx hb mD_TG_pile_22 rfl (lv_at hl 1 rfl) ?_
  refine t_get (C := cN_Ce) (T := cF_Ce) (N := 4) (ci := 0) hx hb htw wU_Ce hown hK hP ((110 + 2 * u)) (tCe_lt (tCe_led (c := u) hu)) (tE_cell (tCe_led (c := u) hu)) rfl 1 (by decide) rfl ww_125 rfl mD_TG_pile_23 ?_
  refine lv_i2l hx hb mD_TG_pile_26 rfl ?_
  refine lv_iload hx hb mD_TG_pile_27 (lv_at hl 0 rfl) ?_
  refine lv_i2l hx hb mD_TG_pile_29 rfl ?_
  refine lv_lmul hx hb mD_TG_pile_30 ?_
  rw [tn_pile hu0.2.1 hu0.1 hn]
  refine gc_Vi (As := [.long (lN (aB α u * (8 * k + 1)))]) (rest := []) hx hb hml hown htw hK hP hS 0 (k_TG_checkedBound l D ct ad hI x (q := aB α u * (8 * k + 1)) hbd) gZ0_ok (fun _ _ _ => trivial) (gA_mono hS.1) (by decide) rfl rfl ww_460 ww_462 ww_7 ww_23 wC_TG_checkedBound mP_TG_checkedBound (by decide) rfl hl.1 rfl (Nat.le_of_ble_eq_true rfl) mD_TG_pile_31 ⟨Nat.le_of_ble_eq_true rfl, Nat.le_of_ble_eq_true rfl⟩ (fun r6 x5 H locs hp5 hP _ _ hS => ?_)
  obtain ⟨hq_, rfl⟩ := hp5
  rw [hq_] at hP
  refine lv_istore (lv' := [(5, .int (nI (aB α u * (8 * k + 1)))), (4, .int (nI (8 * k + 1))), (3, .ref (ad ((110 + 2 * u)))), (0, .ref (ad 0)), (1, .int (nI u)), (2, .int (nI k))]) hx hb mD_TG_pile_34 hl (by decide) rfl (fun ls hl => ?_)
  refine lv_aload_n hx hb mD_TG_pile_36 rfl (lv_at hl 2 rfl) ?_
  refine lv_iload hx hb mD_TG_pile_37 (lv_at hl 1 rfl) ?_
  refine gc_Vv (As := [.int (nI (8 * k + 1))]) (rest := []) hx hb hml hown htw hK hP hS ((110 + 2 * u)) (k_Ce_multiply l D ct ad hI x (kc := 110 + 2 * u) hkc (nI (8 * k + 1))) gZ0_ok (fun _ _ _ => trivial) (gA_mono hS.1) (tCe_lt (tCe_led (c := u) hu)) (tE_cell (tCe_led (c := u) hu)) rfl ww_477 ww_428 ww_429 ww_29 wC_Ce_multiply mP_Ce_multiply (by decide) rfl hl.1 rfl (Nat.le_of_ble_eq_true rfl) mD_TG_pile_39 ⟨Nat.le_of_ble_eq_true rfl, Nat.le_of_ble_eq_true rfl⟩ (fun x7 H locs hp7 hP _ _ hS => ?_)
  obtain ⟨g, ey, hy⟩ := hp7
  refine lv_aload_n hx hb mD_TG_pile_42 rfl (lv_at hl 2 rfl) ?_
  refine lv_iload hx hb mD_TG_pile_43 (lv_at hl 0 rfl) ?_
  refine t_put (C := cN_Ce) (T := cF_Ce) (N := 4) (ci := 0) hx hb htw wU_Ce cT_Ce cO_Ce cM_Ce hown hK hI hA hP hS ((110 + 2 * u)) (tCe_lt (tCe_led (c := u) hu)) (tE_cell (tCe_led (c := u) hu)) rfl 1 (by decide) rfl ww_125 rfl rfl rfl (Nat.le_of_ble_eq_true rfl) (by rw [tE_cell (tCe_led (c := u) hu)]; rfl) mD_TG_pile_45 (fun H locs hP hS => ?_)
  obtain ⟨x9, hx9⟩ : ∃ z_, z_ = tU x7 ((110 + 2 * u)) (upd (x7.1 ((110 + 2 * u))) 1 (nI (aB α u * (8 * k + 1)))) := ⟨_, rfl⟩
  rw [← hx9] at hP
  refine lv_iload hx hb mD_TG_pile_48 (lv_at hl 0 rfl) ?_
  exact gw_iret hx hb hr hlocks hP hS (have hne : (110 + 2 * u) + 1 ≠ 110 + 2 * u := Nat.succ_ne_self _; ⟨rfl, tR_bound hR hu hut (fun k a1 a2 a3 => by rw [hx9, tU_n a1, ey, va_up_ne _ _ a2]) (by rw [hx9, tU_1, pk_un (by decide), ey, va_up_ne _ _ hne.symm]) ⟨hbd, by rw [hx9, tU_1, pk_us], by rw [hx9, tU_1, pk_un (by decide), ey, va_up_ne _ _ hne.symm]; exact hu0.2.2.1, by rw [hx9, tU_n hne, tU_n (by omega), ey, va_up_self, va_up_ne _ _ (by omega)]; exact tp_near_pile hu0.2.2.2 (fun i hi => by rw [hy i hi, tn_of])⟩⟩) mD_TG_pile_50 (Nat.zero_le _) (Nat.zero_le _)

set_option maxHeartbeats 4000000 in
set_option maxRecDepth 100000 in
theorem x_TG_pile1 (l : Launch) (D : va_G) (ct : Nat → ClassId) (ad : Nat → Nat) (hI : gw_inj 424 ad) (x : tS) (hls : l.stackTraces = false) {s0 : State} {zt : Nat → Nat} (h0 : tO s0 zt) (α : tA) (hR : tR α x.1) (a b : Int32) (hh : ¬ aHas α a) : gX l mY_TG_pile mB_TG_pile 6 (some .int) (rX 7 104) D (tT ct) (tZ s0) 424 ad (tD ct ad) [.ref (ad 0), .int a, .int b] x tX_N (fun x' => tR α x'.1) := by
  refine gX_enter (by decide) (Nat.le_of_ble_eq_true rfl) ?_
  intro p e s m below meth c ls hx hb hr htw hown hlocks hml hl hP hK hZ hS hno
  have hA : ∀ k, k < 424 → gA 424 ad s.heap.size (ad k) := fun _ h => gA_in h
  have hl : lv_has ls 6 [(0, .ref (ad 0)), (1, .int a), (2, .int b)] := hl
  have hP0 := hP
  refine lv_aload_n hx hb mD_TG_pile_0 rfl (lv_at hl 0 rfl) ?_
  refine lv_iload_n hx hb mD_TG_pile_1 rfl (lv_at hl 1 rfl) ?_
  refine tx_call (As := [.int a]) (rest := []) hx hb hml hown htw hK hP hS 0 (x_TG_cellOf l D ct ad hI x hls h0 a (fun q => hh ((tR_has hR _).mp q))) (tZ_ok s0) (tZ_at hZ hS) (gA_mono hS.1) (by decide) rfl rfl ww_381 ww_383 ww_5 ww_23 wC_TG_cellOf mP_TG_cellOf (by decide) rfl hl.1 rfl (Nat.le_of_ble_eq_true rfl) mD_TG_pile_2 ⟨Nat.le_of_ble_eq_true rfl, Nat.le_of_ble_eq_true rfl⟩ (fun q ce x1 H locs hp hP _ _ hS hce hcv hcl => ?_)
  exact tx_out hno hlocks hP hS (hp ▸ hR) hce hcv hcl (by decide) (by decide)

set_option maxHeartbeats 4000000 in
set_option maxRecDepth 100000 in
theorem x_TG_pile2 (l : Launch) (D : va_G) (ct : Nat → ClassId) (ad : Nat → Nat) (hI : gw_inj 424 ad) (x : tS) (hls : l.stackTraces = false) {s0 : State} {zt : Nat → Nat} (h0 : tO s0 zt) (α : tA) (hR : tR α x.1) {u : Nat} (hu : u < 120) (hut : aT α u = true) (b : Int32) (hn : ¬ ∃ q, q ≤ 100 ∧ b = nI q) : gX l mY_TG_pile mB_TG_pile 6 (some .int) (rX 7 104) D (tT ct) (tZ s0) 424 ad (tD ct ad) [.ref (ad 0), .int (nI u), .int b] x tX_A (fun x' => tR α x'.1) := by
  refine gX_enter (by decide) (Nat.le_of_ble_eq_true rfl) ?_
  intro p e s m below meth c ls hx hb hr htw hown hlocks hml hl hP hK hZ hS hno
  have hA : ∀ k, k < 424 → gA 424 ad s.heap.size (ad k) := fun _ h => gA_in h
  have hl : lv_has ls 6 [(0, .ref (ad 0)), (1, .int (nI u)), (2, .int b)] := hl
  have hP0 := hP
  refine lv_aload_n hx hb mD_TG_pile_0 rfl (lv_at hl 0 rfl) ?_
  refine lv_iload_n hx hb mD_TG_pile_1 rfl (lv_at hl 1 rfl) ?_
  refine gc_Vr (As := [.int (nI u)]) (rest := []) hx hb hml hown htw hK hP hS 0 (k_TG_cellOf l D ct ad hI x (q := u) hu (tR_th hR hu hut)) gZ0_ok (fun _ _ _ => trivial) (gA_mono hS.1) (by decide) rfl rfl ww_381 ww_383 ww_5 ww_23 wC_TG_cellOf mP_TG_cellOf (by decide) rfl hl.1 rfl (Nat.le_of_ble_eq_true rfl) mD_TG_pile_2 ⟨Nat.le_of_ble_eq_true rfl, Nat.le_of_ble_eq_true rfl⟩ (fun r2 x1 H locs hp1 hP _ _ hS => ?_)
  obtain ⟨ra, hq_⟩ := hp1
  subst ra
  rw [hq_] at hP
  refine lv_astore_n (lv' := [(3, .ref (ad ((110 + 2 * u)))), (0, .ref (ad 0)), (1, .int (nI u)), (2, .int b)]) hx hb mD_TG_pile_5 rfl hl (by decide) rfl (fun ls hl => ?_)
  refine lv_aload_n hx hb mD_TG_pile_6 rfl (lv_at hl 1 rfl) ?_
  refine lv_iload_n hx hb mD_TG_pile_7 rfl (lv_at hl 3 rfl) ?_
  refine lv_bipush (v := nI 100) hx hb mD_TG_pile_8 (by decide) ?_
  refine tx_call (As := [.int b, .int (nI 100)]) (rest := []) hx hb hml hown htw hK hP hS 0 (x_TG_checkRange l D ct ad hI x hls h0 b (N := 100) (by decide) hn) (tZ_ok s0) (tZ_at hZ hS) (gA_mono hS.1) (by decide) rfl rfl ww_439 ww_441 ww_6 ww_23 wC_TG_checkRange mP_TG_checkRange (by decide) rfl hl.1 rfl (Nat.le_of_ble_eq_true rfl) mD_TG_pile_10 ⟨Nat.le_of_ble_eq_true rfl, Nat.le_of_ble_eq_true rfl⟩ (fun q ce x3 H locs hp hP _ _ hS hce hcv hcl => ?_)
  exact tx_out hno hlocks hP hS (hp ▸ hR) hce hcv hcl (by decide) (by decide)

set_option maxHeartbeats 4000000 in
set_option maxRecDepth 100000 in
theorem x_TG_pile3 (l : Launch) (D : va_G) (ct : Nat → ClassId) (ad : Nat → Nat) (hI : gw_inj 424 ad) (x : tS) (hls : l.stackTraces = false) {s0 : State} {zt : Nat → Nat} (h0 : tO s0 zt) (α : tA) (hR : tR α x.1) {u : Nat} (hu : u < 120) (hut : aT α u = true) {k : Nat} (hn : k ≤ 100) (hbd : 1073741824 ≤ aB α u * (8 * k + 1)) : gX l mY_TG_pile mB_TG_pile 6 (some .int) (rX 7 104) D (tT ct) (tZ s0) 424 ad (tD ct ad) [.ref (ad 0), .int (nI u), .int (nI k)] x tX_S (fun x' => tR α x'.1) := by
  refine gX_enter (by decide) (Nat.le_of_ble_eq_true rfl) ?_
  intro p e s m below meth c ls hx hb hr htw hown hlocks hml hl hP hK hZ hS hno
  have hA : ∀ k, k < 424 → gA 424 ad s.heap.size (ad k) := fun _ h => gA_in h
  have hl : lv_has ls 6 [(0, .ref (ad 0)), (1, .int (nI u)), (2, .int (nI k))] := hl
  have hP0 := hP
  refine lv_aload_n hx hb mD_TG_pile_0 rfl (lv_at hl 0 rfl) ?_
  refine lv_iload_n hx hb mD_TG_pile_1 rfl (lv_at hl 1 rfl) ?_
  refine gc_Vr (As := [.int (nI u)]) (rest := []) hx hb hml hown htw hK hP hS 0 (k_TG_cellOf l D ct ad hI x (q := u) hu (tR_th hR hu hut)) gZ0_ok (fun _ _ _ => trivial) (gA_mono hS.1) (by decide) rfl rfl ww_381 ww_383 ww_5 ww_23 wC_TG_cellOf mP_TG_cellOf (by decide) rfl hl.1 rfl (Nat.le_of_ble_eq_true rfl) mD_TG_pile_2 ⟨Nat.le_of_ble_eq_true rfl, Nat.le_of_ble_eq_true rfl⟩ (fun r2 x1 H locs hp1 hP _ _ hS => ?_)
  obtain ⟨ra, hq_⟩ := hp1
  subst ra
  rw [hq_] at hP
  refine lv_astore_n (lv' := [(3, .ref (ad ((110 + 2 * u)))), (0, .ref (ad 0)), (1, .int (nI u)), (2, .int (nI k))]) hx hb mD_TG_pile_5 rfl hl (by decide) rfl (fun ls hl => ?_)
  have hu0 := (hR.2.1 u hu).2 hut
  have hkc := tCe_led hu
  refine lv_aload_n hx hb mD_TG_pile_6 rfl (lv_at hl 1 rfl) ?_
  refine lv_iload_n hx hb mD_TG_pile_7 rfl (lv_at hl 3 rfl) ?_
  refine lv_bipush (v := nI 100) hx hb mD_TG_pile_8 (by decide) ?_
  refine gc_Vv (As := [.int (nI k), .int (nI 100)]) (rest := []) hx hb hml hown htw hK hP hS 0 (k_TG_checkRange l D ct ad hI x (q := k) (N := 100) hn (by decide)) gZ0_ok (fun _ _ _ => trivial) (gA_mono hS.1) (by decide) rfl rfl ww_439 ww_441 ww_6 ww_23 wC_TG_checkRange mP_TG_checkRange (by decide) rfl hl.1 rfl (Nat.le_of_ble_eq_true rfl) mD_TG_pile_10 ⟨Nat.le_of_ble_eq_true rfl, Nat.le_of_ble_eq_true rfl⟩ (fun x3 H locs hp3 hP _ _ hS => ?_)
  have hq_ := hp3
  rw [hq_] at hP
  refine lv_bipush (v := nI 8) hx hb mD_TG_pile_13 (by decide) ?_
  refine lv_iload_n hx hb mD_TG_pile_15 rfl (lv_at hl 3 rfl) ?_
  refine lv_imul hx hb mD_TG_pile_16 ?_
  refine lv_iconst (v := nI 1) hx hb mD_TG_pile_17 (by decide) ?_
  refine lv_iadd hx hb mD_TG_pile_18 ?_
  rw [tn_8k]
  refine lv_istore (lv' := [(4, .int (nI (8 * k + 1))), (3, .ref (ad ((110 + 2 * u)))), (0, .ref (ad 0)), (1, .int (nI u)), (2, .int (nI k))]) hx hb mD_TG_pile_19 hl (by decide) rfl (fun ls hl => ?_)
  refine lv_aload_n hx hb mD_TG_pile_21 rfl (lv_at hl 2 rfl) ?_
  refine lv_aload_n hx hb mD_TG_pile_22 rfl (lv_at hl 1 rfl) ?_
  refine t_get (C := cN_Ce) (T := cF_Ce) (N := 4) (ci := 0) hx hb htw wU_Ce hown hK hP ((110 + 2 * u)) (tCe_lt (tCe_led (c := u) hu)) (tE_cell (tCe_led (c := u) hu)) rfl 1 (by decide) rfl ww_125 rfl mD_TG_pile_23 ?_
  refine lv_i2l hx hb mD_TG_pile_26 rfl ?_
  refine lv_iload hx hb mD_TG_pile_27 (lv_at hl 0 rfl) ?_
  refine lv_i2l hx hb mD_TG_pile_29 rfl ?_
  refine lv_lmul hx hb mD_TG_pile_30 ?_
  rw [tn_pile hu0.2.1 hu0.1 hn]
  refine tx_call (As := [.long (lN (aB α u * (8 * k + 1)))]) (rest := []) hx hb hml hown htw hK hP hS 0 (x_TG_checkedBound l D ct ad hI x hls h0 (q := aB α u * (8 * k + 1)) hbd (tn_plt hu0.1 hn)) (tZ_ok s0) (tZ_at hZ hS) (gA_mono hS.1) (by decide) rfl rfl ww_460 ww_462 ww_7 ww_23 wC_TG_checkedBound mP_TG_checkedBound (by decide) rfl hl.1 rfl (Nat.le_of_ble_eq_true rfl) mD_TG_pile_31 ⟨Nat.le_of_ble_eq_true rfl, Nat.le_of_ble_eq_true rfl⟩ (fun q ce x5 H locs hp hP _ _ hS hce hcv hcl => ?_)
  exact tx_out hno hlocks hP hS (hp ▸ hR) hce hcv hcl (by decide) (by decide)

set_option maxHeartbeats 4000000 in
set_option maxRecDepth 100000 in
theorem k_TG_line (l : Launch) (D : va_G) (ct : Nat → ClassId) (ad : Nat → Nat) (hI : gw_inj 424 ad) (x : tS) (α : tA) (hR : tR α x.1) {gt p1 p2 : Nat} (hgt : gt < 8) (ha1 : p1 < 8 + aZ α) (ha2 : p2 < 8 + aZ α) (hz : aZ α < 24) : gMi l mY_TG_line mB_TG_line 4 (some .int) (rF 1 23) D (tT ct) gZ0 424 ad (tD ct ad) [.ref (ad 0), .int (nI gt), .int (nI p1), .int (nI p2)] x (fun r x' => r = nI (8 + aZ α) ∧ tR (aLine α (gt, p1, p2)) x'.1) := by
  refine gMi_enter (by decide) (Nat.le_of_ble_eq_true rfl) ?_
  intro p e s m below meth c ls hx hb hr htw hown hlocks hml hl hP hK hZ hS
  have hA : ∀ k, k < 424 → gA 424 ad s.heap.size (ad k) := fun _ h => gA_in h
  have hl : lv_has ls 4 [(0, .ref (ad 0)), (1, .int (nI gt)), (2, .int (nI p1)), (3, .int (nI p2))] := hl
  refine lv_aload_n hx hb mD_TG_line_0 rfl (lv_at hl 0 rfl) ?_
  refine lv_iload_n hx hb mD_TG_line_1 rfl (lv_at hl 1 rfl) ?_
  refine gc_Vv (As := [.int (nI gt)]) (rest := []) hx hb hml hown htw hK hP hS 0 (k_TG_checkKind l D ct ad hI x (q := gt) hgt) gZ0_ok (fun _ _ _ => trivial) (gA_mono hS.1) (by decide) rfl rfl ww_485 ww_487 ww_8 ww_23 wC_TG_checkKind mP_TG_checkKind (by decide) rfl hl.1 rfl (Nat.le_of_ble_eq_true rfl) mD_TG_line_2 ⟨Nat.le_of_ble_eq_true rfl, Nat.le_of_ble_eq_true rfl⟩ (fun x1 H locs hp1 hP _ _ hS => ?_)
  have hq_ := hp1
  rw [hq_] at hP
  refine lv_aload_n hx hb mD_TG_line_5 rfl (lv_at hl 0 rfl) ?_
  refine t_get (C := cN_TG) (T := cF_TG) (N := 12) (ci := 7) hx hb htw wU_TG hown hK hP 0 (by decide) rfl rfl 5 (by decide) rfl ww_227 rfl mD_TG_line_6 ?_
  refine lv_iload_n hx hb mD_TG_line_9 rfl (lv_at hl 2 rfl) ?_
  refine gc_Vi (As := [.int (nI p1)]) (rest := []) hx hb hml hown htw hK hP hS 350 (k_Ci_isAhead l D ct ad hI x (nI p1) hR.2.2.2.1.2.1 hR.2.2.2.1.1) gZ0_ok (fun _ _ _ => trivial) (gA_mono hS.1) (by decide) rfl rfl ww_598 ww_599 ww_600 ww_30 wC_Ci_isAhead mP_Ci_isAhead (by decide) rfl hl.1 rfl (Nat.le_of_ble_eq_true rfl) mD_TG_line_10 ⟨Nat.le_of_ble_eq_true rfl, Nat.le_of_ble_eq_true rfl⟩ (fun r4 x3 H locs hp3 hP _ _ hS => ?_)
  obtain ⟨hq_, r1⟩ := hp3
  rw [hq_] at hP
  refine lv_if_eq (tgt := 27) hx hb mD_TG_line_13 rfl (fun hc => ?_) (fun hc => ?_)
  · skip
    exfalso; rcases r1 with ⟨e, _⟩ | ⟨_, h⟩; exact absurd (e.symm.trans hc) (by decide); exact h ⟨p1, ha1, rfl⟩
  · skip
    refine lv_aload_n hx hb mD_TG_line_16 rfl (lv_at hl 0 rfl) ?_
    refine t_get (C := cN_TG) (T := cF_TG) (N := 12) (ci := 7) hx hb htw wU_TG hown hK hP 0 (by decide) rfl rfl 5 (by decide) rfl ww_227 rfl mD_TG_line_17 ?_
    refine lv_iload_n hx hb mD_TG_line_20 rfl (lv_at hl 3 rfl) ?_
    refine gc_Vi (As := [.int (nI p2)]) (rest := []) hx hb hml hown htw hK hP hS 350 (k_Ci_isAhead l D ct ad hI x (nI p2) hR.2.2.2.1.2.1 hR.2.2.2.1.1) gZ0_ok (fun _ _ _ => trivial) (gA_mono hS.1) (by decide) rfl rfl ww_598 ww_599 ww_600 ww_30 wC_Ci_isAhead mP_Ci_isAhead (by decide) rfl hl.1 rfl (Nat.le_of_ble_eq_true rfl) mD_TG_line_21 ⟨Nat.le_of_ble_eq_true rfl, Nat.le_of_ble_eq_true rfl⟩ (fun r6 x5 H locs hp5 hP _ _ hS => ?_)
    obtain ⟨hq_, r2⟩ := hp5
    rw [hq_] at hP
    refine lv_if_ne (tgt := 37) hx hb mD_TG_line_24 rfl (fun hc => ?_) (fun hc => ?_)
    · skip
      refine lv_aload_n hx hb mD_TG_line_37 rfl (lv_at hl 0 rfl) ?_
      refine t_get (C := cN_TG) (T := cF_TG) (N := 12) (ci := 7) hx hb htw wU_TG hown hK hP 0 (by decide) rfl rfl 5 (by decide) rfl ww_227 rfl mD_TG_line_38 ?_
      refine t_get (C := cN_Ci) (T := cF_Ci) (N := 4) (ci := 1) hx hb htw wU_Ci hown hK hP 350 (by decide) rfl rfl 3 (by decide) rfl ww_161 rfl mD_TG_line_41 ?_
      refine lv_bipush (v := nI 24) hx hb mD_TG_line_44 (by decide) ?_
      refine lv_icmp_ne (tgt := 59) hx hb mD_TG_line_46 rfl (fun hc => ?_) (fun hc => ?_)
      · skip
        refine lv_aload_n hx hb mD_TG_line_59 rfl (lv_at hl 0 rfl) ?_
        refine t_get (C := cN_TG) (T := cF_TG) (N := 12) (ci := 7) hx hb htw wU_TG hown hK hP 0 (by decide) rfl rfl 5 (by decide) rfl ww_227 rfl mD_TG_line_60 ?_
        refine lv_iload_n hx hb mD_TG_line_63 rfl (lv_at hl 1 rfl) ?_
        refine lv_iload_n hx hb mD_TG_line_64 rfl (lv_at hl 2 rfl) ?_
        refine lv_iload_n hx hb mD_TG_line_65 rfl (lv_at hl 3 rfl) ?_
        refine gc_Vi (As := [.int (nI gt), .int (nI p1), .int (nI p2)]) (rest := []) hx hb hml hown htw hK hP hS 350 (k_Ci_add l D ct ad hI x (nI gt) (nI p1) (nI p2) hR.2.2.2.1.2.1 hz) gZ0_ok (fun _ _ _ => trivial) (gA_mono hS.1) (by decide) rfl rfl ww_604 ww_605 ww_606 ww_30 wC_Ci_add mP_Ci_add (by decide) rfl hl.1 rfl (Nat.le_of_ble_eq_true rfl) mD_TG_line_66 ⟨Nat.le_of_ble_eq_true rfl, Nat.le_of_ble_eq_true rfl⟩ (fun r8 x7 H locs hp7 hP _ _ hS => ?_)
        obtain ⟨rfl, e1⟩ := hp7
        exact gw_iret hx hb hr hlocks hP hS (⟨rfl, tR_line (ln := (gt, p1, p2)) hR hz hgt ha1 ha2 e1⟩) mD_TG_line_69 (Nat.zero_le _) (Nat.zero_le _)
      · skip
        exfalso; rw [hR.2.2.2.1.2.1] at hc; have := (nI_eq (by omega) (by omega)).mp hc; omega
    · skip
      exfalso; rcases r2 with ⟨e, _⟩ | ⟨_, h⟩; exact absurd (e.symm.trans hc) (by decide); exact h ⟨p2, ha2, rfl⟩

set_option maxHeartbeats 4000000 in
set_option maxRecDepth 100000 in
theorem x_TG_line1 (l : Launch) (D : va_G) (ct : Nat → ClassId) (ad : Nat → Nat) (hI : gw_inj 424 ad) (x : tS) (hls : l.stackTraces = false) {s0 : State} {zt : Nat → Nat} (h0 : tO s0 zt) (α : tA) (hR : tR α x.1) (a b c_ : Int32) (hh : ¬ ∃ q, q < 8 ∧ a = nI q) : gX l mY_TG_line mB_TG_line 4 (some .int) (rX 7 103) D (tT ct) (tZ s0) 424 ad (tD ct ad) [.ref (ad 0), .int a, .int b, .int c_] x tX_N (fun x' => tR α x'.1) := by
  refine gX_enter (by decide) (Nat.le_of_ble_eq_true rfl) ?_
  intro p e s m below meth c ls hx hb hr htw hown hlocks hml hl hP hK hZ hS hno
  have hA : ∀ k, k < 424 → gA 424 ad s.heap.size (ad k) := fun _ h => gA_in h
  have hl : lv_has ls 4 [(0, .ref (ad 0)), (1, .int a), (2, .int b), (3, .int c_)] := hl
  have hP0 := hP
  refine lv_aload_n hx hb mD_TG_line_0 rfl (lv_at hl 0 rfl) ?_
  refine lv_iload_n hx hb mD_TG_line_1 rfl (lv_at hl 1 rfl) ?_
  refine tx_call (As := [.int a]) (rest := []) hx hb hml hown htw hK hP hS 0 (x_TG_checkKind l D ct ad hI x hls h0 a hh) (tZ_ok s0) (tZ_at hZ hS) (gA_mono hS.1) (by decide) rfl rfl ww_485 ww_487 ww_8 ww_23 wC_TG_checkKind mP_TG_checkKind (by decide) rfl hl.1 rfl (Nat.le_of_ble_eq_true rfl) mD_TG_line_2 ⟨Nat.le_of_ble_eq_true rfl, Nat.le_of_ble_eq_true rfl⟩ (fun q ce x1 H locs hp hP _ _ hS hce hcv hcl => ?_)
  exact tx_out hno hlocks hP hS (hp ▸ hR) hce hcv hcl (by decide) (by decide)

set_option maxHeartbeats 4000000 in
set_option maxRecDepth 100000 in
theorem x_TG_line2 (l : Launch) (D : va_G) (ct : Nat → ClassId) (ad : Nat → Nat) (hI : gw_inj 424 ad) (x : tS) (hls : l.stackTraces = false) {s0 : State} {zt : Nat → Nat} (h0 : tO s0 zt) (α : tA) (hR : tR α x.1) {gt : Nat} (hgt : gt < 8) (b c_ : Int32) (hh : ¬ ∃ q, q < 8 + aZ α ∧ b = nI q) : gX l mY_TG_line mB_TG_line 4 (some .int) (rX 7 103) D (tT ct) (tZ s0) 424 ad (tD ct ad) [.ref (ad 0), .int (nI gt), .int b, .int c_] x tX_N (fun x' => tR α x'.1) := by
  refine gX_enter (by decide) (Nat.le_of_ble_eq_true rfl) ?_
  intro p e s m below meth c ls hx hb hr htw hown hlocks hml hl hP hK hZ hS hno
  have hA : ∀ k, k < 424 → gA 424 ad s.heap.size (ad k) := fun _ h => gA_in h
  have hl : lv_has ls 4 [(0, .ref (ad 0)), (1, .int (nI gt)), (2, .int b), (3, .int c_)] := hl
  have hP0 := hP
  refine lv_aload_n hx hb mD_TG_line_0 rfl (lv_at hl 0 rfl) ?_
  refine lv_iload_n hx hb mD_TG_line_1 rfl (lv_at hl 1 rfl) ?_
  refine gc_Vv (As := [.int (nI gt)]) (rest := []) hx hb hml hown htw hK hP hS 0 (k_TG_checkKind l D ct ad hI x (q := gt) hgt) gZ0_ok (fun _ _ _ => trivial) (gA_mono hS.1) (by decide) rfl rfl ww_485 ww_487 ww_8 ww_23 wC_TG_checkKind mP_TG_checkKind (by decide) rfl hl.1 rfl (Nat.le_of_ble_eq_true rfl) mD_TG_line_2 ⟨Nat.le_of_ble_eq_true rfl, Nat.le_of_ble_eq_true rfl⟩ (fun x1 H locs hp1 hP _ _ hS => ?_)
  have hq_ := hp1
  rw [hq_] at hP
  refine lv_aload_n hx hb mD_TG_line_5 rfl (lv_at hl 0 rfl) ?_
  refine t_get (C := cN_TG) (T := cF_TG) (N := 12) (ci := 7) hx hb htw wU_TG hown hK hP 0 (by decide) rfl rfl 5 (by decide) rfl ww_227 rfl mD_TG_line_6 ?_
  refine lv_iload_n hx hb mD_TG_line_9 rfl (lv_at hl 2 rfl) ?_
  refine gc_Vi (As := [.int b]) (rest := []) hx hb hml hown htw hK hP hS 350 (k_Ci_isAhead l D ct ad hI x b hR.2.2.2.1.2.1 hR.2.2.2.1.1) gZ0_ok (fun _ _ _ => trivial) (gA_mono hS.1) (by decide) rfl rfl ww_598 ww_599 ww_600 ww_30 wC_Ci_isAhead mP_Ci_isAhead (by decide) rfl hl.1 rfl (Nat.le_of_ble_eq_true rfl) mD_TG_line_10 ⟨Nat.le_of_ble_eq_true rfl, Nat.le_of_ble_eq_true rfl⟩ (fun r4 x3 H locs hp3 hP _ _ hS => ?_)
  obtain ⟨hq_, r1⟩ := hp3
  rw [hq_] at hP
  refine lv_if_eq (tgt := 27) hx hb mD_TG_line_13 rfl (fun hc => ?_) (fun hc => ?_)
  · skip
    obtain ⟨sa, hsa⟩ := tO_str h0 hZ 7 rfl
    exact tx_thN hx hb (hl.1.trans hml.symm) hown hls hno hlocks h0 hZ hsa hP0 hP hS (hR) (by decide) (by decide) (by decide) (by decide) (by decide) (by decide) mD_TG_line_27 mD_TG_line_30 mD_TG_line_31 mD_TG_line_33 mD_TG_line_36
  · skip
    exfalso; rcases r1 with ⟨_, h⟩ | ⟨e, _⟩; exact hh h; exact hc e

set_option maxHeartbeats 4000000 in
set_option maxRecDepth 100000 in
theorem x_TG_line3 (l : Launch) (D : va_G) (ct : Nat → ClassId) (ad : Nat → Nat) (hI : gw_inj 424 ad) (x : tS) (hls : l.stackTraces = false) {s0 : State} {zt : Nat → Nat} (h0 : tO s0 zt) (α : tA) (hR : tR α x.1) {gt p1 : Nat} (hgt : gt < 8) (ha1 : p1 < 8 + aZ α) (c_ : Int32) (hh : ¬ ∃ q, q < 8 + aZ α ∧ c_ = nI q) : gX l mY_TG_line mB_TG_line 4 (some .int) (rX 7 103) D (tT ct) (tZ s0) 424 ad (tD ct ad) [.ref (ad 0), .int (nI gt), .int (nI p1), .int c_] x tX_N (fun x' => tR α x'.1) := by
  refine gX_enter (by decide) (Nat.le_of_ble_eq_true rfl) ?_
  intro p e s m below meth c ls hx hb hr htw hown hlocks hml hl hP hK hZ hS hno
  have hA : ∀ k, k < 424 → gA 424 ad s.heap.size (ad k) := fun _ h => gA_in h
  have hl : lv_has ls 4 [(0, .ref (ad 0)), (1, .int (nI gt)), (2, .int (nI p1)), (3, .int c_)] := hl
  have hP0 := hP
  refine lv_aload_n hx hb mD_TG_line_0 rfl (lv_at hl 0 rfl) ?_
  refine lv_iload_n hx hb mD_TG_line_1 rfl (lv_at hl 1 rfl) ?_
  refine gc_Vv (As := [.int (nI gt)]) (rest := []) hx hb hml hown htw hK hP hS 0 (k_TG_checkKind l D ct ad hI x (q := gt) hgt) gZ0_ok (fun _ _ _ => trivial) (gA_mono hS.1) (by decide) rfl rfl ww_485 ww_487 ww_8 ww_23 wC_TG_checkKind mP_TG_checkKind (by decide) rfl hl.1 rfl (Nat.le_of_ble_eq_true rfl) mD_TG_line_2 ⟨Nat.le_of_ble_eq_true rfl, Nat.le_of_ble_eq_true rfl⟩ (fun x1 H locs hp1 hP _ _ hS => ?_)
  have hq_ := hp1
  rw [hq_] at hP
  refine lv_aload_n hx hb mD_TG_line_5 rfl (lv_at hl 0 rfl) ?_
  refine t_get (C := cN_TG) (T := cF_TG) (N := 12) (ci := 7) hx hb htw wU_TG hown hK hP 0 (by decide) rfl rfl 5 (by decide) rfl ww_227 rfl mD_TG_line_6 ?_
  refine lv_iload_n hx hb mD_TG_line_9 rfl (lv_at hl 2 rfl) ?_
  refine gc_Vi (As := [.int (nI p1)]) (rest := []) hx hb hml hown htw hK hP hS 350 (k_Ci_isAhead l D ct ad hI x (nI p1) hR.2.2.2.1.2.1 hR.2.2.2.1.1) gZ0_ok (fun _ _ _ => trivial) (gA_mono hS.1) (by decide) rfl rfl ww_598 ww_599 ww_600 ww_30 wC_Ci_isAhead mP_Ci_isAhead (by decide) rfl hl.1 rfl (Nat.le_of_ble_eq_true rfl) mD_TG_line_10 ⟨Nat.le_of_ble_eq_true rfl, Nat.le_of_ble_eq_true rfl⟩ (fun r4 x3 H locs hp3 hP _ _ hS => ?_)
  obtain ⟨hq_, r1⟩ := hp3
  rw [hq_] at hP
  refine lv_if_eq (tgt := 27) hx hb mD_TG_line_13 rfl (fun hc => ?_) (fun hc => ?_)
  · skip
    exfalso; rcases r1 with ⟨e, _⟩ | ⟨_, h⟩; exact absurd (e.symm.trans hc) (by decide); exact h ⟨p1, ha1, rfl⟩
  · skip
    refine lv_aload_n hx hb mD_TG_line_16 rfl (lv_at hl 0 rfl) ?_
    refine t_get (C := cN_TG) (T := cF_TG) (N := 12) (ci := 7) hx hb htw wU_TG hown hK hP 0 (by decide) rfl rfl 5 (by decide) rfl ww_227 rfl mD_TG_line_17 ?_
    refine lv_iload_n hx hb mD_TG_line_20 rfl (lv_at hl 3 rfl) ?_
    refine gc_Vi (As := [.int c_]) (rest := []) hx hb hml hown htw hK hP hS 350 (k_Ci_isAhead l D ct ad hI x c_ hR.2.2.2.1.2.1 hR.2.2.2.1.1) gZ0_ok (fun _ _ _ => trivial) (gA_mono hS.1) (by decide) rfl rfl ww_598 ww_599 ww_600 ww_30 wC_Ci_isAhead mP_Ci_isAhead (by decide) rfl hl.1 rfl (Nat.le_of_ble_eq_true rfl) mD_TG_line_21 ⟨Nat.le_of_ble_eq_true rfl, Nat.le_of_ble_eq_true rfl⟩ (fun r6 x5 H locs hp5 hP _ _ hS => ?_)
    obtain ⟨hq_, r2⟩ := hp5
    rw [hq_] at hP
    refine lv_if_ne (tgt := 37) hx hb mD_TG_line_24 rfl (fun hc => ?_) (fun hc => ?_)
    · skip
      exfalso; rcases r2 with ⟨_, h⟩ | ⟨e, _⟩; exact hh h; exact hc e
    · skip
      obtain ⟨sa, hsa⟩ := tO_str h0 hZ 7 rfl
      exact tx_thN hx hb (hl.1.trans hml.symm) hown hls hno hlocks h0 hZ hsa hP0 hP hS (hR) (by decide) (by decide) (by decide) (by decide) (by decide) (by decide) mD_TG_line_27 mD_TG_line_30 mD_TG_line_31 mD_TG_line_33 mD_TG_line_36

set_option maxHeartbeats 4000000 in
set_option maxRecDepth 100000 in
theorem x_TG_line4 (l : Launch) (D : va_G) (ct : Nat → ClassId) (ad : Nat → Nat) (hI : gw_inj 424 ad) (x : tS) (hls : l.stackTraces = false) {s0 : State} {zt : Nat → Nat} (h0 : tO s0 zt) (α : tA) (hR : tR α x.1) {gt p1 p2 : Nat} (hgt : gt < 8) (ha1 : p1 < 8 + aZ α) (ha2 : p2 < 8 + aZ α) (hz : aZ α = 24) : gX l mY_TG_line mB_TG_line 4 (some .int) (rX 7 103) D (tT ct) (tZ s0) 424 ad (tD ct ad) [.ref (ad 0), .int (nI gt), .int (nI p1), .int (nI p2)] x tX_S (fun x' => tR α x'.1) := by
  refine gX_enter (by decide) (Nat.le_of_ble_eq_true rfl) ?_
  intro p e s m below meth c ls hx hb hr htw hown hlocks hml hl hP hK hZ hS hno
  have hA : ∀ k, k < 424 → gA 424 ad s.heap.size (ad k) := fun _ h => gA_in h
  have hl : lv_has ls 4 [(0, .ref (ad 0)), (1, .int (nI gt)), (2, .int (nI p1)), (3, .int (nI p2))] := hl
  have hP0 := hP
  refine lv_aload_n hx hb mD_TG_line_0 rfl (lv_at hl 0 rfl) ?_
  refine lv_iload_n hx hb mD_TG_line_1 rfl (lv_at hl 1 rfl) ?_
  refine gc_Vv (As := [.int (nI gt)]) (rest := []) hx hb hml hown htw hK hP hS 0 (k_TG_checkKind l D ct ad hI x (q := gt) hgt) gZ0_ok (fun _ _ _ => trivial) (gA_mono hS.1) (by decide) rfl rfl ww_485 ww_487 ww_8 ww_23 wC_TG_checkKind mP_TG_checkKind (by decide) rfl hl.1 rfl (Nat.le_of_ble_eq_true rfl) mD_TG_line_2 ⟨Nat.le_of_ble_eq_true rfl, Nat.le_of_ble_eq_true rfl⟩ (fun x1 H locs hp1 hP _ _ hS => ?_)
  have hq_ := hp1
  rw [hq_] at hP
  refine lv_aload_n hx hb mD_TG_line_5 rfl (lv_at hl 0 rfl) ?_
  refine t_get (C := cN_TG) (T := cF_TG) (N := 12) (ci := 7) hx hb htw wU_TG hown hK hP 0 (by decide) rfl rfl 5 (by decide) rfl ww_227 rfl mD_TG_line_6 ?_
  refine lv_iload_n hx hb mD_TG_line_9 rfl (lv_at hl 2 rfl) ?_
  refine gc_Vi (As := [.int (nI p1)]) (rest := []) hx hb hml hown htw hK hP hS 350 (k_Ci_isAhead l D ct ad hI x (nI p1) hR.2.2.2.1.2.1 hR.2.2.2.1.1) gZ0_ok (fun _ _ _ => trivial) (gA_mono hS.1) (by decide) rfl rfl ww_598 ww_599 ww_600 ww_30 wC_Ci_isAhead mP_Ci_isAhead (by decide) rfl hl.1 rfl (Nat.le_of_ble_eq_true rfl) mD_TG_line_10 ⟨Nat.le_of_ble_eq_true rfl, Nat.le_of_ble_eq_true rfl⟩ (fun r4 x3 H locs hp3 hP _ _ hS => ?_)
  obtain ⟨hq_, r1⟩ := hp3
  rw [hq_] at hP
  refine lv_if_eq (tgt := 27) hx hb mD_TG_line_13 rfl (fun hc => ?_) (fun hc => ?_)
  · skip
    exfalso; rcases r1 with ⟨e, _⟩ | ⟨_, h⟩; exact absurd (e.symm.trans hc) (by decide); exact h ⟨p1, ha1, rfl⟩
  · skip
    refine lv_aload_n hx hb mD_TG_line_16 rfl (lv_at hl 0 rfl) ?_
    refine t_get (C := cN_TG) (T := cF_TG) (N := 12) (ci := 7) hx hb htw wU_TG hown hK hP 0 (by decide) rfl rfl 5 (by decide) rfl ww_227 rfl mD_TG_line_17 ?_
    refine lv_iload_n hx hb mD_TG_line_20 rfl (lv_at hl 3 rfl) ?_
    refine gc_Vi (As := [.int (nI p2)]) (rest := []) hx hb hml hown htw hK hP hS 350 (k_Ci_isAhead l D ct ad hI x (nI p2) hR.2.2.2.1.2.1 hR.2.2.2.1.1) gZ0_ok (fun _ _ _ => trivial) (gA_mono hS.1) (by decide) rfl rfl ww_598 ww_599 ww_600 ww_30 wC_Ci_isAhead mP_Ci_isAhead (by decide) rfl hl.1 rfl (Nat.le_of_ble_eq_true rfl) mD_TG_line_21 ⟨Nat.le_of_ble_eq_true rfl, Nat.le_of_ble_eq_true rfl⟩ (fun r6 x5 H locs hp5 hP _ _ hS => ?_)
    obtain ⟨hq_, r2⟩ := hp5
    rw [hq_] at hP
    refine lv_if_ne (tgt := 37) hx hb mD_TG_line_24 rfl (fun hc => ?_) (fun hc => ?_)
    · skip
      refine lv_aload_n hx hb mD_TG_line_37 rfl (lv_at hl 0 rfl) ?_
      refine t_get (C := cN_TG) (T := cF_TG) (N := 12) (ci := 7) hx hb htw wU_TG hown hK hP 0 (by decide) rfl rfl 5 (by decide) rfl ww_227 rfl mD_TG_line_38 ?_
      refine t_get (C := cN_Ci) (T := cF_Ci) (N := 4) (ci := 1) hx hb htw wU_Ci hown hK hP 350 (by decide) rfl rfl 3 (by decide) rfl ww_161 rfl mD_TG_line_41 ?_
      refine lv_bipush (v := nI 24) hx hb mD_TG_line_44 (by decide) ?_
      refine lv_icmp_ne (tgt := 59) hx hb mD_TG_line_46 rfl (fun hc => ?_) (fun hc => ?_)
      · skip
        exfalso; rw [hR.2.2.2.1.2.1] at hc; exact hc (by rw [hz])
      · skip
        obtain ⟨sa, hsa⟩ := tO_str h0 hZ 8 rfl
        exact tx_thS hx hb (hl.1.trans hml.symm) hown hls hno hlocks h0 hZ hsa hP0 hP hS (hR) (by decide) (by decide) (by decide) (by decide) (by decide) (by decide) mD_TG_line_49 mD_TG_line_52 mD_TG_line_53 mD_TG_line_55 mD_TG_line_58
    · skip
      exfalso; rcases r2 with ⟨e, _⟩ | ⟨_, h⟩; exact absurd (e.symm.trans hc) (by decide); exact h ⟨p2, ha2, rfl⟩
end
