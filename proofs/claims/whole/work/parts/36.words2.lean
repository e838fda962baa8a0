/-! more words. -/
theorem wX_inisys : Cond.initialized "java/lang/System" ∈ wW := wW_i1 17 rfl rfl
theorem wX_lkcopy : Cond.methodLink cN_Ce 15 arraycopyName ∈ wW := wW_i2 162 rfl rfl
theorem wX_stcopy : Cond.static arraycopyName ∈ wW := wW_i2 163 rfl rfl
theorem wX_natcopy : Cond.native arraycopyName ∈ wW := wW_i2 164 rfl rfl
