set_option maxRecDepth 100000 in
theorem gl_X10_init : Cond.code yX10_init cX10_init 1 none ∈ GT := gt_of 1282 rfl rfl
