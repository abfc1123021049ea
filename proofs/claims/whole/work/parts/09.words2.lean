theorem kz_native : Cond.native arraycopyName ∈ gT := tm 517 (by decide +kernel) (by decide +kernel)
theorem kz_static : Cond.static arraycopyName ∈ gT := tm 516 (by decide +kernel) (by decide +kernel)
