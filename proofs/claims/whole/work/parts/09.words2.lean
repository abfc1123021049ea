theorem kz_native : Cond.native arraycopyName ∈ gT := tm 517 (by decide +kernel) (by decide +kernel)
theorem kz_static : Cond.static arraycopyName ∈ gT := tm 516 (by decide +kernel) (by decide +kernel)
theorem kz_oi : Cond.instanceMethod Lib.objectInit ∈ gT := tm 25 (by decide +kernel) (by decide +kernel)
theorem kz_oc : Cond.code Lib.objectInit ⟨#[0xb1]⟩ 1 none ∈ gT := tm 26 (by decide +kernel) (by decide +kernel)
