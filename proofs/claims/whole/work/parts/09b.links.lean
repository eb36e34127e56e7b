theorem pmX8_140 : Cond.methodLink RX8 140 yJ9_min_7cf53 ∈ lw_k := (in_t 368 (by decide +kernel) (by decide +kernel))
theorem pmX5_60 : Cond.methodLink RX5 60 yJ9_min_7cf53 ∈ lw_k := (in_t 454 (by decide +kernel) (by decide +kernel))
theorem pmX1_70 : Cond.methodLink RX1 70 yJ9_max_7cf53 ∈ lw_k := (in_t 697 (by decide +kernel) (by decide +kernel))
theorem acpX1_76 : Cond.methodLink RX1 76 arraycopyName ∈ lw_k := (in_t 679 (by decide +kernel) (by decide +kernel))
theorem acpX8_302 : Cond.methodLink RX8 302 arraycopyName ∈ lw_k := (in_t 771 (by decide +kernel) (by decide +kernel))
theorem acw : Cond.native arraycopyName ∈ lw_k ∧ Cond.static arraycopyName ∈ lw_k ∧ Cond.initialized "java/lang/System" ∈ lw_k := ⟨(in_t 681 (by decide +kernel) (by decide +kernel)), (in_t 680 (by decide +kernel) (by decide +kernel)), (in_t 18 (by decide +kernel) (by decide +kernel))⟩
