/-! words of the tables: links of nest mates, the array of scenes -/
set_option maxRecDepth 20000 in
theorem inN_0 : Cond.methodLinkNest RX4 103 yX5_isWithin RX5 ∈ lw_tbl := by decide +kernel
set_option maxRecDepth 20000 in
theorem inN_1 : Cond.methodLinkNest RX3 64 yX5_mirrored RX5 ∈ lw_tbl := by decide +kernel
set_option maxRecDepth 20000 in
theorem inN_2 : Cond.methodLinkNest RX3 68 yX5_passes RX5 ∈ lw_tbl := by decide +kernel
set_option maxRecDepth 20000 in
theorem inN_3 : Cond.methodLinkNest RX3 78 yX5_squares RX5 ∈ lw_tbl := by decide +kernel
set_option maxRecDepth 20000 in
theorem inN_4 : Cond.methodLinkNest RX0 67 yX5_timeOf RX5 ∈ lw_tbl := by decide +kernel
set_option maxRecDepth 20000 in
theorem inN_5 : Cond.methodLinkNest RX0 77 yX5_strengthOf RX5 ∈ lw_tbl := by decide +kernel
set_option maxRecDepth 20000 in
theorem inN_6 : Cond.methodLinkNest RX1 53 yX5_timeOf RX5 ∈ lw_tbl := by decide +kernel
set_option maxRecDepth 20000 in
theorem inN_7 : Cond.methodLinkNest RX1 82 yX5_squares RX5 ∈ lw_tbl := by decide +kernel
set_option maxRecDepth 20000 in
theorem inN_8 : Cond.methodLinkNest RX1 72 yX5_imageCode RX5 ∈ lw_tbl := by decide +kernel
set_option maxRecDepth 20000 in
theorem inN_9 : Cond.arrayOver (.object RX3) ∈ lw_tbl := by decide +kernel
