set_option maxRecDepth 20000 in
theorem ggL_law_X9_touch : GoodIn wsL_law wsX9_touch := by sorry
set_option maxRecDepth 20000 in
theorem gL_law_X9_touch : GoodIn wsL_law (wsV RL 54 RX9 yX9_touch wsX9_touch) := by sorry
set_option maxRecDepth 20000 in
theorem ggL_law_X12_touch : GoodIn wsL_law wsX12_touch := by sorry
set_option maxRecDepth 20000 in
theorem gL_law_X12_touch : GoodIn wsL_law (wsV RL 57 RX12 yX12_touch wsX12_touch) := by sorry
set_option maxRecDepth 20000 in
theorem ggL_law_X9_at : GoodIn wsL_law wsX9_at := by sorry
set_option maxRecDepth 20000 in
theorem gL_law_X9_at : GoodIn wsL_law (wsV RL 58 RX9 yX9_at wsX9_at) := by sorry
set_option maxRecDepth 20000 in
theorem ggL_law_X12_at : GoodIn wsL_law wsX12_at := by sorry
set_option maxRecDepth 20000 in
theorem gL_law_X12_at : GoodIn wsL_law (wsV RL 61 RX12 yX12_at wsX12_at) := by sorry
set_option maxRecDepth 20000 in
theorem ggL_law_X9_glass : GoodIn wsL_law wsX9_glass := by sorry
set_option maxRecDepth 20000 in
theorem gL_law_X9_glass : GoodIn wsL_law (wsV RL 62 RX9 yX9_glass wsX9_glass) := by sorry
set_option maxRecDepth 20000 in
theorem ggL_law_X12_glass : GoodIn wsL_law wsX12_glass := by sorry
set_option maxRecDepth 20000 in
theorem gL_law_X12_glass : GoodIn wsL_law (wsV RL 66 RX12 yX12_glass wsX12_glass) := by sorry
set_option maxRecDepth 20000 in
theorem ggL_law_X9_colours : GoodIn wsL_law wsX9_colours := by sorry
set_option maxRecDepth 20000 in
theorem gL_law_X9_colours : GoodIn wsL_law (wsV RL 67 RX9 yX9_colours wsX9_colours) := by sorry
set_option maxRecDepth 20000 in
theorem ggL_law_X12_colours : GoodIn wsL_law wsX12_colours := by sorry
set_option maxRecDepth 20000 in
theorem gL_law_X12_colours : GoodIn wsL_law (wsV RL 70 RX12 yX12_colours wsX12_colours) := by sorry
set_option maxRecDepth 20000 in
theorem ggL_law_X9_lack : GoodIn wsL_law wsX9_lack := by sorry
set_option maxRecDepth 20000 in
theorem gL_law_X9_lack : GoodIn wsL_law (wsV RL 71 RX9 yX9_lack wsX9_lack) := by sorry
set_option maxRecDepth 20000 in
theorem ggL_law_X12_lack : GoodIn wsL_law wsX12_lack := by sorry
set_option maxRecDepth 20000 in
theorem gL_law_X12_lack : GoodIn wsL_law (wsV RL 74 RX12 yX12_lack wsX12_lack) := by sorry
