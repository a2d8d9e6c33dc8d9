set_option maxRecDepth 20000 in
theorem ggL_law_X9_bits : GoodIn wsL_law wsX9_bits := by sorry
set_option maxRecDepth 20000 in
theorem gL_law_X9_bits : GoodIn wsL_law (wsV RL 75 RX9 yX9_bits wsX9_bits) := by sorry
set_option maxRecDepth 20000 in
theorem ggL_law_X12_bits : GoodIn wsL_law wsX12_bits := by sorry
set_option maxRecDepth 20000 in
theorem gL_law_X12_bits : GoodIn wsL_law (wsV RL 78 RX12 yX12_bits wsX12_bits) := by sorry
set_option maxRecDepth 20000 in
theorem ggL_law_X9_pick : GoodIn wsL_law wsX9_pick := by sorry
set_option maxRecDepth 20000 in
theorem gL_law_X9_pick : GoodIn wsL_law (wsV RL 79 RX9 yX9_pick wsX9_pick) := by sorry
set_option maxRecDepth 20000 in
theorem ggL_law_X12_pick : GoodIn wsL_law wsX12_pick := by sorry
set_option maxRecDepth 20000 in
theorem gL_law_X12_pick : GoodIn wsL_law (wsV RL 82 RX12 yX12_pick wsX12_pick) := by sorry
set_option maxRecDepth 20000 in
theorem ggL_law_X9_unpick : GoodIn wsL_law wsX9_unpick := by sorry
set_option maxRecDepth 20000 in
theorem gL_law_X9_unpick : GoodIn wsL_law (wsV RL 83 RX9 yX9_unpick wsX9_unpick) := by sorry
set_option maxRecDepth 20000 in
theorem ggL_law_X12_unpick : GoodIn wsL_law wsX12_unpick := by sorry
set_option maxRecDepth 20000 in
theorem gL_law_X12_unpick : GoodIn wsL_law (wsV RL 86 RX12 yX12_unpick wsX12_unpick) := by sorry
set_option maxRecDepth 20000 in
theorem ggL_law_X9_sheets : GoodIn wsL_law wsX9_sheets := by sorry
set_option maxRecDepth 20000 in
theorem gL_law_X9_sheets : GoodIn wsL_law (wsV RL 87 RX9 yX9_sheets wsX9_sheets) := by sorry
set_option maxRecDepth 20000 in
theorem ggL_law_X12_sheets : GoodIn wsL_law wsX12_sheets := by sorry
set_option maxRecDepth 20000 in
theorem gL_law_X12_sheets : GoodIn wsL_law (wsV RL 91 RX12 yX12_sheets wsX12_sheets) := by sorry
set_option maxRecDepth 20000 in
theorem ggL_law_X9_keep : GoodIn wsL_law wsX9_keep := by sorry
set_option maxRecDepth 20000 in
theorem gL_law_X9_keep : GoodIn wsL_law (wsV RL 92 RX9 yX9_keep wsX9_keep) := by sorry
set_option maxRecDepth 20000 in
theorem ggL_law_X12_keep : GoodIn wsL_law wsX12_keep := by sorry
set_option maxRecDepth 20000 in
theorem gL_law_X12_keep : GoodIn wsL_law (wsV RL 95 RX12 yX12_keep wsX12_keep) := by sorry
