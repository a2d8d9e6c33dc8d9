set_option maxRecDepth 20000 in
theorem ggL_law_X9_init : GoodIn wsL_law wsX9_init := by sorry
set_option maxRecDepth 20000 in
theorem gL_law_X9_init : GoodIn wsL_law (wsX9_init) := by sorry
set_option maxRecDepth 20000 in
theorem ggL_law_X12_init : GoodIn wsL_law wsX12_init := by sorry
set_option maxRecDepth 20000 in
theorem gL_law_X12_init : GoodIn wsL_law (wsX12_init) := by sorry
set_option maxRecDepth 20000 in
theorem ggL_law_X9_window : GoodIn wsL_law wsX9_window := by sorry
set_option maxRecDepth 20000 in
theorem gL_law_X9_window : GoodIn wsL_law (wsV RL 13 RX9 yX9_window wsX9_window) := by sorry
set_option maxRecDepth 20000 in
theorem ggL_law_X12_window : GoodIn wsL_law wsX12_window := by sorry
set_option maxRecDepth 20000 in
theorem gL_law_X12_window : GoodIn wsL_law (wsV RL 17 RX12 yX12_window wsX12_window) := by sorry
set_option maxRecDepth 20000 in
theorem ggL_law_X9_lead : GoodIn wsL_law wsX9_lead := by sorry
set_option maxRecDepth 20000 in
theorem gL_law_X9_lead : GoodIn wsL_law (wsV RL 18 RX9 yX9_lead wsX9_lead) := by sorry
set_option maxRecDepth 20000 in
theorem ggL_law_X12_lead : GoodIn wsL_law wsX12_lead := by sorry
set_option maxRecDepth 20000 in
theorem gL_law_X12_lead : GoodIn wsL_law (wsV RL 22 RX12 yX12_lead wsX12_lead) := by sorry
set_option maxRecDepth 20000 in
theorem ggL_law_X9_undo : GoodIn wsL_law wsX9_undo := by sorry
set_option maxRecDepth 20000 in
theorem gL_law_X9_undo : GoodIn wsL_law (wsV RL 23 RX9 yX9_undo wsX9_undo) := by sorry
set_option maxRecDepth 20000 in
theorem ggL_law_X12_undo : GoodIn wsL_law wsX12_undo := by sorry
set_option maxRecDepth 20000 in
theorem gL_law_X12_undo : GoodIn wsL_law (wsV RL 27 RX12 yX12_undo wsX12_undo) := by sorry
set_option maxRecDepth 20000 in
theorem ggL_law_X9_count : GoodIn wsL_law wsX9_count := by sorry
set_option maxRecDepth 20000 in
theorem gL_law_X9_count : GoodIn wsL_law (wsV RL 28 RX9 yX9_count wsX9_count) := by sorry
set_option maxRecDepth 20000 in
theorem ggL_law_X12_count : GoodIn wsL_law wsX12_count := by sorry
set_option maxRecDepth 20000 in
theorem gL_law_X12_count : GoodIn wsL_law (wsV RL 32 RX12 yX12_count wsX12_count) := by sorry
