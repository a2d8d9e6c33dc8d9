set_option maxRecDepth 20000 in
theorem ggL_law_X9_joint : GoodIn wsL_law wsX9_joint := by sorry
set_option maxRecDepth 20000 in
theorem gL_law_X9_joint : GoodIn wsL_law (wsV RL 33 RX9 yX9_joint wsX9_joint) := by sorry
set_option maxRecDepth 20000 in
theorem ggL_law_X12_joint : GoodIn wsL_law wsX12_joint := by sorry
set_option maxRecDepth 20000 in
theorem gL_law_X12_joint : GoodIn wsL_law (wsV RL 36 RX12 yX12_joint wsX12_joint) := by sorry
set_option maxRecDepth 20000 in
theorem ggL_law_X9_piece : GoodIn wsL_law wsX9_piece := by sorry
set_option maxRecDepth 20000 in
theorem gL_law_X9_piece : GoodIn wsL_law (wsV RL 37 RX9 yX9_piece wsX9_piece) := by sorry
set_option maxRecDepth 20000 in
theorem ggL_law_X12_piece : GoodIn wsL_law wsX12_piece := by sorry
set_option maxRecDepth 20000 in
theorem gL_law_X12_piece : GoodIn wsL_law (wsV RL 40 RX12 yX12_piece wsX12_piece) := by sorry
set_option maxRecDepth 20000 in
theorem ggL_law_X9_corner : GoodIn wsL_law wsX9_corner := by sorry
set_option maxRecDepth 20000 in
theorem gL_law_X9_corner : GoodIn wsL_law (wsV RL 41 RX9 yX9_corner wsX9_corner) := by sorry
set_option maxRecDepth 20000 in
theorem ggL_law_X12_corner : GoodIn wsL_law wsX12_corner := by sorry
set_option maxRecDepth 20000 in
theorem gL_law_X12_corner : GoodIn wsL_law (wsV RL 44 RX12 yX12_corner wsX12_corner) := by sorry
set_option maxRecDepth 20000 in
theorem ggL_law_X9_pane : GoodIn wsL_law wsX9_pane := by sorry
set_option maxRecDepth 20000 in
theorem gL_law_X9_pane : GoodIn wsL_law (wsV RL 45 RX9 yX9_pane wsX9_pane) := by sorry
set_option maxRecDepth 20000 in
theorem ggL_law_X12_pane : GoodIn wsL_law wsX12_pane := by sorry
set_option maxRecDepth 20000 in
theorem gL_law_X12_pane : GoodIn wsL_law (wsV RL 48 RX12 yX12_pane wsX12_pane) := by sorry
set_option maxRecDepth 20000 in
theorem ggL_law_X9_area : GoodIn wsL_law wsX9_area := by sorry
set_option maxRecDepth 20000 in
theorem gL_law_X9_area : GoodIn wsL_law (wsV RL 49 RX9 yX9_area wsX9_area) := by sorry
set_option maxRecDepth 20000 in
theorem ggL_law_X12_area : GoodIn wsL_law wsX12_area := by sorry
set_option maxRecDepth 20000 in
theorem gL_law_X12_area : GoodIn wsL_law (wsV RL 53 RX12 yX12_area wsX12_area) := by sorry
