set_option maxRecDepth 20000 in
theorem ggL_law_X9_back : GoodIn wsL_law wsX9_back := by sorry
set_option maxRecDepth 20000 in
theorem gL_law_X9_back : GoodIn wsL_law (wsV RL 96 RX9 yX9_back wsX9_back) := by sorry
set_option maxRecDepth 20000 in
theorem ggL_law_X12_back : GoodIn wsL_law wsX12_back := by sorry
set_option maxRecDepth 20000 in
theorem gL_law_X12_back : GoodIn wsL_law (wsV RL 99 RX12 yX12_back wsX12_back) := by sorry
set_option maxRecDepth 20000 in
theorem ggL_law_X9_alike : GoodIn wsL_law wsX9_alike := by sorry
set_option maxRecDepth 20000 in
theorem gL_law_X9_alike : GoodIn wsL_law (wsV RL 100 RX9 yX9_alike wsX9_alike) := by sorry
set_option maxRecDepth 20000 in
theorem ggL_law_X12_alike : GoodIn wsL_law wsX12_alike := by sorry
set_option maxRecDepth 20000 in
theorem gL_law_X12_alike : GoodIn wsL_law (wsV RL 103 RX12 yX12_alike wsX12_alike) := by sorry
set_option maxRecDepth 20000 in
theorem ggL_law_X9_rack : GoodIn wsL_law wsX9_rack := by sorry
set_option maxRecDepth 20000 in
theorem gL_law_X9_rack : GoodIn wsL_law (wsV RL 104 RX9 yX9_rack wsX9_rack) := by sorry
set_option maxRecDepth 20000 in
theorem ggL_law_X12_rack : GoodIn wsL_law wsX12_rack := by sorry
set_option maxRecDepth 20000 in
theorem gL_law_X12_rack : GoodIn wsL_law (wsV RL 107 RX12 yX12_rack wsX12_rack) := by sorry
set_option maxRecDepth 20000 in
theorem ggL_law_X9_as : GoodIn wsL_law wsX9_as := by sorry
set_option maxRecDepth 20000 in
theorem gL_law_X9_as : GoodIn wsL_law (wsV RL 108 RX9 yX9_as wsX9_as) := by sorry
set_option maxRecDepth 20000 in
theorem ggL_law_X12_as : GoodIn wsL_law wsX12_as := by sorry
set_option maxRecDepth 20000 in
theorem gL_law_X12_as : GoodIn wsL_law (wsV RL 111 RX12 yX12_as wsX12_as) := by sorry
set_option maxRecDepth 20000 in
theorem ggL_law_X9_found : GoodIn wsL_law wsX9_found := by sorry
set_option maxRecDepth 20000 in
theorem gL_law_X9_found : GoodIn wsL_law (wsV RL 112 RX9 yX9_found wsX9_found) := by sorry
set_option maxRecDepth 20000 in
theorem ggL_law_X12_found : GoodIn wsL_law wsX12_found := by sorry
set_option maxRecDepth 20000 in
theorem gL_law_X12_found : GoodIn wsL_law (wsV RL 115 RX12 yX12_found wsX12_found) := by sorry
