/-! ===== the law's names, words 15 ===== -/
set_option maxRecDepth 20000 in
theorem gL_law_L_routes : GoodIn wsL_law (va_wsS RL 198 yL_routes wsL_routes) := goodIn_app (goodIn_of _ (by decide +kernel)) ggL_law_L_routes
