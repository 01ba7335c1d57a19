/-! ===== the law's names, words 20 ===== -/
set_option maxRecDepth 20000 in
theorem gL_law_L_subscribers : GoodIn wsL_law (va_wsS RL 201 yL_subscribers wsL_subscribers) := goodIn_app (goodIn_of _ (by decide +kernel)) ggL_law_L_subscribers
