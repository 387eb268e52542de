set_option maxRecDepth 20000 in
theorem gL_law_L_fight : GoodIn wsL_law (va_wsS RL 137 yL_fight wsL_fight) := goodIn_app (goodIn_of _ (by decide +kernel)) ggL_law_L_fight
