theorem pf_text : PF_text := sorry
theorem pf_year : PF_year := sorry
theorem all_pr : AllPr := ⟨fun B c h _ _ _ _ _ => pr_feed h, pf_text, pf_year, fun B c h _ _ => pr_claim h, fun B c h _ _ _ _ => pr_sell h, fun B c h _ _ => pr_put h, fun B c h _ _ _ => pr_priced h, fun B c h _ _ => pr_wheel h, fun B c h x y hy => pr_image h hy, fun B c h _ _ _ => pr_row h, fun B c h _ => pr_toPay h, fun B c h _ _ => pr_odds h, fun B c h _ _ => pr_worth h, fun B c h _ => pr_life h, fun B c h _ => pr_half h, fun B c h _ _ => pr_yields h, fun B c h _ _ _ => pr_atLeast h, fun B c h _ _ => pr_lasting h, fun B c h _ _ _ _ => pr_ifPrice h, fun B c h _ _ => pr_needs h, fun B c h _ _ _ => pr_replayed h, fun B c h _ => pr_mean h, fun B c h _ => pr_unlucky h⟩
theorem law_ok : LawOk := law_of all_pr init_ok
