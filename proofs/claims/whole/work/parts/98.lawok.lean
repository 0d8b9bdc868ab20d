theorem all_pr : AllPr := sorry
theorem law_ok : LawOk := law_of all_pr init_ok
