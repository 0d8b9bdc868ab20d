theorem law_ok : LawOk := sorry
