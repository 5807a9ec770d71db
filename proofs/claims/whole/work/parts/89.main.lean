theorem main_pure : MainPure := sorry
