theorem isB_X9_in (a b c : Int32) : isB (f_X9_in a b c) := by
  unfold f_X9_in
  repeat' split
  all_goals first | exact Or.inl rfl | exact Or.inr rfl
