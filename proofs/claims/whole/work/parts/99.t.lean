/-! The end. -/
theorem zz9 : (0 : Int) = 0 := rfl
