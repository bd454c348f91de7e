theorem zz_test : (3 : Int32) + 4 = 7 := by decide
