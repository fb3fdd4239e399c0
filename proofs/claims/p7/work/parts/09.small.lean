theorem le_min (x : Int32) : (-2147483648) ≤ x.toInt := Int32.le_toInt x
theorem le_max (x : Int32) : x.toInt ≤ 2147483647 := by have q := Int32.toInt_lt x; omega
