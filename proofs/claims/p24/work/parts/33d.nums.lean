-- ==================== what is known of numbers: the loops answer so
theorem zOf {x : Int32} {a : Int} (h : x.toInt = a) : x = Int32.ofInt a := by rw [← h, Int32.ofInt_toInt]
theorem zAcc {v c : Int32} {x t y : Int} (hv : v = Int32.ofInt x) (hc : c = Int32.ofInt t) (hy : y = x + t) : v + c = Int32.ofInt y := by rw [hy, Int32.ofInt_add, hv, hc]
theorem zMlc {v c : Int32} {x t y : Int} (hv : v = Int32.ofInt x) (hc : c = Int32.ofInt t) (hy : y = x * t) : v * c = Int32.ofInt y := by rw [hy, Int32.ofInt_mul, hv, hc]
theorem zof0 : (0 : Int32) = Int32.ofInt 0 := rfl
theorem zof1 : (1 : Int32) = Int32.ofInt 1 := rfl
theorem zof2 : (2 : Int32) = Int32.ofInt 2 := rfl
