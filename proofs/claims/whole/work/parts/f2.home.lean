/-! homeward: the orders of seven looked through -/
theorem ck_7a : ckA 7 6 [0] (erL (upL 7 0) 0) = true := by decide +kernel
theorem ck_7b : ckA 7 6 [1] (erL (upL 7 0) 1) = true := by decide +kernel
theorem ck_7c : ckA 7 6 [2] (erL (upL 7 0) 2) = true := by decide +kernel
theorem ck_7d : ckA 7 6 [3] (erL (upL 7 0) 3) = true := by decide +kernel
theorem ck_7e : ckA 7 6 [4] (erL (upL 7 0) 4) = true := by decide +kernel
theorem ck_7f : ckA 7 6 [5] (erL (upL 7 0) 5) = true := by decide +kernel
theorem ck_7g : ckA 7 6 [6] (erL (upL 7 0) 6) = true := by decide +kernel
