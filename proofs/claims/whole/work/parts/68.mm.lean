theorem ii_add1 (x : Int64) (h : x.toInt < 9223372036854775807) : (x + 1).toInt = x.toInt + 1 := by
  have h1 : (x + 1).toInt = (x.toInt + 1).bmod (2 ^ 64) := Int64.toInt_add x 1
  have h2 := il_rng x
  rw [h1, Int.bmod_def]
  omega
