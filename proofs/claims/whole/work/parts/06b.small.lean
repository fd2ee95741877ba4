theorem ts_s {n k k' : Int} (e : k + 1 = k') (h : k ≤ n) (c : ¬ n = k) : k' ≤ n := by omega
