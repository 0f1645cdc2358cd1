theorem row_len {kf : Nat → Int64} {L : List Nat} (h : ∀ d, d < 56 → by_w kf d = rw_b L d) (hL : L.length ≤ 24) : cb_num (fun d => decide (by_w kf d ≠ 0)) 56 = L.length := by
  have h1 := rw_n_le L
  rw [cb_num_congr (p2 := fun d => decide (rw_b L d ≠ 0)) 56 (fun d hd => by rw [h d hd])]
  exact rw_num L 56 (by omega)
