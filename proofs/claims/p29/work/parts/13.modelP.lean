/-! the reference: the search -/
theorem scP_len {w h n p : Nat} (hg : gOK w h n) (hp : vP n p) : (mvs w n (bdP p) (sdP p : Int)).length ≤ 588 := mvs_bound hg.2.2.2.2.2 (hp.2.s (sdP_12 p))
