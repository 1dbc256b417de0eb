theorem chk_all {m : Nat} (h : m < 374) (n : Nat) : chk m (lpc m n) (blk m n) = true := sorry
