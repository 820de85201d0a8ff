section
/-! laid by wip/hand/mk60.py: the heap when the class, and both, are made -/
def hc_0 : AE := .inr (9, [.inr (.inr (.ref 1)), .inr (.inr (.ref 9)), .inr (.inr (.ref 14)), .inr (.inr (.ref 19)), .inr (.inr (.ref 21)), .inr (.inr (.ref 37)), .inr (.inr (.ref 129)), .inr (.inr (.ref 134)), .inr (.inr (.ref 139)), .inr (.inr (.ref 141)), .inl (.ofNat 0), .inl (.ofNat 1)])
def hc_1 : AE := .inr (0, [.inl (.ofNat 0), .inr (.inr (.ref 2)), .inr (.inr (.ref 3)), .inr (.inr (.ref 4)), .inr (.inr (.ref 5)), .inr (.inr (.ref 6)), .inr (.inr (.ref 7)), .inr (.inr (.ref 8))])
def hc_2 : AE := .inl (0, [.inl (.ofNat 0), .inl (.ofNat 0), .inl (.ofNat 0), .inl (.ofNat 0), .inl (.ofNat 0), .inl (.ofNat 0), .inl (.ofNat 0), .inl (.ofNat 0)])
def hc_3 : AE := .inl (0, [.inl (.ofNat 0), .inl (.ofNat 0), .inl (.ofNat 0), .inl (.ofNat 0), .inl (.ofNat 0), .inl (.ofNat 0), .inl (.ofNat 0), .inl (.ofNat 0), .inl (.ofNat 0), .inl (.ofNat 0), .inl (.ofNat 0), .inl (.ofNat 0), .inl (.ofNat 0), .inl (.ofNat 0), .inl (.ofNat 0), .inl (.ofNat 0), .inl (.ofNat 0), .inl (.ofNat 0), .inl (.ofNat 0), .inl (.ofNat 0), .inl (.ofNat 0), .inl (.ofNat 0), .inl (.ofNat 0), .inl (.ofNat 0), .inl (.ofNat 0), .inl (.ofNat 0), .inl (.ofNat 0), .inl (.ofNat 0), .inl (.ofNat 0), .inl (.ofNat 0), .inl (.ofNat 0), .inl (.ofNat 0)])
def hc_4 : AE := .inl (0, [.inl (.ofNat 0), .inl (.ofNat 0), .inl (.ofNat 0), .inl (.ofNat 0), .inl (.ofNat 0), .inl (.ofNat 0), .inl (.ofNat 0), .inl (.ofNat 0)])
def hc_5 : AE := .inl (0, [.inl (.ofNat 0), .inl (.ofNat 0), .inl (.ofNat 1), .inl (.ofNat 0), .inl (.ofNat 2), .inl (.ofNat 2)])
def hc_6 : AE := .inl (0, [.inl (.ofNat 1), .inl (.ofNat 1), .inl (.ofNat 3), .inl (.ofNat 1), .inl (.ofNat 2), .inl (.ofNat 1)])
def hc_7 : AE := .inl (0, [.inl (.ofNat 1), .inl (.ofNat 1), .inl (.ofNat 3), .inl (.ofNat 1), .inl (.ofNat 1), .inl (.ofNat 1)])
def hc_8 : AE := .inl (0, [.inl (.ofNat 1), .inl (.ofNat 1), .inl (.ofNat 1)])
def hc_9 : AE := .inr (7, [.inl (.ofNat 0), .inr (.inr (.ref 10)), .inr (.inr (.ref 11)), .inr (.inr (.ref 12)), .inr (.inr (.ref 13)), .inl (.ofNat 0), .inl (.ofNat 1), .inl (.ofNat 0)])
def hc_10 : AE := .inl (0, [.inl (.ofNat 0), .inl (.ofNat 0), .inl (.ofNat 0), .inl (.ofNat 0), .inl (.ofNat 0), .inl (.ofNat 0), .inl (.ofNat 0), .inl (.ofNat 0), .inl (.ofNat 0), .inl (.ofNat 0), .inl (.ofNat 0), .inl (.ofNat 0), .inl (.ofNat 0), .inl (.ofNat 0), .inl (.ofNat 0), .inl (.ofNat 0), .inl (.ofNat 0), .inl (.ofNat 0), .inl (.ofNat 0), .inl (.ofNat 0), .inl (.ofNat 0), .inl (.ofNat 0), .inl (.ofNat 0), .inl (.ofNat 0), .inl (.ofNat 0), .inl (.ofNat 0), .inl (.ofNat 0), .inl (.ofNat 0), .inl (.ofNat 0), .inl (.ofNat 0), .inl (.ofNat 0), .inl (.ofNat 0), .inl (.ofNat 0), .inl (.ofNat 0), .inl (.ofNat 0), .inl (.ofNat 0), .inl (.ofNat 0), .inl (.ofNat 0), .inl (.ofNat 0), .inl (.ofNat 0), .inl (.ofNat 0), .inl (.ofNat 0), .inl (.ofNat 0), .inl (.ofNat 0), .inl (.ofNat 0), .inl (.ofNat 0), .inl (.ofNat 0), .inl (.ofNat 0), .inl (.ofNat 0), .inl (.ofNat 0), .inl (.ofNat 0), .inl (.ofNat 0), .inl (.ofNat 0), .inl (.ofNat 0), .inl (.ofNat 0), .inl (.ofNat 0), .inl (.ofNat 0), .inl (.ofNat 0), .inl (.ofNat 0), .inl (.ofNat 0), .inl (.ofNat 0), .inl (.ofNat 0), .inl (.ofNat 0), .inl (.ofNat 0)])
def hc_11 : AE := .inl (0, [.inl (.ofNat 0), .inl (.ofNat 0), .inl (.ofNat 0), .inl (.ofNat 0), .inl (.ofNat 0), .inl (.ofNat 0), .inl (.ofNat 0), .inl (.ofNat 0), .inl (.ofNat 0), .inl (.ofNat 0), .inl (.ofNat 0), .inl (.ofNat 0), .inl (.ofNat 0), .inl (.ofNat 0), .inl (.ofNat 0), .inl (.ofNat 0), .inl (.ofNat 0), .inl (.ofNat 0), .inl (.ofNat 0), .inl (.ofNat 0), .inl (.ofNat 0), .inl (.ofNat 0), .inl (.ofNat 0), .inl (.ofNat 0), .inl (.ofNat 0), .inl (.ofNat 0), .inl (.ofNat 0), .inl (.ofNat 0), .inl (.ofNat 0), .inl (.ofNat 0), .inl (.ofNat 0), .inl (.ofNat 0), .inl (.ofNat 0), .inl (.ofNat 0), .inl (.ofNat 0), .inl (.ofNat 0), .inl (.ofNat 0), .inl (.ofNat 0), .inl (.ofNat 0), .inl (.ofNat 0), .inl (.ofNat 0), .inl (.ofNat 0), .inl (.ofNat 0), .inl (.ofNat 0), .inl (.ofNat 0), .inl (.ofNat 0), .inl (.ofNat 0), .inl (.ofNat 0), .inl (.ofNat 0), .inl (.ofNat 0), .inl (.ofNat 0), .inl (.ofNat 0), .inl (.ofNat 0), .inl (.ofNat 0), .inl (.ofNat 0), .inl (.ofNat 0), .inl (.ofNat 0), .inl (.ofNat 0), .inl (.ofNat 0), .inl (.ofNat 0), .inl (.ofNat 0), .inl (.ofNat 0), .inl (.ofNat 0), .inl (.ofNat 0)])
def hc_12 : AE := .inl (0, [.inl (.ofNat 0), .inl (.ofNat 0), .inl (.ofNat 0), .inl (.ofNat 0), .inl (.ofNat 0), .inl (.ofNat 0), .inl (.ofNat 0), .inl (.ofNat 0), .inl (.ofNat 0), .inl (.ofNat 0), .inl (.ofNat 0), .inl (.ofNat 0), .inl (.ofNat 0), .inl (.ofNat 0), .inl (.ofNat 0), .inl (.ofNat 0), .inl (.ofNat 0), .inl (.ofNat 0), .inl (.ofNat 0), .inl (.ofNat 0), .inl (.ofNat 0), .inl (.ofNat 0), .inl (.ofNat 0), .inl (.ofNat 0), .inl (.ofNat 0), .inl (.ofNat 0), .inl (.ofNat 0), .inl (.ofNat 0), .inl (.ofNat 0), .inl (.ofNat 0), .inl (.ofNat 0), .inl (.ofNat 0), .inl (.ofNat 0), .inl (.ofNat 0), .inl (.ofNat 0), .inl (.ofNat 0), .inl (.ofNat 0), .inl (.ofNat 0), .inl (.ofNat 0), .inl (.ofNat 0), .inl (.ofNat 0), .inl (.ofNat 0), .inl (.ofNat 0), .inl (.ofNat 0), .inl (.ofNat 0), .inl (.ofNat 0), .inl (.ofNat 0), .inl (.ofNat 0), .inl (.ofNat 0), .inl (.ofNat 0), .inl (.ofNat 0), .inl (.ofNat 0), .inl (.ofNat 0), .inl (.ofNat 0), .inl (.ofNat 0), .inl (.ofNat 0), .inl (.ofNat 0), .inl (.ofNat 0), .inl (.ofNat 0), .inl (.ofNat 0), .inl (.ofNat 0), .inl (.ofNat 0), .inl (.ofNat 0), .inl (.ofNat 0)])
def hc_13 : AE := .inl (0, [.inl (.ofNat 0), .inl (.ofNat 0), .inl (.ofNat 0), .inl (.ofNat 0), .inl (.ofNat 0), .inl (.ofNat 0), .inl (.ofNat 0), .inl (.ofNat 0), .inl (.ofNat 0), .inl (.ofNat 0), .inl (.ofNat 0), .inl (.ofNat 0), .inl (.ofNat 0), .inl (.ofNat 0), .inl (.ofNat 0), .inl (.ofNat 0), .inl (.ofNat 0), .inl (.ofNat 0), .inl (.ofNat 0), .inl (.ofNat 0), .inl (.ofNat 0), .inl (.ofNat 0), .inl (.ofNat 0), .inl (.ofNat 0), .inl (.ofNat 0), .inl (.ofNat 0), .inl (.ofNat 0), .inl (.ofNat 0), .inl (.ofNat 0), .inl (.ofNat 0), .inl (.ofNat 0), .inl (.ofNat 0), .inl (.ofNat 0), .inl (.ofNat 0), .inl (.ofNat 0), .inl (.ofNat 0), .inl (.ofNat 0), .inl (.ofNat 0), .inl (.ofNat 0), .inl (.ofNat 0), .inl (.ofNat 0), .inl (.ofNat 0), .inl (.ofNat 0), .inl (.ofNat 0), .inl (.ofNat 0), .inl (.ofNat 0), .inl (.ofNat 0), .inl (.ofNat 0), .inl (.ofNat 0), .inl (.ofNat 0), .inl (.ofNat 0), .inl (.ofNat 0), .inl (.ofNat 0), .inl (.ofNat 0), .inl (.ofNat 0), .inl (.ofNat 0), .inl (.ofNat 0), .inl (.ofNat 0), .inl (.ofNat 0), .inl (.ofNat 0), .inl (.ofNat 0), .inl (.ofNat 0), .inl (.ofNat 0), .inl (.ofNat 0)])
def hc_14 : AE := .inr (7, [.inl (.ofNat 0), .inr (.inr (.ref 15)), .inr (.inr (.ref 16)), .inr (.inr (.ref 17)), .inr (.inr (.ref 18)), .inl (.ofNat 0), .inl (.ofNat 1), .inl (.ofNat 0)])
def hc_15 : AE := .inl (0, [.inl (.ofNat 0), .inl (.ofNat 0), .inl (.ofNat 0), .inl (.ofNat 0), .inl (.ofNat 0), .inl (.ofNat 0), .inl (.ofNat 0), .inl (.ofNat 0), .inl (.ofNat 0), .inl (.ofNat 0), .inl (.ofNat 0), .inl (.ofNat 0), .inl (.ofNat 0), .inl (.ofNat 0), .inl (.ofNat 0), .inl (.ofNat 0), .inl (.ofNat 0), .inl (.ofNat 0), .inl (.ofNat 0), .inl (.ofNat 0), .inl (.ofNat 0), .inl (.ofNat 0), .inl (.ofNat 0), .inl (.ofNat 0), .inl (.ofNat 0), .inl (.ofNat 0), .inl (.ofNat 0), .inl (.ofNat 0), .inl (.ofNat 0), .inl (.ofNat 0), .inl (.ofNat 0), .inl (.ofNat 0), .inl (.ofNat 0), .inl (.ofNat 0), .inl (.ofNat 0), .inl (.ofNat 0), .inl (.ofNat 0), .inl (.ofNat 0), .inl (.ofNat 0), .inl (.ofNat 0), .inl (.ofNat 0), .inl (.ofNat 0), .inl (.ofNat 0), .inl (.ofNat 0), .inl (.ofNat 0), .inl (.ofNat 0), .inl (.ofNat 0), .inl (.ofNat 0), .inl (.ofNat 0), .inl (.ofNat 0), .inl (.ofNat 0), .inl (.ofNat 0), .inl (.ofNat 0), .inl (.ofNat 0), .inl (.ofNat 0), .inl (.ofNat 0), .inl (.ofNat 0), .inl (.ofNat 0), .inl (.ofNat 0), .inl (.ofNat 0), .inl (.ofNat 0), .inl (.ofNat 0), .inl (.ofNat 0), .inl (.ofNat 0)])
def hc_16 : AE := .inl (0, [.inl (.ofNat 0), .inl (.ofNat 0), .inl (.ofNat 0), .inl (.ofNat 0), .inl (.ofNat 0), .inl (.ofNat 0), .inl (.ofNat 0), .inl (.ofNat 0), .inl (.ofNat 0), .inl (.ofNat 0), .inl (.ofNat 0), .inl (.ofNat 0), .inl (.ofNat 0), .inl (.ofNat 0), .inl (.ofNat 0), .inl (.ofNat 0), .inl (.ofNat 0), .inl (.ofNat 0), .inl (.ofNat 0), .inl (.ofNat 0), .inl (.ofNat 0), .inl (.ofNat 0), .inl (.ofNat 0), .inl (.ofNat 0), .inl (.ofNat 0), .inl (.ofNat 0), .inl (.ofNat 0), .inl (.ofNat 0), .inl (.ofNat 0), .inl (.ofNat 0), .inl (.ofNat 0), .inl (.ofNat 0), .inl (.ofNat 0), .inl (.ofNat 0), .inl (.ofNat 0), .inl (.ofNat 0), .inl (.ofNat 0), .inl (.ofNat 0), .inl (.ofNat 0), .inl (.ofNat 0), .inl (.ofNat 0), .inl (.ofNat 0), .inl (.ofNat 0), .inl (.ofNat 0), .inl (.ofNat 0), .inl (.ofNat 0), .inl (.ofNat 0), .inl (.ofNat 0), .inl (.ofNat 0), .inl (.ofNat 0), .inl (.ofNat 0), .inl (.ofNat 0), .inl (.ofNat 0), .inl (.ofNat 0), .inl (.ofNat 0), .inl (.ofNat 0), .inl (.ofNat 0), .inl (.ofNat 0), .inl (.ofNat 0), .inl (.ofNat 0), .inl (.ofNat 0), .inl (.ofNat 0), .inl (.ofNat 0), .inl (.ofNat 0)])
def hc_17 : AE := .inl (0, [.inl (.ofNat 0), .inl (.ofNat 0), .inl (.ofNat 0), .inl (.ofNat 0), .inl (.ofNat 0), .inl (.ofNat 0), .inl (.ofNat 0), .inl (.ofNat 0), .inl (.ofNat 0), .inl (.ofNat 0), .inl (.ofNat 0), .inl (.ofNat 0), .inl (.ofNat 0), .inl (.ofNat 0), .inl (.ofNat 0), .inl (.ofNat 0), .inl (.ofNat 0), .inl (.ofNat 0), .inl (.ofNat 0), .inl (.ofNat 0), .inl (.ofNat 0), .inl (.ofNat 0), .inl (.ofNat 0), .inl (.ofNat 0), .inl (.ofNat 0), .inl (.ofNat 0), .inl (.ofNat 0), .inl (.ofNat 0), .inl (.ofNat 0), .inl (.ofNat 0), .inl (.ofNat 0), .inl (.ofNat 0), .inl (.ofNat 0), .inl (.ofNat 0), .inl (.ofNat 0), .inl (.ofNat 0), .inl (.ofNat 0), .inl (.ofNat 0), .inl (.ofNat 0), .inl (.ofNat 0), .inl (.ofNat 0), .inl (.ofNat 0), .inl (.ofNat 0), .inl (.ofNat 0), .inl (.ofNat 0), .inl (.ofNat 0), .inl (.ofNat 0), .inl (.ofNat 0), .inl (.ofNat 0), .inl (.ofNat 0), .inl (.ofNat 0), .inl (.ofNat 0), .inl (.ofNat 0), .inl (.ofNat 0), .inl (.ofNat 0), .inl (.ofNat 0), .inl (.ofNat 0), .inl (.ofNat 0), .inl (.ofNat 0), .inl (.ofNat 0), .inl (.ofNat 0), .inl (.ofNat 0), .inl (.ofNat 0), .inl (.ofNat 0)])
def hc_18 : AE := .inl (0, [.inl (.ofNat 0), .inl (.ofNat 0), .inl (.ofNat 0), .inl (.ofNat 0), .inl (.ofNat 0), .inl (.ofNat 0), .inl (.ofNat 0), .inl (.ofNat 0), .inl (.ofNat 0), .inl (.ofNat 0), .inl (.ofNat 0), .inl (.ofNat 0), .inl (.ofNat 0), .inl (.ofNat 0), .inl (.ofNat 0), .inl (.ofNat 0), .inl (.ofNat 0), .inl (.ofNat 0), .inl (.ofNat 0), .inl (.ofNat 0), .inl (.ofNat 0), .inl (.ofNat 0), .inl (.ofNat 0), .inl (.ofNat 0), .inl (.ofNat 0), .inl (.ofNat 0), .inl (.ofNat 0), .inl (.ofNat 0), .inl (.ofNat 0), .inl (.ofNat 0), .inl (.ofNat 0), .inl (.ofNat 0), .inl (.ofNat 0), .inl (.ofNat 0), .inl (.ofNat 0), .inl (.ofNat 0), .inl (.ofNat 0), .inl (.ofNat 0), .inl (.ofNat 0), .inl (.ofNat 0), .inl (.ofNat 0), .inl (.ofNat 0), .inl (.ofNat 0), .inl (.ofNat 0), .inl (.ofNat 0), .inl (.ofNat 0), .inl (.ofNat 0), .inl (.ofNat 0), .inl (.ofNat 0), .inl (.ofNat 0), .inl (.ofNat 0), .inl (.ofNat 0), .inl (.ofNat 0), .inl (.ofNat 0), .inl (.ofNat 0), .inl (.ofNat 0), .inl (.ofNat 0), .inl (.ofNat 0), .inl (.ofNat 0), .inl (.ofNat 0), .inl (.ofNat 0), .inl (.ofNat 0), .inl (.ofNat 0), .inl (.ofNat 0)])
def hc_19 : AE := .inr (5, [.inl (.ofNat 0), .inl (.ofNat 0), .inr (.inr (.ref 20))])
def hc_20 : AE := .inl (0, [.inl (.ofNat 0), .inl (.ofNat 0), .inl (.ofNat 0), .inl (.ofNat 0), .inl (.ofNat 0), .inl (.ofNat 0), .inl (.ofNat 0), .inl (.ofNat 0), .inl (.ofNat 0), .inl (.ofNat 0), .inl (.ofNat 0), .inl (.ofNat 0), .inl (.ofNat 0), .inl (.ofNat 0), .inl (.ofNat 0), .inl (.ofNat 0), .inl (.ofNat 0), .inl (.ofNat 0), .inl (.ofNat 0), .inl (.ofNat 0), .inl (.ofNat 0), .inl (.ofNat 0), .inl (.ofNat 0), .inl (.ofNat 0), .inl (.ofNat 0), .inl (.ofNat 0), .inl (.ofNat 0), .inl (.ofNat 0), .inl (.ofNat 0), .inl (.ofNat 0), .inl (.ofNat 0), .inl (.ofNat 0), .inl (.ofNat 0), .inl (.ofNat 0), .inl (.ofNat 0), .inl (.ofNat 0), .inl (.ofNat 0), .inl (.ofNat 0), .inl (.ofNat 0), .inl (.ofNat 0), .inl (.ofNat 0), .inl (.ofNat 0), .inl (.ofNat 0), .inl (.ofNat 0), .inl (.ofNat 0), .inl (.ofNat 0), .inl (.ofNat 0), .inl (.ofNat 0), .inl (.ofNat 0), .inl (.ofNat 0), .inl (.ofNat 0), .inl (.ofNat 0), .inl (.ofNat 0), .inl (.ofNat 0), .inl (.ofNat 0), .inl (.ofNat 0), .inl (.ofNat 0), .inl (.ofNat 0), .inl (.ofNat 0), .inl (.ofNat 0), .inl (.ofNat 0), .inl (.ofNat 0), .inl (.ofNat 0), .inl (.ofNat 0)])
def hc_21 : AE := .inr (6, [.inl (.ofNat 0), .inl (.ofNat 0), .inl (.ofNat 0), .inl (.ofNat 0), .inl (.ofNat 0), .inr (.inr (.ref 22)), .inr (.inr (.ref 23)), .inr (.inr (.ref 24)), .inr (.inr (.ref 25)), .inr (.inr (.ref 26)), .inr (.inr (.ref 27)), .inr (.inr (.ref 28)), .inr (.inr (.ref 29)), .inr (.inr (.ref 30)), .inr (.inr (.ref 31)), .inr (.inr (.ref 32)), .inr (.inr (.ref 33)), .inr (.inr (.ref 34)), .inr (.inr (.ref 35)), .inr (.inr (.ref 36))])
def hc_22 : AE := .inl (0, [.inl (.ofNat 0), .inl (.ofNat 0), .inl (.ofNat 0), .inl (.ofNat 0), .inl (.ofNat 0), .inl (.ofNat 0), .inl (.ofNat 0), .inl (.ofNat 0)])
def hc_23 : AE := .inl (0, [.inl (.ofNat 0), .inl (.ofNat 0), .inl (.ofNat 0), .inl (.ofNat 0), .inl (.ofNat 0), .inl (.ofNat 0), .inl (.ofNat 0), .inl (.ofNat 0)])
def hc_24 : AE := .inl (0, [.inl (.ofNat 0), .inl (.ofNat 0), .inl (.ofNat 0), .inl (.ofNat 0), .inl (.ofNat 0), .inl (.ofNat 0), .inl (.ofNat 0), .inl (.ofNat 0)])
def hc_25 : AE := .inl (0, [.inl (.ofNat 0), .inl (.ofNat 0), .inl (.ofNat 0)])
def hc_26 : AE := .inl (0, [.inl (.ofNat 0), .inl (.ofNat 0), .inl (.ofNat 0)])
def hc_27 : AE := .inl (0, [.inl (.ofNat 0), .inl (.ofNat 0), .inl (.ofNat 0), .inl (.ofNat 0), .inl (.ofNat 0), .inl (.ofNat 0), .inl (.ofNat 0), .inl (.ofNat 0), .inl (.ofNat 0), .inl (.ofNat 0), .inl (.ofNat 0), .inl (.ofNat 0), .inl (.ofNat 0), .inl (.ofNat 0), .inl (.ofNat 0), .inl (.ofNat 0), .inl (.ofNat 0), .inl (.ofNat 0), .inl (.ofNat 0), .inl (.ofNat 0), .inl (.ofNat 0), .inl (.ofNat 0), .inl (.ofNat 0), .inl (.ofNat 0), .inl (.ofNat 0), .inl (.ofNat 0), .inl (.ofNat 0), .inl (.ofNat 0), .inl (.ofNat 0), .inl (.ofNat 0), .inl (.ofNat 0), .inl (.ofNat 0)])
def hc_28 : AE := .inl (0, [.inl (.ofNat 0), .inl (.ofNat 0), .inl (.ofNat 0), .inl (.ofNat 0), .inl (.ofNat 0), .inl (.ofNat 0), .inl (.ofNat 0), .inl (.ofNat 0), .inl (.ofNat 0), .inl (.ofNat 0), .inl (.ofNat 0), .inl (.ofNat 0)])
def hc_29 : AE := .inl (0, [.inl (.ofNat 0), .inl (.ofNat 0), .inl (.ofNat 0), .inl (.ofNat 0), .inl (.ofNat 0), .inl (.ofNat 0), .inl (.ofNat 0), .inl (.ofNat 0), .inl (.ofNat 0), .inl (.ofNat 0), .inl (.ofNat 0), .inl (.ofNat 0), .inl (.ofNat 0), .inl (.ofNat 0), .inl (.ofNat 0), .inl (.ofNat 0), .inl (.ofNat 0), .inl (.ofNat 0), .inl (.ofNat 0), .inl (.ofNat 0), .inl (.ofNat 0), .inl (.ofNat 0), .inl (.ofNat 0), .inl (.ofNat 0), .inl (.ofNat 0), .inl (.ofNat 0), .inl (.ofNat 0), .inl (.ofNat 0), .inl (.ofNat 0), .inl (.ofNat 0), .inl (.ofNat 0), .inl (.ofNat 0)])
def hc_30 : AE := .inl (0, [.inl (.ofNat 0), .inl (.ofNat 0), .inl (.ofNat 0), .inl (.ofNat 0), .inl (.ofNat 0), .inl (.ofNat 0), .inl (.ofNat 0), .inl (.ofNat 0), .inl (.ofNat 0), .inl (.ofNat 0), .inl (.ofNat 0), .inl (.ofNat 0), .inl (.ofNat 0), .inl (.ofNat 0), .inl (.ofNat 0), .inl (.ofNat 0), .inl (.ofNat 0), .inl (.ofNat 0), .inl (.ofNat 0), .inl (.ofNat 0), .inl (.ofNat 0), .inl (.ofNat 0), .inl (.ofNat 0), .inl (.ofNat 0), .inl (.ofNat 0), .inl (.ofNat 0), .inl (.ofNat 0), .inl (.ofNat 0), .inl (.ofNat 0), .inl (.ofNat 0), .inl (.ofNat 0), .inl (.ofNat 0), .inl (.ofNat 0), .inl (.ofNat 0), .inl (.ofNat 0), .inl (.ofNat 0), .inl (.ofNat 0), .inl (.ofNat 0), .inl (.ofNat 0), .inl (.ofNat 0), .inl (.ofNat 0), .inl (.ofNat 0), .inl (.ofNat 0), .inl (.ofNat 0), .inl (.ofNat 0), .inl (.ofNat 0), .inl (.ofNat 0), .inl (.ofNat 0), .inl (.ofNat 0), .inl (.ofNat 0), .inl (.ofNat 0), .inl (.ofNat 0), .inl (.ofNat 0), .inl (.ofNat 0), .inl (.ofNat 0), .inl (.ofNat 0), .inl (.ofNat 0), .inl (.ofNat 0), .inl (.ofNat 0), .inl (.ofNat 0), .inl (.ofNat 0), .inl (.ofNat 0), .inl (.ofNat 0), .inl (.ofNat 0)])
def hc_31 : AE := .inl (0, [.inl (.ofNat 0), .inl (.ofNat 0), .inl (.ofNat 0), .inl (.ofNat 0), .inl (.ofNat 0), .inl (.ofNat 0), .inl (.ofNat 0), .inl (.ofNat 0), .inl (.ofNat 0), .inl (.ofNat 0), .inl (.ofNat 0), .inl (.ofNat 0), .inl (.ofNat 0), .inl (.ofNat 0), .inl (.ofNat 0), .inl (.ofNat 0), .inl (.ofNat 0), .inl (.ofNat 0), .inl (.ofNat 0), .inl (.ofNat 0), .inl (.ofNat 0), .inl (.ofNat 0), .inl (.ofNat 0), .inl (.ofNat 0), .inl (.ofNat 0), .inl (.ofNat 0), .inl (.ofNat 0), .inl (.ofNat 0), .inl (.ofNat 0), .inl (.ofNat 0), .inl (.ofNat 0), .inl (.ofNat 0), .inl (.ofNat 0), .inl (.ofNat 0), .inl (.ofNat 0), .inl (.ofNat 0), .inl (.ofNat 0), .inl (.ofNat 0), .inl (.ofNat 0), .inl (.ofNat 0), .inl (.ofNat 0), .inl (.ofNat 0), .inl (.ofNat 0), .inl (.ofNat 0), .inl (.ofNat 0), .inl (.ofNat 0), .inl (.ofNat 0), .inl (.ofNat 0), .inl (.ofNat 0), .inl (.ofNat 0), .inl (.ofNat 0), .inl (.ofNat 0), .inl (.ofNat 0), .inl (.ofNat 0), .inl (.ofNat 0), .inl (.ofNat 0), .inl (.ofNat 0), .inl (.ofNat 0), .inl (.ofNat 0), .inl (.ofNat 0), .inl (.ofNat 0), .inl (.ofNat 0), .inl (.ofNat 0), .inl (.ofNat 0), .inl (.ofNat 0), .inl (.ofNat 0), .inl (.ofNat 0), .inl (.ofNat 0), .inl (.ofNat 0), .inl (.ofNat 0), .inl (.ofNat 0), .inl (.ofNat 0), .inl (.ofNat 0), .inl (.ofNat 0), .inl (.ofNat 0), .inl (.ofNat 0), .inl (.ofNat 0), .inl (.ofNat 0), .inl (.ofNat 0), .inl (.ofNat 0), .inl (.ofNat 0), .inl (.ofNat 0), .inl (.ofNat 0), .inl (.ofNat 0), .inl (.ofNat 0), .inl (.ofNat 0), .inl (.ofNat 0), .inl (.ofNat 0), .inl (.ofNat 0), .inl (.ofNat 0), .inl (.ofNat 0), .inl (.ofNat 0), .inl (.ofNat 0), .inl (.ofNat 0), .inl (.ofNat 0), .inl (.ofNat 0), .inl (.ofNat 0), .inl (.ofNat 0), .inl (.ofNat 0), .inl (.ofNat 0), .inl (.ofNat 0), .inl (.ofNat 0), .inl (.ofNat 0), .inl (.ofNat 0), .inl (.ofNat 0), .inl (.ofNat 0), .inl (.ofNat 0), .inl (.ofNat 0), .inl (.ofNat 0), .inl (.ofNat 0), .inl (.ofNat 0), .inl (.ofNat 0), .inl (.ofNat 0), .inl (.ofNat 0), .inl (.ofNat 0), .inl (.ofNat 0), .inl (.ofNat 0), .inl (.ofNat 0), .inl (.ofNat 0), .inl (.ofNat 0), .inl (.ofNat 0), .inl (.ofNat 0), .inl (.ofNat 0), .inl (.ofNat 0), .inl (.ofNat 0), .inl (.ofNat 0), .inl (.ofNat 0), .inl (.ofNat 0), .inl (.ofNat 0), .inl (.ofNat 0), .inl (.ofNat 0), .inl (.ofNat 0), .inl (.ofNat 0), .inl (.ofNat 0), .inl (.ofNat 0), .inl (.ofNat 0), .inl (.ofNat 0), .inl (.ofNat 0), .inl (.ofNat 0), .inl (.ofNat 0), .inl (.ofNat 0), .inl (.ofNat 0), .inl (.ofNat 0), .inl (.ofNat 0), .inl (.ofNat 0), .inl (.ofNat 0), .inl (.ofNat 0), .inl (.ofNat 0), .inl (.ofNat 0), .inl (.ofNat 0), .inl (.ofNat 0), .inl (.ofNat 0), .inl (.ofNat 0), .inl (.ofNat 0), .inl (.ofNat 0), .inl (.ofNat 0), .inl (.ofNat 0), .inl (.ofNat 0), .inl (.ofNat 0), .inl (.ofNat 0), .inl (.ofNat 0), .inl (.ofNat 0), .inl (.ofNat 0), .inl (.ofNat 0), .inl (.ofNat 0), .inl (.ofNat 0), .inl (.ofNat 0), .inl (.ofNat 0), .inl (.ofNat 0), .inl (.ofNat 0), .inl (.ofNat 0), .inl (.ofNat 0), .inl (.ofNat 0), .inl (.ofNat 0), .inl (.ofNat 0), .inl (.ofNat 0), .inl (.ofNat 0), .inl (.ofNat 0), .inl (.ofNat 0), .inl (.ofNat 0), .inl (.ofNat 0), .inl (.ofNat 0), .inl (.ofNat 0), .inl (.ofNat 0), .inl (.ofNat 0), .inl (.ofNat 0), .inl (.ofNat 0), .inl (.ofNat 0), .inl (.ofNat 0), .inl (.ofNat 0), .inl (.ofNat 0), .inl (.ofNat 0), .inl (.ofNat 0), .inl (.ofNat 0), .inl (.ofNat 0), .inl (.ofNat 0), .inl (.ofNat 0), .inl (.ofNat 0), .inl (.ofNat 0), .inl (.ofNat 0), .inl (.ofNat 0), .inl (.ofNat 0), .inl (.ofNat 0), .inl (.ofNat 0), .inl (.ofNat 0), .inl (.ofNat 0), .inl (.ofNat 0), .inl (.ofNat 0), .inl (.ofNat 0), .inl (.ofNat 0), .inl (.ofNat 0), .inl (.ofNat 0), .inl (.ofNat 0), .inl (.ofNat 0), .inl (.ofNat 0), .inl (.ofNat 0), .inl (.ofNat 0), .inl (.ofNat 0), .inl (.ofNat 0), .inl (.ofNat 0), .inl (.ofNat 0), .inl (.ofNat 0), .inl (.ofNat 0), .inl (.ofNat 0), .inl (.ofNat 0), .inl (.ofNat 0), .inl (.ofNat 0), .inl (.ofNat 0), .inl (.ofNat 0), .inl (.ofNat 0), .inl (.ofNat 0), .inl (.ofNat 0), .inl (.ofNat 0), .inl (.ofNat 0), .inl (.ofNat 0), .inl (.ofNat 0), .inl (.ofNat 0), .inl (.ofNat 0), .inl (.ofNat 0), .inl (.ofNat 0), .inl (.ofNat 0), .inl (.ofNat 0), .inl (.ofNat 0), .inl (.ofNat 0), .inl (.ofNat 0), .inl (.ofNat 0), .inl (.ofNat 0), .inl (.ofNat 0), .inl (.ofNat 0), .inl (.ofNat 0), .inl (.ofNat 0), .inl (.ofNat 0), .inl (.ofNat 0), .inl (.ofNat 0), .inl (.ofNat 0), .inl (.ofNat 0), .inl (.ofNat 0), .inl (.ofNat 0), .inl (.ofNat 0), .inl (.ofNat 0), .inl (.ofNat 0), .inl (.ofNat 0), .inl (.ofNat 0), .inl (.ofNat 0), .inl (.ofNat 0), .inl (.ofNat 0), .inl (.ofNat 0), .inl (.ofNat 0), .inl (.ofNat 0), .inl (.ofNat 0), .inl (.ofNat 0), .inl (.ofNat 0), .inl (.ofNat 0), .inl (.ofNat 0), .inl (.ofNat 0), .inl (.ofNat 0), .inl (.ofNat 0), .inl (.ofNat 0), .inl (.ofNat 0), .inl (.ofNat 0), .inl (.ofNat 0), .inl (.ofNat 0), .inl (.ofNat 0), .inl (.ofNat 0), .inl (.ofNat 0), .inl (.ofNat 0), .inl (.ofNat 0), .inl (.ofNat 0), .inl (.ofNat 0), .inl (.ofNat 0), .inl (.ofNat 0), .inl (.ofNat 0), .inl (.ofNat 0), .inl (.ofNat 0), .inl (.ofNat 0), .inl (.ofNat 0), .inl (.ofNat 0), .inl (.ofNat 0), .inl (.ofNat 0), .inl (.ofNat 0), .inl (.ofNat 0), .inl (.ofNat 0), .inl (.ofNat 0), .inl (.ofNat 0), .inl (.ofNat 0), .inl (.ofNat 0), .inl (.ofNat 0), .inl (.ofNat 0), .inl (.ofNat 0), .inl (.ofNat 0), .inl (.ofNat 0), .inl (.ofNat 0), .inl (.ofNat 0), .inl (.ofNat 0), .inl (.ofNat 0), .inl (.ofNat 0), .inl (.ofNat 0), .inl (.ofNat 0), .inl (.ofNat 0), .inl (.ofNat 0), .inl (.ofNat 0), .inl (.ofNat 0), .inl (.ofNat 0), .inl (.ofNat 0), .inl (.ofNat 0), .inl (.ofNat 0), .inl (.ofNat 0), .inl (.ofNat 0), .inl (.ofNat 0), .inl (.ofNat 0), .inl (.ofNat 0), .inl (.ofNat 0), .inl (.ofNat 0), .inl (.ofNat 0), .inl (.ofNat 0), .inl (.ofNat 0), .inl (.ofNat 0), .inl (.ofNat 0), .inl (.ofNat 0), .inl (.ofNat 0), .inl (.ofNat 0), .inl (.ofNat 0), .inl (.ofNat 0), .inl (.ofNat 0), .inl (.ofNat 0), .inl (.ofNat 0), .inl (.ofNat 0), .inl (.ofNat 0), .inl (.ofNat 0), .inl (.ofNat 0), .inl (.ofNat 0), .inl (.ofNat 0), .inl (.ofNat 0), .inl (.ofNat 0), .inl (.ofNat 0), .inl (.ofNat 0), .inl (.ofNat 0), .inl (.ofNat 0), .inl (.ofNat 0), .inl (.ofNat 0), .inl (.ofNat 0), .inl (.ofNat 0), .inl (.ofNat 0), .inl (.ofNat 0), .inl (.ofNat 0), .inl (.ofNat 0), .inl (.ofNat 0), .inl (.ofNat 0), .inl (.ofNat 0), .inl (.ofNat 0), .inl (.ofNat 0), .inl (.ofNat 0), .inl (.ofNat 0), .inl (.ofNat 0), .inl (.ofNat 0), .inl (.ofNat 0), .inl (.ofNat 0), .inl (.ofNat 0), .inl (.ofNat 0), .inl (.ofNat 0), .inl (.ofNat 0), .inl (.ofNat 0), .inl (.ofNat 0), .inl (.ofNat 0), .inl (.ofNat 0), .inl (.ofNat 0), .inl (.ofNat 0), .inl (.ofNat 0), .inl (.ofNat 0), .inl (.ofNat 0), .inl (.ofNat 0), .inl (.ofNat 0), .inl (.ofNat 0), .inl (.ofNat 0), .inl (.ofNat 0), .inl (.ofNat 0), .inl (.ofNat 0), .inl (.ofNat 0), .inl (.ofNat 0), .inl (.ofNat 0), .inl (.ofNat 0), .inl (.ofNat 0), .inl (.ofNat 0), .inl (.ofNat 0), .inl (.ofNat 0), .inl (.ofNat 0), .inl (.ofNat 0), .inl (.ofNat 0), .inl (.ofNat 0), .inl (.ofNat 0), .inl (.ofNat 0), .inl (.ofNat 0), .inl (.ofNat 0), .inl (.ofNat 0), .inl (.ofNat 0), .inl (.ofNat 0), .inl (.ofNat 0), .inl (.ofNat 0), .inl (.ofNat 0), .inl (.ofNat 0), .inl (.ofNat 0), .inl (.ofNat 0), .inl (.ofNat 0), .inl (.ofNat 0), .inl (.ofNat 0), .inl (.ofNat 0), .inl (.ofNat 0), .inl (.ofNat 0), .inl (.ofNat 0), .inl (.ofNat 0), .inl (.ofNat 0), .inl (.ofNat 0), .inl (.ofNat 0), .inl (.ofNat 0), .inl (.ofNat 0), .inl (.ofNat 0), .inl (.ofNat 0), .inl (.ofNat 0), .inl (.ofNat 0), .inl (.ofNat 0), .inl (.ofNat 0), .inl (.ofNat 0), .inl (.ofNat 0), .inl (.ofNat 0), .inl (.ofNat 0), .inl (.ofNat 0), .inl (.ofNat 0), .inl (.ofNat 0), .inl (.ofNat 0), .inl (.ofNat 0), .inl (.ofNat 0), .inl (.ofNat 0), .inl (.ofNat 0), .inl (.ofNat 0), .inl (.ofNat 0), .inl (.ofNat 0), .inl (.ofNat 0), .inl (.ofNat 0), .inl (.ofNat 0), .inl (.ofNat 0), .inl (.ofNat 0), .inl (.ofNat 0), .inl (.ofNat 0), .inl (.ofNat 0), .inl (.ofNat 0), .inl (.ofNat 0), .inl (.ofNat 0), .inl (.ofNat 0), .inl (.ofNat 0), .inl (.ofNat 0), .inl (.ofNat 0), .inl (.ofNat 0), .inl (.ofNat 0), .inl (.ofNat 0), .inl (.ofNat 0), .inl (.ofNat 0), .inl (.ofNat 0), .inl (.ofNat 0), .inl (.ofNat 0), .inl (.ofNat 0), .inl (.ofNat 0), .inl (.ofNat 0), .inl (.ofNat 0), .inl (.ofNat 0), .inl (.ofNat 0), .inl (.ofNat 0), .inl (.ofNat 0), .inl (.ofNat 0), .inl (.ofNat 0), .inl (.ofNat 0), .inl (.ofNat 0), .inl (.ofNat 0), .inl (.ofNat 0), .inl (.ofNat 0), .inl (.ofNat 0), .inl (.ofNat 0), .inl (.ofNat 0), .inl (.ofNat 0), .inl (.ofNat 0), .inl (.ofNat 0), .inl (.ofNat 0), .inl (.ofNat 0), .inl (.ofNat 0), .inl (.ofNat 0), .inl (.ofNat 0), .inl (.ofNat 0), .inl (.ofNat 0), .inl (.ofNat 0), .inl (.ofNat 0), .inl (.ofNat 0), .inl (.ofNat 0), .inl (.ofNat 0)])
def hc_32 : AE := .inl (0, [.inl (.ofNat 0), .inl (.ofNat 0), .inl (.ofNat 0), .inl (.ofNat 0), .inl (.ofNat 0), .inl (.ofNat 0), .inl (.ofNat 0), .inl (.ofNat 0)])
def hc_33 : AE := .inl (0, [.inl (.ofNat 0), .inl (.ofNat 0), .inl (.ofNat 0), .inl (.ofNat 0), .inl (.ofNat 0), .inl (.ofNat 0), .inl (.ofNat 0), .inl (.ofNat 0)])
def hc_34 : AE := .inl (0, [.inl (.ofNat 0), .inl (.ofNat 0), .inl (.ofNat 0), .inl (.ofNat 0), .inl (.ofNat 0), .inl (.ofNat 0), .inl (.ofNat 0), .inl (.ofNat 0)])
def hc_35 : AE := .inl (0, [.inl (.ofNat 0), .inl (.ofNat 0), .inl (.ofNat 0), .inl (.ofNat 0), .inl (.ofNat 0), .inl (.ofNat 0), .inl (.ofNat 0), .inl (.ofNat 0)])
def hc_36 : AE := .inl (0, [.inl (.ofNat 0), .inl (.ofNat 0), .inl (.ofNat 0), .inl (.ofNat 0), .inl (.ofNat 0), .inl (.ofNat 0), .inl (.ofNat 0), .inl (.ofNat 0)])
def hc_37 : AE := .inl (2, [.inr (.inr (.ref 38)), .inr (.inr (.ref 45)), .inr (.inr (.ref 52)), .inr (.inr (.ref 59)), .inr (.inr (.ref 66)), .inr (.inr (.ref 73)), .inr (.inr (.ref 80)), .inr (.inr (.ref 87)), .inr (.inr (.ref 94)), .inr (.inr (.ref 101)), .inr (.inr (.ref 108)), .inr (.inr (.ref 115)), .inr (.inr (.ref 122))])
def hc_38 : AE := .inr (1, [.inl (.ofNat 0), .inl (.ofNat 0), .inl (.ofNat 0), .inl (.ofNat 1), .inl (.ofNat 0), .inl (.ofNat 0), .inl (.ofNat 0), .inl (.ofNat 0), .inr (.inr (.ref 39)), .inr (.inr (.ref 40)), .inr (.inr (.ref 41)), .inr (.inr (.ref 42)), .inr (.inr (.ref 43)), .inr (.inr (.ref 44))])
def hc_39 : AE := .inl (0, [.inl (.ofNat 0), .inl (.ofNat 0), .inl (.ofNat 0), .inl (.ofNat 0), .inl (.ofNat 0), .inl (.ofNat 0), .inl (.ofNat 0), .inl (.ofNat 0)])
def hc_40 : AE := .inl (0, [.inl (.ofNat 0), .inl (.ofNat 0), .inl (.ofNat 0), .inl (.ofNat 0), .inl (.ofNat 0), .inl (.ofNat 0), .inl (.ofNat 0), .inl (.ofNat 0)])
def hc_41 : AE := .inl (0, [.inl (.ofNat 0), .inl (.ofNat 0), .inl (.ofNat 0), .inl (.ofNat 0), .inl (.ofNat 0), .inl (.ofNat 0), .inl (.ofNat 0), .inl (.ofNat 0)])
def hc_42 : AE := .inl (0, [.inl (.ofNat 0), .inl (.ofNat 0), .inl (.ofNat 0), .inl (.ofNat 0), .inl (.ofNat 0), .inl (.ofNat 0), .inl (.ofNat 0), .inl (.ofNat 0)])
def hc_43 : AE := .inl (0, [.inl (.ofNat 0), .inl (.ofNat 0), .inl (.ofNat 0), .inl (.ofNat 0), .inl (.ofNat 0), .inl (.ofNat 0), .inl (.ofNat 0), .inl (.ofNat 0)])
def hc_44 : AE := .inl (0, [.inl (.ofNat 0), .inl (.ofNat 0), .inl (.ofNat 0), .inl (.ofNat 0), .inl (.ofNat 0), .inl (.ofNat 0), .inl (.ofNat 0), .inl (.ofNat 0)])
def hc_45 : AE := .inr (1, [.inl (.ofNat 0), .inl (.ofNat 0), .inl (.ofNat 0), .inl (.ofNat 1), .inl (.ofNat 0), .inl (.ofNat 0), .inl (.ofNat 0), .inl (.ofNat 0), .inr (.inr (.ref 46)), .inr (.inr (.ref 47)), .inr (.inr (.ref 48)), .inr (.inr (.ref 49)), .inr (.inr (.ref 50)), .inr (.inr (.ref 51))])
def hc_46 : AE := .inl (0, [.inl (.ofNat 0), .inl (.ofNat 0), .inl (.ofNat 0), .inl (.ofNat 0), .inl (.ofNat 0), .inl (.ofNat 0), .inl (.ofNat 0), .inl (.ofNat 0)])
def hc_47 : AE := .inl (0, [.inl (.ofNat 0), .inl (.ofNat 0), .inl (.ofNat 0), .inl (.ofNat 0), .inl (.ofNat 0), .inl (.ofNat 0), .inl (.ofNat 0), .inl (.ofNat 0)])
def hc_48 : AE := .inl (0, [.inl (.ofNat 0), .inl (.ofNat 0), .inl (.ofNat 0), .inl (.ofNat 0), .inl (.ofNat 0), .inl (.ofNat 0), .inl (.ofNat 0), .inl (.ofNat 0)])
def hc_49 : AE := .inl (0, [.inl (.ofNat 0), .inl (.ofNat 0), .inl (.ofNat 0), .inl (.ofNat 0), .inl (.ofNat 0), .inl (.ofNat 0), .inl (.ofNat 0), .inl (.ofNat 0)])
def hc_50 : AE := .inl (0, [.inl (.ofNat 0), .inl (.ofNat 0), .inl (.ofNat 0), .inl (.ofNat 0), .inl (.ofNat 0), .inl (.ofNat 0), .inl (.ofNat 0), .inl (.ofNat 0)])
def hc_51 : AE := .inl (0, [.inl (.ofNat 0), .inl (.ofNat 0), .inl (.ofNat 0), .inl (.ofNat 0), .inl (.ofNat 0), .inl (.ofNat 0), .inl (.ofNat 0), .inl (.ofNat 0)])
def hc_52 : AE := .inr (1, [.inl (.ofNat 0), .inl (.ofNat 0), .inl (.ofNat 0), .inl (.ofNat 1), .inl (.ofNat 0), .inl (.ofNat 0), .inl (.ofNat 0), .inl (.ofNat 0), .inr (.inr (.ref 53)), .inr (.inr (.ref 54)), .inr (.inr (.ref 55)), .inr (.inr (.ref 56)), .inr (.inr (.ref 57)), .inr (.inr (.ref 58))])
def hc_53 : AE := .inl (0, [.inl (.ofNat 0), .inl (.ofNat 0), .inl (.ofNat 0), .inl (.ofNat 0), .inl (.ofNat 0), .inl (.ofNat 0), .inl (.ofNat 0), .inl (.ofNat 0)])
def hc_54 : AE := .inl (0, [.inl (.ofNat 0), .inl (.ofNat 0), .inl (.ofNat 0), .inl (.ofNat 0), .inl (.ofNat 0), .inl (.ofNat 0), .inl (.ofNat 0), .inl (.ofNat 0)])
def hc_55 : AE := .inl (0, [.inl (.ofNat 0), .inl (.ofNat 0), .inl (.ofNat 0), .inl (.ofNat 0), .inl (.ofNat 0), .inl (.ofNat 0), .inl (.ofNat 0), .inl (.ofNat 0)])
def hc_56 : AE := .inl (0, [.inl (.ofNat 0), .inl (.ofNat 0), .inl (.ofNat 0), .inl (.ofNat 0), .inl (.ofNat 0), .inl (.ofNat 0), .inl (.ofNat 0), .inl (.ofNat 0)])
def hc_57 : AE := .inl (0, [.inl (.ofNat 0), .inl (.ofNat 0), .inl (.ofNat 0), .inl (.ofNat 0), .inl (.ofNat 0), .inl (.ofNat 0), .inl (.ofNat 0), .inl (.ofNat 0)])
def hc_58 : AE := .inl (0, [.inl (.ofNat 0), .inl (.ofNat 0), .inl (.ofNat 0), .inl (.ofNat 0), .inl (.ofNat 0), .inl (.ofNat 0), .inl (.ofNat 0), .inl (.ofNat 0)])
def hc_59 : AE := .inr (1, [.inl (.ofNat 0), .inl (.ofNat 0), .inl (.ofNat 0), .inl (.ofNat 1), .inl (.ofNat 0), .inl (.ofNat 0), .inl (.ofNat 0), .inl (.ofNat 0), .inr (.inr (.ref 60)), .inr (.inr (.ref 61)), .inr (.inr (.ref 62)), .inr (.inr (.ref 63)), .inr (.inr (.ref 64)), .inr (.inr (.ref 65))])
def hc_60 : AE := .inl (0, [.inl (.ofNat 0), .inl (.ofNat 0), .inl (.ofNat 0), .inl (.ofNat 0), .inl (.ofNat 0), .inl (.ofNat 0), .inl (.ofNat 0), .inl (.ofNat 0)])
def hc_61 : AE := .inl (0, [.inl (.ofNat 0), .inl (.ofNat 0), .inl (.ofNat 0), .inl (.ofNat 0), .inl (.ofNat 0), .inl (.ofNat 0), .inl (.ofNat 0), .inl (.ofNat 0)])
def hc_62 : AE := .inl (0, [.inl (.ofNat 0), .inl (.ofNat 0), .inl (.ofNat 0), .inl (.ofNat 0), .inl (.ofNat 0), .inl (.ofNat 0), .inl (.ofNat 0), .inl (.ofNat 0)])
def hc_63 : AE := .inl (0, [.inl (.ofNat 0), .inl (.ofNat 0), .inl (.ofNat 0), .inl (.ofNat 0), .inl (.ofNat 0), .inl (.ofNat 0), .inl (.ofNat 0), .inl (.ofNat 0)])
def hc_64 : AE := .inl (0, [.inl (.ofNat 0), .inl (.ofNat 0), .inl (.ofNat 0), .inl (.ofNat 0), .inl (.ofNat 0), .inl (.ofNat 0), .inl (.ofNat 0), .inl (.ofNat 0)])
def hc_65 : AE := .inl (0, [.inl (.ofNat 0), .inl (.ofNat 0), .inl (.ofNat 0), .inl (.ofNat 0), .inl (.ofNat 0), .inl (.ofNat 0), .inl (.ofNat 0), .inl (.ofNat 0)])
def hc_66 : AE := .inr (1, [.inl (.ofNat 0), .inl (.ofNat 0), .inl (.ofNat 0), .inl (.ofNat 1), .inl (.ofNat 0), .inl (.ofNat 0), .inl (.ofNat 0), .inl (.ofNat 0), .inr (.inr (.ref 67)), .inr (.inr (.ref 68)), .inr (.inr (.ref 69)), .inr (.inr (.ref 70)), .inr (.inr (.ref 71)), .inr (.inr (.ref 72))])
def hc_67 : AE := .inl (0, [.inl (.ofNat 0), .inl (.ofNat 0), .inl (.ofNat 0), .inl (.ofNat 0), .inl (.ofNat 0), .inl (.ofNat 0), .inl (.ofNat 0), .inl (.ofNat 0)])
def hc_68 : AE := .inl (0, [.inl (.ofNat 0), .inl (.ofNat 0), .inl (.ofNat 0), .inl (.ofNat 0), .inl (.ofNat 0), .inl (.ofNat 0), .inl (.ofNat 0), .inl (.ofNat 0)])
def hc_69 : AE := .inl (0, [.inl (.ofNat 0), .inl (.ofNat 0), .inl (.ofNat 0), .inl (.ofNat 0), .inl (.ofNat 0), .inl (.ofNat 0), .inl (.ofNat 0), .inl (.ofNat 0)])
def hc_70 : AE := .inl (0, [.inl (.ofNat 0), .inl (.ofNat 0), .inl (.ofNat 0), .inl (.ofNat 0), .inl (.ofNat 0), .inl (.ofNat 0), .inl (.ofNat 0), .inl (.ofNat 0)])
def hc_71 : AE := .inl (0, [.inl (.ofNat 0), .inl (.ofNat 0), .inl (.ofNat 0), .inl (.ofNat 0), .inl (.ofNat 0), .inl (.ofNat 0), .inl (.ofNat 0), .inl (.ofNat 0)])
def hc_72 : AE := .inl (0, [.inl (.ofNat 0), .inl (.ofNat 0), .inl (.ofNat 0), .inl (.ofNat 0), .inl (.ofNat 0), .inl (.ofNat 0), .inl (.ofNat 0), .inl (.ofNat 0)])
def hc_73 : AE := .inr (1, [.inl (.ofNat 0), .inl (.ofNat 0), .inl (.ofNat 0), .inl (.ofNat 1), .inl (.ofNat 0), .inl (.ofNat 0), .inl (.ofNat 0), .inl (.ofNat 0), .inr (.inr (.ref 74)), .inr (.inr (.ref 75)), .inr (.inr (.ref 76)), .inr (.inr (.ref 77)), .inr (.inr (.ref 78)), .inr (.inr (.ref 79))])
def hc_74 : AE := .inl (0, [.inl (.ofNat 0), .inl (.ofNat 0), .inl (.ofNat 0), .inl (.ofNat 0), .inl (.ofNat 0), .inl (.ofNat 0), .inl (.ofNat 0), .inl (.ofNat 0)])
def hc_75 : AE := .inl (0, [.inl (.ofNat 0), .inl (.ofNat 0), .inl (.ofNat 0), .inl (.ofNat 0), .inl (.ofNat 0), .inl (.ofNat 0), .inl (.ofNat 0), .inl (.ofNat 0)])
def hc_76 : AE := .inl (0, [.inl (.ofNat 0), .inl (.ofNat 0), .inl (.ofNat 0), .inl (.ofNat 0), .inl (.ofNat 0), .inl (.ofNat 0), .inl (.ofNat 0), .inl (.ofNat 0)])
def hc_77 : AE := .inl (0, [.inl (.ofNat 0), .inl (.ofNat 0), .inl (.ofNat 0), .inl (.ofNat 0), .inl (.ofNat 0), .inl (.ofNat 0), .inl (.ofNat 0), .inl (.ofNat 0)])
def hc_78 : AE := .inl (0, [.inl (.ofNat 0), .inl (.ofNat 0), .inl (.ofNat 0), .inl (.ofNat 0), .inl (.ofNat 0), .inl (.ofNat 0), .inl (.ofNat 0), .inl (.ofNat 0)])
def hc_79 : AE := .inl (0, [.inl (.ofNat 0), .inl (.ofNat 0), .inl (.ofNat 0), .inl (.ofNat 0), .inl (.ofNat 0), .inl (.ofNat 0), .inl (.ofNat 0), .inl (.ofNat 0)])
def hc_80 : AE := .inr (1, [.inl (.ofNat 0), .inl (.ofNat 0), .inl (.ofNat 0), .inl (.ofNat 1), .inl (.ofNat 0), .inl (.ofNat 0), .inl (.ofNat 0), .inl (.ofNat 0), .inr (.inr (.ref 81)), .inr (.inr (.ref 82)), .inr (.inr (.ref 83)), .inr (.inr (.ref 84)), .inr (.inr (.ref 85)), .inr (.inr (.ref 86))])
def hc_81 : AE := .inl (0, [.inl (.ofNat 0), .inl (.ofNat 0), .inl (.ofNat 0), .inl (.ofNat 0), .inl (.ofNat 0), .inl (.ofNat 0), .inl (.ofNat 0), .inl (.ofNat 0)])
def hc_82 : AE := .inl (0, [.inl (.ofNat 0), .inl (.ofNat 0), .inl (.ofNat 0), .inl (.ofNat 0), .inl (.ofNat 0), .inl (.ofNat 0), .inl (.ofNat 0), .inl (.ofNat 0)])
def hc_83 : AE := .inl (0, [.inl (.ofNat 0), .inl (.ofNat 0), .inl (.ofNat 0), .inl (.ofNat 0), .inl (.ofNat 0), .inl (.ofNat 0), .inl (.ofNat 0), .inl (.ofNat 0)])
def hc_84 : AE := .inl (0, [.inl (.ofNat 0), .inl (.ofNat 0), .inl (.ofNat 0), .inl (.ofNat 0), .inl (.ofNat 0), .inl (.ofNat 0), .inl (.ofNat 0), .inl (.ofNat 0)])
def hc_85 : AE := .inl (0, [.inl (.ofNat 0), .inl (.ofNat 0), .inl (.ofNat 0), .inl (.ofNat 0), .inl (.ofNat 0), .inl (.ofNat 0), .inl (.ofNat 0), .inl (.ofNat 0)])
def hc_86 : AE := .inl (0, [.inl (.ofNat 0), .inl (.ofNat 0), .inl (.ofNat 0), .inl (.ofNat 0), .inl (.ofNat 0), .inl (.ofNat 0), .inl (.ofNat 0), .inl (.ofNat 0)])
def hc_87 : AE := .inr (1, [.inl (.ofNat 0), .inl (.ofNat 0), .inl (.ofNat 0), .inl (.ofNat 1), .inl (.ofNat 0), .inl (.ofNat 0), .inl (.ofNat 0), .inl (.ofNat 0), .inr (.inr (.ref 88)), .inr (.inr (.ref 89)), .inr (.inr (.ref 90)), .inr (.inr (.ref 91)), .inr (.inr (.ref 92)), .inr (.inr (.ref 93))])
def hc_88 : AE := .inl (0, [.inl (.ofNat 0), .inl (.ofNat 0), .inl (.ofNat 0), .inl (.ofNat 0), .inl (.ofNat 0), .inl (.ofNat 0), .inl (.ofNat 0), .inl (.ofNat 0)])
def hc_89 : AE := .inl (0, [.inl (.ofNat 0), .inl (.ofNat 0), .inl (.ofNat 0), .inl (.ofNat 0), .inl (.ofNat 0), .inl (.ofNat 0), .inl (.ofNat 0), .inl (.ofNat 0)])
def hc_90 : AE := .inl (0, [.inl (.ofNat 0), .inl (.ofNat 0), .inl (.ofNat 0), .inl (.ofNat 0), .inl (.ofNat 0), .inl (.ofNat 0), .inl (.ofNat 0), .inl (.ofNat 0)])
def hc_91 : AE := .inl (0, [.inl (.ofNat 0), .inl (.ofNat 0), .inl (.ofNat 0), .inl (.ofNat 0), .inl (.ofNat 0), .inl (.ofNat 0), .inl (.ofNat 0), .inl (.ofNat 0)])
def hc_92 : AE := .inl (0, [.inl (.ofNat 0), .inl (.ofNat 0), .inl (.ofNat 0), .inl (.ofNat 0), .inl (.ofNat 0), .inl (.ofNat 0), .inl (.ofNat 0), .inl (.ofNat 0)])
def hc_93 : AE := .inl (0, [.inl (.ofNat 0), .inl (.ofNat 0), .inl (.ofNat 0), .inl (.ofNat 0), .inl (.ofNat 0), .inl (.ofNat 0), .inl (.ofNat 0), .inl (.ofNat 0)])
def hc_94 : AE := .inr (1, [.inl (.ofNat 0), .inl (.ofNat 0), .inl (.ofNat 0), .inl (.ofNat 1), .inl (.ofNat 0), .inl (.ofNat 0), .inl (.ofNat 0), .inl (.ofNat 0), .inr (.inr (.ref 95)), .inr (.inr (.ref 96)), .inr (.inr (.ref 97)), .inr (.inr (.ref 98)), .inr (.inr (.ref 99)), .inr (.inr (.ref 100))])
def hc_95 : AE := .inl (0, [.inl (.ofNat 0), .inl (.ofNat 0), .inl (.ofNat 0), .inl (.ofNat 0), .inl (.ofNat 0), .inl (.ofNat 0), .inl (.ofNat 0), .inl (.ofNat 0)])
def hc_96 : AE := .inl (0, [.inl (.ofNat 0), .inl (.ofNat 0), .inl (.ofNat 0), .inl (.ofNat 0), .inl (.ofNat 0), .inl (.ofNat 0), .inl (.ofNat 0), .inl (.ofNat 0)])
def hc_97 : AE := .inl (0, [.inl (.ofNat 0), .inl (.ofNat 0), .inl (.ofNat 0), .inl (.ofNat 0), .inl (.ofNat 0), .inl (.ofNat 0), .inl (.ofNat 0), .inl (.ofNat 0)])
def hc_98 : AE := .inl (0, [.inl (.ofNat 0), .inl (.ofNat 0), .inl (.ofNat 0), .inl (.ofNat 0), .inl (.ofNat 0), .inl (.ofNat 0), .inl (.ofNat 0), .inl (.ofNat 0)])
def hc_99 : AE := .inl (0, [.inl (.ofNat 0), .inl (.ofNat 0), .inl (.ofNat 0), .inl (.ofNat 0), .inl (.ofNat 0), .inl (.ofNat 0), .inl (.ofNat 0), .inl (.ofNat 0)])
def hc_100 : AE := .inl (0, [.inl (.ofNat 0), .inl (.ofNat 0), .inl (.ofNat 0), .inl (.ofNat 0), .inl (.ofNat 0), .inl (.ofNat 0), .inl (.ofNat 0), .inl (.ofNat 0)])
def hc_101 : AE := .inr (1, [.inl (.ofNat 0), .inl (.ofNat 0), .inl (.ofNat 0), .inl (.ofNat 1), .inl (.ofNat 0), .inl (.ofNat 0), .inl (.ofNat 0), .inl (.ofNat 0), .inr (.inr (.ref 102)), .inr (.inr (.ref 103)), .inr (.inr (.ref 104)), .inr (.inr (.ref 105)), .inr (.inr (.ref 106)), .inr (.inr (.ref 107))])
def hc_102 : AE := .inl (0, [.inl (.ofNat 0), .inl (.ofNat 0), .inl (.ofNat 0), .inl (.ofNat 0), .inl (.ofNat 0), .inl (.ofNat 0), .inl (.ofNat 0), .inl (.ofNat 0)])
def hc_103 : AE := .inl (0, [.inl (.ofNat 0), .inl (.ofNat 0), .inl (.ofNat 0), .inl (.ofNat 0), .inl (.ofNat 0), .inl (.ofNat 0), .inl (.ofNat 0), .inl (.ofNat 0)])
def hc_104 : AE := .inl (0, [.inl (.ofNat 0), .inl (.ofNat 0), .inl (.ofNat 0), .inl (.ofNat 0), .inl (.ofNat 0), .inl (.ofNat 0), .inl (.ofNat 0), .inl (.ofNat 0)])
def hc_105 : AE := .inl (0, [.inl (.ofNat 0), .inl (.ofNat 0), .inl (.ofNat 0), .inl (.ofNat 0), .inl (.ofNat 0), .inl (.ofNat 0), .inl (.ofNat 0), .inl (.ofNat 0)])
def hc_106 : AE := .inl (0, [.inl (.ofNat 0), .inl (.ofNat 0), .inl (.ofNat 0), .inl (.ofNat 0), .inl (.ofNat 0), .inl (.ofNat 0), .inl (.ofNat 0), .inl (.ofNat 0)])
def hc_107 : AE := .inl (0, [.inl (.ofNat 0), .inl (.ofNat 0), .inl (.ofNat 0), .inl (.ofNat 0), .inl (.ofNat 0), .inl (.ofNat 0), .inl (.ofNat 0), .inl (.ofNat 0)])
def hc_108 : AE := .inr (1, [.inl (.ofNat 0), .inl (.ofNat 0), .inl (.ofNat 0), .inl (.ofNat 1), .inl (.ofNat 0), .inl (.ofNat 0), .inl (.ofNat 0), .inl (.ofNat 0), .inr (.inr (.ref 109)), .inr (.inr (.ref 110)), .inr (.inr (.ref 111)), .inr (.inr (.ref 112)), .inr (.inr (.ref 113)), .inr (.inr (.ref 114))])
def hc_109 : AE := .inl (0, [.inl (.ofNat 0), .inl (.ofNat 0), .inl (.ofNat 0), .inl (.ofNat 0), .inl (.ofNat 0), .inl (.ofNat 0), .inl (.ofNat 0), .inl (.ofNat 0)])
def hc_110 : AE := .inl (0, [.inl (.ofNat 0), .inl (.ofNat 0), .inl (.ofNat 0), .inl (.ofNat 0), .inl (.ofNat 0), .inl (.ofNat 0), .inl (.ofNat 0), .inl (.ofNat 0)])
def hc_111 : AE := .inl (0, [.inl (.ofNat 0), .inl (.ofNat 0), .inl (.ofNat 0), .inl (.ofNat 0), .inl (.ofNat 0), .inl (.ofNat 0), .inl (.ofNat 0), .inl (.ofNat 0)])
def hc_112 : AE := .inl (0, [.inl (.ofNat 0), .inl (.ofNat 0), .inl (.ofNat 0), .inl (.ofNat 0), .inl (.ofNat 0), .inl (.ofNat 0), .inl (.ofNat 0), .inl (.ofNat 0)])
def hc_113 : AE := .inl (0, [.inl (.ofNat 0), .inl (.ofNat 0), .inl (.ofNat 0), .inl (.ofNat 0), .inl (.ofNat 0), .inl (.ofNat 0), .inl (.ofNat 0), .inl (.ofNat 0)])
def hc_114 : AE := .inl (0, [.inl (.ofNat 0), .inl (.ofNat 0), .inl (.ofNat 0), .inl (.ofNat 0), .inl (.ofNat 0), .inl (.ofNat 0), .inl (.ofNat 0), .inl (.ofNat 0)])
def hc_115 : AE := .inr (1, [.inl (.ofNat 0), .inl (.ofNat 0), .inl (.ofNat 0), .inl (.ofNat 1), .inl (.ofNat 0), .inl (.ofNat 0), .inl (.ofNat 0), .inl (.ofNat 0), .inr (.inr (.ref 116)), .inr (.inr (.ref 117)), .inr (.inr (.ref 118)), .inr (.inr (.ref 119)), .inr (.inr (.ref 120)), .inr (.inr (.ref 121))])
def hc_116 : AE := .inl (0, [.inl (.ofNat 0), .inl (.ofNat 0), .inl (.ofNat 0), .inl (.ofNat 0), .inl (.ofNat 0), .inl (.ofNat 0), .inl (.ofNat 0), .inl (.ofNat 0)])
def hc_117 : AE := .inl (0, [.inl (.ofNat 0), .inl (.ofNat 0), .inl (.ofNat 0), .inl (.ofNat 0), .inl (.ofNat 0), .inl (.ofNat 0), .inl (.ofNat 0), .inl (.ofNat 0)])
def hc_118 : AE := .inl (0, [.inl (.ofNat 0), .inl (.ofNat 0), .inl (.ofNat 0), .inl (.ofNat 0), .inl (.ofNat 0), .inl (.ofNat 0), .inl (.ofNat 0), .inl (.ofNat 0)])
def hc_119 : AE := .inl (0, [.inl (.ofNat 0), .inl (.ofNat 0), .inl (.ofNat 0), .inl (.ofNat 0), .inl (.ofNat 0), .inl (.ofNat 0), .inl (.ofNat 0), .inl (.ofNat 0)])
def hc_120 : AE := .inl (0, [.inl (.ofNat 0), .inl (.ofNat 0), .inl (.ofNat 0), .inl (.ofNat 0), .inl (.ofNat 0), .inl (.ofNat 0), .inl (.ofNat 0), .inl (.ofNat 0)])
def hc_121 : AE := .inl (0, [.inl (.ofNat 0), .inl (.ofNat 0), .inl (.ofNat 0), .inl (.ofNat 0), .inl (.ofNat 0), .inl (.ofNat 0), .inl (.ofNat 0), .inl (.ofNat 0)])
def hc_122 : AE := .inr (1, [.inl (.ofNat 0), .inl (.ofNat 0), .inl (.ofNat 0), .inl (.ofNat 1), .inl (.ofNat 0), .inl (.ofNat 0), .inl (.ofNat 0), .inl (.ofNat 0), .inr (.inr (.ref 123)), .inr (.inr (.ref 124)), .inr (.inr (.ref 125)), .inr (.inr (.ref 126)), .inr (.inr (.ref 127)), .inr (.inr (.ref 128))])
def hc_123 : AE := .inl (0, [.inl (.ofNat 0), .inl (.ofNat 0), .inl (.ofNat 0), .inl (.ofNat 0), .inl (.ofNat 0), .inl (.ofNat 0), .inl (.ofNat 0), .inl (.ofNat 0)])
def hc_124 : AE := .inl (0, [.inl (.ofNat 0), .inl (.ofNat 0), .inl (.ofNat 0), .inl (.ofNat 0), .inl (.ofNat 0), .inl (.ofNat 0), .inl (.ofNat 0), .inl (.ofNat 0)])
def hc_125 : AE := .inl (0, [.inl (.ofNat 0), .inl (.ofNat 0), .inl (.ofNat 0), .inl (.ofNat 0), .inl (.ofNat 0), .inl (.ofNat 0), .inl (.ofNat 0), .inl (.ofNat 0)])
def hc_126 : AE := .inl (0, [.inl (.ofNat 0), .inl (.ofNat 0), .inl (.ofNat 0), .inl (.ofNat 0), .inl (.ofNat 0), .inl (.ofNat 0), .inl (.ofNat 0), .inl (.ofNat 0)])
def hc_127 : AE := .inl (0, [.inl (.ofNat 0), .inl (.ofNat 0), .inl (.ofNat 0), .inl (.ofNat 0), .inl (.ofNat 0), .inl (.ofNat 0), .inl (.ofNat 0), .inl (.ofNat 0)])
def hc_128 : AE := .inl (0, [.inl (.ofNat 0), .inl (.ofNat 0), .inl (.ofNat 0), .inl (.ofNat 0), .inl (.ofNat 0), .inl (.ofNat 0), .inl (.ofNat 0), .inl (.ofNat 0)])
def hc_129 : AE := .inr (2, [.inl (.ofNat 0), .inl (.ofNat 0), .inl (.ofNat 0), .inl (.ofNat 0), .inr (.inr (.ref 130)), .inr (.inr (.ref 131)), .inr (.inr (.ref 132)), .inr (.inr (.ref 133))])
def hc_130 : AE := .inl (0, [.inl (.ofNat 0), .inl (.ofNat 0), .inl (.ofNat 0), .inl (.ofNat 0), .inl (.ofNat 0), .inl (.ofNat 0), .inl (.ofNat 0), .inl (.ofNat 0)])
def hc_131 : AE := .inl (0, [.inl (.ofNat 0), .inl (.ofNat 0), .inl (.ofNat 0), .inl (.ofNat 0), .inl (.ofNat 0), .inl (.ofNat 0), .inl (.ofNat 0), .inl (.ofNat 0)])
def hc_132 : AE := .inl (0, [.inl (.ofNat 0), .inl (.ofNat 0), .inl (.ofNat 0), .inl (.ofNat 0), .inl (.ofNat 0), .inl (.ofNat 0), .inl (.ofNat 0), .inl (.ofNat 0), .inl (.ofNat 0), .inl (.ofNat 0), .inl (.ofNat 0), .inl (.ofNat 0)])
def hc_133 : AE := .inl (0, [.inl (.ofNat 0), .inl (.ofNat 0), .inl (.ofNat 0), .inl (.ofNat 0), .inl (.ofNat 0), .inl (.ofNat 0), .inl (.ofNat 0), .inl (.ofNat 0)])
def hc_134 : AE := .inr (4, [.inr (.inr (.ref 135)), .inr (.inr (.ref 138))])
def hc_135 : AE := .inl (3, [.inr (.inr (.ref 136)), .inr (.inr (.ref 137))])
def hc_136 : AE := .inl (0, [.inl (.ofNat 0), .inl (.ofNat 0), .inl (.ofNat 0), .inl (.ofNat 0), .inl (.ofNat 0), .inl (.ofNat 0), .inl (.ofNat 0), .inl (.ofNat 0), .inl (.ofNat 0), .inl (.ofNat 0), .inl (.ofNat 0), .inl (.ofNat 0), .inl (.ofNat 0), .inl (.ofNat 0), .inl (.ofNat 0), .inl (.ofNat 0), .inl (.ofNat 0), .inl (.ofNat 0), .inl (.ofNat 0), .inl (.ofNat 0), .inl (.ofNat 0), .inl (.ofNat 0), .inl (.ofNat 0), .inl (.ofNat 0), .inl (.ofNat 0), .inl (.ofNat 0), .inl (.ofNat 0), .inl (.ofNat 0), .inl (.ofNat 0), .inl (.ofNat 0), .inl (.ofNat 0), .inl (.ofNat 0), .inl (.ofNat 0), .inl (.ofNat 0), .inl (.ofNat 0), .inl (.ofNat 0), .inl (.ofNat 0), .inl (.ofNat 0), .inl (.ofNat 0), .inl (.ofNat 0), .inl (.ofNat 0), .inl (.ofNat 0), .inl (.ofNat 0), .inl (.ofNat 0), .inl (.ofNat 0), .inl (.ofNat 0), .inl (.ofNat 0), .inl (.ofNat 0), .inl (.ofNat 0), .inl (.ofNat 0), .inl (.ofNat 0), .inl (.ofNat 0), .inl (.ofNat 0), .inl (.ofNat 0), .inl (.ofNat 0), .inl (.ofNat 0), .inl (.ofNat 0), .inl (.ofNat 0), .inl (.ofNat 0), .inl (.ofNat 0), .inl (.ofNat 0), .inl (.ofNat 0), .inl (.ofNat 0), .inl (.ofNat 0)])
def hc_137 : AE := .inl (0, [.inl (.ofNat 0), .inl (.ofNat 0), .inl (.ofNat 0), .inl (.ofNat 0), .inl (.ofNat 0), .inl (.ofNat 0), .inl (.ofNat 0), .inl (.ofNat 0), .inl (.ofNat 0), .inl (.ofNat 0), .inl (.ofNat 0), .inl (.ofNat 0), .inl (.ofNat 0), .inl (.ofNat 0), .inl (.ofNat 0), .inl (.ofNat 0), .inl (.ofNat 0), .inl (.ofNat 0), .inl (.ofNat 0), .inl (.ofNat 0), .inl (.ofNat 0), .inl (.ofNat 0), .inl (.ofNat 0), .inl (.ofNat 0), .inl (.ofNat 0), .inl (.ofNat 0), .inl (.ofNat 0), .inl (.ofNat 0), .inl (.ofNat 0), .inl (.ofNat 0), .inl (.ofNat 0), .inl (.ofNat 0), .inl (.ofNat 0), .inl (.ofNat 0), .inl (.ofNat 0), .inl (.ofNat 0), .inl (.ofNat 0), .inl (.ofNat 0), .inl (.ofNat 0), .inl (.ofNat 0), .inl (.ofNat 0), .inl (.ofNat 0), .inl (.ofNat 0), .inl (.ofNat 0), .inl (.ofNat 0), .inl (.ofNat 0), .inl (.ofNat 0), .inl (.ofNat 0), .inl (.ofNat 0), .inl (.ofNat 0), .inl (.ofNat 0), .inl (.ofNat 0), .inl (.ofNat 0), .inl (.ofNat 0), .inl (.ofNat 0), .inl (.ofNat 0), .inl (.ofNat 0), .inl (.ofNat 0), .inl (.ofNat 0), .inl (.ofNat 0), .inl (.ofNat 0), .inl (.ofNat 0), .inl (.ofNat 0), .inl (.ofNat 0)])
def hc_138 : AE := .inl (0, [.inl (.ofNat 0), .inl (.ofNat 0), .inl (.ofNat 0), .inl (.ofNat 0), .inl (.ofNat 0), .inl (.ofNat 0), .inl (.ofNat 0), .inl (.ofNat 0), .inl (.ofNat 0), .inl (.ofNat 0), .inl (.ofNat 0), .inl (.ofNat 0), .inl (.ofNat 0), .inl (.ofNat 0), .inl (.ofNat 0), .inl (.ofNat 0), .inl (.ofNat 0), .inl (.ofNat 0), .inl (.ofNat 0), .inl (.ofNat 0), .inl (.ofNat 0), .inl (.ofNat 0), .inl (.ofNat 0), .inl (.ofNat 0), .inl (.ofNat 0), .inl (.ofNat 0), .inl (.ofNat 0), .inl (.ofNat 0), .inl (.ofNat 0), .inl (.ofNat 0), .inl (.ofNat 0), .inl (.ofNat 0), .inl (.ofNat 0), .inl (.ofNat 0), .inl (.ofNat 0), .inl (.ofNat 0), .inl (.ofNat 0), .inl (.ofNat 0), .inl (.ofNat 0), .inl (.ofNat 0), .inl (.ofNat 0), .inl (.ofNat 0), .inl (.ofNat 0), .inl (.ofNat 0), .inl (.ofNat 0), .inl (.ofNat 0), .inl (.ofNat 0), .inl (.ofNat 0), .inl (.ofNat 0), .inl (.ofNat 0), .inl (.ofNat 0), .inl (.ofNat 0), .inl (.ofNat 0), .inl (.ofNat 0), .inl (.ofNat 0), .inl (.ofNat 0), .inl (.ofNat 0), .inl (.ofNat 0), .inl (.ofNat 0), .inl (.ofNat 0), .inl (.ofNat 0), .inl (.ofNat 0), .inl (.ofNat 0), .inl (.ofNat 0), .inl (.ofNat 0), .inl (.ofNat 0), .inl (.ofNat 0), .inl (.ofNat 0), .inl (.ofNat 0), .inl (.ofNat 0), .inl (.ofNat 0), .inl (.ofNat 0), .inl (.ofNat 0), .inl (.ofNat 0), .inl (.ofNat 0), .inl (.ofNat 0), .inl (.ofNat 0), .inl (.ofNat 0), .inl (.ofNat 0), .inl (.ofNat 0), .inl (.ofNat 0), .inl (.ofNat 0), .inl (.ofNat 0), .inl (.ofNat 0), .inl (.ofNat 0), .inl (.ofNat 0), .inl (.ofNat 0), .inl (.ofNat 0), .inl (.ofNat 0), .inl (.ofNat 0), .inl (.ofNat 0), .inl (.ofNat 0), .inl (.ofNat 0), .inl (.ofNat 0), .inl (.ofNat 0), .inl (.ofNat 0), .inl (.ofNat 0), .inl (.ofNat 0), .inl (.ofNat 0), .inl (.ofNat 0), .inl (.ofNat 0), .inl (.ofNat 0), .inl (.ofNat 0), .inl (.ofNat 0), .inl (.ofNat 0), .inl (.ofNat 0), .inl (.ofNat 0), .inl (.ofNat 0), .inl (.ofNat 0), .inl (.ofNat 0), .inl (.ofNat 0), .inl (.ofNat 0), .inl (.ofNat 0), .inl (.ofNat 0), .inl (.ofNat 0), .inl (.ofNat 0), .inl (.ofNat 0), .inl (.ofNat 0), .inl (.ofNat 0), .inl (.ofNat 0), .inl (.ofNat 0), .inl (.ofNat 0), .inl (.ofNat 0), .inl (.ofNat 0), .inl (.ofNat 0), .inl (.ofNat 0), .inl (.ofNat 0), .inl (.ofNat 0), .inl (.ofNat 0), .inl (.ofNat 0), .inl (.ofNat 0), .inl (.ofNat 0), .inl (.ofNat 0), .inl (.ofNat 0), .inl (.ofNat 0), .inl (.ofNat 0), .inl (.ofNat 0), .inl (.ofNat 0), .inl (.ofNat 0), .inl (.ofNat 0), .inl (.ofNat 0), .inl (.ofNat 0), .inl (.ofNat 0), .inl (.ofNat 0), .inl (.ofNat 0), .inl (.ofNat 0), .inl (.ofNat 0), .inl (.ofNat 0), .inl (.ofNat 0), .inl (.ofNat 0), .inl (.ofNat 0), .inl (.ofNat 0), .inl (.ofNat 0), .inl (.ofNat 0), .inl (.ofNat 0), .inl (.ofNat 0), .inl (.ofNat 0), .inl (.ofNat 0), .inl (.ofNat 0), .inl (.ofNat 0), .inl (.ofNat 0), .inl (.ofNat 0), .inl (.ofNat 0), .inl (.ofNat 0), .inl (.ofNat 0), .inl (.ofNat 0), .inl (.ofNat 0), .inl (.ofNat 0), .inl (.ofNat 0), .inl (.ofNat 0), .inl (.ofNat 0), .inl (.ofNat 0), .inl (.ofNat 0), .inl (.ofNat 0), .inl (.ofNat 0), .inl (.ofNat 0), .inl (.ofNat 0), .inl (.ofNat 0), .inl (.ofNat 0), .inl (.ofNat 0), .inl (.ofNat 0), .inl (.ofNat 0), .inl (.ofNat 0), .inl (.ofNat 0), .inl (.ofNat 0), .inl (.ofNat 0), .inl (.ofNat 0), .inl (.ofNat 0), .inl (.ofNat 0), .inl (.ofNat 0), .inl (.ofNat 0), .inl (.ofNat 0), .inl (.ofNat 0), .inl (.ofNat 0), .inl (.ofNat 0), .inl (.ofNat 0), .inl (.ofNat 0), .inl (.ofNat 0), .inl (.ofNat 0), .inl (.ofNat 0), .inl (.ofNat 0), .inl (.ofNat 0), .inl (.ofNat 0), .inl (.ofNat 0), .inl (.ofNat 0), .inl (.ofNat 0), .inl (.ofNat 0), .inl (.ofNat 0), .inl (.ofNat 0), .inl (.ofNat 0), .inl (.ofNat 0), .inl (.ofNat 0), .inl (.ofNat 0), .inl (.ofNat 0), .inl (.ofNat 0), .inl (.ofNat 0), .inl (.ofNat 0), .inl (.ofNat 0), .inl (.ofNat 0), .inl (.ofNat 0), .inl (.ofNat 0), .inl (.ofNat 0), .inl (.ofNat 0), .inl (.ofNat 0), .inl (.ofNat 0), .inl (.ofNat 0), .inl (.ofNat 0), .inl (.ofNat 0), .inl (.ofNat 0), .inl (.ofNat 0), .inl (.ofNat 0), .inl (.ofNat 0), .inl (.ofNat 0), .inl (.ofNat 0), .inl (.ofNat 0), .inl (.ofNat 0), .inl (.ofNat 0), .inl (.ofNat 0), .inl (.ofNat 0), .inl (.ofNat 0), .inl (.ofNat 0), .inl (.ofNat 0), .inl (.ofNat 0), .inl (.ofNat 0), .inl (.ofNat 0), .inl (.ofNat 0), .inl (.ofNat 0), .inl (.ofNat 0), .inl (.ofNat 0), .inl (.ofNat 0), .inl (.ofNat 0), .inl (.ofNat 0), .inl (.ofNat 0), .inl (.ofNat 0), .inl (.ofNat 0), .inl (.ofNat 0), .inl (.ofNat 0), .inl (.ofNat 0), .inl (.ofNat 0), .inl (.ofNat 0), .inl (.ofNat 0), .inl (.ofNat 0), .inl (.ofNat 0), .inl (.ofNat 0), .inl (.ofNat 0), .inl (.ofNat 0), .inl (.ofNat 0), .inl (.ofNat 0), .inl (.ofNat 0), .inl (.ofNat 0), .inl (.ofNat 0), .inl (.ofNat 0), .inl (.ofNat 0), .inl (.ofNat 0), .inl (.ofNat 0), .inl (.ofNat 0), .inl (.ofNat 0), .inl (.ofNat 0), .inl (.ofNat 0), .inl (.ofNat 0), .inl (.ofNat 0), .inl (.ofNat 0), .inl (.ofNat 0), .inl (.ofNat 0), .inl (.ofNat 0), .inl (.ofNat 0), .inl (.ofNat 0), .inl (.ofNat 0), .inl (.ofNat 0), .inl (.ofNat 0), .inl (.ofNat 0), .inl (.ofNat 0), .inl (.ofNat 0), .inl (.ofNat 0), .inl (.ofNat 0), .inl (.ofNat 0), .inl (.ofNat 0), .inl (.ofNat 0), .inl (.ofNat 0), .inl (.ofNat 0), .inl (.ofNat 0), .inl (.ofNat 0), .inl (.ofNat 0), .inl (.ofNat 0), .inl (.ofNat 0), .inl (.ofNat 0), .inl (.ofNat 0), .inl (.ofNat 0), .inl (.ofNat 0), .inl (.ofNat 0), .inl (.ofNat 0), .inl (.ofNat 0), .inl (.ofNat 0), .inl (.ofNat 0), .inl (.ofNat 0), .inl (.ofNat 0), .inl (.ofNat 0), .inl (.ofNat 0), .inl (.ofNat 0), .inl (.ofNat 0)])
def hc_139 : AE := .inr (8, [.inr (.inr (.ref 140))])
def hc_140 : AE := .inl (0, [.inl (.ofNat 0), .inl (.ofNat 0), .inl (.ofNat 0), .inl (.ofNat 0), .inl (.ofNat 0), .inl (.ofNat 0), .inl (.ofNat 0), .inl (.ofNat 0)])
def hc_141 : AE := .inr (3, [.inr (.inr (.ref 142)), .inl (.ofNat 0), .inl (.ofNat 0)])
def hc_142 : AE := .inl (0, [.inl (.ofNat 0), .inl (.ofNat 0), .inl (.ofNat 0), .inl (.ofNat 0), .inl (.ofNat 0), .inl (.ofNat 0), .inl (.ofNat 0), .inl (.ofNat 0), .inl (.ofNat 0), .inl (.ofNat 0), .inl (.ofNat 0), .inl (.ofNat 0), .inl (.ofNat 0), .inl (.ofNat 0), .inl (.ofNat 0), .inl (.ofNat 0), .inl (.ofNat 0), .inl (.ofNat 0), .inl (.ofNat 0), .inl (.ofNat 0), .inl (.ofNat 0), .inl (.ofNat 0), .inl (.ofNat 0), .inl (.ofNat 0), .inl (.ofNat 0), .inl (.ofNat 0), .inl (.ofNat 0), .inl (.ofNat 0), .inl (.ofNat 0), .inl (.ofNat 0), .inl (.ofNat 0), .inl (.ofNat 0), .inl (.ofNat 0), .inl (.ofNat 0), .inl (.ofNat 0), .inl (.ofNat 0), .inl (.ofNat 0), .inl (.ofNat 0), .inl (.ofNat 0), .inl (.ofNat 0), .inl (.ofNat 0), .inl (.ofNat 0), .inl (.ofNat 0), .inl (.ofNat 0), .inl (.ofNat 0), .inl (.ofNat 0), .inl (.ofNat 0), .inl (.ofNat 0), .inl (.ofNat 0), .inl (.ofNat 0), .inl (.ofNat 0), .inl (.ofNat 0), .inl (.ofNat 0), .inl (.ofNat 0), .inl (.ofNat 0), .inl (.ofNat 0), .inl (.ofNat 0), .inl (.ofNat 0), .inl (.ofNat 0), .inl (.ofNat 0), .inl (.ofNat 0), .inl (.ofNat 0), .inl (.ofNat 0), .inl (.ofNat 0), .inl (.ofNat 0), .inl (.ofNat 0), .inl (.ofNat 0), .inl (.ofNat 0), .inl (.ofNat 0), .inl (.ofNat 0), .inl (.ofNat 0), .inl (.ofNat 0), .inl (.ofNat 0), .inl (.ofNat 0), .inl (.ofNat 0), .inl (.ofNat 0), .inl (.ofNat 0), .inl (.ofNat 0), .inl (.ofNat 0), .inl (.ofNat 0), .inl (.ofNat 0), .inl (.ofNat 0), .inl (.ofNat 0), .inl (.ofNat 0), .inl (.ofNat 0), .inl (.ofNat 0), .inl (.ofNat 0), .inl (.ofNat 0), .inl (.ofNat 0), .inl (.ofNat 0), .inl (.ofNat 0), .inl (.ofNat 0), .inl (.ofNat 0), .inl (.ofNat 0), .inl (.ofNat 0), .inl (.ofNat 0), .inl (.ofNat 0), .inl (.ofNat 0), .inl (.ofNat 0), .inl (.ofNat 0), .inl (.ofNat 0), .inl (.ofNat 0), .inl (.ofNat 0), .inl (.ofNat 0), .inl (.ofNat 0), .inl (.ofNat 0), .inl (.ofNat 0), .inl (.ofNat 0), .inl (.ofNat 0), .inl (.ofNat 0), .inl (.ofNat 0), .inl (.ofNat 0), .inl (.ofNat 0), .inl (.ofNat 0), .inl (.ofNat 0), .inl (.ofNat 0), .inl (.ofNat 0), .inl (.ofNat 0), .inl (.ofNat 0), .inl (.ofNat 0), .inl (.ofNat 0), .inl (.ofNat 0), .inl (.ofNat 0), .inl (.ofNat 0), .inl (.ofNat 0), .inl (.ofNat 0), .inl (.ofNat 0), .inl (.ofNat 0), .inl (.ofNat 0), .inl (.ofNat 0), .inl (.ofNat 0), .inl (.ofNat 0), .inl (.ofNat 0), .inl (.ofNat 0), .inl (.ofNat 0), .inl (.ofNat 0), .inl (.ofNat 0), .inl (.ofNat 0), .inl (.ofNat 0), .inl (.ofNat 0), .inl (.ofNat 0), .inl (.ofNat 0), .inl (.ofNat 0), .inl (.ofNat 0), .inl (.ofNat 0), .inl (.ofNat 0), .inl (.ofNat 0), .inl (.ofNat 0), .inl (.ofNat 0), .inl (.ofNat 0), .inl (.ofNat 0), .inl (.ofNat 0), .inl (.ofNat 0), .inl (.ofNat 0), .inl (.ofNat 0), .inl (.ofNat 0), .inl (.ofNat 0), .inl (.ofNat 0), .inl (.ofNat 0), .inl (.ofNat 0), .inl (.ofNat 0), .inl (.ofNat 0), .inl (.ofNat 0), .inl (.ofNat 0), .inl (.ofNat 0), .inl (.ofNat 0), .inl (.ofNat 0), .inl (.ofNat 0), .inl (.ofNat 0), .inl (.ofNat 0), .inl (.ofNat 0), .inl (.ofNat 0), .inl (.ofNat 0), .inl (.ofNat 0), .inl (.ofNat 0), .inl (.ofNat 0), .inl (.ofNat 0), .inl (.ofNat 0), .inl (.ofNat 0), .inl (.ofNat 0), .inl (.ofNat 0), .inl (.ofNat 0), .inl (.ofNat 0), .inl (.ofNat 0), .inl (.ofNat 0), .inl (.ofNat 0), .inl (.ofNat 0), .inl (.ofNat 0), .inl (.ofNat 0), .inl (.ofNat 0), .inl (.ofNat 0), .inl (.ofNat 0), .inl (.ofNat 0), .inl (.ofNat 0), .inl (.ofNat 0), .inl (.ofNat 0), .inl (.ofNat 0), .inl (.ofNat 0), .inl (.ofNat 0), .inl (.ofNat 0), .inl (.ofNat 0), .inl (.ofNat 0), .inl (.ofNat 0), .inl (.ofNat 0), .inl (.ofNat 0), .inl (.ofNat 0), .inl (.ofNat 0), .inl (.ofNat 0), .inl (.ofNat 0), .inl (.ofNat 0), .inl (.ofNat 0), .inl (.ofNat 0), .inl (.ofNat 0), .inl (.ofNat 0), .inl (.ofNat 0), .inl (.ofNat 0), .inl (.ofNat 0), .inl (.ofNat 0), .inl (.ofNat 0), .inl (.ofNat 0), .inl (.ofNat 0), .inl (.ofNat 0), .inl (.ofNat 0), .inl (.ofNat 0), .inl (.ofNat 0), .inl (.ofNat 0), .inl (.ofNat 0), .inl (.ofNat 0), .inl (.ofNat 0), .inl (.ofNat 0), .inl (.ofNat 0), .inl (.ofNat 0), .inl (.ofNat 0), .inl (.ofNat 0), .inl (.ofNat 0), .inl (.ofNat 0), .inl (.ofNat 0), .inl (.ofNat 0), .inl (.ofNat 0), .inl (.ofNat 0), .inl (.ofNat 0), .inl (.ofNat 0), .inl (.ofNat 0), .inl (.ofNat 0), .inl (.ofNat 0), .inl (.ofNat 0), .inl (.ofNat 0), .inl (.ofNat 0), .inl (.ofNat 0), .inl (.ofNat 0), .inl (.ofNat 0), .inl (.ofNat 0), .inl (.ofNat 0), .inl (.ofNat 0), .inl (.ofNat 0), .inl (.ofNat 0), .inl (.ofNat 0), .inl (.ofNat 0), .inl (.ofNat 0), .inl (.ofNat 0), .inl (.ofNat 0), .inl (.ofNat 0), .inl (.ofNat 0), .inl (.ofNat 0), .inl (.ofNat 0), .inl (.ofNat 0), .inl (.ofNat 0), .inl (.ofNat 0), .inl (.ofNat 0), .inl (.ofNat 0), .inl (.ofNat 0), .inl (.ofNat 0), .inl (.ofNat 0), .inl (.ofNat 0), .inl (.ofNat 0), .inl (.ofNat 0), .inl (.ofNat 0), .inl (.ofNat 0), .inl (.ofNat 0), .inl (.ofNat 0), .inl (.ofNat 0), .inl (.ofNat 0), .inl (.ofNat 0), .inl (.ofNat 0), .inl (.ofNat 0), .inl (.ofNat 0), .inl (.ofNat 0), .inl (.ofNat 0), .inl (.ofNat 0), .inl (.ofNat 0), .inl (.ofNat 0), .inl (.ofNat 0), .inl (.ofNat 0), .inl (.ofNat 0), .inl (.ofNat 0), .inl (.ofNat 0), .inl (.ofNat 0), .inl (.ofNat 0), .inl (.ofNat 0), .inl (.ofNat 0), .inl (.ofNat 0), .inl (.ofNat 0), .inl (.ofNat 0), .inl (.ofNat 0), .inl (.ofNat 0), .inl (.ofNat 0), .inl (.ofNat 0), .inl (.ofNat 0), .inl (.ofNat 0), .inl (.ofNat 0), .inl (.ofNat 0), .inl (.ofNat 0), .inl (.ofNat 0), .inl (.ofNat 0), .inl (.ofNat 0), .inl (.ofNat 0), .inl (.ofNat 0), .inl (.ofNat 0), .inl (.ofNat 0), .inl (.ofNat 0), .inl (.ofNat 0), .inl (.ofNat 0), .inl (.ofNat 0), .inl (.ofNat 0), .inl (.ofNat 0), .inl (.ofNat 0), .inl (.ofNat 0), .inl (.ofNat 0), .inl (.ofNat 0), .inl (.ofNat 0), .inl (.ofNat 0), .inl (.ofNat 0), .inl (.ofNat 0), .inl (.ofNat 0), .inl (.ofNat 0), .inl (.ofNat 0), .inl (.ofNat 0), .inl (.ofNat 0), .inl (.ofNat 0), .inl (.ofNat 0), .inl (.ofNat 0), .inl (.ofNat 0), .inl (.ofNat 0), .inl (.ofNat 0), .inl (.ofNat 0), .inl (.ofNat 0), .inl (.ofNat 0), .inl (.ofNat 0), .inl (.ofNat 0), .inl (.ofNat 0), .inl (.ofNat 0), .inl (.ofNat 0), .inl (.ofNat 0), .inl (.ofNat 0), .inl (.ofNat 0), .inl (.ofNat 0), .inl (.ofNat 0), .inl (.ofNat 0), .inl (.ofNat 0), .inl (.ofNat 0), .inl (.ofNat 0), .inl (.ofNat 0), .inl (.ofNat 0), .inl (.ofNat 0), .inl (.ofNat 0), .inl (.ofNat 0), .inl (.ofNat 0), .inl (.ofNat 0), .inl (.ofNat 0), .inl (.ofNat 0), .inl (.ofNat 0), .inl (.ofNat 0), .inl (.ofNat 0), .inl (.ofNat 0), .inl (.ofNat 0), .inl (.ofNat 0), .inl (.ofNat 0), .inl (.ofNat 0), .inl (.ofNat 0), .inl (.ofNat 0), .inl (.ofNat 0), .inl (.ofNat 0), .inl (.ofNat 0), .inl (.ofNat 0), .inl (.ofNat 0), .inl (.ofNat 0), .inl (.ofNat 0), .inl (.ofNat 0), .inl (.ofNat 0), .inl (.ofNat 0), .inl (.ofNat 0), .inl (.ofNat 0), .inl (.ofNat 0), .inl (.ofNat 0), .inl (.ofNat 0), .inl (.ofNat 0), .inl (.ofNat 0), .inl (.ofNat 0), .inl (.ofNat 0), .inl (.ofNat 0), .inl (.ofNat 0), .inl (.ofNat 0), .inl (.ofNat 0), .inl (.ofNat 0), .inl (.ofNat 0), .inl (.ofNat 0), .inl (.ofNat 0), .inl (.ofNat 0), .inl (.ofNat 0), .inl (.ofNat 0), .inl (.ofNat 0), .inl (.ofNat 0), .inl (.ofNat 0), .inl (.ofNat 0), .inl (.ofNat 0), .inl (.ofNat 0), .inl (.ofNat 0), .inl (.ofNat 0), .inl (.ofNat 0), .inl (.ofNat 0), .inl (.ofNat 0), .inl (.ofNat 0), .inl (.ofNat 0), .inl (.ofNat 0), .inl (.ofNat 0), .inl (.ofNat 0), .inl (.ofNat 0), .inl (.ofNat 0), .inl (.ofNat 0), .inl (.ofNat 0), .inl (.ofNat 0), .inl (.ofNat 0), .inl (.ofNat 0), .inl (.ofNat 0), .inl (.ofNat 0), .inl (.ofNat 0), .inl (.ofNat 0), .inl (.ofNat 0), .inl (.ofNat 0), .inl (.ofNat 0), .inl (.ofNat 0), .inl (.ofNat 0), .inl (.ofNat 0), .inl (.ofNat 0), .inl (.ofNat 0), .inl (.ofNat 0), .inl (.ofNat 0), .inl (.ofNat 0), .inl (.ofNat 0), .inl (.ofNat 0), .inl (.ofNat 0), .inl (.ofNat 0), .inl (.ofNat 0), .inl (.ofNat 0), .inl (.ofNat 0), .inl (.ofNat 0), .inl (.ofNat 0), .inl (.ofNat 0), .inl (.ofNat 0), .inl (.ofNat 0), .inl (.ofNat 0), .inl (.ofNat 0), .inl (.ofNat 0), .inl (.ofNat 0), .inl (.ofNat 0), .inl (.ofNat 0), .inl (.ofNat 0), .inl (.ofNat 0), .inl (.ofNat 0), .inl (.ofNat 0), .inl (.ofNat 0), .inl (.ofNat 0), .inl (.ofNat 0), .inl (.ofNat 0), .inl (.ofNat 0), .inl (.ofNat 0), .inl (.ofNat 0), .inl (.ofNat 0), .inl (.ofNat 0), .inl (.ofNat 0), .inl (.ofNat 0), .inl (.ofNat 0), .inl (.ofNat 0), .inl (.ofNat 0), .inl (.ofNat 0), .inl (.ofNat 0), .inl (.ofNat 0), .inl (.ofNat 0), .inl (.ofNat 0), .inl (.ofNat 0), .inl (.ofNat 0), .inl (.ofNat 0), .inl (.ofNat 0), .inl (.ofNat 0), .inl (.ofNat 0), .inl (.ofNat 0), .inl (.ofNat 0), .inl (.ofNat 0), .inl (.ofNat 0), .inl (.ofNat 0), .inl (.ofNat 0), .inl (.ofNat 0), .inl (.ofNat 0), .inl (.ofNat 0), .inl (.ofNat 0), .inl (.ofNat 0), .inl (.ofNat 0), .inl (.ofNat 0), .inl (.ofNat 0), .inl (.ofNat 0), .inl (.ofNat 0), .inl (.ofNat 0), .inl (.ofNat 0), .inl (.ofNat 0), .inl (.ofNat 0), .inl (.ofNat 0), .inl (.ofNat 0), .inl (.ofNat 0), .inl (.ofNat 0), .inl (.ofNat 0), .inl (.ofNat 0), .inl (.ofNat 0), .inl (.ofNat 0), .inl (.ofNat 0), .inl (.ofNat 0), .inl (.ofNat 0), .inl (.ofNat 0), .inl (.ofNat 0), .inl (.ofNat 0), .inl (.ofNat 0), .inl (.ofNat 0), .inl (.ofNat 0), .inl (.ofNat 0), .inl (.ofNat 0), .inl (.ofNat 0), .inl (.ofNat 0), .inl (.ofNat 0), .inl (.ofNat 0), .inl (.ofNat 0), .inl (.ofNat 0), .inl (.ofNat 0), .inl (.ofNat 0), .inl (.ofNat 0), .inl (.ofNat 0), .inl (.ofNat 0), .inl (.ofNat 0), .inl (.ofNat 0), .inl (.ofNat 0), .inl (.ofNat 0), .inl (.ofNat 0), .inl (.ofNat 0), .inl (.ofNat 0), .inl (.ofNat 0), .inl (.ofNat 0), .inl (.ofNat 0), .inl (.ofNat 0), .inl (.ofNat 0), .inl (.ofNat 0), .inl (.ofNat 0), .inl (.ofNat 0), .inl (.ofNat 0), .inl (.ofNat 0), .inl (.ofNat 0), .inl (.ofNat 0), .inl (.ofNat 0), .inl (.ofNat 0), .inl (.ofNat 0), .inl (.ofNat 0), .inl (.ofNat 0), .inl (.ofNat 0), .inl (.ofNat 0), .inl (.ofNat 0), .inl (.ofNat 0), .inl (.ofNat 0), .inl (.ofNat 0), .inl (.ofNat 0), .inl (.ofNat 0), .inl (.ofNat 0), .inl (.ofNat 0), .inl (.ofNat 0), .inl (.ofNat 0), .inl (.ofNat 0), .inl (.ofNat 0), .inl (.ofNat 0), .inl (.ofNat 0), .inl (.ofNat 0), .inl (.ofNat 0), .inl (.ofNat 0), .inl (.ofNat 0), .inl (.ofNat 0), .inl (.ofNat 0), .inl (.ofNat 0), .inl (.ofNat 0), .inl (.ofNat 0), .inl (.ofNat 0), .inl (.ofNat 0), .inl (.ofNat 0), .inl (.ofNat 0), .inl (.ofNat 0), .inl (.ofNat 0), .inl (.ofNat 0), .inl (.ofNat 0), .inl (.ofNat 0), .inl (.ofNat 0), .inl (.ofNat 0), .inl (.ofNat 0), .inl (.ofNat 0), .inl (.ofNat 0), .inl (.ofNat 0), .inl (.ofNat 0), .inl (.ofNat 0), .inl (.ofNat 0), .inl (.ofNat 0), .inl (.ofNat 0), .inl (.ofNat 0), .inl (.ofNat 0), .inl (.ofNat 0), .inl (.ofNat 0), .inl (.ofNat 0), .inl (.ofNat 0), .inl (.ofNat 0), .inl (.ofNat 0), .inl (.ofNat 0), .inl (.ofNat 0), .inl (.ofNat 0), .inl (.ofNat 0), .inl (.ofNat 0), .inl (.ofNat 0), .inl (.ofNat 0), .inl (.ofNat 0), .inl (.ofNat 0), .inl (.ofNat 0), .inl (.ofNat 0), .inl (.ofNat 0), .inl (.ofNat 0), .inl (.ofNat 0), .inl (.ofNat 0), .inl (.ofNat 0), .inl (.ofNat 0), .inl (.ofNat 0), .inl (.ofNat 0), .inl (.ofNat 0), .inl (.ofNat 0), .inl (.ofNat 0), .inl (.ofNat 0), .inl (.ofNat 0), .inl (.ofNat 0), .inl (.ofNat 0), .inl (.ofNat 0), .inl (.ofNat 0), .inl (.ofNat 0), .inl (.ofNat 0), .inl (.ofNat 0), .inl (.ofNat 0), .inl (.ofNat 0), .inl (.ofNat 0), .inl (.ofNat 0), .inl (.ofNat 0), .inl (.ofNat 0), .inl (.ofNat 0), .inl (.ofNat 0), .inl (.ofNat 0), .inl (.ofNat 0), .inl (.ofNat 0), .inl (.ofNat 0), .inl (.ofNat 0), .inl (.ofNat 0), .inl (.ofNat 0), .inl (.ofNat 0), .inl (.ofNat 0), .inl (.ofNat 0), .inl (.ofNat 0), .inl (.ofNat 0), .inl (.ofNat 0), .inl (.ofNat 0), .inl (.ofNat 0), .inl (.ofNat 0), .inl (.ofNat 0), .inl (.ofNat 0), .inl (.ofNat 0), .inl (.ofNat 0), .inl (.ofNat 0), .inl (.ofNat 0), .inl (.ofNat 0), .inl (.ofNat 0), .inl (.ofNat 0), .inl (.ofNat 0), .inl (.ofNat 0), .inl (.ofNat 0), .inl (.ofNat 0), .inl (.ofNat 0), .inl (.ofNat 0), .inl (.ofNat 0), .inl (.ofNat 0), .inl (.ofNat 0), .inl (.ofNat 0), .inl (.ofNat 0), .inl (.ofNat 0), .inl (.ofNat 0), .inl (.ofNat 0), .inl (.ofNat 0), .inl (.ofNat 0), .inl (.ofNat 0), .inl (.ofNat 0), .inl (.ofNat 0), .inl (.ofNat 0), .inl (.ofNat 0), .inl (.ofNat 0), .inl (.ofNat 0), .inl (.ofNat 0), .inl (.ofNat 0), .inl (.ofNat 0), .inl (.ofNat 0), .inl (.ofNat 0), .inl (.ofNat 0), .inl (.ofNat 0), .inl (.ofNat 0), .inl (.ofNat 0), .inl (.ofNat 0), .inl (.ofNat 0), .inl (.ofNat 0), .inl (.ofNat 0), .inl (.ofNat 0), .inl (.ofNat 0), .inl (.ofNat 0), .inl (.ofNat 0), .inl (.ofNat 0), .inl (.ofNat 0), .inl (.ofNat 0), .inl (.ofNat 0), .inl (.ofNat 0), .inl (.ofNat 0), .inl (.ofNat 0), .inl (.ofNat 0), .inl (.ofNat 0), .inl (.ofNat 0), .inl (.ofNat 0), .inl (.ofNat 0), .inl (.ofNat 0), .inl (.ofNat 0), .inl (.ofNat 0), .inl (.ofNat 0), .inl (.ofNat 0), .inl (.ofNat 0), .inl (.ofNat 0), .inl (.ofNat 0), .inl (.ofNat 0), .inl (.ofNat 0), .inl (.ofNat 0), .inl (.ofNat 0), .inl (.ofNat 0), .inl (.ofNat 0), .inl (.ofNat 0), .inl (.ofNat 0), .inl (.ofNat 0), .inl (.ofNat 0), .inl (.ofNat 0), .inl (.ofNat 0), .inl (.ofNat 0), .inl (.ofNat 0), .inl (.ofNat 0), .inl (.ofNat 0), .inl (.ofNat 0), .inl (.ofNat 0), .inl (.ofNat 0), .inl (.ofNat 0), .inl (.ofNat 0), .inl (.ofNat 0), .inl (.ofNat 0), .inl (.ofNat 0), .inl (.ofNat 0), .inl (.ofNat 0), .inl (.ofNat 0), .inl (.ofNat 0), .inl (.ofNat 0), .inl (.ofNat 0), .inl (.ofNat 0), .inl (.ofNat 0), .inl (.ofNat 0), .inl (.ofNat 0), .inl (.ofNat 0), .inl (.ofNat 0), .inl (.ofNat 0), .inl (.ofNat 0), .inl (.ofNat 0), .inl (.ofNat 0), .inl (.ofNat 0), .inl (.ofNat 0), .inl (.ofNat 0), .inl (.ofNat 0), .inl (.ofNat 0), .inl (.ofNat 0), .inl (.ofNat 0), .inl (.ofNat 0), .inl (.ofNat 0), .inl (.ofNat 0), .inl (.ofNat 0), .inl (.ofNat 0), .inl (.ofNat 0), .inl (.ofNat 0), .inl (.ofNat 0), .inl (.ofNat 0), .inl (.ofNat 0), .inl (.ofNat 0), .inl (.ofNat 0), .inl (.ofNat 0), .inl (.ofNat 0), .inl (.ofNat 0), .inl (.ofNat 0), .inl (.ofNat 0), .inl (.ofNat 0), .inl (.ofNat 0), .inl (.ofNat 0), .inl (.ofNat 0), .inl (.ofNat 0), .inl (.ofNat 0), .inl (.ofNat 0), .inl (.ofNat 0), .inl (.ofNat 0), .inl (.ofNat 0), .inl (.ofNat 0), .inl (.ofNat 0), .inl (.ofNat 0), .inl (.ofNat 0), .inl (.ofNat 0), .inl (.ofNat 0), .inl (.ofNat 0), .inl (.ofNat 0), .inl (.ofNat 0), .inl (.ofNat 0), .inl (.ofNat 0), .inl (.ofNat 0), .inl (.ofNat 0), .inl (.ofNat 0), .inl (.ofNat 0), .inl (.ofNat 0), .inl (.ofNat 0), .inl (.ofNat 0), .inl (.ofNat 0), .inl (.ofNat 0), .inl (.ofNat 0), .inl (.ofNat 0), .inl (.ofNat 0), .inl (.ofNat 0), .inl (.ofNat 0), .inl (.ofNat 0), .inl (.ofNat 0), .inl (.ofNat 0), .inl (.ofNat 0), .inl (.ofNat 0), .inl (.ofNat 0), .inl (.ofNat 0), .inl (.ofNat 0), .inl (.ofNat 0), .inl (.ofNat 0), .inl (.ofNat 0), .inl (.ofNat 0), .inl (.ofNat 0), .inl (.ofNat 0), .inl (.ofNat 0), .inl (.ofNat 0), .inl (.ofNat 0), .inl (.ofNat 0), .inl (.ofNat 0), .inl (.ofNat 0), .inl (.ofNat 0), .inl (.ofNat 0), .inl (.ofNat 0), .inl (.ofNat 0), .inl (.ofNat 0), .inl (.ofNat 0), .inl (.ofNat 0), .inl (.ofNat 0), .inl (.ofNat 0), .inl (.ofNat 0), .inl (.ofNat 0), .inl (.ofNat 0), .inl (.ofNat 0), .inl (.ofNat 0), .inl (.ofNat 0), .inl (.ofNat 0), .inl (.ofNat 0), .inl (.ofNat 0), .inl (.ofNat 0), .inl (.ofNat 0), .inl (.ofNat 0), .inl (.ofNat 0), .inl (.ofNat 0), .inl (.ofNat 0), .inl (.ofNat 0), .inl (.ofNat 0), .inl (.ofNat 0), .inl (.ofNat 0), .inl (.ofNat 0), .inl (.ofNat 0), .inl (.ofNat 0), .inl (.ofNat 0), .inl (.ofNat 0), .inl (.ofNat 0), .inl (.ofNat 0), .inl (.ofNat 0), .inl (.ofNat 0), .inl (.ofNat 0), .inl (.ofNat 0), .inl (.ofNat 0), .inl (.ofNat 0), .inl (.ofNat 0), .inl (.ofNat 0), .inl (.ofNat 0), .inl (.ofNat 0), .inl (.ofNat 0), .inl (.ofNat 0), .inl (.ofNat 0), .inl (.ofNat 0), .inl (.ofNat 0), .inl (.ofNat 0), .inl (.ofNat 0), .inl (.ofNat 0), .inl (.ofNat 0), .inl (.ofNat 0), .inl (.ofNat 0), .inl (.ofNat 0), .inl (.ofNat 0), .inl (.ofNat 0), .inl (.ofNat 0), .inl (.ofNat 0), .inl (.ofNat 0), .inl (.ofNat 0), .inl (.ofNat 0), .inl (.ofNat 0), .inl (.ofNat 0), .inl (.ofNat 0), .inl (.ofNat 0), .inl (.ofNat 0), .inl (.ofNat 0), .inl (.ofNat 0), .inl (.ofNat 0), .inl (.ofNat 0), .inl (.ofNat 0), .inl (.ofNat 0), .inl (.ofNat 0), .inl (.ofNat 0), .inl (.ofNat 0), .inl (.ofNat 0), .inl (.ofNat 0), .inl (.ofNat 0), .inl (.ofNat 0), .inl (.ofNat 0), .inl (.ofNat 0), .inl (.ofNat 0), .inl (.ofNat 0), .inl (.ofNat 0), .inl (.ofNat 0), .inl (.ofNat 0), .inl (.ofNat 0), .inl (.ofNat 0), .inl (.ofNat 0), .inl (.ofNat 0), .inl (.ofNat 0), .inl (.ofNat 0), .inl (.ofNat 0), .inl (.ofNat 0), .inl (.ofNat 0), .inl (.ofNat 0), .inl (.ofNat 0), .inl (.ofNat 0), .inl (.ofNat 0), .inl (.ofNat 0), .inl (.ofNat 0), .inl (.ofNat 0), .inl (.ofNat 0), .inl (.ofNat 0), .inl (.ofNat 0), .inl (.ofNat 0), .inl (.ofNat 0), .inl (.ofNat 0), .inl (.ofNat 0), .inl (.ofNat 0), .inl (.ofNat 0), .inl (.ofNat 0), .inl (.ofNat 0), .inl (.ofNat 0), .inl (.ofNat 0), .inl (.ofNat 0), .inl (.ofNat 0), .inl (.ofNat 0), .inl (.ofNat 0), .inl (.ofNat 0), .inl (.ofNat 0), .inl (.ofNat 0), .inl (.ofNat 0), .inl (.ofNat 0), .inl (.ofNat 0), .inl (.ofNat 0), .inl (.ofNat 0), .inl (.ofNat 0), .inl (.ofNat 0), .inl (.ofNat 0), .inl (.ofNat 0), .inl (.ofNat 0), .inl (.ofNat 0), .inl (.ofNat 0), .inl (.ofNat 0), .inl (.ofNat 0), .inl (.ofNat 0), .inl (.ofNat 0), .inl (.ofNat 0), .inl (.ofNat 0), .inl (.ofNat 0), .inl (.ofNat 0), .inl (.ofNat 0), .inl (.ofNat 0), .inl (.ofNat 0), .inl (.ofNat 0), .inl (.ofNat 0), .inl (.ofNat 0), .inl (.ofNat 0), .inl (.ofNat 0), .inl (.ofNat 0), .inl (.ofNat 0), .inl (.ofNat 0), .inl (.ofNat 0), .inl (.ofNat 0), .inl (.ofNat 0)])
def hc_143 : AE := .inr (10, [.inl (.ofNat 0), .inl (.ofNat 0), .inr (.inr (.ref 144)), .inr (.inr (.ref 145)), .inr (.inr (.ref 146)), .inr (.inr (.ref 147)), .inr (.inr (.ref 148)), .inr (.inr (.ref 149)), .inr (.inr (.ref 150)), .inr (.inr (.ref 151)), .inr (.inr (.ref 152)), .inr (.inr (.ref 153)), .inl (.ofNat 0), .inr (.inr (.ref 154)), .inr (.inr (.ref 155)), .inr (.inr (.ref 156)), .inr (.inr (.ref 157)), .inr (.inr (.ref 158)), .inl (.negSucc 0), .inr (.inr (.ref 159)), .inr (.inr (.ref 160)), .inr (.inr (.ref 161)), .inr (.inr (.ref 162)), .inr (.inr (.ref 163)), .inr (.inr (.ref 164)), .inl (.ofNat 0), .inr (.inr (.ref 165)), .inr (.inr (.ref 166)), .inr (.inr (.ref 167)), .inr (.inr (.ref 168)), .inr (.inr (.ref 169)), .inl (.ofNat 0), .inl (.ofNat 0), .inl (.ofNat 0), .inr (.inr (.ref 170)), .inr (.inr (.ref 171)), .inr (.inr (.ref 172))])
def hc_144 : AE := .inl (0, [.inl (.ofNat 0), .inl (.ofNat 0), .inl (.ofNat 0), .inl (.ofNat 0), .inl (.ofNat 0), .inl (.ofNat 0), .inl (.ofNat 0), .inl (.ofNat 0)])
def hc_145 : AE := .inl (0, [.inl (.ofNat 0), .inl (.ofNat 0), .inl (.ofNat 0), .inl (.ofNat 0), .inl (.ofNat 0), .inl (.ofNat 0), .inl (.ofNat 0), .inl (.ofNat 0)])
def hc_146 : AE := .inl (0, [.inl (.ofNat 0), .inl (.ofNat 0), .inl (.ofNat 0), .inl (.ofNat 0), .inl (.ofNat 0), .inl (.ofNat 0), .inl (.ofNat 0), .inl (.ofNat 0)])
def hc_147 : AE := .inl (0, [.inl (.ofNat 0), .inl (.ofNat 0), .inl (.ofNat 0), .inl (.ofNat 0), .inl (.ofNat 0), .inl (.ofNat 0), .inl (.ofNat 0), .inl (.ofNat 0)])
def hc_148 : AE := .inl (0, [.inl (.ofNat 0), .inl (.ofNat 0), .inl (.ofNat 0), .inl (.ofNat 0), .inl (.ofNat 0), .inl (.ofNat 0), .inl (.ofNat 0), .inl (.ofNat 0)])
def hc_149 : AE := .inl (0, [.inl (.ofNat 0), .inl (.ofNat 0), .inl (.ofNat 0), .inl (.ofNat 0), .inl (.ofNat 0), .inl (.ofNat 0), .inl (.ofNat 0), .inl (.ofNat 0)])
def hc_150 : AE := .inl (0, [.inl (.ofNat 0), .inl (.ofNat 0), .inl (.ofNat 1), .inl (.ofNat 0), .inl (.ofNat 2), .inl (.ofNat 2)])
def hc_151 : AE := .inl (0, [.inl (.ofNat 1), .inl (.ofNat 1), .inl (.ofNat 3), .inl (.ofNat 1), .inl (.ofNat 2), .inl (.ofNat 1)])
def hc_152 : AE := .inl (0, [.inl (.ofNat 1), .inl (.ofNat 1), .inl (.ofNat 3), .inl (.ofNat 1), .inl (.ofNat 1), .inl (.ofNat 1)])
def hc_153 : AE := .inl (0, [.inl (.ofNat 1), .inl (.ofNat 1), .inl (.ofNat 1)])
def hc_154 : AE := .inl (0, [.inl (.ofNat 0), .inl (.ofNat 0), .inl (.ofNat 0), .inl (.ofNat 0), .inl (.ofNat 0), .inl (.ofNat 0), .inl (.ofNat 0), .inl (.ofNat 0), .inl (.ofNat 0), .inl (.ofNat 0), .inl (.ofNat 0), .inl (.ofNat 0), .inl (.ofNat 0), .inl (.ofNat 0), .inl (.ofNat 0), .inl (.ofNat 0), .inl (.ofNat 0), .inl (.ofNat 0), .inl (.ofNat 0), .inl (.ofNat 0), .inl (.ofNat 0), .inl (.ofNat 0), .inl (.ofNat 0), .inl (.ofNat 0), .inl (.ofNat 0), .inl (.ofNat 0), .inl (.ofNat 0), .inl (.ofNat 0), .inl (.ofNat 0), .inl (.ofNat 0), .inl (.ofNat 0), .inl (.ofNat 0), .inl (.ofNat 0), .inl (.ofNat 0), .inl (.ofNat 0), .inl (.ofNat 0), .inl (.ofNat 0), .inl (.ofNat 0), .inl (.ofNat 0), .inl (.ofNat 0), .inl (.ofNat 0), .inl (.ofNat 0), .inl (.ofNat 0), .inl (.ofNat 0), .inl (.ofNat 0), .inl (.ofNat 0), .inl (.ofNat 0), .inl (.ofNat 0)])
def hc_155 : AE := .inl (0, [.inl (.ofNat 0), .inl (.ofNat 0), .inl (.ofNat 0), .inl (.ofNat 0), .inl (.ofNat 0), .inl (.ofNat 0), .inl (.ofNat 0), .inl (.ofNat 0), .inl (.ofNat 0), .inl (.ofNat 0), .inl (.ofNat 0), .inl (.ofNat 0), .inl (.ofNat 0), .inl (.ofNat 0), .inl (.ofNat 0), .inl (.ofNat 0), .inl (.ofNat 0), .inl (.ofNat 0), .inl (.ofNat 0), .inl (.ofNat 0), .inl (.ofNat 0), .inl (.ofNat 0), .inl (.ofNat 0), .inl (.ofNat 0), .inl (.ofNat 0), .inl (.ofNat 0), .inl (.ofNat 0), .inl (.ofNat 0), .inl (.ofNat 0), .inl (.ofNat 0), .inl (.ofNat 0), .inl (.ofNat 0), .inl (.ofNat 0), .inl (.ofNat 0), .inl (.ofNat 0), .inl (.ofNat 0), .inl (.ofNat 0), .inl (.ofNat 0), .inl (.ofNat 0), .inl (.ofNat 0), .inl (.ofNat 0), .inl (.ofNat 0), .inl (.ofNat 0), .inl (.ofNat 0), .inl (.ofNat 0), .inl (.ofNat 0), .inl (.ofNat 0), .inl (.ofNat 0)])
def hc_156 : AE := .inl (0, [.inl (.ofNat 0), .inl (.ofNat 0), .inl (.ofNat 0), .inl (.ofNat 0), .inl (.ofNat 0), .inl (.ofNat 0), .inl (.ofNat 0), .inl (.ofNat 0), .inl (.ofNat 0), .inl (.ofNat 0), .inl (.ofNat 0), .inl (.ofNat 0), .inl (.ofNat 0), .inl (.ofNat 0), .inl (.ofNat 0), .inl (.ofNat 0), .inl (.ofNat 0), .inl (.ofNat 0), .inl (.ofNat 0), .inl (.ofNat 0), .inl (.ofNat 0), .inl (.ofNat 0), .inl (.ofNat 0), .inl (.ofNat 0), .inl (.ofNat 0), .inl (.ofNat 0), .inl (.ofNat 0), .inl (.ofNat 0), .inl (.ofNat 0), .inl (.ofNat 0), .inl (.ofNat 0), .inl (.ofNat 0), .inl (.ofNat 0), .inl (.ofNat 0), .inl (.ofNat 0), .inl (.ofNat 0), .inl (.ofNat 0), .inl (.ofNat 0), .inl (.ofNat 0), .inl (.ofNat 0), .inl (.ofNat 0), .inl (.ofNat 0), .inl (.ofNat 0), .inl (.ofNat 0), .inl (.ofNat 0), .inl (.ofNat 0), .inl (.ofNat 0), .inl (.ofNat 0)])
def hc_157 : AE := .inl (0, [.inl (.ofNat 0), .inl (.ofNat 0), .inl (.ofNat 0), .inl (.ofNat 0), .inl (.ofNat 0), .inl (.ofNat 0), .inl (.ofNat 0), .inl (.ofNat 0), .inl (.ofNat 0), .inl (.ofNat 0), .inl (.ofNat 0), .inl (.ofNat 0), .inl (.ofNat 0), .inl (.ofNat 0), .inl (.ofNat 0), .inl (.ofNat 0), .inl (.ofNat 0), .inl (.ofNat 0), .inl (.ofNat 0), .inl (.ofNat 0), .inl (.ofNat 0), .inl (.ofNat 0), .inl (.ofNat 0), .inl (.ofNat 0), .inl (.ofNat 0), .inl (.ofNat 0), .inl (.ofNat 0), .inl (.ofNat 0), .inl (.ofNat 0), .inl (.ofNat 0), .inl (.ofNat 0), .inl (.ofNat 0), .inl (.ofNat 0), .inl (.ofNat 0), .inl (.ofNat 0), .inl (.ofNat 0), .inl (.ofNat 0), .inl (.ofNat 0), .inl (.ofNat 0), .inl (.ofNat 0), .inl (.ofNat 0), .inl (.ofNat 0), .inl (.ofNat 0), .inl (.ofNat 0), .inl (.ofNat 0), .inl (.ofNat 0), .inl (.ofNat 0), .inl (.ofNat 0)])
def hc_158 : AE := .inl (0, [.inl (.ofNat 0), .inl (.ofNat 0), .inl (.ofNat 0), .inl (.ofNat 0), .inl (.ofNat 0), .inl (.ofNat 0), .inl (.ofNat 0), .inl (.ofNat 0), .inl (.ofNat 0), .inl (.ofNat 0), .inl (.ofNat 0), .inl (.ofNat 0), .inl (.ofNat 0), .inl (.ofNat 0), .inl (.ofNat 0), .inl (.ofNat 0), .inl (.ofNat 0), .inl (.ofNat 0), .inl (.ofNat 0), .inl (.ofNat 0), .inl (.ofNat 0), .inl (.ofNat 0), .inl (.ofNat 0), .inl (.ofNat 0), .inl (.ofNat 0), .inl (.ofNat 0), .inl (.ofNat 0), .inl (.ofNat 0), .inl (.ofNat 0), .inl (.ofNat 0), .inl (.ofNat 0), .inl (.ofNat 0), .inl (.ofNat 0), .inl (.ofNat 0), .inl (.ofNat 0), .inl (.ofNat 0), .inl (.ofNat 0), .inl (.ofNat 0), .inl (.ofNat 0), .inl (.ofNat 0), .inl (.ofNat 0), .inl (.ofNat 0), .inl (.ofNat 0), .inl (.ofNat 0), .inl (.ofNat 0), .inl (.ofNat 0), .inl (.ofNat 0), .inl (.ofNat 0), .inl (.ofNat 0), .inl (.ofNat 0), .inl (.ofNat 0), .inl (.ofNat 0), .inl (.ofNat 0), .inl (.ofNat 0), .inl (.ofNat 0), .inl (.ofNat 0), .inl (.ofNat 0), .inl (.ofNat 0), .inl (.ofNat 0), .inl (.ofNat 0), .inl (.ofNat 0), .inl (.ofNat 0), .inl (.ofNat 0), .inl (.ofNat 0)])
def hc_159 : AE := .inl (0, [.inl (.ofNat 0), .inl (.ofNat 0), .inl (.ofNat 0), .inl (.ofNat 0), .inl (.ofNat 0), .inl (.ofNat 0), .inl (.ofNat 0), .inl (.ofNat 0), .inl (.ofNat 0), .inl (.ofNat 0), .inl (.ofNat 0), .inl (.ofNat 0), .inl (.ofNat 0), .inl (.ofNat 0), .inl (.ofNat 0), .inl (.ofNat 0), .inl (.ofNat 0), .inl (.ofNat 0), .inl (.ofNat 0), .inl (.ofNat 0), .inl (.ofNat 0), .inl (.ofNat 0), .inl (.ofNat 0), .inl (.ofNat 0), .inl (.ofNat 0), .inl (.ofNat 0), .inl (.ofNat 0), .inl (.ofNat 0), .inl (.ofNat 0), .inl (.ofNat 0), .inl (.ofNat 0), .inl (.ofNat 0), .inl (.ofNat 0), .inl (.ofNat 0), .inl (.ofNat 0), .inl (.ofNat 0)])
def hc_160 : AE := .inl (0, [.inl (.ofNat 0), .inl (.ofNat 0), .inl (.ofNat 0), .inl (.ofNat 0), .inl (.ofNat 0), .inl (.ofNat 0), .inl (.ofNat 0), .inl (.ofNat 0)])
def hc_161 : AE := .inl (0, [.inl (.ofNat 0), .inl (.ofNat 0), .inl (.ofNat 0), .inl (.ofNat 0), .inl (.ofNat 0), .inl (.ofNat 0), .inl (.ofNat 0), .inl (.ofNat 0)])
def hc_162 : AE := .inl (0, [.inl (.ofNat 0), .inl (.ofNat 0), .inl (.ofNat 0), .inl (.ofNat 0), .inl (.ofNat 0), .inl (.ofNat 0), .inl (.ofNat 0), .inl (.ofNat 0), .inl (.ofNat 0), .inl (.ofNat 0), .inl (.ofNat 0), .inl (.ofNat 0), .inl (.ofNat 0), .inl (.ofNat 0), .inl (.ofNat 0), .inl (.ofNat 0), .inl (.ofNat 0), .inl (.ofNat 0), .inl (.ofNat 0), .inl (.ofNat 0), .inl (.ofNat 0), .inl (.ofNat 0), .inl (.ofNat 0), .inl (.ofNat 0), .inl (.ofNat 0), .inl (.ofNat 0), .inl (.ofNat 0), .inl (.ofNat 0), .inl (.ofNat 0), .inl (.ofNat 0), .inl (.ofNat 0), .inl (.ofNat 0), .inl (.ofNat 0), .inl (.ofNat 0), .inl (.ofNat 0), .inl (.ofNat 0), .inl (.ofNat 0), .inl (.ofNat 0), .inl (.ofNat 0), .inl (.ofNat 0), .inl (.ofNat 0), .inl (.ofNat 0), .inl (.ofNat 0), .inl (.ofNat 0), .inl (.ofNat 0), .inl (.ofNat 0), .inl (.ofNat 0), .inl (.ofNat 0), .inl (.ofNat 0), .inl (.ofNat 0), .inl (.ofNat 0), .inl (.ofNat 0), .inl (.ofNat 0), .inl (.ofNat 0), .inl (.ofNat 0), .inl (.ofNat 0), .inl (.ofNat 0), .inl (.ofNat 0), .inl (.ofNat 0), .inl (.ofNat 0), .inl (.ofNat 0), .inl (.ofNat 0), .inl (.ofNat 0), .inl (.ofNat 0)])
def hc_163 : AE := .inl (0, [.inl (.ofNat 0), .inl (.ofNat 0), .inl (.ofNat 0), .inl (.ofNat 0), .inl (.ofNat 0), .inl (.ofNat 0), .inl (.ofNat 0), .inl (.ofNat 0)])
def hc_164 : AE := .inl (0, [.inl (.ofNat 0), .inl (.ofNat 0), .inl (.ofNat 0), .inl (.ofNat 0), .inl (.ofNat 0), .inl (.ofNat 0), .inl (.ofNat 0), .inl (.ofNat 0)])
def hc_165 : AE := .inl (0, [.inl (.ofNat 0), .inl (.ofNat 0), .inl (.ofNat 0), .inl (.ofNat 0), .inl (.ofNat 0), .inl (.ofNat 0), .inl (.ofNat 0), .inl (.ofNat 0), .inl (.ofNat 0), .inl (.ofNat 0), .inl (.ofNat 0), .inl (.ofNat 0), .inl (.ofNat 0), .inl (.ofNat 0), .inl (.ofNat 0), .inl (.ofNat 0), .inl (.ofNat 0), .inl (.ofNat 0), .inl (.ofNat 0), .inl (.ofNat 0), .inl (.ofNat 0), .inl (.ofNat 0), .inl (.ofNat 0), .inl (.ofNat 0), .inl (.ofNat 0), .inl (.ofNat 0), .inl (.ofNat 0), .inl (.ofNat 0), .inl (.ofNat 0), .inl (.ofNat 0), .inl (.ofNat 0), .inl (.ofNat 0), .inl (.ofNat 0), .inl (.ofNat 0), .inl (.ofNat 0), .inl (.ofNat 0), .inl (.ofNat 0), .inl (.ofNat 0), .inl (.ofNat 0), .inl (.ofNat 0), .inl (.ofNat 0), .inl (.ofNat 0), .inl (.ofNat 0), .inl (.ofNat 0), .inl (.ofNat 0), .inl (.ofNat 0), .inl (.ofNat 0), .inl (.ofNat 0), .inl (.ofNat 0), .inl (.ofNat 0), .inl (.ofNat 0), .inl (.ofNat 0), .inl (.ofNat 0), .inl (.ofNat 0), .inl (.ofNat 0), .inl (.ofNat 0), .inl (.ofNat 0), .inl (.ofNat 0), .inl (.ofNat 0), .inl (.ofNat 0), .inl (.ofNat 0), .inl (.ofNat 0), .inl (.ofNat 0), .inl (.ofNat 0), .inl (.ofNat 0), .inl (.ofNat 0), .inl (.ofNat 0), .inl (.ofNat 0), .inl (.ofNat 0), .inl (.ofNat 0), .inl (.ofNat 0), .inl (.ofNat 0), .inl (.ofNat 0), .inl (.ofNat 0), .inl (.ofNat 0), .inl (.ofNat 0), .inl (.ofNat 0), .inl (.ofNat 0), .inl (.ofNat 0), .inl (.ofNat 0), .inl (.ofNat 0), .inl (.ofNat 0), .inl (.ofNat 0), .inl (.ofNat 0), .inl (.ofNat 0), .inl (.ofNat 0), .inl (.ofNat 0), .inl (.ofNat 0), .inl (.ofNat 0), .inl (.ofNat 0), .inl (.ofNat 0), .inl (.ofNat 0), .inl (.ofNat 0), .inl (.ofNat 0), .inl (.ofNat 0), .inl (.ofNat 0), .inl (.ofNat 0), .inl (.ofNat 0), .inl (.ofNat 0), .inl (.ofNat 0), .inl (.ofNat 0), .inl (.ofNat 0), .inl (.ofNat 0), .inl (.ofNat 0), .inl (.ofNat 0), .inl (.ofNat 0), .inl (.ofNat 0), .inl (.ofNat 0), .inl (.ofNat 0), .inl (.ofNat 0), .inl (.ofNat 0), .inl (.ofNat 0), .inl (.ofNat 0), .inl (.ofNat 0), .inl (.ofNat 0), .inl (.ofNat 0), .inl (.ofNat 0), .inl (.ofNat 0), .inl (.ofNat 0), .inl (.ofNat 0), .inl (.ofNat 0), .inl (.ofNat 0), .inl (.ofNat 0), .inl (.ofNat 0), .inl (.ofNat 0), .inl (.ofNat 0), .inl (.ofNat 0), .inl (.ofNat 0)])
def hc_166 : AE := .inl (0, [.inl (.ofNat 0), .inl (.ofNat 0), .inl (.ofNat 0), .inl (.ofNat 0), .inl (.ofNat 0), .inl (.ofNat 0), .inl (.ofNat 0), .inl (.ofNat 0), .inl (.ofNat 0), .inl (.ofNat 0), .inl (.ofNat 0), .inl (.ofNat 0), .inl (.ofNat 0), .inl (.ofNat 0), .inl (.ofNat 0), .inl (.ofNat 0), .inl (.ofNat 0), .inl (.ofNat 0), .inl (.ofNat 0), .inl (.ofNat 0), .inl (.ofNat 0), .inl (.ofNat 0), .inl (.ofNat 0), .inl (.ofNat 0), .inl (.ofNat 0), .inl (.ofNat 0), .inl (.ofNat 0), .inl (.ofNat 0), .inl (.ofNat 0), .inl (.ofNat 0), .inl (.ofNat 0), .inl (.ofNat 0), .inl (.ofNat 0), .inl (.ofNat 0), .inl (.ofNat 0), .inl (.ofNat 0), .inl (.ofNat 0), .inl (.ofNat 0), .inl (.ofNat 0), .inl (.ofNat 0), .inl (.ofNat 0), .inl (.ofNat 0), .inl (.ofNat 0), .inl (.ofNat 0), .inl (.ofNat 0), .inl (.ofNat 0), .inl (.ofNat 0), .inl (.ofNat 0), .inl (.ofNat 0), .inl (.ofNat 0), .inl (.ofNat 0), .inl (.ofNat 0), .inl (.ofNat 0), .inl (.ofNat 0), .inl (.ofNat 0), .inl (.ofNat 0), .inl (.ofNat 0), .inl (.ofNat 0), .inl (.ofNat 0), .inl (.ofNat 0), .inl (.ofNat 0), .inl (.ofNat 0), .inl (.ofNat 0), .inl (.ofNat 0), .inl (.ofNat 0), .inl (.ofNat 0), .inl (.ofNat 0), .inl (.ofNat 0), .inl (.ofNat 0), .inl (.ofNat 0), .inl (.ofNat 0), .inl (.ofNat 0), .inl (.ofNat 0), .inl (.ofNat 0), .inl (.ofNat 0), .inl (.ofNat 0), .inl (.ofNat 0), .inl (.ofNat 0), .inl (.ofNat 0), .inl (.ofNat 0), .inl (.ofNat 0), .inl (.ofNat 0), .inl (.ofNat 0), .inl (.ofNat 0), .inl (.ofNat 0), .inl (.ofNat 0), .inl (.ofNat 0), .inl (.ofNat 0), .inl (.ofNat 0), .inl (.ofNat 0), .inl (.ofNat 0), .inl (.ofNat 0), .inl (.ofNat 0), .inl (.ofNat 0), .inl (.ofNat 0), .inl (.ofNat 0), .inl (.ofNat 0), .inl (.ofNat 0), .inl (.ofNat 0), .inl (.ofNat 0), .inl (.ofNat 0), .inl (.ofNat 0), .inl (.ofNat 0), .inl (.ofNat 0), .inl (.ofNat 0), .inl (.ofNat 0), .inl (.ofNat 0), .inl (.ofNat 0), .inl (.ofNat 0), .inl (.ofNat 0), .inl (.ofNat 0), .inl (.ofNat 0), .inl (.ofNat 0), .inl (.ofNat 0), .inl (.ofNat 0), .inl (.ofNat 0), .inl (.ofNat 0), .inl (.ofNat 0), .inl (.ofNat 0), .inl (.ofNat 0), .inl (.ofNat 0), .inl (.ofNat 0), .inl (.ofNat 0), .inl (.ofNat 0), .inl (.ofNat 0), .inl (.ofNat 0), .inl (.ofNat 0), .inl (.ofNat 0), .inl (.ofNat 0), .inl (.ofNat 0), .inl (.ofNat 0), .inl (.ofNat 0), .inl (.ofNat 0), .inl (.ofNat 0), .inl (.ofNat 0), .inl (.ofNat 0), .inl (.ofNat 0), .inl (.ofNat 0), .inl (.ofNat 0), .inl (.ofNat 0), .inl (.ofNat 0), .inl (.ofNat 0), .inl (.ofNat 0), .inl (.ofNat 0), .inl (.ofNat 0), .inl (.ofNat 0), .inl (.ofNat 0), .inl (.ofNat 0), .inl (.ofNat 0), .inl (.ofNat 0), .inl (.ofNat 0), .inl (.ofNat 0), .inl (.ofNat 0), .inl (.ofNat 0), .inl (.ofNat 0), .inl (.ofNat 0), .inl (.ofNat 0), .inl (.ofNat 0), .inl (.ofNat 0), .inl (.ofNat 0), .inl (.ofNat 0), .inl (.ofNat 0), .inl (.ofNat 0), .inl (.ofNat 0), .inl (.ofNat 0), .inl (.ofNat 0), .inl (.ofNat 0), .inl (.ofNat 0), .inl (.ofNat 0), .inl (.ofNat 0), .inl (.ofNat 0), .inl (.ofNat 0), .inl (.ofNat 0), .inl (.ofNat 0), .inl (.ofNat 0), .inl (.ofNat 0), .inl (.ofNat 0), .inl (.ofNat 0), .inl (.ofNat 0), .inl (.ofNat 0), .inl (.ofNat 0), .inl (.ofNat 0), .inl (.ofNat 0), .inl (.ofNat 0), .inl (.ofNat 0), .inl (.ofNat 0), .inl (.ofNat 0), .inl (.ofNat 0), .inl (.ofNat 0), .inl (.ofNat 0), .inl (.ofNat 0), .inl (.ofNat 0), .inl (.ofNat 0), .inl (.ofNat 0), .inl (.ofNat 0), .inl (.ofNat 0), .inl (.ofNat 0), .inl (.ofNat 0), .inl (.ofNat 0), .inl (.ofNat 0), .inl (.ofNat 0), .inl (.ofNat 0), .inl (.ofNat 0), .inl (.ofNat 0), .inl (.ofNat 0), .inl (.ofNat 0), .inl (.ofNat 0), .inl (.ofNat 0), .inl (.ofNat 0), .inl (.ofNat 0), .inl (.ofNat 0), .inl (.ofNat 0), .inl (.ofNat 0), .inl (.ofNat 0), .inl (.ofNat 0), .inl (.ofNat 0), .inl (.ofNat 0), .inl (.ofNat 0), .inl (.ofNat 0), .inl (.ofNat 0), .inl (.ofNat 0), .inl (.ofNat 0), .inl (.ofNat 0), .inl (.ofNat 0), .inl (.ofNat 0), .inl (.ofNat 0), .inl (.ofNat 0), .inl (.ofNat 0), .inl (.ofNat 0), .inl (.ofNat 0), .inl (.ofNat 0), .inl (.ofNat 0), .inl (.ofNat 0), .inl (.ofNat 0), .inl (.ofNat 0), .inl (.ofNat 0), .inl (.ofNat 0), .inl (.ofNat 0), .inl (.ofNat 0), .inl (.ofNat 0), .inl (.ofNat 0), .inl (.ofNat 0), .inl (.ofNat 0), .inl (.ofNat 0), .inl (.ofNat 0), .inl (.ofNat 0), .inl (.ofNat 0), .inl (.ofNat 0), .inl (.ofNat 0), .inl (.ofNat 0), .inl (.ofNat 0), .inl (.ofNat 0), .inl (.ofNat 0), .inl (.ofNat 0), .inl (.ofNat 0), .inl (.ofNat 0), .inl (.ofNat 0), .inl (.ofNat 0), .inl (.ofNat 0), .inl (.ofNat 0), .inl (.ofNat 0), .inl (.ofNat 0), .inl (.ofNat 0), .inl (.ofNat 0), .inl (.ofNat 0), .inl (.ofNat 0), .inl (.ofNat 0), .inl (.ofNat 0), .inl (.ofNat 0), .inl (.ofNat 0), .inl (.ofNat 0), .inl (.ofNat 0), .inl (.ofNat 0), .inl (.ofNat 0), .inl (.ofNat 0), .inl (.ofNat 0), .inl (.ofNat 0), .inl (.ofNat 0), .inl (.ofNat 0), .inl (.ofNat 0), .inl (.ofNat 0), .inl (.ofNat 0), .inl (.ofNat 0), .inl (.ofNat 0), .inl (.ofNat 0), .inl (.ofNat 0), .inl (.ofNat 0), .inl (.ofNat 0), .inl (.ofNat 0), .inl (.ofNat 0), .inl (.ofNat 0), .inl (.ofNat 0), .inl (.ofNat 0), .inl (.ofNat 0), .inl (.ofNat 0), .inl (.ofNat 0), .inl (.ofNat 0), .inl (.ofNat 0), .inl (.ofNat 0), .inl (.ofNat 0), .inl (.ofNat 0), .inl (.ofNat 0), .inl (.ofNat 0), .inl (.ofNat 0), .inl (.ofNat 0), .inl (.ofNat 0), .inl (.ofNat 0), .inl (.ofNat 0), .inl (.ofNat 0), .inl (.ofNat 0), .inl (.ofNat 0), .inl (.ofNat 0), .inl (.ofNat 0), .inl (.ofNat 0), .inl (.ofNat 0), .inl (.ofNat 0), .inl (.ofNat 0), .inl (.ofNat 0), .inl (.ofNat 0), .inl (.ofNat 0), .inl (.ofNat 0), .inl (.ofNat 0), .inl (.ofNat 0), .inl (.ofNat 0), .inl (.ofNat 0), .inl (.ofNat 0), .inl (.ofNat 0), .inl (.ofNat 0), .inl (.ofNat 0), .inl (.ofNat 0), .inl (.ofNat 0), .inl (.ofNat 0), .inl (.ofNat 0), .inl (.ofNat 0), .inl (.ofNat 0), .inl (.ofNat 0), .inl (.ofNat 0), .inl (.ofNat 0), .inl (.ofNat 0), .inl (.ofNat 0), .inl (.ofNat 0), .inl (.ofNat 0), .inl (.ofNat 0), .inl (.ofNat 0), .inl (.ofNat 0), .inl (.ofNat 0), .inl (.ofNat 0), .inl (.ofNat 0), .inl (.ofNat 0), .inl (.ofNat 0), .inl (.ofNat 0), .inl (.ofNat 0), .inl (.ofNat 0), .inl (.ofNat 0), .inl (.ofNat 0), .inl (.ofNat 0), .inl (.ofNat 0), .inl (.ofNat 0), .inl (.ofNat 0), .inl (.ofNat 0), .inl (.ofNat 0), .inl (.ofNat 0), .inl (.ofNat 0), .inl (.ofNat 0), .inl (.ofNat 0), .inl (.ofNat 0), .inl (.ofNat 0), .inl (.ofNat 0), .inl (.ofNat 0), .inl (.ofNat 0), .inl (.ofNat 0), .inl (.ofNat 0), .inl (.ofNat 0), .inl (.ofNat 0), .inl (.ofNat 0), .inl (.ofNat 0), .inl (.ofNat 0), .inl (.ofNat 0), .inl (.ofNat 0), .inl (.ofNat 0), .inl (.ofNat 0), .inl (.ofNat 0), .inl (.ofNat 0), .inl (.ofNat 0), .inl (.ofNat 0), .inl (.ofNat 0), .inl (.ofNat 0), .inl (.ofNat 0), .inl (.ofNat 0), .inl (.ofNat 0), .inl (.ofNat 0), .inl (.ofNat 0), .inl (.ofNat 0), .inl (.ofNat 0), .inl (.ofNat 0), .inl (.ofNat 0), .inl (.ofNat 0), .inl (.ofNat 0), .inl (.ofNat 0), .inl (.ofNat 0), .inl (.ofNat 0), .inl (.ofNat 0), .inl (.ofNat 0), .inl (.ofNat 0), .inl (.ofNat 0), .inl (.ofNat 0), .inl (.ofNat 0), .inl (.ofNat 0), .inl (.ofNat 0), .inl (.ofNat 0), .inl (.ofNat 0), .inl (.ofNat 0), .inl (.ofNat 0), .inl (.ofNat 0), .inl (.ofNat 0), .inl (.ofNat 0), .inl (.ofNat 0), .inl (.ofNat 0), .inl (.ofNat 0), .inl (.ofNat 0), .inl (.ofNat 0), .inl (.ofNat 0), .inl (.ofNat 0), .inl (.ofNat 0), .inl (.ofNat 0), .inl (.ofNat 0), .inl (.ofNat 0), .inl (.ofNat 0), .inl (.ofNat 0), .inl (.ofNat 0), .inl (.ofNat 0), .inl (.ofNat 0), .inl (.ofNat 0), .inl (.ofNat 0), .inl (.ofNat 0), .inl (.ofNat 0), .inl (.ofNat 0), .inl (.ofNat 0), .inl (.ofNat 0), .inl (.ofNat 0), .inl (.ofNat 0), .inl (.ofNat 0), .inl (.ofNat 0), .inl (.ofNat 0), .inl (.ofNat 0), .inl (.ofNat 0), .inl (.ofNat 0), .inl (.ofNat 0), .inl (.ofNat 0), .inl (.ofNat 0), .inl (.ofNat 0), .inl (.ofNat 0), .inl (.ofNat 0), .inl (.ofNat 0), .inl (.ofNat 0), .inl (.ofNat 0), .inl (.ofNat 0), .inl (.ofNat 0), .inl (.ofNat 0), .inl (.ofNat 0), .inl (.ofNat 0), .inl (.ofNat 0), .inl (.ofNat 0), .inl (.ofNat 0), .inl (.ofNat 0), .inl (.ofNat 0), .inl (.ofNat 0), .inl (.ofNat 0), .inl (.ofNat 0), .inl (.ofNat 0), .inl (.ofNat 0), .inl (.ofNat 0), .inl (.ofNat 0), .inl (.ofNat 0), .inl (.ofNat 0), .inl (.ofNat 0), .inl (.ofNat 0), .inl (.ofNat 0), .inl (.ofNat 0), .inl (.ofNat 0), .inl (.ofNat 0), .inl (.ofNat 0), .inl (.ofNat 0), .inl (.ofNat 0), .inl (.ofNat 0), .inl (.ofNat 0), .inl (.ofNat 0), .inl (.ofNat 0), .inl (.ofNat 0), .inl (.ofNat 0), .inl (.ofNat 0), .inl (.ofNat 0), .inl (.ofNat 0), .inl (.ofNat 0), .inl (.ofNat 0), .inl (.ofNat 0), .inl (.ofNat 0), .inl (.ofNat 0), .inl (.ofNat 0), .inl (.ofNat 0), .inl (.ofNat 0), .inl (.ofNat 0), .inl (.ofNat 0), .inl (.ofNat 0), .inl (.ofNat 0), .inl (.ofNat 0), .inl (.ofNat 0), .inl (.ofNat 0), .inl (.ofNat 0), .inl (.ofNat 0), .inl (.ofNat 0), .inl (.ofNat 0), .inl (.ofNat 0), .inl (.ofNat 0), .inl (.ofNat 0), .inl (.ofNat 0), .inl (.ofNat 0), .inl (.ofNat 0), .inl (.ofNat 0), .inl (.ofNat 0), .inl (.ofNat 0), .inl (.ofNat 0), .inl (.ofNat 0), .inl (.ofNat 0), .inl (.ofNat 0), .inl (.ofNat 0), .inl (.ofNat 0), .inl (.ofNat 0), .inl (.ofNat 0), .inl (.ofNat 0), .inl (.ofNat 0), .inl (.ofNat 0), .inl (.ofNat 0), .inl (.ofNat 0), .inl (.ofNat 0), .inl (.ofNat 0), .inl (.ofNat 0), .inl (.ofNat 0), .inl (.ofNat 0), .inl (.ofNat 0), .inl (.ofNat 0), .inl (.ofNat 0), .inl (.ofNat 0), .inl (.ofNat 0), .inl (.ofNat 0), .inl (.ofNat 0), .inl (.ofNat 0), .inl (.ofNat 0), .inl (.ofNat 0), .inl (.ofNat 0), .inl (.ofNat 0), .inl (.ofNat 0), .inl (.ofNat 0), .inl (.ofNat 0), .inl (.ofNat 0), .inl (.ofNat 0), .inl (.ofNat 0), .inl (.ofNat 0), .inl (.ofNat 0), .inl (.ofNat 0), .inl (.ofNat 0), .inl (.ofNat 0), .inl (.ofNat 0), .inl (.ofNat 0), .inl (.ofNat 0), .inl (.ofNat 0), .inl (.ofNat 0), .inl (.ofNat 0), .inl (.ofNat 0), .inl (.ofNat 0), .inl (.ofNat 0), .inl (.ofNat 0), .inl (.ofNat 0), .inl (.ofNat 0), .inl (.ofNat 0), .inl (.ofNat 0), .inl (.ofNat 0), .inl (.ofNat 0), .inl (.ofNat 0), .inl (.ofNat 0), .inl (.ofNat 0), .inl (.ofNat 0), .inl (.ofNat 0), .inl (.ofNat 0), .inl (.ofNat 0), .inl (.ofNat 0), .inl (.ofNat 0), .inl (.ofNat 0), .inl (.ofNat 0), .inl (.ofNat 0), .inl (.ofNat 0), .inl (.ofNat 0), .inl (.ofNat 0), .inl (.ofNat 0), .inl (.ofNat 0), .inl (.ofNat 0), .inl (.ofNat 0), .inl (.ofNat 0), .inl (.ofNat 0), .inl (.ofNat 0), .inl (.ofNat 0), .inl (.ofNat 0), .inl (.ofNat 0), .inl (.ofNat 0), .inl (.ofNat 0), .inl (.ofNat 0), .inl (.ofNat 0), .inl (.ofNat 0), .inl (.ofNat 0), .inl (.ofNat 0), .inl (.ofNat 0), .inl (.ofNat 0), .inl (.ofNat 0), .inl (.ofNat 0), .inl (.ofNat 0), .inl (.ofNat 0), .inl (.ofNat 0), .inl (.ofNat 0), .inl (.ofNat 0), .inl (.ofNat 0), .inl (.ofNat 0), .inl (.ofNat 0), .inl (.ofNat 0), .inl (.ofNat 0), .inl (.ofNat 0), .inl (.ofNat 0), .inl (.ofNat 0), .inl (.ofNat 0), .inl (.ofNat 0), .inl (.ofNat 0), .inl (.ofNat 0), .inl (.ofNat 0), .inl (.ofNat 0), .inl (.ofNat 0), .inl (.ofNat 0), .inl (.ofNat 0), .inl (.ofNat 0), .inl (.ofNat 0), .inl (.ofNat 0), .inl (.ofNat 0)])
def hc_167 : AE := .inl (0, [.inl (.ofNat 0), .inl (.ofNat 0), .inl (.ofNat 0), .inl (.ofNat 0), .inl (.ofNat 0), .inl (.ofNat 0), .inl (.ofNat 0), .inl (.ofNat 0), .inl (.ofNat 0), .inl (.ofNat 0), .inl (.ofNat 0), .inl (.ofNat 0), .inl (.ofNat 0), .inl (.ofNat 0), .inl (.ofNat 0), .inl (.ofNat 0), .inl (.ofNat 0), .inl (.ofNat 0), .inl (.ofNat 0), .inl (.ofNat 0), .inl (.ofNat 0), .inl (.ofNat 0), .inl (.ofNat 0), .inl (.ofNat 0), .inl (.ofNat 0), .inl (.ofNat 0), .inl (.ofNat 0), .inl (.ofNat 0), .inl (.ofNat 0), .inl (.ofNat 0), .inl (.ofNat 0), .inl (.ofNat 0), .inl (.ofNat 0), .inl (.ofNat 0), .inl (.ofNat 0), .inl (.ofNat 0), .inl (.ofNat 0), .inl (.ofNat 0), .inl (.ofNat 0), .inl (.ofNat 0), .inl (.ofNat 0), .inl (.ofNat 0), .inl (.ofNat 0), .inl (.ofNat 0), .inl (.ofNat 0), .inl (.ofNat 0), .inl (.ofNat 0), .inl (.ofNat 0), .inl (.ofNat 0), .inl (.ofNat 0), .inl (.ofNat 0), .inl (.ofNat 0), .inl (.ofNat 0), .inl (.ofNat 0), .inl (.ofNat 0), .inl (.ofNat 0), .inl (.ofNat 0), .inl (.ofNat 0), .inl (.ofNat 0), .inl (.ofNat 0), .inl (.ofNat 0), .inl (.ofNat 0), .inl (.ofNat 0), .inl (.ofNat 0), .inl (.ofNat 0), .inl (.ofNat 0), .inl (.ofNat 0), .inl (.ofNat 0), .inl (.ofNat 0), .inl (.ofNat 0), .inl (.ofNat 0), .inl (.ofNat 0), .inl (.ofNat 0), .inl (.ofNat 0), .inl (.ofNat 0), .inl (.ofNat 0), .inl (.ofNat 0), .inl (.ofNat 0), .inl (.ofNat 0), .inl (.ofNat 0), .inl (.ofNat 0), .inl (.ofNat 0), .inl (.ofNat 0), .inl (.ofNat 0), .inl (.ofNat 0), .inl (.ofNat 0), .inl (.ofNat 0), .inl (.ofNat 0), .inl (.ofNat 0), .inl (.ofNat 0), .inl (.ofNat 0), .inl (.ofNat 0), .inl (.ofNat 0), .inl (.ofNat 0), .inl (.ofNat 0), .inl (.ofNat 0), .inl (.ofNat 0), .inl (.ofNat 0), .inl (.ofNat 0), .inl (.ofNat 0), .inl (.ofNat 0), .inl (.ofNat 0), .inl (.ofNat 0), .inl (.ofNat 0), .inl (.ofNat 0), .inl (.ofNat 0), .inl (.ofNat 0), .inl (.ofNat 0), .inl (.ofNat 0), .inl (.ofNat 0), .inl (.ofNat 0), .inl (.ofNat 0), .inl (.ofNat 0), .inl (.ofNat 0), .inl (.ofNat 0), .inl (.ofNat 0), .inl (.ofNat 0), .inl (.ofNat 0), .inl (.ofNat 0), .inl (.ofNat 0), .inl (.ofNat 0), .inl (.ofNat 0), .inl (.ofNat 0), .inl (.ofNat 0), .inl (.ofNat 0), .inl (.ofNat 0), .inl (.ofNat 0), .inl (.ofNat 0), .inl (.ofNat 0), .inl (.ofNat 0), .inl (.ofNat 0), .inl (.ofNat 0), .inl (.ofNat 0), .inl (.ofNat 0), .inl (.ofNat 0), .inl (.ofNat 0), .inl (.ofNat 0), .inl (.ofNat 0), .inl (.ofNat 0), .inl (.ofNat 0), .inl (.ofNat 0), .inl (.ofNat 0), .inl (.ofNat 0), .inl (.ofNat 0), .inl (.ofNat 0), .inl (.ofNat 0), .inl (.ofNat 0), .inl (.ofNat 0), .inl (.ofNat 0), .inl (.ofNat 0), .inl (.ofNat 0), .inl (.ofNat 0), .inl (.ofNat 0), .inl (.ofNat 0), .inl (.ofNat 0), .inl (.ofNat 0), .inl (.ofNat 0), .inl (.ofNat 0), .inl (.ofNat 0), .inl (.ofNat 0), .inl (.ofNat 0), .inl (.ofNat 0), .inl (.ofNat 0), .inl (.ofNat 0), .inl (.ofNat 0), .inl (.ofNat 0), .inl (.ofNat 0), .inl (.ofNat 0), .inl (.ofNat 0), .inl (.ofNat 0), .inl (.ofNat 0), .inl (.ofNat 0), .inl (.ofNat 0), .inl (.ofNat 0), .inl (.ofNat 0), .inl (.ofNat 0), .inl (.ofNat 0), .inl (.ofNat 0), .inl (.ofNat 0), .inl (.ofNat 0), .inl (.ofNat 0), .inl (.ofNat 0), .inl (.ofNat 0), .inl (.ofNat 0), .inl (.ofNat 0), .inl (.ofNat 0), .inl (.ofNat 0), .inl (.ofNat 0), .inl (.ofNat 0), .inl (.ofNat 0), .inl (.ofNat 0), .inl (.ofNat 0), .inl (.ofNat 0), .inl (.ofNat 0), .inl (.ofNat 0), .inl (.ofNat 0), .inl (.ofNat 0), .inl (.ofNat 0), .inl (.ofNat 0), .inl (.ofNat 0), .inl (.ofNat 0), .inl (.ofNat 0), .inl (.ofNat 0), .inl (.ofNat 0), .inl (.ofNat 0), .inl (.ofNat 0), .inl (.ofNat 0), .inl (.ofNat 0), .inl (.ofNat 0), .inl (.ofNat 0), .inl (.ofNat 0), .inl (.ofNat 0), .inl (.ofNat 0), .inl (.ofNat 0), .inl (.ofNat 0), .inl (.ofNat 0), .inl (.ofNat 0), .inl (.ofNat 0), .inl (.ofNat 0), .inl (.ofNat 0), .inl (.ofNat 0), .inl (.ofNat 0), .inl (.ofNat 0), .inl (.ofNat 0), .inl (.ofNat 0), .inl (.ofNat 0), .inl (.ofNat 0), .inl (.ofNat 0), .inl (.ofNat 0), .inl (.ofNat 0), .inl (.ofNat 0), .inl (.ofNat 0), .inl (.ofNat 0), .inl (.ofNat 0), .inl (.ofNat 0), .inl (.ofNat 0), .inl (.ofNat 0), .inl (.ofNat 0), .inl (.ofNat 0), .inl (.ofNat 0), .inl (.ofNat 0), .inl (.ofNat 0), .inl (.ofNat 0), .inl (.ofNat 0), .inl (.ofNat 0), .inl (.ofNat 0), .inl (.ofNat 0), .inl (.ofNat 0), .inl (.ofNat 0), .inl (.ofNat 0), .inl (.ofNat 0), .inl (.ofNat 0), .inl (.ofNat 0), .inl (.ofNat 0), .inl (.ofNat 0), .inl (.ofNat 0), .inl (.ofNat 0), .inl (.ofNat 0), .inl (.ofNat 0), .inl (.ofNat 0), .inl (.ofNat 0), .inl (.ofNat 0), .inl (.ofNat 0), .inl (.ofNat 0), .inl (.ofNat 0), .inl (.ofNat 0), .inl (.ofNat 0), .inl (.ofNat 0), .inl (.ofNat 0), .inl (.ofNat 0), .inl (.ofNat 0), .inl (.ofNat 0), .inl (.ofNat 0), .inl (.ofNat 0), .inl (.ofNat 0), .inl (.ofNat 0), .inl (.ofNat 0), .inl (.ofNat 0), .inl (.ofNat 0), .inl (.ofNat 0), .inl (.ofNat 0), .inl (.ofNat 0), .inl (.ofNat 0), .inl (.ofNat 0), .inl (.ofNat 0), .inl (.ofNat 0), .inl (.ofNat 0), .inl (.ofNat 0), .inl (.ofNat 0), .inl (.ofNat 0), .inl (.ofNat 0), .inl (.ofNat 0), .inl (.ofNat 0), .inl (.ofNat 0), .inl (.ofNat 0), .inl (.ofNat 0), .inl (.ofNat 0), .inl (.ofNat 0), .inl (.ofNat 0), .inl (.ofNat 0), .inl (.ofNat 0), .inl (.ofNat 0), .inl (.ofNat 0), .inl (.ofNat 0), .inl (.ofNat 0), .inl (.ofNat 0), .inl (.ofNat 0), .inl (.ofNat 0), .inl (.ofNat 0), .inl (.ofNat 0), .inl (.ofNat 0), .inl (.ofNat 0), .inl (.ofNat 0), .inl (.ofNat 0), .inl (.ofNat 0), .inl (.ofNat 0), .inl (.ofNat 0), .inl (.ofNat 0), .inl (.ofNat 0), .inl (.ofNat 0), .inl (.ofNat 0), .inl (.ofNat 0), .inl (.ofNat 0), .inl (.ofNat 0), .inl (.ofNat 0), .inl (.ofNat 0), .inl (.ofNat 0), .inl (.ofNat 0)])
def hc_168 : AE := .inl (0, [.inl (.ofNat 0), .inl (.ofNat 0), .inl (.ofNat 0), .inl (.ofNat 0), .inl (.ofNat 0), .inl (.ofNat 0), .inl (.ofNat 0), .inl (.ofNat 0)])
def hc_169 : AE := .inl (0, [.inl (.ofNat 0), .inl (.ofNat 0), .inl (.ofNat 0), .inl (.ofNat 0), .inl (.ofNat 0), .inl (.ofNat 0), .inl (.ofNat 0), .inl (.ofNat 0)])
def hc_170 : AE := .inl (0, [.inl (.ofNat 0), .inl (.ofNat 0), .inl (.ofNat 0), .inl (.ofNat 0), .inl (.ofNat 0), .inl (.ofNat 0), .inl (.ofNat 0), .inl (.ofNat 0), .inl (.ofNat 0)])
def hc_171 : AE := .inl (0, [.inl (.ofNat 0), .inl (.ofNat 0), .inl (.ofNat 0), .inl (.ofNat 0), .inl (.ofNat 0), .inl (.ofNat 0), .inl (.ofNat 0), .inl (.ofNat 0)])
def hc_172 : AE := .inl (0, [.inl (.ofNat 0), .inl (.ofNat 0), .inl (.ofNat 0), .inl (.ofNat 0), .inl (.ofNat 0), .inl (.ofNat 0), .inl (.ofNat 0), .inl (.ofNat 0)])
def hA_0 : List AE := [hc_0, hc_1, hc_2, hc_3, hc_4, hc_5, hc_6, hc_7, hc_8, hc_9, hc_10, hc_11, hc_12, hc_13, hc_14, hc_15]
def hA_1 : List AE := [hc_16, hc_17, hc_18, hc_19, hc_20, hc_21, hc_22, hc_23, hc_24, hc_25, hc_26, hc_27, hc_28, hc_29, hc_30, hc_31]
def hA_2 : List AE := [hc_32, hc_33, hc_34, hc_35, hc_36, hc_37, hc_38, hc_39, hc_40, hc_41, hc_42, hc_43, hc_44, hc_45, hc_46, hc_47]
def hA_3 : List AE := [hc_48, hc_49, hc_50, hc_51, hc_52, hc_53, hc_54, hc_55, hc_56, hc_57, hc_58, hc_59, hc_60, hc_61, hc_62, hc_63]
def hA_4 : List AE := [hc_64, hc_65, hc_66, hc_67, hc_68, hc_69, hc_70, hc_71, hc_72, hc_73, hc_74, hc_75, hc_76, hc_77, hc_78, hc_79]
def hA_5 : List AE := [hc_80, hc_81, hc_82, hc_83, hc_84, hc_85, hc_86, hc_87, hc_88, hc_89, hc_90, hc_91, hc_92, hc_93, hc_94, hc_95]
def hA_6 : List AE := [hc_96, hc_97, hc_98, hc_99, hc_100, hc_101, hc_102, hc_103, hc_104, hc_105, hc_106, hc_107, hc_108, hc_109, hc_110, hc_111]
def hA_7 : List AE := [hc_112, hc_113, hc_114, hc_115, hc_116, hc_117, hc_118, hc_119, hc_120, hc_121, hc_122, hc_123, hc_124, hc_125, hc_126, hc_127]
def hA_8 : List AE := [hc_128, hc_129, hc_130, hc_131, hc_132, hc_133, hc_134, hc_135, hc_136, hc_137, hc_138, hc_139, hc_140, hc_141, hc_142, .inl (99, [])]
def hA_9 : List AE := [.inl (99, []), .inl (99, []), .inl (99, []), .inl (99, []), .inl (99, []), .inl (99, []), .inl (99, []), .inl (99, []), .inl (99, []), .inl (99, []), .inl (99, []), .inl (99, []), .inl (99, []), .inl (99, []), .inl (99, []), .inl (99, [])]
def hA_10 : List AE := [.inl (99, []), .inl (99, []), .inl (99, []), .inl (99, []), .inl (99, []), .inl (99, []), .inl (99, []), .inl (99, []), .inl (99, []), .inl (99, []), .inl (99, []), .inl (99, []), .inl (99, []), .inl (99, []), .inl (99, []), .inl (99, [])]
def hA : HT := [hA_0, hA_1, hA_2, hA_3, hA_4, hA_5, hA_6, hA_7, hA_8, hA_9, hA_10]
def hM_0 : List AE := [hc_0, hc_1, hc_2, hc_3, hc_4, hc_5, hc_6, hc_7, hc_8, hc_9, hc_10, hc_11, hc_12, hc_13, hc_14, hc_15]
def hM_1 : List AE := [hc_16, hc_17, hc_18, hc_19, hc_20, hc_21, hc_22, hc_23, hc_24, hc_25, hc_26, hc_27, hc_28, hc_29, hc_30, hc_31]
def hM_2 : List AE := [hc_32, hc_33, hc_34, hc_35, hc_36, hc_37, hc_38, hc_39, hc_40, hc_41, hc_42, hc_43, hc_44, hc_45, hc_46, hc_47]
def hM_3 : List AE := [hc_48, hc_49, hc_50, hc_51, hc_52, hc_53, hc_54, hc_55, hc_56, hc_57, hc_58, hc_59, hc_60, hc_61, hc_62, hc_63]
def hM_4 : List AE := [hc_64, hc_65, hc_66, hc_67, hc_68, hc_69, hc_70, hc_71, hc_72, hc_73, hc_74, hc_75, hc_76, hc_77, hc_78, hc_79]
def hM_5 : List AE := [hc_80, hc_81, hc_82, hc_83, hc_84, hc_85, hc_86, hc_87, hc_88, hc_89, hc_90, hc_91, hc_92, hc_93, hc_94, hc_95]
def hM_6 : List AE := [hc_96, hc_97, hc_98, hc_99, hc_100, hc_101, hc_102, hc_103, hc_104, hc_105, hc_106, hc_107, hc_108, hc_109, hc_110, hc_111]
def hM_7 : List AE := [hc_112, hc_113, hc_114, hc_115, hc_116, hc_117, hc_118, hc_119, hc_120, hc_121, hc_122, hc_123, hc_124, hc_125, hc_126, hc_127]
def hM_8 : List AE := [hc_128, hc_129, hc_130, hc_131, hc_132, hc_133, hc_134, hc_135, hc_136, hc_137, hc_138, hc_139, hc_140, hc_141, hc_142, .inr (10, dW_10)]
def hM_9 : List AE := [.inl (99, []), .inl (99, []), .inl (99, []), .inl (99, []), .inl (99, []), .inl (99, []), .inl (99, []), .inl (99, []), .inl (99, []), .inl (99, []), .inl (99, []), .inl (99, []), .inl (99, []), .inl (99, []), .inl (99, []), .inl (99, [])]
def hM_10 : List AE := [.inl (99, []), .inl (99, []), .inl (99, []), .inl (99, []), .inl (99, []), .inl (99, []), .inl (99, []), .inl (99, []), .inl (99, []), .inl (99, []), .inl (99, []), .inl (99, []), .inl (99, []), .inl (99, []), .inl (99, []), .inl (99, [])]
def hM : HT := [hM_0, hM_1, hM_2, hM_3, hM_4, hM_5, hM_6, hM_7, hM_8, hM_9, hM_10]
def hB_0 : List AE := [hc_0, hc_1, hc_2, hc_3, hc_4, hc_5, hc_6, hc_7, hc_8, hc_9, hc_10, hc_11, hc_12, hc_13, hc_14, hc_15]
def hB_1 : List AE := [hc_16, hc_17, hc_18, hc_19, hc_20, hc_21, hc_22, hc_23, hc_24, hc_25, hc_26, hc_27, hc_28, hc_29, hc_30, hc_31]
def hB_2 : List AE := [hc_32, hc_33, hc_34, hc_35, hc_36, hc_37, hc_38, hc_39, hc_40, hc_41, hc_42, hc_43, hc_44, hc_45, hc_46, hc_47]
def hB_3 : List AE := [hc_48, hc_49, hc_50, hc_51, hc_52, hc_53, hc_54, hc_55, hc_56, hc_57, hc_58, hc_59, hc_60, hc_61, hc_62, hc_63]
def hB_4 : List AE := [hc_64, hc_65, hc_66, hc_67, hc_68, hc_69, hc_70, hc_71, hc_72, hc_73, hc_74, hc_75, hc_76, hc_77, hc_78, hc_79]
def hB_5 : List AE := [hc_80, hc_81, hc_82, hc_83, hc_84, hc_85, hc_86, hc_87, hc_88, hc_89, hc_90, hc_91, hc_92, hc_93, hc_94, hc_95]
def hB_6 : List AE := [hc_96, hc_97, hc_98, hc_99, hc_100, hc_101, hc_102, hc_103, hc_104, hc_105, hc_106, hc_107, hc_108, hc_109, hc_110, hc_111]
def hB_7 : List AE := [hc_112, hc_113, hc_114, hc_115, hc_116, hc_117, hc_118, hc_119, hc_120, hc_121, hc_122, hc_123, hc_124, hc_125, hc_126, hc_127]
def hB_8 : List AE := [hc_128, hc_129, hc_130, hc_131, hc_132, hc_133, hc_134, hc_135, hc_136, hc_137, hc_138, hc_139, hc_140, hc_141, hc_142, hc_143]
def hB_9 : List AE := [hc_144, hc_145, hc_146, hc_147, hc_148, hc_149, hc_150, hc_151, hc_152, hc_153, hc_154, hc_155, hc_156, hc_157, hc_158, hc_159]
def hB_10 : List AE := [hc_160, hc_161, hc_162, hc_163, hc_164, hc_165, hc_166, hc_167, hc_168, hc_169, hc_170, hc_171, hc_172, .inl (99, []), .inl (99, []), .inl (99, [])]
def hB : HT := [hB_0, hB_1, hB_2, hB_3, hB_4, hB_5, hB_6, hB_7, hB_8, hB_9, hB_10]
def h9_0 : List AE := [.inr (9, dW_9), .inl (99, []), .inl (99, []), .inl (99, []), .inl (99, []), .inl (99, []), .inl (99, []), .inl (99, []), .inl (99, []), .inl (99, []), .inl (99, []), .inl (99, []), .inl (99, []), .inl (99, []), .inl (99, []), .inl (99, [])]
def h9_1 : List AE := [.inl (99, []), .inl (99, []), .inl (99, []), .inl (99, []), .inl (99, []), .inl (99, []), .inl (99, []), .inl (99, []), .inl (99, []), .inl (99, []), .inl (99, []), .inl (99, []), .inl (99, []), .inl (99, []), .inl (99, []), .inl (99, [])]
def h9_2 : List AE := [.inl (99, []), .inl (99, []), .inl (99, []), .inl (99, []), .inl (99, []), .inl (99, []), .inl (99, []), .inl (99, []), .inl (99, []), .inl (99, []), .inl (99, []), .inl (99, []), .inl (99, []), .inl (99, []), .inl (99, []), .inl (99, [])]
def h9_3 : List AE := [.inl (99, []), .inl (99, []), .inl (99, []), .inl (99, []), .inl (99, []), .inl (99, []), .inl (99, []), .inl (99, []), .inl (99, []), .inl (99, []), .inl (99, []), .inl (99, []), .inl (99, []), .inl (99, []), .inl (99, []), .inl (99, [])]
def h9_4 : List AE := [.inl (99, []), .inl (99, []), .inl (99, []), .inl (99, []), .inl (99, []), .inl (99, []), .inl (99, []), .inl (99, []), .inl (99, []), .inl (99, []), .inl (99, []), .inl (99, []), .inl (99, []), .inl (99, []), .inl (99, []), .inl (99, [])]
def h9_5 : List AE := [.inl (99, []), .inl (99, []), .inl (99, []), .inl (99, []), .inl (99, []), .inl (99, []), .inl (99, []), .inl (99, []), .inl (99, []), .inl (99, []), .inl (99, []), .inl (99, []), .inl (99, []), .inl (99, []), .inl (99, []), .inl (99, [])]
def h9_6 : List AE := [.inl (99, []), .inl (99, []), .inl (99, []), .inl (99, []), .inl (99, []), .inl (99, []), .inl (99, []), .inl (99, []), .inl (99, []), .inl (99, []), .inl (99, []), .inl (99, []), .inl (99, []), .inl (99, []), .inl (99, []), .inl (99, [])]
def h9_7 : List AE := [.inl (99, []), .inl (99, []), .inl (99, []), .inl (99, []), .inl (99, []), .inl (99, []), .inl (99, []), .inl (99, []), .inl (99, []), .inl (99, []), .inl (99, []), .inl (99, []), .inl (99, []), .inl (99, []), .inl (99, []), .inl (99, [])]
def h9_8 : List AE := [.inl (99, []), .inl (99, []), .inl (99, []), .inl (99, []), .inl (99, []), .inl (99, []), .inl (99, []), .inl (99, []), .inl (99, []), .inl (99, []), .inl (99, []), .inl (99, []), .inl (99, []), .inl (99, []), .inl (99, []), .inl (99, [])]
def h9_9 : List AE := [.inl (99, []), .inl (99, []), .inl (99, []), .inl (99, []), .inl (99, []), .inl (99, []), .inl (99, []), .inl (99, []), .inl (99, []), .inl (99, []), .inl (99, []), .inl (99, []), .inl (99, []), .inl (99, []), .inl (99, []), .inl (99, [])]
def h9_10 : List AE := [.inl (99, []), .inl (99, []), .inl (99, []), .inl (99, []), .inl (99, []), .inl (99, []), .inl (99, []), .inl (99, []), .inl (99, []), .inl (99, []), .inl (99, []), .inl (99, []), .inl (99, []), .inl (99, []), .inl (99, []), .inl (99, [])]
def h9 : HT := [h9_0, h9_1, h9_2, h9_3, h9_4, h9_5, h9_6, h9_7, h9_8, h9_9, h9_10]
def vEq (x y : AV) : Bool := match x, y with
  | .inl x, .inl y => bEq x y
  | .inr (.inr (.ref a)), .inr (.inr (.ref b)) => Nat.beq a b
  | .inr (.inr .null), .inr (.inr .null) => true
  | .inr (.inr (.retAddr a)), .inr (.inr (.retAddr b)) => Nat.beq a b
  | .inr (.inr (.long x)), .inr (.inr (.long y)) => decide (x = y)
  | _, _ => false
theorem vEq_ok {x y : AV} (h : vEq x y = true) : x = y := by
  unfold vEq at h
  split at h
  · rw [bEq_iff.mp h]
  · rw [beq_iff.mp h]
  · rfl
  · rw [beq_iff.mp h]
  · rw [of_decide_eq_true h]
  · cases h
def lEqG {α : Type} (f : α → α → Bool) : List α → List α → Bool
  | [], [] => true
  | a :: l, b :: m => (match f a b with
    | true => lEqG f l m
    | false => false)
  | _, _ => false
theorem lEqG_ok {α : Type} {f : α → α → Bool} (hf : ∀ a b, f a b = true → a = b) : ∀ {l m : List α}, lEqG f l m = true → l = m
  | [], [], _ => rfl
  | [], _ :: _, h => by cases (show false = true from h)
  | _ :: _, [], h => by cases (show false = true from h)
  | a :: l, b :: m, h => by
    have h1 : (match f a b with | true => lEqG f l m | false => false) = true := by rw [lEqG] at h; exact h
    split at h1
    · rename_i q
      rw [hf a b q, lEqG_ok hf h1]
    · cases h1
def eEq (x y : AE) : Bool := match x, y with
  | .inl (t, l), .inl (u, m) => Nat.beq t u && lEqG vEq l m
  | .inr (t, l), .inr (u, m) => Nat.beq t u && lEqG vEq l m
  | _, _ => false
theorem eEq_ok {x y : AE} (h : eEq x y = true) : x = y := by
  unfold eEq at h
  split at h
  · rw [Bool.and_eq_true] at h
    rw [beq_iff.mp h.1, lEqG_ok (fun _ _ q => vEq_ok q) h.2]
  · rw [Bool.and_eq_true] at h
    rw [beq_iff.mp h.1, lEqG_ok (fun _ _ q => vEq_ok q) h.2]
  · cases h
end
section
/-! the constructors run -/
def rtH (n : Nat) (H : HT) : RT := fun _ q m h => match q with
  | .inl none => Nat.beq m n && lEqG (lEqG eEq) h H
  | _ => false
def QH (θ : Nat → Int32) (n : Nat) (H : HT) (r : Rs) (h' : PH) : Prop := r = .inl none ∧ hR θ n H h'
theorem rtH_ok {θ : Nat → Int32} {n : Nat} {H : HT} : RTOK θ (rtH n H) (QH θ n H) := by
  intro env q m h h1 he r h' hr hh
  unfold rtH at h1
  split at h1
  · rw [Bool.and_eq_true, beq_iff] at h1
    obtain ⟨e1, e2⟩ := h1
    have e2 := lEqG_ok (fun _ _ q => lEqG_ok (fun _ _ q => eEq_ok q) q) e2
    subst e1
    subst e2
    refine ⟨?_, hh⟩
    cases r with
    | inr e => exact False.elim hr
    | inl w => cases w with
      | none => rfl
      | some v => exact absurd (show [v] = [] from hr) (by simp)
  · cases h1
set_option maxRecDepth 100000 in
theorem runA : aM 0 100000 mtW 20 0 E_0 [] [.inr (.inr (.ref 0)), aU] 1 h9 (rtH 143 hA) = true := by decide +kernel
set_option maxRecDepth 100000 in
theorem runB : aM 0 100000 mtW 20 224 E_224 [] [.inr (.inr (.ref 143)), aU] 144 hM (rtH 173 hB) = true := by decide +kernel
theorem eR0 {θ : Nat → Int32} : eR θ [] := fun t r h => by simp at h
theorem lRc {θ : Nat → Int32} {a : Nat} : lR θ [.inr (.inr (.ref a)), aU] (lv_args 0 [.ref a]) := by
  intro i v hv
  rcases i with _ | _ | i
  · cases hv; exact Or.inr ⟨_, rfl, rfl, rfl⟩
  · cases hv; exact Or.inl rfl
  · simp at hv
theorem cA {θ : Nat → Int32} {h : PH} (hh : hR θ 1 h9 h) : Ex (0, θ) 24 0 [.ref 0] h (QH θ 143 hA) := ((aM_ok mtW_ok 20) 0 E_0 [] _ 1 h9 _ rfl runA).2.2 _ _ _ eR0 lRc rfl hh rtH_ok
theorem cB {θ : Nat → Int32} {h : PH} (hh : hR θ 144 hM h) : Ex (0, θ) 24 224 [.ref 143] h (QH θ 173 hB) := ((aM_ok mtW_ok 20) 224 E_224 [] _ 144 hM _ rfl runB).2.2 _ _ _ eR0 lRc rfl hh rtH_ok
/-! a method that never looks at the script doesn't mind which it is -/
def inG (μ : Nat) : Bool := Nat.ble μ 9 || Nat.beq μ 224
def gOK (te : TE) : Bool := match te.2.1 with
  | .arraylength => false
  | .invokevirtual _ => inG te.2.2.1
  | .invokestatic _ => inG te.2.2.1
  | .invokespecial _ => inG te.2.2.1
  | _ => true
theorem call_S {C C' : CXW} (hC : ∀ μ, inG μ = true → ∀ av h Q, C μ av h Q → C' μ av h Q) {M : PM} {hd : List (Nat × Nat × Nat × Int)} {Q : Rs → PH → Prop} {K : Kt} {pc μ : Nat} (hg : inG μ = true) {virt : Bool} {lv : LV} {st : List Value} {h : PH} {c s : Nat} (H : p_call C M hd Q K pc μ virt lv st h c s) : p_call C' M hd Q K pc μ virt lv st h c s := by
  unfold p_call at H ⊢
  split at H
  · exact H.elim
  · obtain ⟨h1, h2, h3, h4, h5, h6⟩ := H
    exact ⟨h1, h2, h3, h4, h5, hC _ hg _ _ _ h6⟩
theorem pmI_S {θ : Nat → Int32} {S : Nat × (Nat → Int32)} {C C' : CXW} (hC : ∀ μ, inG μ = true → ∀ av h Q, C μ av h Q → C' μ av h Q) {M : PM} {hd : List (Nat × Nat × Nat × Int)} {Q : Rs → PH → Prop} {K : Kt} {te : TE} (hg : gOK te = true) {lv : LV} {st : List Value} {h : PH} {c s : Nat} (H : pmI C (0, θ) M hd Q K te lv st h c s) : pmI C' S M hd Q K te lv st h c s := by
  obtain ⟨pc, ins, ta, tb⟩ := te
  cases ins
  case arraylength => cases hg
  case iaload =>
    have H : p_iald (0, θ) h st (fun st => K (pc + 1) lv st h c s) := H
    show p_iald S h st (fun st => K (pc + 1) lv st h c s)
    unfold p_iald at H ⊢
    split at H
    · exact H
    · have := vp_in_iff.mp H.1
      omega
    · exact H.elim
  case invokevirtual i => exact call_S hC hg H
  case invokestatic i =>
    rcases H with H | ⟨h1, H⟩
    · exact Or.inl H
    · exact Or.inr ⟨h1, call_S hC hg H⟩
  case invokespecial i =>
    rcases H with H | ⟨h1, H⟩
    · exact Or.inl H
    · exact Or.inr ⟨h1, call_S hC hg H⟩
  all_goals exact H
theorem G_ok {μ : Nat} {M : PM} (h : inG μ = true) (hM : MT[μ]? = some M) : ∀ te ∈ pT M, gOK te = true := by
  have a : μ = 0 ∨ μ = 1 ∨ μ = 2 ∨ μ = 3 ∨ μ = 4 ∨ μ = 5 ∨ μ = 6 ∨ μ = 7 ∨ μ = 8 ∨ μ = 9 ∨ μ = 224 := by
    unfold inG at h
    rw [Bool.or_eq_true, beq_iff] at h
    rcases h with h | h
    · have := Nat.le_of_ble_eq_true h; omega
    · omega
  have b : (pT M).all gOK = true := by
    rcases a with a | a | a | a | a | a | a | a | a | a | a <;> subst a <;> cases hM <;> decide +kernel
  exact fun te hte => List.all_eq_true.mp b te hte
theorem Ex_S {θ : Nat → Int32} {S : Nat × (Nat → Int32)} : ∀ (n μ : Nat), inG μ = true → ∀ (av : List Value) (h : PH) (Q : Rs → PH → Prop), Ex (0, θ) n μ av h Q → Ex S n μ av h Q := by
  intro n
  induction n with
  | zero => intro μ _ av h Q H; exact H.elim
  | succ n ih =>
    intro μ hg av h Q ⟨M, h1, h2, H⟩
    refine ⟨M, h1, h2, fun X hX => H X (fun pc lv st h c s ⟨te, h3, h4⟩ => hX _ _ _ _ _ _ ⟨te, h3, pmI_S (fun μ q av h Q w => ih μ q av h Q w) (G_ok hg h1 te (List.mem_of_find?_eq_some h3)) h4⟩)⟩
end
section
/-! the start: what the first heap holds -/
theorem hget_ge {H : HT} (hl : H.length = 11) {a : Nat} (h : 176 ≤ a) : hget H a = none := by
  unfold hget
  rw [lget_eq, List.getElem?_eq_none (by rw [hl]; show 11 ≤ a / 16; omega)]
def padC (c : AE) : Bool := eEq c (.inl (99, []))
theorem all_lt {n : Nat} {p : Nat → Bool} (h : (List.range n).all p = true) {i : Nat} (hi : i < n) : p i = true := List.all_eq_true.mp h i (List.mem_range.mpr hi)
theorem hR9 {θ : Nat → Int32} : hR θ 1 h9 [.inr (9, dflt 9)] := by
  refine ⟨rfl, fun a c hc => ?_⟩
  by_cases a0 : a = 0
  · subst a0
    cases hc
    exact Or.inr ⟨_, rfl, rfl, ⟨_, _, rfl, rfl, _, _, rfl, rfl, _, _, rfl, rfl, _, _, rfl, rfl, _, _, rfl, rfl, _, _, rfl, rfl, _, _, rfl, rfl, _, _, rfl, rfl, _, _, rfl, rfl, _, _, rfl, rfl, _, _, rfl, ⟨0, rfl, rfl⟩, _, _, rfl, ⟨0, rfl, rfl⟩, rfl⟩⟩
  · left
    have h1 : (List.range 176).all (fun a => Nat.beq a 0 || match hget h9 a with | some c => padC c | none => true) = true := by decide +kernel
    by_cases h2 : a < 176
    · have := all_lt h1 h2
      rw [Bool.or_eq_true, beq_iff] at this
      rcases this with q | q
      · exact absurd q a0
      · rw [hc] at q; exact eEq_ok q
    · rw [hget_ge rfl (by omega)] at hc; cases hc
theorem hRM {θ : Nat → Int32} {h : PH} (hh : hR θ 143 hA h) : hR θ 144 hM (h ++ [.inr (10, dflt 10)]) := by
  have hl := hh.1
  refine ⟨by rw [List.length_append, hl]; rfl, fun a c hc => ?_⟩
  by_cases a0 : a = 143
  · subst a0
    cases hc
    exact Or.inr ⟨.inr (10, dflt 10), by rw [List.getElem?_append_right (by omega), hl]; rfl, rfl, ⟨_, _, rfl, ⟨0, rfl, rfl⟩, _, _, rfl, ⟨0, rfl, rfl⟩, _, _, rfl, rfl, _, _, rfl, rfl, _, _, rfl, rfl, _, _, rfl, rfl, _, _, rfl, rfl, _, _, rfl, rfl, _, _, rfl, rfl, _, _, rfl, rfl, _, _, rfl, rfl, _, _, rfl, rfl, _, _, rfl, ⟨0, rfl, rfl⟩, _, _, rfl, rfl, _, _, rfl, rfl, _, _, rfl, rfl, _, _, rfl, rfl, _, _, rfl, rfl, _, _, rfl, ⟨0, rfl, rfl⟩, _, _, rfl, rfl, _, _, rfl, rfl, _, _, rfl, rfl, _, _, rfl, rfl, _, _, rfl, rfl, _, _, rfl, rfl, _, _, rfl, ⟨0, rfl, rfl⟩, _, _, rfl, rfl, _, _, rfl, rfl, _, _, rfl, rfl, _, _, rfl, rfl, _, _, rfl, rfl, _, _, rfl, ⟨0, rfl, rfl⟩, _, _, rfl, ⟨0, rfl, rfl⟩, _, _, rfl, ⟨0, rfl, rfl⟩, _, _, rfl, rfl, _, _, rfl, rfl, _, _, rfl, rfl, rfl⟩⟩
  · have h1 : (List.range 176).all (fun a => Nat.beq a 143 || match hget hM a, hget hA a with | some c, some d => eEq c d | none, none => true | _, _ => false) = true := by decide +kernel
    by_cases h2 : a < 176
    · have := all_lt h1 h2
      rw [Bool.or_eq_true, beq_iff] at this
      rcases this with q | q
      · exact absurd q a0
      · rw [hc] at q
        cases e : hget hA a with
        | none => rw [e] at q; cases q
        | some d =>
          rw [e] at q
          have q2 : c = d := eEq_ok q
          subst q2
          rcases hh.2 a c e with w | ⟨y, w1, w2⟩
          · exact Or.inl w
          · exact Or.inr ⟨y, by rw [List.getElem?_append_left (List.getElem?_eq_some_iff.mp w1).1]; exact w1, w2⟩
    · rw [hget_ge rfl (by omega)] at hc; cases hc
def fdS (v : AV) : Option (Option Nat) := match v with
  | .inl _ => some none
  | .inr (.inr (.ref A)) => some (some A)
  | _ => none
def lsS : LW → List (Option Nat) → Bool
  | [], [] => true
  | a :: l, s :: r => (match fdS a with
    | some q => decide (q = s)
    | none => false) && lsS l r
  | _, _ => false
def cSh (c : AE) (s : SH) : Bool := match c, s with
  | .inl (0, l), .inl n => Nat.beq l.length n
  | .inr (ci, l), .inr (cj, fs) => Nat.beq ci cj && lsS l fs
  | _, _ => false
theorem A2.atI {θ : Nat → Int32} : ∀ {l : LW} {l' : List Value} {fs : List (Option Nat)}, A2 (vR θ) l l' → lsS l fs = true → l'.length = fs.length ∧ ∀ i : Nat, match fs[i]? with
    | some none => ∃ z, l'[i]? = some (Value.int z)
    | some (some A) => l'[i]? = some (Value.ref A)
    | none => True
  | [], l', [], h, _ => by
    have h : l' = [] := h
    subst h
    exact ⟨rfl, fun i => by simp⟩
  | [], _, _ :: _, _, h => by cases h
  | _ :: _, _, [], _, h => by cases h
  | a :: l, l', s :: r, h, hs => by
    obtain ⟨w, r', rfl, h1, h2⟩ := h
    unfold lsS at hs
    rw [Bool.and_eq_true] at hs
    have ih := A2.atI h2 hs.2
    refine ⟨by rw [List.length_cons, List.length_cons, ih.1], fun i => ?_⟩
    cases i with
    | succ i => simpa using ih.2 i
    | zero =>
      have hs := hs.1
      split at hs
      · rename_i q hq
        have hs := of_decide_eq_true hs
        subst hs
        unfold fdS at hq
        split at hq
        · cases hq
          obtain ⟨y, e, -⟩ := h1
          exact ⟨y, by rw [e]; rfl⟩
        · cases hq
          have h1 : w = .ref _ := h1
          subst h1
          rfl
        · cases hq
      · cases hs
theorem A2.atV {θ : Nat → Int32} : ∀ {l : LW} {l' : List Value} {i : Nat} {x : Int}, A2 (vR θ) l l' → l[i]? = some (.inl x) → ∃ z, l'[i]? = some (Value.int z) ∧ z.toInt = x
  | [], _, i, x, _, h => by simp at h
  | a :: l, l', 0, x, h, hx => by
    obtain ⟨w, r', rfl, h1, h2⟩ := h
    cases hx
    obtain ⟨y, e, e2⟩ := h1
    exact ⟨y, by rw [e]; rfl, e2⟩
  | a :: l, l', i + 1, x, h, hx => by
    obtain ⟨w, r', rfl, h1, h2⟩ := h
    simpa using A2.atV h2 (show l[i]? = some (.inl x) by simpa using hx)
theorem sh_of {θ : Nat → Int32} {c : AE} {y : PE} {s : SH} {h : PH} {A : Nat} (hy : h[A]? = some y) (hc : cR θ c y) (hs : cSh c s = true) : shR s (memOf h A) y := by
  unfold cSh at hs
  split at hs
  · rename_i l n
    rw [beq_iff] at hs
    subst hs
    cases y with
    | inr q => exact False.elim hc
    | inl q =>
      obtain ⟨t, n, g⟩ := q
      cases t with
      | succ t => exact False.elim hc
      | zero => cases g with
        | inr g => exact False.elim hc
        | inl g =>
          obtain ⟨e, -⟩ := (show n = l.length ∧ _ from hc)
          subst e
          exact ⟨g, rfl, fun i => memOf_row hy⟩
  · rename_i ci l cj fs
    rw [Bool.and_eq_true, beq_iff] at hs
    obtain ⟨e, hs⟩ := hs
    subst e
    cases y with
    | inl q => exact False.elim hc
    | inr q =>
      obtain ⟨ck, gs⟩ := q
      obtain ⟨e, hA⟩ := (show ck = ci ∧ A2 (vR θ) l gs from hc)
      subst e
      have w := A2.atI hA hs
      refine ⟨gs, rfl, w.1, fun i => ?_⟩
      have w2 := w.2 i
      split
      · rename_i q; rw [q] at w2; first | exact w2 | (obtain ⟨z, e⟩ := w2; exact ⟨z, e, memOf_fld hy e⟩)
      · rename_i q; rw [q] at w2; first | exact w2 | (obtain ⟨z, e⟩ := w2; exact ⟨z, e, memOf_fld hy e⟩)
      · trivial
  · cases hs
noncomputable def tvI (A i : Nat) : Option Int := match hget hB A with
  | some (.inl (0, l)) => (match l[i]? with | some (.inl x) => some x | _ => none)
  | some (.inr (_, l)) => (match l[i]? with | some (.inl x) => some x | _ => none)
  | _ => none
def St (θ : Nat → Int32) (h : PH) : Prop := hR θ 173 hB h
theorem St.val {θ : Nat → Int32} {h : PH} (hh : St θ h) {A i : Nat} {x : Int} (e : tvI A i = some x) : memOf h A i = x := by
  unfold tvI at e
  split at e
  · rename_i l hl
    split at e
    · rename_i z hz
      cases e
      rcases hh.2 A _ hl with w | ⟨y, w1, w2⟩
      · cases w
      · cases y with
        | inr q => exact False.elim w2
        | inl q =>
          obtain ⟨t, n, g⟩ := q
          cases t with
          | succ t => exact False.elim w2
          | zero => cases g with
            | inr g => exact False.elim w2
            | inl g =>
              obtain ⟨-, w3⟩ := (show n = l.length ∧ ∀ (j : Nat) (a : AV), l[j]? = some a → vR θ a (.int (g j)) from w2)
              obtain ⟨y, e1, e2⟩ := w3 i _ hz
              rw [memOf_row w1]
              cases e1
              exact e2
    · cases e
  · rename_i ci l hl
    split at e
    · rename_i z hz
      cases e
      rcases hh.2 A _ hl with w | ⟨y, w1, w2⟩
      · cases w
      · cases y with
        | inl q => exact False.elim w2
        | inr q =>
          obtain ⟨ck, gs⟩ := q
          obtain ⟨e, hA⟩ := (show ck = ci ∧ A2 (vR θ) l gs from w2)
          obtain ⟨z, e1, e2⟩ := A2.atV hA hz
          rw [memOf_fld w1 e1]; exact e2
    · cases e
  · cases e
noncomputable def ckI (A i : Nat) (lo hi : Int) : Bool := match tvI A i with
  | some x => decide (lo ≤ x) && decide (x ≤ hi)
  | none => false
theorem rg1 {θ : Nat → Int32} {h : PH} (hh : St θ h) (A i : Nat) (lo hi : Int) (e : ckI A i lo hi = true) : lo ≤ memOf h A i ∧ memOf h A i ≤ hi := by
  unfold ckI at e
  split at e
  · rename_i x hx
    rw [hh.val hx]
    rw [Bool.and_eq_true] at e
    exact ⟨of_decide_eq_true e.1, of_decide_eq_true e.2⟩
  · cases e
theorem rgn {θ : Nat → Int32} {h : PH} (hh : St θ h) (A n : Nat) (lo hi : Int) (e : (List.range n).all (fun i => ckI A i lo hi) = true) (i : Nat) (hi_ : i < n) : lo ≤ memOf h A i ∧ memOf h A i ≤ hi := rg1 hh A i lo hi (all_lt e hi_)
theorem St.rg {θ : Nat → Int32} {h : PH} (hh : St θ h) {A : Nat} {s : SH} (hA : shA A = some s) : ∃ y, h[A]? = some y ∧ shR s (memOf h A) y := by
  have h1 : (List.range 200).all (fun A => match shA A with | none => true | some s => match hget hB A with | some c => cSh c s && !padC c | none => false) = true := by decide +kernel
  have := all_lt h1 (shA_lt hA)
  rw [hA] at this
  cases e : hget hB A with
  | none => rw [e] at this; cases this
  | some c =>
    rw [e] at this
    have this : (cSh c s && !padC c) = true := this
    rw [Bool.and_eq_true] at this
    rcases hh.2 A c e with w | ⟨y, w1, w2⟩
    · rw [w] at this
      exact absurd this.2 (by decide)
    · exact ⟨y, w1, sh_of w1 w2 this.1⟩
section INI
variable {θ : Nat → Int32} {hp : PH}
theorem St.body (h : St θ hp) : BodyOK (memOf hp) := by
  refine ⟨rg1 h 1 0 0 8 (by decide +kernel), fun o ho => ?_, rgn h 5 6 0 2 (by decide +kernel), rgn h 6 6 1 6 (by decide +kernel), rgn h 7 6 1 15 (by decide +kernel), rgn h 8 3 1 3 (by decide +kernel)⟩
  have k := rgn h 2 8 0 0 (by decide +kernel) o ho
  have p := rgn h 3 32 0 0 (by decide +kernel)
  have p0 := p (4 * o) (by omega)
  have p1 := p (4 * o + 1) (by omega)
  have p2 := p (4 * o + 2) (by omega)
  have p3 := p (4 * o + 3) (by omega)
  unfold BOp srcOK
  omega
theorem St.web (h : St θ hp) : WbOK (memOf hp) 9 ∧ WbOK (memOf hp) 14 := by
  refine ⟨⟨fun j hj => ?_, rg1 h 9 0 0 64 (by decide +kernel)⟩, ⟨fun j hj => ?_, rg1 h 14 0 0 64 (by decide +kernel)⟩⟩
  · have a := rgn h 10 64 0 0 (by decide +kernel) j hj
    have b := rgn h 11 64 0 0 (by decide +kernel) j hj
    have c := rgn h 12 64 0 0 (by decide +kernel) j hj
    have d := rgn h 13 64 0 0 (by decide +kernel) j hj
    show Rg (memOf hp 10 j) (memOf hp 11 j) (memOf hp 12 j) (memOf hp 13 j)
    unfold Rg; omega
  · have a := rgn h 15 64 0 0 (by decide +kernel) j hj
    have b := rgn h 16 64 0 0 (by decide +kernel) j hj
    have c := rgn h 17 64 0 0 (by decide +kernel) j hj
    have d := rgn h 18 64 0 0 (by decide +kernel) j hj
    show Rg (memOf hp 15 j) (memOf hp 16 j) (memOf hp 17 j) (memOf hp 18 j)
    unfold Rg; omega
theorem St.hst (h : St θ hp) : HsOK (memOf hp) := ⟨fun o ho => ⟨rgn h 130 8 0 900 (by decide +kernel) o ho, rgn h 131 8 (-1) 900 (by decide +kernel) o ho⟩, rg1 h 129 0 0 12 (by decide +kernel), rg1 h 129 1 0 1 (by decide +kernel), rg1 h 129 2 0 48 (by decide +kernel)⟩
theorem St.cht (h : St θ hp) : ∀ Q, ChSh Q → ChtOK (memOf hp) Q := by
  intro Q hQ
  obtain ⟨⟨k, hk, rfl⟩, -⟩ := hQ
  have a : k = 0 ∨ k = 1 ∨ k = 2 ∨ k = 3 ∨ k = 4 ∨ k = 5 ∨ k = 6 ∨ k = 7 ∨ k = 8 ∨ k = 9 ∨ k = 10 ∨ k = 11 ∨ k = 12 := by omega
  rcases a with a | a | a | a | a | a | a | a | a | a | a | a | a <;> subst a
  · exact ⟨⟨rg1 h 38 2 0 8 (by decide +kernel), rg1 h 38 3 1 12 (by decide +kernel), rg1 h 38 1 0 1 (by decide +kernel)⟩, fun o ho => ⟨rgn h 39 8 0 11 (by decide +kernel) o ho, rgn h 40 8 0 11000 (by decide +kernel) o ho, rgn h 41 8 0 11010 (by decide +kernel) o ho⟩⟩
  · exact ⟨⟨rg1 h 45 2 0 8 (by decide +kernel), rg1 h 45 3 1 12 (by decide +kernel), rg1 h 45 1 0 1 (by decide +kernel)⟩, fun o ho => ⟨rgn h 46 8 0 11 (by decide +kernel) o ho, rgn h 47 8 0 11000 (by decide +kernel) o ho, rgn h 48 8 0 11010 (by decide +kernel) o ho⟩⟩
  · exact ⟨⟨rg1 h 52 2 0 8 (by decide +kernel), rg1 h 52 3 1 12 (by decide +kernel), rg1 h 52 1 0 1 (by decide +kernel)⟩, fun o ho => ⟨rgn h 53 8 0 11 (by decide +kernel) o ho, rgn h 54 8 0 11000 (by decide +kernel) o ho, rgn h 55 8 0 11010 (by decide +kernel) o ho⟩⟩
  · exact ⟨⟨rg1 h 59 2 0 8 (by decide +kernel), rg1 h 59 3 1 12 (by decide +kernel), rg1 h 59 1 0 1 (by decide +kernel)⟩, fun o ho => ⟨rgn h 60 8 0 11 (by decide +kernel) o ho, rgn h 61 8 0 11000 (by decide +kernel) o ho, rgn h 62 8 0 11010 (by decide +kernel) o ho⟩⟩
  · exact ⟨⟨rg1 h 66 2 0 8 (by decide +kernel), rg1 h 66 3 1 12 (by decide +kernel), rg1 h 66 1 0 1 (by decide +kernel)⟩, fun o ho => ⟨rgn h 67 8 0 11 (by decide +kernel) o ho, rgn h 68 8 0 11000 (by decide +kernel) o ho, rgn h 69 8 0 11010 (by decide +kernel) o ho⟩⟩
  · exact ⟨⟨rg1 h 73 2 0 8 (by decide +kernel), rg1 h 73 3 1 12 (by decide +kernel), rg1 h 73 1 0 1 (by decide +kernel)⟩, fun o ho => ⟨rgn h 74 8 0 11 (by decide +kernel) o ho, rgn h 75 8 0 11000 (by decide +kernel) o ho, rgn h 76 8 0 11010 (by decide +kernel) o ho⟩⟩
  · exact ⟨⟨rg1 h 80 2 0 8 (by decide +kernel), rg1 h 80 3 1 12 (by decide +kernel), rg1 h 80 1 0 1 (by decide +kernel)⟩, fun o ho => ⟨rgn h 81 8 0 11 (by decide +kernel) o ho, rgn h 82 8 0 11000 (by decide +kernel) o ho, rgn h 83 8 0 11010 (by decide +kernel) o ho⟩⟩
  · exact ⟨⟨rg1 h 87 2 0 8 (by decide +kernel), rg1 h 87 3 1 12 (by decide +kernel), rg1 h 87 1 0 1 (by decide +kernel)⟩, fun o ho => ⟨rgn h 88 8 0 11 (by decide +kernel) o ho, rgn h 89 8 0 11000 (by decide +kernel) o ho, rgn h 90 8 0 11010 (by decide +kernel) o ho⟩⟩
  · exact ⟨⟨rg1 h 94 2 0 8 (by decide +kernel), rg1 h 94 3 1 12 (by decide +kernel), rg1 h 94 1 0 1 (by decide +kernel)⟩, fun o ho => ⟨rgn h 95 8 0 11 (by decide +kernel) o ho, rgn h 96 8 0 11000 (by decide +kernel) o ho, rgn h 97 8 0 11010 (by decide +kernel) o ho⟩⟩
  · exact ⟨⟨rg1 h 101 2 0 8 (by decide +kernel), rg1 h 101 3 1 12 (by decide +kernel), rg1 h 101 1 0 1 (by decide +kernel)⟩, fun o ho => ⟨rgn h 102 8 0 11 (by decide +kernel) o ho, rgn h 103 8 0 11000 (by decide +kernel) o ho, rgn h 104 8 0 11010 (by decide +kernel) o ho⟩⟩
  · exact ⟨⟨rg1 h 108 2 0 8 (by decide +kernel), rg1 h 108 3 1 12 (by decide +kernel), rg1 h 108 1 0 1 (by decide +kernel)⟩, fun o ho => ⟨rgn h 109 8 0 11 (by decide +kernel) o ho, rgn h 110 8 0 11000 (by decide +kernel) o ho, rgn h 111 8 0 11010 (by decide +kernel) o ho⟩⟩
  · exact ⟨⟨rg1 h 115 2 0 8 (by decide +kernel), rg1 h 115 3 1 12 (by decide +kernel), rg1 h 115 1 0 1 (by decide +kernel)⟩, fun o ho => ⟨rgn h 116 8 0 11 (by decide +kernel) o ho, rgn h 117 8 0 11000 (by decide +kernel) o ho, rgn h 118 8 0 11010 (by decide +kernel) o ho⟩⟩
  · exact ⟨⟨rg1 h 122 2 0 8 (by decide +kernel), rg1 h 122 3 1 12 (by decide +kernel), rg1 h 122 1 0 1 (by decide +kernel)⟩, fun o ho => ⟨rgn h 123 8 0 11 (by decide +kernel) o ho, rgn h 124 8 0 11000 (by decide +kernel) o ho, rgn h 125 8 0 11010 (by decide +kernel) o ho⟩⟩
theorem St.cls (h : St θ hp) : ClS (memOf hp) := by
  have e := rg1 h 0 11 1 1 (by decide +kernel)
  exact ⟨⟨h.body, h.web.1, h.web.2, rg1 h 19 0 0 8 (by decide +kernel), h.hst, fun o ho => ⟨rgn h 24 8 0 2 (by decide +kernel) o ho, rgn h 22 8 0 11 (by decide +kernel) o ho⟩, h.cht, rg1 h 0 10 0 1 (by decide +kernel), by omega⟩, fun q => by omega, fun q => by omega⟩
theorem St.ref (h : St θ hp) : RefOK (memOf hp) := by
  have e := rg1 h 143 18 (-1) (-1) (by decide +kernel)
  refine ⟨⟨rg1 h 143 1 0 8 (by decide +kernel), fun o ho => ?_, rgn h 151 6 1 6 (by decide +kernel)⟩, rgn h 150 6 0 2 (by decide +kernel), rgn h 152 6 1 15 (by decide +kernel), rgn h 153 3 1 3 (by decide +kernel), rgn h 149 8 (-9999) 9999 (by decide +kernel), fun o ho => ⟨rgn h 145 8 (-2) 7 (by decide +kernel) o ho, rgn h 147 8 (-2) 7 (by decide +kernel) o ho⟩, rgn h 160 8 (-1) 12 (by decide +kernel), by omega, fun j hj => ?_, rg1 h 143 12 0 44 (by decide +kernel), rg1 h 143 0 0 4 (by decide +kernel), rgn h 168 8 0 45 (by decide +kernel)⟩
  · have a := rgn h 144 8 0 0 (by decide +kernel) o ho
    have b := rgn h 145 8 0 0 (by decide +kernel) o ho
    have c := rgn h 146 8 0 0 (by decide +kernel) o ho
    have d := rgn h 147 8 0 0 (by decide +kernel) o ho
    have f := rgn h 148 8 0 0 (by decide +kernel) o ho
    unfold OpOK srcOK
    omega
  · have a := rgn h 154 48 0 0 (by decide +kernel) j hj
    have b := rgn h 155 48 0 0 (by decide +kernel) j hj
    have c := rgn h 156 48 0 0 (by decide +kernel) j hj
    have d := rgn h 157 48 0 0 (by decide +kernel) j hj
    unfold Rg; omega
end INI
end
section
/-! what both sides tell of ops at the start -/
theorem St.rel {θ : Nat → Int32} {hp : PH} (h : St θ hp) : RelB (memOf hp) := by
  have a1 := rg1 h 1 0 0 0 (by decide +kernel)
  have a2 := rg1 h 143 1 0 0 (by decide +kernel)
  refine ⟨by omega, fun o ho => ?_, fun k hk => ?_, fun u hu => ?_⟩
  · have b0 := rgn h 2 8 0 0 (by decide +kernel) o ho
    have b1 := rgn h 4 8 0 0 (by decide +kernel) o ho
    have b2 := rgn h 144 8 0 0 (by decide +kernel) o ho
    have b3 := rgn h 145 8 0 0 (by decide +kernel) o ho
    have b4 := rgn h 146 8 0 0 (by decide +kernel) o ho
    have b5 := rgn h 147 8 0 0 (by decide +kernel) o ho
    have b6 := rgn h 148 8 0 0 (by decide +kernel) o ho
    have b7 := rgn h 149 8 0 0 (by decide +kernel) o ho
    have c0 := rgn h 3 32 0 0 (by decide +kernel) (4 * o) (by omega)
    have c1 := rgn h 3 32 0 0 (by decide +kernel) (4 * o + 1) (by omega)
    have c2 := rgn h 3 32 0 0 (by decide +kernel) (4 * o + 2) (by omega)
    have c3 := rgn h 3 32 0 0 (by decide +kernel) (4 * o + 3) (by omega)
    omega
  · have q : k = 0 ∨ k = 1 ∨ k = 2 ∨ k = 3 ∨ k = 4 ∨ k = 5 := by omega
    rcases q with rfl | rfl | rfl | rfl | rfl | rfl
    · have e5 := rg1 h 5 0 0 0 (by decide +kernel)
      have e150 := rg1 h 150 0 0 0 (by decide +kernel)
      have e6 := rg1 h 6 0 1 1 (by decide +kernel)
      have e151 := rg1 h 151 0 1 1 (by decide +kernel)
      have e7 := rg1 h 7 0 1 1 (by decide +kernel)
      have e152 := rg1 h 152 0 1 1 (by decide +kernel)
      omega
    · have e5 := rg1 h 5 1 0 0 (by decide +kernel)
      have e150 := rg1 h 150 1 0 0 (by decide +kernel)
      have e6 := rg1 h 6 1 1 1 (by decide +kernel)
      have e151 := rg1 h 151 1 1 1 (by decide +kernel)
      have e7 := rg1 h 7 1 1 1 (by decide +kernel)
      have e152 := rg1 h 152 1 1 1 (by decide +kernel)
      omega
    · have e5 := rg1 h 5 2 1 1 (by decide +kernel)
      have e150 := rg1 h 150 2 1 1 (by decide +kernel)
      have e6 := rg1 h 6 2 3 3 (by decide +kernel)
      have e151 := rg1 h 151 2 3 3 (by decide +kernel)
      have e7 := rg1 h 7 2 3 3 (by decide +kernel)
      have e152 := rg1 h 152 2 3 3 (by decide +kernel)
      omega
    · have e5 := rg1 h 5 3 0 0 (by decide +kernel)
      have e150 := rg1 h 150 3 0 0 (by decide +kernel)
      have e6 := rg1 h 6 3 1 1 (by decide +kernel)
      have e151 := rg1 h 151 3 1 1 (by decide +kernel)
      have e7 := rg1 h 7 3 1 1 (by decide +kernel)
      have e152 := rg1 h 152 3 1 1 (by decide +kernel)
      omega
    · have e5 := rg1 h 5 4 2 2 (by decide +kernel)
      have e150 := rg1 h 150 4 2 2 (by decide +kernel)
      have e6 := rg1 h 6 4 2 2 (by decide +kernel)
      have e151 := rg1 h 151 4 2 2 (by decide +kernel)
      have e7 := rg1 h 7 4 1 1 (by decide +kernel)
      have e152 := rg1 h 152 4 1 1 (by decide +kernel)
      omega
    · have e5 := rg1 h 5 5 2 2 (by decide +kernel)
      have e150 := rg1 h 150 5 2 2 (by decide +kernel)
      have e6 := rg1 h 6 5 1 1 (by decide +kernel)
      have e151 := rg1 h 151 5 1 1 (by decide +kernel)
      have e7 := rg1 h 7 5 1 1 (by decide +kernel)
      have e152 := rg1 h 152 5 1 1 (by decide +kernel)
      omega
  · have e1 := rgn h 8 3 1 1 (by decide +kernel) u hu
    have e2 := rgn h 153 3 1 1 (by decide +kernel) u hu
    omega
end
section
/-! the law from its first instruction on -/
theorem cR2 {θ : Nat → Int32} {l : LW} {y : PE} (h : cR θ (.inl (2, l)) y) : ∃ g, y = .inl (2, l.length, .inr (.inr (.inr (.inr g)))) ∧ ∀ (j : Nat) (a : AV), l[j]? = some a → vR θ a (va_rf (g j)) := by
  unfold cR at h
  split at h <;> first | (rename_i e; cases e; done) | skip
  all_goals first | (rename_i e _; cases e; exact ⟨_, by rw [h.1], h.2⟩) | (rename_i e; cases e; exact ⟨_, by rw [h.1], h.2⟩) | exact h.elim | skip
theorem cR3 {θ : Nat → Int32} {l : LW} {y : PE} (h : cR θ (.inl (3, l)) y) : ∃ g, y = .inl (3, l.length, .inr (.inr (.inr (.inr g)))) ∧ ∀ (j : Nat) (a : AV), l[j]? = some a → vR θ a (va_rf (g j)) := by
  unfold cR at h
  split at h <;> first | (rename_i e; cases e; done) | skip
  all_goals first | (rename_i e _; cases e; exact ⟨_, by rw [h.1], h.2⟩) | (rename_i e; cases e; exact ⟨_, by rw [h.1], h.2⟩) | exact h.elim | skip
theorem St.ra {θ : Nat → Int32} {h : PH} (hh : St θ h) : RA h := by
  constructor
  · rcases hh.2 37 _ rfl with w | ⟨y, w1, w2⟩
    · cases w
    · obtain ⟨g, rfl, w3⟩ := cR2 w2
      refine ⟨g, w1, fun k hk => ?_⟩
      have a : k = 0 ∨ k = 1 ∨ k = 2 ∨ k = 3 ∨ k = 4 ∨ k = 5 ∨ k = 6 ∨ k = 7 ∨ k = 8 ∨ k = 9 ∨ k = 10 ∨ k = 11 ∨ k = 12 := by omega
      rcases a with a | a | a | a | a | a | a | a | a | a | a | a | a <;> subst a <;> exact rf_some (w3 _ _ rfl)
  · rcases hh.2 135 _ rfl with w | ⟨y, w1, w2⟩
    · cases w
    · obtain ⟨g, rfl, w3⟩ := cR3 w2
      refine ⟨g, w1, fun k hk => ?_⟩
      have a : k = 0 ∨ k = 1 := by omega
      rcases a with a | a <;> subst a <;> exact rf_some (w3 _ _ rfl)
theorem St.lr {θ : Nat → Int32} {h : PH} (hh : St θ h) : LR (h ++ [.inl (1, 1, .inr (.inl fun _ => 0))]) := by
  have hl : h.length = 173 := hh.1
  have e : ∀ (A : Nat) (y : PE), h[A]? = some y → (h ++ [.inl (1, 1, .inr (.inl fun _ => 0))])[A]? = some y := fun A y w => by
    rw [List.getElem?_append_left (List.getElem?_eq_some_iff.mp w).1]; exact w
  refine ⟨memOf h, fun _ => 0, ⟨?_, by rw [List.getElem?_append_right (by omega), hl]; rfl, ⟨fun _ _ => rfl, fun A s hA => ?_⟩⟩, hh.cls, hh.ref, hh.rel⟩
  · obtain ⟨⟨g, a, b⟩, g2, c, d⟩ := hh.ra
    exact ⟨⟨g, e _ _ a, b⟩, g2, e _ _ c, d⟩
  · obtain ⟨y, a, b⟩ := hh.rg hA
    exact ⟨y, e _ _ a, b⟩
set_option maxRecDepth 100000 in
theorem mt_0 : MT[0]? = some M_0 := rfl
set_option maxRecDepth 100000 in
theorem mt_224 : MT[224]? = some M_224 := rfl
theorem law_pm {L : Nat} (hL : L ≤ 3072) (xs : Nat → Int32) : Vx (Ex (L, xs) 24) (L, xs) M_368 [] Q1 0 [(0, .retAddr 0)] [] [] 0 0 := by
  have hC := Ex.mono (L, xs) 24
  refine Vx.go hC te_368_0 (Or.inl ⟨rfl, Nat.le_of_ble_eq_true rfl, Nat.le_of_ble_eq_true rfl, ?_⟩)
  show Vx (Ex (L, xs) 24) (L, xs) M_368 [] Q1 3 [(0, .retAddr 0)] [.ref 0] [.inr (9, dflt 9)] 1 12
  refine Vx.go hC te_368_3 ⟨_, _, rfl, rfl, ?_⟩
  refine Vx.go hC te_368_4 (Or.inr ⟨Or.inl rfl, ?_⟩)
  refine p_call_mk (av := [.ref 0]) (rest := [.ref 0]) mt_0 rfl (by decide) (Nat.le_of_ble_eq_true rfl) (Nat.le_of_ble_eq_true rfl) (fun _ => ⟨0, _, rfl, rfl⟩) ?_
  refine hC _ _ _ _ _ ?_ (Ex_S 24 0 rfl _ _ _ (cA (θ := fun _ => 0) hR9))
  rintro _ h1 ⟨rfl, hA1⟩
  show Vx (Ex (L, xs) 24) (L, xs) M_368 [] Q1 7 [(0, .retAddr 0)] [.ref 0] h1 161 4212
  have l1 : h1.length = 143 := hA1.1
  refine Vx.go hC te_368_7 ⟨by decide, ?_⟩
  show Vx (Ex (L, xs) 24) (L, xs) M_368 [] Q1 8 (px_s1 [(0, .retAddr 0)] 1 (.ref 0)) [] h1 161 4212
  refine Vx.go hC te_368_8 (Or.inl ⟨rfl, Nat.le_of_ble_eq_true rfl, Nat.le_of_ble_eq_true rfl, ?_⟩)
  show Vx (Ex (L, xs) 24) (L, xs) M_368 [] Q1 11 (px_s1 [(0, .retAddr 0)] 1 (.ref 0)) [.ref h1.length] (h1 ++ [.inr (10, dflt 10)]) 162 4249
  rw [l1]
  refine Vx.go hC te_368_11 ⟨_, _, rfl, rfl, ?_⟩
  refine Vx.go hC te_368_12 (Or.inr ⟨Or.inl rfl, ?_⟩)
  refine p_call_mk (av := [.ref 143]) (rest := [.ref 143]) mt_224 rfl (by decide) (Nat.le_of_ble_eq_true rfl) (Nat.le_of_ble_eq_true rfl) (fun _ => ⟨143, dflt 10, rfl, by rw [List.getElem?_append_right (by omega), l1]; rfl⟩) ?_
  refine hC _ _ _ _ _ ?_ (Ex_S 24 224 rfl _ _ _ (cB (hRM hA1)))
  rintro _ h2 ⟨rfl, hB2⟩
  have l2 : h2.length = 173 := hB2.1
  show Vx (Ex (L, xs) 24) (L, xs) M_368 [] Q1 15 (px_s1 [(0, .retAddr 0)] 1 (.ref 0)) [.ref 143] h2 222 7249
  refine Vx.go hC te_368_15 ⟨by decide, ?_⟩
  show Vx (Ex (L, xs) 24) (L, xs) M_368 [] Q1 16 (px_s1 (px_s1 [(0, .retAddr 0)] 1 (.ref 0)) 2 (.ref 143)) [] h2 222 7249
  refine Vx.go hC te_368_16 (Vx.go hC te_368_17 ⟨by decide, by decide, Nat.le_of_ble_eq_true rfl, Nat.le_of_ble_eq_true rfl, Or.inr ⟨rfl, ?_⟩⟩)
  show Vx (Ex (L, xs) 24) (L, xs) M_368 [] Q1 19 (px_s1 (px_s1 [(0, .retAddr 0)] 1 (.ref 0)) 2 (.ref 143)) [.ref h2.length] (h2 ++ [.inl (1, 1, .inr (.inl fun _ => 0))]) 223 7250
  rw [l2]
  refine Vx.go hC te_368_19 ⟨by decide, ?_⟩
  show Vx (Ex (L, xs) 24) (L, xs) M_368 [] Q1 20 (px_s1 (px_s1 (px_s1 [(0, .retAddr 0)] 1 (.ref 0)) 2 (.ref 143)) 3 (.ref 173)) [] (h2 ++ [.inl (1, 1, .inr (.inl fun _ => 0))]) 223 7250
  refine Vx.go hC te_368_20 (Vx.go hC te_368_21 ⟨by decide, ?_⟩)
  exact law_loop hL _ (Int32.ofInt 0) _ _ 223 7250 ⟨rfl, rfl, rfl, rfl, rfl⟩ (St.lr hB2) (by decide) (by decide) (Nat.lt_succ_self _) (by decide) (by decide)
end
section
/-! the law's instructions are what its bytes decode to -/
set_option maxRecDepth 100000 in
theorem dk_368 : tb_368.all (teK 11 cL_law false) = true := qk_ok (by decide +kernel)
end
