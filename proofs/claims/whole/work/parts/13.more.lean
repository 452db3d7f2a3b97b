theorem tc_neI {x k : Int32} {a : Int} (h : ¬ x = k) (ha : k.toInt = a) : ¬ a = x.toInt := fun e => h (Int32.toInt_inj.mp (e.symm.trans ha.symm))
