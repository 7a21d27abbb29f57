theorem zz_try : nI 0 = 0 := nI_0
