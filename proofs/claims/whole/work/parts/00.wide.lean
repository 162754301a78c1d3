-- a fact of the rest of the library: the whole round reads all of it
theorem y_wide {L : Int64} (h : ¬ L = 0) (q : Jvm.FP.Core.DZero (FP.l2d L)) : False := Jvm.FP.Core.l2d_ne_zero h ((Jvm.FP.Core.zero_bits2 _).mp q)
