/-! the reference: folds -/
theorem pm_cl0 : ((0 : Int32)).toNatClampNeg = 0 := rfl
