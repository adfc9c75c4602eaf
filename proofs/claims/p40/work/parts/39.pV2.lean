theorem by_15 : ∀ j, j < lnS 15 → (byS 15).getD j 0 = Int32.ofNat ((byS 15).getD j 0).toNatClampNeg ∧ ((byS 15).getD j 0).toNatClampNeg < 128 := by decide +kernel
theorem by_6 : ∀ j, j < lnS 6 → (byS 6).getD j 0 = Int32.ofNat ((byS 6).getD j 0).toNatClampNeg ∧ ((byS 6).getD j 0).toNatClampNeg < 128 := by decide +kernel
theorem kl_6 : lineOK w42 6 = true := by decide +kernel
theorem kl_15 : lineOK w36 15 = true := by decide +kernel
