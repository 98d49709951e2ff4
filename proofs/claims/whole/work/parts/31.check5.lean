/-! the check of methods 328 .. 344, run by the kernel -/
theorem xk_328 : xckm xcls xpr xsn xsr 15 xfl xml xic xxw xm_328 = true := by decide +kernel
theorem xk_329 : xckm xcls xpr xsn xsr 15 xfl xml xic xxw xm_329 = true := by decide +kernel
theorem xk_330 : xckm xcls xpr xsn xsr 15 xfl xml xic xxw xm_330 = true := by decide +kernel
theorem xk_331 : xckm xcls xpr xsn xsr 15 xfl xml xic xxw xm_331 = true := by decide +kernel
theorem xk_332 : xckm xcls xpr xsn xsr 15 xfl xml xic xxw xm_332 = true := by decide +kernel
theorem xk_333 : xckm xcls xpr xsn xsr 15 xfl xml xic xxw xm_333 = true := by decide +kernel
theorem xk_334 : xckm xcls xpr xsn xsr 15 xfl xml xic xxw xm_334 = true := by decide +kernel
theorem xk_335 : xckm xcls xpr xsn xsr 15 xfl xml xic xxw xm_335 = true := by decide +kernel
theorem xk_336 : xckm xcls xpr xsn xsr 15 xfl xml xic xxw xm_336 = true := by decide +kernel
theorem xk_337 : xckm xcls xpr xsn xsr 15 xfl xml xic xxw xm_337 = true := by decide +kernel
theorem xk_338 : xckm xcls xpr xsn xsr 15 xfl xml xic xxw xm_338 = true := by decide +kernel
theorem xk_339 : xckm xcls xpr xsn xsr 15 xfl xml xic xxw xm_339 = true := by decide +kernel
theorem xk_340 : xckm xcls xpr xsn xsr 15 xfl xml xic xxw xm_340 = true := by decide +kernel
theorem xk_341 : xckm xcls xpr xsn xsr 15 xfl xml xic xxw xm_341 = true := by decide +kernel
theorem xk_342 : xckm xcls xpr xsn xsr 15 xfl xml xic xxw xm_342 = true := by decide +kernel
theorem xk_343 : xckm xcls xpr xsn xsr 15 xfl xml xic xxw xm_343 = true := by decide +kernel
theorem xk_344 : xckm xcls xpr xsn xsr 15 xfl xml xic xxw xm_344 = true := by decide +kernel
