theorem mk269 : mOKb eM269 = true := by decide +kernel
theorem mk270 : mOKb eM270 = true := by decide +kernel
