theorem mk140 : mOKb eM140 = true := by decide +kernel
theorem mk141 : mOKb eM141 = true := by decide +kernel
theorem mk142 : mOKb eM142 = true := by decide +kernel
theorem mk143 : mOKb eM143 = true := by decide +kernel
theorem mk144 : mOKb eM144 = true := by decide +kernel
theorem mk145 : mOKb eM145 = true := by decide +kernel
