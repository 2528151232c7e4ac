theorem wS_mmax : (decide (pm_look 4012 = some (.static Lib.Math.max.name)) && goodWord (.static Lib.Math.max.name)) = true := by decide +kernel
theorem wC_mmax : (decide (pm_look 4013 = some (.code Lib.Math.max.name Lib.Math.max.code 2 (some .int))) && goodWord (.code Lib.Math.max.name Lib.Math.max.code 2 (some .int))) = true := by decide +kernel
theorem wS_mmin : (decide (pm_look 4160 = some (.static Lib.Math.min.name)) && goodWord (.static Lib.Math.min.name)) = true := by decide +kernel
theorem wC_mmin : (decide (pm_look 4161 = some (.code Lib.Math.min.name Lib.Math.min.code 2 (some .int))) && goodWord (.code Lib.Math.min.name Lib.Math.min.code 2 (some .int))) = true := by decide +kernel
theorem wS_mabs : (decide (pm_look 4015 = some (.static Lib.Math.abs.name)) && goodWord (.static Lib.Math.abs.name)) = true := by decide +kernel
theorem wC_mabs : (decide (pm_look 4016 = some (.code Lib.Math.abs.name Lib.Math.abs.code 1 (some .int))) && goodWord (.code Lib.Math.abs.name Lib.Math.abs.code 1 (some .int))) = true := by decide +kernel
theorem wS_mmaxL : (decide (pm_look 4169 = some (.static Lib.MathLoose.max_long.x)) && goodWord (.static Lib.MathLoose.max_long.x)) = true := by decide +kernel
theorem wC_mmaxL : (decide (pm_look 4170 = some (.code Lib.MathLoose.max_long.x Lib.MathLoose.max_long.code 4 (some .long))) && goodWord (.code Lib.MathLoose.max_long.x Lib.MathLoose.max_long.code 4 (some .long))) = true := by decide +kernel
theorem wS_mminL : (decide (pm_look 5077 = some (.static Lib.MathLoose.min_long.x)) && goodWord (.static Lib.MathLoose.min_long.x)) = true := by decide +kernel
theorem wC_mminL : (decide (pm_look 5078 = some (.code Lib.MathLoose.min_long.x Lib.MathLoose.min_long.code 4 (some .long))) && goodWord (.code Lib.MathLoose.min_long.x Lib.MathLoose.min_long.code 4 (some .long))) = true := by decide +kernel
theorem wS_mabsL : (decide (pm_look 5036 = some (.static Lib.MathLoose.abs_long.x)) && goodWord (.static Lib.MathLoose.abs_long.x)) = true := by decide +kernel
theorem wC_mabsL : (decide (pm_look 5037 = some (.code Lib.MathLoose.abs_long.x Lib.MathLoose.abs_long.code 2 (some .long))) && goodWord (.code Lib.MathLoose.abs_long.x Lib.MathLoose.abs_long.code 2 (some .long))) = true := by decide +kernel
theorem wI_math : (decide (pm_look 1018 = some (.initialized "java/lang/Math")) && goodWord (.initialized "java/lang/Math")) = true := by decide +kernel
theorem wL_X11_366 : (decide (pm_look 4214 = some (.methodLink RX11 366 Lib.Math.abs.name)) && goodWord (.methodLink RX11 366 Lib.Math.abs.name)) = true := by decide +kernel
theorem wL_X2_58 : (decide (pm_look 5076 = some (.methodLink RX2 58 Lib.MathLoose.min_long.x)) && goodWord (.methodLink RX2 58 Lib.MathLoose.min_long.x)) = true := by decide +kernel
theorem wL_X2_64 : (decide (pm_look 5079 = some (.methodLink RX2 64 Lib.MathLoose.max_long.x)) && goodWord (.methodLink RX2 64 Lib.MathLoose.max_long.x)) = true := by decide +kernel
theorem wL_X4_29 : (decide (pm_look 4159 = some (.methodLink RX4 29 Lib.Math.min.name)) && goodWord (.methodLink RX4 29 Lib.Math.min.name)) = true := by decide +kernel
theorem wL_X4_58 : (decide (pm_look 4168 = some (.methodLink RX4 58 Lib.MathLoose.max_long.x)) && goodWord (.methodLink RX4 58 Lib.MathLoose.max_long.x)) = true := by decide +kernel
theorem wL_X10_69 : (decide (pm_look 4011 = some (.methodLink RX10 69 Lib.Math.max.name)) && goodWord (.methodLink RX10 69 Lib.Math.max.name)) = true := by decide +kernel
theorem wL_X10_86 : (decide (pm_look 4014 = some (.methodLink RX10 86 Lib.Math.abs.name)) && goodWord (.methodLink RX10 86 Lib.Math.abs.name)) = true := by decide +kernel
theorem wL_X10_151 : (decide (pm_look 5035 = some (.methodLink RX10 151 Lib.MathLoose.abs_long.x)) && goodWord (.methodLink RX10 151 Lib.MathLoose.abs_long.x)) = true := by decide +kernel
theorem wL_X12_311 : (decide (pm_look 7047 = some (.methodLink RX12 311 Lib.Math.max.name)) && goodWord (.methodLink RX12 311 Lib.Math.max.name)) = true := by decide +kernel
theorem wL_X12_350 : (decide (pm_look 7075 = some (.methodLink RX12 350 Lib.MathLoose.max_long.x)) && goodWord (.methodLink RX12 350 Lib.MathLoose.max_long.x)) = true := by decide +kernel
