theorem xc195_3 : xchr 195 600 200 xM195 (xcode0 195) = true := by decide +kernel
theorem xc195_4 : xchr 195 800 70 xM195 (xcode0 195) = true := by decide +kernel
theorem xn195 : xchr 195 870 1130 xM195 (xcode0 195) = true := by decide +kernel
