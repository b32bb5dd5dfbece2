theorem xc195_0 : xchr 195 0 200 xM195 (xcode0 195) = true := by decide +kernel
theorem xc195_1 : xchr 195 200 200 xM195 (xcode0 195) = true := by decide +kernel
theorem xc195_2 : xchr 195 400 200 xM195 (xcode0 195) = true := by decide +kernel
