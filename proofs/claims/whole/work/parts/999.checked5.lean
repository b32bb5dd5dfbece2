theorem xc220_0 : xchr 220 0 113 xM220 xK220 = true := by decide +kernel
theorem xn220 : xchr 220 113 1887 xM220 xK220 = true := by decide +kernel
theorem xo220 : xOKm 220 := ⟨xM220, rfl, by decide +kernel, xgd_s (xgd_s xgd_0 xc220_0) xn220⟩
theorem xc221_0 : xchr 221 0 184 xM221 xK221 = true := by decide +kernel
theorem xn221 : xchr 221 184 1816 xM221 xK221 = true := by decide +kernel
theorem xo221 : xOKm 221 := ⟨xM221, rfl, by decide +kernel, xgd_s (xgd_s xgd_0 xc221_0) xn221⟩
theorem xc222_0 : xchr 222 0 126 xM222 xK222 = true := by decide +kernel
theorem xn222 : xchr 222 126 1874 xM222 xK222 = true := by decide +kernel
theorem xo222 : xOKm 222 := ⟨xM222, rfl, by decide +kernel, xgd_s (xgd_s xgd_0 xc222_0) xn222⟩
theorem xc223_0 : xchr 223 0 200 xM223 xK223 = true := by decide +kernel
theorem xc223_1 : xchr 223 200 200 xM223 xK223 = true := by decide +kernel
theorem xc223_2 : xchr 223 400 17 xM223 xK223 = true := by decide +kernel
theorem xn223 : xchr 223 417 1583 xM223 xK223 = true := by decide +kernel
theorem xo223 : xOKm 223 := ⟨xM223, rfl, by decide +kernel, xgd_s (xgd_s (xgd_s (xgd_s xgd_0 xc223_0) xc223_1) xc223_2) xn223⟩
theorem xc224_0 : xchr 224 0 23 xM224 xK224 = true := by decide +kernel
theorem xn224 : xchr 224 23 1977 xM224 xK224 = true := by decide +kernel
theorem xo224 : xOKm 224 := ⟨xM224, rfl, by decide +kernel, xgd_s (xgd_s xgd_0 xc224_0) xn224⟩
theorem xc225_0 : xchr 225 0 47 xM225 xK225 = true := by decide +kernel
theorem xn225 : xchr 225 47 1953 xM225 xK225 = true := by decide +kernel
theorem xo225 : xOKm 225 := ⟨xM225, rfl, by decide +kernel, xgd_s (xgd_s xgd_0 xc225_0) xn225⟩
theorem xc226_0 : xchr 226 0 28 xM226 xK226 = true := by decide +kernel
theorem xn226 : xchr 226 28 1972 xM226 xK226 = true := by decide +kernel
theorem xo226 : xOKm 226 := ⟨xM226, rfl, by decide +kernel, xgd_s (xgd_s xgd_0 xc226_0) xn226⟩
theorem xc227_0 : xchr 227 0 24 xM227 xK227 = true := by decide +kernel
theorem xn227 : xchr 227 24 1976 xM227 xK227 = true := by decide +kernel
theorem xo227 : xOKm 227 := ⟨xM227, rfl, by decide +kernel, xgd_s (xgd_s xgd_0 xc227_0) xn227⟩
theorem xc228_0 : xchr 228 0 18 xM228 xK228 = true := by decide +kernel
theorem xn228 : xchr 228 18 1982 xM228 xK228 = true := by decide +kernel
theorem xo228 : xOKm 228 := ⟨xM228, rfl, by decide +kernel, xgd_s (xgd_s xgd_0 xc228_0) xn228⟩
theorem xc229_0 : xchr 229 0 53 xM229 xK229 = true := by decide +kernel
theorem xn229 : xchr 229 53 1947 xM229 xK229 = true := by decide +kernel
theorem xo229 : xOKm 229 := ⟨xM229, rfl, by decide +kernel, xgd_s (xgd_s xgd_0 xc229_0) xn229⟩
theorem xc230_0 : xchr 230 0 37 xM230 xK230 = true := by decide +kernel
theorem xn230 : xchr 230 37 1963 xM230 xK230 = true := by decide +kernel
theorem xo230 : xOKm 230 := ⟨xM230, rfl, by decide +kernel, xgd_s (xgd_s xgd_0 xc230_0) xn230⟩
theorem xc231_0 : xchr 231 0 200 xM231 xK231 = true := by decide +kernel
theorem xc231_1 : xchr 231 200 46 xM231 xK231 = true := by decide +kernel
theorem xn231 : xchr 231 246 1754 xM231 xK231 = true := by decide +kernel
theorem xo231 : xOKm 231 := ⟨xM231, rfl, by decide +kernel, xgd_s (xgd_s (xgd_s xgd_0 xc231_0) xc231_1) xn231⟩
theorem xc232_0 : xchr 232 0 200 xM232 xK232 = true := by decide +kernel
theorem xc232_1 : xchr 232 200 184 xM232 xK232 = true := by decide +kernel
theorem xn232 : xchr 232 384 1616 xM232 xK232 = true := by decide +kernel
theorem xo232 : xOKm 232 := ⟨xM232, rfl, by decide +kernel, xgd_s (xgd_s (xgd_s xgd_0 xc232_0) xc232_1) xn232⟩
theorem xc233_0 : xchr 233 0 84 xM233 xK233 = true := by decide +kernel
theorem xn233 : xchr 233 84 1916 xM233 xK233 = true := by decide +kernel
theorem xo233 : xOKm 233 := ⟨xM233, rfl, by decide +kernel, xgd_s (xgd_s xgd_0 xc233_0) xn233⟩
theorem xc234_0 : xchr 234 0 106 xM234 xK234 = true := by decide +kernel
theorem xn234 : xchr 234 106 1894 xM234 xK234 = true := by decide +kernel
theorem xo234 : xOKm 234 := ⟨xM234, rfl, by decide +kernel, xgd_s (xgd_s xgd_0 xc234_0) xn234⟩
theorem xc235_0 : xchr 235 0 31 xM235 xK235 = true := by decide +kernel
theorem xn235 : xchr 235 31 1969 xM235 xK235 = true := by decide +kernel
theorem xo235 : xOKm 235 := ⟨xM235, rfl, by decide +kernel, xgd_s (xgd_s xgd_0 xc235_0) xn235⟩
theorem xc236_0 : xchr 236 0 34 xM236 xK236 = true := by decide +kernel
theorem xn236 : xchr 236 34 1966 xM236 xK236 = true := by decide +kernel
theorem xo236 : xOKm 236 := ⟨xM236, rfl, by decide +kernel, xgd_s (xgd_s xgd_0 xc236_0) xn236⟩
theorem xc237_0 : xchr 237 0 132 xM237 xK237 = true := by decide +kernel
theorem xn237 : xchr 237 132 1868 xM237 xK237 = true := by decide +kernel
theorem xo237 : xOKm 237 := ⟨xM237, rfl, by decide +kernel, xgd_s (xgd_s xgd_0 xc237_0) xn237⟩
theorem xc238_0 : xchr 238 0 200 xM238 xK238 = true := by decide +kernel
theorem xc238_1 : xchr 238 200 10 xM238 xK238 = true := by decide +kernel
theorem xn238 : xchr 238 210 1790 xM238 xK238 = true := by decide +kernel
theorem xo238 : xOKm 238 := ⟨xM238, rfl, by decide +kernel, xgd_s (xgd_s (xgd_s xgd_0 xc238_0) xc238_1) xn238⟩
theorem xc239_0 : xchr 239 0 25 xM239 xK239 = true := by decide +kernel
theorem xn239 : xchr 239 25 1975 xM239 xK239 = true := by decide +kernel
theorem xo239 : xOKm 239 := ⟨xM239, rfl, by decide +kernel, xgd_s (xgd_s xgd_0 xc239_0) xn239⟩
theorem xc240_0 : xchr 240 0 30 xM240 xK240 = true := by decide +kernel
theorem xn240 : xchr 240 30 1970 xM240 xK240 = true := by decide +kernel
theorem xo240 : xOKm 240 := ⟨xM240, rfl, by decide +kernel, xgd_s (xgd_s xgd_0 xc240_0) xn240⟩
theorem xc241_0 : xchr 241 0 56 xM241 xK241 = true := by decide +kernel
theorem xn241 : xchr 241 56 1944 xM241 xK241 = true := by decide +kernel
theorem xo241 : xOKm 241 := ⟨xM241, rfl, by decide +kernel, xgd_s (xgd_s xgd_0 xc241_0) xn241⟩
theorem xc242_0 : xchr 242 0 21 xM242 xK242 = true := by decide +kernel
theorem xn242 : xchr 242 21 1979 xM242 xK242 = true := by decide +kernel
theorem xo242 : xOKm 242 := ⟨xM242, rfl, by decide +kernel, xgd_s (xgd_s xgd_0 xc242_0) xn242⟩
theorem xc243_0 : xchr 243 0 200 xM243 xK243 = true := by decide +kernel
theorem xc243_1 : xchr 243 200 90 xM243 xK243 = true := by decide +kernel
theorem xn243 : xchr 243 290 1710 xM243 xK243 = true := by decide +kernel
theorem xo243 : xOKm 243 := ⟨xM243, rfl, by decide +kernel, xgd_s (xgd_s (xgd_s xgd_0 xc243_0) xc243_1) xn243⟩
theorem xc244_0 : xchr 244 0 147 xM244 xK244 = true := by decide +kernel
theorem xn244 : xchr 244 147 1853 xM244 xK244 = true := by decide +kernel
theorem xo244 : xOKm 244 := ⟨xM244, rfl, by decide +kernel, xgd_s (xgd_s xgd_0 xc244_0) xn244⟩
