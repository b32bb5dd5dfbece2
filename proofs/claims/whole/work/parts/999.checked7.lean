theorem xc287_0 : xchr 287 0 200 xM287 xK287 = true := by decide +kernel
theorem xc287_1 : xchr 287 200 45 xM287 xK287 = true := by decide +kernel
theorem xn287 : xchr 287 245 1755 xM287 xK287 = true := by decide +kernel
theorem xo287 : xOKm 287 := ⟨xM287, rfl, by decide +kernel, xgd_s (xgd_s (xgd_s xgd_0 xc287_0) xc287_1) xn287⟩
theorem xc288_0 : xchr 288 0 79 xM288 xK288 = true := by decide +kernel
theorem xn288 : xchr 288 79 1921 xM288 xK288 = true := by decide +kernel
theorem xo288 : xOKm 288 := ⟨xM288, rfl, by decide +kernel, xgd_s (xgd_s xgd_0 xc288_0) xn288⟩
theorem xc289_0 : xchr 289 0 85 xM289 xK289 = true := by decide +kernel
theorem xn289 : xchr 289 85 1915 xM289 xK289 = true := by decide +kernel
theorem xo289 : xOKm 289 := ⟨xM289, rfl, by decide +kernel, xgd_s (xgd_s xgd_0 xc289_0) xn289⟩
theorem xc290_0 : xchr 290 0 85 xM290 xK290 = true := by decide +kernel
theorem xn290 : xchr 290 85 1915 xM290 xK290 = true := by decide +kernel
theorem xo290 : xOKm 290 := ⟨xM290, rfl, by decide +kernel, xgd_s (xgd_s xgd_0 xc290_0) xn290⟩
theorem xc291_0 : xchr 291 0 33 xM291 xK291 = true := by decide +kernel
theorem xn291 : xchr 291 33 1967 xM291 xK291 = true := by decide +kernel
theorem xo291 : xOKm 291 := ⟨xM291, rfl, by decide +kernel, xgd_s (xgd_s xgd_0 xc291_0) xn291⟩
theorem xc292_0 : xchr 292 0 30 xM292 xK292 = true := by decide +kernel
theorem xn292 : xchr 292 30 1970 xM292 xK292 = true := by decide +kernel
theorem xo292 : xOKm 292 := ⟨xM292, rfl, by decide +kernel, xgd_s (xgd_s xgd_0 xc292_0) xn292⟩
theorem xc293_0 : xchr 293 0 75 xM293 xK293 = true := by decide +kernel
theorem xn293 : xchr 293 75 1925 xM293 xK293 = true := by decide +kernel
theorem xo293 : xOKm 293 := ⟨xM293, rfl, by decide +kernel, xgd_s (xgd_s xgd_0 xc293_0) xn293⟩
theorem xc294_0 : xchr 294 0 43 xM294 xK294 = true := by decide +kernel
theorem xn294 : xchr 294 43 1957 xM294 xK294 = true := by decide +kernel
theorem xo294 : xOKm 294 := ⟨xM294, rfl, by decide +kernel, xgd_s (xgd_s xgd_0 xc294_0) xn294⟩
theorem xc295_0 : xchr 295 0 121 xM295 xK295 = true := by decide +kernel
theorem xn295 : xchr 295 121 1879 xM295 xK295 = true := by decide +kernel
theorem xo295 : xOKm 295 := ⟨xM295, rfl, by decide +kernel, xgd_s (xgd_s xgd_0 xc295_0) xn295⟩
theorem xc296_0 : xchr 296 0 163 xM296 xK296 = true := by decide +kernel
theorem xn296 : xchr 296 163 1837 xM296 xK296 = true := by decide +kernel
theorem xo296 : xOKm 296 := ⟨xM296, rfl, by decide +kernel, xgd_s (xgd_s xgd_0 xc296_0) xn296⟩
theorem xc297_0 : xchr 297 0 52 xM297 xK297 = true := by decide +kernel
theorem xn297 : xchr 297 52 1948 xM297 xK297 = true := by decide +kernel
theorem xo297 : xOKm 297 := ⟨xM297, rfl, by decide +kernel, xgd_s (xgd_s xgd_0 xc297_0) xn297⟩
theorem xc298_0 : xchr 298 0 71 xM298 xK298 = true := by decide +kernel
theorem xn298 : xchr 298 71 1929 xM298 xK298 = true := by decide +kernel
theorem xo298 : xOKm 298 := ⟨xM298, rfl, by decide +kernel, xgd_s (xgd_s xgd_0 xc298_0) xn298⟩
theorem xc299_0 : xchr 299 0 87 xM299 xK299 = true := by decide +kernel
theorem xn299 : xchr 299 87 1913 xM299 xK299 = true := by decide +kernel
theorem xo299 : xOKm 299 := ⟨xM299, rfl, by decide +kernel, xgd_s (xgd_s xgd_0 xc299_0) xn299⟩
theorem xc300_0 : xchr 300 0 30 xM300 xK300 = true := by decide +kernel
theorem xn300 : xchr 300 30 1970 xM300 xK300 = true := by decide +kernel
theorem xo300 : xOKm 300 := ⟨xM300, rfl, by decide +kernel, xgd_s (xgd_s xgd_0 xc300_0) xn300⟩
theorem xc301_0 : xchr 301 0 52 xM301 xK301 = true := by decide +kernel
theorem xn301 : xchr 301 52 1948 xM301 xK301 = true := by decide +kernel
theorem xo301 : xOKm 301 := ⟨xM301, rfl, by decide +kernel, xgd_s (xgd_s xgd_0 xc301_0) xn301⟩
theorem xc302_0 : xchr 302 0 20 xM302 xK302 = true := by decide +kernel
theorem xn302 : xchr 302 20 1980 xM302 xK302 = true := by decide +kernel
theorem xo302 : xOKm 302 := ⟨xM302, rfl, by decide +kernel, xgd_s (xgd_s xgd_0 xc302_0) xn302⟩
theorem xc303_0 : xchr 303 0 77 xM303 xK303 = true := by decide +kernel
theorem xn303 : xchr 303 77 1923 xM303 xK303 = true := by decide +kernel
theorem xo303 : xOKm 303 := ⟨xM303, rfl, by decide +kernel, xgd_s (xgd_s xgd_0 xc303_0) xn303⟩
theorem xc304_0 : xchr 304 0 200 xM304 xK304 = true := by decide +kernel
theorem xc304_1 : xchr 304 200 11 xM304 xK304 = true := by decide +kernel
theorem xn304 : xchr 304 211 1789 xM304 xK304 = true := by decide +kernel
theorem xo304 : xOKm 304 := ⟨xM304, rfl, by decide +kernel, xgd_s (xgd_s (xgd_s xgd_0 xc304_0) xc304_1) xn304⟩
theorem xc305_0 : xchr 305 0 24 xM305 xK305 = true := by decide +kernel
theorem xn305 : xchr 305 24 1976 xM305 xK305 = true := by decide +kernel
theorem xo305 : xOKm 305 := ⟨xM305, rfl, by decide +kernel, xgd_s (xgd_s xgd_0 xc305_0) xn305⟩
theorem xc306_0 : xchr 306 0 132 xM306 xK306 = true := by decide +kernel
theorem xn306 : xchr 306 132 1868 xM306 xK306 = true := by decide +kernel
theorem xo306 : xOKm 306 := ⟨xM306, rfl, by decide +kernel, xgd_s (xgd_s xgd_0 xc306_0) xn306⟩
theorem xc307_0 : xchr 307 0 31 xM307 xK307 = true := by decide +kernel
theorem xn307 : xchr 307 31 1969 xM307 xK307 = true := by decide +kernel
theorem xo307 : xOKm 307 := ⟨xM307, rfl, by decide +kernel, xgd_s (xgd_s xgd_0 xc307_0) xn307⟩
theorem xc308_0 : xchr 308 0 125 xM308 xK308 = true := by decide +kernel
theorem xn308 : xchr 308 125 1875 xM308 xK308 = true := by decide +kernel
theorem xo308 : xOKm 308 := ⟨xM308, rfl, by decide +kernel, xgd_s (xgd_s xgd_0 xc308_0) xn308⟩
theorem xc309_0 : xchr 309 0 114 xM309 xK309 = true := by decide +kernel
theorem xn309 : xchr 309 114 1886 xM309 xK309 = true := by decide +kernel
theorem xo309 : xOKm 309 := ⟨xM309, rfl, by decide +kernel, xgd_s (xgd_s xgd_0 xc309_0) xn309⟩
theorem xc310_0 : xchr 310 0 21 xM310 xK310 = true := by decide +kernel
theorem xn310 : xchr 310 21 1979 xM310 xK310 = true := by decide +kernel
theorem xo310 : xOKm 310 := ⟨xM310, rfl, by decide +kernel, xgd_s (xgd_s xgd_0 xc310_0) xn310⟩
theorem xc311_0 : xchr 311 0 30 xM311 xK311 = true := by decide +kernel
theorem xn311 : xchr 311 30 1970 xM311 xK311 = true := by decide +kernel
theorem xo311 : xOKm 311 := ⟨xM311, rfl, by decide +kernel, xgd_s (xgd_s xgd_0 xc311_0) xn311⟩
theorem xc312_0 : xchr 312 0 179 xM312 xK312 = true := by decide +kernel
theorem xn312 : xchr 312 179 1821 xM312 xK312 = true := by decide +kernel
theorem xo312 : xOKm 312 := ⟨xM312, rfl, by decide +kernel, xgd_s (xgd_s xgd_0 xc312_0) xn312⟩
theorem xc313_0 : xchr 313 0 23 xM313 xK313 = true := by decide +kernel
theorem xn313 : xchr 313 23 1977 xM313 xK313 = true := by decide +kernel
theorem xo313 : xOKm 313 := ⟨xM313, rfl, by decide +kernel, xgd_s (xgd_s xgd_0 xc313_0) xn313⟩
theorem xc314_0 : xchr 314 0 200 xM314 xK314 = true := by decide +kernel
theorem xc314_1 : xchr 314 200 48 xM314 xK314 = true := by decide +kernel
theorem xn314 : xchr 314 248 1752 xM314 xK314 = true := by decide +kernel
theorem xo314 : xOKm 314 := ⟨xM314, rfl, by decide +kernel, xgd_s (xgd_s (xgd_s xgd_0 xc314_0) xc314_1) xn314⟩
theorem xc315_0 : xchr 315 0 198 xM315 xK315 = true := by decide +kernel
theorem xn315 : xchr 315 198 1802 xM315 xK315 = true := by decide +kernel
theorem xo315 : xOKm 315 := ⟨xM315, rfl, by decide +kernel, xgd_s (xgd_s xgd_0 xc315_0) xn315⟩
theorem xc316_0 : xchr 316 0 30 xM316 xK316 = true := by decide +kernel
theorem xn316 : xchr 316 30 1970 xM316 xK316 = true := by decide +kernel
theorem xo316 : xOKm 316 := ⟨xM316, rfl, by decide +kernel, xgd_s (xgd_s xgd_0 xc316_0) xn316⟩
theorem xc317_0 : xchr 317 0 11 xM317 xK317 = true := by decide +kernel
theorem xn317 : xchr 317 11 1989 xM317 xK317 = true := by decide +kernel
theorem xo317 : xOKm 317 := ⟨xM317, rfl, by decide +kernel, xgd_s (xgd_s xgd_0 xc317_0) xn317⟩
theorem xc318_0 : xchr 318 0 12 xM318 xK318 = true := by decide +kernel
theorem xn318 : xchr 318 12 1988 xM318 xK318 = true := by decide +kernel
theorem xo318 : xOKm 318 := ⟨xM318, rfl, by decide +kernel, xgd_s (xgd_s xgd_0 xc318_0) xn318⟩
theorem xc319_0 : xchr 319 0 11 xM319 xK319 = true := by decide +kernel
theorem xn319 : xchr 319 11 1989 xM319 xK319 = true := by decide +kernel
theorem xo319 : xOKm 319 := ⟨xM319, rfl, by decide +kernel, xgd_s (xgd_s xgd_0 xc319_0) xn319⟩
theorem xc320_0 : xchr 320 0 12 xM320 xK320 = true := by decide +kernel
theorem xn320 : xchr 320 12 1988 xM320 xK320 = true := by decide +kernel
theorem xo320 : xOKm 320 := ⟨xM320, rfl, by decide +kernel, xgd_s (xgd_s xgd_0 xc320_0) xn320⟩
theorem xc321_0 : xchr 321 0 23 xM321 xK321 = true := by decide +kernel
theorem xn321 : xchr 321 23 1977 xM321 xK321 = true := by decide +kernel
theorem xo321 : xOKm 321 := ⟨xM321, rfl, by decide +kernel, xgd_s (xgd_s xgd_0 xc321_0) xn321⟩
theorem xc322_0 : xchr 322 0 21 xM322 xK322 = true := by decide +kernel
theorem xn322 : xchr 322 21 1979 xM322 xK322 = true := by decide +kernel
theorem xo322 : xOKm 322 := ⟨xM322, rfl, by decide +kernel, xgd_s (xgd_s xgd_0 xc322_0) xn322⟩
