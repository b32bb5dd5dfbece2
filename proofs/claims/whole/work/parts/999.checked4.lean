theorem xc189_0 : xchr 189 0 39 xM189 xK189 = true := by decide +kernel
theorem xn189 : xchr 189 39 1961 xM189 xK189 = true := by decide +kernel
theorem xo189 : xOKm 189 := ⟨xM189, rfl, by decide +kernel, xgd_s (xgd_s xgd_0 xc189_0) xn189⟩
theorem xc190_0 : xchr 190 0 29 xM190 xK190 = true := by decide +kernel
theorem xn190 : xchr 190 29 1971 xM190 xK190 = true := by decide +kernel
theorem xo190 : xOKm 190 := ⟨xM190, rfl, by decide +kernel, xgd_s (xgd_s xgd_0 xc190_0) xn190⟩
theorem xc191_0 : xchr 191 0 50 xM191 xK191 = true := by decide +kernel
theorem xn191 : xchr 191 50 1950 xM191 xK191 = true := by decide +kernel
theorem xo191 : xOKm 191 := ⟨xM191, rfl, by decide +kernel, xgd_s (xgd_s xgd_0 xc191_0) xn191⟩
theorem xc192_0 : xchr 192 0 19 xM192 xK192 = true := by decide +kernel
theorem xn192 : xchr 192 19 1981 xM192 xK192 = true := by decide +kernel
theorem xo192 : xOKm 192 := ⟨xM192, rfl, by decide +kernel, xgd_s (xgd_s xgd_0 xc192_0) xn192⟩
theorem xc193_0 : xchr 193 0 9 xM193 xK193 = true := by decide +kernel
theorem xn193 : xchr 193 9 1991 xM193 xK193 = true := by decide +kernel
theorem xo193 : xOKm 193 := ⟨xM193, rfl, by decide +kernel, xgd_s (xgd_s xgd_0 xc193_0) xn193⟩
theorem xc194_0 : xchr 194 0 38 xM194 xK194 = true := by decide +kernel
theorem xn194 : xchr 194 38 1962 xM194 xK194 = true := by decide +kernel
theorem xo194 : xOKm 194 := ⟨xM194, rfl, by decide +kernel, xgd_s (xgd_s xgd_0 xc194_0) xn194⟩
theorem xc196_0 : xchr 196 0 19 xM196 xK196 = true := by decide +kernel
theorem xn196 : xchr 196 19 1981 xM196 xK196 = true := by decide +kernel
theorem xo196 : xOKm 196 := ⟨xM196, rfl, by decide +kernel, xgd_s (xgd_s xgd_0 xc196_0) xn196⟩
theorem xc197_0 : xchr 197 0 119 xM197 xK197 = true := by decide +kernel
theorem xn197 : xchr 197 119 1881 xM197 xK197 = true := by decide +kernel
theorem xo197 : xOKm 197 := ⟨xM197, rfl, by decide +kernel, xgd_s (xgd_s xgd_0 xc197_0) xn197⟩
theorem xc198_0 : xchr 198 0 21 xM198 xK198 = true := by decide +kernel
theorem xn198 : xchr 198 21 1979 xM198 xK198 = true := by decide +kernel
theorem xo198 : xOKm 198 := ⟨xM198, rfl, by decide +kernel, xgd_s (xgd_s xgd_0 xc198_0) xn198⟩
theorem xc199_0 : xchr 199 0 19 xM199 xK199 = true := by decide +kernel
theorem xn199 : xchr 199 19 1981 xM199 xK199 = true := by decide +kernel
theorem xo199 : xOKm 199 := ⟨xM199, rfl, by decide +kernel, xgd_s (xgd_s xgd_0 xc199_0) xn199⟩
theorem xc200_0 : xchr 200 0 18 xM200 xK200 = true := by decide +kernel
theorem xn200 : xchr 200 18 1982 xM200 xK200 = true := by decide +kernel
theorem xo200 : xOKm 200 := ⟨xM200, rfl, by decide +kernel, xgd_s (xgd_s xgd_0 xc200_0) xn200⟩
theorem xc201_0 : xchr 201 0 18 xM201 xK201 = true := by decide +kernel
theorem xn201 : xchr 201 18 1982 xM201 xK201 = true := by decide +kernel
theorem xo201 : xOKm 201 := ⟨xM201, rfl, by decide +kernel, xgd_s (xgd_s xgd_0 xc201_0) xn201⟩
theorem xc202_0 : xchr 202 0 77 xM202 xK202 = true := by decide +kernel
theorem xn202 : xchr 202 77 1923 xM202 xK202 = true := by decide +kernel
theorem xo202 : xOKm 202 := ⟨xM202, rfl, by decide +kernel, xgd_s (xgd_s xgd_0 xc202_0) xn202⟩
theorem xc203_0 : xchr 203 0 109 xM203 xK203 = true := by decide +kernel
theorem xn203 : xchr 203 109 1891 xM203 xK203 = true := by decide +kernel
theorem xo203 : xOKm 203 := ⟨xM203, rfl, by decide +kernel, xgd_s (xgd_s xgd_0 xc203_0) xn203⟩
theorem xc204_0 : xchr 204 0 31 xM204 xK204 = true := by decide +kernel
theorem xn204 : xchr 204 31 1969 xM204 xK204 = true := by decide +kernel
theorem xo204 : xOKm 204 := ⟨xM204, rfl, by decide +kernel, xgd_s (xgd_s xgd_0 xc204_0) xn204⟩
theorem xc205_0 : xchr 205 0 25 xM205 xK205 = true := by decide +kernel
theorem xn205 : xchr 205 25 1975 xM205 xK205 = true := by decide +kernel
theorem xo205 : xOKm 205 := ⟨xM205, rfl, by decide +kernel, xgd_s (xgd_s xgd_0 xc205_0) xn205⟩
theorem xc206_0 : xchr 206 0 29 xM206 xK206 = true := by decide +kernel
theorem xn206 : xchr 206 29 1971 xM206 xK206 = true := by decide +kernel
theorem xo206 : xOKm 206 := ⟨xM206, rfl, by decide +kernel, xgd_s (xgd_s xgd_0 xc206_0) xn206⟩
theorem xc207_0 : xchr 207 0 25 xM207 xK207 = true := by decide +kernel
theorem xn207 : xchr 207 25 1975 xM207 xK207 = true := by decide +kernel
theorem xo207 : xOKm 207 := ⟨xM207, rfl, by decide +kernel, xgd_s (xgd_s xgd_0 xc207_0) xn207⟩
theorem xc208_0 : xchr 208 0 163 xM208 xK208 = true := by decide +kernel
theorem xn208 : xchr 208 163 1837 xM208 xK208 = true := by decide +kernel
theorem xo208 : xOKm 208 := ⟨xM208, rfl, by decide +kernel, xgd_s (xgd_s xgd_0 xc208_0) xn208⟩
theorem xc209_0 : xchr 209 0 200 xM209 xK209 = true := by decide +kernel
theorem xc209_1 : xchr 209 200 47 xM209 xK209 = true := by decide +kernel
theorem xn209 : xchr 209 247 1753 xM209 xK209 = true := by decide +kernel
theorem xo209 : xOKm 209 := ⟨xM209, rfl, by decide +kernel, xgd_s (xgd_s (xgd_s xgd_0 xc209_0) xc209_1) xn209⟩
theorem xc210_0 : xchr 210 0 155 xM210 xK210 = true := by decide +kernel
theorem xn210 : xchr 210 155 1845 xM210 xK210 = true := by decide +kernel
theorem xo210 : xOKm 210 := ⟨xM210, rfl, by decide +kernel, xgd_s (xgd_s xgd_0 xc210_0) xn210⟩
theorem xc211_0 : xchr 211 0 151 xM211 xK211 = true := by decide +kernel
theorem xn211 : xchr 211 151 1849 xM211 xK211 = true := by decide +kernel
theorem xo211 : xOKm 211 := ⟨xM211, rfl, by decide +kernel, xgd_s (xgd_s xgd_0 xc211_0) xn211⟩
theorem xc212_0 : xchr 212 0 36 xM212 xK212 = true := by decide +kernel
theorem xn212 : xchr 212 36 1964 xM212 xK212 = true := by decide +kernel
theorem xo212 : xOKm 212 := ⟨xM212, rfl, by decide +kernel, xgd_s (xgd_s xgd_0 xc212_0) xn212⟩
theorem xc213_0 : xchr 213 0 42 xM213 xK213 = true := by decide +kernel
theorem xn213 : xchr 213 42 1958 xM213 xK213 = true := by decide +kernel
theorem xo213 : xOKm 213 := ⟨xM213, rfl, by decide +kernel, xgd_s (xgd_s xgd_0 xc213_0) xn213⟩
theorem xc214_0 : xchr 214 0 72 xM214 xK214 = true := by decide +kernel
theorem xn214 : xchr 214 72 1928 xM214 xK214 = true := by decide +kernel
theorem xo214 : xOKm 214 := ⟨xM214, rfl, by decide +kernel, xgd_s (xgd_s xgd_0 xc214_0) xn214⟩
theorem xc215_0 : xchr 215 0 60 xM215 xK215 = true := by decide +kernel
theorem xn215 : xchr 215 60 1940 xM215 xK215 = true := by decide +kernel
theorem xo215 : xOKm 215 := ⟨xM215, rfl, by decide +kernel, xgd_s (xgd_s xgd_0 xc215_0) xn215⟩
theorem xc216_0 : xchr 216 0 138 xM216 xK216 = true := by decide +kernel
theorem xn216 : xchr 216 138 1862 xM216 xK216 = true := by decide +kernel
theorem xo216 : xOKm 216 := ⟨xM216, rfl, by decide +kernel, xgd_s (xgd_s xgd_0 xc216_0) xn216⟩
theorem xc217_0 : xchr 217 0 134 xM217 xK217 = true := by decide +kernel
theorem xn217 : xchr 217 134 1866 xM217 xK217 = true := by decide +kernel
theorem xo217 : xOKm 217 := ⟨xM217, rfl, by decide +kernel, xgd_s (xgd_s xgd_0 xc217_0) xn217⟩
theorem xc218_0 : xchr 218 0 55 xM218 xK218 = true := by decide +kernel
theorem xn218 : xchr 218 55 1945 xM218 xK218 = true := by decide +kernel
theorem xo218 : xOKm 218 := ⟨xM218, rfl, by decide +kernel, xgd_s (xgd_s xgd_0 xc218_0) xn218⟩
theorem xc219_0 : xchr 219 0 124 xM219 xK219 = true := by decide +kernel
theorem xn219 : xchr 219 124 1876 xM219 xK219 = true := by decide +kernel
theorem xo219 : xOKm 219 := ⟨xM219, rfl, by decide +kernel, xgd_s (xgd_s xgd_0 xc219_0) xn219⟩
