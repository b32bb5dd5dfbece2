theorem xc245_0 : xchr 245 0 144 xM245 xK245 = true := by decide +kernel
theorem xn245 : xchr 245 144 1856 xM245 xK245 = true := by decide +kernel
theorem xo245 : xOKm 245 := ⟨xM245, rfl, by decide +kernel, xgd_s (xgd_s xgd_0 xc245_0) xn245⟩
theorem xc246_0 : xchr 246 0 8 xM246 xK246 = true := by decide +kernel
theorem xn246 : xchr 246 8 1992 xM246 xK246 = true := by decide +kernel
theorem xo246 : xOKm 246 := ⟨xM246, rfl, by decide +kernel, xgd_s (xgd_s xgd_0 xc246_0) xn246⟩
theorem xc247_0 : xchr 247 0 10 xM247 xK247 = true := by decide +kernel
theorem xn247 : xchr 247 10 1990 xM247 xK247 = true := by decide +kernel
theorem xo247 : xOKm 247 := ⟨xM247, rfl, by decide +kernel, xgd_s (xgd_s xgd_0 xc247_0) xn247⟩
theorem xc248_0 : xchr 248 0 8 xM248 xK248 = true := by decide +kernel
theorem xn248 : xchr 248 8 1992 xM248 xK248 = true := by decide +kernel
theorem xo248 : xOKm 248 := ⟨xM248, rfl, by decide +kernel, xgd_s (xgd_s xgd_0 xc248_0) xn248⟩
theorem xc249_0 : xchr 249 0 14 xM249 xK249 = true := by decide +kernel
theorem xn249 : xchr 249 14 1986 xM249 xK249 = true := by decide +kernel
theorem xo249 : xOKm 249 := ⟨xM249, rfl, by decide +kernel, xgd_s (xgd_s xgd_0 xc249_0) xn249⟩
theorem xc250_0 : xchr 250 0 31 xM250 xK250 = true := by decide +kernel
theorem xn250 : xchr 250 31 1969 xM250 xK250 = true := by decide +kernel
theorem xo250 : xOKm 250 := ⟨xM250, rfl, by decide +kernel, xgd_s (xgd_s xgd_0 xc250_0) xn250⟩
theorem xc251_0 : xchr 251 0 29 xM251 xK251 = true := by decide +kernel
theorem xn251 : xchr 251 29 1971 xM251 xK251 = true := by decide +kernel
theorem xo251 : xOKm 251 := ⟨xM251, rfl, by decide +kernel, xgd_s (xgd_s xgd_0 xc251_0) xn251⟩
theorem xc252_0 : xchr 252 0 15 xM252 xK252 = true := by decide +kernel
theorem xn252 : xchr 252 15 1985 xM252 xK252 = true := by decide +kernel
theorem xo252 : xOKm 252 := ⟨xM252, rfl, by decide +kernel, xgd_s (xgd_s xgd_0 xc252_0) xn252⟩
theorem xc253_0 : xchr 253 0 24 xM253 xK253 = true := by decide +kernel
theorem xn253 : xchr 253 24 1976 xM253 xK253 = true := by decide +kernel
theorem xo253 : xOKm 253 := ⟨xM253, rfl, by decide +kernel, xgd_s (xgd_s xgd_0 xc253_0) xn253⟩
theorem xc254_0 : xchr 254 0 58 xM254 xK254 = true := by decide +kernel
theorem xn254 : xchr 254 58 1942 xM254 xK254 = true := by decide +kernel
theorem xo254 : xOKm 254 := ⟨xM254, rfl, by decide +kernel, xgd_s (xgd_s xgd_0 xc254_0) xn254⟩
theorem xc255_0 : xchr 255 0 58 xM255 xK255 = true := by decide +kernel
theorem xn255 : xchr 255 58 1942 xM255 xK255 = true := by decide +kernel
theorem xo255 : xOKm 255 := ⟨xM255, rfl, by decide +kernel, xgd_s (xgd_s xgd_0 xc255_0) xn255⟩
theorem xc256_0 : xchr 256 0 95 xM256 xK256 = true := by decide +kernel
theorem xn256 : xchr 256 95 1905 xM256 xK256 = true := by decide +kernel
theorem xo256 : xOKm 256 := ⟨xM256, rfl, by decide +kernel, xgd_s (xgd_s xgd_0 xc256_0) xn256⟩
theorem xc257_0 : xchr 257 0 29 xM257 xK257 = true := by decide +kernel
theorem xn257 : xchr 257 29 1971 xM257 xK257 = true := by decide +kernel
theorem xo257 : xOKm 257 := ⟨xM257, rfl, by decide +kernel, xgd_s (xgd_s xgd_0 xc257_0) xn257⟩
theorem xc258_0 : xchr 258 0 111 xM258 xK258 = true := by decide +kernel
theorem xn258 : xchr 258 111 1889 xM258 xK258 = true := by decide +kernel
theorem xo258 : xOKm 258 := ⟨xM258, rfl, by decide +kernel, xgd_s (xgd_s xgd_0 xc258_0) xn258⟩
theorem xc259_0 : xchr 259 0 8 xM259 xK259 = true := by decide +kernel
theorem xn259 : xchr 259 8 1992 xM259 xK259 = true := by decide +kernel
theorem xo259 : xOKm 259 := ⟨xM259, rfl, by decide +kernel, xgd_s (xgd_s xgd_0 xc259_0) xn259⟩
theorem xc260_0 : xchr 260 0 179 xM260 xK260 = true := by decide +kernel
theorem xn260 : xchr 260 179 1821 xM260 xK260 = true := by decide +kernel
theorem xo260 : xOKm 260 := ⟨xM260, rfl, by decide +kernel, xgd_s (xgd_s xgd_0 xc260_0) xn260⟩
theorem xc261_0 : xchr 261 0 142 xM261 xK261 = true := by decide +kernel
theorem xn261 : xchr 261 142 1858 xM261 xK261 = true := by decide +kernel
theorem xo261 : xOKm 261 := ⟨xM261, rfl, by decide +kernel, xgd_s (xgd_s xgd_0 xc261_0) xn261⟩
theorem xc262_0 : xchr 262 0 99 xM262 xK262 = true := by decide +kernel
theorem xn262 : xchr 262 99 1901 xM262 xK262 = true := by decide +kernel
theorem xo262 : xOKm 262 := ⟨xM262, rfl, by decide +kernel, xgd_s (xgd_s xgd_0 xc262_0) xn262⟩
theorem xc263_0 : xchr 263 0 14 xM263 xK263 = true := by decide +kernel
theorem xn263 : xchr 263 14 1986 xM263 xK263 = true := by decide +kernel
theorem xo263 : xOKm 263 := ⟨xM263, rfl, by decide +kernel, xgd_s (xgd_s xgd_0 xc263_0) xn263⟩
theorem xc264_0 : xchr 264 0 12 xM264 xK264 = true := by decide +kernel
theorem xn264 : xchr 264 12 1988 xM264 xK264 = true := by decide +kernel
theorem xo264 : xOKm 264 := ⟨xM264, rfl, by decide +kernel, xgd_s (xgd_s xgd_0 xc264_0) xn264⟩
theorem xc265_0 : xchr 265 0 32 xM265 xK265 = true := by decide +kernel
theorem xn265 : xchr 265 32 1968 xM265 xK265 = true := by decide +kernel
theorem xo265 : xOKm 265 := ⟨xM265, rfl, by decide +kernel, xgd_s (xgd_s xgd_0 xc265_0) xn265⟩
theorem xc266_0 : xchr 266 0 86 xM266 xK266 = true := by decide +kernel
theorem xn266 : xchr 266 86 1914 xM266 xK266 = true := by decide +kernel
theorem xo266 : xOKm 266 := ⟨xM266, rfl, by decide +kernel, xgd_s (xgd_s xgd_0 xc266_0) xn266⟩
theorem xc267_0 : xchr 267 0 116 xM267 xK267 = true := by decide +kernel
theorem xn267 : xchr 267 116 1884 xM267 xK267 = true := by decide +kernel
theorem xo267 : xOKm 267 := ⟨xM267, rfl, by decide +kernel, xgd_s (xgd_s xgd_0 xc267_0) xn267⟩
theorem xc268_0 : xchr 268 0 68 xM268 xK268 = true := by decide +kernel
theorem xn268 : xchr 268 68 1932 xM268 xK268 = true := by decide +kernel
theorem xo268 : xOKm 268 := ⟨xM268, rfl, by decide +kernel, xgd_s (xgd_s xgd_0 xc268_0) xn268⟩
theorem xc269_0 : xchr 269 0 101 xM269 xK269 = true := by decide +kernel
theorem xn269 : xchr 269 101 1899 xM269 xK269 = true := by decide +kernel
theorem xo269 : xOKm 269 := ⟨xM269, rfl, by decide +kernel, xgd_s (xgd_s xgd_0 xc269_0) xn269⟩
theorem xc270_0 : xchr 270 0 87 xM270 xK270 = true := by decide +kernel
theorem xn270 : xchr 270 87 1913 xM270 xK270 = true := by decide +kernel
theorem xo270 : xOKm 270 := ⟨xM270, rfl, by decide +kernel, xgd_s (xgd_s xgd_0 xc270_0) xn270⟩
theorem xc271_0 : xchr 271 0 107 xM271 xK271 = true := by decide +kernel
theorem xn271 : xchr 271 107 1893 xM271 xK271 = true := by decide +kernel
theorem xo271 : xOKm 271 := ⟨xM271, rfl, by decide +kernel, xgd_s (xgd_s xgd_0 xc271_0) xn271⟩
theorem xc272_0 : xchr 272 0 48 xM272 xK272 = true := by decide +kernel
theorem xn272 : xchr 272 48 1952 xM272 xK272 = true := by decide +kernel
theorem xo272 : xOKm 272 := ⟨xM272, rfl, by decide +kernel, xgd_s (xgd_s xgd_0 xc272_0) xn272⟩
theorem xc273_0 : xchr 273 0 33 xM273 xK273 = true := by decide +kernel
theorem xn273 : xchr 273 33 1967 xM273 xK273 = true := by decide +kernel
theorem xo273 : xOKm 273 := ⟨xM273, rfl, by decide +kernel, xgd_s (xgd_s xgd_0 xc273_0) xn273⟩
theorem xc274_0 : xchr 274 0 148 xM274 xK274 = true := by decide +kernel
theorem xn274 : xchr 274 148 1852 xM274 xK274 = true := by decide +kernel
theorem xo274 : xOKm 274 := ⟨xM274, rfl, by decide +kernel, xgd_s (xgd_s xgd_0 xc274_0) xn274⟩
theorem xc275_0 : xchr 275 0 50 xM275 xK275 = true := by decide +kernel
theorem xn275 : xchr 275 50 1950 xM275 xK275 = true := by decide +kernel
theorem xo275 : xOKm 275 := ⟨xM275, rfl, by decide +kernel, xgd_s (xgd_s xgd_0 xc275_0) xn275⟩
theorem xc276_0 : xchr 276 0 14 xM276 xK276 = true := by decide +kernel
theorem xn276 : xchr 276 14 1986 xM276 xK276 = true := by decide +kernel
theorem xo276 : xOKm 276 := ⟨xM276, rfl, by decide +kernel, xgd_s (xgd_s xgd_0 xc276_0) xn276⟩
theorem xc277_0 : xchr 277 0 33 xM277 xK277 = true := by decide +kernel
theorem xn277 : xchr 277 33 1967 xM277 xK277 = true := by decide +kernel
theorem xo277 : xOKm 277 := ⟨xM277, rfl, by decide +kernel, xgd_s (xgd_s xgd_0 xc277_0) xn277⟩
theorem xc278_0 : xchr 278 0 112 xM278 xK278 = true := by decide +kernel
theorem xn278 : xchr 278 112 1888 xM278 xK278 = true := by decide +kernel
theorem xo278 : xOKm 278 := ⟨xM278, rfl, by decide +kernel, xgd_s (xgd_s xgd_0 xc278_0) xn278⟩
theorem xc279_0 : xchr 279 0 65 xM279 xK279 = true := by decide +kernel
theorem xn279 : xchr 279 65 1935 xM279 xK279 = true := by decide +kernel
theorem xo279 : xOKm 279 := ⟨xM279, rfl, by decide +kernel, xgd_s (xgd_s xgd_0 xc279_0) xn279⟩
theorem xc280_0 : xchr 280 0 39 xM280 xK280 = true := by decide +kernel
theorem xn280 : xchr 280 39 1961 xM280 xK280 = true := by decide +kernel
theorem xo280 : xOKm 280 := ⟨xM280, rfl, by decide +kernel, xgd_s (xgd_s xgd_0 xc280_0) xn280⟩
theorem xc281_0 : xchr 281 0 96 xM281 xK281 = true := by decide +kernel
theorem xn281 : xchr 281 96 1904 xM281 xK281 = true := by decide +kernel
theorem xo281 : xOKm 281 := ⟨xM281, rfl, by decide +kernel, xgd_s (xgd_s xgd_0 xc281_0) xn281⟩
theorem xc282_0 : xchr 282 0 75 xM282 xK282 = true := by decide +kernel
theorem xn282 : xchr 282 75 1925 xM282 xK282 = true := by decide +kernel
theorem xo282 : xOKm 282 := ⟨xM282, rfl, by decide +kernel, xgd_s (xgd_s xgd_0 xc282_0) xn282⟩
theorem xc283_0 : xchr 283 0 127 xM283 xK283 = true := by decide +kernel
theorem xn283 : xchr 283 127 1873 xM283 xK283 = true := by decide +kernel
theorem xo283 : xOKm 283 := ⟨xM283, rfl, by decide +kernel, xgd_s (xgd_s xgd_0 xc283_0) xn283⟩
theorem xc284_0 : xchr 284 0 63 xM284 xK284 = true := by decide +kernel
theorem xn284 : xchr 284 63 1937 xM284 xK284 = true := by decide +kernel
theorem xo284 : xOKm 284 := ⟨xM284, rfl, by decide +kernel, xgd_s (xgd_s xgd_0 xc284_0) xn284⟩
theorem xc285_0 : xchr 285 0 43 xM285 xK285 = true := by decide +kernel
theorem xn285 : xchr 285 43 1957 xM285 xK285 = true := by decide +kernel
theorem xo285 : xOKm 285 := ⟨xM285, rfl, by decide +kernel, xgd_s (xgd_s xgd_0 xc285_0) xn285⟩
theorem xc286_0 : xchr 286 0 200 xM286 xK286 = true := by decide +kernel
theorem xc286_1 : xchr 286 200 26 xM286 xK286 = true := by decide +kernel
theorem xn286 : xchr 286 226 1774 xM286 xK286 = true := by decide +kernel
theorem xo286 : xOKm 286 := ⟨xM286, rfl, by decide +kernel, xgd_s (xgd_s (xgd_s xgd_0 xc286_0) xc286_1) xn286⟩
