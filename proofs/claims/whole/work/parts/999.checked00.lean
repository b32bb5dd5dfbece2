theorem xc0_0 : xchr 0 0 200 xM0 xK0 = true := by decide +kernel
theorem xc0_1 : xchr 0 200 200 xM0 xK0 = true := by decide +kernel
theorem xc0_2 : xchr 0 400 200 xM0 xK0 = true := by decide +kernel
theorem xc0_3 : xchr 0 600 200 xM0 xK0 = true := by decide +kernel
theorem xc0_4 : xchr 0 800 200 xM0 xK0 = true := by decide +kernel
theorem xc0_5 : xchr 0 1000 200 xM0 xK0 = true := by decide +kernel
theorem xc0_6 : xchr 0 1200 200 xM0 xK0 = true := by decide +kernel
theorem xc0_7 : xchr 0 1400 5 xM0 xK0 = true := by decide +kernel
theorem xn0 : xchr 0 1405 595 xM0 xK0 = true := by decide +kernel
theorem xo0 : xOKm 0 := ⟨xM0, rfl, by decide +kernel, xgd_s (xgd_s (xgd_s (xgd_s (xgd_s (xgd_s (xgd_s (xgd_s (xgd_s xgd_0 xc0_0) xc0_1) xc0_2) xc0_3) xc0_4) xc0_5) xc0_6) xc0_7) xn0⟩
theorem xc1_0 : xchr 1 0 112 xM1 xK1 = true := by decide +kernel
theorem xn1 : xchr 1 112 1888 xM1 xK1 = true := by decide +kernel
theorem xo1 : xOKm 1 := ⟨xM1, rfl, by decide +kernel, xgd_s (xgd_s xgd_0 xc1_0) xn1⟩
theorem xc2_0 : xchr 2 0 46 xM2 xK2 = true := by decide +kernel
theorem xn2 : xchr 2 46 1954 xM2 xK2 = true := by decide +kernel
theorem xo2 : xOKm 2 := ⟨xM2, rfl, by decide +kernel, xgd_s (xgd_s xgd_0 xc2_0) xn2⟩
theorem xc3_0 : xchr 3 0 35 xM3 xK3 = true := by decide +kernel
theorem xn3 : xchr 3 35 1965 xM3 xK3 = true := by decide +kernel
theorem xo3 : xOKm 3 := ⟨xM3, rfl, by decide +kernel, xgd_s (xgd_s xgd_0 xc3_0) xn3⟩
theorem xc4_0 : xchr 4 0 35 xM4 xK4 = true := by decide +kernel
theorem xn4 : xchr 4 35 1965 xM4 xK4 = true := by decide +kernel
theorem xo4 : xOKm 4 := ⟨xM4, rfl, by decide +kernel, xgd_s (xgd_s xgd_0 xc4_0) xn4⟩
theorem xc5_0 : xchr 5 0 63 xM5 xK5 = true := by decide +kernel
theorem xn5 : xchr 5 63 1937 xM5 xK5 = true := by decide +kernel
theorem xo5 : xOKm 5 := ⟨xM5, rfl, by decide +kernel, xgd_s (xgd_s xgd_0 xc5_0) xn5⟩
theorem xc6_0 : xchr 6 0 11 xM6 xK6 = true := by decide +kernel
theorem xn6 : xchr 6 11 1989 xM6 xK6 = true := by decide +kernel
theorem xo6 : xOKm 6 := ⟨xM6, rfl, by decide +kernel, xgd_s (xgd_s xgd_0 xc6_0) xn6⟩
theorem xc7_0 : xchr 7 0 21 xM7 xK7 = true := by decide +kernel
theorem xn7 : xchr 7 21 1979 xM7 xK7 = true := by decide +kernel
theorem xo7 : xOKm 7 := ⟨xM7, rfl, by decide +kernel, xgd_s (xgd_s xgd_0 xc7_0) xn7⟩
theorem xc8_0 : xchr 8 0 21 xM8 xK8 = true := by decide +kernel
theorem xn8 : xchr 8 21 1979 xM8 xK8 = true := by decide +kernel
theorem xo8 : xOKm 8 := ⟨xM8, rfl, by decide +kernel, xgd_s (xgd_s xgd_0 xc8_0) xn8⟩
theorem xc9_0 : xchr 9 0 21 xM9 xK9 = true := by decide +kernel
theorem xn9 : xchr 9 21 1979 xM9 xK9 = true := by decide +kernel
theorem xo9 : xOKm 9 := ⟨xM9, rfl, by decide +kernel, xgd_s (xgd_s xgd_0 xc9_0) xn9⟩
theorem xc10_0 : xchr 10 0 19 xM10 xK10 = true := by decide +kernel
theorem xn10 : xchr 10 19 1981 xM10 xK10 = true := by decide +kernel
theorem xo10 : xOKm 10 := ⟨xM10, rfl, by decide +kernel, xgd_s (xgd_s xgd_0 xc10_0) xn10⟩
theorem xc11_0 : xchr 11 0 24 xM11 xK11 = true := by decide +kernel
theorem xn11 : xchr 11 24 1976 xM11 xK11 = true := by decide +kernel
theorem xo11 : xOKm 11 := ⟨xM11, rfl, by decide +kernel, xgd_s (xgd_s xgd_0 xc11_0) xn11⟩
theorem xc12_0 : xchr 12 0 29 xM12 xK12 = true := by decide +kernel
theorem xn12 : xchr 12 29 1971 xM12 xK12 = true := by decide +kernel
theorem xo12 : xOKm 12 := ⟨xM12, rfl, by decide +kernel, xgd_s (xgd_s xgd_0 xc12_0) xn12⟩
theorem xc13_0 : xchr 13 0 19 xM13 xK13 = true := by decide +kernel
theorem xn13 : xchr 13 19 1981 xM13 xK13 = true := by decide +kernel
theorem xo13 : xOKm 13 := ⟨xM13, rfl, by decide +kernel, xgd_s (xgd_s xgd_0 xc13_0) xn13⟩
theorem xc14_0 : xchr 14 0 19 xM14 xK14 = true := by decide +kernel
theorem xn14 : xchr 14 19 1981 xM14 xK14 = true := by decide +kernel
theorem xo14 : xOKm 14 := ⟨xM14, rfl, by decide +kernel, xgd_s (xgd_s xgd_0 xc14_0) xn14⟩
theorem xc15_0 : xchr 15 0 28 xM15 xK15 = true := by decide +kernel
theorem xn15 : xchr 15 28 1972 xM15 xK15 = true := by decide +kernel
theorem xo15 : xOKm 15 := ⟨xM15, rfl, by decide +kernel, xgd_s (xgd_s xgd_0 xc15_0) xn15⟩
theorem xc16_0 : xchr 16 0 19 xM16 xK16 = true := by decide +kernel
theorem xn16 : xchr 16 19 1981 xM16 xK16 = true := by decide +kernel
theorem xo16 : xOKm 16 := ⟨xM16, rfl, by decide +kernel, xgd_s (xgd_s xgd_0 xc16_0) xn16⟩
theorem xc17_0 : xchr 17 0 35 xM17 xK17 = true := by decide +kernel
theorem xn17 : xchr 17 35 1965 xM17 xK17 = true := by decide +kernel
theorem xo17 : xOKm 17 := ⟨xM17, rfl, by decide +kernel, xgd_s (xgd_s xgd_0 xc17_0) xn17⟩
theorem xc18_0 : xchr 18 0 26 xM18 xK18 = true := by decide +kernel
theorem xn18 : xchr 18 26 1974 xM18 xK18 = true := by decide +kernel
theorem xo18 : xOKm 18 := ⟨xM18, rfl, by decide +kernel, xgd_s (xgd_s xgd_0 xc18_0) xn18⟩
theorem xc19_0 : xchr 19 0 14 xM19 xK19 = true := by decide +kernel
theorem xn19 : xchr 19 14 1986 xM19 xK19 = true := by decide +kernel
theorem xo19 : xOKm 19 := ⟨xM19, rfl, by decide +kernel, xgd_s (xgd_s xgd_0 xc19_0) xn19⟩
theorem xc20_0 : xchr 20 0 11 xM20 xK20 = true := by decide +kernel
theorem xn20 : xchr 20 11 1989 xM20 xK20 = true := by decide +kernel
theorem xo20 : xOKm 20 := ⟨xM20, rfl, by decide +kernel, xgd_s (xgd_s xgd_0 xc20_0) xn20⟩
theorem xc21_0 : xchr 21 0 5 xM21 xK21 = true := by decide +kernel
theorem xn21 : xchr 21 5 1995 xM21 xK21 = true := by decide +kernel
theorem xo21 : xOKm 21 := ⟨xM21, rfl, by decide +kernel, xgd_s (xgd_s xgd_0 xc21_0) xn21⟩
theorem xc22_0 : xchr 22 0 94 xM22 xK22 = true := by decide +kernel
theorem xn22 : xchr 22 94 1906 xM22 xK22 = true := by decide +kernel
theorem xo22 : xOKm 22 := ⟨xM22, rfl, by decide +kernel, xgd_s (xgd_s xgd_0 xc22_0) xn22⟩
theorem xc23_0 : xchr 23 0 43 xM23 xK23 = true := by decide +kernel
theorem xn23 : xchr 23 43 1957 xM23 xK23 = true := by decide +kernel
theorem xo23 : xOKm 23 := ⟨xM23, rfl, by decide +kernel, xgd_s (xgd_s xgd_0 xc23_0) xn23⟩
theorem xc24_0 : xchr 24 0 56 xM24 xK24 = true := by decide +kernel
theorem xn24 : xchr 24 56 1944 xM24 xK24 = true := by decide +kernel
theorem xo24 : xOKm 24 := ⟨xM24, rfl, by decide +kernel, xgd_s (xgd_s xgd_0 xc24_0) xn24⟩
theorem xc25_0 : xchr 25 0 49 xM25 xK25 = true := by decide +kernel
theorem xn25 : xchr 25 49 1951 xM25 xK25 = true := by decide +kernel
theorem xo25 : xOKm 25 := ⟨xM25, rfl, by decide +kernel, xgd_s (xgd_s xgd_0 xc25_0) xn25⟩
theorem xc26_0 : xchr 26 0 5 xM26 xK26 = true := by decide +kernel
theorem xn26 : xchr 26 5 1995 xM26 xK26 = true := by decide +kernel
theorem xo26 : xOKm 26 := ⟨xM26, rfl, by decide +kernel, xgd_s (xgd_s xgd_0 xc26_0) xn26⟩
theorem xc27_0 : xchr 27 0 5 xM27 xK27 = true := by decide +kernel
theorem xn27 : xchr 27 5 1995 xM27 xK27 = true := by decide +kernel
theorem xo27 : xOKm 27 := ⟨xM27, rfl, by decide +kernel, xgd_s (xgd_s xgd_0 xc27_0) xn27⟩
theorem xc28_0 : xchr 28 0 24 xM28 xK28 = true := by decide +kernel
theorem xn28 : xchr 28 24 1976 xM28 xK28 = true := by decide +kernel
theorem xo28 : xOKm 28 := ⟨xM28, rfl, by decide +kernel, xgd_s (xgd_s xgd_0 xc28_0) xn28⟩
theorem xc29_0 : xchr 29 0 31 xM29 xK29 = true := by decide +kernel
theorem xn29 : xchr 29 31 1969 xM29 xK29 = true := by decide +kernel
theorem xo29 : xOKm 29 := ⟨xM29, rfl, by decide +kernel, xgd_s (xgd_s xgd_0 xc29_0) xn29⟩
theorem xc30_0 : xchr 30 0 96 xM30 xK30 = true := by decide +kernel
theorem xn30 : xchr 30 96 1904 xM30 xK30 = true := by decide +kernel
theorem xo30 : xOKm 30 := ⟨xM30, rfl, by decide +kernel, xgd_s (xgd_s xgd_0 xc30_0) xn30⟩
theorem xc31_0 : xchr 31 0 38 xM31 xK31 = true := by decide +kernel
theorem xn31 : xchr 31 38 1962 xM31 xK31 = true := by decide +kernel
theorem xo31 : xOKm 31 := ⟨xM31, rfl, by decide +kernel, xgd_s (xgd_s xgd_0 xc31_0) xn31⟩
theorem xc32_0 : xchr 32 0 36 xM32 xK32 = true := by decide +kernel
theorem xn32 : xchr 32 36 1964 xM32 xK32 = true := by decide +kernel
theorem xo32 : xOKm 32 := ⟨xM32, rfl, by decide +kernel, xgd_s (xgd_s xgd_0 xc32_0) xn32⟩
theorem xc33_0 : xchr 33 0 118 xM33 xK33 = true := by decide +kernel
theorem xn33 : xchr 33 118 1882 xM33 xK33 = true := by decide +kernel
theorem xo33 : xOKm 33 := ⟨xM33, rfl, by decide +kernel, xgd_s (xgd_s xgd_0 xc33_0) xn33⟩
theorem xc34_0 : xchr 34 0 31 xM34 xK34 = true := by decide +kernel
theorem xn34 : xchr 34 31 1969 xM34 xK34 = true := by decide +kernel
theorem xo34 : xOKm 34 := ⟨xM34, rfl, by decide +kernel, xgd_s (xgd_s xgd_0 xc34_0) xn34⟩
theorem xc35_0 : xchr 35 0 200 xM35 xK35 = true := by decide +kernel
theorem xc35_1 : xchr 35 200 6 xM35 xK35 = true := by decide +kernel
theorem xn35 : xchr 35 206 1794 xM35 xK35 = true := by decide +kernel
theorem xo35 : xOKm 35 := ⟨xM35, rfl, by decide +kernel, xgd_s (xgd_s (xgd_s xgd_0 xc35_0) xc35_1) xn35⟩
theorem xc36_0 : xchr 36 0 122 xM36 xK36 = true := by decide +kernel
theorem xn36 : xchr 36 122 1878 xM36 xK36 = true := by decide +kernel
theorem xo36 : xOKm 36 := ⟨xM36, rfl, by decide +kernel, xgd_s (xgd_s xgd_0 xc36_0) xn36⟩
