theorem xc80_0 : xchr 80 0 48 xM80 xK80 = true := by decide +kernel
theorem xn80 : xchr 80 48 1952 xM80 xK80 = true := by decide +kernel
theorem xo80 : xOKm 80 := ⟨xM80, rfl, by decide +kernel, xgd_s (xgd_s xgd_0 xc80_0) xn80⟩
theorem xc81_0 : xchr 81 0 72 xM81 xK81 = true := by decide +kernel
theorem xn81 : xchr 81 72 1928 xM81 xK81 = true := by decide +kernel
theorem xo81 : xOKm 81 := ⟨xM81, rfl, by decide +kernel, xgd_s (xgd_s xgd_0 xc81_0) xn81⟩
theorem xc82_0 : xchr 82 0 57 xM82 xK82 = true := by decide +kernel
theorem xn82 : xchr 82 57 1943 xM82 xK82 = true := by decide +kernel
theorem xo82 : xOKm 82 := ⟨xM82, rfl, by decide +kernel, xgd_s (xgd_s xgd_0 xc82_0) xn82⟩
theorem xc83_0 : xchr 83 0 84 xM83 xK83 = true := by decide +kernel
theorem xn83 : xchr 83 84 1916 xM83 xK83 = true := by decide +kernel
theorem xo83 : xOKm 83 := ⟨xM83, rfl, by decide +kernel, xgd_s (xgd_s xgd_0 xc83_0) xn83⟩
theorem xc84_0 : xchr 84 0 14 xM84 xK84 = true := by decide +kernel
theorem xn84 : xchr 84 14 1986 xM84 xK84 = true := by decide +kernel
theorem xo84 : xOKm 84 := ⟨xM84, rfl, by decide +kernel, xgd_s (xgd_s xgd_0 xc84_0) xn84⟩
theorem xc85_0 : xchr 85 0 57 xM85 xK85 = true := by decide +kernel
theorem xn85 : xchr 85 57 1943 xM85 xK85 = true := by decide +kernel
theorem xo85 : xOKm 85 := ⟨xM85, rfl, by decide +kernel, xgd_s (xgd_s xgd_0 xc85_0) xn85⟩
theorem xc86_0 : xchr 86 0 33 xM86 xK86 = true := by decide +kernel
theorem xn86 : xchr 86 33 1967 xM86 xK86 = true := by decide +kernel
theorem xo86 : xOKm 86 := ⟨xM86, rfl, by decide +kernel, xgd_s (xgd_s xgd_0 xc86_0) xn86⟩
theorem xc87_0 : xchr 87 0 30 xM87 xK87 = true := by decide +kernel
theorem xn87 : xchr 87 30 1970 xM87 xK87 = true := by decide +kernel
theorem xo87 : xOKm 87 := ⟨xM87, rfl, by decide +kernel, xgd_s (xgd_s xgd_0 xc87_0) xn87⟩
theorem xc88_0 : xchr 88 0 11 xM88 xK88 = true := by decide +kernel
theorem xn88 : xchr 88 11 1989 xM88 xK88 = true := by decide +kernel
theorem xo88 : xOKm 88 := ⟨xM88, rfl, by decide +kernel, xgd_s (xgd_s xgd_0 xc88_0) xn88⟩
theorem xc89_0 : xchr 89 0 7 xM89 xK89 = true := by decide +kernel
theorem xn89 : xchr 89 7 1993 xM89 xK89 = true := by decide +kernel
theorem xo89 : xOKm 89 := ⟨xM89, rfl, by decide +kernel, xgd_s (xgd_s xgd_0 xc89_0) xn89⟩
theorem xc90_0 : xchr 90 0 15 xM90 xK90 = true := by decide +kernel
theorem xn90 : xchr 90 15 1985 xM90 xK90 = true := by decide +kernel
theorem xo90 : xOKm 90 := ⟨xM90, rfl, by decide +kernel, xgd_s (xgd_s xgd_0 xc90_0) xn90⟩
theorem xc91_0 : xchr 91 0 6 xM91 xK91 = true := by decide +kernel
theorem xn91 : xchr 91 6 1994 xM91 xK91 = true := by decide +kernel
theorem xo91 : xOKm 91 := ⟨xM91, rfl, by decide +kernel, xgd_s (xgd_s xgd_0 xc91_0) xn91⟩
theorem xc92_0 : xchr 92 0 7 xM92 xK92 = true := by decide +kernel
theorem xn92 : xchr 92 7 1993 xM92 xK92 = true := by decide +kernel
theorem xo92 : xOKm 92 := ⟨xM92, rfl, by decide +kernel, xgd_s (xgd_s xgd_0 xc92_0) xn92⟩
theorem xc93_0 : xchr 93 0 8 xM93 xK93 = true := by decide +kernel
theorem xn93 : xchr 93 8 1992 xM93 xK93 = true := by decide +kernel
theorem xo93 : xOKm 93 := ⟨xM93, rfl, by decide +kernel, xgd_s (xgd_s xgd_0 xc93_0) xn93⟩
theorem xc94_0 : xchr 94 0 33 xM94 xK94 = true := by decide +kernel
theorem xn94 : xchr 94 33 1967 xM94 xK94 = true := by decide +kernel
theorem xo94 : xOKm 94 := ⟨xM94, rfl, by decide +kernel, xgd_s (xgd_s xgd_0 xc94_0) xn94⟩
theorem xc95_0 : xchr 95 0 38 xM95 xK95 = true := by decide +kernel
theorem xn95 : xchr 95 38 1962 xM95 xK95 = true := by decide +kernel
theorem xo95 : xOKm 95 := ⟨xM95, rfl, by decide +kernel, xgd_s (xgd_s xgd_0 xc95_0) xn95⟩
theorem xc96_0 : xchr 96 0 73 xM96 xK96 = true := by decide +kernel
theorem xn96 : xchr 96 73 1927 xM96 xK96 = true := by decide +kernel
theorem xo96 : xOKm 96 := ⟨xM96, rfl, by decide +kernel, xgd_s (xgd_s xgd_0 xc96_0) xn96⟩
theorem xc97_0 : xchr 97 0 59 xM97 xK97 = true := by decide +kernel
theorem xn97 : xchr 97 59 1941 xM97 xK97 = true := by decide +kernel
theorem xo97 : xOKm 97 := ⟨xM97, rfl, by decide +kernel, xgd_s (xgd_s xgd_0 xc97_0) xn97⟩
theorem xc98_0 : xchr 98 0 189 xM98 xK98 = true := by decide +kernel
theorem xn98 : xchr 98 189 1811 xM98 xK98 = true := by decide +kernel
theorem xo98 : xOKm 98 := ⟨xM98, rfl, by decide +kernel, xgd_s (xgd_s xgd_0 xc98_0) xn98⟩
theorem xc99_0 : xchr 99 0 160 xM99 xK99 = true := by decide +kernel
theorem xn99 : xchr 99 160 1840 xM99 xK99 = true := by decide +kernel
theorem xo99 : xOKm 99 := ⟨xM99, rfl, by decide +kernel, xgd_s (xgd_s xgd_0 xc99_0) xn99⟩
theorem xc100_0 : xchr 100 0 33 xM100 xK100 = true := by decide +kernel
theorem xn100 : xchr 100 33 1967 xM100 xK100 = true := by decide +kernel
theorem xo100 : xOKm 100 := ⟨xM100, rfl, by decide +kernel, xgd_s (xgd_s xgd_0 xc100_0) xn100⟩
theorem xc101_0 : xchr 101 0 29 xM101 xK101 = true := by decide +kernel
theorem xn101 : xchr 101 29 1971 xM101 xK101 = true := by decide +kernel
theorem xo101 : xOKm 101 := ⟨xM101, rfl, by decide +kernel, xgd_s (xgd_s xgd_0 xc101_0) xn101⟩
theorem xc102_0 : xchr 102 0 26 xM102 xK102 = true := by decide +kernel
theorem xn102 : xchr 102 26 1974 xM102 xK102 = true := by decide +kernel
theorem xo102 : xOKm 102 := ⟨xM102, rfl, by decide +kernel, xgd_s (xgd_s xgd_0 xc102_0) xn102⟩
theorem xc103_0 : xchr 103 0 6 xM103 xK103 = true := by decide +kernel
theorem xn103 : xchr 103 6 1994 xM103 xK103 = true := by decide +kernel
theorem xo103 : xOKm 103 := ⟨xM103, rfl, by decide +kernel, xgd_s (xgd_s xgd_0 xc103_0) xn103⟩
theorem xc104_0 : xchr 104 0 5 xM104 xK104 = true := by decide +kernel
theorem xn104 : xchr 104 5 1995 xM104 xK104 = true := by decide +kernel
theorem xo104 : xOKm 104 := ⟨xM104, rfl, by decide +kernel, xgd_s (xgd_s xgd_0 xc104_0) xn104⟩
theorem xc105_0 : xchr 105 0 18 xM105 xK105 = true := by decide +kernel
theorem xn105 : xchr 105 18 1982 xM105 xK105 = true := by decide +kernel
theorem xo105 : xOKm 105 := ⟨xM105, rfl, by decide +kernel, xgd_s (xgd_s xgd_0 xc105_0) xn105⟩
theorem xc106_0 : xchr 106 0 86 xM106 xK106 = true := by decide +kernel
theorem xn106 : xchr 106 86 1914 xM106 xK106 = true := by decide +kernel
theorem xo106 : xOKm 106 := ⟨xM106, rfl, by decide +kernel, xgd_s (xgd_s xgd_0 xc106_0) xn106⟩
theorem xc107_0 : xchr 107 0 35 xM107 xK107 = true := by decide +kernel
theorem xn107 : xchr 107 35 1965 xM107 xK107 = true := by decide +kernel
theorem xo107 : xOKm 107 := ⟨xM107, rfl, by decide +kernel, xgd_s (xgd_s xgd_0 xc107_0) xn107⟩
theorem xc108_0 : xchr 108 0 65 xM108 xK108 = true := by decide +kernel
theorem xn108 : xchr 108 65 1935 xM108 xK108 = true := by decide +kernel
theorem xo108 : xOKm 108 := ⟨xM108, rfl, by decide +kernel, xgd_s (xgd_s xgd_0 xc108_0) xn108⟩
theorem xc109_0 : xchr 109 0 23 xM109 xK109 = true := by decide +kernel
theorem xn109 : xchr 109 23 1977 xM109 xK109 = true := by decide +kernel
theorem xo109 : xOKm 109 := ⟨xM109, rfl, by decide +kernel, xgd_s (xgd_s xgd_0 xc109_0) xn109⟩
theorem xc110_0 : xchr 110 0 46 xM110 xK110 = true := by decide +kernel
theorem xn110 : xchr 110 46 1954 xM110 xK110 = true := by decide +kernel
theorem xo110 : xOKm 110 := ⟨xM110, rfl, by decide +kernel, xgd_s (xgd_s xgd_0 xc110_0) xn110⟩
theorem xc111_0 : xchr 111 0 14 xM111 xK111 = true := by decide +kernel
theorem xn111 : xchr 111 14 1986 xM111 xK111 = true := by decide +kernel
theorem xo111 : xOKm 111 := ⟨xM111, rfl, by decide +kernel, xgd_s (xgd_s xgd_0 xc111_0) xn111⟩
theorem xc112_0 : xchr 112 0 20 xM112 xK112 = true := by decide +kernel
theorem xn112 : xchr 112 20 1980 xM112 xK112 = true := by decide +kernel
theorem xo112 : xOKm 112 := ⟨xM112, rfl, by decide +kernel, xgd_s (xgd_s xgd_0 xc112_0) xn112⟩
theorem xc113_0 : xchr 113 0 21 xM113 xK113 = true := by decide +kernel
theorem xn113 : xchr 113 21 1979 xM113 xK113 = true := by decide +kernel
theorem xo113 : xOKm 113 := ⟨xM113, rfl, by decide +kernel, xgd_s (xgd_s xgd_0 xc113_0) xn113⟩
theorem xc114_0 : xchr 114 0 37 xM114 xK114 = true := by decide +kernel
theorem xn114 : xchr 114 37 1963 xM114 xK114 = true := by decide +kernel
theorem xo114 : xOKm 114 := ⟨xM114, rfl, by decide +kernel, xgd_s (xgd_s xgd_0 xc114_0) xn114⟩
theorem xc115_0 : xchr 115 0 21 xM115 xK115 = true := by decide +kernel
theorem xn115 : xchr 115 21 1979 xM115 xK115 = true := by decide +kernel
theorem xo115 : xOKm 115 := ⟨xM115, rfl, by decide +kernel, xgd_s (xgd_s xgd_0 xc115_0) xn115⟩
theorem xc116_0 : xchr 116 0 5 xM116 xK116 = true := by decide +kernel
theorem xn116 : xchr 116 5 1995 xM116 xK116 = true := by decide +kernel
theorem xo116 : xOKm 116 := ⟨xM116, rfl, by decide +kernel, xgd_s (xgd_s xgd_0 xc116_0) xn116⟩
theorem xc117_0 : xchr 117 0 23 xM117 xK117 = true := by decide +kernel
theorem xn117 : xchr 117 23 1977 xM117 xK117 = true := by decide +kernel
theorem xo117 : xOKm 117 := ⟨xM117, rfl, by decide +kernel, xgd_s (xgd_s xgd_0 xc117_0) xn117⟩
theorem xc118_0 : xchr 118 0 26 xM118 xK118 = true := by decide +kernel
theorem xn118 : xchr 118 26 1974 xM118 xK118 = true := by decide +kernel
theorem xo118 : xOKm 118 := ⟨xM118, rfl, by decide +kernel, xgd_s (xgd_s xgd_0 xc118_0) xn118⟩
theorem xc119_0 : xchr 119 0 12 xM119 xK119 = true := by decide +kernel
theorem xn119 : xchr 119 12 1988 xM119 xK119 = true := by decide +kernel
theorem xo119 : xOKm 119 := ⟨xM119, rfl, by decide +kernel, xgd_s (xgd_s xgd_0 xc119_0) xn119⟩
theorem xc120_0 : xchr 120 0 111 xM120 xK120 = true := by decide +kernel
theorem xn120 : xchr 120 111 1889 xM120 xK120 = true := by decide +kernel
theorem xo120 : xOKm 120 := ⟨xM120, rfl, by decide +kernel, xgd_s (xgd_s xgd_0 xc120_0) xn120⟩
theorem xc121_0 : xchr 121 0 120 xM121 xK121 = true := by decide +kernel
theorem xn121 : xchr 121 120 1880 xM121 xK121 = true := by decide +kernel
theorem xo121 : xOKm 121 := ⟨xM121, rfl, by decide +kernel, xgd_s (xgd_s xgd_0 xc121_0) xn121⟩
theorem xc122_0 : xchr 122 0 17 xM122 xK122 = true := by decide +kernel
theorem xn122 : xchr 122 17 1983 xM122 xK122 = true := by decide +kernel
theorem xo122 : xOKm 122 := ⟨xM122, rfl, by decide +kernel, xgd_s (xgd_s xgd_0 xc122_0) xn122⟩
theorem xc123_0 : xchr 123 0 113 xM123 xK123 = true := by decide +kernel
theorem xn123 : xchr 123 113 1887 xM123 xK123 = true := by decide +kernel
theorem xo123 : xOKm 123 := ⟨xM123, rfl, by decide +kernel, xgd_s (xgd_s xgd_0 xc123_0) xn123⟩
theorem xc124_0 : xchr 124 0 181 xM124 xK124 = true := by decide +kernel
theorem xn124 : xchr 124 181 1819 xM124 xK124 = true := by decide +kernel
theorem xo124 : xOKm 124 := ⟨xM124, rfl, by decide +kernel, xgd_s (xgd_s xgd_0 xc124_0) xn124⟩
theorem xc125_0 : xchr 125 0 115 xM125 xK125 = true := by decide +kernel
theorem xn125 : xchr 125 115 1885 xM125 xK125 = true := by decide +kernel
theorem xo125 : xOKm 125 := ⟨xM125, rfl, by decide +kernel, xgd_s (xgd_s xgd_0 xc125_0) xn125⟩
theorem xc126_0 : xchr 126 0 43 xM126 xK126 = true := by decide +kernel
theorem xn126 : xchr 126 43 1957 xM126 xK126 = true := by decide +kernel
theorem xo126 : xOKm 126 := ⟨xM126, rfl, by decide +kernel, xgd_s (xgd_s xgd_0 xc126_0) xn126⟩
theorem xc127_0 : xchr 127 0 74 xM127 xK127 = true := by decide +kernel
theorem xn127 : xchr 127 74 1926 xM127 xK127 = true := by decide +kernel
theorem xo127 : xOKm 127 := ⟨xM127, rfl, by decide +kernel, xgd_s (xgd_s xgd_0 xc127_0) xn127⟩
theorem xc128_0 : xchr 128 0 87 xM128 xK128 = true := by decide +kernel
theorem xn128 : xchr 128 87 1913 xM128 xK128 = true := by decide +kernel
theorem xo128 : xOKm 128 := ⟨xM128, rfl, by decide +kernel, xgd_s (xgd_s xgd_0 xc128_0) xn128⟩
theorem xc129_0 : xchr 129 0 5 xM129 xK129 = true := by decide +kernel
theorem xn129 : xchr 129 5 1995 xM129 xK129 = true := by decide +kernel
theorem xo129 : xOKm 129 := ⟨xM129, rfl, by decide +kernel, xgd_s (xgd_s xgd_0 xc129_0) xn129⟩
theorem xc130_0 : xchr 130 0 5 xM130 xK130 = true := by decide +kernel
theorem xn130 : xchr 130 5 1995 xM130 xK130 = true := by decide +kernel
theorem xo130 : xOKm 130 := ⟨xM130, rfl, by decide +kernel, xgd_s (xgd_s xgd_0 xc130_0) xn130⟩
theorem xc131_0 : xchr 131 0 5 xM131 xK131 = true := by decide +kernel
theorem xn131 : xchr 131 5 1995 xM131 xK131 = true := by decide +kernel
theorem xo131 : xOKm 131 := ⟨xM131, rfl, by decide +kernel, xgd_s (xgd_s xgd_0 xc131_0) xn131⟩
theorem xc132_0 : xchr 132 0 110 xM132 xK132 = true := by decide +kernel
theorem xn132 : xchr 132 110 1890 xM132 xK132 = true := by decide +kernel
theorem xo132 : xOKm 132 := ⟨xM132, rfl, by decide +kernel, xgd_s (xgd_s xgd_0 xc132_0) xn132⟩
theorem xc133_0 : xchr 133 0 13 xM133 xK133 = true := by decide +kernel
theorem xn133 : xchr 133 13 1987 xM133 xK133 = true := by decide +kernel
theorem xo133 : xOKm 133 := ⟨xM133, rfl, by decide +kernel, xgd_s (xgd_s xgd_0 xc133_0) xn133⟩
theorem xc134_0 : xchr 134 0 57 xM134 xK134 = true := by decide +kernel
theorem xn134 : xchr 134 57 1943 xM134 xK134 = true := by decide +kernel
theorem xo134 : xOKm 134 := ⟨xM134, rfl, by decide +kernel, xgd_s (xgd_s xgd_0 xc134_0) xn134⟩
theorem xc135_0 : xchr 135 0 26 xM135 xK135 = true := by decide +kernel
theorem xn135 : xchr 135 26 1974 xM135 xK135 = true := by decide +kernel
theorem xo135 : xOKm 135 := ⟨xM135, rfl, by decide +kernel, xgd_s (xgd_s xgd_0 xc135_0) xn135⟩
theorem xc136_0 : xchr 136 0 7 xM136 xK136 = true := by decide +kernel
theorem xn136 : xchr 136 7 1993 xM136 xK136 = true := by decide +kernel
theorem xo136 : xOKm 136 := ⟨xM136, rfl, by decide +kernel, xgd_s (xgd_s xgd_0 xc136_0) xn136⟩
theorem xc137_0 : xchr 137 0 27 xM137 xK137 = true := by decide +kernel
theorem xn137 : xchr 137 27 1973 xM137 xK137 = true := by decide +kernel
theorem xo137 : xOKm 137 := ⟨xM137, rfl, by decide +kernel, xgd_s (xgd_s xgd_0 xc137_0) xn137⟩
theorem xc138_0 : xchr 138 0 27 xM138 xK138 = true := by decide +kernel
theorem xn138 : xchr 138 27 1973 xM138 xK138 = true := by decide +kernel
theorem xo138 : xOKm 138 := ⟨xM138, rfl, by decide +kernel, xgd_s (xgd_s xgd_0 xc138_0) xn138⟩
theorem xc139_0 : xchr 139 0 27 xM139 xK139 = true := by decide +kernel
theorem xn139 : xchr 139 27 1973 xM139 xK139 = true := by decide +kernel
theorem xo139 : xOKm 139 := ⟨xM139, rfl, by decide +kernel, xgd_s (xgd_s xgd_0 xc139_0) xn139⟩
theorem xc140_0 : xchr 140 0 25 xM140 xK140 = true := by decide +kernel
theorem xn140 : xchr 140 25 1975 xM140 xK140 = true := by decide +kernel
theorem xo140 : xOKm 140 := ⟨xM140, rfl, by decide +kernel, xgd_s (xgd_s xgd_0 xc140_0) xn140⟩
theorem xc141_0 : xchr 141 0 122 xM141 xK141 = true := by decide +kernel
theorem xn141 : xchr 141 122 1878 xM141 xK141 = true := by decide +kernel
theorem xo141 : xOKm 141 := ⟨xM141, rfl, by decide +kernel, xgd_s (xgd_s xgd_0 xc141_0) xn141⟩
