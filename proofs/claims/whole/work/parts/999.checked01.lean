theorem xc37_0 : xchr 37 0 152 xM37 xK37 = true := by decide +kernel
theorem xn37 : xchr 37 152 1848 xM37 xK37 = true := by decide +kernel
theorem xo37 : xOKm 37 := ⟨xM37, rfl, by decide +kernel, xgd_s (xgd_s xgd_0 xc37_0) xn37⟩
theorem xc38_0 : xchr 38 0 32 xM38 xK38 = true := by decide +kernel
theorem xn38 : xchr 38 32 1968 xM38 xK38 = true := by decide +kernel
theorem xo38 : xOKm 38 := ⟨xM38, rfl, by decide +kernel, xgd_s (xgd_s xgd_0 xc38_0) xn38⟩
theorem xc39_0 : xchr 39 0 119 xM39 xK39 = true := by decide +kernel
theorem xn39 : xchr 39 119 1881 xM39 xK39 = true := by decide +kernel
theorem xo39 : xOKm 39 := ⟨xM39, rfl, by decide +kernel, xgd_s (xgd_s xgd_0 xc39_0) xn39⟩
theorem xc40_0 : xchr 40 0 16 xM40 xK40 = true := by decide +kernel
theorem xn40 : xchr 40 16 1984 xM40 xK40 = true := by decide +kernel
theorem xo40 : xOKm 40 := ⟨xM40, rfl, by decide +kernel, xgd_s (xgd_s xgd_0 xc40_0) xn40⟩
theorem xc41_0 : xchr 41 0 65 xM41 xK41 = true := by decide +kernel
theorem xn41 : xchr 41 65 1935 xM41 xK41 = true := by decide +kernel
theorem xo41 : xOKm 41 := ⟨xM41, rfl, by decide +kernel, xgd_s (xgd_s xgd_0 xc41_0) xn41⟩
theorem xc42_0 : xchr 42 0 83 xM42 xK42 = true := by decide +kernel
theorem xn42 : xchr 42 83 1917 xM42 xK42 = true := by decide +kernel
theorem xo42 : xOKm 42 := ⟨xM42, rfl, by decide +kernel, xgd_s (xgd_s xgd_0 xc42_0) xn42⟩
theorem xc43_0 : xchr 43 0 128 xM43 xK43 = true := by decide +kernel
theorem xn43 : xchr 43 128 1872 xM43 xK43 = true := by decide +kernel
theorem xo43 : xOKm 43 := ⟨xM43, rfl, by decide +kernel, xgd_s (xgd_s xgd_0 xc43_0) xn43⟩
theorem xc44_0 : xchr 44 0 31 xM44 xK44 = true := by decide +kernel
theorem xn44 : xchr 44 31 1969 xM44 xK44 = true := by decide +kernel
theorem xo44 : xOKm 44 := ⟨xM44, rfl, by decide +kernel, xgd_s (xgd_s xgd_0 xc44_0) xn44⟩
theorem xc45_0 : xchr 45 0 5 xM45 xK45 = true := by decide +kernel
theorem xn45 : xchr 45 5 1995 xM45 xK45 = true := by decide +kernel
theorem xo45 : xOKm 45 := ⟨xM45, rfl, by decide +kernel, xgd_s (xgd_s xgd_0 xc45_0) xn45⟩
theorem xc46_0 : xchr 46 0 5 xM46 xK46 = true := by decide +kernel
theorem xn46 : xchr 46 5 1995 xM46 xK46 = true := by decide +kernel
theorem xo46 : xOKm 46 := ⟨xM46, rfl, by decide +kernel, xgd_s (xgd_s xgd_0 xc46_0) xn46⟩
theorem xc47_0 : xchr 47 0 5 xM47 xK47 = true := by decide +kernel
theorem xn47 : xchr 47 5 1995 xM47 xK47 = true := by decide +kernel
theorem xo47 : xOKm 47 := ⟨xM47, rfl, by decide +kernel, xgd_s (xgd_s xgd_0 xc47_0) xn47⟩
theorem xc48_0 : xchr 48 0 12 xM48 xK48 = true := by decide +kernel
theorem xn48 : xchr 48 12 1988 xM48 xK48 = true := by decide +kernel
theorem xo48 : xOKm 48 := ⟨xM48, rfl, by decide +kernel, xgd_s (xgd_s xgd_0 xc48_0) xn48⟩
theorem xc49_0 : xchr 49 0 166 xM49 xK49 = true := by decide +kernel
theorem xn49 : xchr 49 166 1834 xM49 xK49 = true := by decide +kernel
theorem xo49 : xOKm 49 := ⟨xM49, rfl, by decide +kernel, xgd_s (xgd_s xgd_0 xc49_0) xn49⟩
theorem xc50_0 : xchr 50 0 37 xM50 xK50 = true := by decide +kernel
theorem xn50 : xchr 50 37 1963 xM50 xK50 = true := by decide +kernel
theorem xo50 : xOKm 50 := ⟨xM50, rfl, by decide +kernel, xgd_s (xgd_s xgd_0 xc50_0) xn50⟩
theorem xc51_0 : xchr 51 0 67 xM51 xK51 = true := by decide +kernel
theorem xn51 : xchr 51 67 1933 xM51 xK51 = true := by decide +kernel
theorem xo51 : xOKm 51 := ⟨xM51, rfl, by decide +kernel, xgd_s (xgd_s xgd_0 xc51_0) xn51⟩
theorem xc52_0 : xchr 52 0 106 xM52 xK52 = true := by decide +kernel
theorem xn52 : xchr 52 106 1894 xM52 xK52 = true := by decide +kernel
theorem xo52 : xOKm 52 := ⟨xM52, rfl, by decide +kernel, xgd_s (xgd_s xgd_0 xc52_0) xn52⟩
theorem xc53_0 : xchr 53 0 119 xM53 xK53 = true := by decide +kernel
theorem xn53 : xchr 53 119 1881 xM53 xK53 = true := by decide +kernel
theorem xo53 : xOKm 53 := ⟨xM53, rfl, by decide +kernel, xgd_s (xgd_s xgd_0 xc53_0) xn53⟩
theorem xc54_0 : xchr 54 0 51 xM54 xK54 = true := by decide +kernel
theorem xn54 : xchr 54 51 1949 xM54 xK54 = true := by decide +kernel
theorem xo54 : xOKm 54 := ⟨xM54, rfl, by decide +kernel, xgd_s (xgd_s xgd_0 xc54_0) xn54⟩
theorem xc55_0 : xchr 55 0 89 xM55 xK55 = true := by decide +kernel
theorem xn55 : xchr 55 89 1911 xM55 xK55 = true := by decide +kernel
theorem xo55 : xOKm 55 := ⟨xM55, rfl, by decide +kernel, xgd_s (xgd_s xgd_0 xc55_0) xn55⟩
theorem xc56_0 : xchr 56 0 32 xM56 xK56 = true := by decide +kernel
theorem xn56 : xchr 56 32 1968 xM56 xK56 = true := by decide +kernel
theorem xo56 : xOKm 56 := ⟨xM56, rfl, by decide +kernel, xgd_s (xgd_s xgd_0 xc56_0) xn56⟩
theorem xc57_0 : xchr 57 0 18 xM57 xK57 = true := by decide +kernel
theorem xn57 : xchr 57 18 1982 xM57 xK57 = true := by decide +kernel
theorem xo57 : xOKm 57 := ⟨xM57, rfl, by decide +kernel, xgd_s (xgd_s xgd_0 xc57_0) xn57⟩
theorem xc58_0 : xchr 58 0 66 xM58 xK58 = true := by decide +kernel
theorem xn58 : xchr 58 66 1934 xM58 xK58 = true := by decide +kernel
theorem xo58 : xOKm 58 := ⟨xM58, rfl, by decide +kernel, xgd_s (xgd_s xgd_0 xc58_0) xn58⟩
theorem xc59_0 : xchr 59 0 24 xM59 xK59 = true := by decide +kernel
theorem xn59 : xchr 59 24 1976 xM59 xK59 = true := by decide +kernel
theorem xo59 : xOKm 59 := ⟨xM59, rfl, by decide +kernel, xgd_s (xgd_s xgd_0 xc59_0) xn59⟩
theorem xc60_0 : xchr 60 0 45 xM60 xK60 = true := by decide +kernel
theorem xn60 : xchr 60 45 1955 xM60 xK60 = true := by decide +kernel
theorem xo60 : xOKm 60 := ⟨xM60, rfl, by decide +kernel, xgd_s (xgd_s xgd_0 xc60_0) xn60⟩
theorem xc61_0 : xchr 61 0 119 xM61 xK61 = true := by decide +kernel
theorem xn61 : xchr 61 119 1881 xM61 xK61 = true := by decide +kernel
theorem xo61 : xOKm 61 := ⟨xM61, rfl, by decide +kernel, xgd_s (xgd_s xgd_0 xc61_0) xn61⟩
theorem xc62_0 : xchr 62 0 22 xM62 xK62 = true := by decide +kernel
theorem xn62 : xchr 62 22 1978 xM62 xK62 = true := by decide +kernel
theorem xo62 : xOKm 62 := ⟨xM62, rfl, by decide +kernel, xgd_s (xgd_s xgd_0 xc62_0) xn62⟩
theorem xc63_0 : xchr 63 0 22 xM63 xK63 = true := by decide +kernel
theorem xn63 : xchr 63 22 1978 xM63 xK63 = true := by decide +kernel
theorem xo63 : xOKm 63 := ⟨xM63, rfl, by decide +kernel, xgd_s (xgd_s xgd_0 xc63_0) xn63⟩
theorem xc64_0 : xchr 64 0 29 xM64 xK64 = true := by decide +kernel
theorem xn64 : xchr 64 29 1971 xM64 xK64 = true := by decide +kernel
theorem xo64 : xOKm 64 := ⟨xM64, rfl, by decide +kernel, xgd_s (xgd_s xgd_0 xc64_0) xn64⟩
theorem xc65_0 : xchr 65 0 51 xM65 xK65 = true := by decide +kernel
theorem xn65 : xchr 65 51 1949 xM65 xK65 = true := by decide +kernel
theorem xo65 : xOKm 65 := ⟨xM65, rfl, by decide +kernel, xgd_s (xgd_s xgd_0 xc65_0) xn65⟩
theorem xc66_0 : xchr 66 0 51 xM66 xK66 = true := by decide +kernel
theorem xn66 : xchr 66 51 1949 xM66 xK66 = true := by decide +kernel
theorem xo66 : xOKm 66 := ⟨xM66, rfl, by decide +kernel, xgd_s (xgd_s xgd_0 xc66_0) xn66⟩
theorem xc67_0 : xchr 67 0 174 xM67 xK67 = true := by decide +kernel
theorem xn67 : xchr 67 174 1826 xM67 xK67 = true := by decide +kernel
theorem xo67 : xOKm 67 := ⟨xM67, rfl, by decide +kernel, xgd_s (xgd_s xgd_0 xc67_0) xn67⟩
theorem xc68_0 : xchr 68 0 23 xM68 xK68 = true := by decide +kernel
theorem xn68 : xchr 68 23 1977 xM68 xK68 = true := by decide +kernel
theorem xo68 : xOKm 68 := ⟨xM68, rfl, by decide +kernel, xgd_s (xgd_s xgd_0 xc68_0) xn68⟩
theorem xc69_0 : xchr 69 0 71 xM69 xK69 = true := by decide +kernel
theorem xn69 : xchr 69 71 1929 xM69 xK69 = true := by decide +kernel
theorem xo69 : xOKm 69 := ⟨xM69, rfl, by decide +kernel, xgd_s (xgd_s xgd_0 xc69_0) xn69⟩
theorem xc70_0 : xchr 70 0 71 xM70 xK70 = true := by decide +kernel
theorem xn70 : xchr 70 71 1929 xM70 xK70 = true := by decide +kernel
theorem xo70 : xOKm 70 := ⟨xM70, rfl, by decide +kernel, xgd_s (xgd_s xgd_0 xc70_0) xn70⟩
theorem xc71_0 : xchr 71 0 154 xM71 xK71 = true := by decide +kernel
theorem xn71 : xchr 71 154 1846 xM71 xK71 = true := by decide +kernel
theorem xo71 : xOKm 71 := ⟨xM71, rfl, by decide +kernel, xgd_s (xgd_s xgd_0 xc71_0) xn71⟩
theorem xc72_0 : xchr 72 0 56 xM72 xK72 = true := by decide +kernel
theorem xn72 : xchr 72 56 1944 xM72 xK72 = true := by decide +kernel
theorem xo72 : xOKm 72 := ⟨xM72, rfl, by decide +kernel, xgd_s (xgd_s xgd_0 xc72_0) xn72⟩
theorem xc73_0 : xchr 73 0 39 xM73 xK73 = true := by decide +kernel
theorem xn73 : xchr 73 39 1961 xM73 xK73 = true := by decide +kernel
theorem xo73 : xOKm 73 := ⟨xM73, rfl, by decide +kernel, xgd_s (xgd_s xgd_0 xc73_0) xn73⟩
theorem xc74_0 : xchr 74 0 189 xM74 xK74 = true := by decide +kernel
theorem xn74 : xchr 74 189 1811 xM74 xK74 = true := by decide +kernel
theorem xo74 : xOKm 74 := ⟨xM74, rfl, by decide +kernel, xgd_s (xgd_s xgd_0 xc74_0) xn74⟩
theorem xc75_0 : xchr 75 0 16 xM75 xK75 = true := by decide +kernel
theorem xn75 : xchr 75 16 1984 xM75 xK75 = true := by decide +kernel
theorem xo75 : xOKm 75 := ⟨xM75, rfl, by decide +kernel, xgd_s (xgd_s xgd_0 xc75_0) xn75⟩
theorem xc76_0 : xchr 76 0 73 xM76 xK76 = true := by decide +kernel
theorem xn76 : xchr 76 73 1927 xM76 xK76 = true := by decide +kernel
theorem xo76 : xOKm 76 := ⟨xM76, rfl, by decide +kernel, xgd_s (xgd_s xgd_0 xc76_0) xn76⟩
theorem xc77_0 : xchr 77 0 119 xM77 xK77 = true := by decide +kernel
theorem xn77 : xchr 77 119 1881 xM77 xK77 = true := by decide +kernel
theorem xo77 : xOKm 77 := ⟨xM77, rfl, by decide +kernel, xgd_s (xgd_s xgd_0 xc77_0) xn77⟩
theorem xc78_0 : xchr 78 0 10 xM78 xK78 = true := by decide +kernel
theorem xn78 : xchr 78 10 1990 xM78 xK78 = true := by decide +kernel
theorem xo78 : xOKm 78 := ⟨xM78, rfl, by decide +kernel, xgd_s (xgd_s xgd_0 xc78_0) xn78⟩
theorem xc79_0 : xchr 79 0 89 xM79 xK79 = true := by decide +kernel
theorem xn79 : xchr 79 89 1911 xM79 xK79 = true := by decide +kernel
theorem xo79 : xOKm 79 := ⟨xM79, rfl, by decide +kernel, xgd_s (xgd_s xgd_0 xc79_0) xn79⟩
