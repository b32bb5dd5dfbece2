theorem xc142_0 : xchr 142 0 30 xM142 xK142 = true := by decide +kernel
theorem xn142 : xchr 142 30 1970 xM142 xK142 = true := by decide +kernel
theorem xo142 : xOKm 142 := ⟨xM142, rfl, by decide +kernel, xgd_s (xgd_s xgd_0 xc142_0) xn142⟩
theorem xc143_0 : xchr 143 0 40 xM143 xK143 = true := by decide +kernel
theorem xn143 : xchr 143 40 1960 xM143 xK143 = true := by decide +kernel
theorem xo143 : xOKm 143 := ⟨xM143, rfl, by decide +kernel, xgd_s (xgd_s xgd_0 xc143_0) xn143⟩
theorem xc144_0 : xchr 144 0 35 xM144 xK144 = true := by decide +kernel
theorem xn144 : xchr 144 35 1965 xM144 xK144 = true := by decide +kernel
theorem xo144 : xOKm 144 := ⟨xM144, rfl, by decide +kernel, xgd_s (xgd_s xgd_0 xc144_0) xn144⟩
theorem xc145_0 : xchr 145 0 35 xM145 xK145 = true := by decide +kernel
theorem xn145 : xchr 145 35 1965 xM145 xK145 = true := by decide +kernel
theorem xo145 : xOKm 145 := ⟨xM145, rfl, by decide +kernel, xgd_s (xgd_s xgd_0 xc145_0) xn145⟩
theorem xc146_0 : xchr 146 0 33 xM146 xK146 = true := by decide +kernel
theorem xn146 : xchr 146 33 1967 xM146 xK146 = true := by decide +kernel
theorem xo146 : xOKm 146 := ⟨xM146, rfl, by decide +kernel, xgd_s (xgd_s xgd_0 xc146_0) xn146⟩
theorem xc147_0 : xchr 147 0 62 xM147 xK147 = true := by decide +kernel
theorem xn147 : xchr 147 62 1938 xM147 xK147 = true := by decide +kernel
theorem xo147 : xOKm 147 := ⟨xM147, rfl, by decide +kernel, xgd_s (xgd_s xgd_0 xc147_0) xn147⟩
theorem xc148_0 : xchr 148 0 21 xM148 xK148 = true := by decide +kernel
theorem xn148 : xchr 148 21 1979 xM148 xK148 = true := by decide +kernel
theorem xo148 : xOKm 148 := ⟨xM148, rfl, by decide +kernel, xgd_s (xgd_s xgd_0 xc148_0) xn148⟩
theorem xc149_0 : xchr 149 0 34 xM149 xK149 = true := by decide +kernel
theorem xn149 : xchr 149 34 1966 xM149 xK149 = true := by decide +kernel
theorem xo149 : xOKm 149 := ⟨xM149, rfl, by decide +kernel, xgd_s (xgd_s xgd_0 xc149_0) xn149⟩
theorem xc150_0 : xchr 150 0 80 xM150 xK150 = true := by decide +kernel
theorem xn150 : xchr 150 80 1920 xM150 xK150 = true := by decide +kernel
theorem xo150 : xOKm 150 := ⟨xM150, rfl, by decide +kernel, xgd_s (xgd_s xgd_0 xc150_0) xn150⟩
theorem xc151_0 : xchr 151 0 86 xM151 xK151 = true := by decide +kernel
theorem xn151 : xchr 151 86 1914 xM151 xK151 = true := by decide +kernel
theorem xo151 : xOKm 151 := ⟨xM151, rfl, by decide +kernel, xgd_s (xgd_s xgd_0 xc151_0) xn151⟩
theorem xc152_0 : xchr 152 0 22 xM152 xK152 = true := by decide +kernel
theorem xn152 : xchr 152 22 1978 xM152 xK152 = true := by decide +kernel
theorem xo152 : xOKm 152 := ⟨xM152, rfl, by decide +kernel, xgd_s (xgd_s xgd_0 xc152_0) xn152⟩
theorem xc153_0 : xchr 153 0 22 xM153 xK153 = true := by decide +kernel
theorem xn153 : xchr 153 22 1978 xM153 xK153 = true := by decide +kernel
theorem xo153 : xOKm 153 := ⟨xM153, rfl, by decide +kernel, xgd_s (xgd_s xgd_0 xc153_0) xn153⟩
theorem xc154_0 : xchr 154 0 43 xM154 xK154 = true := by decide +kernel
theorem xn154 : xchr 154 43 1957 xM154 xK154 = true := by decide +kernel
theorem xo154 : xOKm 154 := ⟨xM154, rfl, by decide +kernel, xgd_s (xgd_s xgd_0 xc154_0) xn154⟩
theorem xc155_0 : xchr 155 0 44 xM155 xK155 = true := by decide +kernel
theorem xn155 : xchr 155 44 1956 xM155 xK155 = true := by decide +kernel
theorem xo155 : xOKm 155 := ⟨xM155, rfl, by decide +kernel, xgd_s (xgd_s xgd_0 xc155_0) xn155⟩
theorem xc156_0 : xchr 156 0 126 xM156 xK156 = true := by decide +kernel
theorem xn156 : xchr 156 126 1874 xM156 xK156 = true := by decide +kernel
theorem xo156 : xOKm 156 := ⟨xM156, rfl, by decide +kernel, xgd_s (xgd_s xgd_0 xc156_0) xn156⟩
theorem xc157_0 : xchr 157 0 38 xM157 xK157 = true := by decide +kernel
theorem xn157 : xchr 157 38 1962 xM157 xK157 = true := by decide +kernel
theorem xo157 : xOKm 157 := ⟨xM157, rfl, by decide +kernel, xgd_s (xgd_s xgd_0 xc157_0) xn157⟩
theorem xc158_0 : xchr 158 0 164 xM158 xK158 = true := by decide +kernel
theorem xn158 : xchr 158 164 1836 xM158 xK158 = true := by decide +kernel
theorem xo158 : xOKm 158 := ⟨xM158, rfl, by decide +kernel, xgd_s (xgd_s xgd_0 xc158_0) xn158⟩
theorem xc159_0 : xchr 159 0 110 xM159 xK159 = true := by decide +kernel
theorem xn159 : xchr 159 110 1890 xM159 xK159 = true := by decide +kernel
theorem xo159 : xOKm 159 := ⟨xM159, rfl, by decide +kernel, xgd_s (xgd_s xgd_0 xc159_0) xn159⟩
theorem xc160_0 : xchr 160 0 64 xM160 xK160 = true := by decide +kernel
theorem xn160 : xchr 160 64 1936 xM160 xK160 = true := by decide +kernel
theorem xo160 : xOKm 160 := ⟨xM160, rfl, by decide +kernel, xgd_s (xgd_s xgd_0 xc160_0) xn160⟩
theorem xc161_0 : xchr 161 0 9 xM161 xK161 = true := by decide +kernel
theorem xn161 : xchr 161 9 1991 xM161 xK161 = true := by decide +kernel
theorem xo161 : xOKm 161 := ⟨xM161, rfl, by decide +kernel, xgd_s (xgd_s xgd_0 xc161_0) xn161⟩
theorem xc162_0 : xchr 162 0 57 xM162 xK162 = true := by decide +kernel
theorem xn162 : xchr 162 57 1943 xM162 xK162 = true := by decide +kernel
theorem xo162 : xOKm 162 := ⟨xM162, rfl, by decide +kernel, xgd_s (xgd_s xgd_0 xc162_0) xn162⟩
theorem xc163_0 : xchr 163 0 29 xM163 xK163 = true := by decide +kernel
theorem xn163 : xchr 163 29 1971 xM163 xK163 = true := by decide +kernel
theorem xo163 : xOKm 163 := ⟨xM163, rfl, by decide +kernel, xgd_s (xgd_s xgd_0 xc163_0) xn163⟩
theorem xc164_0 : xchr 164 0 141 xM164 xK164 = true := by decide +kernel
theorem xn164 : xchr 164 141 1859 xM164 xK164 = true := by decide +kernel
theorem xo164 : xOKm 164 := ⟨xM164, rfl, by decide +kernel, xgd_s (xgd_s xgd_0 xc164_0) xn164⟩
theorem xc165_0 : xchr 165 0 90 xM165 xK165 = true := by decide +kernel
theorem xn165 : xchr 165 90 1910 xM165 xK165 = true := by decide +kernel
theorem xo165 : xOKm 165 := ⟨xM165, rfl, by decide +kernel, xgd_s (xgd_s xgd_0 xc165_0) xn165⟩
theorem xc166_0 : xchr 166 0 104 xM166 xK166 = true := by decide +kernel
theorem xn166 : xchr 166 104 1896 xM166 xK166 = true := by decide +kernel
theorem xo166 : xOKm 166 := ⟨xM166, rfl, by decide +kernel, xgd_s (xgd_s xgd_0 xc166_0) xn166⟩
theorem xc167_0 : xchr 167 0 90 xM167 xK167 = true := by decide +kernel
theorem xn167 : xchr 167 90 1910 xM167 xK167 = true := by decide +kernel
theorem xo167 : xOKm 167 := ⟨xM167, rfl, by decide +kernel, xgd_s (xgd_s xgd_0 xc167_0) xn167⟩
theorem xc168_0 : xchr 168 0 73 xM168 xK168 = true := by decide +kernel
theorem xn168 : xchr 168 73 1927 xM168 xK168 = true := by decide +kernel
theorem xo168 : xOKm 168 := ⟨xM168, rfl, by decide +kernel, xgd_s (xgd_s xgd_0 xc168_0) xn168⟩
theorem xc169_0 : xchr 169 0 76 xM169 xK169 = true := by decide +kernel
theorem xn169 : xchr 169 76 1924 xM169 xK169 = true := by decide +kernel
theorem xo169 : xOKm 169 := ⟨xM169, rfl, by decide +kernel, xgd_s (xgd_s xgd_0 xc169_0) xn169⟩
theorem xc170_0 : xchr 170 0 67 xM170 xK170 = true := by decide +kernel
theorem xn170 : xchr 170 67 1933 xM170 xK170 = true := by decide +kernel
theorem xo170 : xOKm 170 := ⟨xM170, rfl, by decide +kernel, xgd_s (xgd_s xgd_0 xc170_0) xn170⟩
theorem xc171_0 : xchr 171 0 79 xM171 xK171 = true := by decide +kernel
theorem xn171 : xchr 171 79 1921 xM171 xK171 = true := by decide +kernel
theorem xo171 : xOKm 171 := ⟨xM171, rfl, by decide +kernel, xgd_s (xgd_s xgd_0 xc171_0) xn171⟩
theorem xc172_0 : xchr 172 0 41 xM172 xK172 = true := by decide +kernel
theorem xn172 : xchr 172 41 1959 xM172 xK172 = true := by decide +kernel
theorem xo172 : xOKm 172 := ⟨xM172, rfl, by decide +kernel, xgd_s (xgd_s xgd_0 xc172_0) xn172⟩
theorem xc173_0 : xchr 173 0 57 xM173 xK173 = true := by decide +kernel
theorem xn173 : xchr 173 57 1943 xM173 xK173 = true := by decide +kernel
theorem xo173 : xOKm 173 := ⟨xM173, rfl, by decide +kernel, xgd_s (xgd_s xgd_0 xc173_0) xn173⟩
theorem xc174_0 : xchr 174 0 56 xM174 xK174 = true := by decide +kernel
theorem xn174 : xchr 174 56 1944 xM174 xK174 = true := by decide +kernel
theorem xo174 : xOKm 174 := ⟨xM174, rfl, by decide +kernel, xgd_s (xgd_s xgd_0 xc174_0) xn174⟩
theorem xc175_0 : xchr 175 0 137 xM175 xK175 = true := by decide +kernel
theorem xn175 : xchr 175 137 1863 xM175 xK175 = true := by decide +kernel
theorem xo175 : xOKm 175 := ⟨xM175, rfl, by decide +kernel, xgd_s (xgd_s xgd_0 xc175_0) xn175⟩
theorem xc176_0 : xchr 176 0 41 xM176 xK176 = true := by decide +kernel
theorem xn176 : xchr 176 41 1959 xM176 xK176 = true := by decide +kernel
theorem xo176 : xOKm 176 := ⟨xM176, rfl, by decide +kernel, xgd_s (xgd_s xgd_0 xc176_0) xn176⟩
theorem xc177_0 : xchr 177 0 14 xM177 xK177 = true := by decide +kernel
theorem xn177 : xchr 177 14 1986 xM177 xK177 = true := by decide +kernel
theorem xo177 : xOKm 177 := ⟨xM177, rfl, by decide +kernel, xgd_s (xgd_s xgd_0 xc177_0) xn177⟩
theorem xc178_0 : xchr 178 0 43 xM178 xK178 = true := by decide +kernel
theorem xn178 : xchr 178 43 1957 xM178 xK178 = true := by decide +kernel
theorem xo178 : xOKm 178 := ⟨xM178, rfl, by decide +kernel, xgd_s (xgd_s xgd_0 xc178_0) xn178⟩
theorem xc179_0 : xchr 179 0 13 xM179 xK179 = true := by decide +kernel
theorem xn179 : xchr 179 13 1987 xM179 xK179 = true := by decide +kernel
theorem xo179 : xOKm 179 := ⟨xM179, rfl, by decide +kernel, xgd_s (xgd_s xgd_0 xc179_0) xn179⟩
theorem xc180_0 : xchr 180 0 41 xM180 xK180 = true := by decide +kernel
theorem xn180 : xchr 180 41 1959 xM180 xK180 = true := by decide +kernel
theorem xo180 : xOKm 180 := ⟨xM180, rfl, by decide +kernel, xgd_s (xgd_s xgd_0 xc180_0) xn180⟩
theorem xc181_0 : xchr 181 0 127 xM181 xK181 = true := by decide +kernel
theorem xn181 : xchr 181 127 1873 xM181 xK181 = true := by decide +kernel
theorem xo181 : xOKm 181 := ⟨xM181, rfl, by decide +kernel, xgd_s (xgd_s xgd_0 xc181_0) xn181⟩
theorem xc182_0 : xchr 182 0 98 xM182 xK182 = true := by decide +kernel
theorem xn182 : xchr 182 98 1902 xM182 xK182 = true := by decide +kernel
theorem xo182 : xOKm 182 := ⟨xM182, rfl, by decide +kernel, xgd_s (xgd_s xgd_0 xc182_0) xn182⟩
theorem xc183_0 : xchr 183 0 74 xM183 xK183 = true := by decide +kernel
theorem xn183 : xchr 183 74 1926 xM183 xK183 = true := by decide +kernel
theorem xo183 : xOKm 183 := ⟨xM183, rfl, by decide +kernel, xgd_s (xgd_s xgd_0 xc183_0) xn183⟩
theorem xc184_0 : xchr 184 0 31 xM184 xK184 = true := by decide +kernel
theorem xn184 : xchr 184 31 1969 xM184 xK184 = true := by decide +kernel
theorem xo184 : xOKm 184 := ⟨xM184, rfl, by decide +kernel, xgd_s (xgd_s xgd_0 xc184_0) xn184⟩
theorem xc185_0 : xchr 185 0 31 xM185 xK185 = true := by decide +kernel
theorem xn185 : xchr 185 31 1969 xM185 xK185 = true := by decide +kernel
theorem xo185 : xOKm 185 := ⟨xM185, rfl, by decide +kernel, xgd_s (xgd_s xgd_0 xc185_0) xn185⟩
theorem xc186_0 : xchr 186 0 62 xM186 xK186 = true := by decide +kernel
theorem xn186 : xchr 186 62 1938 xM186 xK186 = true := by decide +kernel
theorem xo186 : xOKm 186 := ⟨xM186, rfl, by decide +kernel, xgd_s (xgd_s xgd_0 xc186_0) xn186⟩
theorem xc187_0 : xchr 187 0 33 xM187 xK187 = true := by decide +kernel
theorem xn187 : xchr 187 33 1967 xM187 xK187 = true := by decide +kernel
theorem xo187 : xOKm 187 := ⟨xM187, rfl, by decide +kernel, xgd_s (xgd_s xgd_0 xc187_0) xn187⟩
theorem xc188_0 : xchr 188 0 29 xM188 xK188 = true := by decide +kernel
theorem xn188 : xchr 188 29 1971 xM188 xK188 = true := by decide +kernel
theorem xo188 : xOKm 188 := ⟨xM188, rfl, by decide +kernel, xgd_s (xgd_s xgd_0 xc188_0) xn188⟩
