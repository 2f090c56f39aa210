theorem x_c110 : x_P110.all (x_ckP 110) = true := by decide +kernel
theorem x_c111 : x_P111.all (x_ckP 111) = true := by decide +kernel
theorem x_c112 : x_P112.all (x_ckP 112) = true := by decide +kernel
theorem x_c113 : x_P113.all (x_ckP 113) = true := by decide +kernel
theorem x_c114 : x_P114.all (x_ckP 114) = true := by decide +kernel
theorem x_c115 : x_P115.all (x_ckP 115) = true := by decide +kernel
theorem x_c116 : x_P116.all (x_ckP 116) = true := by decide +kernel
theorem x_c117 : x_P117.all (x_ckP 117) = true := by decide +kernel
theorem x_c118 : x_P118.all (x_ckP 118) = true := by decide +kernel
theorem x_c119 : x_P119.all (x_ckP 119) = true := by decide +kernel
theorem x_c120 : x_P120.all (x_ckP 120) = true := by decide +kernel
theorem x_c121 : x_P121.all (x_ckP 121) = true := by decide +kernel
theorem x_c122_0 : x_P122_0.all (x_ckP 122) = true := by decide +kernel
theorem x_c122_1 : x_P122_1.all (x_ckP 122) = true := by decide +kernel
theorem x_c122_2 : x_P122_2.all (x_ckP 122) = true := by decide +kernel
theorem x_c122_3 : x_P122_3.all (x_ckP 122) = true := by decide +kernel
theorem x_c122 : x_P122.all (x_ckP 122) = true := by simp only [x_P122, List.all_append, x_c122_0, x_c122_1, x_c122_2, x_c122_3, Bool.and_self]
theorem x_c123 : x_P123.all (x_ckP 123) = true := by decide +kernel
theorem x_c124 : x_P124.all (x_ckP 124) = true := by decide +kernel
theorem x_c125 : x_P125.all (x_ckP 125) = true := by decide +kernel
theorem x_c126 : x_P126.all (x_ckP 126) = true := by decide +kernel
theorem x_c127 : x_P127.all (x_ckP 127) = true := by decide +kernel
theorem x_c128 : x_P128.all (x_ckP 128) = true := by decide +kernel
theorem x_c129 : x_P129.all (x_ckP 129) = true := by decide +kernel
theorem x_c130_0 : x_P130_0.all (x_ckP 130) = true := by decide +kernel
theorem x_c130_1 : x_P130_1.all (x_ckP 130) = true := by decide +kernel
theorem x_c130 : x_P130.all (x_ckP 130) = true := by simp only [x_P130, List.all_append, x_c130_0, x_c130_1, Bool.and_self]
theorem x_c131 : x_P131.all (x_ckP 131) = true := by decide +kernel
theorem x_c132 : x_P132.all (x_ckP 132) = true := by decide +kernel
theorem x_c133 : x_P133.all (x_ckP 133) = true := by decide +kernel
theorem x_c134 : x_P134.all (x_ckP 134) = true := by decide +kernel
theorem x_c135 : x_P135.all (x_ckP 135) = true := by decide +kernel
theorem x_c136 : x_P136.all (x_ckP 136) = true := by decide +kernel
theorem x_c137 : x_P137.all (x_ckP 137) = true := by decide +kernel
theorem x_c138 : x_P138.all (x_ckP 138) = true := by decide +kernel
theorem x_c139 : x_P139.all (x_ckP 139) = true := by decide +kernel
theorem x_c140 : x_P140.all (x_ckP 140) = true := by decide +kernel
theorem x_c141 : x_P141.all (x_ckP 141) = true := by decide +kernel
theorem x_c142_0 : x_P142_0.all (x_ckP 142) = true := by decide +kernel
theorem x_c142_1 : x_P142_1.all (x_ckP 142) = true := by decide +kernel
theorem x_c142 : x_P142.all (x_ckP 142) = true := by simp only [x_P142, List.all_append, x_c142_0, x_c142_1, Bool.and_self]
theorem x_c143 : x_P143.all (x_ckP 143) = true := by decide +kernel
theorem x_c144 : x_P144.all (x_ckP 144) = true := by decide +kernel
theorem x_c145 : x_P145.all (x_ckP 145) = true := by decide +kernel
theorem x_c146 : x_P146.all (x_ckP 146) = true := by decide +kernel
theorem x_c147_0 : x_P147_0.all (x_ckP 147) = true := by decide +kernel
theorem x_c147_1 : x_P147_1.all (x_ckP 147) = true := by decide +kernel
theorem x_c147 : x_P147.all (x_ckP 147) = true := by simp only [x_P147, List.all_append, x_c147_0, x_c147_1, Bool.and_self]
theorem x_c148_0 : x_P148_0.all (x_ckP 148) = true := by decide +kernel
theorem x_c148_1 : x_P148_1.all (x_ckP 148) = true := by decide +kernel
theorem x_c148 : x_P148.all (x_ckP 148) = true := by simp only [x_P148, List.all_append, x_c148_0, x_c148_1, Bool.and_self]
theorem x_c149 : x_P149.all (x_ckP 149) = true := by decide +kernel
