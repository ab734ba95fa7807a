/-! The tables are right: bytes, links, words. -/
section CHECK
set_option maxRecDepth 20000 in
theorem tx_c0 : tw_cm tx_lk tx_mt tx_sw tx_m0 = true := by decide +kernel
set_option maxRecDepth 20000 in
theorem tx_c1 : tw_cm tx_lk tx_mt tx_sw tx_m1 = true := by decide +kernel
set_option maxRecDepth 20000 in
theorem tx_c2 : tw_cm tx_lk tx_mt tx_sw tx_m2 = true := by decide +kernel
set_option maxRecDepth 20000 in
theorem tx_c3 : tw_cm tx_lk tx_mt tx_sw tx_m3 = true := by decide +kernel
set_option maxRecDepth 20000 in
theorem tx_c4 : tw_cm tx_lk tx_mt tx_sw tx_m4 = true := by decide +kernel
set_option maxRecDepth 20000 in
theorem tx_c5 : tw_cm tx_lk tx_mt tx_sw tx_m5 = true := by decide +kernel
set_option maxRecDepth 20000 in
theorem tx_c6 : tw_cm tx_lk tx_mt tx_sw tx_m6 = true := by decide +kernel
set_option maxRecDepth 20000 in
theorem tx_c7 : tw_cm tx_lk tx_mt tx_sw tx_m7 = true := by decide +kernel
set_option maxRecDepth 20000 in
theorem tx_c8 : tw_cm tx_lk tx_mt tx_sw tx_m8 = true := by decide +kernel
set_option maxRecDepth 20000 in
theorem tx_c9 : tw_cm tx_lk tx_mt tx_sw tx_m9 = true := by decide +kernel
set_option maxRecDepth 20000 in
theorem tx_c10 : tw_cm tx_lk tx_mt tx_sw tx_m10 = true := by decide +kernel
set_option maxRecDepth 20000 in
theorem tx_c11 : tw_cm tx_lk tx_mt tx_sw tx_m11 = true := by decide +kernel
set_option maxRecDepth 20000 in
theorem tx_c12 : tw_cm tx_lk tx_mt tx_sw tx_m12 = true := by decide +kernel
set_option maxRecDepth 20000 in
theorem tx_c13 : tw_cm tx_lk tx_mt tx_sw tx_m13 = true := by decide +kernel
set_option maxRecDepth 20000 in
theorem tx_c14 : tw_cm tx_lk tx_mt tx_sw tx_m14 = true := by decide +kernel
set_option maxRecDepth 20000 in
theorem tx_c15 : tw_cm tx_lk tx_mt tx_sw tx_m15 = true := by decide +kernel
set_option maxRecDepth 20000 in
theorem tx_c16 : tw_cm tx_lk tx_mt tx_sw tx_m16 = true := by decide +kernel
set_option maxRecDepth 20000 in
theorem tx_c17 : tw_cm tx_lk tx_mt tx_sw tx_m17 = true := by decide +kernel
set_option maxRecDepth 20000 in
theorem tx_c18 : tw_cm tx_lk tx_mt tx_sw tx_m18 = true := by decide +kernel
set_option maxRecDepth 20000 in
theorem tx_c19 : tw_cm tx_lk tx_mt tx_sw tx_m19 = true := by decide +kernel
set_option maxRecDepth 20000 in
theorem tx_c20 : tw_cm tx_lk tx_mt tx_sw tx_m20 = true := by decide +kernel
set_option maxRecDepth 20000 in
theorem tx_c21 : tw_cm tx_lk tx_mt tx_sw tx_m21 = true := by decide +kernel
set_option maxRecDepth 20000 in
theorem tx_c22 : tw_cm tx_lk tx_mt tx_sw tx_m22 = true := by decide +kernel
set_option maxRecDepth 20000 in
theorem tx_c23 : tw_cm tx_lk tx_mt tx_sw tx_m23 = true := by decide +kernel
set_option maxRecDepth 20000 in
theorem tx_c24 : tw_cm tx_lk tx_mt tx_sw tx_m24 = true := by decide +kernel
set_option maxRecDepth 20000 in
theorem tx_c25 : tw_cm tx_lk tx_mt tx_sw tx_m25 = true := by decide +kernel
set_option maxRecDepth 20000 in
theorem tx_c26 : tw_cm tx_lk tx_mt tx_sw tx_m26 = true := by decide +kernel
set_option maxRecDepth 20000 in
theorem tx_c27 : tw_cm tx_lk tx_mt tx_sw tx_m27 = true := by decide +kernel
set_option maxRecDepth 20000 in
theorem tx_c28 : tw_cm tx_lk tx_mt tx_sw tx_m28 = true := by decide +kernel
set_option maxRecDepth 20000 in
theorem tx_c29 : tw_cm tx_lk tx_mt tx_sw tx_m29 = true := by decide +kernel
set_option maxRecDepth 20000 in
theorem tx_c30 : tw_cm tx_lk tx_mt tx_sw tx_m30 = true := by decide +kernel
set_option maxRecDepth 20000 in
theorem tx_c31 : tw_cm tx_lk tx_mt tx_sw tx_m31 = true := by decide +kernel
set_option maxRecDepth 20000 in
theorem tx_c32 : tw_cm tx_lk tx_mt tx_sw tx_m32 = true := by decide +kernel
set_option maxRecDepth 20000 in
theorem tx_c33 : tw_cm tx_lk tx_mt tx_sw tx_m33 = true := by decide +kernel
set_option maxRecDepth 20000 in
theorem tx_c34 : tw_cm tx_lk tx_mt tx_sw tx_m34 = true := by decide +kernel
set_option maxRecDepth 20000 in
theorem tx_c35 : tw_cm tx_lk tx_mt tx_sw tx_m35 = true := by decide +kernel
set_option maxRecDepth 20000 in
theorem tx_c36 : tw_cm tx_lk tx_mt tx_sw tx_m36 = true := by decide +kernel
set_option maxRecDepth 20000 in
theorem tx_c37 : tw_cm tx_lk tx_mt tx_sw tx_m37 = true := by decide +kernel
set_option maxRecDepth 20000 in
theorem tx_c38 : tw_cm tx_lk tx_mt tx_sw tx_m38 = true := by decide +kernel
set_option maxRecDepth 20000 in
theorem tx_c39 : tw_cm tx_lk tx_mt tx_sw tx_m39 = true := by decide +kernel
set_option maxRecDepth 20000 in
theorem tx_c40 : tw_cm tx_lk tx_mt tx_sw tx_m40 = true := by decide +kernel
set_option maxRecDepth 20000 in
theorem tx_c41 : tw_cm tx_lk tx_mt tx_sw tx_m41 = true := by decide +kernel
set_option maxRecDepth 20000 in
theorem tx_c42 : tw_cm tx_lk tx_mt tx_sw tx_m42 = true := by decide +kernel
set_option maxRecDepth 20000 in
theorem tx_c43 : tw_cm tx_lk tx_mt tx_sw tx_m43 = true := by decide +kernel
set_option maxRecDepth 20000 in
theorem tx_c44 : tw_cm tx_lk tx_mt tx_sw tx_m44 = true := by decide +kernel
set_option maxRecDepth 20000 in
theorem tx_c45 : tw_cm tx_lk tx_mt tx_sw tx_m45 = true := by decide +kernel
set_option maxRecDepth 20000 in
theorem tx_c46 : tw_cm tx_lk tx_mt tx_sw tx_m46 = true := by decide +kernel
set_option maxRecDepth 20000 in
theorem tx_c47 : tw_cm tx_lk tx_mt tx_sw tx_m47 = true := by decide +kernel
set_option maxRecDepth 20000 in
theorem tx_c48 : tw_cm tx_lk tx_mt tx_sw tx_m48 = true := by decide +kernel
set_option maxRecDepth 20000 in
theorem tx_c49 : tw_cm tx_lk tx_mt tx_sw tx_m49 = true := by decide +kernel
set_option maxRecDepth 20000 in
theorem tx_c50 : tw_cm tx_lk tx_mt tx_sw tx_m50 = true := by decide +kernel
set_option maxRecDepth 20000 in
theorem tx_c51 : tw_cm tx_lk tx_mt tx_sw tx_m51 = true := by decide +kernel
set_option maxRecDepth 20000 in
theorem tx_c52 : tw_cm tx_lk tx_mt tx_sw tx_m52 = true := by decide +kernel
set_option maxRecDepth 20000 in
theorem tx_c53 : tw_cm tx_lk tx_mt tx_sw tx_m53 = true := by decide +kernel
set_option maxRecDepth 20000 in
theorem tx_c54 : tw_cm tx_lk tx_mt tx_sw tx_m54 = true := by decide +kernel
set_option maxRecDepth 20000 in
theorem tx_c55 : tw_cm tx_lk tx_mt tx_sw tx_m55 = true := by decide +kernel
set_option maxRecDepth 20000 in
theorem tx_c56 : tw_cm tx_lk tx_mt tx_sw tx_m56 = true := by decide +kernel
set_option maxRecDepth 20000 in
theorem tx_c57 : tw_cm tx_lk tx_mt tx_sw tx_m57 = true := by decide +kernel
set_option maxRecDepth 20000 in
theorem tx_c58 : tw_cm tx_lk tx_mt tx_sw tx_m58 = true := by decide +kernel
set_option maxRecDepth 20000 in
theorem tx_c59 : tw_cm tx_lk tx_mt tx_sw tx_m59 = true := by decide +kernel
set_option maxRecDepth 20000 in
theorem tx_c60 : tw_cm tx_lk tx_mt tx_sw tx_m60 = true := by decide +kernel
set_option maxRecDepth 20000 in
theorem tx_c61 : tw_cm tx_lk tx_mt tx_sw tx_m61 = true := by decide +kernel
set_option maxRecDepth 20000 in
theorem tx_c62 : tw_cm tx_lk tx_mt tx_sw tx_m62 = true := by decide +kernel
set_option maxRecDepth 20000 in
theorem tx_c63 : tw_cm tx_lk tx_mt tx_sw tx_m63 = true := by decide +kernel
set_option maxRecDepth 20000 in
theorem tx_c64 : tw_cm tx_lk tx_mt tx_sw tx_m64 = true := by decide +kernel
set_option maxRecDepth 20000 in
theorem tx_c65 : tw_cm tx_lk tx_mt tx_sw tx_m65 = true := by decide +kernel
set_option maxRecDepth 20000 in
theorem tx_c66 : tw_cm tx_lk tx_mt tx_sw tx_m66 = true := by decide +kernel
set_option maxRecDepth 20000 in
theorem tx_c67 : tw_cm tx_lk tx_mt tx_sw tx_m67 = true := by decide +kernel
set_option maxRecDepth 20000 in
theorem tx_c68 : tw_cm tx_lk tx_mt tx_sw tx_m68 = true := by decide +kernel
set_option maxRecDepth 20000 in
theorem tx_c69 : tw_cm tx_lk tx_mt tx_sw tx_m69 = true := by decide +kernel
set_option maxRecDepth 20000 in
theorem tx_c70 : tw_cm tx_lk tx_mt tx_sw tx_m70 = true := by decide +kernel
set_option maxRecDepth 20000 in
theorem tx_c71 : tw_cm tx_lk tx_mt tx_sw tx_m71 = true := by decide +kernel
set_option maxRecDepth 20000 in
theorem tx_c72 : tw_cm tx_lk tx_mt tx_sw tx_m72 = true := by decide +kernel
set_option maxRecDepth 20000 in
theorem tx_c73 : tw_cm tx_lk tx_mt tx_sw tx_m73 = true := by decide +kernel
set_option maxRecDepth 20000 in
theorem tx_c74 : tw_cm tx_lk tx_mt tx_sw tx_m74 = true := by decide +kernel
set_option maxRecDepth 20000 in
theorem tx_c75 : tw_cm tx_lk tx_mt tx_sw tx_m75 = true := by decide +kernel
set_option maxRecDepth 20000 in
theorem tx_c76 : tw_cm tx_lk tx_mt tx_sw tx_m76 = true := by decide +kernel
set_option maxRecDepth 20000 in
theorem tx_c77 : tw_cm tx_lk tx_mt tx_sw tx_m77 = true := by decide +kernel
set_option maxRecDepth 20000 in
theorem tx_c78 : tw_cm tx_lk tx_mt tx_sw tx_m78 = true := by decide +kernel
set_option maxRecDepth 20000 in
theorem tx_c79 : tw_cm tx_lk tx_mt tx_sw tx_m79 = true := by decide +kernel
set_option maxRecDepth 20000 in
theorem tx_c80 : tw_cm tx_lk tx_mt tx_sw tx_m80 = true := by decide +kernel
set_option maxRecDepth 20000 in
theorem tx_c81 : tw_cm tx_lk tx_mt tx_sw tx_m81 = true := by decide +kernel
set_option maxRecDepth 20000 in
theorem tx_c82 : tw_cm tx_lk tx_mt tx_sw tx_m82 = true := by decide +kernel
set_option maxRecDepth 20000 in
theorem tx_c83 : tw_cm tx_lk tx_mt tx_sw tx_m83 = true := by decide +kernel
set_option maxRecDepth 20000 in
theorem tx_c84 : tw_cm tx_lk tx_mt tx_sw tx_m84 = true := by decide +kernel
set_option maxRecDepth 20000 in
theorem tx_c85 : tw_cm tx_lk tx_mt tx_sw tx_m85 = true := by decide +kernel
set_option maxRecDepth 20000 in
theorem tx_c86 : tw_cm tx_lk tx_mt tx_sw tx_m86 = true := by decide +kernel
set_option maxRecDepth 20000 in
theorem tx_c87 : tw_cm tx_lk tx_mt tx_sw tx_m87 = true := by decide +kernel
set_option maxRecDepth 20000 in
theorem tx_c88 : tw_cm tx_lk tx_mt tx_sw tx_m88 = true := by decide +kernel
set_option maxRecDepth 20000 in
theorem tx_c89 : tw_cm tx_lk tx_mt tx_sw tx_m89 = true := by decide +kernel
set_option maxRecDepth 20000 in
theorem tx_c90 : tw_cm tx_lk tx_mt tx_sw tx_m90 = true := by decide +kernel
set_option maxRecDepth 20000 in
theorem tx_c91 : tw_cm tx_lk tx_mt tx_sw tx_m91 = true := by decide +kernel
set_option maxRecDepth 20000 in
theorem tx_c92 : tw_cm tx_lk tx_mt tx_sw tx_m92 = true := by decide +kernel
set_option maxRecDepth 20000 in
theorem tx_c93 : tw_cm tx_lk tx_mt tx_sw tx_m93 = true := by decide +kernel
set_option maxRecDepth 20000 in
theorem tx_c94 : tw_cm tx_lk tx_mt tx_sw tx_m94 = true := by decide +kernel
set_option maxRecDepth 20000 in
theorem tx_c95 : tw_cm tx_lk tx_mt tx_sw tx_m95 = true := by decide +kernel
set_option maxRecDepth 20000 in
theorem tx_c96 : tw_cm tx_lk tx_mt tx_sw tx_m96 = true := by decide +kernel
set_option maxRecDepth 20000 in
theorem tx_c97 : tw_cm tx_lk tx_mt tx_sw tx_m97 = true := by decide +kernel
set_option maxRecDepth 20000 in
theorem tx_c98 : tw_cm tx_lk tx_mt tx_sw tx_m98 = true := by decide +kernel
set_option maxRecDepth 20000 in
theorem tx_c99 : tw_cm tx_lk tx_mt tx_sw tx_m99 = true := by decide +kernel
set_option maxRecDepth 20000 in
theorem tx_c100 : tw_cm tx_lk tx_mt tx_sw tx_m100 = true := by decide +kernel
set_option maxRecDepth 20000 in
theorem tx_c101 : tw_cm tx_lk tx_mt tx_sw tx_m101 = true := by decide +kernel
set_option maxRecDepth 20000 in
theorem tx_c102 : tw_cm tx_lk tx_mt tx_sw tx_m102 = true := by decide +kernel
set_option maxRecDepth 20000 in
theorem tx_c103 : tw_cm tx_lk tx_mt tx_sw tx_m103 = true := by decide +kernel
set_option maxRecDepth 20000 in
theorem tx_c104 : tw_cm tx_lk tx_mt tx_sw tx_m104 = true := by decide +kernel
set_option maxRecDepth 20000 in
theorem tx_c105 : tw_cm tx_lk tx_mt tx_sw tx_m105 = true := by decide +kernel
set_option maxRecDepth 20000 in
theorem tx_c106 : tw_cm tx_lk tx_mt tx_sw tx_m106 = true := by decide +kernel
set_option maxRecDepth 20000 in
theorem tx_c107 : tw_cm tx_lk tx_mt tx_sw tx_m107 = true := by decide +kernel
set_option maxRecDepth 20000 in
theorem tx_c108 : tw_cm tx_lk tx_mt tx_sw tx_m108 = true := by decide +kernel
set_option maxRecDepth 20000 in
theorem tx_c109 : tw_cm tx_lk tx_mt tx_sw tx_m109 = true := by decide +kernel
set_option maxRecDepth 20000 in
theorem tx_c110 : tw_cm tx_lk tx_mt tx_sw tx_m110 = true := by decide +kernel
set_option maxRecDepth 20000 in
theorem tx_c111 : tw_cm tx_lk tx_mt tx_sw tx_m111 = true := by decide +kernel
set_option maxRecDepth 20000 in
theorem tx_c112 : tw_cm tx_lk tx_mt tx_sw tx_m112 = true := by decide +kernel
set_option maxRecDepth 20000 in
theorem tx_c113 : tw_cm tx_lk tx_mt tx_sw tx_m113 = true := by decide +kernel
set_option maxRecDepth 20000 in
theorem tx_c114 : tw_cm tx_lk tx_mt tx_sw tx_m114 = true := by decide +kernel
set_option maxRecDepth 20000 in
theorem tx_c115 : tw_cm tx_lk tx_mt tx_sw tx_m115 = true := by decide +kernel
set_option maxRecDepth 20000 in
theorem tx_c116 : tw_cm tx_lk tx_mt tx_sw tx_m116 = true := by decide +kernel
set_option maxRecDepth 20000 in
theorem tx_c117 : tw_cm tx_lk tx_mt tx_sw tx_m117 = true := by decide +kernel
set_option maxRecDepth 20000 in
theorem tx_c118 : tw_cm tx_lk tx_mt tx_sw tx_m118 = true := by decide +kernel
set_option maxRecDepth 20000 in
theorem tx_c119 : tw_cm tx_lk tx_mt tx_sw tx_m119 = true := by decide +kernel
set_option maxRecDepth 20000 in
theorem tx_c120 : tw_cm tx_lk tx_mt tx_sw tx_m120 = true := by decide +kernel
set_option maxRecDepth 20000 in
theorem tx_c121 : tw_cm tx_lk tx_mt tx_sw tx_m121 = true := by decide +kernel
set_option maxRecDepth 20000 in
theorem tx_c122 : tw_cm tx_lk tx_mt tx_sw tx_m122 = true := by decide +kernel
set_option maxRecDepth 20000 in
theorem tx_c123 : tw_cm tx_lk tx_mt tx_sw tx_m123 = true := by decide +kernel
set_option maxRecDepth 20000 in
theorem tx_c124 : tw_cm tx_lk tx_mt tx_sw tx_m124 = true := by decide +kernel
set_option maxRecDepth 20000 in
theorem tx_c125 : tw_cm tx_lk tx_mt tx_sw tx_m125 = true := by decide +kernel
set_option maxRecDepth 20000 in
theorem tx_c126 : tw_cm tx_lk tx_mt tx_sw tx_m126 = true := by decide +kernel
set_option maxRecDepth 20000 in
theorem tx_c127 : tw_cm tx_lk tx_mt tx_sw tx_m127 = true := by decide +kernel
set_option maxRecDepth 20000 in
theorem tx_c128 : tw_cm tx_lk tx_mt tx_sw tx_m128 = true := by decide +kernel
set_option maxRecDepth 20000 in
theorem tx_c129 : tw_cm tx_lk tx_mt tx_sw tx_m129 = true := by decide +kernel
set_option maxRecDepth 20000 in
theorem tx_c130 : tw_cm tx_lk tx_mt tx_sw tx_m130 = true := by decide +kernel
set_option maxRecDepth 20000 in
theorem tx_c131 : tw_cm tx_lk tx_mt tx_sw tx_m131 = true := by decide +kernel
set_option maxRecDepth 20000 in
theorem tx_c132 : tw_cm tx_lk tx_mt tx_sw tx_m132 = true := by decide +kernel
set_option maxRecDepth 20000 in
theorem tx_c133 : tw_cm tx_lk tx_mt tx_sw tx_m133 = true := by decide +kernel
set_option maxRecDepth 20000 in
theorem tx_c134 : tw_cm tx_lk tx_mt tx_sw tx_m134 = true := by decide +kernel
set_option maxRecDepth 20000 in
theorem tx_c135 : tw_cm tx_lk tx_mt tx_sw tx_m135 = true := by decide +kernel
set_option maxRecDepth 20000 in
theorem tx_c136 : tw_cm tx_lk tx_mt tx_sw tx_m136 = true := by decide +kernel
set_option maxRecDepth 20000 in
theorem tx_c137 : tw_cm tx_lk tx_mt tx_sw tx_m137 = true := by decide +kernel
set_option maxRecDepth 20000 in
theorem tx_c138 : tw_cm tx_lk tx_mt tx_sw tx_m138 = true := by decide +kernel
set_option maxRecDepth 20000 in
theorem tx_c139 : tw_cm tx_lk tx_mt tx_sw tx_m139 = true := by decide +kernel
set_option maxRecDepth 20000 in
theorem tx_c140 : tw_cm tx_lk tx_mt tx_sw tx_m140 = true := by decide +kernel
set_option maxRecDepth 20000 in
theorem tx_c141 : tw_cm tx_lk tx_mt tx_sw tx_m141 = true := by decide +kernel
set_option maxRecDepth 20000 in
theorem tx_c142 : tw_cm tx_lk tx_mt tx_sw tx_m142 = true := by decide +kernel
set_option maxRecDepth 20000 in
theorem tx_c143 : tw_cm tx_lk tx_mt tx_sw tx_m143 = true := by decide +kernel
set_option maxRecDepth 20000 in
theorem tx_c144 : tw_cm tx_lk tx_mt tx_sw tx_m144 = true := by decide +kernel
set_option maxRecDepth 20000 in
theorem tx_c145 : tw_cm tx_lk tx_mt tx_sw tx_m145 = true := by decide +kernel
set_option maxRecDepth 20000 in
theorem tx_c146 : tw_cm tx_lk tx_mt tx_sw tx_m146 = true := by decide +kernel
set_option maxRecDepth 20000 in
theorem tx_c147 : tw_cm tx_lk tx_mt tx_sw tx_m147 = true := by decide +kernel
set_option maxRecDepth 20000 in
theorem tx_c148 : tw_cm tx_lk tx_mt tx_sw tx_m148 = true := by decide +kernel
set_option maxRecDepth 20000 in
theorem tx_c149 : tw_cm tx_lk tx_mt tx_sw tx_m149 = true := by decide +kernel
set_option maxRecDepth 20000 in
theorem tx_c150 : tw_cm tx_lk tx_mt tx_sw tx_m150 = true := by decide +kernel
set_option maxRecDepth 20000 in
theorem tx_c151 : tw_cm tx_lk tx_mt tx_sw tx_m151 = true := by decide +kernel
set_option maxRecDepth 20000 in
theorem tx_c152 : tw_cm tx_lk tx_mt tx_sw tx_m152 = true := by decide +kernel
set_option maxRecDepth 20000 in
theorem tx_c153 : tw_cm tx_lk tx_mt tx_sw tx_m153 = true := by decide +kernel
set_option maxRecDepth 20000 in
theorem tx_c154 : tw_cm tx_lk tx_mt tx_sw tx_m154 = true := by decide +kernel
set_option maxRecDepth 20000 in
theorem tx_c155 : tw_cm tx_lk tx_mt tx_sw tx_m155 = true := by decide +kernel
set_option maxRecDepth 20000 in
theorem tx_c156 : tw_cm tx_lk tx_mt tx_sw tx_m156 = true := by decide +kernel
set_option maxRecDepth 20000 in
theorem tx_c157 : tw_cm tx_lk tx_mt tx_sw tx_m157 = true := by decide +kernel
set_option maxRecDepth 20000 in
theorem tx_c158 : tw_cm tx_lk tx_mt tx_sw tx_m158 = true := by decide +kernel
set_option maxRecDepth 20000 in
theorem tx_c159 : tw_cm tx_lk tx_mt tx_sw tx_m159 = true := by decide +kernel
set_option maxRecDepth 20000 in
theorem tx_c160 : tw_cm tx_lk tx_mt tx_sw tx_m160 = true := by decide +kernel
end CHECK
