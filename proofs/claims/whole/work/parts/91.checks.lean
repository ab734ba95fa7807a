/-! The tables are right: bytes, links, words. -/
section CHECK
set_option maxRecDepth 20000 in
theorem tx_ck0 : tw_cm tx_lk tx_mt tx_sw tx_m0 = true := by decide +kernel
set_option maxRecDepth 20000 in
theorem tx_ck1 : tw_cm tx_lk tx_mt tx_sw tx_m1 = true := by decide +kernel
set_option maxRecDepth 20000 in
theorem tx_ck2 : tw_cm tx_lk tx_mt tx_sw tx_m2 = true := by decide +kernel
set_option maxRecDepth 20000 in
theorem tx_ck3 : tw_cm tx_lk tx_mt tx_sw tx_m3 = true := by decide +kernel
set_option maxRecDepth 20000 in
theorem tx_ck4 : tw_cm tx_lk tx_mt tx_sw tx_m4 = true := by decide +kernel
set_option maxRecDepth 20000 in
theorem tx_ck5 : tw_cm tx_lk tx_mt tx_sw tx_m5 = true := by decide +kernel
set_option maxRecDepth 20000 in
theorem tx_ck6 : tw_cm tx_lk tx_mt tx_sw tx_m6 = true := by decide +kernel
set_option maxRecDepth 20000 in
theorem tx_ck7 : tw_cm tx_lk tx_mt tx_sw tx_m7 = true := by decide +kernel
set_option maxRecDepth 20000 in
theorem tx_ck8 : tw_cm tx_lk tx_mt tx_sw tx_m8 = true := by decide +kernel
set_option maxRecDepth 20000 in
theorem tx_ck9 : tw_cm tx_lk tx_mt tx_sw tx_m9 = true := by decide +kernel
set_option maxRecDepth 20000 in
theorem tx_ck10 : tw_cm tx_lk tx_mt tx_sw tx_m10 = true := by decide +kernel
set_option maxRecDepth 20000 in
theorem tx_ck11 : tw_cm tx_lk tx_mt tx_sw tx_m11 = true := by decide +kernel
set_option maxRecDepth 20000 in
theorem tx_ck12 : tw_cm tx_lk tx_mt tx_sw tx_m12 = true := by decide +kernel
set_option maxRecDepth 20000 in
theorem tx_ck13 : tw_cm tx_lk tx_mt tx_sw tx_m13 = true := by decide +kernel
set_option maxRecDepth 20000 in
theorem tx_ck14 : tw_cm tx_lk tx_mt tx_sw tx_m14 = true := by decide +kernel
set_option maxRecDepth 20000 in
theorem tx_ck15 : tw_cm tx_lk tx_mt tx_sw tx_m15 = true := by decide +kernel
set_option maxRecDepth 20000 in
theorem tx_ck16 : tw_cm tx_lk tx_mt tx_sw tx_m16 = true := by decide +kernel
set_option maxRecDepth 20000 in
theorem tx_ck17 : tw_cm tx_lk tx_mt tx_sw tx_m17 = true := by decide +kernel
set_option maxRecDepth 20000 in
theorem tx_ck18 : tw_cm tx_lk tx_mt tx_sw tx_m18 = true := by decide +kernel
set_option maxRecDepth 20000 in
theorem tx_ck19 : tw_cm tx_lk tx_mt tx_sw tx_m19 = true := by decide +kernel
set_option maxRecDepth 20000 in
theorem tx_ck20 : tw_cm tx_lk tx_mt tx_sw tx_m20 = true := by decide +kernel
set_option maxRecDepth 20000 in
theorem tx_ck21 : tw_cm tx_lk tx_mt tx_sw tx_m21 = true := by decide +kernel
set_option maxRecDepth 20000 in
theorem tx_ck22 : tw_cm tx_lk tx_mt tx_sw tx_m22 = true := by decide +kernel
set_option maxRecDepth 20000 in
theorem tx_ck23 : tw_cm tx_lk tx_mt tx_sw tx_m23 = true := by decide +kernel
set_option maxRecDepth 20000 in
theorem tx_ck24 : tw_cm tx_lk tx_mt tx_sw tx_m24 = true := by decide +kernel
set_option maxRecDepth 20000 in
theorem tx_ck25 : tw_cm tx_lk tx_mt tx_sw tx_m25 = true := by decide +kernel
set_option maxRecDepth 20000 in
theorem tx_ck26 : tw_cm tx_lk tx_mt tx_sw tx_m26 = true := by decide +kernel
set_option maxRecDepth 20000 in
theorem tx_ck27 : tw_cm tx_lk tx_mt tx_sw tx_m27 = true := by decide +kernel
set_option maxRecDepth 20000 in
theorem tx_ck28 : tw_cm tx_lk tx_mt tx_sw tx_m28 = true := by decide +kernel
set_option maxRecDepth 20000 in
theorem tx_ck29 : tw_cm tx_lk tx_mt tx_sw tx_m29 = true := by decide +kernel
set_option maxRecDepth 20000 in
theorem tx_ck30 : tw_cm tx_lk tx_mt tx_sw tx_m30 = true := by decide +kernel
set_option maxRecDepth 20000 in
theorem tx_ck31 : tw_cm tx_lk tx_mt tx_sw tx_m31 = true := by decide +kernel
set_option maxRecDepth 20000 in
theorem tx_ck32 : tw_cm tx_lk tx_mt tx_sw tx_m32 = true := by decide +kernel
set_option maxRecDepth 20000 in
theorem tx_ck33 : tw_cm tx_lk tx_mt tx_sw tx_m33 = true := by decide +kernel
set_option maxRecDepth 20000 in
theorem tx_ck34 : tw_cm tx_lk tx_mt tx_sw tx_m34 = true := by decide +kernel
set_option maxRecDepth 20000 in
theorem tx_ck35 : tw_cm tx_lk tx_mt tx_sw tx_m35 = true := by decide +kernel
set_option maxRecDepth 20000 in
theorem tx_ck36 : tw_cm tx_lk tx_mt tx_sw tx_m36 = true := by decide +kernel
set_option maxRecDepth 20000 in
theorem tx_ck37 : tw_cm tx_lk tx_mt tx_sw tx_m37 = true := by decide +kernel
set_option maxRecDepth 20000 in
theorem tx_ck38 : tw_cm tx_lk tx_mt tx_sw tx_m38 = true := by decide +kernel
set_option maxRecDepth 20000 in
theorem tx_ck39 : tw_cm tx_lk tx_mt tx_sw tx_m39 = true := by decide +kernel
set_option maxRecDepth 20000 in
theorem tx_ck40 : tw_cm tx_lk tx_mt tx_sw tx_m40 = true := by decide +kernel
set_option maxRecDepth 20000 in
theorem tx_ck41 : tw_cm tx_lk tx_mt tx_sw tx_m41 = true := by decide +kernel
set_option maxRecDepth 20000 in
theorem tx_ck42 : tw_cm tx_lk tx_mt tx_sw tx_m42 = true := by decide +kernel
set_option maxRecDepth 20000 in
theorem tx_ck43 : tw_cm tx_lk tx_mt tx_sw tx_m43 = true := by decide +kernel
set_option maxRecDepth 20000 in
theorem tx_ck44 : tw_cm tx_lk tx_mt tx_sw tx_m44 = true := by decide +kernel
set_option maxRecDepth 20000 in
theorem tx_ck45 : tw_cm tx_lk tx_mt tx_sw tx_m45 = true := by decide +kernel
set_option maxRecDepth 20000 in
theorem tx_ck46 : tw_cm tx_lk tx_mt tx_sw tx_m46 = true := by decide +kernel
set_option maxRecDepth 20000 in
theorem tx_ck47 : tw_cm tx_lk tx_mt tx_sw tx_m47 = true := by decide +kernel
set_option maxRecDepth 20000 in
theorem tx_ck48 : tw_cm tx_lk tx_mt tx_sw tx_m48 = true := by decide +kernel
set_option maxRecDepth 20000 in
theorem tx_ck49 : tw_cm tx_lk tx_mt tx_sw tx_m49 = true := by decide +kernel
set_option maxRecDepth 20000 in
theorem tx_ck50 : tw_cm tx_lk tx_mt tx_sw tx_m50 = true := by decide +kernel
set_option maxRecDepth 20000 in
theorem tx_ck51 : tw_cm tx_lk tx_mt tx_sw tx_m51 = true := by decide +kernel
set_option maxRecDepth 20000 in
theorem tx_ck52 : tw_cm tx_lk tx_mt tx_sw tx_m52 = true := by decide +kernel
set_option maxRecDepth 20000 in
theorem tx_ck53 : tw_cm tx_lk tx_mt tx_sw tx_m53 = true := by decide +kernel
set_option maxRecDepth 20000 in
theorem tx_ck54 : tw_cm tx_lk tx_mt tx_sw tx_m54 = true := by decide +kernel
set_option maxRecDepth 20000 in
theorem tx_ck55 : tw_cm tx_lk tx_mt tx_sw tx_m55 = true := by decide +kernel
set_option maxRecDepth 20000 in
theorem tx_ck56 : tw_cm tx_lk tx_mt tx_sw tx_m56 = true := by decide +kernel
set_option maxRecDepth 20000 in
theorem tx_ck57 : tw_cm tx_lk tx_mt tx_sw tx_m57 = true := by decide +kernel
set_option maxRecDepth 20000 in
theorem tx_ck58 : tw_cm tx_lk tx_mt tx_sw tx_m58 = true := by decide +kernel
set_option maxRecDepth 20000 in
theorem tx_ck59 : tw_cm tx_lk tx_mt tx_sw tx_m59 = true := by decide +kernel
set_option maxRecDepth 20000 in
theorem tx_ck60 : tw_cm tx_lk tx_mt tx_sw tx_m60 = true := by decide +kernel
set_option maxRecDepth 20000 in
theorem tx_ck61 : tw_cm tx_lk tx_mt tx_sw tx_m61 = true := by decide +kernel
set_option maxRecDepth 20000 in
theorem tx_ck62 : tw_cm tx_lk tx_mt tx_sw tx_m62 = true := by decide +kernel
set_option maxRecDepth 20000 in
theorem tx_ck63 : tw_cm tx_lk tx_mt tx_sw tx_m63 = true := by decide +kernel
set_option maxRecDepth 20000 in
theorem tx_ck64 : tw_cm tx_lk tx_mt tx_sw tx_m64 = true := by decide +kernel
set_option maxRecDepth 20000 in
theorem tx_ck65 : tw_cm tx_lk tx_mt tx_sw tx_m65 = true := by decide +kernel
set_option maxRecDepth 20000 in
theorem tx_ck66 : tw_cm tx_lk tx_mt tx_sw tx_m66 = true := by decide +kernel
set_option maxRecDepth 20000 in
theorem tx_ck67 : tw_cm tx_lk tx_mt tx_sw tx_m67 = true := by decide +kernel
set_option maxRecDepth 20000 in
theorem tx_ck68 : tw_cm tx_lk tx_mt tx_sw tx_m68 = true := by decide +kernel
set_option maxRecDepth 20000 in
theorem tx_ck69 : tw_cm tx_lk tx_mt tx_sw tx_m69 = true := by decide +kernel
set_option maxRecDepth 20000 in
theorem tx_ck70 : tw_cm tx_lk tx_mt tx_sw tx_m70 = true := by decide +kernel
set_option maxRecDepth 20000 in
theorem tx_ck71 : tw_cm tx_lk tx_mt tx_sw tx_m71 = true := by decide +kernel
set_option maxRecDepth 20000 in
theorem tx_ck72 : tw_cm tx_lk tx_mt tx_sw tx_m72 = true := by decide +kernel
set_option maxRecDepth 20000 in
theorem tx_ck73 : tw_cm tx_lk tx_mt tx_sw tx_m73 = true := by decide +kernel
set_option maxRecDepth 20000 in
theorem tx_ck74 : tw_cm tx_lk tx_mt tx_sw tx_m74 = true := by decide +kernel
set_option maxRecDepth 20000 in
theorem tx_ck75 : tw_cm tx_lk tx_mt tx_sw tx_m75 = true := by decide +kernel
set_option maxRecDepth 20000 in
theorem tx_ck76 : tw_cm tx_lk tx_mt tx_sw tx_m76 = true := by decide +kernel
set_option maxRecDepth 20000 in
theorem tx_ck77 : tw_cm tx_lk tx_mt tx_sw tx_m77 = true := by decide +kernel
set_option maxRecDepth 20000 in
theorem tx_ck78 : tw_cm tx_lk tx_mt tx_sw tx_m78 = true := by decide +kernel
set_option maxRecDepth 20000 in
theorem tx_ck79 : tw_cm tx_lk tx_mt tx_sw tx_m79 = true := by decide +kernel
set_option maxRecDepth 20000 in
theorem tx_ck80 : tw_cm tx_lk tx_mt tx_sw tx_m80 = true := by decide +kernel
set_option maxRecDepth 20000 in
theorem tx_ck81 : tw_cm tx_lk tx_mt tx_sw tx_m81 = true := by decide +kernel
set_option maxRecDepth 20000 in
theorem tx_ck82 : tw_cm tx_lk tx_mt tx_sw tx_m82 = true := by decide +kernel
set_option maxRecDepth 20000 in
theorem tx_ck83 : tw_cm tx_lk tx_mt tx_sw tx_m83 = true := by decide +kernel
set_option maxRecDepth 20000 in
theorem tx_ck84 : tw_cm tx_lk tx_mt tx_sw tx_m84 = true := by decide +kernel
set_option maxRecDepth 20000 in
theorem tx_ck85 : tw_cm tx_lk tx_mt tx_sw tx_m85 = true := by decide +kernel
set_option maxRecDepth 20000 in
theorem tx_ck86 : tw_cm tx_lk tx_mt tx_sw tx_m86 = true := by decide +kernel
set_option maxRecDepth 20000 in
theorem tx_ck87 : tw_cm tx_lk tx_mt tx_sw tx_m87 = true := by decide +kernel
set_option maxRecDepth 20000 in
theorem tx_ck88 : tw_cm tx_lk tx_mt tx_sw tx_m88 = true := by decide +kernel
set_option maxRecDepth 20000 in
theorem tx_ck89 : tw_cm tx_lk tx_mt tx_sw tx_m89 = true := by decide +kernel
set_option maxRecDepth 20000 in
theorem tx_ck90 : tw_cm tx_lk tx_mt tx_sw tx_m90 = true := by decide +kernel
set_option maxRecDepth 20000 in
theorem tx_ck91 : tw_cm tx_lk tx_mt tx_sw tx_m91 = true := by decide +kernel
set_option maxRecDepth 20000 in
theorem tx_ck92 : tw_cm tx_lk tx_mt tx_sw tx_m92 = true := by decide +kernel
set_option maxRecDepth 20000 in
theorem tx_ck93 : tw_cm tx_lk tx_mt tx_sw tx_m93 = true := by decide +kernel
set_option maxRecDepth 20000 in
theorem tx_ck94 : tw_cm tx_lk tx_mt tx_sw tx_m94 = true := by decide +kernel
set_option maxRecDepth 20000 in
theorem tx_ck95 : tw_cm tx_lk tx_mt tx_sw tx_m95 = true := by decide +kernel
set_option maxRecDepth 20000 in
theorem tx_ck96 : tw_cm tx_lk tx_mt tx_sw tx_m96 = true := by decide +kernel
set_option maxRecDepth 20000 in
theorem tx_ck97 : tw_cm tx_lk tx_mt tx_sw tx_m97 = true := by decide +kernel
set_option maxRecDepth 20000 in
theorem tx_ck98 : tw_cm tx_lk tx_mt tx_sw tx_m98 = true := by decide +kernel
set_option maxRecDepth 20000 in
theorem tx_ck99 : tw_cm tx_lk tx_mt tx_sw tx_m99 = true := by decide +kernel
set_option maxRecDepth 20000 in
theorem tx_ck100 : tw_cm tx_lk tx_mt tx_sw tx_m100 = true := by decide +kernel
set_option maxRecDepth 20000 in
theorem tx_ck101 : tw_cm tx_lk tx_mt tx_sw tx_m101 = true := by decide +kernel
set_option maxRecDepth 20000 in
theorem tx_ck102 : tw_cm tx_lk tx_mt tx_sw tx_m102 = true := by decide +kernel
set_option maxRecDepth 20000 in
theorem tx_ck103 : tw_cm tx_lk tx_mt tx_sw tx_m103 = true := by decide +kernel
set_option maxRecDepth 20000 in
theorem tx_ck104 : tw_cm tx_lk tx_mt tx_sw tx_m104 = true := by decide +kernel
set_option maxRecDepth 20000 in
theorem tx_ck105 : tw_cm tx_lk tx_mt tx_sw tx_m105 = true := by decide +kernel
set_option maxRecDepth 20000 in
theorem tx_ck106 : tw_cm tx_lk tx_mt tx_sw tx_m106 = true := by decide +kernel
set_option maxRecDepth 20000 in
theorem tx_ck107 : tw_cm tx_lk tx_mt tx_sw tx_m107 = true := by decide +kernel
set_option maxRecDepth 20000 in
theorem tx_ck108 : tw_cm tx_lk tx_mt tx_sw tx_m108 = true := by decide +kernel
set_option maxRecDepth 20000 in
theorem tx_ck109 : tw_cm tx_lk tx_mt tx_sw tx_m109 = true := by decide +kernel
set_option maxRecDepth 20000 in
theorem tx_ck110 : tw_cm tx_lk tx_mt tx_sw tx_m110 = true := by decide +kernel
set_option maxRecDepth 20000 in
theorem tx_ck111 : tw_cm tx_lk tx_mt tx_sw tx_m111 = true := by decide +kernel
set_option maxRecDepth 20000 in
theorem tx_ck112 : tw_cm tx_lk tx_mt tx_sw tx_m112 = true := by decide +kernel
set_option maxRecDepth 20000 in
theorem tx_ck113 : tw_cm tx_lk tx_mt tx_sw tx_m113 = true := by decide +kernel
set_option maxRecDepth 20000 in
theorem tx_ck114 : tw_cm tx_lk tx_mt tx_sw tx_m114 = true := by decide +kernel
set_option maxRecDepth 20000 in
theorem tx_ck115 : tw_cm tx_lk tx_mt tx_sw tx_m115 = true := by decide +kernel
set_option maxRecDepth 20000 in
theorem tx_ck116 : tw_cm tx_lk tx_mt tx_sw tx_m116 = true := by decide +kernel
set_option maxRecDepth 20000 in
theorem tx_ck117 : tw_cm tx_lk tx_mt tx_sw tx_m117 = true := by decide +kernel
set_option maxRecDepth 20000 in
theorem tx_ck118 : tw_cm tx_lk tx_mt tx_sw tx_m118 = true := by decide +kernel
set_option maxRecDepth 20000 in
theorem tx_ck119 : tw_cm tx_lk tx_mt tx_sw tx_m119 = true := by decide +kernel
set_option maxRecDepth 20000 in
theorem tx_ck120 : tw_cm tx_lk tx_mt tx_sw tx_m120 = true := by decide +kernel
set_option maxRecDepth 20000 in
theorem tx_ck121 : tw_cm tx_lk tx_mt tx_sw tx_m121 = true := by decide +kernel
set_option maxRecDepth 20000 in
theorem tx_ck122 : tw_cm tx_lk tx_mt tx_sw tx_m122 = true := by decide +kernel
set_option maxRecDepth 20000 in
theorem tx_ck123 : tw_cm tx_lk tx_mt tx_sw tx_m123 = true := by decide +kernel
set_option maxRecDepth 20000 in
theorem tx_ck124 : tw_cm tx_lk tx_mt tx_sw tx_m124 = true := by decide +kernel
set_option maxRecDepth 20000 in
theorem tx_ck125 : tw_cm tx_lk tx_mt tx_sw tx_m125 = true := by decide +kernel
set_option maxRecDepth 20000 in
theorem tx_ck126 : tw_cm tx_lk tx_mt tx_sw tx_m126 = true := by decide +kernel
set_option maxRecDepth 20000 in
theorem tx_ck127 : tw_cm tx_lk tx_mt tx_sw tx_m127 = true := by decide +kernel
set_option maxRecDepth 20000 in
theorem tx_ck128 : tw_cm tx_lk tx_mt tx_sw tx_m128 = true := by decide +kernel
set_option maxRecDepth 20000 in
theorem tx_ck129 : tw_cm tx_lk tx_mt tx_sw tx_m129 = true := by decide +kernel
set_option maxRecDepth 20000 in
theorem tx_ck130 : tw_cm tx_lk tx_mt tx_sw tx_m130 = true := by decide +kernel
set_option maxRecDepth 20000 in
theorem tx_ck131 : tw_cm tx_lk tx_mt tx_sw tx_m131 = true := by decide +kernel
set_option maxRecDepth 20000 in
theorem tx_ck132 : tw_cm tx_lk tx_mt tx_sw tx_m132 = true := by decide +kernel
set_option maxRecDepth 20000 in
theorem tx_ck133 : tw_cm tx_lk tx_mt tx_sw tx_m133 = true := by decide +kernel
set_option maxRecDepth 20000 in
theorem tx_ck134 : tw_cm tx_lk tx_mt tx_sw tx_m134 = true := by decide +kernel
set_option maxRecDepth 20000 in
theorem tx_ck135 : tw_cm tx_lk tx_mt tx_sw tx_m135 = true := by decide +kernel
set_option maxRecDepth 20000 in
theorem tx_ck136 : tw_cm tx_lk tx_mt tx_sw tx_m136 = true := by decide +kernel
set_option maxRecDepth 20000 in
theorem tx_ck137 : tw_cm tx_lk tx_mt tx_sw tx_m137 = true := by decide +kernel
set_option maxRecDepth 20000 in
theorem tx_ck138 : tw_cm tx_lk tx_mt tx_sw tx_m138 = true := by decide +kernel
set_option maxRecDepth 20000 in
theorem tx_ck139 : tw_cm tx_lk tx_mt tx_sw tx_m139 = true := by decide +kernel
set_option maxRecDepth 20000 in
theorem tx_ck140 : tw_cm tx_lk tx_mt tx_sw tx_m140 = true := by decide +kernel
set_option maxRecDepth 20000 in
theorem tx_ck141 : tw_cm tx_lk tx_mt tx_sw tx_m141 = true := by decide +kernel
set_option maxRecDepth 20000 in
theorem tx_ck142 : tw_cm tx_lk tx_mt tx_sw tx_m142 = true := by decide +kernel
set_option maxRecDepth 20000 in
theorem tx_ck143 : tw_cm tx_lk tx_mt tx_sw tx_m143 = true := by decide +kernel
set_option maxRecDepth 20000 in
theorem tx_ck144 : tw_cm tx_lk tx_mt tx_sw tx_m144 = true := by decide +kernel
set_option maxRecDepth 20000 in
theorem tx_ck145 : tw_cm tx_lk tx_mt tx_sw tx_m145 = true := by decide +kernel
set_option maxRecDepth 20000 in
theorem tx_ck146 : tw_cm tx_lk tx_mt tx_sw tx_m146 = true := by decide +kernel
set_option maxRecDepth 20000 in
theorem tx_ck147 : tw_cm tx_lk tx_mt tx_sw tx_m147 = true := by decide +kernel
set_option maxRecDepth 20000 in
theorem tx_ck148 : tw_cm tx_lk tx_mt tx_sw tx_m148 = true := by decide +kernel
set_option maxRecDepth 20000 in
theorem tx_ck149 : tw_cm tx_lk tx_mt tx_sw tx_m149 = true := by decide +kernel
set_option maxRecDepth 20000 in
theorem tx_ck150 : tw_cm tx_lk tx_mt tx_sw tx_m150 = true := by decide +kernel
set_option maxRecDepth 20000 in
theorem tx_ck151 : tw_cm tx_lk tx_mt tx_sw tx_m151 = true := by decide +kernel
set_option maxRecDepth 20000 in
theorem tx_ck152 : tw_cm tx_lk tx_mt tx_sw tx_m152 = true := by decide +kernel
set_option maxRecDepth 20000 in
theorem tx_ck153 : tw_cm tx_lk tx_mt tx_sw tx_m153 = true := by decide +kernel
set_option maxRecDepth 20000 in
theorem tx_ck154 : tw_cm tx_lk tx_mt tx_sw tx_m154 = true := by decide +kernel
set_option maxRecDepth 20000 in
theorem tx_ck155 : tw_cm tx_lk tx_mt tx_sw tx_m155 = true := by decide +kernel
set_option maxRecDepth 20000 in
theorem tx_ck156 : tw_cm tx_lk tx_mt tx_sw tx_m156 = true := by decide +kernel
set_option maxRecDepth 20000 in
theorem tx_ck157 : tw_cm tx_lk tx_mt tx_sw tx_m157 = true := by decide +kernel
set_option maxRecDepth 20000 in
theorem tx_ck158 : tw_cm tx_lk tx_mt tx_sw tx_m158 = true := by decide +kernel
set_option maxRecDepth 20000 in
theorem tx_ck159 : tw_cm tx_lk tx_mt tx_sw tx_m159 = true := by decide +kernel
set_option maxRecDepth 20000 in
theorem tx_ck160 : tw_cm tx_lk tx_mt tx_sw tx_m160 = true := by decide +kernel
end CHECK
