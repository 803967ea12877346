set_option maxRecDepth 100000 in
theorem ok0 : (mOk m0 && k0.all (eOk (mY m0) (mB m0))) = true := by decide +kernel
set_option maxRecDepth 100000 in
theorem ok1 : (mOk m1 && k1.all (eOk (mY m1) (mB m1))) = true := by decide +kernel
set_option maxRecDepth 100000 in
theorem ok2 : (mOk m2 && k2.all (eOk (mY m2) (mB m2))) = true := by decide +kernel
set_option maxRecDepth 100000 in
theorem ok3 : (mOk m3 && k3.all (eOk (mY m3) (mB m3))) = true := by decide +kernel
set_option maxRecDepth 100000 in
theorem ok4 : (mOk m4 && k4.all (eOk (mY m4) (mB m4))) = true := by decide +kernel
set_option maxRecDepth 100000 in
theorem ok5 : (mOk m5 && k5.all (eOk (mY m5) (mB m5))) = true := by decide +kernel
set_option maxRecDepth 100000 in
theorem ok6 : (mOk m6 && k6.all (eOk (mY m6) (mB m6))) = true := by decide +kernel
set_option maxRecDepth 100000 in
theorem ok7 : (mOk m7 && k7.all (eOk (mY m7) (mB m7))) = true := by decide +kernel
set_option maxRecDepth 100000 in
theorem ok8 : (mOk m8 && k8.all (eOk (mY m8) (mB m8))) = true := by decide +kernel
set_option maxRecDepth 100000 in
theorem ok9 : (mOk m9 && k9.all (eOk (mY m9) (mB m9))) = true := by decide +kernel
set_option maxRecDepth 100000 in
theorem ok10 : (mOk m10 && k10.all (eOk (mY m10) (mB m10))) = true := by decide +kernel
set_option maxRecDepth 100000 in
theorem ok11 : (mOk m11 && k11.all (eOk (mY m11) (mB m11))) = true := by decide +kernel
set_option maxRecDepth 100000 in
theorem ok12 : (mOk m12 && k12.all (eOk (mY m12) (mB m12))) = true := by decide +kernel
set_option maxRecDepth 100000 in
theorem ok13 : (mOk m13 && k13.all (eOk (mY m13) (mB m13))) = true := by decide +kernel
set_option maxRecDepth 100000 in
theorem ok14 : (mOk m14 && k14.all (eOk (mY m14) (mB m14))) = true := by decide +kernel
set_option maxRecDepth 100000 in
theorem ok15 : (mOk m15 && k15.all (eOk (mY m15) (mB m15))) = true := by decide +kernel
set_option maxRecDepth 100000 in
theorem ok16 : (mOk m16 && k16.all (eOk (mY m16) (mB m16))) = true := by decide +kernel
set_option maxRecDepth 100000 in
theorem ok17 : (mOk m17 && k17.all (eOk (mY m17) (mB m17))) = true := by decide +kernel
set_option maxRecDepth 100000 in
theorem ok18 : (mOk m18 && k18.all (eOk (mY m18) (mB m18))) = true := by decide +kernel
set_option maxRecDepth 100000 in
theorem ok19 : (mOk m19 && k19.all (eOk (mY m19) (mB m19))) = true := by decide +kernel
set_option maxRecDepth 100000 in
theorem ok20 : (mOk m20 && k20.all (eOk (mY m20) (mB m20))) = true := by decide +kernel
set_option maxRecDepth 100000 in
theorem ok21 : (mOk m21 && k21.all (eOk (mY m21) (mB m21))) = true := by decide +kernel
set_option maxRecDepth 100000 in
theorem ok22 : (mOk m22 && k22.all (eOk (mY m22) (mB m22))) = true := by decide +kernel
set_option maxRecDepth 100000 in
theorem ok23 : (mOk m23 && k23.all (eOk (mY m23) (mB m23))) = true := by decide +kernel
set_option maxRecDepth 100000 in
theorem ok24 : (mOk m24 && k24.all (eOk (mY m24) (mB m24))) = true := by decide +kernel
set_option maxRecDepth 100000 in
theorem ok25 : (mOk m25 && k25.all (eOk (mY m25) (mB m25))) = true := by decide +kernel
set_option maxRecDepth 100000 in
theorem ok26 : (mOk m26 && k26.all (eOk (mY m26) (mB m26))) = true := by decide +kernel
set_option maxRecDepth 100000 in
theorem ok27 : (mOk m27 && k27.all (eOk (mY m27) (mB m27))) = true := by decide +kernel
set_option maxRecDepth 100000 in
theorem ok28 : (mOk m28 && k28.all (eOk (mY m28) (mB m28))) = true := by decide +kernel
set_option maxRecDepth 100000 in
theorem ok29 : (mOk m29 && k29.all (eOk (mY m29) (mB m29))) = true := by decide +kernel
set_option maxRecDepth 100000 in
theorem ok30 : (mOk m30 && k30.all (eOk (mY m30) (mB m30))) = true := by decide +kernel
set_option maxRecDepth 100000 in
theorem ok31 : (mOk m31 && k31.all (eOk (mY m31) (mB m31))) = true := by decide +kernel
set_option maxRecDepth 100000 in
theorem ok32 : (mOk m32 && k32.all (eOk (mY m32) (mB m32))) = true := by decide +kernel
set_option maxRecDepth 100000 in
theorem ok33 : (mOk m33 && k33.all (eOk (mY m33) (mB m33))) = true := by decide +kernel
set_option maxRecDepth 100000 in
theorem ok34 : (mOk m34 && k34.all (eOk (mY m34) (mB m34))) = true := by decide +kernel
set_option maxRecDepth 100000 in
theorem ok35 : (mOk m35 && k35.all (eOk (mY m35) (mB m35))) = true := by decide +kernel
set_option maxRecDepth 100000 in
theorem ok36 : (mOk m36 && k36.all (eOk (mY m36) (mB m36))) = true := by decide +kernel
set_option maxRecDepth 100000 in
theorem ok37 : (mOk m37 && k37.all (eOk (mY m37) (mB m37))) = true := by decide +kernel
set_option maxRecDepth 100000 in
theorem ok38 : (mOk m38 && k38.all (eOk (mY m38) (mB m38))) = true := by decide +kernel
set_option maxRecDepth 100000 in
theorem ok39 : (mOk m39 && k39.all (eOk (mY m39) (mB m39))) = true := by decide +kernel
set_option maxRecDepth 100000 in
theorem ok40 : (mOk m40 && k40.all (eOk (mY m40) (mB m40))) = true := by decide +kernel
set_option maxRecDepth 100000 in
theorem ok41 : (mOk m41 && k41.all (eOk (mY m41) (mB m41))) = true := by decide +kernel
set_option maxRecDepth 100000 in
theorem ok42 : (mOk m42 && k42.all (eOk (mY m42) (mB m42))) = true := by decide +kernel
set_option maxRecDepth 100000 in
theorem ok43 : (mOk m43 && k43.all (eOk (mY m43) (mB m43))) = true := by decide +kernel
set_option maxRecDepth 100000 in
theorem ok44 : (mOk m44 && k44.all (eOk (mY m44) (mB m44))) = true := by decide +kernel
set_option maxRecDepth 100000 in
theorem ok45 : (mOk m45 && k45.all (eOk (mY m45) (mB m45))) = true := by decide +kernel
set_option maxRecDepth 100000 in
theorem ok46 : (mOk m46 && k46.all (eOk (mY m46) (mB m46))) = true := by decide +kernel
set_option maxRecDepth 100000 in
theorem ok47 : (mOk m47 && k47.all (eOk (mY m47) (mB m47))) = true := by decide +kernel
set_option maxRecDepth 100000 in
theorem ok48 : (mOk m48 && k48.all (eOk (mY m48) (mB m48))) = true := by decide +kernel
set_option maxRecDepth 100000 in
theorem ok49 : (mOk m49 && k49.all (eOk (mY m49) (mB m49))) = true := by decide +kernel
set_option maxRecDepth 100000 in
theorem ok50 : (mOk m50 && k50.all (eOk (mY m50) (mB m50))) = true := by decide +kernel
set_option maxRecDepth 100000 in
theorem ok51 : (mOk m51 && k51.all (eOk (mY m51) (mB m51))) = true := by decide +kernel
set_option maxRecDepth 100000 in
theorem ok52 : (mOk m52 && k52.all (eOk (mY m52) (mB m52))) = true := by decide +kernel
set_option maxRecDepth 100000 in
theorem ok53 : (mOk m53 && k53.all (eOk (mY m53) (mB m53))) = true := by decide +kernel
set_option maxRecDepth 100000 in
theorem ok54 : (mOk m54 && k54.all (eOk (mY m54) (mB m54))) = true := by decide +kernel
set_option maxRecDepth 100000 in
theorem ok55 : (mOk m55 && k55.all (eOk (mY m55) (mB m55))) = true := by decide +kernel
set_option maxRecDepth 100000 in
theorem ok56 : (mOk m56 && k56.all (eOk (mY m56) (mB m56))) = true := by decide +kernel
set_option maxRecDepth 100000 in
theorem ok57 : (mOk m57 && k57.all (eOk (mY m57) (mB m57))) = true := by decide +kernel
set_option maxRecDepth 100000 in
theorem ok58 : (mOk m58 && k58.all (eOk (mY m58) (mB m58))) = true := by decide +kernel
set_option maxRecDepth 100000 in
theorem ok59 : (mOk m59 && k59.all (eOk (mY m59) (mB m59))) = true := by decide +kernel
set_option maxRecDepth 100000 in
theorem ok60 : (mOk m60 && k60.all (eOk (mY m60) (mB m60))) = true := by decide +kernel
set_option maxRecDepth 100000 in
theorem ok61 : (mOk m61 && k61.all (eOk (mY m61) (mB m61))) = true := by decide +kernel
set_option maxRecDepth 100000 in
theorem ok62 : (mOk m62 && k62.all (eOk (mY m62) (mB m62))) = true := by decide +kernel
set_option maxRecDepth 100000 in
theorem ok63 : (mOk m63 && k63.all (eOk (mY m63) (mB m63))) = true := by decide +kernel
set_option maxRecDepth 100000 in
theorem ok64 : (mOk m64 && k64.all (eOk (mY m64) (mB m64))) = true := by decide +kernel
set_option maxRecDepth 100000 in
theorem ok65 : (mOk m65 && k65.all (eOk (mY m65) (mB m65))) = true := by decide +kernel
set_option maxRecDepth 100000 in
theorem ok66 : (mOk m66 && k66.all (eOk (mY m66) (mB m66))) = true := by decide +kernel
set_option maxRecDepth 100000 in
theorem ok67 : (mOk m67 && k67.all (eOk (mY m67) (mB m67))) = true := by decide +kernel
set_option maxRecDepth 100000 in
theorem ok68 : (mOk m68 && k68.all (eOk (mY m68) (mB m68))) = true := by decide +kernel
set_option maxRecDepth 100000 in
theorem ok69 : (mOk m69 && k69.all (eOk (mY m69) (mB m69))) = true := by decide +kernel
set_option maxRecDepth 100000 in
theorem ok70 : (mOk m70 && k70.all (eOk (mY m70) (mB m70))) = true := by decide +kernel
set_option maxRecDepth 100000 in
theorem ok71 : (mOk m71 && k71.all (eOk (mY m71) (mB m71))) = true := by decide +kernel
set_option maxRecDepth 100000 in
theorem ok72 : (mOk m72 && k72.all (eOk (mY m72) (mB m72))) = true := by decide +kernel
set_option maxRecDepth 100000 in
theorem ok73 : (mOk m73 && k73.all (eOk (mY m73) (mB m73))) = true := by decide +kernel
set_option maxRecDepth 100000 in
theorem ok74 : (mOk m74 && k74.all (eOk (mY m74) (mB m74))) = true := by decide +kernel
set_option maxRecDepth 100000 in
theorem ok75 : (mOk m75 && k75.all (eOk (mY m75) (mB m75))) = true := by decide +kernel
set_option maxRecDepth 100000 in
theorem ok76 : (mOk m76 && k76.all (eOk (mY m76) (mB m76))) = true := by decide +kernel
set_option maxRecDepth 100000 in
theorem ok77 : (mOk m77 && k77.all (eOk (mY m77) (mB m77))) = true := by decide +kernel
set_option maxRecDepth 100000 in
theorem ok78 : (mOk m78 && k78.all (eOk (mY m78) (mB m78))) = true := by decide +kernel
set_option maxRecDepth 100000 in
theorem ok79 : (mOk m79 && k79.all (eOk (mY m79) (mB m79))) = true := by decide +kernel
set_option maxRecDepth 100000 in
theorem ok80 : (mOk m80 && k80.all (eOk (mY m80) (mB m80))) = true := by decide +kernel
set_option maxRecDepth 100000 in
theorem ok81 : (mOk m81 && k81.all (eOk (mY m81) (mB m81))) = true := by decide +kernel
set_option maxRecDepth 100000 in
theorem ok82 : (mOk m82 && k82.all (eOk (mY m82) (mB m82))) = true := by decide +kernel
set_option maxRecDepth 100000 in
theorem ok83 : (mOk m83 && k83.all (eOk (mY m83) (mB m83))) = true := by decide +kernel
set_option maxRecDepth 100000 in
theorem ok84 : (mOk m84 && k84.all (eOk (mY m84) (mB m84))) = true := by decide +kernel
set_option maxRecDepth 100000 in
theorem ok85 : (mOk m85 && k85.all (eOk (mY m85) (mB m85))) = true := by decide +kernel
set_option maxRecDepth 100000 in
theorem ok86 : (mOk m86 && k86.all (eOk (mY m86) (mB m86))) = true := by decide +kernel
set_option maxRecDepth 100000 in
theorem ok87 : (mOk m87 && k87.all (eOk (mY m87) (mB m87))) = true := by decide +kernel
set_option maxRecDepth 100000 in
theorem ok88 : (mOk m88 && k88.all (eOk (mY m88) (mB m88))) = true := by decide +kernel
set_option maxRecDepth 100000 in
theorem ok89 : (mOk m89 && k89.all (eOk (mY m89) (mB m89))) = true := by decide +kernel
set_option maxRecDepth 100000 in
theorem ok90 : (mOk m90 && k90.all (eOk (mY m90) (mB m90))) = true := by decide +kernel
set_option maxRecDepth 100000 in
theorem ok91 : (mOk m91 && k91.all (eOk (mY m91) (mB m91))) = true := by decide +kernel
set_option maxRecDepth 100000 in
theorem ok92 : (mOk m92 && k92.all (eOk (mY m92) (mB m92))) = true := by decide +kernel
set_option maxRecDepth 100000 in
theorem ok93 : (mOk m93 && k93.all (eOk (mY m93) (mB m93))) = true := by decide +kernel
set_option maxRecDepth 100000 in
theorem ok94 : (mOk m94 && k94.all (eOk (mY m94) (mB m94))) = true := by decide +kernel
set_option maxRecDepth 100000 in
theorem ok95 : (mOk m95 && k95.all (eOk (mY m95) (mB m95))) = true := by decide +kernel
set_option maxRecDepth 100000 in
theorem ok96 : (mOk m96 && k96.all (eOk (mY m96) (mB m96))) = true := by decide +kernel
set_option maxRecDepth 100000 in
theorem ok97 : (mOk m97 && k97.all (eOk (mY m97) (mB m97))) = true := by decide +kernel
set_option maxRecDepth 100000 in
theorem ok98 : (mOk m98 && k98.all (eOk (mY m98) (mB m98))) = true := by decide +kernel
set_option maxRecDepth 100000 in
theorem ok99 : (mOk m99 && k99.all (eOk (mY m99) (mB m99))) = true := by decide +kernel
set_option maxRecDepth 100000 in
theorem ok100 : (mOk m100 && k100.all (eOk (mY m100) (mB m100))) = true := by decide +kernel
set_option maxRecDepth 100000 in
theorem ok101 : (mOk m101 && k101.all (eOk (mY m101) (mB m101))) = true := by decide +kernel
set_option maxRecDepth 100000 in
theorem ok102 : (mOk m102 && k102.all (eOk (mY m102) (mB m102))) = true := by decide +kernel
set_option maxRecDepth 100000 in
theorem ok103 : (mOk m103 && k103.all (eOk (mY m103) (mB m103))) = true := by decide +kernel
set_option maxRecDepth 100000 in
theorem ok104 : (mOk m104 && k104.all (eOk (mY m104) (mB m104))) = true := by decide +kernel
set_option maxRecDepth 100000 in
theorem ok105 : (mOk m105 && k105.all (eOk (mY m105) (mB m105))) = true := by decide +kernel
set_option maxRecDepth 100000 in
theorem ok106 : (mOk m106 && k106.all (eOk (mY m106) (mB m106))) = true := by decide +kernel
set_option maxRecDepth 100000 in
theorem ok107 : (mOk m107 && k107.all (eOk (mY m107) (mB m107))) = true := by decide +kernel
set_option maxRecDepth 100000 in
theorem ok108 : (mOk m108 && k108.all (eOk (mY m108) (mB m108))) = true := by decide +kernel
set_option maxRecDepth 100000 in
theorem ok109 : (mOk m109 && k109.all (eOk (mY m109) (mB m109))) = true := by decide +kernel
set_option maxRecDepth 100000 in
theorem ok110 : (mOk m110 && k110.all (eOk (mY m110) (mB m110))) = true := by decide +kernel
set_option maxRecDepth 100000 in
theorem ok111 : (mOk m111 && k111.all (eOk (mY m111) (mB m111))) = true := by decide +kernel
set_option maxRecDepth 100000 in
theorem ok112 : (mOk m112 && k112.all (eOk (mY m112) (mB m112))) = true := by decide +kernel
set_option maxRecDepth 100000 in
theorem ok113 : (mOk m113 && k113.all (eOk (mY m113) (mB m113))) = true := by decide +kernel
set_option maxRecDepth 100000 in
theorem ok114 : (mOk m114 && k114.all (eOk (mY m114) (mB m114))) = true := by decide +kernel
set_option maxRecDepth 100000 in
theorem ok115 : (mOk m115 && k115.all (eOk (mY m115) (mB m115))) = true := by decide +kernel
set_option maxRecDepth 100000 in
theorem ok116 : (mOk m116 && k116.all (eOk (mY m116) (mB m116))) = true := by decide +kernel
set_option maxRecDepth 100000 in
theorem ok117 : (mOk m117 && k117.all (eOk (mY m117) (mB m117))) = true := by decide +kernel
set_option maxRecDepth 100000 in
theorem ok118 : (mOk m118 && k118.all (eOk (mY m118) (mB m118))) = true := by decide +kernel
set_option maxRecDepth 100000 in
theorem ok119 : (mOk m119 && k119.all (eOk (mY m119) (mB m119))) = true := by decide +kernel
set_option maxRecDepth 100000 in
theorem ok120 : (mOk m120 && k120.all (eOk (mY m120) (mB m120))) = true := by decide +kernel
set_option maxRecDepth 100000 in
theorem ok121 : (mOk m121 && k121.all (eOk (mY m121) (mB m121))) = true := by decide +kernel
set_option maxRecDepth 100000 in
theorem ok123 : (mOk m123 && k123.all (eOk (mY m123) (mB m123))) = true := by decide +kernel
set_option maxRecDepth 100000 in
theorem ok124 : (mOk m124 && k124.all (eOk (mY m124) (mB m124))) = true := by decide +kernel
set_option maxRecDepth 100000 in
theorem ok125 : (mOk m125 && k125.all (eOk (mY m125) (mB m125))) = true := by decide +kernel
set_option maxRecDepth 100000 in
theorem ok126 : (mOk m126 && k126.all (eOk (mY m126) (mB m126))) = true := by decide +kernel
set_option maxRecDepth 100000 in
theorem ok127 : (mOk m127 && k127.all (eOk (mY m127) (mB m127))) = true := by decide +kernel
set_option maxRecDepth 100000 in
theorem ok128 : (mOk m128 && k128.all (eOk (mY m128) (mB m128))) = true := by decide +kernel
set_option maxRecDepth 100000 in
theorem ok129 : (mOk m129 && k129.all (eOk (mY m129) (mB m129))) = true := by decide +kernel
set_option maxRecDepth 100000 in
theorem ok130 : (mOk m130 && k130.all (eOk (mY m130) (mB m130))) = true := by decide +kernel
set_option maxRecDepth 100000 in
theorem ok131 : (mOk m131 && k131.all (eOk (mY m131) (mB m131))) = true := by decide +kernel
set_option maxRecDepth 100000 in
theorem ok132 : (mOk m132 && k132.all (eOk (mY m132) (mB m132))) = true := by decide +kernel
set_option maxRecDepth 100000 in
theorem ok133 : (mOk m133 && k133.all (eOk (mY m133) (mB m133))) = true := by decide +kernel
set_option maxRecDepth 100000 in
theorem ok134 : (mOk m134 && k134.all (eOk (mY m134) (mB m134))) = true := by decide +kernel
set_option maxRecDepth 100000 in
theorem ok135 : (mOk m135 && k135.all (eOk (mY m135) (mB m135))) = true := by decide +kernel
set_option maxRecDepth 100000 in
theorem ok136 : (mOk m136 && k136.all (eOk (mY m136) (mB m136))) = true := by decide +kernel
set_option maxRecDepth 100000 in
theorem ok137 : (mOk m137 && k137.all (eOk (mY m137) (mB m137))) = true := by decide +kernel
set_option maxRecDepth 100000 in
theorem ok138 : (mOk m138 && k138.all (eOk (mY m138) (mB m138))) = true := by decide +kernel
set_option maxRecDepth 100000 in
theorem ok139 : (mOk m139 && k139.all (eOk (mY m139) (mB m139))) = true := by decide +kernel
set_option maxRecDepth 100000 in
theorem ok141 : (mOk m141 && k141.all (eOk (mY m141) (mB m141))) = true := by decide +kernel
set_option maxRecDepth 100000 in
theorem ok142 : (mOk m142 && k142.all (eOk (mY m142) (mB m142))) = true := by decide +kernel
set_option maxRecDepth 100000 in
theorem ok143 : (mOk m143 && k143.all (eOk (mY m143) (mB m143))) = true := by decide +kernel
set_option maxRecDepth 100000 in
theorem ok144 : (mOk m144 && k144.all (eOk (mY m144) (mB m144))) = true := by decide +kernel
set_option maxRecDepth 100000 in
theorem ok145 : (mOk m145 && k145.all (eOk (mY m145) (mB m145))) = true := by decide +kernel
set_option maxRecDepth 100000 in
theorem ok146 : (mOk m146 && k146.all (eOk (mY m146) (mB m146))) = true := by decide +kernel
set_option maxRecDepth 100000 in
theorem ok147 : (mOk m147 && k147.all (eOk (mY m147) (mB m147))) = true := by decide +kernel
set_option maxRecDepth 100000 in
theorem ok148 : (mOk m148 && k148.all (eOk (mY m148) (mB m148))) = true := by decide +kernel
set_option maxRecDepth 100000 in
theorem ok149 : (mOk m149 && k149.all (eOk (mY m149) (mB m149))) = true := by decide +kernel
set_option maxRecDepth 100000 in
theorem ok150 : (mOk m150 && k150.all (eOk (mY m150) (mB m150))) = true := by decide +kernel
set_option maxRecDepth 100000 in
theorem ok151 : (mOk m151 && k151.all (eOk (mY m151) (mB m151))) = true := by decide +kernel
set_option maxRecDepth 100000 in
theorem ok152 : (mOk m152 && k152.all (eOk (mY m152) (mB m152))) = true := by decide +kernel
set_option maxRecDepth 100000 in
theorem ok153 : (mOk m153 && k153.all (eOk (mY m153) (mB m153))) = true := by decide +kernel
set_option maxRecDepth 100000 in
theorem ok154 : (mOk m154 && k154.all (eOk (mY m154) (mB m154))) = true := by decide +kernel
set_option maxRecDepth 100000 in
theorem ok155 : (mOk m155 && k155.all (eOk (mY m155) (mB m155))) = true := by decide +kernel
set_option maxRecDepth 100000 in
theorem ok156 : (mOk m156 && k156.all (eOk (mY m156) (mB m156))) = true := by decide +kernel
set_option maxRecDepth 100000 in
theorem ok158 : (mOk m158 && k158.all (eOk (mY m158) (mB m158))) = true := by decide +kernel
set_option maxRecDepth 100000 in
theorem ok159 : (mOk m159 && k159.all (eOk (mY m159) (mB m159))) = true := by decide +kernel
set_option maxRecDepth 100000 in
theorem ok160 : (mOk m160 && k160.all (eOk (mY m160) (mB m160))) = true := by decide +kernel
set_option maxRecDepth 100000 in
theorem ok161 : (mOk m161 && k161.all (eOk (mY m161) (mB m161))) = true := by decide +kernel
set_option maxRecDepth 100000 in
theorem ok162 : (mOk m162 && k162.all (eOk (mY m162) (mB m162))) = true := by decide +kernel
set_option maxRecDepth 100000 in
theorem ok163 : (mOk m163 && k163.all (eOk (mY m163) (mB m163))) = true := by decide +kernel
set_option maxRecDepth 100000 in
theorem ok164 : (mOk m164 && k164.all (eOk (mY m164) (mB m164))) = true := by decide +kernel
set_option maxRecDepth 100000 in
theorem ok165 : (mOk m165 && k165.all (eOk (mY m165) (mB m165))) = true := by decide +kernel
set_option maxRecDepth 100000 in
theorem ok166 : (mOk m166 && k166.all (eOk (mY m166) (mB m166))) = true := by decide +kernel
set_option maxRecDepth 100000 in
theorem ok168 : (mOk m168 && k168.all (eOk (mY m168) (mB m168))) = true := by decide +kernel
set_option maxRecDepth 100000 in
theorem ok169 : (mOk m169 && k169.all (eOk (mY m169) (mB m169))) = true := by decide +kernel
set_option maxRecDepth 100000 in
theorem ok170 : (mOk m170 && k170.all (eOk (mY m170) (mB m170))) = true := by decide +kernel
set_option maxRecDepth 100000 in
theorem ok171 : (mOk m171 && k171.all (eOk (mY m171) (mB m171))) = true := by decide +kernel
set_option maxRecDepth 100000 in
theorem ok172 : (mOk m172 && k172.all (eOk (mY m172) (mB m172))) = true := by decide +kernel
set_option maxRecDepth 100000 in
theorem ok173 : (mOk m173 && k173.all (eOk (mY m173) (mB m173))) = true := by decide +kernel
set_option maxRecDepth 100000 in
theorem ok174 : (mOk m174 && k174.all (eOk (mY m174) (mB m174))) = true := by decide +kernel
set_option maxRecDepth 100000 in
theorem ok175 : (mOk m175 && k175.all (eOk (mY m175) (mB m175))) = true := by decide +kernel
set_option maxRecDepth 100000 in
theorem ok176 : (mOk m176 && k176.all (eOk (mY m176) (mB m176))) = true := by decide +kernel
set_option maxRecDepth 100000 in
theorem ok177 : (mOk m177 && k177.all (eOk (mY m177) (mB m177))) = true := by decide +kernel
set_option maxRecDepth 100000 in
theorem ok178 : (mOk m178 && k178.all (eOk (mY m178) (mB m178))) = true := by decide +kernel
set_option maxRecDepth 100000 in
theorem ok179 : (mOk m179 && k179.all (eOk (mY m179) (mB m179))) = true := by decide +kernel
set_option maxRecDepth 100000 in
theorem ok180 : (mOk m180 && k180.all (eOk (mY m180) (mB m180))) = true := by decide +kernel
set_option maxRecDepth 100000 in
theorem ok181 : (mOk m181 && k181.all (eOk (mY m181) (mB m181))) = true := by decide +kernel
set_option maxRecDepth 100000 in
theorem ok182 : (mOk m182 && k182.all (eOk (mY m182) (mB m182))) = true := by decide +kernel
set_option maxRecDepth 100000 in
theorem ok183 : (mOk m183 && k183.all (eOk (mY m183) (mB m183))) = true := by decide +kernel
set_option maxRecDepth 100000 in
theorem ok184 : (mOk m184 && k184.all (eOk (mY m184) (mB m184))) = true := by decide +kernel
set_option maxRecDepth 100000 in
theorem ok185 : (mOk m185 && k185.all (eOk (mY m185) (mB m185))) = true := by decide +kernel
set_option maxRecDepth 100000 in
theorem ok186 : (mOk m186 && k186.all (eOk (mY m186) (mB m186))) = true := by decide +kernel
set_option maxRecDepth 100000 in
theorem ok187 : (mOk m187 && k187.all (eOk (mY m187) (mB m187))) = true := by decide +kernel
set_option maxRecDepth 100000 in
theorem ok188 : (mOk m188 && k188.all (eOk (mY m188) (mB m188))) = true := by decide +kernel
set_option maxRecDepth 100000 in
theorem ok189 : (mOk m189 && k189.all (eOk (mY m189) (mB m189))) = true := by decide +kernel
set_option maxRecDepth 100000 in
theorem ok190 : (mOk m190 && k190.all (eOk (mY m190) (mB m190))) = true := by decide +kernel
set_option maxRecDepth 100000 in
theorem ok191 : (mOk m191 && k191.all (eOk (mY m191) (mB m191))) = true := by decide +kernel
set_option maxRecDepth 100000 in
theorem ok192 : (mOk m192 && k192.all (eOk (mY m192) (mB m192))) = true := by decide +kernel
set_option maxRecDepth 100000 in
theorem ok193 : (mOk m193 && k193.all (eOk (mY m193) (mB m193))) = true := by decide +kernel
set_option maxRecDepth 100000 in
theorem ok194 : (mOk m194 && k194.all (eOk (mY m194) (mB m194))) = true := by decide +kernel
set_option maxRecDepth 100000 in
theorem ok195 : (mOk m195 && k195.all (eOk (mY m195) (mB m195))) = true := by decide +kernel
set_option maxRecDepth 100000 in
theorem ok196 : (mOk m196 && k196.all (eOk (mY m196) (mB m196))) = true := by decide +kernel
set_option maxRecDepth 100000 in
theorem ok197 : (mOk m197 && k197.all (eOk (mY m197) (mB m197))) = true := by decide +kernel
set_option maxRecDepth 100000 in
theorem ok198 : (mOk m198 && k198.all (eOk (mY m198) (mB m198))) = true := by decide +kernel
set_option maxRecDepth 100000 in
theorem ok199 : (mOk m199 && k199.all (eOk (mY m199) (mB m199))) = true := by decide +kernel
set_option maxRecDepth 100000 in
theorem ok200 : (mOk m200 && k200.all (eOk (mY m200) (mB m200))) = true := by decide +kernel
set_option maxRecDepth 100000 in
theorem ok201 : (mOk m201 && k201.all (eOk (mY m201) (mB m201))) = true := by decide +kernel
set_option maxRecDepth 100000 in
theorem ok202 : (mOk m202 && k202.all (eOk (mY m202) (mB m202))) = true := by decide +kernel
set_option maxRecDepth 100000 in
theorem ok203 : (mOk m203 && k203.all (eOk (mY m203) (mB m203))) = true := by decide +kernel
set_option maxRecDepth 100000 in
theorem ok204 : (mOk m204 && k204.all (eOk (mY m204) (mB m204))) = true := by decide +kernel
set_option maxRecDepth 100000 in
theorem ok205 : (mOk m205 && k205.all (eOk (mY m205) (mB m205))) = true := by decide +kernel
set_option maxRecDepth 100000 in
theorem ok206 : (mOk m206 && k206.all (eOk (mY m206) (mB m206))) = true := by decide +kernel
set_option maxRecDepth 100000 in
theorem ok207 : (mOk m207 && k207.all (eOk (mY m207) (mB m207))) = true := by decide +kernel
set_option maxRecDepth 100000 in
theorem ok208 : (mOk m208 && k208.all (eOk (mY m208) (mB m208))) = true := by decide +kernel
set_option maxRecDepth 100000 in
theorem ok209 : (mOk m209 && k209.all (eOk (mY m209) (mB m209))) = true := by decide +kernel
set_option maxRecDepth 100000 in
theorem ok210 : (mOk m210 && k210.all (eOk (mY m210) (mB m210))) = true := by decide +kernel
set_option maxRecDepth 100000 in
theorem ok211 : (mOk m211 && k211.all (eOk (mY m211) (mB m211))) = true := by decide +kernel
set_option maxRecDepth 100000 in
theorem ok212 : (mOk m212 && k212.all (eOk (mY m212) (mB m212))) = true := by decide +kernel
set_option maxRecDepth 100000 in
theorem ok213 : (mOk m213 && k213.all (eOk (mY m213) (mB m213))) = true := by decide +kernel
set_option maxRecDepth 100000 in
theorem ok214 : (mOk m214 && k214.all (eOk (mY m214) (mB m214))) = true := by decide +kernel
set_option maxRecDepth 100000 in
theorem ok215 : (mOk m215 && k215.all (eOk (mY m215) (mB m215))) = true := by decide +kernel
set_option maxRecDepth 100000 in
theorem ok216 : (mOk m216 && k216.all (eOk (mY m216) (mB m216))) = true := by decide +kernel
set_option maxRecDepth 100000 in
theorem ok217 : (mOk m217 && k217.all (eOk (mY m217) (mB m217))) = true := by decide +kernel
set_option maxRecDepth 100000 in
theorem ok220 : (mOk m220 && k220.all (eOk (mY m220) (mB m220))) = true := by decide +kernel
set_option maxRecDepth 100000 in
theorem ok221 : (mOk m221 && k221.all (eOk (mY m221) (mB m221))) = true := by decide +kernel
set_option maxRecDepth 100000 in
theorem ok222 : (mOk m222 && k222.all (eOk (mY m222) (mB m222))) = true := by decide +kernel
set_option maxRecDepth 100000 in
theorem ok223 : (mOk m223 && k223.all (eOk (mY m223) (mB m223))) = true := by decide +kernel
set_option maxRecDepth 100000 in
theorem ok224 : (mOk m224 && k224.all (eOk (mY m224) (mB m224))) = true := by decide +kernel
set_option maxRecDepth 100000 in
theorem ok225 : (mOk m225 && k225.all (eOk (mY m225) (mB m225))) = true := by decide +kernel
set_option maxRecDepth 100000 in
theorem ok226 : (mOk m226 && k226.all (eOk (mY m226) (mB m226))) = true := by decide +kernel
set_option maxRecDepth 100000 in
theorem ok227 : (mOk m227 && k227.all (eOk (mY m227) (mB m227))) = true := by decide +kernel
set_option maxRecDepth 100000 in
theorem ok228 : (mOk m228 && k228.all (eOk (mY m228) (mB m228))) = true := by decide +kernel
set_option maxRecDepth 100000 in
theorem ok229 : (mOk m229 && k229.all (eOk (mY m229) (mB m229))) = true := by decide +kernel
set_option maxRecDepth 100000 in
theorem ok230 : (mOk m230 && k230.all (eOk (mY m230) (mB m230))) = true := by decide +kernel
set_option maxRecDepth 100000 in
theorem ok231 : (mOk m231 && k231.all (eOk (mY m231) (mB m231))) = true := by decide +kernel
set_option maxRecDepth 100000 in
theorem ok232 : (mOk m232 && k232.all (eOk (mY m232) (mB m232))) = true := by decide +kernel
set_option maxRecDepth 100000 in
theorem ok233 : (mOk m233 && k233.all (eOk (mY m233) (mB m233))) = true := by decide +kernel
set_option maxRecDepth 100000 in
theorem ok234 : (mOk m234 && k234.all (eOk (mY m234) (mB m234))) = true := by decide +kernel
set_option maxRecDepth 100000 in
theorem ok235 : (mOk m235 && k235.all (eOk (mY m235) (mB m235))) = true := by decide +kernel
