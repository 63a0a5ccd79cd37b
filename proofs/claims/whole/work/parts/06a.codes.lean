set_option maxRecDepth 100000 in
theorem jx_y0 : tables_1[32]? = some (.code jx_m0.1 jx_m0.2.1 jx_m0.2.2.1 jx_m0.2.2.2.1) := rfl
set_option maxRecDepth 100000 in
theorem jx_y1 : tables_1[616]? = some (.code jx_m1.1 jx_m1.2.1 jx_m1.2.2.1 jx_m1.2.2.2.1) := rfl
set_option maxRecDepth 100000 in
theorem jx_y2 : tables_1[620]? = some (.code jx_m2.1 jx_m2.2.1 jx_m2.2.2.1 jx_m2.2.2.2.1) := rfl
set_option maxRecDepth 100000 in
theorem jx_y3 : tables_1[645]? = some (.code jx_m3.1 jx_m3.2.1 jx_m3.2.2.1 jx_m3.2.2.2.1) := rfl
set_option maxRecDepth 100000 in
theorem jx_y4 : tables_1[649]? = some (.code jx_m4.1 jx_m4.2.1 jx_m4.2.2.1 jx_m4.2.2.2.1) := rfl
set_option maxRecDepth 100000 in
theorem jx_y5 : tables_1[666]? = some (.code jx_m5.1 jx_m5.2.1 jx_m5.2.2.1 jx_m5.2.2.2.1) := rfl
set_option maxRecDepth 100000 in
theorem jx_y6 : tables_1[677]? = some (.code jx_m6.1 jx_m6.2.1 jx_m6.2.2.1 jx_m6.2.2.2.1) := rfl
set_option maxRecDepth 100000 in
theorem jx_y7 : tables_1[685]? = some (.code jx_m7.1 jx_m7.2.1 jx_m7.2.2.1 jx_m7.2.2.2.1) := rfl
set_option maxRecDepth 100000 in
theorem jx_y8 : tables_1[689]? = some (.code jx_m8.1 jx_m8.2.1 jx_m8.2.2.1 jx_m8.2.2.2.1) := rfl
set_option maxRecDepth 100000 in
theorem jx_y9 : tables_1[941]? = some (.code jx_m9.1 jx_m9.2.1 jx_m9.2.2.1 jx_m9.2.2.2.1) := rfl
set_option maxRecDepth 100000 in
theorem jx_y10 : tables_1[952]? = some (.code jx_m10.1 jx_m10.2.1 jx_m10.2.2.1 jx_m10.2.2.2.1) := rfl
set_option maxRecDepth 100000 in
theorem jx_y11 : tables_1[957]? = some (.code jx_m11.1 jx_m11.2.1 jx_m11.2.2.1 jx_m11.2.2.2.1) := rfl
set_option maxRecDepth 100000 in
theorem jx_y12 : tables_1[961]? = some (.code jx_m12.1 jx_m12.2.1 jx_m12.2.2.1 jx_m12.2.2.2.1) := rfl
set_option maxRecDepth 100000 in
theorem jx_y13 : tables_1[140]? = some (.code jx_m13.1 jx_m13.2.1 jx_m13.2.2.1 jx_m13.2.2.2.1) := rfl
set_option maxRecDepth 100000 in
theorem jx_y14 : tables_1[907]? = some (.code jx_m14.1 jx_m14.2.1 jx_m14.2.2.1 jx_m14.2.2.2.1) := rfl
set_option maxRecDepth 100000 in
theorem jx_y15 : tables_1[915]? = some (.code jx_m15.1 jx_m15.2.1 jx_m15.2.2.1 jx_m15.2.2.2.1) := rfl
set_option maxRecDepth 100000 in
theorem jx_y16 : tables_1[919]? = some (.code jx_m16.1 jx_m16.2.1 jx_m16.2.2.1 jx_m16.2.2.2.1) := rfl
set_option maxRecDepth 100000 in
theorem jx_y17 : tables_1[927]? = some (.code jx_m17.1 jx_m17.2.1 jx_m17.2.2.1 jx_m17.2.2.2.1) := rfl
set_option maxRecDepth 100000 in
theorem jx_y18 : tables_1[82]? = some (.code jx_m18.1 jx_m18.2.1 jx_m18.2.2.1 jx_m18.2.2.2.1) := rfl
set_option maxRecDepth 100000 in
theorem jx_y19 : tables_1[727]? = some (.code jx_m19.1 jx_m19.2.1 jx_m19.2.2.1 jx_m19.2.2.2.1) := rfl
set_option maxRecDepth 100000 in
theorem jx_y20 : tables_1[734]? = some (.code jx_m20.1 jx_m20.2.1 jx_m20.2.2.1 jx_m20.2.2.2.1) := rfl
set_option maxRecDepth 100000 in
theorem jx_y21 : tables_1[756]? = some (.code jx_m21.1 jx_m21.2.1 jx_m21.2.2.1 jx_m21.2.2.2.1) := rfl
set_option maxRecDepth 100000 in
theorem jx_y22 : tables_1[760]? = some (.code jx_m22.1 jx_m22.2.1 jx_m22.2.2.1 jx_m22.2.2.2.1) := rfl
set_option maxRecDepth 100000 in
theorem jx_y23 : tables_1[787]? = some (.code jx_m23.1 jx_m23.2.1 jx_m23.2.2.1 jx_m23.2.2.2.1) := rfl
set_option maxRecDepth 100000 in
theorem jx_y24 : tables_1[38]? = some (.code jx_m24.1 jx_m24.2.1 jx_m24.2.2.1 jx_m24.2.2.2.1) := rfl
set_option maxRecDepth 100000 in
theorem jx_y25 : tables_1[629]? = some (.code jx_m25.1 jx_m25.2.1 jx_m25.2.2.1 jx_m25.2.2.2.1) := rfl
set_option maxRecDepth 100000 in
theorem jx_y26 : tables_1[637]? = some (.code jx_m26.1 jx_m26.2.1 jx_m26.2.2.1 jx_m26.2.2.2.1) := rfl
set_option maxRecDepth 100000 in
theorem jx_y27 : tables_1[641]? = some (.code jx_m27.1 jx_m27.2.1 jx_m27.2.2.1 jx_m27.2.2.2.1) := rfl
set_option maxRecDepth 100000 in
theorem jx_y28 : tables_1[662]? = some (.code jx_m28.1 jx_m28.2.1 jx_m28.2.2.1 jx_m28.2.2.2.1) := rfl
set_option maxRecDepth 100000 in
theorem jx_y29 : tables_1[699]? = some (.code jx_m29.1 jx_m29.2.1 jx_m29.2.2.1 jx_m29.2.2.2.1) := rfl
set_option maxRecDepth 100000 in
theorem jx_y30 : tables_1[240]? = some (.code jx_m30.1 jx_m30.2.1 jx_m30.2.2.1 jx_m30.2.2.2.1) := rfl
set_option maxRecDepth 100000 in
theorem jx_y31 : tables_1[546]? = some (.code jx_m31.1 jx_m31.2.1 jx_m31.2.2.1 jx_m31.2.2.2.1) := rfl
set_option maxRecDepth 100000 in
theorem jx_y32 : tables_1[550]? = some (.code jx_m32.1 jx_m32.2.1 jx_m32.2.2.1 jx_m32.2.2.2.1) := rfl
set_option maxRecDepth 100000 in
theorem jx_y33 : tables_1[169]? = some (.code jx_m33.1 jx_m33.2.1 jx_m33.2.2.1 jx_m33.2.2.2.1) := rfl
set_option maxRecDepth 100000 in
theorem jx_y34 : tables_1[813]? = some (.code jx_m34.1 jx_m34.2.1 jx_m34.2.2.1 jx_m34.2.2.2.1) := rfl
set_option maxRecDepth 100000 in
theorem jx_y35 : tables_1[817]? = some (.code jx_m35.1 jx_m35.2.1 jx_m35.2.2.1 jx_m35.2.2.2.1) := rfl
set_option maxRecDepth 100000 in
theorem jx_y36 : tables_1[839]? = some (.code jx_m36.1 jx_m36.2.1 jx_m36.2.2.1 jx_m36.2.2.2.1) := rfl
set_option maxRecDepth 100000 in
theorem jx_y37 : tables_1[843]? = some (.code jx_m37.1 jx_m37.2.1 jx_m37.2.2.1 jx_m37.2.2.2.1) := rfl
set_option maxRecDepth 100000 in
theorem jx_y38 : tables_1[847]? = some (.code jx_m38.1 jx_m38.2.1 jx_m38.2.2.1 jx_m38.2.2.2.1) := rfl
set_option maxRecDepth 100000 in
theorem jx_y39 : tables_1[859]? = some (.code jx_m39.1 jx_m39.2.1 jx_m39.2.2.1 jx_m39.2.2.2.1) := rfl
set_option maxRecDepth 100000 in
theorem jx_y40 : tables_1[864]? = some (.code jx_m40.1 jx_m40.2.1 jx_m40.2.2.1 jx_m40.2.2.2.1) := rfl
set_option maxRecDepth 100000 in
theorem jx_y41 : tables_1[869]? = some (.code jx_m41.1 jx_m41.2.1 jx_m41.2.2.1 jx_m41.2.2.2.1) := rfl
set_option maxRecDepth 100000 in
theorem jx_y42 : tables_1[873]? = some (.code jx_m42.1 jx_m42.2.1 jx_m42.2.2.1 jx_m42.2.2.2.1) := rfl
set_option maxRecDepth 100000 in
theorem jx_y43 : tables_1[877]? = some (.code jx_m43.1 jx_m43.2.1 jx_m43.2.2.1 jx_m43.2.2.2.1) := rfl
set_option maxRecDepth 100000 in
theorem jx_y44 : tables_1[881]? = some (.code jx_m44.1 jx_m44.2.1 jx_m44.2.2.1 jx_m44.2.2.2.1) := rfl
set_option maxRecDepth 100000 in
theorem jx_y45 : tables_1[885]? = some (.code jx_m45.1 jx_m45.2.1 jx_m45.2.2.1 jx_m45.2.2.2.1) := rfl
set_option maxRecDepth 100000 in
theorem jx_y46 : tables_1[890]? = some (.code jx_m46.1 jx_m46.2.1 jx_m46.2.2.1 jx_m46.2.2.2.1) := rfl
set_option maxRecDepth 100000 in
theorem jx_y47 : tables_1[894]? = some (.code jx_m47.1 jx_m47.2.1 jx_m47.2.2.1 jx_m47.2.2.2.1) := rfl
set_option maxRecDepth 100000 in
theorem jx_y48 : tables_1[898]? = some (.code jx_m48.1 jx_m48.2.1 jx_m48.2.2.1 jx_m48.2.2.2.1) := rfl
set_option maxRecDepth 100000 in
theorem jx_y49 : tables_1[88]? = some (.code jx_m49.1 jx_m49.2.1 jx_m49.2.2.1 jx_m49.2.2.2.1) := rfl
set_option maxRecDepth 100000 in
theorem jx_y50 : tables_1[739]? = some (.code jx_m50.1 jx_m50.2.1 jx_m50.2.2.1 jx_m50.2.2.2.1) := rfl
set_option maxRecDepth 100000 in
theorem jx_y51 : tables_1[747]? = some (.code jx_m51.1 jx_m51.2.1 jx_m51.2.2.1 jx_m51.2.2.2.1) := rfl
set_option maxRecDepth 100000 in
theorem jx_y52 : tables_1[764]? = some (.code jx_m52.1 jx_m52.2.1 jx_m52.2.2.1 jx_m52.2.2.2.1) := rfl
set_option maxRecDepth 100000 in
theorem jx_y53 : tables_1[768]? = some (.code jx_m53.1 jx_m53.2.1 jx_m53.2.2.1 jx_m53.2.2.2.1) := rfl
set_option maxRecDepth 100000 in
theorem jx_y54 : tables_1[776]? = some (.code jx_m54.1 jx_m54.2.1 jx_m54.2.2.1 jx_m54.2.2.2.1) := rfl
set_option maxRecDepth 100000 in
theorem jx_y55 : tables_1[782]? = some (.code jx_m55.1 jx_m55.2.1 jx_m55.2.2.1 jx_m55.2.2.2.1) := rfl
set_option maxRecDepth 100000 in
theorem jx_y56 : tables_1[161]? = some (.code jx_m56.1 jx_m56.2.1 jx_m56.2.2.1 jx_m56.2.2.2.1) := rfl
set_option maxRecDepth 100000 in
theorem jx_y57 : tables_1[805]? = some (.code jx_m57.1 jx_m57.2.1 jx_m57.2.2.1 jx_m57.2.2.2.1) := rfl
set_option maxRecDepth 100000 in
theorem jx_y58 : tables_1[809]? = some (.code jx_m58.1 jx_m58.2.1 jx_m58.2.2.1 jx_m58.2.2.2.1) := rfl
set_option maxRecDepth 100000 in
theorem jx_y59 : tables_1[823]? = some (.code jx_m59.1 jx_m59.2.1 jx_m59.2.2.1 jx_m59.2.2.2.1) := rfl
set_option maxRecDepth 100000 in
theorem jx_y60 : tables_1[827]? = some (.code jx_m60.1 jx_m60.2.1 jx_m60.2.2.1 jx_m60.2.2.2.1) := rfl
set_option maxRecDepth 100000 in
theorem jx_y61 : tables_1[834]? = some (.code jx_m61.1 jx_m61.2.1 jx_m61.2.2.1 jx_m61.2.2.2.1) := rfl
set_option maxRecDepth 100000 in
theorem jx_y62 : tables_1[851]? = some (.code jx_m62.1 jx_m62.2.1 jx_m62.2.2.1 jx_m62.2.2.2.1) := rfl
set_option maxRecDepth 100000 in
theorem jx_y63 : tables_1[349]? = some (.code jx_m63.1 jx_m63.2.1 jx_m63.2.2.1 jx_m63.2.2.2.1) := rfl
set_option maxRecDepth 100000 in
theorem jx_y64 : tables_1[382]? = some (.code jx_m64.1 jx_m64.2.1 jx_m64.2.2.1 jx_m64.2.2.2.1) := rfl
set_option maxRecDepth 100000 in
theorem jx_y65 : tables_1[391]? = some (.code jx_m65.1 jx_m65.2.1 jx_m65.2.2.1 jx_m65.2.2.2.1) := rfl
set_option maxRecDepth 100000 in
theorem jx_y66 : tables_1[405]? = some (.code jx_m66.1 jx_m66.2.1 jx_m66.2.2.1 jx_m66.2.2.2.1) := rfl
set_option maxRecDepth 100000 in
theorem jx_y67 : tables_1[498]? = some (.code jx_m67.1 jx_m67.2.1 jx_m67.2.2.1 jx_m67.2.2.2.1) := rfl
set_option maxRecDepth 100000 in
theorem jx_y68 : tables_1[504]? = some (.code jx_m68.1 jx_m68.2.1 jx_m68.2.2.1 jx_m68.2.2.2.1) := rfl
set_option maxRecDepth 100000 in
theorem jx_y69 : tables_1[234]? = some (.code jx_m69.1 jx_m69.2.1 jx_m69.2.2.1 jx_m69.2.2.2.1) := rfl
set_option maxRecDepth 100000 in
theorem jx_y70 : tables_1[268]? = some (.code jx_m70.1 jx_m70.2.1 jx_m70.2.2.1 jx_m70.2.2.2.1) := rfl
set_option maxRecDepth 100000 in
theorem jx_y71 : tables_1[363]? = some (.code jx_m71.1 jx_m71.2.1 jx_m71.2.2.1 jx_m71.2.2.2.1) := rfl
set_option maxRecDepth 100000 in
theorem jx_y72 : tables_1[480]? = some (.code jx_m72.1 jx_m72.2.1 jx_m72.2.2.1 jx_m72.2.2.2.1) := rfl
set_option maxRecDepth 100000 in
theorem jx_y73 : tables_1[519]? = some (.code jx_m73.1 jx_m73.2.1 jx_m73.2.2.1 jx_m73.2.2.2.1) := rfl
set_option maxRecDepth 100000 in
theorem jx_y74 : tables_1[527]? = some (.code jx_m74.1 jx_m74.2.1 jx_m74.2.2.1 jx_m74.2.2.2.1) := rfl
set_option maxRecDepth 100000 in
theorem jx_y75 : tables_1[531]? = some (.code jx_m75.1 jx_m75.2.1 jx_m75.2.2.1 jx_m75.2.2.2.1) := rfl
set_option maxRecDepth 100000 in
theorem jx_y76 : tables_1[564]? = some (.code jx_m76.1 jx_m76.2.1 jx_m76.2.2.1 jx_m76.2.2.2.1) := rfl
set_option maxRecDepth 100000 in
theorem jx_y77 : tables_1[599]? = some (.code jx_m77.1 jx_m77.2.1 jx_m77.2.2.1 jx_m77.2.2.2.1) := rfl
set_option maxRecDepth 100000 in
theorem jx_y78 : tables_1[855]? = some (.code jx_m78.1 jx_m78.2.1 jx_m78.2.2.1 jx_m78.2.2.2.1) := rfl
set_option maxRecDepth 100000 in
theorem jx_y79 : tables_1[424]? = some (.code jx_m79.1 jx_m79.2.1 jx_m79.2.2.1 jx_m79.2.2.2.1) := rfl
set_option maxRecDepth 100000 in
theorem jx_y80 : tables_1[542]? = some (.code jx_m80.1 jx_m80.2.1 jx_m80.2.2.1 jx_m80.2.2.2.1) := rfl
set_option maxRecDepth 100000 in
theorem jx_y81 : tables_1[624]? = some (.code jx_m81.1 jx_m81.2.1 jx_m81.2.2.1 jx_m81.2.2.2.1) := rfl
set_option maxRecDepth 100000 in
theorem jx_y82 : tables_1[633]? = some (.code jx_m82.1 jx_m82.2.1 jx_m82.2.2.1 jx_m82.2.2.2.1) := rfl
set_option maxRecDepth 100000 in
theorem jx_y83 : tables_1[653]? = some (.code jx_m83.1 jx_m83.2.1 jx_m83.2.2.1 jx_m83.2.2.2.1) := rfl
set_option maxRecDepth 100000 in
theorem jx_y84 : tables_1[658]? = some (.code jx_m84.1 jx_m84.2.1 jx_m84.2.2.1 jx_m84.2.2.2.1) := rfl
set_option maxRecDepth 100000 in
theorem jx_y85 : tables_1[716]? = some (.code jx_m85.1 jx_m85.2.1 jx_m85.2.2.1 jx_m85.2.2.2.1) := rfl
set_option maxRecDepth 100000 in
theorem jx_y86 : tables_1[743]? = some (.code jx_m86.1 jx_m86.2.1 jx_m86.2.2.1 jx_m86.2.2.2.1) := rfl
set_option maxRecDepth 100000 in
theorem jx_y87 : tables_1[751]? = some (.code jx_m87.1 jx_m87.2.1 jx_m87.2.2.1 jx_m87.2.2.2.1) := rfl
set_option maxRecDepth 100000 in
theorem jx_y88 : tables_1[22]? = some (.code jx_m88.1 jx_m88.2.1 jx_m88.2.2.1 jx_m88.2.2.2.1) := rfl
set_option maxRecDepth 100000 in
theorem jx_y89 : tables_1[337]? = some (.code jx_m89.1 jx_m89.2.1 jx_m89.2.2.1 jx_m89.2.2.2.1) := rfl
set_option maxRecDepth 100000 in
theorem jx_y90 : tables_1[340]? = some (.code jx_m90.1 jx_m90.2.1 jx_m90.2.2.1 jx_m90.2.2.2.1) := rfl
set_option maxRecDepth 100000 in
theorem jx_y91 : tables_1[344]? = some (.code jx_m91.1 jx_m91.2.1 jx_m91.2.2.1 jx_m91.2.2.2.1) := rfl
set_option maxRecDepth 100000 in
theorem jx_y92 : tables_1[374]? = some (.code jx_m92.1 jx_m92.2.1 jx_m92.2.2.1 jx_m92.2.2.2.1) := rfl
set_option maxRecDepth 100000 in
theorem jx_y93 : tables_1[378]? = some (.code jx_m93.1 jx_m93.2.1 jx_m93.2.2.1 jx_m93.2.2.2.1) := rfl
set_option maxRecDepth 100000 in
theorem jx_y94 : tables_1[397]? = some (.code jx_m94.1 jx_m94.2.1 jx_m94.2.2.1 jx_m94.2.2.2.1) := rfl
set_option maxRecDepth 100000 in
theorem jx_y95 : tables_1[401]? = some (.code jx_m95.1 jx_m95.2.1 jx_m95.2.2.1 jx_m95.2.2.2.1) := rfl
set_option maxRecDepth 100000 in
theorem jx_y96 : tables_1[409]? = some (.code jx_m96.1 jx_m96.2.1 jx_m96.2.2.1 jx_m96.2.2.2.1) := rfl
set_option maxRecDepth 100000 in
theorem jx_y97 : tables_1[413]? = some (.code jx_m97.1 jx_m97.2.1 jx_m97.2.2.1 jx_m97.2.2.2.1) := rfl
set_option maxRecDepth 100000 in
theorem jx_y98 : tables_1[416]? = some (.code jx_m98.1 jx_m98.2.1 jx_m98.2.2.1 jx_m98.2.2.2.1) := rfl
set_option maxRecDepth 100000 in
theorem jx_y99 : tables_1[476]? = some (.code jx_m99.1 jx_m99.2.1 jx_m99.2.2.1 jx_m99.2.2.2.1) := rfl
set_option maxRecDepth 100000 in
theorem jx_y100 : tables_1[489]? = some (.code jx_m100.1 jx_m100.2.1 jx_m100.2.2.1 jx_m100.2.2.2.1) := rfl
set_option maxRecDepth 100000 in
theorem jx_y101 : tables_1[494]? = some (.code jx_m101.1 jx_m101.2.1 jx_m101.2.2.1 jx_m101.2.2.2.1) := rfl
set_option maxRecDepth 100000 in
theorem jx_y102 : tables_1[511]? = some (.code jx_m102.1 jx_m102.2.1 jx_m102.2.2.1 jx_m102.2.2.2.1) := rfl
set_option maxRecDepth 100000 in
theorem jx_y103 : tables_1[515]? = some (.code jx_m103.1 jx_m103.2.1 jx_m103.2.2.1 jx_m103.2.2.2.1) := rfl
set_option maxRecDepth 100000 in
theorem jx_y104 : tables_1[523]? = some (.code jx_m104.1 jx_m104.2.1 jx_m104.2.2.1 jx_m104.2.2.2.1) := rfl
set_option maxRecDepth 100000 in
theorem jx_y105 : tables_1[537]? = some (.code jx_m105.1 jx_m105.2.1 jx_m105.2.2.1 jx_m105.2.2.2.1) := rfl
set_option maxRecDepth 100000 in
theorem jx_y106 : tables_1[573]? = some (.code jx_m106.1 jx_m106.2.1 jx_m106.2.2.1 jx_m106.2.2.2.1) := rfl
set_option maxRecDepth 100000 in
theorem jx_y107 : tables_1[579]? = some (.code jx_m107.1 jx_m107.2.1 jx_m107.2.2.1 jx_m107.2.2.2.1) := rfl
set_option maxRecDepth 100000 in
theorem jx_y108 : tables_1[583]? = some (.code jx_m108.1 jx_m108.2.1 jx_m108.2.2.1 jx_m108.2.2.2.1) := rfl
set_option maxRecDepth 100000 in
theorem jx_y109 : tables_1[587]? = some (.code jx_m109.1 jx_m109.2.1 jx_m109.2.2.1 jx_m109.2.2.2.1) := rfl
set_option maxRecDepth 100000 in
theorem jx_y110 : tables_1[591]? = some (.code jx_m110.1 jx_m110.2.1 jx_m110.2.2.1 jx_m110.2.2.2.1) := rfl
set_option maxRecDepth 100000 in
theorem jx_y111 : tables_1[595]? = some (.code jx_m111.1 jx_m111.2.1 jx_m111.2.2.1 jx_m111.2.2.2.1) := rfl
set_option maxRecDepth 100000 in
theorem jx_y112 : tables_1[609]? = some (.code jx_m112.1 jx_m112.2.1 jx_m112.2.2.1 jx_m112.2.2.2.1) := rfl
set_option maxRecDepth 100000 in
theorem jx_y113 : tables_1[612]? = some (.code jx_m113.1 jx_m113.2.1 jx_m113.2.2.1 jx_m113.2.2.2.1) := rfl
set_option maxRecDepth 100000 in
theorem jx_y114 : tables_1[673]? = some (.code jx_m114.1 jx_m114.2.1 jx_m114.2.2.1 jx_m114.2.2.2.1) := rfl
set_option maxRecDepth 100000 in
theorem jx_y115 : tables_1[681]? = some (.code jx_m115.1 jx_m115.2.1 jx_m115.2.2.1 jx_m115.2.2.2.1) := rfl
set_option maxRecDepth 100000 in
theorem jx_y116 : tables_1[694]? = some (.code jx_m116.1 jx_m116.2.1 jx_m116.2.2.1 jx_m116.2.2.2.1) := rfl
set_option maxRecDepth 100000 in
theorem jx_y117 : tables_1[703]? = some (.code jx_m117.1 jx_m117.2.1 jx_m117.2.2.1 jx_m117.2.2.2.1) := rfl
set_option maxRecDepth 100000 in
theorem jx_y118 : tables_1[707]? = some (.code jx_m118.1 jx_m118.2.1 jx_m118.2.2.1 jx_m118.2.2.2.1) := rfl
set_option maxRecDepth 100000 in
theorem jx_y119 : tables_1[711]? = some (.code jx_m119.1 jx_m119.2.1 jx_m119.2.2.1 jx_m119.2.2.2.1) := rfl
set_option maxRecDepth 100000 in
theorem jx_y120 : tables_1[723]? = some (.code jx_m120.1 jx_m120.2.1 jx_m120.2.2.1 jx_m120.2.2.2.1) := rfl
set_option maxRecDepth 100000 in
theorem jx_y121 : tables_1[792]? = some (.code jx_m121.1 jx_m121.2.1 jx_m121.2.2.1 jx_m121.2.2.2.1) := rfl
set_option maxRecDepth 100000 in
theorem jx_y122 : tables_1[796]? = some (.code jx_m122.1 jx_m122.2.1 jx_m122.2.2.1 jx_m122.2.2.2.1) := rfl
set_option maxRecDepth 100000 in
theorem jx_y123 : tables_1[800]? = some (.code jx_m123.1 jx_m123.2.1 jx_m123.2.2.1 jx_m123.2.2.2.1) := rfl
set_option maxRecDepth 100000 in
theorem jx_y124 : tables_1[903]? = some (.code jx_m124.1 jx_m124.2.1 jx_m124.2.2.1 jx_m124.2.2.2.1) := rfl
set_option maxRecDepth 100000 in
theorem jx_y125 : tables_1[911]? = some (.code jx_m125.1 jx_m125.2.1 jx_m125.2.2.1 jx_m125.2.2.2.1) := rfl
set_option maxRecDepth 100000 in
theorem jx_y126 : tables_1[932]? = some (.code jx_m126.1 jx_m126.2.1 jx_m126.2.2.1 jx_m126.2.2.2.1) := rfl
set_option maxRecDepth 100000 in
theorem jx_y127 : tables_1[935]? = some (.code jx_m127.1 jx_m127.2.1 jx_m127.2.2.1 jx_m127.2.2.2.1) := rfl
set_option maxRecDepth 100000 in
theorem jx_y128 : tables_1[948]? = some (.code jx_m128.1 jx_m128.2.1 jx_m128.2.2.1 jx_m128.2.2.2.1) := rfl
set_option maxRecDepth 100000 in
theorem jx_y129 : tables_1[967]? = some (.code jx_m129.1 jx_m129.2.1 jx_m129.2.2.1 jx_m129.2.2.2.1) := rfl
set_option maxRecDepth 100000 in
theorem jx_y130 : tables_1[975]? = some (.code jx_m130.1 jx_m130.2.1 jx_m130.2.2.1 jx_m130.2.2.2.1) := rfl
set_option maxRecDepth 100000 in
theorem jx_y131 : tables_1[1100]? = some (.code jx_m131.1 jx_m131.2.1 jx_m131.2.2.1 jx_m131.2.2.2.1) := rfl
set_option maxRecDepth 100000 in
theorem jx_y132 : tables_1[1104]? = some (.code jx_m132.1 jx_m132.2.1 jx_m132.2.2.1 jx_m132.2.2.2.1) := rfl
set_option maxRecDepth 100000 in
theorem jx_y133 : tables_1[1108]? = some (.code jx_m133.1 jx_m133.2.1 jx_m133.2.2.1 jx_m133.2.2.2.1) := rfl
set_option maxRecDepth 100000 in
theorem jx_y134 : tables_1[1112]? = some (.code jx_m134.1 jx_m134.2.1 jx_m134.2.2.1 jx_m134.2.2.2.1) := rfl
set_option maxRecDepth 100000 in
theorem jx_y135 : tables_1[1116]? = some (.code jx_m135.1 jx_m135.2.1 jx_m135.2.2.1 jx_m135.2.2.2.1) := rfl
set_option maxRecDepth 100000 in
theorem jx_y136 : tables_1[1120]? = some (.code jx_m136.1 jx_m136.2.1 jx_m136.2.2.1 jx_m136.2.2.2.1) := rfl
set_option maxRecDepth 100000 in
theorem jx_y137 : tables_1[1126]? = some (.code jx_m137.1 jx_m137.2.1 jx_m137.2.2.1 jx_m137.2.2.2.1) := rfl
set_option maxRecDepth 100000 in
theorem jx_y138 : tables_1[1130]? = some (.code jx_m138.1 jx_m138.2.1 jx_m138.2.2.1 jx_m138.2.2.2.1) := rfl
set_option maxRecDepth 100000 in
theorem jx_y139 : tables_1[1135]? = some (.code jx_m139.1 jx_m139.2.1 jx_m139.2.2.1 jx_m139.2.2.2.1) := rfl
set_option maxRecDepth 100000 in
theorem jx_y140 : tables_1[1139]? = some (.code jx_m140.1 jx_m140.2.1 jx_m140.2.2.1 jx_m140.2.2.2.1) := rfl
set_option maxRecDepth 100000 in
theorem jx_y141 : tables_1[1143]? = some (.code jx_m141.1 jx_m141.2.1 jx_m141.2.2.1 jx_m141.2.2.2.1) := rfl
set_option maxRecDepth 100000 in
theorem jx_y142 : tables_1[1147]? = some (.code jx_m142.1 jx_m142.2.1 jx_m142.2.2.1 jx_m142.2.2.2.1) := rfl
set_option maxRecDepth 100000 in
theorem jx_y143 : tables_1[1151]? = some (.code jx_m143.1 jx_m143.2.1 jx_m143.2.2.1 jx_m143.2.2.2.1) := rfl
set_option maxRecDepth 100000 in
theorem jx_y144 : tables_1[1155]? = some (.code jx_m144.1 jx_m144.2.1 jx_m144.2.2.1 jx_m144.2.2.2.1) := rfl
set_option maxRecDepth 100000 in
theorem jx_y145 : tables_1[1161]? = some (.code jx_m145.1 jx_m145.2.1 jx_m145.2.2.1 jx_m145.2.2.2.1) := rfl
set_option maxRecDepth 100000 in
theorem jx_y146 : tables_1[1165]? = some (.code jx_m146.1 jx_m146.2.1 jx_m146.2.2.1 jx_m146.2.2.2.1) := rfl
set_option maxRecDepth 100000 in
theorem jx_y147 : tables_1[1169]? = some (.code jx_m147.1 jx_m147.2.1 jx_m147.2.2.1 jx_m147.2.2.2.1) := rfl
set_option maxRecDepth 100000 in
theorem jx_y148 : tables_1[1174]? = some (.code jx_m148.1 jx_m148.2.1 jx_m148.2.2.1 jx_m148.2.2.2.1) := rfl
set_option maxRecDepth 100000 in
theorem jx_y149 : tables_1[1181]? = some (.code jx_m149.1 jx_m149.2.1 jx_m149.2.2.1 jx_m149.2.2.2.1) := rfl
set_option maxRecDepth 100000 in
theorem jx_y150 : tables_1[1185]? = some (.code jx_m150.1 jx_m150.2.1 jx_m150.2.2.1 jx_m150.2.2.2.1) := rfl
set_option maxRecDepth 100000 in
theorem jx_y151 : tables_1[1190]? = some (.code jx_m151.1 jx_m151.2.1 jx_m151.2.2.1 jx_m151.2.2.2.1) := rfl
set_option maxRecDepth 100000 in
theorem jx_y152 : tables_1[1194]? = some (.code jx_m152.1 jx_m152.2.1 jx_m152.2.2.1 jx_m152.2.2.2.1) := rfl
set_option maxRecDepth 100000 in
theorem jx_y153 : tables_1[1198]? = some (.code jx_m153.1 jx_m153.2.1 jx_m153.2.2.1 jx_m153.2.2.2.1) := rfl
set_option maxRecDepth 100000 in
theorem jx_y154 : tables_1[1202]? = some (.code jx_m154.1 jx_m154.2.1 jx_m154.2.2.1 jx_m154.2.2.2.1) := rfl
set_option maxRecDepth 100000 in
theorem jx_y155 : tables_1[1206]? = some (.code jx_m155.1 jx_m155.2.1 jx_m155.2.2.1 jx_m155.2.2.2.1) := rfl
set_option maxRecDepth 100000 in
theorem jx_y156 : tables_1[1210]? = some (.code jx_m156.1 jx_m156.2.1 jx_m156.2.2.1 jx_m156.2.2.2.1) := rfl
set_option maxRecDepth 100000 in
theorem jx_y157 : tables_1[1214]? = some (.code jx_m157.1 jx_m157.2.1 jx_m157.2.2.1 jx_m157.2.2.2.1) := rfl
set_option maxRecDepth 100000 in
theorem jx_y158 : tables_1[1217]? = some (.code jx_m158.1 jx_m158.2.1 jx_m158.2.2.1 jx_m158.2.2.2.1) := rfl
set_option maxRecDepth 100000 in
theorem jx_y159 : tables_1[1222]? = some (.code jx_m159.1 jx_m159.2.1 jx_m159.2.2.1 jx_m159.2.2.2.1) := rfl
set_option maxRecDepth 100000 in
theorem jx_y160 : tables_1[1226]? = some (.code jx_m160.1 jx_m160.2.1 jx_m160.2.2.1 jx_m160.2.2.2.1) := rfl
set_option maxRecDepth 100000 in
theorem jx_y161 : tables_1[1230]? = some (.code jx_m161.1 jx_m161.2.1 jx_m161.2.2.1 jx_m161.2.2.2.1) := rfl
set_option maxRecDepth 100000 in
theorem jx_y162 : tables_1[1234]? = some (.code jx_m162.1 jx_m162.2.1 jx_m162.2.2.1 jx_m162.2.2.2.1) := rfl
set_option maxRecDepth 100000 in
theorem jx_y163 : tables_1[1238]? = some (.code jx_m163.1 jx_m163.2.1 jx_m163.2.2.1 jx_m163.2.2.2.1) := rfl
set_option maxRecDepth 100000 in
theorem jx_y164 : tables_1[1242]? = some (.code jx_m164.1 jx_m164.2.1 jx_m164.2.2.1 jx_m164.2.2.2.1) := rfl
set_option maxRecDepth 100000 in
theorem jx_y165 : tables_1[1246]? = some (.code jx_m165.1 jx_m165.2.1 jx_m165.2.2.1 jx_m165.2.2.2.1) := rfl
set_option maxRecDepth 100000 in
theorem jx_y166 : tables_1[1250]? = some (.code jx_m166.1 jx_m166.2.1 jx_m166.2.2.1 jx_m166.2.2.2.1) := rfl
set_option maxRecDepth 100000 in
theorem jx_y167 : tables_1[1254]? = some (.code jx_m167.1 jx_m167.2.1 jx_m167.2.2.1 jx_m167.2.2.2.1) := rfl
set_option maxRecDepth 100000 in
theorem jx_y168 : tables_1[1258]? = some (.code jx_m168.1 jx_m168.2.1 jx_m168.2.2.1 jx_m168.2.2.2.1) := rfl
set_option maxRecDepth 100000 in
theorem jx_y169 : tables_1[1262]? = some (.code jx_m169.1 jx_m169.2.1 jx_m169.2.2.1 jx_m169.2.2.2.1) := rfl
set_option maxRecDepth 100000 in
theorem jx_y170 : tables_1[1266]? = some (.code jx_m170.1 jx_m170.2.1 jx_m170.2.2.1 jx_m170.2.2.2.1) := rfl
set_option maxRecDepth 100000 in
theorem jx_y171 : tables_1[1270]? = some (.code jx_m171.1 jx_m171.2.1 jx_m171.2.2.1 jx_m171.2.2.2.1) := rfl
set_option maxRecDepth 100000 in
theorem jx_y172 : tables_1[1274]? = some (.code jx_m172.1 jx_m172.2.1 jx_m172.2.2.1 jx_m172.2.2.2.1) := rfl
set_option maxRecDepth 100000 in
theorem jx_y173 : tables_1[1278]? = some (.code jx_m173.1 jx_m173.2.1 jx_m173.2.2.1 jx_m173.2.2.2.1) := rfl
set_option maxRecDepth 100000 in
theorem jx_y174 : tables_1[1282]? = some (.code jx_m174.1 jx_m174.2.1 jx_m174.2.2.1 jx_m174.2.2.2.1) := rfl
set_option maxRecDepth 100000 in
theorem jx_y175 : tables_1[1286]? = some (.code jx_m175.1 jx_m175.2.1 jx_m175.2.2.1 jx_m175.2.2.2.1) := rfl
set_option maxRecDepth 100000 in
theorem jx_y176 : tables_1[1290]? = some (.code jx_m176.1 jx_m176.2.1 jx_m176.2.2.1 jx_m176.2.2.2.1) := rfl
set_option maxRecDepth 100000 in
theorem jx_y177 : tables_1[1295]? = some (.code jx_m177.1 jx_m177.2.1 jx_m177.2.2.1 jx_m177.2.2.2.1) := rfl
set_option maxRecDepth 100000 in
theorem jx_y178 : tables_1[1299]? = some (.code jx_m178.1 jx_m178.2.1 jx_m178.2.2.1 jx_m178.2.2.2.1) := rfl
set_option maxRecDepth 100000 in
theorem jx_y179 : tables_1[1303]? = some (.code jx_m179.1 jx_m179.2.1 jx_m179.2.2.1 jx_m179.2.2.2.1) := rfl
set_option maxRecDepth 100000 in
theorem jx_y180 : tables_1[1308]? = some (.code jx_m180.1 jx_m180.2.1 jx_m180.2.2.1 jx_m180.2.2.2.1) := rfl
set_option maxRecDepth 100000 in
theorem jx_y181 : tables_1[1312]? = some (.code jx_m181.1 jx_m181.2.1 jx_m181.2.2.1 jx_m181.2.2.2.1) := rfl
set_option maxRecDepth 100000 in
theorem jx_y182 : tables_1[1316]? = some (.code jx_m182.1 jx_m182.2.1 jx_m182.2.2.1 jx_m182.2.2.2.1) := rfl
set_option maxRecDepth 100000 in
theorem jx_y183 : tables_1[1320]? = some (.code jx_m183.1 jx_m183.2.1 jx_m183.2.2.1 jx_m183.2.2.2.1) := rfl
set_option maxRecDepth 100000 in
theorem jx_y184 : tables_1[1324]? = some (.code jx_m184.1 jx_m184.2.1 jx_m184.2.2.1 jx_m184.2.2.2.1) := rfl
set_option maxRecDepth 100000 in
theorem jx_y185 : tables_1[1328]? = some (.code jx_m185.1 jx_m185.2.1 jx_m185.2.2.1 jx_m185.2.2.2.1) := rfl
set_option maxRecDepth 100000 in
theorem jx_y186 : tables_1[1333]? = some (.code jx_m186.1 jx_m186.2.1 jx_m186.2.2.1 jx_m186.2.2.2.1) := rfl
set_option maxRecDepth 100000 in
theorem jx_y187 : tables_1[1337]? = some (.code jx_m187.1 jx_m187.2.1 jx_m187.2.2.1 jx_m187.2.2.2.1) := rfl
set_option maxRecDepth 100000 in
theorem jx_y188 : tables_1[1341]? = some (.code jx_m188.1 jx_m188.2.1 jx_m188.2.2.1 jx_m188.2.2.2.1) := rfl
set_option maxRecDepth 100000 in
theorem jx_y189 : tables_1[1346]? = some (.code jx_m189.1 jx_m189.2.1 jx_m189.2.2.1 jx_m189.2.2.2.1) := rfl
set_option maxRecDepth 100000 in
theorem jx_y190 : tables_1[1350]? = some (.code jx_m190.1 jx_m190.2.1 jx_m190.2.2.1 jx_m190.2.2.2.1) := rfl
set_option maxRecDepth 100000 in
theorem jx_y191 : tables_1[1354]? = some (.code jx_m191.1 jx_m191.2.1 jx_m191.2.2.1 jx_m191.2.2.2.1) := rfl
set_option maxRecDepth 100000 in
theorem jx_y192 : tables_1[1358]? = some (.code jx_m192.1 jx_m192.2.1 jx_m192.2.2.1 jx_m192.2.2.2.1) := rfl
set_option maxRecDepth 100000 in
theorem jx_y193 : tables_1[1362]? = some (.code jx_m193.1 jx_m193.2.1 jx_m193.2.2.1 jx_m193.2.2.2.1) := rfl
set_option maxRecDepth 100000 in
theorem jx_y194 : tables_1[1366]? = some (.code jx_m194.1 jx_m194.2.1 jx_m194.2.2.1 jx_m194.2.2.2.1) := rfl
set_option maxRecDepth 100000 in
theorem jx_y195 : tables_1[1371]? = some (.code jx_m195.1 jx_m195.2.1 jx_m195.2.2.1 jx_m195.2.2.2.1) := rfl
set_option maxRecDepth 100000 in
theorem jx_y196 : tables_1[1375]? = some (.code jx_m196.1 jx_m196.2.1 jx_m196.2.2.1 jx_m196.2.2.2.1) := rfl
set_option maxRecDepth 100000 in
theorem jx_y197 : tables_1[1381]? = some (.code jx_m197.1 jx_m197.2.1 jx_m197.2.2.1 jx_m197.2.2.2.1) := rfl
set_option maxRecDepth 100000 in
theorem jx_y198 : tables_1[1385]? = some (.code jx_m198.1 jx_m198.2.1 jx_m198.2.2.1 jx_m198.2.2.2.1) := rfl
set_option maxRecDepth 100000 in
theorem jx_y199 : tables_1[1389]? = some (.code jx_m199.1 jx_m199.2.1 jx_m199.2.2.1 jx_m199.2.2.2.1) := rfl
set_option maxRecDepth 100000 in
theorem jx_y200 : tables_1[1393]? = some (.code jx_m200.1 jx_m200.2.1 jx_m200.2.2.1 jx_m200.2.2.2.1) := rfl
set_option maxRecDepth 100000 in
theorem jx_y201 : tables_1[1397]? = some (.code jx_m201.1 jx_m201.2.1 jx_m201.2.2.1 jx_m201.2.2.2.1) := rfl
set_option maxRecDepth 100000 in
theorem jx_y202 : tables_1[1401]? = some (.code jx_m202.1 jx_m202.2.1 jx_m202.2.2.1 jx_m202.2.2.2.1) := rfl
set_option maxRecDepth 100000 in
theorem jx_y203 : tables_1[1405]? = some (.code jx_m203.1 jx_m203.2.1 jx_m203.2.2.1 jx_m203.2.2.2.1) := rfl
set_option maxRecDepth 100000 in
theorem jx_y204 : tables_1[1409]? = some (.code jx_m204.1 jx_m204.2.1 jx_m204.2.2.1 jx_m204.2.2.2.1) := rfl
set_option maxRecDepth 100000 in
theorem jx_y205 : tables_1[602]? = some (.code jx_m205.1 jx_m205.2.1 jx_m205.2.2.1 jx_m205.2.2.2.1) := rfl
set_option maxRecDepth 100000 in
theorem jx_y206 : tables_1[922]? = some (.code jx_m206.1 jx_m206.2.1 jx_m206.2.2.1 jx_m206.2.2.2.1) := rfl
set_option maxRecDepth 100000 in
theorem jx_y207 : tables_1[419]? = some (.code jx_m207.1 jx_m207.2.1 jx_m207.2.2.1 jx_m207.2.2.2.1) := rfl
set_option maxRecDepth 100000 in
theorem jx_y208 : tables_1[428]? = some (.code jx_m208.1 jx_m208.2.1 jx_m208.2.2.1 jx_m208.2.2.2.1) := rfl
set_option maxRecDepth 100000 in
theorem jx_y209 : tables_1[507]? = some (.code jx_m209.1 jx_m209.2.1 jx_m209.2.2.1 jx_m209.2.2.2.1) := rfl
set_option maxRecDepth 100000 in
theorem jx_y210 : tables_1[669]? = some (.code jx_m210.1 jx_m210.2.1 jx_m210.2.2.1 jx_m210.2.2.2.1) := rfl
set_option maxRecDepth 100000 in
theorem jx_y211 : tables_1[719]? = some (.code jx_m211.1 jx_m211.2.1 jx_m211.2.2.1 jx_m211.2.2.2.1) := rfl
set_option maxRecDepth 100000 in
theorem jx_y212 : tables_1[772]? = some (.code jx_m212.1 jx_m212.2.1 jx_m212.2.2.1 jx_m212.2.2.2.1) := rfl
set_option maxRecDepth 100000 in
theorem jx_y213 : tables_1[553]? = some (.code jx_m213.1 jx_m213.2.1 jx_m213.2.2.1 jx_m213.2.2.2.1) := rfl
set_option maxRecDepth 100000 in
theorem jx_y214 : tables_1[730]? = some (.code jx_m214.1 jx_m214.2.1 jx_m214.2.2.1 jx_m214.2.2.2.1) := rfl
def jx_codes : List Nat → List jx_M → Prop
  | p :: ps, m :: ms => tables_1[p]? = some (.code m.1 m.2.1 m.2.2.1 m.2.2.2.1) ∧ jx_codes ps ms
  | _, _ => True
theorem jx_codes_at : ∀ (ps : List Nat) (ms : List jx_M) (i p : Nat) (m : jx_M), jx_codes ps ms → ps[i]? = some p → ms[i]? = some m → Cond.code m.1 m.2.1 m.2.2.1 m.2.2.2.1 ∈ tables_1
  | [], _, i, p, m, _, h, _ => by simp at h
  | _ :: _, [], i, p, m, _, _, h => by simp at h
  | q :: ps, k :: ms, 0, p, m, hc, h1, h2 => by
    simp at h1 h2; subst h1; subst h2
    exact List.mem_of_getElem? hc.1
  | q :: ps, k :: ms, i + 1, p, m, hc, h1, h2 => jx_codes_at ps ms i p m hc.2 (by simpa using h1) (by simpa using h2)
def jx_cps : List Nat := [32, 616, 620, 645, 649, 666, 677, 685, 689, 941, 952, 957, 961, 140, 907, 915, 919, 927, 82, 727, 734, 756, 760, 787, 38, 629, 637, 641, 662, 699, 240, 546, 550, 169, 813, 817, 839, 843, 847, 859, 864, 869, 873, 877, 881, 885, 890, 894, 898, 88, 739, 747, 764, 768, 776, 782, 161, 805, 809, 823, 827, 834, 851, 349, 382, 391, 405, 498, 504, 234, 268, 363, 480, 519, 527, 531, 564, 599, 855, 424, 542, 624, 633, 653, 658, 716, 743, 751, 22, 337, 340, 344, 374, 378, 397, 401, 409, 413, 416, 476, 489, 494, 511, 515, 523, 537, 573, 579, 583, 587, 591, 595, 609, 612, 673, 681, 694, 703, 707, 711, 723, 792, 796, 800, 903, 911, 932, 935, 948, 967, 975, 1100, 1104, 1108, 1112, 1116, 1120, 1126, 1130, 1135, 1139, 1143, 1147, 1151, 1155, 1161, 1165, 1169, 1174, 1181, 1185, 1190, 1194, 1198, 1202, 1206, 1210, 1214, 1217, 1222, 1226, 1230, 1234, 1238, 1242, 1246, 1250, 1254, 1258, 1262, 1266, 1270, 1274, 1278, 1282, 1286, 1290, 1295, 1299, 1303, 1308, 1312, 1316, 1320, 1324, 1328, 1333, 1337, 1341, 1346, 1350, 1354, 1358, 1362, 1366, 1371, 1375, 1381, 1385, 1389, 1393, 1397, 1401, 1405, 1409, 602, 922, 419, 428, 507, 669, 719, 772, 553, 730]
set_option maxRecDepth 100000 in
theorem jx_codes_all : jx_codes jx_cps jx_mt := ⟨jx_y0, ⟨jx_y1, ⟨jx_y2, ⟨jx_y3, ⟨jx_y4, ⟨jx_y5, ⟨jx_y6, ⟨jx_y7, ⟨jx_y8, ⟨jx_y9, ⟨jx_y10, ⟨jx_y11, ⟨jx_y12, ⟨jx_y13, ⟨jx_y14, ⟨jx_y15, ⟨jx_y16, ⟨jx_y17, ⟨jx_y18, ⟨jx_y19, ⟨jx_y20, ⟨jx_y21, ⟨jx_y22, ⟨jx_y23, ⟨jx_y24, ⟨jx_y25, ⟨jx_y26, ⟨jx_y27, ⟨jx_y28, ⟨jx_y29, ⟨jx_y30, ⟨jx_y31, ⟨jx_y32, ⟨jx_y33, ⟨jx_y34, ⟨jx_y35, ⟨jx_y36, ⟨jx_y37, ⟨jx_y38, ⟨jx_y39, ⟨jx_y40, ⟨jx_y41, ⟨jx_y42, ⟨jx_y43, ⟨jx_y44, ⟨jx_y45, ⟨jx_y46, ⟨jx_y47, ⟨jx_y48, ⟨jx_y49, ⟨jx_y50, ⟨jx_y51, ⟨jx_y52, ⟨jx_y53, ⟨jx_y54, ⟨jx_y55, ⟨jx_y56, ⟨jx_y57, ⟨jx_y58, ⟨jx_y59, ⟨jx_y60, ⟨jx_y61, ⟨jx_y62, ⟨jx_y63, ⟨jx_y64, ⟨jx_y65, ⟨jx_y66, ⟨jx_y67, ⟨jx_y68, ⟨jx_y69, ⟨jx_y70, ⟨jx_y71, ⟨jx_y72, ⟨jx_y73, ⟨jx_y74, ⟨jx_y75, ⟨jx_y76, ⟨jx_y77, ⟨jx_y78, ⟨jx_y79, ⟨jx_y80, ⟨jx_y81, ⟨jx_y82, ⟨jx_y83, ⟨jx_y84, ⟨jx_y85, ⟨jx_y86, ⟨jx_y87, ⟨jx_y88, ⟨jx_y89, ⟨jx_y90, ⟨jx_y91, ⟨jx_y92, ⟨jx_y93, ⟨jx_y94, ⟨jx_y95, ⟨jx_y96, ⟨jx_y97, ⟨jx_y98, ⟨jx_y99, ⟨jx_y100, ⟨jx_y101, ⟨jx_y102, ⟨jx_y103, ⟨jx_y104, ⟨jx_y105, ⟨jx_y106, ⟨jx_y107, ⟨jx_y108, ⟨jx_y109, ⟨jx_y110, ⟨jx_y111, ⟨jx_y112, ⟨jx_y113, ⟨jx_y114, ⟨jx_y115, ⟨jx_y116, ⟨jx_y117, ⟨jx_y118, ⟨jx_y119, ⟨jx_y120, ⟨jx_y121, ⟨jx_y122, ⟨jx_y123, ⟨jx_y124, ⟨jx_y125, ⟨jx_y126, ⟨jx_y127, ⟨jx_y128, ⟨jx_y129, ⟨jx_y130, ⟨jx_y131, ⟨jx_y132, ⟨jx_y133, ⟨jx_y134, ⟨jx_y135, ⟨jx_y136, ⟨jx_y137, ⟨jx_y138, ⟨jx_y139, ⟨jx_y140, ⟨jx_y141, ⟨jx_y142, ⟨jx_y143, ⟨jx_y144, ⟨jx_y145, ⟨jx_y146, ⟨jx_y147, ⟨jx_y148, ⟨jx_y149, ⟨jx_y150, ⟨jx_y151, ⟨jx_y152, ⟨jx_y153, ⟨jx_y154, ⟨jx_y155, ⟨jx_y156, ⟨jx_y157, ⟨jx_y158, ⟨jx_y159, ⟨jx_y160, ⟨jx_y161, ⟨jx_y162, ⟨jx_y163, ⟨jx_y164, ⟨jx_y165, ⟨jx_y166, ⟨jx_y167, ⟨jx_y168, ⟨jx_y169, ⟨jx_y170, ⟨jx_y171, ⟨jx_y172, ⟨jx_y173, ⟨jx_y174, ⟨jx_y175, ⟨jx_y176, ⟨jx_y177, ⟨jx_y178, ⟨jx_y179, ⟨jx_y180, ⟨jx_y181, ⟨jx_y182, ⟨jx_y183, ⟨jx_y184, ⟨jx_y185, ⟨jx_y186, ⟨jx_y187, ⟨jx_y188, ⟨jx_y189, ⟨jx_y190, ⟨jx_y191, ⟨jx_y192, ⟨jx_y193, ⟨jx_y194, ⟨jx_y195, ⟨jx_y196, ⟨jx_y197, ⟨jx_y198, ⟨jx_y199, ⟨jx_y200, ⟨jx_y201, ⟨jx_y202, ⟨jx_y203, ⟨jx_y204, ⟨jx_y205, ⟨jx_y206, ⟨jx_y207, ⟨jx_y208, ⟨jx_y209, ⟨jx_y210, ⟨jx_y211, ⟨jx_y212, ⟨jx_y213, ⟨jx_y214, trivial⟩⟩⟩⟩⟩⟩⟩⟩⟩⟩⟩⟩⟩⟩⟩⟩⟩⟩⟩⟩⟩⟩⟩⟩⟩⟩⟩⟩⟩⟩⟩⟩⟩⟩⟩⟩⟩⟩⟩⟩⟩⟩⟩⟩⟩⟩⟩⟩⟩⟩⟩⟩⟩⟩⟩⟩⟩⟩⟩⟩⟩⟩⟩⟩⟩⟩⟩⟩⟩⟩⟩⟩⟩⟩⟩⟩⟩⟩⟩⟩⟩⟩⟩⟩⟩⟩⟩⟩⟩⟩⟩⟩⟩⟩⟩⟩⟩⟩⟩⟩⟩⟩⟩⟩⟩⟩⟩⟩⟩⟩⟩⟩⟩⟩⟩⟩⟩⟩⟩⟩⟩⟩⟩⟩⟩⟩⟩⟩⟩⟩⟩⟩⟩⟩⟩⟩⟩⟩⟩⟩⟩⟩⟩⟩⟩⟩⟩⟩⟩⟩⟩⟩⟩⟩⟩⟩⟩⟩⟩⟩⟩⟩⟩⟩⟩⟩⟩⟩⟩⟩⟩⟩⟩⟩⟩⟩⟩⟩⟩⟩⟩⟩⟩⟩⟩⟩⟩⟩⟩⟩⟩⟩⟩⟩⟩⟩⟩⟩⟩⟩⟩⟩⟩⟩⟩⟩⟩⟩⟩⟩⟩⟩⟩⟩⟩
