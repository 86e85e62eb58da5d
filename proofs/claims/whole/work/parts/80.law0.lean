theorem zw439 : Cond.methodLink "LetterWallsLaw" 13 yX11_wall ∈ WS := zw_mem 439 (by decide +kernel) (by decide +kernel)
theorem zw440 : Cond.instanceMethod yX11_wall ∈ WS := zw_mem 440 (by decide +kernel) (by decide +kernel)
theorem zw441 : Cond.selects RX11 yX11_wall yX11_wall ∈ WS := zw_mem 441 (by decide +kernel) (by decide +kernel)
theorem zw442 : Cond.code yX11_wall cX11_wall 3 (some .int) ∈ WS := zw_mem 442 (by decide +kernel) (by decide +kernel)
theorem zw1183 : Cond.methodLink "LetterWallsLaw" 17 yX12_wall ∈ WS := zw_mem 1183 (by decide +kernel) (by decide +kernel)
theorem zw1184 : Cond.instanceMethod yX12_wall ∈ WS := zw_mem 1184 (by decide +kernel) (by decide +kernel)
theorem zw1185 : Cond.selects RX12 yX12_wall yX12_wall ∈ WS := zw_mem 1185 (by decide +kernel) (by decide +kernel)
theorem zw1186 : Cond.code yX12_wall cX12_wall 5 (some .int) ∈ WS := zw_mem 1186 (by decide +kernel) (by decide +kernel)
theorem zw455 : Cond.methodLink "LetterWallsLaw" 18 yX11_wallIs ∈ WS := zw_mem 455 (by decide +kernel) (by decide +kernel)
theorem zw456 : Cond.instanceMethod yX11_wallIs ∈ WS := zw_mem 456 (by decide +kernel) (by decide +kernel)
theorem zw457 : Cond.selects RX11 yX11_wallIs yX11_wallIs ∈ WS := zw_mem 457 (by decide +kernel) (by decide +kernel)
theorem zw458 : Cond.code yX11_wallIs cX11_wallIs 4 (some .int) ∈ WS := zw_mem 458 (by decide +kernel) (by decide +kernel)
theorem zw1187 : Cond.methodLink "LetterWallsLaw" 21 yX12_wallIs ∈ WS := zw_mem 1187 (by decide +kernel) (by decide +kernel)
theorem zw1188 : Cond.instanceMethod yX12_wallIs ∈ WS := zw_mem 1188 (by decide +kernel) (by decide +kernel)
theorem zw1189 : Cond.selects RX12 yX12_wallIs yX12_wallIs ∈ WS := zw_mem 1189 (by decide +kernel) (by decide +kernel)
theorem zw1190 : Cond.code yX12_wallIs cX12_wallIs 3 (some .int) ∈ WS := zw_mem 1190 (by decide +kernel) (by decide +kernel)
theorem zw557 : Cond.methodLink "LetterWallsLaw" 22 yX11_as ∈ WS := zw_mem 557 (by decide +kernel) (by decide +kernel)
theorem zw558 : Cond.instanceMethod yX11_as ∈ WS := zw_mem 558 (by decide +kernel) (by decide +kernel)
theorem zw559 : Cond.selects RX11 yX11_as yX11_as ∈ WS := zw_mem 559 (by decide +kernel) (by decide +kernel)
theorem zw560 : Cond.code yX11_as cX11_as 4 (some .int) ∈ WS := zw_mem 560 (by decide +kernel) (by decide +kernel)
theorem zw1268 : Cond.methodLink "LetterWallsLaw" 25 yX12_as ∈ WS := zw_mem 1268 (by decide +kernel) (by decide +kernel)
theorem zw1269 : Cond.instanceMethod yX12_as ∈ WS := zw_mem 1269 (by decide +kernel) (by decide +kernel)
theorem zw1270 : Cond.selects RX12 yX12_as yX12_as ∈ WS := zw_mem 1270 (by decide +kernel) (by decide +kernel)
theorem zw1271 : Cond.code yX12_as cX12_as 3 (some .int) ∈ WS := zw_mem 1271 (by decide +kernel) (by decide +kernel)
theorem zw562 : Cond.methodLink "LetterWallsLaw" 26 yX11_set ∈ WS := zw_mem 562 (by decide +kernel) (by decide +kernel)
theorem zw563 : Cond.instanceMethod yX11_set ∈ WS := zw_mem 563 (by decide +kernel) (by decide +kernel)
theorem zw564 : Cond.selects RX11 yX11_set yX11_set ∈ WS := zw_mem 564 (by decide +kernel) (by decide +kernel)
theorem zw565 : Cond.code yX11_set cX11_set 6 (some .int) ∈ WS := zw_mem 565 (by decide +kernel) (by decide +kernel)
theorem zw1275 : Cond.methodLink "LetterWallsLaw" 30 yX12_set ∈ WS := zw_mem 1275 (by decide +kernel) (by decide +kernel)
theorem zw1276 : Cond.instanceMethod yX12_set ∈ WS := zw_mem 1276 (by decide +kernel) (by decide +kernel)
theorem zw1277 : Cond.selects RX12 yX12_set yX12_set ∈ WS := zw_mem 1277 (by decide +kernel) (by decide +kernel)
theorem zw1278 : Cond.code yX12_set cX12_set 5 (some .int) ∈ WS := zw_mem 1278 (by decide +kernel) (by decide +kernel)
theorem zw566 : Cond.methodLink "LetterWallsLaw" 31 yX11_brick ∈ WS := zw_mem 566 (by decide +kernel) (by decide +kernel)
theorem zw567 : Cond.instanceMethod yX11_brick ∈ WS := zw_mem 567 (by decide +kernel) (by decide +kernel)
theorem zw568 : Cond.selects RX11 yX11_brick yX11_brick ∈ WS := zw_mem 568 (by decide +kernel) (by decide +kernel)
theorem zw569 : Cond.code yX11_brick cX11_brick 5 (some .int) ∈ WS := zw_mem 569 (by decide +kernel) (by decide +kernel)
theorem zw1279 : Cond.methodLink "LetterWallsLaw" 34 yX12_brick ∈ WS := zw_mem 1279 (by decide +kernel) (by decide +kernel)
theorem zw1280 : Cond.instanceMethod yX12_brick ∈ WS := zw_mem 1280 (by decide +kernel) (by decide +kernel)
theorem zw1281 : Cond.selects RX12 yX12_brick yX12_brick ∈ WS := zw_mem 1281 (by decide +kernel) (by decide +kernel)
theorem zw1282 : Cond.code yX12_brick cX12_brick 5 (some .int) ∈ WS := zw_mem 1282 (by decide +kernel) (by decide +kernel)
theorem zw574 : Cond.methodLink "LetterWallsLaw" 35 yX11_brickOf ∈ WS := zw_mem 574 (by decide +kernel) (by decide +kernel)
theorem zw575 : Cond.instanceMethod yX11_brickOf ∈ WS := zw_mem 575 (by decide +kernel) (by decide +kernel)
theorem zw576 : Cond.selects RX11 yX11_brickOf yX11_brickOf ∈ WS := zw_mem 576 (by decide +kernel) (by decide +kernel)
theorem zw577 : Cond.code yX11_brickOf cX11_brickOf 3 (some .int) ∈ WS := zw_mem 577 (by decide +kernel) (by decide +kernel)
theorem zw1287 : Cond.methodLink "LetterWallsLaw" 38 yX12_brickOf ∈ WS := zw_mem 1287 (by decide +kernel) (by decide +kernel)
theorem zw1288 : Cond.instanceMethod yX12_brickOf ∈ WS := zw_mem 1288 (by decide +kernel) (by decide +kernel)
theorem zw1289 : Cond.selects RX12 yX12_brickOf yX12_brickOf ∈ WS := zw_mem 1289 (by decide +kernel) (by decide +kernel)
theorem zw1290 : Cond.code yX12_brickOf cX12_brickOf 3 (some .int) ∈ WS := zw_mem 1290 (by decide +kernel) (by decide +kernel)
theorem zw578 : Cond.methodLink "LetterWallsLaw" 39 yX11_readAs ∈ WS := zw_mem 578 (by decide +kernel) (by decide +kernel)
theorem zw579 : Cond.instanceMethod yX11_readAs ∈ WS := zw_mem 579 (by decide +kernel) (by decide +kernel)
theorem zw580 : Cond.selects RX11 yX11_readAs yX11_readAs ∈ WS := zw_mem 580 (by decide +kernel) (by decide +kernel)
theorem zw581 : Cond.code yX11_readAs cX11_readAs 3 (some .int) ∈ WS := zw_mem 581 (by decide +kernel) (by decide +kernel)
theorem zw1291 : Cond.methodLink "LetterWallsLaw" 42 yX12_readAs ∈ WS := zw_mem 1291 (by decide +kernel) (by decide +kernel)
theorem zw1292 : Cond.instanceMethod yX12_readAs ∈ WS := zw_mem 1292 (by decide +kernel) (by decide +kernel)
theorem zw1293 : Cond.selects RX12 yX12_readAs yX12_readAs ∈ WS := zw_mem 1293 (by decide +kernel) (by decide +kernel)
theorem zw1294 : Cond.code yX12_readAs cX12_readAs 3 (some .int) ∈ WS := zw_mem 1294 (by decide +kernel) (by decide +kernel)
theorem zw582 : Cond.methodLink "LetterWallsLaw" 43 yX11_word ∈ WS := zw_mem 582 (by decide +kernel) (by decide +kernel)
theorem zw583 : Cond.instanceMethod yX11_word ∈ WS := zw_mem 583 (by decide +kernel) (by decide +kernel)
theorem zw584 : Cond.selects RX11 yX11_word yX11_word ∈ WS := zw_mem 584 (by decide +kernel) (by decide +kernel)
theorem zw585 : Cond.code yX11_word cX11_word 3 (some .int) ∈ WS := zw_mem 585 (by decide +kernel) (by decide +kernel)
theorem zw1295 : Cond.methodLink "LetterWallsLaw" 46 yX12_word ∈ WS := zw_mem 1295 (by decide +kernel) (by decide +kernel)
theorem zw1296 : Cond.instanceMethod yX12_word ∈ WS := zw_mem 1296 (by decide +kernel) (by decide +kernel)
theorem zw1297 : Cond.selects RX12 yX12_word yX12_word ∈ WS := zw_mem 1297 (by decide +kernel) (by decide +kernel)
theorem zw1298 : Cond.code yX12_word cX12_word 4 (some .int) ∈ WS := zw_mem 1298 (by decide +kernel) (by decide +kernel)
theorem zw591 : Cond.methodLink "LetterWallsLaw" 47 yX11_letter ∈ WS := zw_mem 591 (by decide +kernel) (by decide +kernel)
theorem zw592 : Cond.instanceMethod yX11_letter ∈ WS := zw_mem 592 (by decide +kernel) (by decide +kernel)
theorem zw593 : Cond.selects RX11 yX11_letter yX11_letter ∈ WS := zw_mem 593 (by decide +kernel) (by decide +kernel)
theorem zw594 : Cond.code yX11_letter cX11_letter 4 (some .int) ∈ WS := zw_mem 594 (by decide +kernel) (by decide +kernel)
theorem zw1299 : Cond.methodLink "LetterWallsLaw" 50 yX12_letter ∈ WS := zw_mem 1299 (by decide +kernel) (by decide +kernel)
theorem zw1300 : Cond.instanceMethod yX12_letter ∈ WS := zw_mem 1300 (by decide +kernel) (by decide +kernel)
theorem zw1301 : Cond.selects RX12 yX12_letter yX12_letter ∈ WS := zw_mem 1301 (by decide +kernel) (by decide +kernel)
theorem zw1302 : Cond.code yX12_letter cX12_letter 4 (some .int) ∈ WS := zw_mem 1302 (by decide +kernel) (by decide +kernel)
theorem zw599 : Cond.methodLink "LetterWallsLaw" 51 yX11_wordIs ∈ WS := zw_mem 599 (by decide +kernel) (by decide +kernel)
theorem zw600 : Cond.instanceMethod yX11_wordIs ∈ WS := zw_mem 600 (by decide +kernel) (by decide +kernel)
theorem zw601 : Cond.selects RX11 yX11_wordIs yX11_wordIs ∈ WS := zw_mem 601 (by decide +kernel) (by decide +kernel)
theorem zw602 : Cond.code yX11_wordIs cX11_wordIs 4 (some .int) ∈ WS := zw_mem 602 (by decide +kernel) (by decide +kernel)
theorem zw1307 : Cond.methodLink "LetterWallsLaw" 54 yX12_wordIs ∈ WS := zw_mem 1307 (by decide +kernel) (by decide +kernel)
theorem zw1308 : Cond.instanceMethod yX12_wordIs ∈ WS := zw_mem 1308 (by decide +kernel) (by decide +kernel)
theorem zw1309 : Cond.selects RX12 yX12_wordIs yX12_wordIs ∈ WS := zw_mem 1309 (by decide +kernel) (by decide +kernel)
theorem zw1310 : Cond.code yX12_wordIs cX12_wordIs 3 (some .int) ∈ WS := zw_mem 1310 (by decide +kernel) (by decide +kernel)
theorem zw1497 : Cond.constantLong "LetterWallsLaw" 55 (4294967295) ∈ WS := zw_mem 1497 (by decide +kernel) (by decide +kernel)
theorem zw603 : Cond.methodLink "LetterWallsLaw" 57 yX11_feed ∈ WS := zw_mem 603 (by decide +kernel) (by decide +kernel)
theorem zw604 : Cond.instanceMethod yX11_feed ∈ WS := zw_mem 604 (by decide +kernel) (by decide +kernel)
theorem zw605 : Cond.selects RX11 yX11_feed yX11_feed ∈ WS := zw_mem 605 (by decide +kernel) (by decide +kernel)
theorem zw606 : Cond.code yX11_feed cX11_feed 5 (some .int) ∈ WS := zw_mem 606 (by decide +kernel) (by decide +kernel)
theorem zw1118 : Cond.methodLink "LetterWallsLaw" 61 yX12_feed ∈ WS := zw_mem 1118 (by decide +kernel) (by decide +kernel)
theorem zw1119 : Cond.instanceMethod yX12_feed ∈ WS := zw_mem 1119 (by decide +kernel) (by decide +kernel)
theorem zw1120 : Cond.selects RX12 yX12_feed yX12_feed ∈ WS := zw_mem 1120 (by decide +kernel) (by decide +kernel)
theorem zw1121 : Cond.code yX12_feed cX12_feed 5 (some .int) ∈ WS := zw_mem 1121 (by decide +kernel) (by decide +kernel)
theorem zw607 : Cond.methodLink "LetterWallsLaw" 62 yX11_text ∈ WS := zw_mem 607 (by decide +kernel) (by decide +kernel)
theorem zw608 : Cond.instanceMethod yX11_text ∈ WS := zw_mem 608 (by decide +kernel) (by decide +kernel)
theorem zw609 : Cond.selects RX11 yX11_text yX11_text ∈ WS := zw_mem 609 (by decide +kernel) (by decide +kernel)
theorem zw610 : Cond.code yX11_text cX11_text 3 (some .int) ∈ WS := zw_mem 610 (by decide +kernel) (by decide +kernel)
theorem zw1131 : Cond.methodLink "LetterWallsLaw" 66 yX12_text ∈ WS := zw_mem 1131 (by decide +kernel) (by decide +kernel)
theorem zw1132 : Cond.instanceMethod yX12_text ∈ WS := zw_mem 1132 (by decide +kernel) (by decide +kernel)
theorem zw1133 : Cond.selects RX12 yX12_text yX12_text ∈ WS := zw_mem 1133 (by decide +kernel) (by decide +kernel)
theorem zw1134 : Cond.code yX12_text cX12_text 5 (some .int) ∈ WS := zw_mem 1134 (by decide +kernel) (by decide +kernel)
theorem zw744 : Cond.methodLink "LetterWallsLaw" 67 yX11_untell ∈ WS := zw_mem 744 (by decide +kernel) (by decide +kernel)
theorem zw745 : Cond.instanceMethod yX11_untell ∈ WS := zw_mem 745 (by decide +kernel) (by decide +kernel)
theorem zw746 : Cond.selects RX11 yX11_untell yX11_untell ∈ WS := zw_mem 746 (by decide +kernel) (by decide +kernel)
theorem zw747 : Cond.code yX11_untell cX11_untell 4 (some .int) ∈ WS := zw_mem 747 (by decide +kernel) (by decide +kernel)
theorem zw1175 : Cond.methodLink "LetterWallsLaw" 70 yX12_untell ∈ WS := zw_mem 1175 (by decide +kernel) (by decide +kernel)
theorem zw1176 : Cond.instanceMethod yX12_untell ∈ WS := zw_mem 1176 (by decide +kernel) (by decide +kernel)
theorem zw1177 : Cond.selects RX12 yX12_untell yX12_untell ∈ WS := zw_mem 1177 (by decide +kernel) (by decide +kernel)
theorem zw1178 : Cond.code yX12_untell cX12_untell 3 (some .int) ∈ WS := zw_mem 1178 (by decide +kernel) (by decide +kernel)
theorem zw749 : Cond.methodLink "LetterWallsLaw" 71 yX11_says ∈ WS := zw_mem 749 (by decide +kernel) (by decide +kernel)
theorem zw750 : Cond.instanceMethod yX11_says ∈ WS := zw_mem 750 (by decide +kernel) (by decide +kernel)
theorem zw751 : Cond.selects RX11 yX11_says yX11_says ∈ WS := zw_mem 751 (by decide +kernel) (by decide +kernel)
theorem zw752 : Cond.code yX11_says cX11_says 3 (some .int) ∈ WS := zw_mem 752 (by decide +kernel) (by decide +kernel)
theorem zw1311 : Cond.methodLink "LetterWallsLaw" 74 yX12_says ∈ WS := zw_mem 1311 (by decide +kernel) (by decide +kernel)
theorem zw1312 : Cond.instanceMethod yX12_says ∈ WS := zw_mem 1312 (by decide +kernel) (by decide +kernel)
theorem zw1313 : Cond.selects RX12 yX12_says yX12_says ∈ WS := zw_mem 1313 (by decide +kernel) (by decide +kernel)
theorem zw1314 : Cond.code yX12_says cX12_says 3 (some .int) ∈ WS := zw_mem 1314 (by decide +kernel) (by decide +kernel)
theorem zw762 : Cond.methodLink "LetterWallsLaw" 75 yX11_doors ∈ WS := zw_mem 762 (by decide +kernel) (by decide +kernel)
theorem zw763 : Cond.instanceMethod yX11_doors ∈ WS := zw_mem 763 (by decide +kernel) (by decide +kernel)
theorem zw764 : Cond.selects RX11 yX11_doors yX11_doors ∈ WS := zw_mem 764 (by decide +kernel) (by decide +kernel)
theorem zw765 : Cond.code yX11_doors cX11_doors 6 (some .int) ∈ WS := zw_mem 765 (by decide +kernel) (by decide +kernel)
theorem zw1319 : Cond.methodLink "LetterWallsLaw" 78 yX12_doors ∈ WS := zw_mem 1319 (by decide +kernel) (by decide +kernel)
theorem zw1320 : Cond.instanceMethod yX12_doors ∈ WS := zw_mem 1320 (by decide +kernel) (by decide +kernel)
theorem zw1321 : Cond.selects RX12 yX12_doors yX12_doors ∈ WS := zw_mem 1321 (by decide +kernel) (by decide +kernel)
theorem zw1322 : Cond.code yX12_doors cX12_doors 5 (some .int) ∈ WS := zw_mem 1322 (by decide +kernel) (by decide +kernel)
theorem zw777 : Cond.methodLink "LetterWallsLaw" 79 yX11_spare ∈ WS := zw_mem 777 (by decide +kernel) (by decide +kernel)
theorem zw778 : Cond.instanceMethod yX11_spare ∈ WS := zw_mem 778 (by decide +kernel) (by decide +kernel)
theorem zw779 : Cond.selects RX11 yX11_spare yX11_spare ∈ WS := zw_mem 779 (by decide +kernel) (by decide +kernel)
theorem zw780 : Cond.code yX11_spare cX11_spare 5 (some .int) ∈ WS := zw_mem 780 (by decide +kernel) (by decide +kernel)
theorem zw1327 : Cond.methodLink "LetterWallsLaw" 82 yX12_spare ∈ WS := zw_mem 1327 (by decide +kernel) (by decide +kernel)
theorem zw1328 : Cond.instanceMethod yX12_spare ∈ WS := zw_mem 1328 (by decide +kernel) (by decide +kernel)
theorem zw1329 : Cond.selects RX12 yX12_spare yX12_spare ∈ WS := zw_mem 1329 (by decide +kernel) (by decide +kernel)
theorem zw1330 : Cond.code yX12_spare cX12_spare 4 (some .int) ∈ WS := zw_mem 1330 (by decide +kernel) (by decide +kernel)
theorem zw785 : Cond.methodLink "LetterWallsLaw" 83 yX11_others ∈ WS := zw_mem 785 (by decide +kernel) (by decide +kernel)
theorem zw786 : Cond.instanceMethod yX11_others ∈ WS := zw_mem 786 (by decide +kernel) (by decide +kernel)
theorem zw787 : Cond.selects RX11 yX11_others yX11_others ∈ WS := zw_mem 787 (by decide +kernel) (by decide +kernel)
theorem zw788 : Cond.code yX11_others cX11_others 3 (some .int) ∈ WS := zw_mem 788 (by decide +kernel) (by decide +kernel)
theorem zw1331 : Cond.methodLink "LetterWallsLaw" 86 yX12_others ∈ WS := zw_mem 1331 (by decide +kernel) (by decide +kernel)
theorem zw1332 : Cond.instanceMethod yX12_others ∈ WS := zw_mem 1332 (by decide +kernel) (by decide +kernel)
theorem zw1333 : Cond.selects RX12 yX12_others yX12_others ∈ WS := zw_mem 1333 (by decide +kernel) (by decide +kernel)
theorem zw1334 : Cond.code yX12_others cX12_others 3 (some .int) ∈ WS := zw_mem 1334 (by decide +kernel) (by decide +kernel)
theorem zw793 : Cond.methodLink "LetterWallsLaw" 87 yX11_steps ∈ WS := zw_mem 793 (by decide +kernel) (by decide +kernel)
theorem zw794 : Cond.instanceMethod yX11_steps ∈ WS := zw_mem 794 (by decide +kernel) (by decide +kernel)
theorem zw795 : Cond.selects RX11 yX11_steps yX11_steps ∈ WS := zw_mem 795 (by decide +kernel) (by decide +kernel)
theorem zw796 : Cond.code yX11_steps cX11_steps 5 (some .int) ∈ WS := zw_mem 796 (by decide +kernel) (by decide +kernel)
theorem zw1339 : Cond.methodLink "LetterWallsLaw" 90 yX12_steps ∈ WS := zw_mem 1339 (by decide +kernel) (by decide +kernel)
theorem zw1340 : Cond.instanceMethod yX12_steps ∈ WS := zw_mem 1340 (by decide +kernel) (by decide +kernel)
theorem zw1341 : Cond.selects RX12 yX12_steps yX12_steps ∈ WS := zw_mem 1341 (by decide +kernel) (by decide +kernel)
theorem zw1342 : Cond.code yX12_steps cX12_steps 4 (some .int) ∈ WS := zw_mem 1342 (by decide +kernel) (by decide +kernel)
theorem zw803 : Cond.methodLink "LetterWallsLaw" 91 yX11_mends ∈ WS := zw_mem 803 (by decide +kernel) (by decide +kernel)
theorem zw804 : Cond.instanceMethod yX11_mends ∈ WS := zw_mem 804 (by decide +kernel) (by decide +kernel)
theorem zw805 : Cond.selects RX11 yX11_mends yX11_mends ∈ WS := zw_mem 805 (by decide +kernel) (by decide +kernel)
theorem zw806 : Cond.code yX11_mends cX11_mends 3 (some .int) ∈ WS := zw_mem 806 (by decide +kernel) (by decide +kernel)
theorem zw1346 : Cond.methodLink "LetterWallsLaw" 94 yX12_mends ∈ WS := zw_mem 1346 (by decide +kernel) (by decide +kernel)
theorem zw1347 : Cond.instanceMethod yX12_mends ∈ WS := zw_mem 1347 (by decide +kernel) (by decide +kernel)
theorem zw1348 : Cond.selects RX12 yX12_mends yX12_mends ∈ WS := zw_mem 1348 (by decide +kernel) (by decide +kernel)
theorem zw1349 : Cond.code yX12_mends cX12_mends 9 (some .int) ∈ WS := zw_mem 1349 (by decide +kernel) (by decide +kernel)
theorem zw822 : Cond.methodLink "LetterWallsLaw" 95 yX11_wish ∈ WS := zw_mem 822 (by decide +kernel) (by decide +kernel)
theorem zw823 : Cond.instanceMethod yX11_wish ∈ WS := zw_mem 823 (by decide +kernel) (by decide +kernel)
theorem zw824 : Cond.selects RX11 yX11_wish yX11_wish ∈ WS := zw_mem 824 (by decide +kernel) (by decide +kernel)
theorem zw825 : Cond.code yX11_wish cX11_wish 5 (some .int) ∈ WS := zw_mem 825 (by decide +kernel) (by decide +kernel)
theorem zw1350 : Cond.methodLink "LetterWallsLaw" 98 yX12_wish ∈ WS := zw_mem 1350 (by decide +kernel) (by decide +kernel)
theorem zw1351 : Cond.instanceMethod yX12_wish ∈ WS := zw_mem 1351 (by decide +kernel) (by decide +kernel)
theorem zw1352 : Cond.selects RX12 yX12_wish yX12_wish ∈ WS := zw_mem 1352 (by decide +kernel) (by decide +kernel)
theorem zw1353 : Cond.code yX12_wish cX12_wish 7 (some .int) ∈ WS := zw_mem 1353 (by decide +kernel) (by decide +kernel)
theorem zw838 : Cond.methodLink "LetterWallsLaw" 99 yX11_heap ∈ WS := zw_mem 838 (by decide +kernel) (by decide +kernel)
theorem zw839 : Cond.instanceMethod yX11_heap ∈ WS := zw_mem 839 (by decide +kernel) (by decide +kernel)
theorem zw840 : Cond.selects RX11 yX11_heap yX11_heap ∈ WS := zw_mem 840 (by decide +kernel) (by decide +kernel)
theorem zw841 : Cond.code yX11_heap cX11_heap 4 (some .int) ∈ WS := zw_mem 841 (by decide +kernel) (by decide +kernel)
theorem zw1357 : Cond.methodLink "LetterWallsLaw" 102 yX12_heap ∈ WS := zw_mem 1357 (by decide +kernel) (by decide +kernel)
theorem zw1358 : Cond.instanceMethod yX12_heap ∈ WS := zw_mem 1358 (by decide +kernel) (by decide +kernel)
theorem zw1359 : Cond.selects RX12 yX12_heap yX12_heap ∈ WS := zw_mem 1359 (by decide +kernel) (by decide +kernel)
theorem zw1360 : Cond.code yX12_heap cX12_heap 4 (some .int) ∈ WS := zw_mem 1360 (by decide +kernel) (by decide +kernel)
theorem zw842 : Cond.methodLink "LetterWallsLaw" 103 yX11_price ∈ WS := zw_mem 842 (by decide +kernel) (by decide +kernel)
theorem zw843 : Cond.instanceMethod yX11_price ∈ WS := zw_mem 843 (by decide +kernel) (by decide +kernel)
theorem zw844 : Cond.selects RX11 yX11_price yX11_price ∈ WS := zw_mem 844 (by decide +kernel) (by decide +kernel)
theorem zw845 : Cond.code yX11_price cX11_price 2 (some .int) ∈ WS := zw_mem 845 (by decide +kernel) (by decide +kernel)
theorem zw1361 : Cond.methodLink "LetterWallsLaw" 106 yX12_price ∈ WS := zw_mem 1361 (by decide +kernel) (by decide +kernel)
theorem zw1362 : Cond.instanceMethod yX12_price ∈ WS := zw_mem 1362 (by decide +kernel) (by decide +kernel)
theorem zw1363 : Cond.selects RX12 yX12_price yX12_price ∈ WS := zw_mem 1363 (by decide +kernel) (by decide +kernel)
theorem zw1364 : Cond.code yX12_price cX12_price 2 (some .int) ∈ WS := zw_mem 1364 (by decide +kernel) (by decide +kernel)
theorem zw847 : Cond.methodLink "LetterWallsLaw" 107 yX11_have ∈ WS := zw_mem 847 (by decide +kernel) (by decide +kernel)
theorem zw848 : Cond.instanceMethod yX11_have ∈ WS := zw_mem 848 (by decide +kernel) (by decide +kernel)
theorem zw849 : Cond.selects RX11 yX11_have yX11_have ∈ WS := zw_mem 849 (by decide +kernel) (by decide +kernel)
theorem zw850 : Cond.code yX11_have cX11_have 4 (some .int) ∈ WS := zw_mem 850 (by decide +kernel) (by decide +kernel)
theorem zw1365 : Cond.methodLink "LetterWallsLaw" 110 yX12_have ∈ WS := zw_mem 1365 (by decide +kernel) (by decide +kernel)
theorem zw1366 : Cond.instanceMethod yX12_have ∈ WS := zw_mem 1366 (by decide +kernel) (by decide +kernel)
theorem zw1367 : Cond.selects RX12 yX12_have yX12_have ∈ WS := zw_mem 1367 (by decide +kernel) (by decide +kernel)
theorem zw1368 : Cond.code yX12_have cX12_have 4 (some .int) ∈ WS := zw_mem 1368 (by decide +kernel) (by decide +kernel)
theorem zw852 : Cond.methodLink "LetterWallsLaw" 111 yX11_lay ∈ WS := zw_mem 852 (by decide +kernel) (by decide +kernel)
theorem zw853 : Cond.instanceMethod yX11_lay ∈ WS := zw_mem 853 (by decide +kernel) (by decide +kernel)
theorem zw854 : Cond.selects RX11 yX11_lay yX11_lay ∈ WS := zw_mem 854 (by decide +kernel) (by decide +kernel)
theorem zw855 : Cond.code yX11_lay cX11_lay 7 (some .int) ∈ WS := zw_mem 855 (by decide +kernel) (by decide +kernel)
theorem zw1370 : Cond.methodLink "LetterWallsLaw" 115 yX12_lay ∈ WS := zw_mem 1370 (by decide +kernel) (by decide +kernel)
theorem zw1371 : Cond.instanceMethod yX12_lay ∈ WS := zw_mem 1371 (by decide +kernel) (by decide +kernel)
theorem zw1372 : Cond.selects RX12 yX12_lay yX12_lay ∈ WS := zw_mem 1372 (by decide +kernel) (by decide +kernel)
theorem zw1373 : Cond.code yX12_lay cX12_lay 7 (some .int) ∈ WS := zw_mem 1373 (by decide +kernel) (by decide +kernel)
theorem zw860 : Cond.methodLink "LetterWallsLaw" 116 yX11_falls ∈ WS := zw_mem 860 (by decide +kernel) (by decide +kernel)
theorem zw861 : Cond.instanceMethod yX11_falls ∈ WS := zw_mem 861 (by decide +kernel) (by decide +kernel)
theorem zw862 : Cond.selects RX11 yX11_falls yX11_falls ∈ WS := zw_mem 862 (by decide +kernel) (by decide +kernel)
theorem zw863 : Cond.code yX11_falls cX11_falls 5 (some .int) ∈ WS := zw_mem 863 (by decide +kernel) (by decide +kernel)
theorem zw1378 : Cond.methodLink "LetterWallsLaw" 119 yX12_falls ∈ WS := zw_mem 1378 (by decide +kernel) (by decide +kernel)
theorem zw1379 : Cond.instanceMethod yX12_falls ∈ WS := zw_mem 1379 (by decide +kernel) (by decide +kernel)
theorem zw1380 : Cond.selects RX12 yX12_falls yX12_falls ∈ WS := zw_mem 1380 (by decide +kernel) (by decide +kernel)
theorem zw1381 : Cond.code yX12_falls cX12_falls 4 (some .int) ∈ WS := zw_mem 1381 (by decide +kernel) (by decide +kernel)
theorem zw868 : Cond.methodLink "LetterWallsLaw" 120 yX11_builds ∈ WS := zw_mem 868 (by decide +kernel) (by decide +kernel)
theorem zw869 : Cond.instanceMethod yX11_builds ∈ WS := zw_mem 869 (by decide +kernel) (by decide +kernel)
theorem zw870 : Cond.selects RX11 yX11_builds yX11_builds ∈ WS := zw_mem 870 (by decide +kernel) (by decide +kernel)
theorem zw871 : Cond.code yX11_builds cX11_builds 3 (some .int) ∈ WS := zw_mem 871 (by decide +kernel) (by decide +kernel)
theorem zw1386 : Cond.methodLink "LetterWallsLaw" 123 yX12_builds ∈ WS := zw_mem 1386 (by decide +kernel) (by decide +kernel)
theorem zw1387 : Cond.instanceMethod yX12_builds ∈ WS := zw_mem 1387 (by decide +kernel) (by decide +kernel)
theorem zw1388 : Cond.selects RX12 yX12_builds yX12_builds ∈ WS := zw_mem 1388 (by decide +kernel) (by decide +kernel)
theorem zw1389 : Cond.code yX12_builds cX12_builds 3 (some .int) ∈ WS := zw_mem 1389 (by decide +kernel) (by decide +kernel)
theorem zw896 : Cond.methodLink "LetterWallsLaw" 124 yX11_years ∈ WS := zw_mem 896 (by decide +kernel) (by decide +kernel)
theorem zw897 : Cond.instanceMethod yX11_years ∈ WS := zw_mem 897 (by decide +kernel) (by decide +kernel)
theorem zw898 : Cond.selects RX11 yX11_years yX11_years ∈ WS := zw_mem 898 (by decide +kernel) (by decide +kernel)
theorem zw899 : Cond.code yX11_years cX11_years 4 (some .int) ∈ WS := zw_mem 899 (by decide +kernel) (by decide +kernel)
theorem zw1402 : Cond.methodLink "LetterWallsLaw" 127 yX12_years ∈ WS := zw_mem 1402 (by decide +kernel) (by decide +kernel)
theorem zw1403 : Cond.instanceMethod yX12_years ∈ WS := zw_mem 1403 (by decide +kernel) (by decide +kernel)
theorem zw1404 : Cond.selects RX12 yX12_years yX12_years ∈ WS := zw_mem 1404 (by decide +kernel) (by decide +kernel)
theorem zw1405 : Cond.code yX12_years cX12_years 6 (some .int) ∈ WS := zw_mem 1405 (by decide +kernel) (by decide +kernel)
theorem zw910 : Cond.methodLink "LetterWallsLaw" 128 yX11_seed ∈ WS := zw_mem 910 (by decide +kernel) (by decide +kernel)
theorem zw911 : Cond.instanceMethod yX11_seed ∈ WS := zw_mem 911 (by decide +kernel) (by decide +kernel)
theorem zw912 : Cond.selects RX11 yX11_seed yX11_seed ∈ WS := zw_mem 912 (by decide +kernel) (by decide +kernel)
theorem zw913 : Cond.code yX11_seed cX11_seed 3 (some .int) ∈ WS := zw_mem 913 (by decide +kernel) (by decide +kernel)
theorem zw1411 : Cond.methodLink "LetterWallsLaw" 131 yX12_seed ∈ WS := zw_mem 1411 (by decide +kernel) (by decide +kernel)
theorem zw1412 : Cond.instanceMethod yX12_seed ∈ WS := zw_mem 1412 (by decide +kernel) (by decide +kernel)
theorem zw1413 : Cond.selects RX12 yX12_seed yX12_seed ∈ WS := zw_mem 1413 (by decide +kernel) (by decide +kernel)
theorem zw1414 : Cond.code yX12_seed cX12_seed 3 (some .int) ∈ WS := zw_mem 1414 (by decide +kernel) (by decide +kernel)
theorem zw914 : Cond.methodLink "LetterWallsLaw" 132 yX11_voice ∈ WS := zw_mem 914 (by decide +kernel) (by decide +kernel)
theorem zw915 : Cond.instanceMethod yX11_voice ∈ WS := zw_mem 915 (by decide +kernel) (by decide +kernel)
theorem zw916 : Cond.selects RX11 yX11_voice yX11_voice ∈ WS := zw_mem 916 (by decide +kernel) (by decide +kernel)
theorem zw917 : Cond.code yX11_voice cX11_voice 5 (some .int) ∈ WS := zw_mem 917 (by decide +kernel) (by decide +kernel)
theorem zw1415 : Cond.methodLink "LetterWallsLaw" 135 yX12_voice ∈ WS := zw_mem 1415 (by decide +kernel) (by decide +kernel)
theorem zw1416 : Cond.instanceMethod yX12_voice ∈ WS := zw_mem 1416 (by decide +kernel) (by decide +kernel)
theorem zw1417 : Cond.selects RX12 yX12_voice yX12_voice ∈ WS := zw_mem 1417 (by decide +kernel) (by decide +kernel)
theorem zw1418 : Cond.code yX12_voice cX12_voice 6 (some .int) ∈ WS := zw_mem 1418 (by decide +kernel) (by decide +kernel)
theorem zw941 : Cond.methodLink "LetterWallsLaw" 136 yX11_body ∈ WS := zw_mem 941 (by decide +kernel) (by decide +kernel)
theorem zw942 : Cond.instanceMethod yX11_body ∈ WS := zw_mem 942 (by decide +kernel) (by decide +kernel)
theorem zw943 : Cond.selects RX11 yX11_body yX11_body ∈ WS := zw_mem 943 (by decide +kernel) (by decide +kernel)
theorem zw944 : Cond.code yX11_body cX11_body 2 (some .int) ∈ WS := zw_mem 944 (by decide +kernel) (by decide +kernel)
theorem zw1450 : Cond.methodLink "LetterWallsLaw" 139 yX12_body ∈ WS := zw_mem 1450 (by decide +kernel) (by decide +kernel)
theorem zw1451 : Cond.instanceMethod yX12_body ∈ WS := zw_mem 1451 (by decide +kernel) (by decide +kernel)
theorem zw1452 : Cond.selects RX12 yX12_body yX12_body ∈ WS := zw_mem 1452 (by decide +kernel) (by decide +kernel)
theorem zw1453 : Cond.code yX12_body cX12_body 2 (some .int) ∈ WS := zw_mem 1453 (by decide +kernel) (by decide +kernel)
theorem zw945 : Cond.methodLink "LetterWallsLaw" 140 yX11_sheet ∈ WS := zw_mem 945 (by decide +kernel) (by decide +kernel)
theorem zw946 : Cond.instanceMethod yX11_sheet ∈ WS := zw_mem 946 (by decide +kernel) (by decide +kernel)
theorem zw947 : Cond.selects RX11 yX11_sheet yX11_sheet ∈ WS := zw_mem 947 (by decide +kernel) (by decide +kernel)
theorem zw948 : Cond.code yX11_sheet cX11_sheet 4 (some .int) ∈ WS := zw_mem 948 (by decide +kernel) (by decide +kernel)
theorem zw1454 : Cond.methodLink "LetterWallsLaw" 143 yX12_sheet ∈ WS := zw_mem 1454 (by decide +kernel) (by decide +kernel)
theorem zw1455 : Cond.instanceMethod yX12_sheet ∈ WS := zw_mem 1455 (by decide +kernel) (by decide +kernel)
theorem zw1456 : Cond.selects RX12 yX12_sheet yX12_sheet ∈ WS := zw_mem 1456 (by decide +kernel) (by decide +kernel)
theorem zw1457 : Cond.code yX12_sheet cX12_sheet 5 (some .int) ∈ WS := zw_mem 1457 (by decide +kernel) (by decide +kernel)
theorem zw954 : Cond.methodLink "LetterWallsLaw" 144 yX11_put ∈ WS := zw_mem 954 (by decide +kernel) (by decide +kernel)
theorem zw955 : Cond.instanceMethod yX11_put ∈ WS := zw_mem 955 (by decide +kernel) (by decide +kernel)
theorem zw956 : Cond.selects RX11 yX11_put yX11_put ∈ WS := zw_mem 956 (by decide +kernel) (by decide +kernel)
theorem zw957 : Cond.code yX11_put cX11_put 5 (some .int) ∈ WS := zw_mem 957 (by decide +kernel) (by decide +kernel)
theorem zw1458 : Cond.methodLink "LetterWallsLaw" 147 yX12_put ∈ WS := zw_mem 1458 (by decide +kernel) (by decide +kernel)
theorem zw1459 : Cond.instanceMethod yX12_put ∈ WS := zw_mem 1459 (by decide +kernel) (by decide +kernel)
theorem zw1460 : Cond.selects RX12 yX12_put yX12_put ∈ WS := zw_mem 1460 (by decide +kernel) (by decide +kernel)
theorem zw1461 : Cond.code yX12_put cX12_put 5 (some .int) ∈ WS := zw_mem 1461 (by decide +kernel) (by decide +kernel)
theorem zw962 : Cond.methodLink "LetterWallsLaw" 148 yX11_move ∈ WS := zw_mem 962 (by decide +kernel) (by decide +kernel)
theorem zw963 : Cond.instanceMethod yX11_move ∈ WS := zw_mem 963 (by decide +kernel) (by decide +kernel)
theorem zw964 : Cond.selects RX11 yX11_move yX11_move ∈ WS := zw_mem 964 (by decide +kernel) (by decide +kernel)
theorem zw965 : Cond.code yX11_move cX11_move 8 (some .int) ∈ WS := zw_mem 965 (by decide +kernel) (by decide +kernel)
theorem zw1462 : Cond.methodLink "LetterWallsLaw" 152 yX12_move ∈ WS := zw_mem 1462 (by decide +kernel) (by decide +kernel)
theorem zw1463 : Cond.instanceMethod yX12_move ∈ WS := zw_mem 1463 (by decide +kernel) (by decide +kernel)
theorem zw1464 : Cond.selects RX12 yX12_move yX12_move ∈ WS := zw_mem 1464 (by decide +kernel) (by decide +kernel)
theorem zw1465 : Cond.code yX12_move cX12_move 7 (some .int) ∈ WS := zw_mem 1465 (by decide +kernel) (by decide +kernel)
theorem zw971 : Cond.methodLink "LetterWallsLaw" 153 yX11_bricks ∈ WS := zw_mem 971 (by decide +kernel) (by decide +kernel)
theorem zw972 : Cond.instanceMethod yX11_bricks ∈ WS := zw_mem 972 (by decide +kernel) (by decide +kernel)
theorem zw973 : Cond.selects RX11 yX11_bricks yX11_bricks ∈ WS := zw_mem 973 (by decide +kernel) (by decide +kernel)
theorem zw974 : Cond.code yX11_bricks cX11_bricks 8 (some .int) ∈ WS := zw_mem 974 (by decide +kernel) (by decide +kernel)
theorem zw1466 : Cond.methodLink "LetterWallsLaw" 156 yX12_bricks ∈ WS := zw_mem 1466 (by decide +kernel) (by decide +kernel)
theorem zw1467 : Cond.instanceMethod yX12_bricks ∈ WS := zw_mem 1467 (by decide +kernel) (by decide +kernel)
theorem zw1468 : Cond.selects RX12 yX12_bricks yX12_bricks ∈ WS := zw_mem 1468 (by decide +kernel) (by decide +kernel)
theorem zw1469 : Cond.code yX12_bricks cX12_bricks 4 (some .int) ∈ WS := zw_mem 1469 (by decide +kernel) (by decide +kernel)
theorem zw975 : Cond.methodLink "LetterWallsLaw" 157 yX11_image ∈ WS := zw_mem 975 (by decide +kernel) (by decide +kernel)
theorem zw976 : Cond.instanceMethod yX11_image ∈ WS := zw_mem 976 (by decide +kernel) (by decide +kernel)
theorem zw977 : Cond.selects RX11 yX11_image yX11_image ∈ WS := zw_mem 977 (by decide +kernel) (by decide +kernel)
theorem zw978 : Cond.code yX11_image cX11_image 1 (some .int) ∈ WS := zw_mem 978 (by decide +kernel) (by decide +kernel)
theorem zw1470 : Cond.methodLink "LetterWallsLaw" 161 yX12_image ∈ WS := zw_mem 1470 (by decide +kernel) (by decide +kernel)
theorem zw1471 : Cond.instanceMethod yX12_image ∈ WS := zw_mem 1471 (by decide +kernel) (by decide +kernel)
theorem zw1472 : Cond.selects RX12 yX12_image yX12_image ∈ WS := zw_mem 1472 (by decide +kernel) (by decide +kernel)
theorem zw1473 : Cond.code yX12_image cX12_image 1 (some .int) ∈ WS := zw_mem 1473 (by decide +kernel) (by decide +kernel)
theorem zw999 : Cond.methodLink "LetterWallsLaw" 162 yX11_restore ∈ WS := zw_mem 999 (by decide +kernel) (by decide +kernel)
theorem zw1000 : Cond.instanceMethod yX11_restore ∈ WS := zw_mem 1000 (by decide +kernel) (by decide +kernel)
theorem zw1001 : Cond.selects RX11 yX11_restore yX11_restore ∈ WS := zw_mem 1001 (by decide +kernel) (by decide +kernel)
theorem zw1002 : Cond.code yX11_restore cX11_restore 1 (some .int) ∈ WS := zw_mem 1002 (by decide +kernel) (by decide +kernel)
theorem zw1477 : Cond.methodLink "LetterWallsLaw" 165 yX12_restore ∈ WS := zw_mem 1477 (by decide +kernel) (by decide +kernel)
theorem zw1478 : Cond.instanceMethod yX12_restore ∈ WS := zw_mem 1478 (by decide +kernel) (by decide +kernel)
theorem zw1479 : Cond.selects RX12 yX12_restore yX12_restore ∈ WS := zw_mem 1479 (by decide +kernel) (by decide +kernel)
theorem zw1480 : Cond.code yX12_restore cX12_restore 1 (some .int) ∈ WS := zw_mem 1480 (by decide +kernel) (by decide +kernel)
theorem zw1003 : Cond.methodLink "LetterWallsLaw" 166 yX11_tell ∈ WS := zw_mem 1003 (by decide +kernel) (by decide +kernel)
theorem zw1004 : Cond.instanceMethod yX11_tell ∈ WS := zw_mem 1004 (by decide +kernel) (by decide +kernel)
theorem zw1005 : Cond.selects RX11 yX11_tell yX11_tell ∈ WS := zw_mem 1005 (by decide +kernel) (by decide +kernel)
theorem zw1006 : Cond.code yX11_tell cX11_tell 2 (some .int) ∈ WS := zw_mem 1006 (by decide +kernel) (by decide +kernel)
theorem zw1481 : Cond.methodLink "LetterWallsLaw" 169 yX12_tell ∈ WS := zw_mem 1481 (by decide +kernel) (by decide +kernel)
theorem zw1482 : Cond.instanceMethod yX12_tell ∈ WS := zw_mem 1482 (by decide +kernel) (by decide +kernel)
theorem zw1483 : Cond.selects RX12 yX12_tell yX12_tell ∈ WS := zw_mem 1483 (by decide +kernel) (by decide +kernel)
theorem zw1484 : Cond.code yX12_tell cX12_tell 2 (some .int) ∈ WS := zw_mem 1484 (by decide +kernel) (by decide +kernel)
theorem zw1007 : Cond.methodLink "LetterWallsLaw" 170 yX11_check ∈ WS := zw_mem 1007 (by decide +kernel) (by decide +kernel)
theorem zw1008 : Cond.instanceMethod yX11_check ∈ WS := zw_mem 1008 (by decide +kernel) (by decide +kernel)
theorem zw1009 : Cond.selects RX11 yX11_check yX11_check ∈ WS := zw_mem 1009 (by decide +kernel) (by decide +kernel)
theorem zw1010 : Cond.code yX11_check cX11_check 3 (some .int) ∈ WS := zw_mem 1010 (by decide +kernel) (by decide +kernel)
theorem zw1485 : Cond.methodLink "LetterWallsLaw" 173 yX12_check ∈ WS := zw_mem 1485 (by decide +kernel) (by decide +kernel)
theorem zw1486 : Cond.instanceMethod yX12_check ∈ WS := zw_mem 1486 (by decide +kernel) (by decide +kernel)
theorem zw1487 : Cond.selects RX12 yX12_check yX12_check ∈ WS := zw_mem 1487 (by decide +kernel) (by decide +kernel)
theorem zw1488 : Cond.code yX12_check cX12_check 4 (some .int) ∈ WS := zw_mem 1488 (by decide +kernel) (by decide +kernel)
theorem zw1015 : Cond.methodLink "LetterWallsLaw" 174 yX11_count ∈ WS := zw_mem 1015 (by decide +kernel) (by decide +kernel)
theorem zw1016 : Cond.instanceMethod yX11_count ∈ WS := zw_mem 1016 (by decide +kernel) (by decide +kernel)
theorem zw1017 : Cond.selects RX11 yX11_count yX11_count ∈ WS := zw_mem 1017 (by decide +kernel) (by decide +kernel)
theorem zw1018 : Cond.code yX11_count cX11_count 2 (some .int) ∈ WS := zw_mem 1018 (by decide +kernel) (by decide +kernel)
theorem zw1489 : Cond.methodLink "LetterWallsLaw" 177 yX12_count ∈ WS := zw_mem 1489 (by decide +kernel) (by decide +kernel)
theorem zw1490 : Cond.instanceMethod yX12_count ∈ WS := zw_mem 1490 (by decide +kernel) (by decide +kernel)
theorem zw1491 : Cond.selects RX12 yX12_count yX12_count ∈ WS := zw_mem 1491 (by decide +kernel) (by decide +kernel)
theorem zw1492 : Cond.code yX12_count cX12_count 4 (some .int) ∈ WS := zw_mem 1492 (by decide +kernel) (by decide +kernel)
theorem zw1023 : Cond.methodLink "LetterWallsLaw" 178 yX11_told ∈ WS := zw_mem 1023 (by decide +kernel) (by decide +kernel)
theorem zw1024 : Cond.instanceMethod yX11_told ∈ WS := zw_mem 1024 (by decide +kernel) (by decide +kernel)
theorem zw1025 : Cond.selects RX11 yX11_told yX11_told ∈ WS := zw_mem 1025 (by decide +kernel) (by decide +kernel)
theorem zw1026 : Cond.code yX11_told cX11_told 2 (some .int) ∈ WS := zw_mem 1026 (by decide +kernel) (by decide +kernel)
theorem zw1493 : Cond.methodLink "LetterWallsLaw" 181 yX12_told ∈ WS := zw_mem 1493 (by decide +kernel) (by decide +kernel)
theorem zw1494 : Cond.instanceMethod yX12_told ∈ WS := zw_mem 1494 (by decide +kernel) (by decide +kernel)
theorem zw1495 : Cond.selects RX12 yX12_told yX12_told ∈ WS := zw_mem 1495 (by decide +kernel) (by decide +kernel)
theorem zw1496 : Cond.code yX12_told cX12_told 2 (some .int) ∈ WS := zw_mem 1496 (by decide +kernel) (by decide +kernel)
theorem zw94 : Cond.classLink "LetterWallsLaw" 7 RX11 ∈ WS := zw_mem 94 (by decide +kernel) (by decide +kernel)
theorem zw95 : Cond.instantiable RX11 11 ∈ WS := zw_mem 95 (by decide +kernel) (by decide +kernel)
theorem zw1027 : Cond.classLink "LetterWallsLaw" 10 RX12 ∈ WS := zw_mem 1027 (by decide +kernel) (by decide +kernel)
theorem zw1028 : Cond.instantiable RX12 28 ∈ WS := zw_mem 1028 (by decide +kernel) (by decide +kernel)
theorem zw96 : Cond.methodLink "LetterWallsLaw" 9 yX11_init ∈ WS := zw_mem 96 (by decide +kernel) (by decide +kernel)
theorem zw97 : Cond.instanceMethod yX11_init ∈ WS := zw_mem 97 (by decide +kernel) (by decide +kernel)
theorem zw98 : Cond.code yX11_init cX11_init 2 none ∈ WS := zw_mem 98 (by decide +kernel) (by decide +kernel)
theorem zw1029 : Cond.methodLink "LetterWallsLaw" 12 yX12_init ∈ WS := zw_mem 1029 (by decide +kernel) (by decide +kernel)
theorem zw1030 : Cond.instanceMethod yX12_init ∈ WS := zw_mem 1030 (by decide +kernel) (by decide +kernel)
theorem zw1031 : Cond.code yX12_init cX12_init 1 none ∈ WS := zw_mem 1031 (by decide +kernel) (by decide +kernel)
theorem dL_law_0 : decode code 0 = .ok (.new 7, 3) := by decide +kernel
theorem dL_law_3 : decode code 3 = .ok (.dup, 1) := by decide +kernel
theorem dL_law_4 : decode code 4 = .ok (.invokespecial 9, 3) := by decide +kernel
theorem dL_law_7 : decode code 7 = .ok (.astore_n 1, 1) := by decide +kernel
theorem dL_law_8 : decode code 8 = .ok (.new 10, 3) := by decide +kernel
theorem dL_law_11 : decode code 11 = .ok (.dup, 1) := by decide +kernel
theorem dL_law_12 : decode code 12 = .ok (.invokespecial 12, 3) := by decide +kernel
theorem dL_law_15 : decode code 15 = .ok (.astore_n 2, 1) := by decide +kernel
theorem dL_law_16 : decode code 16 = .ok (.iconst 0, 1) := by decide +kernel
theorem dL_law_17 : decode code 17 = .ok (.istore_n 3, 1) := by decide +kernel
theorem dL_law_18 : decode code 18 = .ok (.iload_n 3, 1) := by decide +kernel
theorem dL_law_19 : decode code 19 = .ok (.aload_n 0, 1) := by decide +kernel
theorem dL_law_20 : decode code 20 = .ok (.arraylength, 1) := by decide +kernel
theorem dL_law_21 : decode code 21 = .ok (.bipush 6, 2) := by decide +kernel
theorem dL_law_23 : decode code 23 = .ok (.isub, 1) := by decide +kernel
theorem dL_law_24 : decode code 24 = .ok (.if_icmp .gt 1460, 3) := by decide +kernel
theorem dL_law_27 : decode code 27 = .ok (.aload_n 0, 1) := by decide +kernel
theorem dL_law_28 : decode code 28 = .ok (.iload_n 3, 1) := by decide +kernel
theorem dL_law_29 : decode code 29 = .ok (.iaload, 1) := by decide +kernel
theorem dL_law_30 : decode code 30 = .ok (.bipush 63, 2) := by decide +kernel
theorem dL_law_32 : decode code 32 = .ok (.iand, 1) := by decide +kernel
theorem dL_law_33 : decode code 33 = .ok (.tableswitch 1445 0 39 #[175, 208, 241, 274, 317, 360, 393, 426, 459, 492, 525, 588, 611, 634, 667, 700, 723, 756, 779, 802, 835, 868, 891, 924, 977, 1000, 1033, 1056, 1079, 1122, 1145, 1188, 1231, 1294, 1327, 1340, 1353, 1376, 1399, 1422], 175) := by decide +kernel
theorem dL_law_208 : decode code 208 = .ok (.aload_n 1, 1) := by decide +kernel
theorem dL_law_209 : decode code 209 = .ok (.aload_n 0, 1) := by decide +kernel
theorem dL_law_210 : decode code 210 = .ok (.iload_n 3, 1) := by decide +kernel
theorem dL_law_211 : decode code 211 = .ok (.iconst 1, 1) := by decide +kernel
theorem dL_law_212 : decode code 212 = .ok (.iadd, 1) := by decide +kernel
theorem dL_law_213 : decode code 213 = .ok (.iaload, 1) := by decide +kernel
theorem dL_law_214 : decode code 214 = .ok (.aload_n 0, 1) := by decide +kernel
theorem dL_law_215 : decode code 215 = .ok (.iload_n 3, 1) := by decide +kernel
theorem dL_law_216 : decode code 216 = .ok (.iconst 2, 1) := by decide +kernel
theorem dL_law_217 : decode code 217 = .ok (.iadd, 1) := by decide +kernel
theorem dL_law_218 : decode code 218 = .ok (.iaload, 1) := by decide +kernel
theorem dL_law_219 : decode code 219 = .ok (.invokevirtual 13, 3) := by decide +kernel
theorem dL_law_222 : decode code 222 = .ok (.aload_n 2, 1) := by decide +kernel
theorem dL_law_223 : decode code 223 = .ok (.aload_n 0, 1) := by decide +kernel
theorem dL_law_224 : decode code 224 = .ok (.iload_n 3, 1) := by decide +kernel
theorem dL_law_225 : decode code 225 = .ok (.iconst 1, 1) := by decide +kernel
theorem dL_law_226 : decode code 226 = .ok (.iadd, 1) := by decide +kernel
theorem dL_law_227 : decode code 227 = .ok (.iaload, 1) := by decide +kernel
theorem dL_law_228 : decode code 228 = .ok (.aload_n 0, 1) := by decide +kernel
theorem dL_law_229 : decode code 229 = .ok (.iload_n 3, 1) := by decide +kernel
theorem dL_law_230 : decode code 230 = .ok (.iconst 2, 1) := by decide +kernel
theorem dL_law_231 : decode code 231 = .ok (.iadd, 1) := by decide +kernel
theorem dL_law_232 : decode code 232 = .ok (.iaload, 1) := by decide +kernel
theorem dL_law_233 : decode code 233 = .ok (.invokevirtual 17, 3) := by decide +kernel
theorem dL_law_236 : decode code 236 = .ok (.if_icmp .eq 1242, 3) := by decide +kernel
theorem dL_law_241 : decode code 241 = .ok (.aload_n 1, 1) := by decide +kernel
theorem dL_law_242 : decode code 242 = .ok (.aload_n 0, 1) := by decide +kernel
theorem dL_law_243 : decode code 243 = .ok (.iload_n 3, 1) := by decide +kernel
theorem dL_law_244 : decode code 244 = .ok (.iconst 1, 1) := by decide +kernel
theorem dL_law_245 : decode code 245 = .ok (.iadd, 1) := by decide +kernel
theorem dL_law_246 : decode code 246 = .ok (.iaload, 1) := by decide +kernel
theorem dL_law_247 : decode code 247 = .ok (.aload_n 0, 1) := by decide +kernel
theorem dL_law_248 : decode code 248 = .ok (.iload_n 3, 1) := by decide +kernel
theorem dL_law_249 : decode code 249 = .ok (.iconst 2, 1) := by decide +kernel
theorem dL_law_250 : decode code 250 = .ok (.iadd, 1) := by decide +kernel
theorem dL_law_251 : decode code 251 = .ok (.iaload, 1) := by decide +kernel
theorem dL_law_252 : decode code 252 = .ok (.invokevirtual 18, 3) := by decide +kernel
theorem dL_law_255 : decode code 255 = .ok (.aload_n 2, 1) := by decide +kernel
theorem dL_law_256 : decode code 256 = .ok (.aload_n 0, 1) := by decide +kernel
theorem dL_law_257 : decode code 257 = .ok (.iload_n 3, 1) := by decide +kernel
theorem dL_law_258 : decode code 258 = .ok (.iconst 1, 1) := by decide +kernel
theorem dL_law_259 : decode code 259 = .ok (.iadd, 1) := by decide +kernel
theorem dL_law_260 : decode code 260 = .ok (.iaload, 1) := by decide +kernel
theorem dL_law_261 : decode code 261 = .ok (.aload_n 0, 1) := by decide +kernel
theorem dL_law_262 : decode code 262 = .ok (.iload_n 3, 1) := by decide +kernel
theorem dL_law_263 : decode code 263 = .ok (.iconst 2, 1) := by decide +kernel
theorem dL_law_264 : decode code 264 = .ok (.iadd, 1) := by decide +kernel
theorem dL_law_265 : decode code 265 = .ok (.iaload, 1) := by decide +kernel
theorem dL_law_266 : decode code 266 = .ok (.invokevirtual 21, 3) := by decide +kernel
theorem dL_law_269 : decode code 269 = .ok (.if_icmp .eq 1209, 3) := by decide +kernel
theorem dL_law_274 : decode code 274 = .ok (.aload_n 1, 1) := by decide +kernel
theorem dL_law_275 : decode code 275 = .ok (.aload_n 0, 1) := by decide +kernel
theorem dL_law_276 : decode code 276 = .ok (.iload_n 3, 1) := by decide +kernel
theorem dL_law_277 : decode code 277 = .ok (.iconst 1, 1) := by decide +kernel
theorem dL_law_278 : decode code 278 = .ok (.iadd, 1) := by decide +kernel
theorem dL_law_279 : decode code 279 = .ok (.iaload, 1) := by decide +kernel
theorem dL_law_280 : decode code 280 = .ok (.aload_n 0, 1) := by decide +kernel
theorem dL_law_281 : decode code 281 = .ok (.iload_n 3, 1) := by decide +kernel
theorem dL_law_282 : decode code 282 = .ok (.iconst 2, 1) := by decide +kernel
theorem dL_law_283 : decode code 283 = .ok (.iadd, 1) := by decide +kernel
theorem dL_law_284 : decode code 284 = .ok (.iaload, 1) := by decide +kernel
theorem dL_law_285 : decode code 285 = .ok (.invokevirtual 22, 3) := by decide +kernel
theorem dL_law_288 : decode code 288 = .ok (.aload_n 2, 1) := by decide +kernel
theorem dL_law_289 : decode code 289 = .ok (.aload_n 0, 1) := by decide +kernel
theorem dL_law_290 : decode code 290 = .ok (.iload_n 3, 1) := by decide +kernel
theorem dL_law_291 : decode code 291 = .ok (.iconst 1, 1) := by decide +kernel
theorem dL_law_292 : decode code 292 = .ok (.iadd, 1) := by decide +kernel
theorem dL_law_293 : decode code 293 = .ok (.iaload, 1) := by decide +kernel
theorem dL_law_294 : decode code 294 = .ok (.aload_n 0, 1) := by decide +kernel
theorem dL_law_295 : decode code 295 = .ok (.iload_n 3, 1) := by decide +kernel
theorem dL_law_296 : decode code 296 = .ok (.iconst 2, 1) := by decide +kernel
theorem dL_law_297 : decode code 297 = .ok (.iadd, 1) := by decide +kernel
theorem dL_law_298 : decode code 298 = .ok (.iaload, 1) := by decide +kernel
theorem dL_law_299 : decode code 299 = .ok (.invokevirtual 25, 3) := by decide +kernel
theorem dL_law_302 : decode code 302 = .ok (.if_icmp .eq 1176, 3) := by decide +kernel
theorem dL_law_307 : decode code 307 = .ok (.aload_n 1, 1) := by decide +kernel
theorem dL_law_308 : decode code 308 = .ok (.aload_n 0, 1) := by decide +kernel
theorem dL_law_309 : decode code 309 = .ok (.iload_n 3, 1) := by decide +kernel
theorem dL_law_310 : decode code 310 = .ok (.iconst 1, 1) := by decide +kernel
theorem dL_law_311 : decode code 311 = .ok (.iadd, 1) := by decide +kernel
theorem dL_law_312 : decode code 312 = .ok (.iaload, 1) := by decide +kernel
theorem dL_law_313 : decode code 313 = .ok (.aload_n 0, 1) := by decide +kernel
theorem dL_law_314 : decode code 314 = .ok (.iload_n 3, 1) := by decide +kernel
theorem dL_law_315 : decode code 315 = .ok (.iconst 2, 1) := by decide +kernel
theorem dL_law_316 : decode code 316 = .ok (.iadd, 1) := by decide +kernel
theorem dL_law_317 : decode code 317 = .ok (.iaload, 1) := by decide +kernel
theorem dL_law_318 : decode code 318 = .ok (.aload_n 0, 1) := by decide +kernel
theorem dL_law_319 : decode code 319 = .ok (.iload_n 3, 1) := by decide +kernel
theorem dL_law_320 : decode code 320 = .ok (.iconst 3, 1) := by decide +kernel
theorem dL_law_321 : decode code 321 = .ok (.iadd, 1) := by decide +kernel
theorem dL_law_322 : decode code 322 = .ok (.iaload, 1) := by decide +kernel
theorem dL_law_323 : decode code 323 = .ok (.invokevirtual 26, 3) := by decide +kernel
theorem dL_law_326 : decode code 326 = .ok (.aload_n 2, 1) := by decide +kernel
theorem dL_law_327 : decode code 327 = .ok (.aload_n 0, 1) := by decide +kernel
theorem dL_law_328 : decode code 328 = .ok (.iload_n 3, 1) := by decide +kernel
theorem dL_law_329 : decode code 329 = .ok (.iconst 1, 1) := by decide +kernel
theorem dL_law_330 : decode code 330 = .ok (.iadd, 1) := by decide +kernel
theorem dL_law_331 : decode code 331 = .ok (.iaload, 1) := by decide +kernel
theorem dL_law_332 : decode code 332 = .ok (.aload_n 0, 1) := by decide +kernel
theorem dL_law_333 : decode code 333 = .ok (.iload_n 3, 1) := by decide +kernel
theorem dL_law_334 : decode code 334 = .ok (.iconst 2, 1) := by decide +kernel
theorem dL_law_335 : decode code 335 = .ok (.iadd, 1) := by decide +kernel
theorem dL_law_336 : decode code 336 = .ok (.iaload, 1) := by decide +kernel
theorem dL_law_337 : decode code 337 = .ok (.aload_n 0, 1) := by decide +kernel
theorem dL_law_338 : decode code 338 = .ok (.iload_n 3, 1) := by decide +kernel
theorem dL_law_339 : decode code 339 = .ok (.iconst 3, 1) := by decide +kernel
theorem dL_law_340 : decode code 340 = .ok (.iadd, 1) := by decide +kernel
theorem dL_law_341 : decode code 341 = .ok (.iaload, 1) := by decide +kernel
theorem dL_law_342 : decode code 342 = .ok (.invokevirtual 30, 3) := by decide +kernel
theorem dL_law_345 : decode code 345 = .ok (.if_icmp .eq 1133, 3) := by decide +kernel
theorem dL_law_350 : decode code 350 = .ok (.aload_n 1, 1) := by decide +kernel
theorem dL_law_351 : decode code 351 = .ok (.aload_n 0, 1) := by decide +kernel
theorem dL_law_352 : decode code 352 = .ok (.iload_n 3, 1) := by decide +kernel
theorem dL_law_353 : decode code 353 = .ok (.iconst 1, 1) := by decide +kernel
theorem dL_law_354 : decode code 354 = .ok (.iadd, 1) := by decide +kernel
theorem dL_law_355 : decode code 355 = .ok (.iaload, 1) := by decide +kernel
theorem dL_law_356 : decode code 356 = .ok (.aload_n 0, 1) := by decide +kernel
theorem dL_law_357 : decode code 357 = .ok (.iload_n 3, 1) := by decide +kernel
theorem dL_law_358 : decode code 358 = .ok (.iconst 2, 1) := by decide +kernel
theorem dL_law_359 : decode code 359 = .ok (.iadd, 1) := by decide +kernel
theorem dL_law_360 : decode code 360 = .ok (.iaload, 1) := by decide +kernel
theorem dL_law_361 : decode code 361 = .ok (.aload_n 0, 1) := by decide +kernel
theorem dL_law_362 : decode code 362 = .ok (.iload_n 3, 1) := by decide +kernel
theorem dL_law_363 : decode code 363 = .ok (.iconst 3, 1) := by decide +kernel
theorem dL_law_364 : decode code 364 = .ok (.iadd, 1) := by decide +kernel
theorem dL_law_365 : decode code 365 = .ok (.iaload, 1) := by decide +kernel
theorem dL_law_366 : decode code 366 = .ok (.invokevirtual 31, 3) := by decide +kernel
theorem dL_law_369 : decode code 369 = .ok (.aload_n 2, 1) := by decide +kernel
theorem dL_law_370 : decode code 370 = .ok (.aload_n 0, 1) := by decide +kernel
theorem dL_law_371 : decode code 371 = .ok (.iload_n 3, 1) := by decide +kernel
theorem dL_law_372 : decode code 372 = .ok (.iconst 1, 1) := by decide +kernel
theorem dL_law_373 : decode code 373 = .ok (.iadd, 1) := by decide +kernel
theorem dL_law_374 : decode code 374 = .ok (.iaload, 1) := by decide +kernel
theorem dL_law_375 : decode code 375 = .ok (.aload_n 0, 1) := by decide +kernel
theorem dL_law_376 : decode code 376 = .ok (.iload_n 3, 1) := by decide +kernel
theorem dL_law_377 : decode code 377 = .ok (.iconst 2, 1) := by decide +kernel
theorem dL_law_378 : decode code 378 = .ok (.iadd, 1) := by decide +kernel
theorem dL_law_379 : decode code 379 = .ok (.iaload, 1) := by decide +kernel
theorem dL_law_380 : decode code 380 = .ok (.aload_n 0, 1) := by decide +kernel
theorem dL_law_381 : decode code 381 = .ok (.iload_n 3, 1) := by decide +kernel
theorem dL_law_382 : decode code 382 = .ok (.iconst 3, 1) := by decide +kernel
theorem dL_law_383 : decode code 383 = .ok (.iadd, 1) := by decide +kernel
theorem dL_law_384 : decode code 384 = .ok (.iaload, 1) := by decide +kernel
theorem dL_law_385 : decode code 385 = .ok (.invokevirtual 34, 3) := by decide +kernel
theorem dL_law_388 : decode code 388 = .ok (.if_icmp .eq 1090, 3) := by decide +kernel
theorem dL_law_393 : decode code 393 = .ok (.aload_n 1, 1) := by decide +kernel
theorem dL_law_394 : decode code 394 = .ok (.aload_n 0, 1) := by decide +kernel
theorem dL_law_395 : decode code 395 = .ok (.iload_n 3, 1) := by decide +kernel
theorem dL_law_396 : decode code 396 = .ok (.iconst 1, 1) := by decide +kernel
theorem dL_law_397 : decode code 397 = .ok (.iadd, 1) := by decide +kernel
theorem dL_law_398 : decode code 398 = .ok (.iaload, 1) := by decide +kernel
theorem dL_law_399 : decode code 399 = .ok (.aload_n 0, 1) := by decide +kernel
theorem dL_law_400 : decode code 400 = .ok (.iload_n 3, 1) := by decide +kernel
theorem dL_law_401 : decode code 401 = .ok (.iconst 2, 1) := by decide +kernel
theorem dL_law_402 : decode code 402 = .ok (.iadd, 1) := by decide +kernel
theorem dL_law_403 : decode code 403 = .ok (.iaload, 1) := by decide +kernel
theorem dL_law_404 : decode code 404 = .ok (.invokevirtual 35, 3) := by decide +kernel
theorem dL_law_407 : decode code 407 = .ok (.aload_n 2, 1) := by decide +kernel
theorem dL_law_408 : decode code 408 = .ok (.aload_n 0, 1) := by decide +kernel
theorem dL_law_409 : decode code 409 = .ok (.iload_n 3, 1) := by decide +kernel
theorem dL_law_410 : decode code 410 = .ok (.iconst 1, 1) := by decide +kernel
theorem dL_law_411 : decode code 411 = .ok (.iadd, 1) := by decide +kernel
theorem dL_law_412 : decode code 412 = .ok (.iaload, 1) := by decide +kernel
theorem dL_law_413 : decode code 413 = .ok (.aload_n 0, 1) := by decide +kernel
theorem dL_law_414 : decode code 414 = .ok (.iload_n 3, 1) := by decide +kernel
theorem dL_law_415 : decode code 415 = .ok (.iconst 2, 1) := by decide +kernel
theorem dL_law_416 : decode code 416 = .ok (.iadd, 1) := by decide +kernel
theorem dL_law_417 : decode code 417 = .ok (.iaload, 1) := by decide +kernel
theorem dL_law_418 : decode code 418 = .ok (.invokevirtual 38, 3) := by decide +kernel
theorem dL_law_421 : decode code 421 = .ok (.if_icmp .eq 1057, 3) := by decide +kernel
theorem dL_law_426 : decode code 426 = .ok (.aload_n 1, 1) := by decide +kernel
theorem dL_law_427 : decode code 427 = .ok (.aload_n 0, 1) := by decide +kernel
theorem dL_law_428 : decode code 428 = .ok (.iload_n 3, 1) := by decide +kernel
theorem dL_law_429 : decode code 429 = .ok (.iconst 1, 1) := by decide +kernel
theorem dL_law_430 : decode code 430 = .ok (.iadd, 1) := by decide +kernel
theorem dL_law_431 : decode code 431 = .ok (.iaload, 1) := by decide +kernel
theorem dL_law_432 : decode code 432 = .ok (.aload_n 0, 1) := by decide +kernel
theorem dL_law_433 : decode code 433 = .ok (.iload_n 3, 1) := by decide +kernel
theorem dL_law_434 : decode code 434 = .ok (.iconst 2, 1) := by decide +kernel
theorem dL_law_435 : decode code 435 = .ok (.iadd, 1) := by decide +kernel
theorem dL_law_436 : decode code 436 = .ok (.iaload, 1) := by decide +kernel
theorem dL_law_437 : decode code 437 = .ok (.invokevirtual 39, 3) := by decide +kernel
theorem dL_law_440 : decode code 440 = .ok (.aload_n 2, 1) := by decide +kernel
theorem dL_law_441 : decode code 441 = .ok (.aload_n 0, 1) := by decide +kernel
theorem dL_law_442 : decode code 442 = .ok (.iload_n 3, 1) := by decide +kernel
theorem dL_law_443 : decode code 443 = .ok (.iconst 1, 1) := by decide +kernel
theorem dL_law_444 : decode code 444 = .ok (.iadd, 1) := by decide +kernel
theorem dL_law_445 : decode code 445 = .ok (.iaload, 1) := by decide +kernel
theorem dL_law_446 : decode code 446 = .ok (.aload_n 0, 1) := by decide +kernel
theorem dL_law_447 : decode code 447 = .ok (.iload_n 3, 1) := by decide +kernel
theorem dL_law_448 : decode code 448 = .ok (.iconst 2, 1) := by decide +kernel
theorem dL_law_449 : decode code 449 = .ok (.iadd, 1) := by decide +kernel
theorem dL_law_450 : decode code 450 = .ok (.iaload, 1) := by decide +kernel
theorem dL_law_451 : decode code 451 = .ok (.invokevirtual 42, 3) := by decide +kernel
theorem dL_law_454 : decode code 454 = .ok (.if_icmp .eq 1024, 3) := by decide +kernel
theorem dL_law_459 : decode code 459 = .ok (.aload_n 1, 1) := by decide +kernel
theorem dL_law_460 : decode code 460 = .ok (.aload_n 0, 1) := by decide +kernel
theorem dL_law_461 : decode code 461 = .ok (.iload_n 3, 1) := by decide +kernel
theorem dL_law_462 : decode code 462 = .ok (.iconst 1, 1) := by decide +kernel
theorem dL_law_463 : decode code 463 = .ok (.iadd, 1) := by decide +kernel
theorem dL_law_464 : decode code 464 = .ok (.iaload, 1) := by decide +kernel
theorem dL_law_465 : decode code 465 = .ok (.aload_n 0, 1) := by decide +kernel
theorem dL_law_466 : decode code 466 = .ok (.iload_n 3, 1) := by decide +kernel
theorem dL_law_467 : decode code 467 = .ok (.iconst 2, 1) := by decide +kernel
theorem dL_law_468 : decode code 468 = .ok (.iadd, 1) := by decide +kernel
theorem dL_law_469 : decode code 469 = .ok (.iaload, 1) := by decide +kernel
theorem dL_law_470 : decode code 470 = .ok (.invokevirtual 43, 3) := by decide +kernel
theorem dL_law_473 : decode code 473 = .ok (.aload_n 2, 1) := by decide +kernel
theorem dL_law_474 : decode code 474 = .ok (.aload_n 0, 1) := by decide +kernel
theorem dL_law_475 : decode code 475 = .ok (.iload_n 3, 1) := by decide +kernel
theorem dL_law_476 : decode code 476 = .ok (.iconst 1, 1) := by decide +kernel
theorem dL_law_477 : decode code 477 = .ok (.iadd, 1) := by decide +kernel
theorem dL_law_478 : decode code 478 = .ok (.iaload, 1) := by decide +kernel
theorem dL_law_479 : decode code 479 = .ok (.aload_n 0, 1) := by decide +kernel
theorem dL_law_480 : decode code 480 = .ok (.iload_n 3, 1) := by decide +kernel
theorem dL_law_481 : decode code 481 = .ok (.iconst 2, 1) := by decide +kernel
theorem dL_law_482 : decode code 482 = .ok (.iadd, 1) := by decide +kernel
theorem dL_law_483 : decode code 483 = .ok (.iaload, 1) := by decide +kernel
theorem dL_law_484 : decode code 484 = .ok (.invokevirtual 46, 3) := by decide +kernel
theorem dL_law_487 : decode code 487 = .ok (.if_icmp .eq 991, 3) := by decide +kernel
theorem dL_law_492 : decode code 492 = .ok (.aload_n 1, 1) := by decide +kernel
theorem dL_law_493 : decode code 493 = .ok (.aload_n 0, 1) := by decide +kernel
theorem dL_law_494 : decode code 494 = .ok (.iload_n 3, 1) := by decide +kernel
theorem dL_law_495 : decode code 495 = .ok (.iconst 1, 1) := by decide +kernel
theorem dL_law_496 : decode code 496 = .ok (.iadd, 1) := by decide +kernel
theorem dL_law_497 : decode code 497 = .ok (.iaload, 1) := by decide +kernel
theorem dL_law_498 : decode code 498 = .ok (.aload_n 0, 1) := by decide +kernel
theorem dL_law_499 : decode code 499 = .ok (.iload_n 3, 1) := by decide +kernel
theorem dL_law_500 : decode code 500 = .ok (.iconst 2, 1) := by decide +kernel
theorem dL_law_501 : decode code 501 = .ok (.iadd, 1) := by decide +kernel
theorem dL_law_502 : decode code 502 = .ok (.iaload, 1) := by decide +kernel
theorem dL_law_503 : decode code 503 = .ok (.invokevirtual 47, 3) := by decide +kernel
theorem dL_law_506 : decode code 506 = .ok (.aload_n 2, 1) := by decide +kernel
theorem dL_law_507 : decode code 507 = .ok (.aload_n 0, 1) := by decide +kernel
theorem dL_law_508 : decode code 508 = .ok (.iload_n 3, 1) := by decide +kernel
theorem dL_law_509 : decode code 509 = .ok (.iconst 1, 1) := by decide +kernel
theorem dL_law_510 : decode code 510 = .ok (.iadd, 1) := by decide +kernel
theorem dL_law_511 : decode code 511 = .ok (.iaload, 1) := by decide +kernel
theorem dL_law_512 : decode code 512 = .ok (.aload_n 0, 1) := by decide +kernel
theorem dL_law_513 : decode code 513 = .ok (.iload_n 3, 1) := by decide +kernel
theorem dL_law_514 : decode code 514 = .ok (.iconst 2, 1) := by decide +kernel
theorem dL_law_515 : decode code 515 = .ok (.iadd, 1) := by decide +kernel
theorem dL_law_516 : decode code 516 = .ok (.iaload, 1) := by decide +kernel
theorem dL_law_517 : decode code 517 = .ok (.invokevirtual 50, 3) := by decide +kernel
theorem dL_law_520 : decode code 520 = .ok (.if_icmp .eq 958, 3) := by decide +kernel
theorem dL_law_525 : decode code 525 = .ok (.aload_n 1, 1) := by decide +kernel
theorem dL_law_526 : decode code 526 = .ok (.aload_n 0, 1) := by decide +kernel
theorem dL_law_527 : decode code 527 = .ok (.iload_n 3, 1) := by decide +kernel
theorem dL_law_528 : decode code 528 = .ok (.iconst 1, 1) := by decide +kernel
theorem dL_law_529 : decode code 529 = .ok (.iadd, 1) := by decide +kernel
theorem dL_law_530 : decode code 530 = .ok (.iaload, 1) := by decide +kernel
theorem dL_law_531 : decode code 531 = .ok (.aload_n 0, 1) := by decide +kernel
theorem dL_law_532 : decode code 532 = .ok (.iload_n 3, 1) := by decide +kernel
theorem dL_law_533 : decode code 533 = .ok (.iconst 2, 1) := by decide +kernel
theorem dL_law_534 : decode code 534 = .ok (.iadd, 1) := by decide +kernel
theorem dL_law_535 : decode code 535 = .ok (.iaload, 1) := by decide +kernel
theorem dL_law_536 : decode code 536 = .ok (.invokevirtual 51, 3) := by decide +kernel
theorem dL_law_539 : decode code 539 = .ok (.aload_n 2, 1) := by decide +kernel
theorem dL_law_540 : decode code 540 = .ok (.aload_n 0, 1) := by decide +kernel
theorem dL_law_541 : decode code 541 = .ok (.iload_n 3, 1) := by decide +kernel
theorem dL_law_542 : decode code 542 = .ok (.iconst 1, 1) := by decide +kernel
theorem dL_law_543 : decode code 543 = .ok (.iadd, 1) := by decide +kernel
theorem dL_law_544 : decode code 544 = .ok (.iaload, 1) := by decide +kernel
theorem dL_law_545 : decode code 545 = .ok (.aload_n 0, 1) := by decide +kernel
theorem dL_law_546 : decode code 546 = .ok (.iload_n 3, 1) := by decide +kernel
theorem dL_law_547 : decode code 547 = .ok (.iconst 2, 1) := by decide +kernel
theorem dL_law_548 : decode code 548 = .ok (.iadd, 1) := by decide +kernel
theorem dL_law_549 : decode code 549 = .ok (.iaload, 1) := by decide +kernel
theorem dL_law_550 : decode code 550 = .ok (.invokevirtual 54, 3) := by decide +kernel
theorem dL_law_553 : decode code 553 = .ok (.if_icmp .eq 925, 3) := by decide +kernel
theorem dL_law_558 : decode code 558 = .ok (.aload_n 1, 1) := by decide +kernel
theorem dL_law_559 : decode code 559 = .ok (.aload_n 0, 1) := by decide +kernel
theorem dL_law_560 : decode code 560 = .ok (.iload_n 3, 1) := by decide +kernel
theorem dL_law_561 : decode code 561 = .ok (.iconst 1, 1) := by decide +kernel
theorem dL_law_562 : decode code 562 = .ok (.iadd, 1) := by decide +kernel
theorem dL_law_563 : decode code 563 = .ok (.iaload, 1) := by decide +kernel
theorem dL_law_564 : decode code 564 = .ok (.i2l, 1) := by decide +kernel
theorem dL_law_565 : decode code 565 = .ok (.bipush 32, 2) := by decide +kernel
theorem dL_law_567 : decode code 567 = .ok (.lshl, 1) := by decide +kernel
theorem dL_law_568 : decode code 568 = .ok (.aload_n 0, 1) := by decide +kernel
theorem dL_law_569 : decode code 569 = .ok (.iload_n 3, 1) := by decide +kernel
theorem dL_law_570 : decode code 570 = .ok (.iconst 2, 1) := by decide +kernel
theorem dL_law_571 : decode code 571 = .ok (.iadd, 1) := by decide +kernel
theorem dL_law_572 : decode code 572 = .ok (.iaload, 1) := by decide +kernel
theorem dL_law_573 : decode code 573 = .ok (.i2l, 1) := by decide +kernel
theorem dL_law_574 : decode code 574 = .ok (.ldc2_w 55, 3) := by decide +kernel
theorem dL_law_577 : decode code 577 = .ok (.land, 1) := by decide +kernel
theorem dL_law_578 : decode code 578 = .ok (.lor, 1) := by decide +kernel
theorem dL_law_579 : decode code 579 = .ok (.aload_n 0, 1) := by decide +kernel
theorem dL_law_580 : decode code 580 = .ok (.iload_n 3, 1) := by decide +kernel
theorem dL_law_581 : decode code 581 = .ok (.iconst 3, 1) := by decide +kernel
theorem dL_law_582 : decode code 582 = .ok (.iadd, 1) := by decide +kernel
theorem dL_law_583 : decode code 583 = .ok (.iaload, 1) := by decide +kernel
theorem dL_law_584 : decode code 584 = .ok (.invokevirtual 57, 3) := by decide +kernel
theorem dL_law_587 : decode code 587 = .ok (.aload_n 2, 1) := by decide +kernel
theorem dL_law_588 : decode code 588 = .ok (.aload_n 0, 1) := by decide +kernel
theorem dL_law_589 : decode code 589 = .ok (.iload_n 3, 1) := by decide +kernel
theorem dL_law_590 : decode code 590 = .ok (.iconst 1, 1) := by decide +kernel
theorem dL_law_591 : decode code 591 = .ok (.iadd, 1) := by decide +kernel
theorem dL_law_592 : decode code 592 = .ok (.iaload, 1) := by decide +kernel
theorem dL_law_593 : decode code 593 = .ok (.i2l, 1) := by decide +kernel
theorem dL_law_594 : decode code 594 = .ok (.bipush 32, 2) := by decide +kernel
theorem dL_law_596 : decode code 596 = .ok (.lshl, 1) := by decide +kernel
theorem dL_law_597 : decode code 597 = .ok (.aload_n 0, 1) := by decide +kernel
theorem dL_law_598 : decode code 598 = .ok (.iload_n 3, 1) := by decide +kernel
theorem dL_law_599 : decode code 599 = .ok (.iconst 2, 1) := by decide +kernel
theorem dL_law_600 : decode code 600 = .ok (.iadd, 1) := by decide +kernel
theorem dL_law_601 : decode code 601 = .ok (.iaload, 1) := by decide +kernel
theorem dL_law_602 : decode code 602 = .ok (.i2l, 1) := by decide +kernel
theorem dL_law_603 : decode code 603 = .ok (.ldc2_w 55, 3) := by decide +kernel
theorem dL_law_606 : decode code 606 = .ok (.land, 1) := by decide +kernel
theorem dL_law_607 : decode code 607 = .ok (.lor, 1) := by decide +kernel
theorem dL_law_608 : decode code 608 = .ok (.aload_n 0, 1) := by decide +kernel
theorem dL_law_609 : decode code 609 = .ok (.iload_n 3, 1) := by decide +kernel
theorem dL_law_610 : decode code 610 = .ok (.iconst 3, 1) := by decide +kernel
theorem dL_law_611 : decode code 611 = .ok (.iadd, 1) := by decide +kernel
theorem dL_law_612 : decode code 612 = .ok (.iaload, 1) := by decide +kernel
theorem dL_law_613 : decode code 613 = .ok (.invokevirtual 61, 3) := by decide +kernel
theorem dL_law_616 : decode code 616 = .ok (.if_icmp .eq 862, 3) := by decide +kernel
theorem dL_law_621 : decode code 621 = .ok (.aload_n 1, 1) := by decide +kernel
theorem dL_law_622 : decode code 622 = .ok (.aload_n 0, 1) := by decide +kernel
theorem dL_law_623 : decode code 623 = .ok (.iload_n 3, 1) := by decide +kernel
theorem dL_law_624 : decode code 624 = .ok (.iconst 1, 1) := by decide +kernel
theorem dL_law_625 : decode code 625 = .ok (.iadd, 1) := by decide +kernel
theorem dL_law_626 : decode code 626 = .ok (.iaload, 1) := by decide +kernel
theorem dL_law_627 : decode code 627 = .ok (.invokevirtual 62, 3) := by decide +kernel
theorem dL_law_630 : decode code 630 = .ok (.aload_n 2, 1) := by decide +kernel
theorem dL_law_631 : decode code 631 = .ok (.aload_n 0, 1) := by decide +kernel
theorem dL_law_632 : decode code 632 = .ok (.iload_n 3, 1) := by decide +kernel
theorem dL_law_633 : decode code 633 = .ok (.iconst 1, 1) := by decide +kernel
theorem dL_law_634 : decode code 634 = .ok (.iadd, 1) := by decide +kernel
theorem dL_law_635 : decode code 635 = .ok (.iaload, 1) := by decide +kernel
theorem dL_law_636 : decode code 636 = .ok (.invokevirtual 66, 3) := by decide +kernel
theorem dL_law_639 : decode code 639 = .ok (.if_icmp .eq 839, 3) := by decide +kernel
theorem dL_law_644 : decode code 644 = .ok (.aload_n 1, 1) := by decide +kernel
theorem dL_law_645 : decode code 645 = .ok (.aload_n 0, 1) := by decide +kernel
theorem dL_law_646 : decode code 646 = .ok (.iload_n 3, 1) := by decide +kernel
theorem dL_law_647 : decode code 647 = .ok (.iconst 1, 1) := by decide +kernel
theorem dL_law_648 : decode code 648 = .ok (.iadd, 1) := by decide +kernel
theorem dL_law_649 : decode code 649 = .ok (.iaload, 1) := by decide +kernel
theorem dL_law_650 : decode code 650 = .ok (.invokevirtual 67, 3) := by decide +kernel
theorem dL_law_653 : decode code 653 = .ok (.aload_n 2, 1) := by decide +kernel
theorem dL_law_654 : decode code 654 = .ok (.aload_n 0, 1) := by decide +kernel
theorem dL_law_655 : decode code 655 = .ok (.iload_n 3, 1) := by decide +kernel
theorem dL_law_656 : decode code 656 = .ok (.iconst 1, 1) := by decide +kernel
theorem dL_law_657 : decode code 657 = .ok (.iadd, 1) := by decide +kernel
theorem dL_law_658 : decode code 658 = .ok (.iaload, 1) := by decide +kernel
theorem dL_law_659 : decode code 659 = .ok (.invokevirtual 70, 3) := by decide +kernel
theorem dL_law_662 : decode code 662 = .ok (.if_icmp .eq 816, 3) := by decide +kernel
theorem dL_law_667 : decode code 667 = .ok (.aload_n 1, 1) := by decide +kernel
theorem dL_law_668 : decode code 668 = .ok (.aload_n 0, 1) := by decide +kernel
theorem dL_law_669 : decode code 669 = .ok (.iload_n 3, 1) := by decide +kernel
theorem dL_law_670 : decode code 670 = .ok (.iconst 1, 1) := by decide +kernel
theorem dL_law_671 : decode code 671 = .ok (.iadd, 1) := by decide +kernel
theorem dL_law_672 : decode code 672 = .ok (.iaload, 1) := by decide +kernel
theorem dL_law_673 : decode code 673 = .ok (.aload_n 0, 1) := by decide +kernel
theorem dL_law_674 : decode code 674 = .ok (.iload_n 3, 1) := by decide +kernel
theorem dL_law_675 : decode code 675 = .ok (.iconst 2, 1) := by decide +kernel
theorem dL_law_676 : decode code 676 = .ok (.iadd, 1) := by decide +kernel
theorem dL_law_677 : decode code 677 = .ok (.iaload, 1) := by decide +kernel
theorem dL_law_678 : decode code 678 = .ok (.invokevirtual 71, 3) := by decide +kernel
theorem dL_law_681 : decode code 681 = .ok (.aload_n 2, 1) := by decide +kernel
theorem dL_law_682 : decode code 682 = .ok (.aload_n 0, 1) := by decide +kernel
theorem dL_law_683 : decode code 683 = .ok (.iload_n 3, 1) := by decide +kernel
theorem dL_law_684 : decode code 684 = .ok (.iconst 1, 1) := by decide +kernel
theorem dL_law_685 : decode code 685 = .ok (.iadd, 1) := by decide +kernel
theorem dL_law_686 : decode code 686 = .ok (.iaload, 1) := by decide +kernel
theorem dL_law_687 : decode code 687 = .ok (.aload_n 0, 1) := by decide +kernel
theorem dL_law_688 : decode code 688 = .ok (.iload_n 3, 1) := by decide +kernel
theorem dL_law_689 : decode code 689 = .ok (.iconst 2, 1) := by decide +kernel
theorem dL_law_690 : decode code 690 = .ok (.iadd, 1) := by decide +kernel
theorem dL_law_691 : decode code 691 = .ok (.iaload, 1) := by decide +kernel
theorem dL_law_692 : decode code 692 = .ok (.invokevirtual 74, 3) := by decide +kernel
theorem dL_law_695 : decode code 695 = .ok (.if_icmp .eq 783, 3) := by decide +kernel
theorem dL_law_700 : decode code 700 = .ok (.aload_n 1, 1) := by decide +kernel
theorem dL_law_701 : decode code 701 = .ok (.aload_n 0, 1) := by decide +kernel
theorem dL_law_702 : decode code 702 = .ok (.iload_n 3, 1) := by decide +kernel
theorem dL_law_703 : decode code 703 = .ok (.iconst 1, 1) := by decide +kernel
theorem dL_law_704 : decode code 704 = .ok (.iadd, 1) := by decide +kernel
theorem dL_law_705 : decode code 705 = .ok (.iaload, 1) := by decide +kernel
theorem dL_law_706 : decode code 706 = .ok (.aload_n 0, 1) := by decide +kernel
theorem dL_law_707 : decode code 707 = .ok (.iload_n 3, 1) := by decide +kernel
theorem dL_law_708 : decode code 708 = .ok (.iconst 2, 1) := by decide +kernel
theorem dL_law_709 : decode code 709 = .ok (.iadd, 1) := by decide +kernel
theorem dL_law_710 : decode code 710 = .ok (.iaload, 1) := by decide +kernel
theorem dL_law_711 : decode code 711 = .ok (.invokevirtual 75, 3) := by decide +kernel
theorem dL_law_714 : decode code 714 = .ok (.aload_n 2, 1) := by decide +kernel
theorem dL_law_715 : decode code 715 = .ok (.aload_n 0, 1) := by decide +kernel
theorem dL_law_716 : decode code 716 = .ok (.iload_n 3, 1) := by decide +kernel
theorem dL_law_717 : decode code 717 = .ok (.iconst 1, 1) := by decide +kernel
theorem dL_law_718 : decode code 718 = .ok (.iadd, 1) := by decide +kernel
theorem dL_law_719 : decode code 719 = .ok (.iaload, 1) := by decide +kernel
theorem dL_law_720 : decode code 720 = .ok (.aload_n 0, 1) := by decide +kernel
theorem dL_law_721 : decode code 721 = .ok (.iload_n 3, 1) := by decide +kernel
theorem dL_law_722 : decode code 722 = .ok (.iconst 2, 1) := by decide +kernel
theorem dL_law_723 : decode code 723 = .ok (.iadd, 1) := by decide +kernel
theorem dL_law_724 : decode code 724 = .ok (.iaload, 1) := by decide +kernel
theorem dL_law_725 : decode code 725 = .ok (.invokevirtual 78, 3) := by decide +kernel
theorem dL_law_728 : decode code 728 = .ok (.if_icmp .eq 750, 3) := by decide +kernel
theorem dL_law_733 : decode code 733 = .ok (.aload_n 1, 1) := by decide +kernel
theorem dL_law_734 : decode code 734 = .ok (.aload_n 0, 1) := by decide +kernel
theorem dL_law_735 : decode code 735 = .ok (.iload_n 3, 1) := by decide +kernel
theorem dL_law_736 : decode code 736 = .ok (.iconst 1, 1) := by decide +kernel
theorem dL_law_737 : decode code 737 = .ok (.iadd, 1) := by decide +kernel
theorem dL_law_738 : decode code 738 = .ok (.iaload, 1) := by decide +kernel
theorem dL_law_739 : decode code 739 = .ok (.invokevirtual 79, 3) := by decide +kernel
theorem dL_law_742 : decode code 742 = .ok (.aload_n 2, 1) := by decide +kernel
theorem dL_law_743 : decode code 743 = .ok (.aload_n 0, 1) := by decide +kernel
theorem dL_law_744 : decode code 744 = .ok (.iload_n 3, 1) := by decide +kernel
theorem dL_law_745 : decode code 745 = .ok (.iconst 1, 1) := by decide +kernel
theorem dL_law_746 : decode code 746 = .ok (.iadd, 1) := by decide +kernel
theorem dL_law_747 : decode code 747 = .ok (.iaload, 1) := by decide +kernel
theorem dL_law_748 : decode code 748 = .ok (.invokevirtual 82, 3) := by decide +kernel
theorem dL_law_751 : decode code 751 = .ok (.if_icmp .eq 727, 3) := by decide +kernel
theorem dL_law_756 : decode code 756 = .ok (.aload_n 1, 1) := by decide +kernel
theorem dL_law_757 : decode code 757 = .ok (.aload_n 0, 1) := by decide +kernel
theorem dL_law_758 : decode code 758 = .ok (.iload_n 3, 1) := by decide +kernel
theorem dL_law_759 : decode code 759 = .ok (.iconst 1, 1) := by decide +kernel
theorem dL_law_760 : decode code 760 = .ok (.iadd, 1) := by decide +kernel
theorem dL_law_761 : decode code 761 = .ok (.iaload, 1) := by decide +kernel
theorem dL_law_762 : decode code 762 = .ok (.aload_n 0, 1) := by decide +kernel
theorem dL_law_763 : decode code 763 = .ok (.iload_n 3, 1) := by decide +kernel
theorem dL_law_764 : decode code 764 = .ok (.iconst 2, 1) := by decide +kernel
theorem dL_law_765 : decode code 765 = .ok (.iadd, 1) := by decide +kernel
theorem dL_law_766 : decode code 766 = .ok (.iaload, 1) := by decide +kernel
theorem dL_law_767 : decode code 767 = .ok (.invokevirtual 83, 3) := by decide +kernel
theorem dL_law_770 : decode code 770 = .ok (.aload_n 2, 1) := by decide +kernel
theorem dL_law_771 : decode code 771 = .ok (.aload_n 0, 1) := by decide +kernel
theorem dL_law_772 : decode code 772 = .ok (.iload_n 3, 1) := by decide +kernel
theorem dL_law_773 : decode code 773 = .ok (.iconst 1, 1) := by decide +kernel
theorem dL_law_774 : decode code 774 = .ok (.iadd, 1) := by decide +kernel
theorem dL_law_775 : decode code 775 = .ok (.iaload, 1) := by decide +kernel
theorem dL_law_776 : decode code 776 = .ok (.aload_n 0, 1) := by decide +kernel
theorem dL_law_777 : decode code 777 = .ok (.iload_n 3, 1) := by decide +kernel
theorem dL_law_778 : decode code 778 = .ok (.iconst 2, 1) := by decide +kernel
theorem dL_law_779 : decode code 779 = .ok (.iadd, 1) := by decide +kernel
theorem dL_law_780 : decode code 780 = .ok (.iaload, 1) := by decide +kernel
theorem dL_law_781 : decode code 781 = .ok (.invokevirtual 86, 3) := by decide +kernel
theorem dL_law_784 : decode code 784 = .ok (.if_icmp .eq 694, 3) := by decide +kernel
theorem dL_law_789 : decode code 789 = .ok (.aload_n 1, 1) := by decide +kernel
theorem dL_law_790 : decode code 790 = .ok (.aload_n 0, 1) := by decide +kernel
theorem dL_law_791 : decode code 791 = .ok (.iload_n 3, 1) := by decide +kernel
theorem dL_law_792 : decode code 792 = .ok (.iconst 1, 1) := by decide +kernel
theorem dL_law_793 : decode code 793 = .ok (.iadd, 1) := by decide +kernel
theorem dL_law_794 : decode code 794 = .ok (.iaload, 1) := by decide +kernel
theorem dL_law_795 : decode code 795 = .ok (.invokevirtual 87, 3) := by decide +kernel
theorem dL_law_798 : decode code 798 = .ok (.aload_n 2, 1) := by decide +kernel
theorem dL_law_799 : decode code 799 = .ok (.aload_n 0, 1) := by decide +kernel
theorem dL_law_800 : decode code 800 = .ok (.iload_n 3, 1) := by decide +kernel
theorem dL_law_801 : decode code 801 = .ok (.iconst 1, 1) := by decide +kernel
theorem dL_law_802 : decode code 802 = .ok (.iadd, 1) := by decide +kernel
theorem dL_law_803 : decode code 803 = .ok (.iaload, 1) := by decide +kernel
theorem dL_law_804 : decode code 804 = .ok (.invokevirtual 90, 3) := by decide +kernel
theorem dL_law_807 : decode code 807 = .ok (.if_icmp .eq 671, 3) := by decide +kernel
theorem dL_law_812 : decode code 812 = .ok (.aload_n 1, 1) := by decide +kernel
theorem dL_law_813 : decode code 813 = .ok (.aload_n 0, 1) := by decide +kernel
theorem dL_law_814 : decode code 814 = .ok (.iload_n 3, 1) := by decide +kernel
theorem dL_law_815 : decode code 815 = .ok (.iconst 1, 1) := by decide +kernel
theorem dL_law_816 : decode code 816 = .ok (.iadd, 1) := by decide +kernel
theorem dL_law_817 : decode code 817 = .ok (.iaload, 1) := by decide +kernel
theorem dL_law_818 : decode code 818 = .ok (.invokevirtual 91, 3) := by decide +kernel
theorem dL_law_821 : decode code 821 = .ok (.aload_n 2, 1) := by decide +kernel
theorem dL_law_822 : decode code 822 = .ok (.aload_n 0, 1) := by decide +kernel
theorem dL_law_823 : decode code 823 = .ok (.iload_n 3, 1) := by decide +kernel
theorem dL_law_824 : decode code 824 = .ok (.iconst 1, 1) := by decide +kernel
theorem dL_law_825 : decode code 825 = .ok (.iadd, 1) := by decide +kernel
theorem dL_law_826 : decode code 826 = .ok (.iaload, 1) := by decide +kernel
theorem dL_law_827 : decode code 827 = .ok (.invokevirtual 94, 3) := by decide +kernel
theorem dL_law_830 : decode code 830 = .ok (.if_icmp .eq 648, 3) := by decide +kernel
theorem dL_law_835 : decode code 835 = .ok (.aload_n 1, 1) := by decide +kernel
theorem dL_law_836 : decode code 836 = .ok (.aload_n 0, 1) := by decide +kernel
theorem dL_law_837 : decode code 837 = .ok (.iload_n 3, 1) := by decide +kernel
theorem dL_law_838 : decode code 838 = .ok (.iconst 1, 1) := by decide +kernel
theorem dL_law_839 : decode code 839 = .ok (.iadd, 1) := by decide +kernel
theorem dL_law_840 : decode code 840 = .ok (.iaload, 1) := by decide +kernel
theorem dL_law_841 : decode code 841 = .ok (.aload_n 0, 1) := by decide +kernel
theorem dL_law_842 : decode code 842 = .ok (.iload_n 3, 1) := by decide +kernel
theorem dL_law_843 : decode code 843 = .ok (.iconst 2, 1) := by decide +kernel
theorem dL_law_844 : decode code 844 = .ok (.iadd, 1) := by decide +kernel
theorem dL_law_845 : decode code 845 = .ok (.iaload, 1) := by decide +kernel
theorem dL_law_846 : decode code 846 = .ok (.invokevirtual 95, 3) := by decide +kernel
theorem dL_law_849 : decode code 849 = .ok (.aload_n 2, 1) := by decide +kernel
theorem dL_law_850 : decode code 850 = .ok (.aload_n 0, 1) := by decide +kernel
theorem dL_law_851 : decode code 851 = .ok (.iload_n 3, 1) := by decide +kernel
theorem dL_law_852 : decode code 852 = .ok (.iconst 1, 1) := by decide +kernel
theorem dL_law_853 : decode code 853 = .ok (.iadd, 1) := by decide +kernel
theorem dL_law_854 : decode code 854 = .ok (.iaload, 1) := by decide +kernel
theorem dL_law_855 : decode code 855 = .ok (.aload_n 0, 1) := by decide +kernel
theorem dL_law_856 : decode code 856 = .ok (.iload_n 3, 1) := by decide +kernel
theorem dL_law_857 : decode code 857 = .ok (.iconst 2, 1) := by decide +kernel
theorem dL_law_858 : decode code 858 = .ok (.iadd, 1) := by decide +kernel
theorem dL_law_859 : decode code 859 = .ok (.iaload, 1) := by decide +kernel
theorem dL_law_860 : decode code 860 = .ok (.invokevirtual 98, 3) := by decide +kernel
theorem dL_law_863 : decode code 863 = .ok (.if_icmp .eq 615, 3) := by decide +kernel
theorem dL_law_868 : decode code 868 = .ok (.aload_n 1, 1) := by decide +kernel
theorem dL_law_869 : decode code 869 = .ok (.aload_n 0, 1) := by decide +kernel
theorem dL_law_870 : decode code 870 = .ok (.iload_n 3, 1) := by decide +kernel
theorem dL_law_871 : decode code 871 = .ok (.iconst 1, 1) := by decide +kernel
theorem dL_law_872 : decode code 872 = .ok (.iadd, 1) := by decide +kernel
theorem dL_law_873 : decode code 873 = .ok (.iaload, 1) := by decide +kernel
theorem dL_law_874 : decode code 874 = .ok (.aload_n 0, 1) := by decide +kernel
theorem dL_law_875 : decode code 875 = .ok (.iload_n 3, 1) := by decide +kernel
theorem dL_law_876 : decode code 876 = .ok (.iconst 2, 1) := by decide +kernel
theorem dL_law_877 : decode code 877 = .ok (.iadd, 1) := by decide +kernel
theorem dL_law_878 : decode code 878 = .ok (.iaload, 1) := by decide +kernel
theorem dL_law_879 : decode code 879 = .ok (.invokevirtual 99, 3) := by decide +kernel
theorem dL_law_882 : decode code 882 = .ok (.aload_n 2, 1) := by decide +kernel
theorem dL_law_883 : decode code 883 = .ok (.aload_n 0, 1) := by decide +kernel
theorem dL_law_884 : decode code 884 = .ok (.iload_n 3, 1) := by decide +kernel
theorem dL_law_885 : decode code 885 = .ok (.iconst 1, 1) := by decide +kernel
theorem dL_law_886 : decode code 886 = .ok (.iadd, 1) := by decide +kernel
theorem dL_law_887 : decode code 887 = .ok (.iaload, 1) := by decide +kernel
theorem dL_law_888 : decode code 888 = .ok (.aload_n 0, 1) := by decide +kernel
theorem dL_law_889 : decode code 889 = .ok (.iload_n 3, 1) := by decide +kernel
theorem dL_law_890 : decode code 890 = .ok (.iconst 2, 1) := by decide +kernel
theorem dL_law_891 : decode code 891 = .ok (.iadd, 1) := by decide +kernel
theorem dL_law_892 : decode code 892 = .ok (.iaload, 1) := by decide +kernel
theorem dL_law_893 : decode code 893 = .ok (.invokevirtual 102, 3) := by decide +kernel
theorem dL_law_896 : decode code 896 = .ok (.if_icmp .eq 582, 3) := by decide +kernel
theorem dL_law_901 : decode code 901 = .ok (.aload_n 1, 1) := by decide +kernel
theorem dL_law_902 : decode code 902 = .ok (.aload_n 0, 1) := by decide +kernel
theorem dL_law_903 : decode code 903 = .ok (.iload_n 3, 1) := by decide +kernel
theorem dL_law_904 : decode code 904 = .ok (.iconst 1, 1) := by decide +kernel
theorem dL_law_905 : decode code 905 = .ok (.iadd, 1) := by decide +kernel
theorem dL_law_906 : decode code 906 = .ok (.iaload, 1) := by decide +kernel
theorem dL_law_907 : decode code 907 = .ok (.invokevirtual 103, 3) := by decide +kernel
theorem dL_law_910 : decode code 910 = .ok (.aload_n 2, 1) := by decide +kernel
theorem dL_law_911 : decode code 911 = .ok (.aload_n 0, 1) := by decide +kernel
theorem dL_law_912 : decode code 912 = .ok (.iload_n 3, 1) := by decide +kernel
theorem dL_law_913 : decode code 913 = .ok (.iconst 1, 1) := by decide +kernel
theorem dL_law_914 : decode code 914 = .ok (.iadd, 1) := by decide +kernel
theorem dL_law_915 : decode code 915 = .ok (.iaload, 1) := by decide +kernel
theorem dL_law_916 : decode code 916 = .ok (.invokevirtual 106, 3) := by decide +kernel
theorem dL_law_919 : decode code 919 = .ok (.if_icmp .eq 559, 3) := by decide +kernel
theorem dL_law_924 : decode code 924 = .ok (.aload_n 1, 1) := by decide +kernel
theorem dL_law_925 : decode code 925 = .ok (.aload_n 0, 1) := by decide +kernel
theorem dL_law_926 : decode code 926 = .ok (.iload_n 3, 1) := by decide +kernel
theorem dL_law_927 : decode code 927 = .ok (.iconst 1, 1) := by decide +kernel
theorem dL_law_928 : decode code 928 = .ok (.iadd, 1) := by decide +kernel
theorem dL_law_929 : decode code 929 = .ok (.iaload, 1) := by decide +kernel
theorem dL_law_930 : decode code 930 = .ok (.aload_n 0, 1) := by decide +kernel
theorem dL_law_931 : decode code 931 = .ok (.iload_n 3, 1) := by decide +kernel
theorem dL_law_932 : decode code 932 = .ok (.iconst 2, 1) := by decide +kernel
theorem dL_law_933 : decode code 933 = .ok (.iadd, 1) := by decide +kernel
theorem dL_law_934 : decode code 934 = .ok (.iaload, 1) := by decide +kernel
theorem dL_law_935 : decode code 935 = .ok (.invokevirtual 107, 3) := by decide +kernel
theorem dL_law_938 : decode code 938 = .ok (.aload_n 2, 1) := by decide +kernel
theorem dL_law_939 : decode code 939 = .ok (.aload_n 0, 1) := by decide +kernel
theorem dL_law_940 : decode code 940 = .ok (.iload_n 3, 1) := by decide +kernel
theorem dL_law_941 : decode code 941 = .ok (.iconst 1, 1) := by decide +kernel
theorem dL_law_942 : decode code 942 = .ok (.iadd, 1) := by decide +kernel
theorem dL_law_943 : decode code 943 = .ok (.iaload, 1) := by decide +kernel
theorem dL_law_944 : decode code 944 = .ok (.aload_n 0, 1) := by decide +kernel
theorem dL_law_945 : decode code 945 = .ok (.iload_n 3, 1) := by decide +kernel
theorem dL_law_946 : decode code 946 = .ok (.iconst 2, 1) := by decide +kernel
theorem dL_law_947 : decode code 947 = .ok (.iadd, 1) := by decide +kernel
theorem dL_law_948 : decode code 948 = .ok (.iaload, 1) := by decide +kernel
theorem dL_law_949 : decode code 949 = .ok (.invokevirtual 110, 3) := by decide +kernel
theorem dL_law_952 : decode code 952 = .ok (.if_icmp .eq 526, 3) := by decide +kernel
theorem dL_law_957 : decode code 957 = .ok (.aload_n 1, 1) := by decide +kernel
theorem dL_law_958 : decode code 958 = .ok (.aload_n 0, 1) := by decide +kernel
theorem dL_law_959 : decode code 959 = .ok (.iload_n 3, 1) := by decide +kernel
theorem dL_law_960 : decode code 960 = .ok (.iconst 1, 1) := by decide +kernel
theorem dL_law_961 : decode code 961 = .ok (.iadd, 1) := by decide +kernel
theorem dL_law_962 : decode code 962 = .ok (.iaload, 1) := by decide +kernel
theorem dL_law_963 : decode code 963 = .ok (.aload_n 0, 1) := by decide +kernel
theorem dL_law_964 : decode code 964 = .ok (.iload_n 3, 1) := by decide +kernel
theorem dL_law_965 : decode code 965 = .ok (.iconst 2, 1) := by decide +kernel
theorem dL_law_966 : decode code 966 = .ok (.iadd, 1) := by decide +kernel
theorem dL_law_967 : decode code 967 = .ok (.iaload, 1) := by decide +kernel
theorem dL_law_968 : decode code 968 = .ok (.aload_n 0, 1) := by decide +kernel
theorem dL_law_969 : decode code 969 = .ok (.iload_n 3, 1) := by decide +kernel
theorem dL_law_970 : decode code 970 = .ok (.iconst 3, 1) := by decide +kernel
theorem dL_law_971 : decode code 971 = .ok (.iadd, 1) := by decide +kernel
theorem dL_law_972 : decode code 972 = .ok (.iaload, 1) := by decide +kernel
theorem dL_law_973 : decode code 973 = .ok (.aload_n 0, 1) := by decide +kernel
theorem dL_law_974 : decode code 974 = .ok (.iload_n 3, 1) := by decide +kernel
theorem dL_law_975 : decode code 975 = .ok (.iconst 4, 1) := by decide +kernel
theorem dL_law_976 : decode code 976 = .ok (.iadd, 1) := by decide +kernel
theorem dL_law_977 : decode code 977 = .ok (.iaload, 1) := by decide +kernel
theorem dL_law_978 : decode code 978 = .ok (.invokevirtual 111, 3) := by decide +kernel
theorem dL_law_981 : decode code 981 = .ok (.aload_n 2, 1) := by decide +kernel
theorem dL_law_982 : decode code 982 = .ok (.aload_n 0, 1) := by decide +kernel
theorem dL_law_983 : decode code 983 = .ok (.iload_n 3, 1) := by decide +kernel
theorem dL_law_984 : decode code 984 = .ok (.iconst 1, 1) := by decide +kernel
theorem dL_law_985 : decode code 985 = .ok (.iadd, 1) := by decide +kernel
theorem dL_law_986 : decode code 986 = .ok (.iaload, 1) := by decide +kernel
theorem dL_law_987 : decode code 987 = .ok (.aload_n 0, 1) := by decide +kernel
theorem dL_law_988 : decode code 988 = .ok (.iload_n 3, 1) := by decide +kernel
theorem dL_law_989 : decode code 989 = .ok (.iconst 2, 1) := by decide +kernel
theorem dL_law_990 : decode code 990 = .ok (.iadd, 1) := by decide +kernel
theorem dL_law_991 : decode code 991 = .ok (.iaload, 1) := by decide +kernel
theorem dL_law_992 : decode code 992 = .ok (.aload_n 0, 1) := by decide +kernel
theorem dL_law_993 : decode code 993 = .ok (.iload_n 3, 1) := by decide +kernel
theorem dL_law_994 : decode code 994 = .ok (.iconst 3, 1) := by decide +kernel
theorem dL_law_995 : decode code 995 = .ok (.iadd, 1) := by decide +kernel
theorem dL_law_996 : decode code 996 = .ok (.iaload, 1) := by decide +kernel
theorem dL_law_997 : decode code 997 = .ok (.aload_n 0, 1) := by decide +kernel
theorem dL_law_998 : decode code 998 = .ok (.iload_n 3, 1) := by decide +kernel
theorem dL_law_999 : decode code 999 = .ok (.iconst 4, 1) := by decide +kernel
theorem dL_law_1000 : decode code 1000 = .ok (.iadd, 1) := by decide +kernel
theorem dL_law_1001 : decode code 1001 = .ok (.iaload, 1) := by decide +kernel
theorem dL_law_1002 : decode code 1002 = .ok (.invokevirtual 115, 3) := by decide +kernel
theorem dL_law_1005 : decode code 1005 = .ok (.if_icmp .eq 473, 3) := by decide +kernel
theorem dL_law_1010 : decode code 1010 = .ok (.aload_n 1, 1) := by decide +kernel
theorem dL_law_1011 : decode code 1011 = .ok (.aload_n 0, 1) := by decide +kernel
theorem dL_law_1012 : decode code 1012 = .ok (.iload_n 3, 1) := by decide +kernel
theorem dL_law_1013 : decode code 1013 = .ok (.iconst 1, 1) := by decide +kernel
theorem dL_law_1014 : decode code 1014 = .ok (.iadd, 1) := by decide +kernel
theorem dL_law_1015 : decode code 1015 = .ok (.iaload, 1) := by decide +kernel
theorem dL_law_1016 : decode code 1016 = .ok (.invokevirtual 116, 3) := by decide +kernel
theorem dL_law_1019 : decode code 1019 = .ok (.aload_n 2, 1) := by decide +kernel
theorem dL_law_1020 : decode code 1020 = .ok (.aload_n 0, 1) := by decide +kernel
theorem dL_law_1021 : decode code 1021 = .ok (.iload_n 3, 1) := by decide +kernel
theorem dL_law_1022 : decode code 1022 = .ok (.iconst 1, 1) := by decide +kernel
theorem dL_law_1023 : decode code 1023 = .ok (.iadd, 1) := by decide +kernel
theorem dL_law_1024 : decode code 1024 = .ok (.iaload, 1) := by decide +kernel
theorem dL_law_1025 : decode code 1025 = .ok (.invokevirtual 119, 3) := by decide +kernel
theorem dL_law_1028 : decode code 1028 = .ok (.if_icmp .eq 450, 3) := by decide +kernel
theorem dL_law_1033 : decode code 1033 = .ok (.aload_n 1, 1) := by decide +kernel
theorem dL_law_1034 : decode code 1034 = .ok (.aload_n 0, 1) := by decide +kernel
theorem dL_law_1035 : decode code 1035 = .ok (.iload_n 3, 1) := by decide +kernel
theorem dL_law_1036 : decode code 1036 = .ok (.iconst 1, 1) := by decide +kernel
theorem dL_law_1037 : decode code 1037 = .ok (.iadd, 1) := by decide +kernel
theorem dL_law_1038 : decode code 1038 = .ok (.iaload, 1) := by decide +kernel
theorem dL_law_1039 : decode code 1039 = .ok (.aload_n 0, 1) := by decide +kernel
theorem dL_law_1040 : decode code 1040 = .ok (.iload_n 3, 1) := by decide +kernel
theorem dL_law_1041 : decode code 1041 = .ok (.iconst 2, 1) := by decide +kernel
theorem dL_law_1042 : decode code 1042 = .ok (.iadd, 1) := by decide +kernel
theorem dL_law_1043 : decode code 1043 = .ok (.iaload, 1) := by decide +kernel
theorem dL_law_1044 : decode code 1044 = .ok (.invokevirtual 120, 3) := by decide +kernel
theorem dL_law_1047 : decode code 1047 = .ok (.aload_n 2, 1) := by decide +kernel
theorem dL_law_1048 : decode code 1048 = .ok (.aload_n 0, 1) := by decide +kernel
theorem dL_law_1049 : decode code 1049 = .ok (.iload_n 3, 1) := by decide +kernel
theorem dL_law_1050 : decode code 1050 = .ok (.iconst 1, 1) := by decide +kernel
theorem dL_law_1051 : decode code 1051 = .ok (.iadd, 1) := by decide +kernel
theorem dL_law_1052 : decode code 1052 = .ok (.iaload, 1) := by decide +kernel
theorem dL_law_1053 : decode code 1053 = .ok (.aload_n 0, 1) := by decide +kernel
theorem dL_law_1054 : decode code 1054 = .ok (.iload_n 3, 1) := by decide +kernel
theorem dL_law_1055 : decode code 1055 = .ok (.iconst 2, 1) := by decide +kernel
theorem dL_law_1056 : decode code 1056 = .ok (.iadd, 1) := by decide +kernel
theorem dL_law_1057 : decode code 1057 = .ok (.iaload, 1) := by decide +kernel
theorem dL_law_1058 : decode code 1058 = .ok (.invokevirtual 123, 3) := by decide +kernel
theorem dL_law_1061 : decode code 1061 = .ok (.if_icmp .eq 417, 3) := by decide +kernel
theorem dL_law_1066 : decode code 1066 = .ok (.aload_n 1, 1) := by decide +kernel
theorem dL_law_1067 : decode code 1067 = .ok (.aload_n 0, 1) := by decide +kernel
theorem dL_law_1068 : decode code 1068 = .ok (.iload_n 3, 1) := by decide +kernel
theorem dL_law_1069 : decode code 1069 = .ok (.iconst 1, 1) := by decide +kernel
theorem dL_law_1070 : decode code 1070 = .ok (.iadd, 1) := by decide +kernel
theorem dL_law_1071 : decode code 1071 = .ok (.iaload, 1) := by decide +kernel
theorem dL_law_1072 : decode code 1072 = .ok (.invokevirtual 124, 3) := by decide +kernel
theorem dL_law_1075 : decode code 1075 = .ok (.aload_n 2, 1) := by decide +kernel
theorem dL_law_1076 : decode code 1076 = .ok (.aload_n 0, 1) := by decide +kernel
theorem dL_law_1077 : decode code 1077 = .ok (.iload_n 3, 1) := by decide +kernel
theorem dL_law_1078 : decode code 1078 = .ok (.iconst 1, 1) := by decide +kernel
theorem dL_law_1079 : decode code 1079 = .ok (.iadd, 1) := by decide +kernel
theorem dL_law_1080 : decode code 1080 = .ok (.iaload, 1) := by decide +kernel
theorem dL_law_1081 : decode code 1081 = .ok (.invokevirtual 127, 3) := by decide +kernel
theorem dL_law_1084 : decode code 1084 = .ok (.if_icmp .eq 394, 3) := by decide +kernel
theorem dL_law_1089 : decode code 1089 = .ok (.aload_n 1, 1) := by decide +kernel
theorem dL_law_1090 : decode code 1090 = .ok (.aload_n 0, 1) := by decide +kernel
theorem dL_law_1091 : decode code 1091 = .ok (.iload_n 3, 1) := by decide +kernel
theorem dL_law_1092 : decode code 1092 = .ok (.iconst 1, 1) := by decide +kernel
theorem dL_law_1093 : decode code 1093 = .ok (.iadd, 1) := by decide +kernel
theorem dL_law_1094 : decode code 1094 = .ok (.iaload, 1) := by decide +kernel
theorem dL_law_1095 : decode code 1095 = .ok (.invokevirtual 128, 3) := by decide +kernel
theorem dL_law_1098 : decode code 1098 = .ok (.aload_n 2, 1) := by decide +kernel
theorem dL_law_1099 : decode code 1099 = .ok (.aload_n 0, 1) := by decide +kernel
theorem dL_law_1100 : decode code 1100 = .ok (.iload_n 3, 1) := by decide +kernel
theorem dL_law_1101 : decode code 1101 = .ok (.iconst 1, 1) := by decide +kernel
theorem dL_law_1102 : decode code 1102 = .ok (.iadd, 1) := by decide +kernel
theorem dL_law_1103 : decode code 1103 = .ok (.iaload, 1) := by decide +kernel
theorem dL_law_1104 : decode code 1104 = .ok (.invokevirtual 131, 3) := by decide +kernel
theorem dL_law_1107 : decode code 1107 = .ok (.if_icmp .eq 371, 3) := by decide +kernel
theorem dL_law_1112 : decode code 1112 = .ok (.aload_n 1, 1) := by decide +kernel
theorem dL_law_1113 : decode code 1113 = .ok (.aload_n 0, 1) := by decide +kernel
theorem dL_law_1114 : decode code 1114 = .ok (.iload_n 3, 1) := by decide +kernel
theorem dL_law_1115 : decode code 1115 = .ok (.iconst 1, 1) := by decide +kernel
theorem dL_law_1116 : decode code 1116 = .ok (.iadd, 1) := by decide +kernel
theorem dL_law_1117 : decode code 1117 = .ok (.iaload, 1) := by decide +kernel
theorem dL_law_1118 : decode code 1118 = .ok (.aload_n 0, 1) := by decide +kernel
theorem dL_law_1119 : decode code 1119 = .ok (.iload_n 3, 1) := by decide +kernel
theorem dL_law_1120 : decode code 1120 = .ok (.iconst 2, 1) := by decide +kernel
theorem dL_law_1121 : decode code 1121 = .ok (.iadd, 1) := by decide +kernel
theorem dL_law_1122 : decode code 1122 = .ok (.iaload, 1) := by decide +kernel
theorem dL_law_1123 : decode code 1123 = .ok (.aload_n 0, 1) := by decide +kernel
theorem dL_law_1124 : decode code 1124 = .ok (.iload_n 3, 1) := by decide +kernel
theorem dL_law_1125 : decode code 1125 = .ok (.iconst 3, 1) := by decide +kernel
theorem dL_law_1126 : decode code 1126 = .ok (.iadd, 1) := by decide +kernel
theorem dL_law_1127 : decode code 1127 = .ok (.iaload, 1) := by decide +kernel
theorem dL_law_1128 : decode code 1128 = .ok (.invokevirtual 132, 3) := by decide +kernel
theorem dL_law_1131 : decode code 1131 = .ok (.aload_n 2, 1) := by decide +kernel
theorem dL_law_1132 : decode code 1132 = .ok (.aload_n 0, 1) := by decide +kernel
theorem dL_law_1133 : decode code 1133 = .ok (.iload_n 3, 1) := by decide +kernel
theorem dL_law_1134 : decode code 1134 = .ok (.iconst 1, 1) := by decide +kernel
theorem dL_law_1135 : decode code 1135 = .ok (.iadd, 1) := by decide +kernel
theorem dL_law_1136 : decode code 1136 = .ok (.iaload, 1) := by decide +kernel
theorem dL_law_1137 : decode code 1137 = .ok (.aload_n 0, 1) := by decide +kernel
theorem dL_law_1138 : decode code 1138 = .ok (.iload_n 3, 1) := by decide +kernel
theorem dL_law_1139 : decode code 1139 = .ok (.iconst 2, 1) := by decide +kernel
theorem dL_law_1140 : decode code 1140 = .ok (.iadd, 1) := by decide +kernel
theorem dL_law_1141 : decode code 1141 = .ok (.iaload, 1) := by decide +kernel
theorem dL_law_1142 : decode code 1142 = .ok (.aload_n 0, 1) := by decide +kernel
theorem dL_law_1143 : decode code 1143 = .ok (.iload_n 3, 1) := by decide +kernel
theorem dL_law_1144 : decode code 1144 = .ok (.iconst 3, 1) := by decide +kernel
theorem dL_law_1145 : decode code 1145 = .ok (.iadd, 1) := by decide +kernel
theorem dL_law_1146 : decode code 1146 = .ok (.iaload, 1) := by decide +kernel
theorem dL_law_1147 : decode code 1147 = .ok (.invokevirtual 135, 3) := by decide +kernel
theorem dL_law_1150 : decode code 1150 = .ok (.if_icmp .eq 328, 3) := by decide +kernel
theorem dL_law_1155 : decode code 1155 = .ok (.aload_n 1, 1) := by decide +kernel
theorem dL_law_1156 : decode code 1156 = .ok (.aload_n 0, 1) := by decide +kernel
theorem dL_law_1157 : decode code 1157 = .ok (.iload_n 3, 1) := by decide +kernel
theorem dL_law_1158 : decode code 1158 = .ok (.iconst 1, 1) := by decide +kernel
theorem dL_law_1159 : decode code 1159 = .ok (.iadd, 1) := by decide +kernel
theorem dL_law_1160 : decode code 1160 = .ok (.iaload, 1) := by decide +kernel
theorem dL_law_1161 : decode code 1161 = .ok (.invokevirtual 136, 3) := by decide +kernel
theorem dL_law_1164 : decode code 1164 = .ok (.aload_n 2, 1) := by decide +kernel
theorem dL_law_1165 : decode code 1165 = .ok (.aload_n 0, 1) := by decide +kernel
theorem dL_law_1166 : decode code 1166 = .ok (.iload_n 3, 1) := by decide +kernel
theorem dL_law_1167 : decode code 1167 = .ok (.iconst 1, 1) := by decide +kernel
theorem dL_law_1168 : decode code 1168 = .ok (.iadd, 1) := by decide +kernel
theorem dL_law_1169 : decode code 1169 = .ok (.iaload, 1) := by decide +kernel
theorem dL_law_1170 : decode code 1170 = .ok (.invokevirtual 139, 3) := by decide +kernel
theorem dL_law_1173 : decode code 1173 = .ok (.if_icmp .eq 305, 3) := by decide +kernel
theorem dL_law_1178 : decode code 1178 = .ok (.aload_n 1, 1) := by decide +kernel
theorem dL_law_1179 : decode code 1179 = .ok (.aload_n 0, 1) := by decide +kernel
theorem dL_law_1180 : decode code 1180 = .ok (.iload_n 3, 1) := by decide +kernel
theorem dL_law_1181 : decode code 1181 = .ok (.iconst 1, 1) := by decide +kernel
theorem dL_law_1182 : decode code 1182 = .ok (.iadd, 1) := by decide +kernel
theorem dL_law_1183 : decode code 1183 = .ok (.iaload, 1) := by decide +kernel
theorem dL_law_1184 : decode code 1184 = .ok (.aload_n 0, 1) := by decide +kernel
theorem dL_law_1185 : decode code 1185 = .ok (.iload_n 3, 1) := by decide +kernel
theorem dL_law_1186 : decode code 1186 = .ok (.iconst 2, 1) := by decide +kernel
theorem dL_law_1187 : decode code 1187 = .ok (.iadd, 1) := by decide +kernel
theorem dL_law_1188 : decode code 1188 = .ok (.iaload, 1) := by decide +kernel
theorem dL_law_1189 : decode code 1189 = .ok (.aload_n 0, 1) := by decide +kernel
theorem dL_law_1190 : decode code 1190 = .ok (.iload_n 3, 1) := by decide +kernel
theorem dL_law_1191 : decode code 1191 = .ok (.iconst 3, 1) := by decide +kernel
theorem dL_law_1192 : decode code 1192 = .ok (.iadd, 1) := by decide +kernel
theorem dL_law_1193 : decode code 1193 = .ok (.iaload, 1) := by decide +kernel
theorem dL_law_1194 : decode code 1194 = .ok (.invokevirtual 140, 3) := by decide +kernel
theorem dL_law_1197 : decode code 1197 = .ok (.aload_n 2, 1) := by decide +kernel
theorem dL_law_1198 : decode code 1198 = .ok (.aload_n 0, 1) := by decide +kernel
theorem dL_law_1199 : decode code 1199 = .ok (.iload_n 3, 1) := by decide +kernel
theorem dL_law_1200 : decode code 1200 = .ok (.iconst 1, 1) := by decide +kernel
theorem dL_law_1201 : decode code 1201 = .ok (.iadd, 1) := by decide +kernel
theorem dL_law_1202 : decode code 1202 = .ok (.iaload, 1) := by decide +kernel
theorem dL_law_1203 : decode code 1203 = .ok (.aload_n 0, 1) := by decide +kernel
theorem dL_law_1204 : decode code 1204 = .ok (.iload_n 3, 1) := by decide +kernel
theorem dL_law_1205 : decode code 1205 = .ok (.iconst 2, 1) := by decide +kernel
theorem dL_law_1206 : decode code 1206 = .ok (.iadd, 1) := by decide +kernel
theorem dL_law_1207 : decode code 1207 = .ok (.iaload, 1) := by decide +kernel
theorem dL_law_1208 : decode code 1208 = .ok (.aload_n 0, 1) := by decide +kernel
theorem dL_law_1209 : decode code 1209 = .ok (.iload_n 3, 1) := by decide +kernel
theorem dL_law_1210 : decode code 1210 = .ok (.iconst 3, 1) := by decide +kernel
theorem dL_law_1211 : decode code 1211 = .ok (.iadd, 1) := by decide +kernel
theorem dL_law_1212 : decode code 1212 = .ok (.iaload, 1) := by decide +kernel
theorem dL_law_1213 : decode code 1213 = .ok (.invokevirtual 143, 3) := by decide +kernel
theorem dL_law_1216 : decode code 1216 = .ok (.if_icmp .eq 262, 3) := by decide +kernel
theorem dL_law_1221 : decode code 1221 = .ok (.aload_n 1, 1) := by decide +kernel
theorem dL_law_1222 : decode code 1222 = .ok (.aload_n 0, 1) := by decide +kernel
theorem dL_law_1223 : decode code 1223 = .ok (.iload_n 3, 1) := by decide +kernel
theorem dL_law_1224 : decode code 1224 = .ok (.iconst 1, 1) := by decide +kernel
theorem dL_law_1225 : decode code 1225 = .ok (.iadd, 1) := by decide +kernel
theorem dL_law_1226 : decode code 1226 = .ok (.iaload, 1) := by decide +kernel
theorem dL_law_1227 : decode code 1227 = .ok (.aload_n 0, 1) := by decide +kernel
theorem dL_law_1228 : decode code 1228 = .ok (.iload_n 3, 1) := by decide +kernel
theorem dL_law_1229 : decode code 1229 = .ok (.iconst 2, 1) := by decide +kernel
theorem dL_law_1230 : decode code 1230 = .ok (.iadd, 1) := by decide +kernel
theorem dL_law_1231 : decode code 1231 = .ok (.iaload, 1) := by decide +kernel
theorem dL_law_1232 : decode code 1232 = .ok (.aload_n 0, 1) := by decide +kernel
theorem dL_law_1233 : decode code 1233 = .ok (.iload_n 3, 1) := by decide +kernel
theorem dL_law_1234 : decode code 1234 = .ok (.iconst 3, 1) := by decide +kernel
theorem dL_law_1235 : decode code 1235 = .ok (.iadd, 1) := by decide +kernel
theorem dL_law_1236 : decode code 1236 = .ok (.iaload, 1) := by decide +kernel
theorem dL_law_1237 : decode code 1237 = .ok (.invokevirtual 144, 3) := by decide +kernel
theorem dL_law_1240 : decode code 1240 = .ok (.aload_n 2, 1) := by decide +kernel
theorem dL_law_1241 : decode code 1241 = .ok (.aload_n 0, 1) := by decide +kernel
theorem dL_law_1242 : decode code 1242 = .ok (.iload_n 3, 1) := by decide +kernel
theorem dL_law_1243 : decode code 1243 = .ok (.iconst 1, 1) := by decide +kernel
theorem dL_law_1244 : decode code 1244 = .ok (.iadd, 1) := by decide +kernel
theorem dL_law_1245 : decode code 1245 = .ok (.iaload, 1) := by decide +kernel
theorem dL_law_1246 : decode code 1246 = .ok (.aload_n 0, 1) := by decide +kernel
theorem dL_law_1247 : decode code 1247 = .ok (.iload_n 3, 1) := by decide +kernel
theorem dL_law_1248 : decode code 1248 = .ok (.iconst 2, 1) := by decide +kernel
theorem dL_law_1249 : decode code 1249 = .ok (.iadd, 1) := by decide +kernel
theorem dL_law_1250 : decode code 1250 = .ok (.iaload, 1) := by decide +kernel
theorem dL_law_1251 : decode code 1251 = .ok (.aload_n 0, 1) := by decide +kernel
theorem dL_law_1252 : decode code 1252 = .ok (.iload_n 3, 1) := by decide +kernel
theorem dL_law_1253 : decode code 1253 = .ok (.iconst 3, 1) := by decide +kernel
theorem dL_law_1254 : decode code 1254 = .ok (.iadd, 1) := by decide +kernel
theorem dL_law_1255 : decode code 1255 = .ok (.iaload, 1) := by decide +kernel
theorem dL_law_1256 : decode code 1256 = .ok (.invokevirtual 147, 3) := by decide +kernel
theorem dL_law_1259 : decode code 1259 = .ok (.if_icmp .eq 219, 3) := by decide +kernel
theorem dL_law_1264 : decode code 1264 = .ok (.aload_n 1, 1) := by decide +kernel
theorem dL_law_1265 : decode code 1265 = .ok (.aload_n 0, 1) := by decide +kernel
theorem dL_law_1266 : decode code 1266 = .ok (.iload_n 3, 1) := by decide +kernel
theorem dL_law_1267 : decode code 1267 = .ok (.iconst 1, 1) := by decide +kernel
theorem dL_law_1268 : decode code 1268 = .ok (.iadd, 1) := by decide +kernel
theorem dL_law_1269 : decode code 1269 = .ok (.iaload, 1) := by decide +kernel
theorem dL_law_1270 : decode code 1270 = .ok (.aload_n 0, 1) := by decide +kernel
theorem dL_law_1271 : decode code 1271 = .ok (.iload_n 3, 1) := by decide +kernel
theorem dL_law_1272 : decode code 1272 = .ok (.iconst 2, 1) := by decide +kernel
theorem dL_law_1273 : decode code 1273 = .ok (.iadd, 1) := by decide +kernel
theorem dL_law_1274 : decode code 1274 = .ok (.iaload, 1) := by decide +kernel
theorem dL_law_1275 : decode code 1275 = .ok (.aload_n 0, 1) := by decide +kernel
theorem dL_law_1276 : decode code 1276 = .ok (.iload_n 3, 1) := by decide +kernel
theorem dL_law_1277 : decode code 1277 = .ok (.iconst 3, 1) := by decide +kernel
theorem dL_law_1278 : decode code 1278 = .ok (.iadd, 1) := by decide +kernel
theorem dL_law_1279 : decode code 1279 = .ok (.iaload, 1) := by decide +kernel
theorem dL_law_1280 : decode code 1280 = .ok (.aload_n 0, 1) := by decide +kernel
theorem dL_law_1281 : decode code 1281 = .ok (.iload_n 3, 1) := by decide +kernel
theorem dL_law_1282 : decode code 1282 = .ok (.iconst 4, 1) := by decide +kernel
theorem dL_law_1283 : decode code 1283 = .ok (.iadd, 1) := by decide +kernel
theorem dL_law_1284 : decode code 1284 = .ok (.iaload, 1) := by decide +kernel
theorem dL_law_1285 : decode code 1285 = .ok (.aload_n 0, 1) := by decide +kernel
theorem dL_law_1286 : decode code 1286 = .ok (.iload_n 3, 1) := by decide +kernel
theorem dL_law_1287 : decode code 1287 = .ok (.iconst 5, 1) := by decide +kernel
theorem dL_law_1288 : decode code 1288 = .ok (.iadd, 1) := by decide +kernel
theorem dL_law_1289 : decode code 1289 = .ok (.iaload, 1) := by decide +kernel
theorem dL_law_1290 : decode code 1290 = .ok (.invokevirtual 148, 3) := by decide +kernel
theorem dL_law_1293 : decode code 1293 = .ok (.aload_n 2, 1) := by decide +kernel
theorem dL_law_1294 : decode code 1294 = .ok (.aload_n 0, 1) := by decide +kernel
theorem dL_law_1295 : decode code 1295 = .ok (.iload_n 3, 1) := by decide +kernel
theorem dL_law_1296 : decode code 1296 = .ok (.iconst 1, 1) := by decide +kernel
theorem dL_law_1297 : decode code 1297 = .ok (.iadd, 1) := by decide +kernel
theorem dL_law_1298 : decode code 1298 = .ok (.iaload, 1) := by decide +kernel
theorem dL_law_1299 : decode code 1299 = .ok (.aload_n 0, 1) := by decide +kernel
theorem dL_law_1300 : decode code 1300 = .ok (.iload_n 3, 1) := by decide +kernel
theorem dL_law_1301 : decode code 1301 = .ok (.iconst 2, 1) := by decide +kernel
theorem dL_law_1302 : decode code 1302 = .ok (.iadd, 1) := by decide +kernel
theorem dL_law_1303 : decode code 1303 = .ok (.iaload, 1) := by decide +kernel
theorem dL_law_1304 : decode code 1304 = .ok (.aload_n 0, 1) := by decide +kernel
theorem dL_law_1305 : decode code 1305 = .ok (.iload_n 3, 1) := by decide +kernel
theorem dL_law_1306 : decode code 1306 = .ok (.iconst 3, 1) := by decide +kernel
theorem dL_law_1307 : decode code 1307 = .ok (.iadd, 1) := by decide +kernel
theorem dL_law_1308 : decode code 1308 = .ok (.iaload, 1) := by decide +kernel
theorem dL_law_1309 : decode code 1309 = .ok (.aload_n 0, 1) := by decide +kernel
theorem dL_law_1310 : decode code 1310 = .ok (.iload_n 3, 1) := by decide +kernel
theorem dL_law_1311 : decode code 1311 = .ok (.iconst 4, 1) := by decide +kernel
theorem dL_law_1312 : decode code 1312 = .ok (.iadd, 1) := by decide +kernel
theorem dL_law_1313 : decode code 1313 = .ok (.iaload, 1) := by decide +kernel
theorem dL_law_1314 : decode code 1314 = .ok (.aload_n 0, 1) := by decide +kernel
theorem dL_law_1315 : decode code 1315 = .ok (.iload_n 3, 1) := by decide +kernel
theorem dL_law_1316 : decode code 1316 = .ok (.iconst 5, 1) := by decide +kernel
theorem dL_law_1317 : decode code 1317 = .ok (.iadd, 1) := by decide +kernel
theorem dL_law_1318 : decode code 1318 = .ok (.iaload, 1) := by decide +kernel
theorem dL_law_1319 : decode code 1319 = .ok (.invokevirtual 152, 3) := by decide +kernel
theorem dL_law_1322 : decode code 1322 = .ok (.if_icmp .eq 156, 3) := by decide +kernel
theorem dL_law_1327 : decode code 1327 = .ok (.aload_n 1, 1) := by decide +kernel
theorem dL_law_1328 : decode code 1328 = .ok (.aload_n 0, 1) := by decide +kernel
theorem dL_law_1329 : decode code 1329 = .ok (.iload_n 3, 1) := by decide +kernel
theorem dL_law_1330 : decode code 1330 = .ok (.iconst 1, 1) := by decide +kernel
theorem dL_law_1331 : decode code 1331 = .ok (.iadd, 1) := by decide +kernel
theorem dL_law_1332 : decode code 1332 = .ok (.iaload, 1) := by decide +kernel
theorem dL_law_1333 : decode code 1333 = .ok (.aload_n 0, 1) := by decide +kernel
theorem dL_law_1334 : decode code 1334 = .ok (.iload_n 3, 1) := by decide +kernel
theorem dL_law_1335 : decode code 1335 = .ok (.iconst 2, 1) := by decide +kernel
theorem dL_law_1336 : decode code 1336 = .ok (.iadd, 1) := by decide +kernel
theorem dL_law_1337 : decode code 1337 = .ok (.iaload, 1) := by decide +kernel
theorem dL_law_1338 : decode code 1338 = .ok (.invokevirtual 153, 3) := by decide +kernel
theorem dL_law_1341 : decode code 1341 = .ok (.aload_n 2, 1) := by decide +kernel
theorem dL_law_1342 : decode code 1342 = .ok (.aload_n 0, 1) := by decide +kernel
theorem dL_law_1343 : decode code 1343 = .ok (.iload_n 3, 1) := by decide +kernel
theorem dL_law_1344 : decode code 1344 = .ok (.iconst 1, 1) := by decide +kernel
theorem dL_law_1345 : decode code 1345 = .ok (.iadd, 1) := by decide +kernel
theorem dL_law_1346 : decode code 1346 = .ok (.iaload, 1) := by decide +kernel
theorem dL_law_1347 : decode code 1347 = .ok (.aload_n 0, 1) := by decide +kernel
theorem dL_law_1348 : decode code 1348 = .ok (.iload_n 3, 1) := by decide +kernel
theorem dL_law_1349 : decode code 1349 = .ok (.iconst 2, 1) := by decide +kernel
theorem dL_law_1350 : decode code 1350 = .ok (.iadd, 1) := by decide +kernel
theorem dL_law_1351 : decode code 1351 = .ok (.iaload, 1) := by decide +kernel
theorem dL_law_1352 : decode code 1352 = .ok (.invokevirtual 156, 3) := by decide +kernel
theorem dL_law_1355 : decode code 1355 = .ok (.if_icmp .eq 123, 3) := by decide +kernel
theorem dL_law_1360 : decode code 1360 = .ok (.aload_n 1, 1) := by decide +kernel
theorem dL_law_1361 : decode code 1361 = .ok (.invokevirtual 157, 3) := by decide +kernel
theorem dL_law_1364 : decode code 1364 = .ok (.aload_n 2, 1) := by decide +kernel
theorem dL_law_1365 : decode code 1365 = .ok (.invokevirtual 161, 3) := by decide +kernel
theorem dL_law_1368 : decode code 1368 = .ok (.if_icmp .eq 110, 3) := by decide +kernel
theorem dL_law_1373 : decode code 1373 = .ok (.aload_n 1, 1) := by decide +kernel
theorem dL_law_1374 : decode code 1374 = .ok (.invokevirtual 162, 3) := by decide +kernel
theorem dL_law_1377 : decode code 1377 = .ok (.aload_n 2, 1) := by decide +kernel
theorem dL_law_1378 : decode code 1378 = .ok (.invokevirtual 165, 3) := by decide +kernel
theorem dL_law_1381 : decode code 1381 = .ok (.if_icmp .eq 97, 3) := by decide +kernel
theorem dL_law_1386 : decode code 1386 = .ok (.aload_n 1, 1) := by decide +kernel
theorem dL_law_1387 : decode code 1387 = .ok (.aload_n 0, 1) := by decide +kernel
theorem dL_law_1388 : decode code 1388 = .ok (.iload_n 3, 1) := by decide +kernel
theorem dL_law_1389 : decode code 1389 = .ok (.iconst 1, 1) := by decide +kernel
theorem dL_law_1390 : decode code 1390 = .ok (.iadd, 1) := by decide +kernel
theorem dL_law_1391 : decode code 1391 = .ok (.iaload, 1) := by decide +kernel
theorem dL_law_1392 : decode code 1392 = .ok (.invokevirtual 166, 3) := by decide +kernel
theorem dL_law_1395 : decode code 1395 = .ok (.aload_n 2, 1) := by decide +kernel
theorem dL_law_1396 : decode code 1396 = .ok (.aload_n 0, 1) := by decide +kernel
theorem dL_law_1397 : decode code 1397 = .ok (.iload_n 3, 1) := by decide +kernel
theorem dL_law_1398 : decode code 1398 = .ok (.iconst 1, 1) := by decide +kernel
theorem dL_law_1399 : decode code 1399 = .ok (.iadd, 1) := by decide +kernel
theorem dL_law_1400 : decode code 1400 = .ok (.iaload, 1) := by decide +kernel
theorem dL_law_1401 : decode code 1401 = .ok (.invokevirtual 169, 3) := by decide +kernel
theorem dL_law_1404 : decode code 1404 = .ok (.if_icmp .eq 74, 3) := by decide +kernel
theorem dL_law_1409 : decode code 1409 = .ok (.aload_n 1, 1) := by decide +kernel
theorem dL_law_1410 : decode code 1410 = .ok (.aload_n 0, 1) := by decide +kernel
theorem dL_law_1411 : decode code 1411 = .ok (.iload_n 3, 1) := by decide +kernel
theorem dL_law_1412 : decode code 1412 = .ok (.iconst 1, 1) := by decide +kernel
theorem dL_law_1413 : decode code 1413 = .ok (.iadd, 1) := by decide +kernel
theorem dL_law_1414 : decode code 1414 = .ok (.iaload, 1) := by decide +kernel
theorem dL_law_1415 : decode code 1415 = .ok (.invokevirtual 170, 3) := by decide +kernel
theorem dL_law_1418 : decode code 1418 = .ok (.aload_n 2, 1) := by decide +kernel
theorem dL_law_1419 : decode code 1419 = .ok (.aload_n 0, 1) := by decide +kernel
theorem dL_law_1420 : decode code 1420 = .ok (.iload_n 3, 1) := by decide +kernel
theorem dL_law_1421 : decode code 1421 = .ok (.iconst 1, 1) := by decide +kernel
theorem dL_law_1422 : decode code 1422 = .ok (.iadd, 1) := by decide +kernel
theorem dL_law_1423 : decode code 1423 = .ok (.iaload, 1) := by decide +kernel
theorem dL_law_1424 : decode code 1424 = .ok (.invokevirtual 173, 3) := by decide +kernel
theorem dL_law_1427 : decode code 1427 = .ok (.if_icmp .eq 51, 3) := by decide +kernel
theorem dL_law_1432 : decode code 1432 = .ok (.aload_n 1, 1) := by decide +kernel
theorem dL_law_1433 : decode code 1433 = .ok (.aload_n 0, 1) := by decide +kernel
theorem dL_law_1434 : decode code 1434 = .ok (.iload_n 3, 1) := by decide +kernel
theorem dL_law_1435 : decode code 1435 = .ok (.iconst 1, 1) := by decide +kernel
theorem dL_law_1436 : decode code 1436 = .ok (.iadd, 1) := by decide +kernel
theorem dL_law_1437 : decode code 1437 = .ok (.iaload, 1) := by decide +kernel
theorem dL_law_1438 : decode code 1438 = .ok (.invokevirtual 174, 3) := by decide +kernel
theorem dL_law_1441 : decode code 1441 = .ok (.aload_n 2, 1) := by decide +kernel
theorem dL_law_1442 : decode code 1442 = .ok (.aload_n 0, 1) := by decide +kernel
theorem dL_law_1443 : decode code 1443 = .ok (.iload_n 3, 1) := by decide +kernel
theorem dL_law_1444 : decode code 1444 = .ok (.iconst 1, 1) := by decide +kernel
theorem dL_law_1445 : decode code 1445 = .ok (.iadd, 1) := by decide +kernel
theorem dL_law_1446 : decode code 1446 = .ok (.iaload, 1) := by decide +kernel
theorem dL_law_1447 : decode code 1447 = .ok (.invokevirtual 177, 3) := by decide +kernel
theorem dL_law_1450 : decode code 1450 = .ok (.if_icmp .eq 28, 3) := by decide +kernel
theorem dL_law_1455 : decode code 1455 = .ok (.aload_n 1, 1) := by decide +kernel
theorem dL_law_1456 : decode code 1456 = .ok (.aload_n 0, 1) := by decide +kernel
theorem dL_law_1457 : decode code 1457 = .ok (.iload_n 3, 1) := by decide +kernel
theorem dL_law_1458 : decode code 1458 = .ok (.iconst 1, 1) := by decide +kernel
theorem dL_law_1459 : decode code 1459 = .ok (.iadd, 1) := by decide +kernel
theorem dL_law_1460 : decode code 1460 = .ok (.iaload, 1) := by decide +kernel
theorem dL_law_1461 : decode code 1461 = .ok (.invokevirtual 178, 3) := by decide +kernel
theorem dL_law_1464 : decode code 1464 = .ok (.aload_n 2, 1) := by decide +kernel
theorem dL_law_1465 : decode code 1465 = .ok (.aload_n 0, 1) := by decide +kernel
theorem dL_law_1466 : decode code 1466 = .ok (.iload_n 3, 1) := by decide +kernel
theorem dL_law_1467 : decode code 1467 = .ok (.iconst 1, 1) := by decide +kernel
theorem dL_law_1468 : decode code 1468 = .ok (.iadd, 1) := by decide +kernel
theorem dL_law_1469 : decode code 1469 = .ok (.iaload, 1) := by decide +kernel
theorem dL_law_1470 : decode code 1470 = .ok (.invokevirtual 181, 3) := by decide +kernel
theorem dL_law_1473 : decode code 1473 = .ok (.if_icmp .eq 5, 3) := by decide +kernel
theorem dL_law_1478 : decode code 1478 = .ok (.iinc 3 6, 3) := by decide +kernel
theorem dL_law_1481 : decode code 1481 = .ok (.goto (-1463), 3) := by decide +kernel
theorem dL_law_1484 : decode code 1484 = .ok (.iconst 1, 1) := by decide +kernel
theorem dL_law_1485 : decode code 1485 = .ok (.ireturn, 1) := by decide +kernel
theorem zdl_X11_as : (yX11_as).cls ≠ "java/lang/invoke/MethodHandle" ∧ (yX11_as).cls ≠ "java/lang/invoke/VarHandle" ∧ (parseMethodDescriptor (yX11_as).desc).map (fun d => d.parameters.length) = some 2 := by decide +kernel
theorem zdl_X11_body : (yX11_body).cls ≠ "java/lang/invoke/MethodHandle" ∧ (yX11_body).cls ≠ "java/lang/invoke/VarHandle" ∧ (parseMethodDescriptor (yX11_body).desc).map (fun d => d.parameters.length) = some 1 := by decide +kernel
theorem zdl_X11_brick : (yX11_brick).cls ≠ "java/lang/invoke/MethodHandle" ∧ (yX11_brick).cls ≠ "java/lang/invoke/VarHandle" ∧ (parseMethodDescriptor (yX11_brick).desc).map (fun d => d.parameters.length) = some 3 := by decide +kernel
theorem zdl_X11_brickOf : (yX11_brickOf).cls ≠ "java/lang/invoke/MethodHandle" ∧ (yX11_brickOf).cls ≠ "java/lang/invoke/VarHandle" ∧ (parseMethodDescriptor (yX11_brickOf).desc).map (fun d => d.parameters.length) = some 2 := by decide +kernel
theorem zdl_X11_bricks : (yX11_bricks).cls ≠ "java/lang/invoke/MethodHandle" ∧ (yX11_bricks).cls ≠ "java/lang/invoke/VarHandle" ∧ (parseMethodDescriptor (yX11_bricks).desc).map (fun d => d.parameters.length) = some 2 := by decide +kernel
theorem zdl_X11_builds : (yX11_builds).cls ≠ "java/lang/invoke/MethodHandle" ∧ (yX11_builds).cls ≠ "java/lang/invoke/VarHandle" ∧ (parseMethodDescriptor (yX11_builds).desc).map (fun d => d.parameters.length) = some 2 := by decide +kernel
theorem zdl_X11_check : (yX11_check).cls ≠ "java/lang/invoke/MethodHandle" ∧ (yX11_check).cls ≠ "java/lang/invoke/VarHandle" ∧ (parseMethodDescriptor (yX11_check).desc).map (fun d => d.parameters.length) = some 1 := by decide +kernel
theorem zdl_X11_count : (yX11_count).cls ≠ "java/lang/invoke/MethodHandle" ∧ (yX11_count).cls ≠ "java/lang/invoke/VarHandle" ∧ (parseMethodDescriptor (yX11_count).desc).map (fun d => d.parameters.length) = some 1 := by decide +kernel
theorem zdl_X11_doors : (yX11_doors).cls ≠ "java/lang/invoke/MethodHandle" ∧ (yX11_doors).cls ≠ "java/lang/invoke/VarHandle" ∧ (parseMethodDescriptor (yX11_doors).desc).map (fun d => d.parameters.length) = some 2 := by decide +kernel
theorem zdl_X11_falls : (yX11_falls).cls ≠ "java/lang/invoke/MethodHandle" ∧ (yX11_falls).cls ≠ "java/lang/invoke/VarHandle" ∧ (parseMethodDescriptor (yX11_falls).desc).map (fun d => d.parameters.length) = some 1 := by decide +kernel
theorem zdl_X11_feed : (yX11_feed).cls ≠ "java/lang/invoke/MethodHandle" ∧ (yX11_feed).cls ≠ "java/lang/invoke/VarHandle" ∧ (parseMethodDescriptor (yX11_feed).desc).map (fun d => d.parameters.length) = some 2 := by decide +kernel
theorem zdl_X11_have : (yX11_have).cls ≠ "java/lang/invoke/MethodHandle" ∧ (yX11_have).cls ≠ "java/lang/invoke/VarHandle" ∧ (parseMethodDescriptor (yX11_have).desc).map (fun d => d.parameters.length) = some 2 := by decide +kernel
theorem zdl_X11_heap : (yX11_heap).cls ≠ "java/lang/invoke/MethodHandle" ∧ (yX11_heap).cls ≠ "java/lang/invoke/VarHandle" ∧ (parseMethodDescriptor (yX11_heap).desc).map (fun d => d.parameters.length) = some 2 := by decide +kernel
theorem zdl_X11_image : (yX11_image).cls ≠ "java/lang/invoke/MethodHandle" ∧ (yX11_image).cls ≠ "java/lang/invoke/VarHandle" ∧ (parseMethodDescriptor (yX11_image).desc).map (fun d => d.parameters.length) = some 0 := by decide +kernel
theorem zdl_X11_lay : (yX11_lay).cls ≠ "java/lang/invoke/MethodHandle" ∧ (yX11_lay).cls ≠ "java/lang/invoke/VarHandle" ∧ (parseMethodDescriptor (yX11_lay).desc).map (fun d => d.parameters.length) = some 4 := by decide +kernel
theorem zdl_X11_letter : (yX11_letter).cls ≠ "java/lang/invoke/MethodHandle" ∧ (yX11_letter).cls ≠ "java/lang/invoke/VarHandle" ∧ (parseMethodDescriptor (yX11_letter).desc).map (fun d => d.parameters.length) = some 2 := by decide +kernel
theorem zdl_X11_mends : (yX11_mends).cls ≠ "java/lang/invoke/MethodHandle" ∧ (yX11_mends).cls ≠ "java/lang/invoke/VarHandle" ∧ (parseMethodDescriptor (yX11_mends).desc).map (fun d => d.parameters.length) = some 1 := by decide +kernel
theorem zdl_X11_move : (yX11_move).cls ≠ "java/lang/invoke/MethodHandle" ∧ (yX11_move).cls ≠ "java/lang/invoke/VarHandle" ∧ (parseMethodDescriptor (yX11_move).desc).map (fun d => d.parameters.length) = some 5 := by decide +kernel
theorem zdl_X11_others : (yX11_others).cls ≠ "java/lang/invoke/MethodHandle" ∧ (yX11_others).cls ≠ "java/lang/invoke/VarHandle" ∧ (parseMethodDescriptor (yX11_others).desc).map (fun d => d.parameters.length) = some 2 := by decide +kernel
theorem zdl_X11_price : (yX11_price).cls ≠ "java/lang/invoke/MethodHandle" ∧ (yX11_price).cls ≠ "java/lang/invoke/VarHandle" ∧ (parseMethodDescriptor (yX11_price).desc).map (fun d => d.parameters.length) = some 1 := by decide +kernel
theorem zdl_X11_put : (yX11_put).cls ≠ "java/lang/invoke/MethodHandle" ∧ (yX11_put).cls ≠ "java/lang/invoke/VarHandle" ∧ (parseMethodDescriptor (yX11_put).desc).map (fun d => d.parameters.length) = some 3 := by decide +kernel
theorem zdl_X11_readAs : (yX11_readAs).cls ≠ "java/lang/invoke/MethodHandle" ∧ (yX11_readAs).cls ≠ "java/lang/invoke/VarHandle" ∧ (parseMethodDescriptor (yX11_readAs).desc).map (fun d => d.parameters.length) = some 2 := by decide +kernel
theorem zdl_X11_restore : (yX11_restore).cls ≠ "java/lang/invoke/MethodHandle" ∧ (yX11_restore).cls ≠ "java/lang/invoke/VarHandle" ∧ (parseMethodDescriptor (yX11_restore).desc).map (fun d => d.parameters.length) = some 0 := by decide +kernel
theorem zdl_X11_says : (yX11_says).cls ≠ "java/lang/invoke/MethodHandle" ∧ (yX11_says).cls ≠ "java/lang/invoke/VarHandle" ∧ (parseMethodDescriptor (yX11_says).desc).map (fun d => d.parameters.length) = some 2 := by decide +kernel
theorem zdl_X11_seed : (yX11_seed).cls ≠ "java/lang/invoke/MethodHandle" ∧ (yX11_seed).cls ≠ "java/lang/invoke/VarHandle" ∧ (parseMethodDescriptor (yX11_seed).desc).map (fun d => d.parameters.length) = some 1 := by decide +kernel
theorem zdl_X11_set : (yX11_set).cls ≠ "java/lang/invoke/MethodHandle" ∧ (yX11_set).cls ≠ "java/lang/invoke/VarHandle" ∧ (parseMethodDescriptor (yX11_set).desc).map (fun d => d.parameters.length) = some 3 := by decide +kernel
theorem zdl_X11_sheet : (yX11_sheet).cls ≠ "java/lang/invoke/MethodHandle" ∧ (yX11_sheet).cls ≠ "java/lang/invoke/VarHandle" ∧ (parseMethodDescriptor (yX11_sheet).desc).map (fun d => d.parameters.length) = some 3 := by decide +kernel
theorem zdl_X11_spare : (yX11_spare).cls ≠ "java/lang/invoke/MethodHandle" ∧ (yX11_spare).cls ≠ "java/lang/invoke/VarHandle" ∧ (parseMethodDescriptor (yX11_spare).desc).map (fun d => d.parameters.length) = some 1 := by decide +kernel
theorem zdl_X11_steps : (yX11_steps).cls ≠ "java/lang/invoke/MethodHandle" ∧ (yX11_steps).cls ≠ "java/lang/invoke/VarHandle" ∧ (parseMethodDescriptor (yX11_steps).desc).map (fun d => d.parameters.length) = some 1 := by decide +kernel
theorem zdl_X11_tell : (yX11_tell).cls ≠ "java/lang/invoke/MethodHandle" ∧ (yX11_tell).cls ≠ "java/lang/invoke/VarHandle" ∧ (parseMethodDescriptor (yX11_tell).desc).map (fun d => d.parameters.length) = some 1 := by decide +kernel
theorem zdl_X11_text : (yX11_text).cls ≠ "java/lang/invoke/MethodHandle" ∧ (yX11_text).cls ≠ "java/lang/invoke/VarHandle" ∧ (parseMethodDescriptor (yX11_text).desc).map (fun d => d.parameters.length) = some 1 := by decide +kernel
theorem zdl_X11_told : (yX11_told).cls ≠ "java/lang/invoke/MethodHandle" ∧ (yX11_told).cls ≠ "java/lang/invoke/VarHandle" ∧ (parseMethodDescriptor (yX11_told).desc).map (fun d => d.parameters.length) = some 1 := by decide +kernel
theorem zdl_X11_untell : (yX11_untell).cls ≠ "java/lang/invoke/MethodHandle" ∧ (yX11_untell).cls ≠ "java/lang/invoke/VarHandle" ∧ (parseMethodDescriptor (yX11_untell).desc).map (fun d => d.parameters.length) = some 1 := by decide +kernel
theorem zdl_X11_voice : (yX11_voice).cls ≠ "java/lang/invoke/MethodHandle" ∧ (yX11_voice).cls ≠ "java/lang/invoke/VarHandle" ∧ (parseMethodDescriptor (yX11_voice).desc).map (fun d => d.parameters.length) = some 3 := by decide +kernel
theorem zdl_X11_wall : (yX11_wall).cls ≠ "java/lang/invoke/MethodHandle" ∧ (yX11_wall).cls ≠ "java/lang/invoke/VarHandle" ∧ (parseMethodDescriptor (yX11_wall).desc).map (fun d => d.parameters.length) = some 2 := by decide +kernel
theorem zdl_X11_wallIs : (yX11_wallIs).cls ≠ "java/lang/invoke/MethodHandle" ∧ (yX11_wallIs).cls ≠ "java/lang/invoke/VarHandle" ∧ (parseMethodDescriptor (yX11_wallIs).desc).map (fun d => d.parameters.length) = some 2 := by decide +kernel
theorem zdl_X11_wish : (yX11_wish).cls ≠ "java/lang/invoke/MethodHandle" ∧ (yX11_wish).cls ≠ "java/lang/invoke/VarHandle" ∧ (parseMethodDescriptor (yX11_wish).desc).map (fun d => d.parameters.length) = some 2 := by decide +kernel
theorem zdl_X11_word : (yX11_word).cls ≠ "java/lang/invoke/MethodHandle" ∧ (yX11_word).cls ≠ "java/lang/invoke/VarHandle" ∧ (parseMethodDescriptor (yX11_word).desc).map (fun d => d.parameters.length) = some 2 := by decide +kernel
theorem zdl_X11_wordIs : (yX11_wordIs).cls ≠ "java/lang/invoke/MethodHandle" ∧ (yX11_wordIs).cls ≠ "java/lang/invoke/VarHandle" ∧ (parseMethodDescriptor (yX11_wordIs).desc).map (fun d => d.parameters.length) = some 2 := by decide +kernel
theorem zdl_X11_years : (yX11_years).cls ≠ "java/lang/invoke/MethodHandle" ∧ (yX11_years).cls ≠ "java/lang/invoke/VarHandle" ∧ (parseMethodDescriptor (yX11_years).desc).map (fun d => d.parameters.length) = some 1 := by decide +kernel
theorem zdl_X12_as : (yX12_as).cls ≠ "java/lang/invoke/MethodHandle" ∧ (yX12_as).cls ≠ "java/lang/invoke/VarHandle" ∧ (parseMethodDescriptor (yX12_as).desc).map (fun d => d.parameters.length) = some 2 := by decide +kernel
theorem zdl_X12_body : (yX12_body).cls ≠ "java/lang/invoke/MethodHandle" ∧ (yX12_body).cls ≠ "java/lang/invoke/VarHandle" ∧ (parseMethodDescriptor (yX12_body).desc).map (fun d => d.parameters.length) = some 1 := by decide +kernel
theorem zdl_X12_brick : (yX12_brick).cls ≠ "java/lang/invoke/MethodHandle" ∧ (yX12_brick).cls ≠ "java/lang/invoke/VarHandle" ∧ (parseMethodDescriptor (yX12_brick).desc).map (fun d => d.parameters.length) = some 3 := by decide +kernel
theorem zdl_X12_brickOf : (yX12_brickOf).cls ≠ "java/lang/invoke/MethodHandle" ∧ (yX12_brickOf).cls ≠ "java/lang/invoke/VarHandle" ∧ (parseMethodDescriptor (yX12_brickOf).desc).map (fun d => d.parameters.length) = some 2 := by decide +kernel
theorem zdl_X12_bricks : (yX12_bricks).cls ≠ "java/lang/invoke/MethodHandle" ∧ (yX12_bricks).cls ≠ "java/lang/invoke/VarHandle" ∧ (parseMethodDescriptor (yX12_bricks).desc).map (fun d => d.parameters.length) = some 2 := by decide +kernel
theorem zdl_X12_builds : (yX12_builds).cls ≠ "java/lang/invoke/MethodHandle" ∧ (yX12_builds).cls ≠ "java/lang/invoke/VarHandle" ∧ (parseMethodDescriptor (yX12_builds).desc).map (fun d => d.parameters.length) = some 2 := by decide +kernel
theorem zdl_X12_check : (yX12_check).cls ≠ "java/lang/invoke/MethodHandle" ∧ (yX12_check).cls ≠ "java/lang/invoke/VarHandle" ∧ (parseMethodDescriptor (yX12_check).desc).map (fun d => d.parameters.length) = some 1 := by decide +kernel
theorem zdl_X12_count : (yX12_count).cls ≠ "java/lang/invoke/MethodHandle" ∧ (yX12_count).cls ≠ "java/lang/invoke/VarHandle" ∧ (parseMethodDescriptor (yX12_count).desc).map (fun d => d.parameters.length) = some 1 := by decide +kernel
theorem zdl_X12_doors : (yX12_doors).cls ≠ "java/lang/invoke/MethodHandle" ∧ (yX12_doors).cls ≠ "java/lang/invoke/VarHandle" ∧ (parseMethodDescriptor (yX12_doors).desc).map (fun d => d.parameters.length) = some 2 := by decide +kernel
theorem zdl_X12_falls : (yX12_falls).cls ≠ "java/lang/invoke/MethodHandle" ∧ (yX12_falls).cls ≠ "java/lang/invoke/VarHandle" ∧ (parseMethodDescriptor (yX12_falls).desc).map (fun d => d.parameters.length) = some 1 := by decide +kernel
theorem zdl_X12_feed : (yX12_feed).cls ≠ "java/lang/invoke/MethodHandle" ∧ (yX12_feed).cls ≠ "java/lang/invoke/VarHandle" ∧ (parseMethodDescriptor (yX12_feed).desc).map (fun d => d.parameters.length) = some 2 := by decide +kernel
theorem zdl_X12_have : (yX12_have).cls ≠ "java/lang/invoke/MethodHandle" ∧ (yX12_have).cls ≠ "java/lang/invoke/VarHandle" ∧ (parseMethodDescriptor (yX12_have).desc).map (fun d => d.parameters.length) = some 2 := by decide +kernel
theorem zdl_X12_heap : (yX12_heap).cls ≠ "java/lang/invoke/MethodHandle" ∧ (yX12_heap).cls ≠ "java/lang/invoke/VarHandle" ∧ (parseMethodDescriptor (yX12_heap).desc).map (fun d => d.parameters.length) = some 2 := by decide +kernel
theorem zdl_X12_image : (yX12_image).cls ≠ "java/lang/invoke/MethodHandle" ∧ (yX12_image).cls ≠ "java/lang/invoke/VarHandle" ∧ (parseMethodDescriptor (yX12_image).desc).map (fun d => d.parameters.length) = some 0 := by decide +kernel
theorem zdl_X12_lay : (yX12_lay).cls ≠ "java/lang/invoke/MethodHandle" ∧ (yX12_lay).cls ≠ "java/lang/invoke/VarHandle" ∧ (parseMethodDescriptor (yX12_lay).desc).map (fun d => d.parameters.length) = some 4 := by decide +kernel
theorem zdl_X12_letter : (yX12_letter).cls ≠ "java/lang/invoke/MethodHandle" ∧ (yX12_letter).cls ≠ "java/lang/invoke/VarHandle" ∧ (parseMethodDescriptor (yX12_letter).desc).map (fun d => d.parameters.length) = some 2 := by decide +kernel
theorem zdl_X12_mends : (yX12_mends).cls ≠ "java/lang/invoke/MethodHandle" ∧ (yX12_mends).cls ≠ "java/lang/invoke/VarHandle" ∧ (parseMethodDescriptor (yX12_mends).desc).map (fun d => d.parameters.length) = some 1 := by decide +kernel
theorem zdl_X12_move : (yX12_move).cls ≠ "java/lang/invoke/MethodHandle" ∧ (yX12_move).cls ≠ "java/lang/invoke/VarHandle" ∧ (parseMethodDescriptor (yX12_move).desc).map (fun d => d.parameters.length) = some 5 := by decide +kernel
theorem zdl_X12_others : (yX12_others).cls ≠ "java/lang/invoke/MethodHandle" ∧ (yX12_others).cls ≠ "java/lang/invoke/VarHandle" ∧ (parseMethodDescriptor (yX12_others).desc).map (fun d => d.parameters.length) = some 2 := by decide +kernel
theorem zdl_X12_price : (yX12_price).cls ≠ "java/lang/invoke/MethodHandle" ∧ (yX12_price).cls ≠ "java/lang/invoke/VarHandle" ∧ (parseMethodDescriptor (yX12_price).desc).map (fun d => d.parameters.length) = some 1 := by decide +kernel
theorem zdl_X12_put : (yX12_put).cls ≠ "java/lang/invoke/MethodHandle" ∧ (yX12_put).cls ≠ "java/lang/invoke/VarHandle" ∧ (parseMethodDescriptor (yX12_put).desc).map (fun d => d.parameters.length) = some 3 := by decide +kernel
theorem zdl_X12_readAs : (yX12_readAs).cls ≠ "java/lang/invoke/MethodHandle" ∧ (yX12_readAs).cls ≠ "java/lang/invoke/VarHandle" ∧ (parseMethodDescriptor (yX12_readAs).desc).map (fun d => d.parameters.length) = some 2 := by decide +kernel
theorem zdl_X12_restore : (yX12_restore).cls ≠ "java/lang/invoke/MethodHandle" ∧ (yX12_restore).cls ≠ "java/lang/invoke/VarHandle" ∧ (parseMethodDescriptor (yX12_restore).desc).map (fun d => d.parameters.length) = some 0 := by decide +kernel
theorem zdl_X12_says : (yX12_says).cls ≠ "java/lang/invoke/MethodHandle" ∧ (yX12_says).cls ≠ "java/lang/invoke/VarHandle" ∧ (parseMethodDescriptor (yX12_says).desc).map (fun d => d.parameters.length) = some 2 := by decide +kernel
theorem zdl_X12_seed : (yX12_seed).cls ≠ "java/lang/invoke/MethodHandle" ∧ (yX12_seed).cls ≠ "java/lang/invoke/VarHandle" ∧ (parseMethodDescriptor (yX12_seed).desc).map (fun d => d.parameters.length) = some 1 := by decide +kernel
theorem zdl_X12_set : (yX12_set).cls ≠ "java/lang/invoke/MethodHandle" ∧ (yX12_set).cls ≠ "java/lang/invoke/VarHandle" ∧ (parseMethodDescriptor (yX12_set).desc).map (fun d => d.parameters.length) = some 3 := by decide +kernel
theorem zdl_X12_sheet : (yX12_sheet).cls ≠ "java/lang/invoke/MethodHandle" ∧ (yX12_sheet).cls ≠ "java/lang/invoke/VarHandle" ∧ (parseMethodDescriptor (yX12_sheet).desc).map (fun d => d.parameters.length) = some 3 := by decide +kernel
theorem zdl_X12_spare : (yX12_spare).cls ≠ "java/lang/invoke/MethodHandle" ∧ (yX12_spare).cls ≠ "java/lang/invoke/VarHandle" ∧ (parseMethodDescriptor (yX12_spare).desc).map (fun d => d.parameters.length) = some 1 := by decide +kernel
theorem zdl_X12_steps : (yX12_steps).cls ≠ "java/lang/invoke/MethodHandle" ∧ (yX12_steps).cls ≠ "java/lang/invoke/VarHandle" ∧ (parseMethodDescriptor (yX12_steps).desc).map (fun d => d.parameters.length) = some 1 := by decide +kernel
theorem zdl_X12_tell : (yX12_tell).cls ≠ "java/lang/invoke/MethodHandle" ∧ (yX12_tell).cls ≠ "java/lang/invoke/VarHandle" ∧ (parseMethodDescriptor (yX12_tell).desc).map (fun d => d.parameters.length) = some 1 := by decide +kernel
theorem zdl_X12_text : (yX12_text).cls ≠ "java/lang/invoke/MethodHandle" ∧ (yX12_text).cls ≠ "java/lang/invoke/VarHandle" ∧ (parseMethodDescriptor (yX12_text).desc).map (fun d => d.parameters.length) = some 1 := by decide +kernel
theorem zdl_X12_told : (yX12_told).cls ≠ "java/lang/invoke/MethodHandle" ∧ (yX12_told).cls ≠ "java/lang/invoke/VarHandle" ∧ (parseMethodDescriptor (yX12_told).desc).map (fun d => d.parameters.length) = some 1 := by decide +kernel
theorem zdl_X12_untell : (yX12_untell).cls ≠ "java/lang/invoke/MethodHandle" ∧ (yX12_untell).cls ≠ "java/lang/invoke/VarHandle" ∧ (parseMethodDescriptor (yX12_untell).desc).map (fun d => d.parameters.length) = some 1 := by decide +kernel
theorem zdl_X12_voice : (yX12_voice).cls ≠ "java/lang/invoke/MethodHandle" ∧ (yX12_voice).cls ≠ "java/lang/invoke/VarHandle" ∧ (parseMethodDescriptor (yX12_voice).desc).map (fun d => d.parameters.length) = some 3 := by decide +kernel
theorem zdl_X12_wall : (yX12_wall).cls ≠ "java/lang/invoke/MethodHandle" ∧ (yX12_wall).cls ≠ "java/lang/invoke/VarHandle" ∧ (parseMethodDescriptor (yX12_wall).desc).map (fun d => d.parameters.length) = some 2 := by decide +kernel
theorem zdl_X12_wallIs : (yX12_wallIs).cls ≠ "java/lang/invoke/MethodHandle" ∧ (yX12_wallIs).cls ≠ "java/lang/invoke/VarHandle" ∧ (parseMethodDescriptor (yX12_wallIs).desc).map (fun d => d.parameters.length) = some 2 := by decide +kernel
theorem zdl_X12_wish : (yX12_wish).cls ≠ "java/lang/invoke/MethodHandle" ∧ (yX12_wish).cls ≠ "java/lang/invoke/VarHandle" ∧ (parseMethodDescriptor (yX12_wish).desc).map (fun d => d.parameters.length) = some 2 := by decide +kernel
theorem zdl_X12_word : (yX12_word).cls ≠ "java/lang/invoke/MethodHandle" ∧ (yX12_word).cls ≠ "java/lang/invoke/VarHandle" ∧ (parseMethodDescriptor (yX12_word).desc).map (fun d => d.parameters.length) = some 2 := by decide +kernel
theorem zdl_X12_wordIs : (yX12_wordIs).cls ≠ "java/lang/invoke/MethodHandle" ∧ (yX12_wordIs).cls ≠ "java/lang/invoke/VarHandle" ∧ (parseMethodDescriptor (yX12_wordIs).desc).map (fun d => d.parameters.length) = some 2 := by decide +kernel
theorem zdl_X12_years : (yX12_years).cls ≠ "java/lang/invoke/MethodHandle" ∧ (yX12_years).cls ≠ "java/lang/invoke/VarHandle" ∧ (parseMethodDescriptor (yX12_years).desc).map (fun d => d.parameters.length) = some 1 := by decide +kernel
def zscr (X : zX) (b N : Nat) (xs : Nat → Int32) : Prop := match X with
  | (_, _, _, _, s, _, _, _, _, _, A, _, _, _) => va_X b N xs s s.heap ∧ b < s.heap.size ∧ ¬ A b
abbrev lwL (G : zG) (b j : Nat) : List (Option Value) := [some (.ref b), some (.ref (zα G 0)), some (.ref (zα G 128)), some (.int (nI j))]
abbrev lwA (xs : Nat → Int32) (j k : Nat) : Int32 := xs (nI j + nI k).toNatClampNeg
theorem lw_inL {N j k : Nat} (hN : N ≤ 384) (hj : j + 6 ≤ N) (hk : k < 6) : vp_in (nI j + nI k) N := by
  rw [nI_add]
  exact vp_in_nI (by omega) (by omega)
theorem z_sld {G : zG} {X : zX} {w : zW} {cc : ByteArray} {nL : Nat} {own : String} {h0 : Nat} {L : List (Option Value)} {st : List Value} {b N : Nat} {xs : Nat → Int32} {i : Int32} (pc : Nat) (hX : zOk G X cc nL own h0) (d : decode cc pc = .ok (.iaload, 1)) (hs : zscr X b N xs) (hi : vp_in i N) (k : zZ G X w (pc + 1) L (.int (xs i.toNatClampNeg) :: st)) : zZ G X w pc L (.int i :: .ref b :: st) := by
  obtain ⟨p, l, e, R, s, m, args, below, meth, c, A, cells, slots, Q⟩ := X
  obtain ⟨hx, hb, hml, hown, hts, hK, hS0, hg, hA, hfr, hlo, hce, hsl⟩ := hX
  intro H locs ls hP hS hl
  exact va_sld hx hb hs.1 hs.2.1 hs.2.2 hS hi d (k H locs ls hP hS hl)
theorem z_slen {G : zG} {X : zX} {w : zW} {cc : ByteArray} {nL : Nat} {own : String} {h0 : Nat} {L : List (Option Value)} {st : List Value} {b N : Nat} {xs : Nat → Int32} (pc : Nat) (hX : zOk G X cc nL own h0) (d : decode cc pc = .ok (.arraylength, 1)) (hs : zscr X b N xs) (k : zZ G X w (pc + 1) L (.int (nI N) :: st)) : zZ G X w pc L (.ref b :: st) := by
  obtain ⟨p, l, e, R, s, m, args, below, meth, c, A, cells, slots, Q⟩ := X
  obtain ⟨hx, hb, hml, hown, hts, hK, hS0, hg, hA, hfr, hlo, hce, hsl⟩ := hX
  intro H locs ls hP hS hl
  exact va_slen hx hb hs.1 hs.2.1 hs.2.2 hS d (k H locs ls hP hS hl)
