-- the code words, by program
set_option maxRecDepth 100000 in
theorem am_cw0 : lw_tbl[495]? = some (Cond.code (am_nm 0) (am_bc 0) (am_ml 0) (am_re 0)) := rfl
set_option maxRecDepth 100000 in
theorem am_cw1 : lw_tbl[1344]? = some (Cond.code (am_nm 1) (am_bc 1) (am_ml 1) (am_re 1)) := rfl
set_option maxRecDepth 100000 in
theorem am_cw2 : lw_tbl[1334]? = some (Cond.code (am_nm 2) (am_bc 2) (am_ml 2) (am_re 2)) := rfl
set_option maxRecDepth 100000 in
theorem am_cw3 : lw_tbl[1339]? = some (Cond.code (am_nm 3) (am_bc 3) (am_ml 3) (am_re 3)) := rfl
set_option maxRecDepth 100000 in
theorem am_cw4 : lw_tbl[1350]? = some (Cond.code (am_nm 4) (am_bc 4) (am_ml 4) (am_re 4)) := rfl
set_option maxRecDepth 100000 in
theorem am_cw5 : lw_tbl[473]? = some (Cond.code (am_nm 5) (am_bc 5) (am_ml 5) (am_re 5)) := rfl
set_option maxRecDepth 100000 in
theorem am_cw6 : lw_tbl[1359]? = some (Cond.code (am_nm 6) (am_bc 6) (am_ml 6) (am_re 6)) := rfl
set_option maxRecDepth 100000 in
theorem am_cw7 : lw_tbl[1366]? = some (Cond.code (am_nm 7) (am_bc 7) (am_ml 7) (am_re 7)) := rfl
set_option maxRecDepth 100000 in
theorem am_cw8 : lw_tbl[1374]? = some (Cond.code (am_nm 8) (am_bc 8) (am_ml 8) (am_re 8)) := rfl
set_option maxRecDepth 100000 in
theorem am_cw9 : lw_tbl[1379]? = some (Cond.code (am_nm 9) (am_bc 9) (am_ml 9) (am_re 9)) := rfl
set_option maxRecDepth 100000 in
theorem am_cw10 : lw_tbl[1383]? = some (Cond.code (am_nm 10) (am_bc 10) (am_ml 10) (am_re 10)) := rfl
set_option maxRecDepth 100000 in
theorem am_cw11 : lw_tbl[1391]? = some (Cond.code (am_nm 11) (am_bc 11) (am_ml 11) (am_re 11)) := rfl
set_option maxRecDepth 100000 in
theorem am_cw12 : lw_tbl[333]? = some (Cond.code (am_nm 12) (am_bc 12) (am_ml 12) (am_re 12)) := rfl
set_option maxRecDepth 100000 in
theorem am_cw13 : lw_tbl[899]? = some (Cond.code (am_nm 13) (am_bc 13) (am_ml 13) (am_re 13)) := rfl
set_option maxRecDepth 100000 in
theorem am_cw14 : lw_tbl[930]? = some (Cond.code (am_nm 14) (am_bc 14) (am_ml 14) (am_re 14)) := rfl
set_option maxRecDepth 100000 in
theorem am_cw15 : lw_tbl[1021]? = some (Cond.code (am_nm 15) (am_bc 15) (am_ml 15) (am_re 15)) := rfl
set_option maxRecDepth 100000 in
theorem am_cw16 : lw_tbl[980]? = some (Cond.code (am_nm 16) (am_bc 16) (am_ml 16) (am_re 16)) := rfl
set_option maxRecDepth 100000 in
theorem am_cw17 : lw_tbl[976]? = some (Cond.code (am_nm 17) (am_bc 17) (am_ml 17) (am_re 17)) := rfl
set_option maxRecDepth 100000 in
theorem am_cw18 : lw_tbl[908]? = some (Cond.code (am_nm 18) (am_bc 18) (am_ml 18) (am_re 18)) := rfl
set_option maxRecDepth 100000 in
theorem am_cw19 : lw_tbl[919]? = some (Cond.code (am_nm 19) (am_bc 19) (am_ml 19) (am_re 19)) := rfl
set_option maxRecDepth 100000 in
theorem am_cw20 : lw_tbl[1016]? = some (Cond.code (am_nm 20) (am_bc 20) (am_ml 20) (am_re 20)) := rfl
set_option maxRecDepth 100000 in
theorem am_cw21 : lw_tbl[381]? = some (Cond.code (am_nm 21) (am_bc 21) (am_ml 21) (am_re 21)) := rfl
set_option maxRecDepth 100000 in
theorem am_cw22 : lw_tbl[1120]? = some (Cond.code (am_nm 22) (am_bc 22) (am_ml 22) (am_re 22)) := rfl
set_option maxRecDepth 100000 in
theorem am_cw23 : lw_tbl[1126]? = some (Cond.code (am_nm 23) (am_bc 23) (am_ml 23) (am_re 23)) := rfl
set_option maxRecDepth 100000 in
theorem am_cw24 : lw_tbl[1150]? = some (Cond.code (am_nm 24) (am_bc 24) (am_ml 24) (am_re 24)) := rfl
set_option maxRecDepth 100000 in
theorem am_cw25 : lw_tbl[1387]? = some (Cond.code (am_nm 25) (am_bc 25) (am_ml 25) (am_re 25)) := rfl
set_option maxRecDepth 100000 in
theorem am_cw26 : lw_tbl[1159]? = some (Cond.code (am_nm 26) (am_bc 26) (am_ml 26) (am_re 26)) := rfl
set_option maxRecDepth 100000 in
theorem am_cw27 : lw_tbl[1155]? = some (Cond.code (am_nm 27) (am_bc 27) (am_ml 27) (am_re 27)) := rfl
set_option maxRecDepth 100000 in
theorem am_cw28 : lw_tbl[1145]? = some (Cond.code (am_nm 28) (am_bc 28) (am_ml 28) (am_re 28)) := rfl
set_option maxRecDepth 100000 in
theorem am_cw29 : lw_tbl[339]? = some (Cond.code (am_nm 29) (am_bc 29) (am_ml 29) (am_re 29)) := rfl
set_option maxRecDepth 100000 in
theorem am_cw30 : lw_tbl[934]? = some (Cond.code (am_nm 30) (am_bc 30) (am_ml 30) (am_re 30)) := rfl
set_option maxRecDepth 100000 in
theorem am_cw31 : lw_tbl[939]? = some (Cond.code (am_nm 31) (am_bc 31) (am_ml 31) (am_re 31)) := rfl
set_option maxRecDepth 100000 in
theorem am_cw32 : lw_tbl[240]? = some (Cond.code (am_nm 32) (am_bc 32) (am_ml 32) (am_re 32)) := rfl
set_option maxRecDepth 100000 in
theorem am_cw33 : lw_tbl[742]? = some (Cond.code (am_nm 33) (am_bc 33) (am_ml 33) (am_re 33)) := rfl
set_option maxRecDepth 100000 in
theorem am_cw34 : lw_tbl[772]? = some (Cond.code (am_nm 34) (am_bc 34) (am_ml 34) (am_re 34)) := rfl
set_option maxRecDepth 100000 in
theorem am_cw35 : lw_tbl[768]? = some (Cond.code (am_nm 35) (am_bc 35) (am_ml 35) (am_re 35)) := rfl
set_option maxRecDepth 100000 in
theorem am_cw36 : lw_tbl[776]? = some (Cond.code (am_nm 36) (am_bc 36) (am_ml 36) (am_re 36)) := rfl
set_option maxRecDepth 100000 in
theorem am_cw37 : lw_tbl[788]? = some (Cond.code (am_nm 37) (am_bc 37) (am_ml 37) (am_re 37)) := rfl
set_option maxRecDepth 100000 in
theorem am_cw38 : lw_tbl[795]? = some (Cond.code (am_nm 38) (am_bc 38) (am_ml 38) (am_re 38)) := rfl
set_option maxRecDepth 100000 in
theorem am_cw39 : lw_tbl[799]? = some (Cond.code (am_nm 39) (am_bc 39) (am_ml 39) (am_re 39)) := rfl
set_option maxRecDepth 100000 in
theorem am_cw40 : lw_tbl[825]? = some (Cond.code (am_nm 40) (am_bc 40) (am_ml 40) (am_re 40)) := rfl
set_option maxRecDepth 100000 in
theorem am_cw41 : lw_tbl[829]? = some (Cond.code (am_nm 41) (am_bc 41) (am_ml 41) (am_re 41)) := rfl
set_option maxRecDepth 100000 in
theorem am_cw42 : lw_tbl[833]? = some (Cond.code (am_nm 42) (am_bc 42) (am_ml 42) (am_re 42)) := rfl
set_option maxRecDepth 100000 in
theorem am_cw43 : lw_tbl[837]? = some (Cond.code (am_nm 43) (am_bc 43) (am_ml 43) (am_re 43)) := rfl
set_option maxRecDepth 100000 in
theorem am_cw44 : lw_tbl[849]? = some (Cond.code (am_nm 44) (am_bc 44) (am_ml 44) (am_re 44)) := rfl
set_option maxRecDepth 100000 in
theorem am_cw45 : lw_tbl[853]? = some (Cond.code (am_nm 45) (am_bc 45) (am_ml 45) (am_re 45)) := rfl
set_option maxRecDepth 100000 in
theorem am_cw46 : lw_tbl[857]? = some (Cond.code (am_nm 46) (am_bc 46) (am_ml 46) (am_re 46)) := rfl
set_option maxRecDepth 100000 in
theorem am_cw47 : lw_tbl[861]? = some (Cond.code (am_nm 47) (am_bc 47) (am_ml 47) (am_re 47)) := rfl
set_option maxRecDepth 100000 in
theorem am_cw48 : lw_tbl[841]? = some (Cond.code (am_nm 48) (am_bc 48) (am_ml 48) (am_re 48)) := rfl
set_option maxRecDepth 100000 in
theorem am_cw49 : lw_tbl[845]? = some (Cond.code (am_nm 49) (am_bc 49) (am_ml 49) (am_re 49)) := rfl
set_option maxRecDepth 100000 in
theorem am_cw50 : lw_tbl[760]? = some (Cond.code (am_nm 50) (am_bc 50) (am_ml 50) (am_re 50)) := rfl
set_option maxRecDepth 100000 in
theorem am_cw51 : lw_tbl[748]? = some (Cond.code (am_nm 51) (am_bc 51) (am_ml 51) (am_re 51)) := rfl
set_option maxRecDepth 100000 in
theorem am_cw52 : lw_tbl[756]? = some (Cond.code (am_nm 52) (am_bc 52) (am_ml 52) (am_re 52)) := rfl
set_option maxRecDepth 100000 in
theorem am_cw53 : lw_tbl[752]? = some (Cond.code (am_nm 53) (am_bc 53) (am_ml 53) (am_re 53)) := rfl
set_option maxRecDepth 100000 in
theorem am_cw54 : lw_tbl[276]? = some (Cond.code (am_nm 54) (am_bc 54) (am_ml 54) (am_re 54)) := rfl
set_option maxRecDepth 100000 in
theorem am_cw55 : lw_tbl[887]? = some (Cond.code (am_nm 55) (am_bc 55) (am_ml 55) (am_re 55)) := rfl
set_option maxRecDepth 100000 in
theorem am_cw56 : lw_tbl[803]? = some (Cond.code (am_nm 56) (am_bc 56) (am_ml 56) (am_re 56)) := rfl
set_option maxRecDepth 100000 in
theorem am_cw57 : lw_tbl[989]? = some (Cond.code (am_nm 57) (am_bc 57) (am_ml 57) (am_re 57)) := rfl
set_option maxRecDepth 100000 in
theorem am_cw58 : lw_tbl[1108]? = some (Cond.code (am_nm 58) (am_bc 58) (am_ml 58) (am_re 58)) := rfl
set_option maxRecDepth 100000 in
theorem am_cw59 : lw_tbl[817]? = some (Cond.code (am_nm 59) (am_bc 59) (am_ml 59) (am_re 59)) := rfl
set_option maxRecDepth 100000 in
theorem am_cw60 : lw_tbl[1112]? = some (Cond.code (am_nm 60) (am_bc 60) (am_ml 60) (am_re 60)) := rfl
set_option maxRecDepth 100000 in
theorem am_cw61 : lw_tbl[810]? = some (Cond.code (am_nm 61) (am_bc 61) (am_ml 61) (am_re 61)) := rfl
set_option maxRecDepth 100000 in
theorem am_cw62 : lw_tbl[1029]? = some (Cond.code (am_nm 62) (am_bc 62) (am_ml 62) (am_re 62)) := rfl
set_option maxRecDepth 100000 in
theorem am_cw63 : lw_tbl[1083]? = some (Cond.code (am_nm 63) (am_bc 63) (am_ml 63) (am_re 63)) := rfl
set_option maxRecDepth 100000 in
theorem am_cw64 : lw_tbl[913]? = some (Cond.code (am_nm 64) (am_bc 64) (am_ml 64) (am_re 64)) := rfl
set_option maxRecDepth 100000 in
theorem am_cw65 : lw_tbl[445]? = some (Cond.code (am_nm 65) (am_bc 65) (am_ml 65) (am_re 65)) := rfl
set_option maxRecDepth 100000 in
theorem am_cw66 : lw_tbl[1189]? = some (Cond.code (am_nm 66) (am_bc 66) (am_ml 66) (am_re 66)) := rfl
set_option maxRecDepth 100000 in
theorem am_cw67 : lw_tbl[1197]? = some (Cond.code (am_nm 67) (am_bc 67) (am_ml 67) (am_re 67)) := rfl
set_option maxRecDepth 100000 in
theorem am_cw68 : lw_tbl[1204]? = some (Cond.code (am_nm 68) (am_bc 68) (am_ml 68) (am_re 68)) := rfl
set_option maxRecDepth 100000 in
theorem am_cw69 : lw_tbl[1208]? = some (Cond.code (am_nm 69) (am_bc 69) (am_ml 69) (am_re 69)) := rfl
set_option maxRecDepth 100000 in
theorem am_cw70 : lw_tbl[410]? = some (Cond.code (am_nm 70) (am_bc 70) (am_ml 70) (am_re 70)) := rfl
set_option maxRecDepth 100000 in
theorem am_cw71 : lw_tbl[1132]? = some (Cond.code (am_nm 71) (am_bc 71) (am_ml 71) (am_re 71)) := rfl
set_option maxRecDepth 100000 in
theorem am_cw72 : lw_tbl[1136]? = some (Cond.code (am_nm 72) (am_bc 72) (am_ml 72) (am_re 72)) := rfl
set_option maxRecDepth 100000 in
theorem am_cw73 : lw_tbl[1141]? = some (Cond.code (am_nm 73) (am_bc 73) (am_ml 73) (am_re 73)) := rfl
set_option maxRecDepth 100000 in
theorem am_cw74 : lw_tbl[1235]? = some (Cond.code (am_nm 74) (am_bc 74) (am_ml 74) (am_re 74)) := rfl
set_option maxRecDepth 100000 in
theorem am_cw75 : lw_tbl[1163]? = some (Cond.code (am_nm 75) (am_bc 75) (am_ml 75) (am_re 75)) := rfl
set_option maxRecDepth 100000 in
theorem am_cw76 : lw_tbl[1179]? = some (Cond.code (am_nm 76) (am_bc 76) (am_ml 76) (am_re 76)) := rfl
set_option maxRecDepth 100000 in
theorem am_cw77 : lw_tbl[1167]? = some (Cond.code (am_nm 77) (am_bc 77) (am_ml 77) (am_re 77)) := rfl
set_option maxRecDepth 100000 in
theorem am_cw78 : lw_tbl[1171]? = some (Cond.code (am_nm 78) (am_bc 78) (am_ml 78) (am_re 78)) := rfl
set_option maxRecDepth 100000 in
theorem am_cw79 : lw_tbl[209]? = some (Cond.code (am_nm 79) (am_bc 79) (am_ml 79) (am_re 79)) := rfl
set_option maxRecDepth 100000 in
theorem am_cw80 : lw_tbl[600]? = some (Cond.code (am_nm 80) (am_bc 80) (am_ml 80) (am_re 80)) := rfl
set_option maxRecDepth 100000 in
theorem am_cw81 : lw_tbl[608]? = some (Cond.code (am_nm 81) (am_bc 81) (am_ml 81) (am_re 81)) := rfl
set_option maxRecDepth 100000 in
theorem am_cw82 : lw_tbl[676]? = some (Cond.code (am_nm 82) (am_bc 82) (am_ml 82) (am_re 82)) := rfl
set_option maxRecDepth 100000 in
theorem am_cw83 : lw_tbl[680]? = some (Cond.code (am_nm 83) (am_bc 83) (am_ml 83) (am_re 83)) := rfl
set_option maxRecDepth 100000 in
theorem am_cw84 : lw_tbl[615]? = some (Cond.code (am_nm 84) (am_bc 84) (am_ml 84) (am_re 84)) := rfl
set_option maxRecDepth 100000 in
theorem am_cw85 : lw_tbl[619]? = some (Cond.code (am_nm 85) (am_bc 85) (am_ml 85) (am_re 85)) := rfl
set_option maxRecDepth 100000 in
theorem am_cw86 : lw_tbl[672]? = some (Cond.code (am_nm 86) (am_bc 86) (am_ml 86) (am_re 86)) := rfl
set_option maxRecDepth 100000 in
theorem am_cw87 : lw_tbl[764]? = some (Cond.code (am_nm 87) (am_bc 87) (am_ml 87) (am_re 87)) := rfl
set_option maxRecDepth 100000 in
theorem am_cw88 : lw_tbl[531]? = some (Cond.code (am_nm 88) (am_bc 88) (am_ml 88) (am_re 88)) := rfl
set_option maxRecDepth 100000 in
theorem am_cw89 : lw_tbl[1062]? = some (Cond.code (am_nm 89) (am_bc 89) (am_ml 89) (am_re 89)) := rfl
set_option maxRecDepth 100000 in
theorem am_cw90 : lw_tbl[1425]? = some (Cond.code (am_nm 90) (am_bc 90) (am_ml 90) (am_re 90)) := rfl
set_option maxRecDepth 100000 in
theorem am_cw91 : lw_tbl[1437]? = some (Cond.code (am_nm 91) (am_bc 91) (am_ml 91) (am_re 91)) := rfl
set_option maxRecDepth 100000 in
theorem am_cw92 : lw_tbl[1070]? = some (Cond.code (am_nm 92) (am_bc 92) (am_ml 92) (am_re 92)) := rfl
set_option maxRecDepth 100000 in
theorem am_cw93 : lw_tbl[201]? = some (Cond.code (am_nm 93) (am_bc 93) (am_ml 93) (am_re 93)) := rfl
set_option maxRecDepth 100000 in
theorem am_cw94 : lw_tbl[596]? = some (Cond.code (am_nm 94) (am_bc 94) (am_ml 94) (am_re 94)) := rfl
set_option maxRecDepth 100000 in
theorem am_cw95 : lw_tbl[604]? = some (Cond.code (am_nm 95) (am_bc 95) (am_ml 95) (am_re 95)) := rfl
set_option maxRecDepth 100000 in
theorem am_cw96 : lw_tbl[879]? = some (Cond.code (am_nm 96) (am_bc 96) (am_ml 96) (am_re 96)) := rfl
set_option maxRecDepth 100000 in
theorem am_cw97 : lw_tbl[883]? = some (Cond.code (am_nm 97) (am_bc 97) (am_ml 97) (am_re 97)) := rfl
set_option maxRecDepth 100000 in
theorem am_cw98 : lw_tbl[951]? = some (Cond.code (am_nm 98) (am_bc 98) (am_ml 98) (am_re 98)) := rfl
set_option maxRecDepth 100000 in
theorem am_cw99 : lw_tbl[960]? = some (Cond.code (am_nm 99) (am_bc 99) (am_ml 99) (am_re 99)) := rfl
set_option maxRecDepth 100000 in
theorem am_cw100 : lw_tbl[965]? = some (Cond.code (am_nm 100) (am_bc 100) (am_ml 100) (am_re 100)) := rfl
set_option maxRecDepth 100000 in
theorem am_cw101 : lw_tbl[985]? = some (Cond.code (am_nm 101) (am_bc 101) (am_ml 101) (am_re 101)) := rfl
set_option maxRecDepth 100000 in
theorem am_cw102 : lw_tbl[994]? = some (Cond.code (am_nm 102) (am_bc 102) (am_ml 102) (am_re 102)) := rfl
set_option maxRecDepth 100000 in
theorem am_cw103 : lw_tbl[1008]? = some (Cond.code (am_nm 103) (am_bc 103) (am_ml 103) (am_re 103)) := rfl
set_option maxRecDepth 100000 in
theorem am_cw104 : lw_tbl[1043]? = some (Cond.code (am_nm 104) (am_bc 104) (am_ml 104) (am_re 104)) := rfl
set_option maxRecDepth 100000 in
theorem am_cw105 : lw_tbl[1047]? = some (Cond.code (am_nm 105) (am_bc 105) (am_ml 105) (am_re 105)) := rfl
set_option maxRecDepth 100000 in
theorem am_cw106 : lw_tbl[1051]? = some (Cond.code (am_nm 106) (am_bc 106) (am_ml 106) (am_re 106)) := rfl
set_option maxRecDepth 100000 in
theorem am_cw107 : lw_tbl[1055]? = some (Cond.code (am_nm 107) (am_bc 107) (am_ml 107) (am_re 107)) := rfl
set_option maxRecDepth 100000 in
theorem am_cw108 : lw_tbl[1087]? = some (Cond.code (am_nm 108) (am_bc 108) (am_ml 108) (am_re 108)) := rfl
set_option maxRecDepth 100000 in
theorem am_cw109 : lw_tbl[1091]? = some (Cond.code (am_nm 109) (am_bc 109) (am_ml 109) (am_re 109)) := rfl
set_option maxRecDepth 100000 in
theorem am_cw110 : lw_tbl[1104]? = some (Cond.code (am_nm 110) (am_bc 110) (am_ml 110) (am_re 110)) := rfl
set_option maxRecDepth 100000 in
theorem am_cw111 : lw_tbl[1175]? = some (Cond.code (am_nm 111) (am_bc 111) (am_ml 111) (am_re 111)) := rfl
set_option maxRecDepth 100000 in
theorem am_cw112 : lw_tbl[1184]? = some (Cond.code (am_nm 112) (am_bc 112) (am_ml 112) (am_re 112)) := rfl
set_option maxRecDepth 100000 in
theorem am_cw113 : lw_tbl[1213]? = some (Cond.code (am_nm 113) (am_bc 113) (am_ml 113) (am_re 113)) := rfl
set_option maxRecDepth 100000 in
theorem am_cw114 : lw_tbl[1217]? = some (Cond.code (am_nm 114) (am_bc 114) (am_ml 114) (am_re 114)) := rfl
set_option maxRecDepth 100000 in
theorem am_cw115 : lw_tbl[1227]? = some (Cond.code (am_nm 115) (am_bc 115) (am_ml 115) (am_re 115)) := rfl
set_option maxRecDepth 100000 in
theorem am_cw116 : lw_tbl[1240]? = some (Cond.code (am_nm 116) (am_bc 116) (am_ml 116) (am_re 116)) := rfl
set_option maxRecDepth 100000 in
theorem am_cw117 : lw_tbl[1244]? = some (Cond.code (am_nm 117) (am_bc 117) (am_ml 117) (am_re 117)) := rfl
set_option maxRecDepth 100000 in
theorem am_cw118 : lw_tbl[1248]? = some (Cond.code (am_nm 118) (am_bc 118) (am_ml 118) (am_re 118)) := rfl
set_option maxRecDepth 100000 in
theorem am_cw119 : lw_tbl[1253]? = some (Cond.code (am_nm 119) (am_bc 119) (am_ml 119) (am_re 119)) := rfl
set_option maxRecDepth 100000 in
theorem am_cw120 : lw_tbl[1257]? = some (Cond.code (am_nm 120) (am_bc 120) (am_ml 120) (am_re 120)) := rfl
set_option maxRecDepth 100000 in
theorem am_cw121 : lw_tbl[1261]? = some (Cond.code (am_nm 121) (am_bc 121) (am_ml 121) (am_re 121)) := rfl
set_option maxRecDepth 100000 in
theorem am_cw122 : lw_tbl[1265]? = some (Cond.code (am_nm 122) (am_bc 122) (am_ml 122) (am_re 122)) := rfl
set_option maxRecDepth 100000 in
theorem am_cw123 : lw_tbl[1269]? = some (Cond.code (am_nm 123) (am_bc 123) (am_ml 123) (am_re 123)) := rfl
set_option maxRecDepth 100000 in
theorem am_cw124 : lw_tbl[1285]? = some (Cond.code (am_nm 124) (am_bc 124) (am_ml 124) (am_re 124)) := rfl
set_option maxRecDepth 100000 in
theorem am_cw125 : lw_tbl[1300]? = some (Cond.code (am_nm 125) (am_bc 125) (am_ml 125) (am_re 125)) := rfl
set_option maxRecDepth 100000 in
theorem am_cw126 : lw_tbl[1304]? = some (Cond.code (am_nm 126) (am_bc 126) (am_ml 126) (am_re 126)) := rfl
set_option maxRecDepth 100000 in
theorem am_cw127 : lw_tbl[1321]? = some (Cond.code (am_nm 127) (am_bc 127) (am_ml 127) (am_re 127)) := rfl
set_option maxRecDepth 100000 in
theorem am_cw128 : lw_tbl[1326]? = some (Cond.code (am_nm 128) (am_bc 128) (am_ml 128) (am_re 128)) := rfl
set_option maxRecDepth 100000 in
theorem am_cw129 : lw_tbl[1355]? = some (Cond.code (am_nm 129) (am_bc 129) (am_ml 129) (am_re 129)) := rfl
set_option maxRecDepth 100000 in
theorem am_cw130 : lw_tbl[1396]? = some (Cond.code (am_nm 130) (am_bc 130) (am_ml 130) (am_re 130)) := rfl
set_option maxRecDepth 100000 in
theorem am_cw131 : lw_tbl[1401]? = some (Cond.code (am_nm 131) (am_bc 131) (am_ml 131) (am_re 131)) := rfl
set_option maxRecDepth 100000 in
theorem am_cw132 : lw_tbl[1417]? = some (Cond.code (am_nm 132) (am_bc 132) (am_ml 132) (am_re 132)) := rfl
set_option maxRecDepth 100000 in
theorem am_cw133 : lw_tbl[1421]? = some (Cond.code (am_nm 133) (am_bc 133) (am_ml 133) (am_re 133)) := rfl
set_option maxRecDepth 100000 in
theorem am_cw134 : lw_tbl[1430]? = some (Cond.code (am_nm 134) (am_bc 134) (am_ml 134) (am_re 134)) := rfl
set_option maxRecDepth 100000 in
theorem am_cw135 : lw_tbl[1441]? = some (Cond.code (am_nm 135) (am_bc 135) (am_ml 135) (am_re 135)) := rfl
set_option maxRecDepth 100000 in
theorem am_cw136 : lw_tbl[1445]? = some (Cond.code (am_nm 136) (am_bc 136) (am_ml 136) (am_re 136)) := rfl
set_option maxRecDepth 100000 in
theorem am_cw137 : lw_tbl[1449]? = some (Cond.code (am_nm 137) (am_bc 137) (am_ml 137) (am_re 137)) := rfl
set_option maxRecDepth 100000 in
theorem am_cw138 : lw_tbl[1453]? = some (Cond.code (am_nm 138) (am_bc 138) (am_ml 138) (am_re 138)) := rfl
set_option maxRecDepth 100000 in
theorem am_cw139 : lw_tbl[806]? = some (Cond.code (am_nm 139) (am_bc 139) (am_ml 139) (am_re 139)) := rfl
set_option maxRecDepth 100000 in
theorem am_cw140 : lw_tbl[813]? = some (Cond.code (am_nm 140) (am_bc 140) (am_ml 140) (am_re 140)) := rfl
set_option maxRecDepth 100000 in
theorem am_cw141 : lw_tbl[891]? = some (Cond.code (am_nm 141) (am_bc 141) (am_ml 141) (am_re 141)) := rfl
set_option maxRecDepth 100000 in
theorem am_cw142 : lw_tbl[955]? = some (Cond.code (am_nm 142) (am_bc 142) (am_ml 142) (am_re 142)) := rfl
set_option maxRecDepth 100000 in
theorem am_cw143 : lw_tbl[820]? = some (Cond.code (am_nm 143) (am_bc 143) (am_ml 143) (am_re 143)) := rfl
set_option maxRecDepth 100000 in
theorem am_cw144 : lw_tbl[791]? = some (Cond.code (am_nm 144) (am_bc 144) (am_ml 144) (am_re 144)) := rfl
set_option maxRecDepth 100000 in
theorem am_cw145 : lw_tbl[779]? = some (Cond.code (am_nm 145) (am_bc 145) (am_ml 145) (am_re 145)) := rfl
set_option maxRecDepth 100000 in
theorem am_cw146 : lw_tbl[783]? = some (Cond.code (am_nm 146) (am_bc 146) (am_ml 146) (am_re 146)) := rfl
set_option maxRecDepth 100000 in
theorem am_cw147 : lw_tbl[1025]? = some (Cond.code (am_nm 147) (am_bc 147) (am_ml 147) (am_re 147)) := rfl
set_option maxRecDepth 100000 in
theorem am_cw148 : lw_tbl[1280]? = some (Cond.code (am_nm 148) (am_bc 148) (am_ml 148) (am_re 148)) := rfl
set_option maxRecDepth 100000 in
theorem am_cw149 : lw_tbl[922]? = some (Cond.code (am_nm 149) (am_bc 149) (am_ml 149) (am_re 149)) := rfl
set_option maxRecDepth 100000 in
theorem am_cw150 : lw_tbl[1292]? = some (Cond.code (am_nm 150) (am_bc 150) (am_ml 150) (am_re 150)) := rfl
set_option maxRecDepth 100000 in
theorem am_cw151 : lw_tbl[968]? = some (Cond.code (am_nm 151) (am_bc 151) (am_ml 151) (am_re 151)) := rfl
set_option maxRecDepth 100000 in
theorem am_cw152 : lw_tbl[1058]? = some (Cond.code (am_nm 152) (am_bc 152) (am_ml 152) (am_re 152)) := rfl
set_option maxRecDepth 100000 in
theorem am_cw153 : lw_tbl[895]? = some (Cond.code (am_nm 153) (am_bc 153) (am_ml 153) (am_re 153)) := rfl
set_option maxRecDepth 100000 in
theorem am_cw154 : lw_tbl[1003]? = some (Cond.code (am_nm 154) (am_bc 154) (am_ml 154) (am_re 154)) := rfl
set_option maxRecDepth 100000 in
theorem am_cw155 : lw_tbl[998]? = some (Cond.code (am_nm 155) (am_bc 155) (am_ml 155) (am_re 155)) := rfl
set_option maxRecDepth 100000 in
theorem am_cw156 : lw_tbl[1074]? = some (Cond.code (am_nm 156) (am_bc 156) (am_ml 156) (am_re 156)) := rfl
set_option maxRecDepth 100000 in
theorem am_cw157 : lw_tbl[1034]? = some (Cond.code (am_nm 157) (am_bc 157) (am_ml 157) (am_re 157)) := rfl
set_option maxRecDepth 100000 in
theorem am_cw158 : lw_tbl[1099]? = some (Cond.code (am_nm 158) (am_bc 158) (am_ml 158) (am_re 158)) := rfl
set_option maxRecDepth 100000 in
theorem am_cw159 : lw_tbl[1095]? = some (Cond.code (am_nm 159) (am_bc 159) (am_ml 159) (am_re 159)) := rfl
set_option maxRecDepth 100000 in
theorem am_cw160 : lw_tbl[1066]? = some (Cond.code (am_nm 160) (am_bc 160) (am_ml 160) (am_re 160)) := rfl
set_option maxRecDepth 100000 in
theorem am_cw161 : lw_tbl[1079]? = some (Cond.code (am_nm 161) (am_bc 161) (am_ml 161) (am_re 161)) := rfl
set_option maxRecDepth 100000 in
theorem am_cw162 : lw_tbl[1012]? = some (Cond.code (am_nm 162) (am_bc 162) (am_ml 162) (am_re 162)) := rfl
set_option maxRecDepth 100000 in
theorem am_cw163 : lw_tbl[1457]? = some (Cond.code (am_nm 163) (am_bc 163) (am_ml 163) (am_re 163)) := rfl
set_option maxRecDepth 100000 in
theorem am_cw164 : lw_tbl[1116]? = some (Cond.code (am_nm 164) (am_bc 164) (am_ml 164) (am_re 164)) := rfl
set_option maxRecDepth 100000 in
theorem am_cw165 : lw_tbl[1231]? = some (Cond.code (am_nm 165) (am_bc 165) (am_ml 165) (am_re 165)) := rfl
set_option maxRecDepth 100000 in
theorem am_cw166 : lw_tbl[972]? = some (Cond.code (am_nm 166) (am_bc 166) (am_ml 166) (am_re 166)) := rfl
set_option maxRecDepth 100000 in
theorem am_cw167 : lw_tbl[1317]? = some (Cond.code (am_nm 167) (am_bc 167) (am_ml 167) (am_re 167)) := rfl
set_option maxRecDepth 100000 in
theorem am_cw168 : lw_tbl[1308]? = some (Cond.code (am_nm 168) (am_bc 168) (am_ml 168) (am_re 168)) := rfl
set_option maxRecDepth 100000 in
theorem am_cw169 : lw_tbl[1313]? = some (Cond.code (am_nm 169) (am_bc 169) (am_ml 169) (am_re 169)) := rfl
set_option maxRecDepth 100000 in
theorem am_cw170 : lw_tbl[1273]? = some (Cond.code (am_nm 170) (am_bc 170) (am_ml 170) (am_re 170)) := rfl
set_option maxRecDepth 100000 in
theorem am_cw171 : lw_tbl[1277]? = some (Cond.code (am_nm 171) (am_bc 171) (am_ml 171) (am_re 171)) := rfl
set_option maxRecDepth 100000 in
theorem am_cw172 : lw_tbl[1289]? = some (Cond.code (am_nm 172) (am_bc 172) (am_ml 172) (am_re 172)) := rfl
set_option maxRecDepth 100000 in
theorem am_cw173 : lw_tbl[1330]? = some (Cond.code (am_nm 173) (am_bc 173) (am_ml 173) (am_re 173)) := rfl
set_option maxRecDepth 100000 in
theorem am_cw174 : lw_tbl[1405]? = some (Cond.code (am_nm 174) (am_bc 174) (am_ml 174) (am_re 174)) := rfl
set_option maxRecDepth 100000 in
theorem am_cw175 : lw_tbl[1410]? = some (Cond.code (am_nm 175) (am_bc 175) (am_ml 175) (am_re 175)) := rfl
set_option maxRecDepth 100000 in
theorem am_cw176 : lw_tbl[1413]? = some (Cond.code (am_nm 176) (am_bc 176) (am_ml 176) (am_re 176)) := rfl
set_option maxRecDepth 100000 in
theorem am_cw177 : lw_tbl[1611]? = some (Cond.code (am_nm 177) (am_bc 177) (am_ml 177) (am_re 177)) := rfl
set_option maxRecDepth 100000 in
theorem am_cw178 : lw_tbl[1462]? = some (Cond.code (am_nm 178) (am_bc 178) (am_ml 178) (am_re 178)) := rfl
set_option maxRecDepth 100000 in
theorem am_cw179 : lw_tbl[1466]? = some (Cond.code (am_nm 179) (am_bc 179) (am_ml 179) (am_re 179)) := rfl
set_option maxRecDepth 100000 in
theorem am_cw180 : lw_tbl[1604]? = some (Cond.code (am_nm 180) (am_bc 180) (am_ml 180) (am_re 180)) := rfl
set_option maxRecDepth 100000 in
theorem am_cw181 : lw_tbl[1619]? = some (Cond.code (am_nm 181) (am_bc 181) (am_ml 181) (am_re 181)) := rfl
set_option maxRecDepth 100000 in
theorem am_cw182 : lw_tbl[1622]? = some (Cond.code (am_nm 182) (am_bc 182) (am_ml 182) (am_re 182)) := rfl
set_option maxRecDepth 100000 in
theorem am_cw183 : lw_tbl[1632]? = some (Cond.code (am_nm 183) (am_bc 183) (am_ml 183) (am_re 183)) := rfl
set_option maxRecDepth 100000 in
theorem am_cw184 : lw_tbl[1626]? = some (Cond.code (am_nm 184) (am_bc 184) (am_ml 184) (am_re 184)) := rfl
set_option maxRecDepth 100000 in
theorem am_cw185 : lw_tbl[1615]? = some (Cond.code (am_nm 185) (am_bc 185) (am_ml 185) (am_re 185)) := rfl
set_option maxRecDepth 100000 in
theorem am_cw186 : lw_tbl[1645]? = some (Cond.code (am_nm 186) (am_bc 186) (am_ml 186) (am_re 186)) := rfl
set_option maxRecDepth 100000 in
theorem am_cw187 : lw_tbl[1641]? = some (Cond.code (am_nm 187) (am_bc 187) (am_ml 187) (am_re 187)) := rfl
set_option maxRecDepth 100000 in
theorem am_cw188 : lw_tbl[1637]? = some (Cond.code (am_nm 188) (am_bc 188) (am_ml 188) (am_re 188)) := rfl
set_option maxRecDepth 100000 in
theorem am_cw189 : lw_tbl[1649]? = some (Cond.code (am_nm 189) (am_bc 189) (am_ml 189) (am_re 189)) := rfl
set_option maxRecDepth 100000 in
theorem am_cw190 : lw_tbl[1809]? = some (Cond.code (am_nm 190) (am_bc 190) (am_ml 190) (am_re 190)) := rfl
set_option maxRecDepth 100000 in
theorem am_cw191 : lw_tbl[1713]? = some (Cond.code (am_nm 191) (am_bc 191) (am_ml 191) (am_re 191)) := rfl
set_option maxRecDepth 100000 in
theorem am_cw192 : lw_tbl[1697]? = some (Cond.code (am_nm 192) (am_bc 192) (am_ml 192) (am_re 192)) := rfl
set_option maxRecDepth 100000 in
theorem am_cw193 : lw_tbl[1693]? = some (Cond.code (am_nm 193) (am_bc 193) (am_ml 193) (am_re 193)) := rfl
set_option maxRecDepth 100000 in
theorem am_cw194 : lw_tbl[1709]? = some (Cond.code (am_nm 194) (am_bc 194) (am_ml 194) (am_re 194)) := rfl
set_option maxRecDepth 100000 in
theorem am_cw195 : lw_tbl[1705]? = some (Cond.code (am_nm 195) (am_bc 195) (am_ml 195) (am_re 195)) := rfl
set_option maxRecDepth 100000 in
theorem am_cw196 : lw_tbl[1701]? = some (Cond.code (am_nm 196) (am_bc 196) (am_ml 196) (am_re 196)) := rfl
set_option maxRecDepth 100000 in
theorem am_cw197 : lw_tbl[1689]? = some (Cond.code (am_nm 197) (am_bc 197) (am_ml 197) (am_re 197)) := rfl
set_option maxRecDepth 100000 in
theorem am_cw198 : lw_tbl[1685]? = some (Cond.code (am_nm 198) (am_bc 198) (am_ml 198) (am_re 198)) := rfl
set_option maxRecDepth 100000 in
theorem am_cw199 : lw_tbl[1681]? = some (Cond.code (am_nm 199) (am_bc 199) (am_ml 199) (am_re 199)) := rfl
set_option maxRecDepth 100000 in
theorem am_cw200 : lw_tbl[1661]? = some (Cond.code (am_nm 200) (am_bc 200) (am_ml 200) (am_re 200)) := rfl
set_option maxRecDepth 100000 in
theorem am_cw201 : lw_tbl[1673]? = some (Cond.code (am_nm 201) (am_bc 201) (am_ml 201) (am_re 201)) := rfl
set_option maxRecDepth 100000 in
theorem am_cw202 : lw_tbl[1669]? = some (Cond.code (am_nm 202) (am_bc 202) (am_ml 202) (am_re 202)) := rfl
set_option maxRecDepth 100000 in
theorem am_cw203 : lw_tbl[1665]? = some (Cond.code (am_nm 203) (am_bc 203) (am_ml 203) (am_re 203)) := rfl
set_option maxRecDepth 100000 in
theorem am_cw204 : lw_tbl[1677]? = some (Cond.code (am_nm 204) (am_bc 204) (am_ml 204) (am_re 204)) := rfl
set_option maxRecDepth 100000 in
theorem am_cw205 : lw_tbl[1657]? = some (Cond.code (am_nm 205) (am_bc 205) (am_ml 205) (am_re 205)) := rfl
set_option maxRecDepth 100000 in
theorem am_cw206 : lw_tbl[1653]? = some (Cond.code (am_nm 206) (am_bc 206) (am_ml 206) (am_re 206)) := rfl
set_option maxRecDepth 100000 in
theorem am_cw207 : lw_tbl[1608]? = some (Cond.code (am_nm 207) (am_bc 207) (am_ml 207) (am_re 207)) := rfl
set_option maxRecDepth 100000 in
theorem am_cw208 : lw_tbl[1717]? = some (Cond.code (am_nm 208) (am_bc 208) (am_ml 208) (am_re 208)) := rfl
set_option maxRecDepth 100000 in
theorem am_cw209 : lw_tbl[1725]? = some (Cond.code (am_nm 209) (am_bc 209) (am_ml 209) (am_re 209)) := rfl
set_option maxRecDepth 100000 in
theorem am_cw210 : lw_tbl[1806]? = some (Cond.code (am_nm 210) (am_bc 210) (am_ml 210) (am_re 210)) := rfl
set_option maxRecDepth 100000 in
theorem am_cw211 : lw_tbl[1766]? = some (Cond.code (am_nm 211) (am_bc 211) (am_ml 211) (am_re 211)) := rfl
set_option maxRecDepth 100000 in
theorem am_cw212 : lw_tbl[1927]? = some (Cond.code (am_nm 212) (am_bc 212) (am_ml 212) (am_re 212)) := rfl
set_option maxRecDepth 100000 in
theorem am_cw213 : lw_tbl[1990]? = some (Cond.code (am_nm 213) (am_bc 213) (am_ml 213) (am_re 213)) := rfl
set_option maxRecDepth 100000 in
theorem am_cw214 : lw_tbl[1758]? = some (Cond.code (am_nm 214) (am_bc 214) (am_ml 214) (am_re 214)) := rfl
set_option maxRecDepth 100000 in
theorem am_cw215 : lw_tbl[1848]? = some (Cond.code (am_nm 215) (am_bc 215) (am_ml 215) (am_re 215)) := rfl
set_option maxRecDepth 100000 in
theorem am_cw216 : lw_tbl[1746]? = some (Cond.code (am_nm 216) (am_bc 216) (am_ml 216) (am_re 216)) := rfl
set_option maxRecDepth 100000 in
theorem am_cw217 : lw_tbl[1852]? = some (Cond.code (am_nm 217) (am_bc 217) (am_ml 217) (am_re 217)) := rfl
set_option maxRecDepth 100000 in
theorem am_cw218 : lw_tbl[1762]? = some (Cond.code (am_nm 218) (am_bc 218) (am_ml 218) (am_re 218)) := rfl
set_option maxRecDepth 100000 in
theorem am_cw219 : lw_tbl[1837]? = some (Cond.code (am_nm 219) (am_bc 219) (am_ml 219) (am_re 219)) := rfl
set_option maxRecDepth 100000 in
theorem am_cw220 : lw_tbl[1901]? = some (Cond.code (am_nm 220) (am_bc 220) (am_ml 220) (am_re 220)) := rfl
set_option maxRecDepth 100000 in
theorem am_cw221 : lw_tbl[1740]? = some (Cond.code (am_nm 221) (am_bc 221) (am_ml 221) (am_re 221)) := rfl
set_option maxRecDepth 100000 in
theorem am_cw222 : lw_tbl[1737]? = some (Cond.code (am_nm 222) (am_bc 222) (am_ml 222) (am_re 222)) := rfl
set_option maxRecDepth 100000 in
theorem am_cw223 : lw_tbl[1733]? = some (Cond.code (am_nm 223) (am_bc 223) (am_ml 223) (am_re 223)) := rfl
set_option maxRecDepth 100000 in
theorem am_cw224 : lw_tbl[1798]? = some (Cond.code (am_nm 224) (am_bc 224) (am_ml 224) (am_re 224)) := rfl
set_option maxRecDepth 100000 in
theorem am_cw225 : lw_tbl[1769]? = some (Cond.code (am_nm 225) (am_bc 225) (am_ml 225) (am_re 225)) := rfl
set_option maxRecDepth 100000 in
theorem am_cw226 : lw_tbl[1729]? = some (Cond.code (am_nm 226) (am_bc 226) (am_ml 226) (am_re 226)) := rfl
set_option maxRecDepth 100000 in
theorem am_cw227 : lw_tbl[1773]? = some (Cond.code (am_nm 227) (am_bc 227) (am_ml 227) (am_re 227)) := rfl
set_option maxRecDepth 100000 in
theorem am_cw228 : lw_tbl[1754]? = some (Cond.code (am_nm 228) (am_bc 228) (am_ml 228) (am_re 228)) := rfl
set_option maxRecDepth 100000 in
theorem am_cw229 : lw_tbl[1750]? = some (Cond.code (am_nm 229) (am_bc 229) (am_ml 229) (am_re 229)) := rfl
set_option maxRecDepth 100000 in
theorem am_cw230 : lw_tbl[1845]? = some (Cond.code (am_nm 230) (am_bc 230) (am_ml 230) (am_re 230)) := rfl
set_option maxRecDepth 100000 in
theorem am_cw231 : lw_tbl[1841]? = some (Cond.code (am_nm 231) (am_bc 231) (am_ml 231) (am_re 231)) := rfl
set_option maxRecDepth 100000 in
theorem am_cw232 : lw_tbl[1833]? = some (Cond.code (am_nm 232) (am_bc 232) (am_ml 232) (am_re 232)) := rfl
set_option maxRecDepth 100000 in
theorem am_cw233 : lw_tbl[1721]? = some (Cond.code (am_nm 233) (am_bc 233) (am_ml 233) (am_re 233)) := rfl
set_option maxRecDepth 100000 in
theorem am_cw234 : lw_tbl[1777]? = some (Cond.code (am_nm 234) (am_bc 234) (am_ml 234) (am_re 234)) := rfl
set_option maxRecDepth 100000 in
theorem am_cw235 : lw_tbl[1781]? = some (Cond.code (am_nm 235) (am_bc 235) (am_ml 235) (am_re 235)) := rfl
set_option maxRecDepth 100000 in
theorem am_cw236 : lw_tbl[1794]? = some (Cond.code (am_nm 236) (am_bc 236) (am_ml 236) (am_re 236)) := rfl
set_option maxRecDepth 100000 in
theorem am_cw237 : lw_tbl[1789]? = some (Cond.code (am_nm 237) (am_bc 237) (am_ml 237) (am_re 237)) := rfl
set_option maxRecDepth 100000 in
theorem am_cw238 : lw_tbl[1786]? = some (Cond.code (am_nm 238) (am_bc 238) (am_ml 238) (am_re 238)) := rfl
set_option maxRecDepth 100000 in
theorem am_cw239 : lw_tbl[1802]? = some (Cond.code (am_nm 239) (am_bc 239) (am_ml 239) (am_re 239)) := rfl
set_option maxRecDepth 100000 in
theorem am_cw240 : lw_tbl[1821]? = some (Cond.code (am_nm 240) (am_bc 240) (am_ml 240) (am_re 240)) := rfl
set_option maxRecDepth 100000 in
theorem am_cw241 : lw_tbl[1897]? = some (Cond.code (am_nm 241) (am_bc 241) (am_ml 241) (am_re 241)) := rfl
set_option maxRecDepth 100000 in
theorem am_cw242 : lw_tbl[1825]? = some (Cond.code (am_nm 242) (am_bc 242) (am_ml 242) (am_re 242)) := rfl
set_option maxRecDepth 100000 in
theorem am_cw243 : lw_tbl[1817]? = some (Cond.code (am_nm 243) (am_bc 243) (am_ml 243) (am_re 243)) := rfl
set_option maxRecDepth 100000 in
theorem am_cw244 : lw_tbl[1813]? = some (Cond.code (am_nm 244) (am_bc 244) (am_ml 244) (am_re 244)) := rfl
set_option maxRecDepth 100000 in
theorem am_cw245 : lw_tbl[1829]? = some (Cond.code (am_nm 245) (am_bc 245) (am_ml 245) (am_re 245)) := rfl
set_option maxRecDepth 100000 in
theorem am_cw246 : lw_tbl[1856]? = some (Cond.code (am_nm 246) (am_bc 246) (am_ml 246) (am_re 246)) := rfl
set_option maxRecDepth 100000 in
theorem am_cw247 : lw_tbl[1860]? = some (Cond.code (am_nm 247) (am_bc 247) (am_ml 247) (am_re 247)) := rfl
set_option maxRecDepth 100000 in
theorem am_cw248 : lw_tbl[1864]? = some (Cond.code (am_nm 248) (am_bc 248) (am_ml 248) (am_re 248)) := rfl
set_option maxRecDepth 100000 in
theorem am_cw249 : lw_tbl[1882]? = some (Cond.code (am_nm 249) (am_bc 249) (am_ml 249) (am_re 249)) := rfl
set_option maxRecDepth 100000 in
theorem am_cw250 : lw_tbl[1893]? = some (Cond.code (am_nm 250) (am_bc 250) (am_ml 250) (am_re 250)) := rfl
set_option maxRecDepth 100000 in
theorem am_cw251 : lw_tbl[1878]? = some (Cond.code (am_nm 251) (am_bc 251) (am_ml 251) (am_re 251)) := rfl
set_option maxRecDepth 100000 in
theorem am_cw252 : lw_tbl[1874]? = some (Cond.code (am_nm 252) (am_bc 252) (am_ml 252) (am_re 252)) := rfl
set_option maxRecDepth 100000 in
theorem am_cw253 : lw_tbl[1869]? = some (Cond.code (am_nm 253) (am_bc 253) (am_ml 253) (am_re 253)) := rfl
set_option maxRecDepth 100000 in
theorem am_cw254 : lw_tbl[1905]? = some (Cond.code (am_nm 254) (am_bc 254) (am_ml 254) (am_re 254)) := rfl
set_option maxRecDepth 100000 in
theorem am_cw255 : lw_tbl[1918]? = some (Cond.code (am_nm 255) (am_bc 255) (am_ml 255) (am_re 255)) := rfl
set_option maxRecDepth 100000 in
theorem am_cw256 : lw_tbl[1914]? = some (Cond.code (am_nm 256) (am_bc 256) (am_ml 256) (am_re 256)) := rfl
set_option maxRecDepth 100000 in
theorem am_cw257 : lw_tbl[1909]? = some (Cond.code (am_nm 257) (am_bc 257) (am_ml 257) (am_re 257)) := rfl
set_option maxRecDepth 100000 in
theorem am_cw258 : lw_tbl[1943]? = some (Cond.code (am_nm 258) (am_bc 258) (am_ml 258) (am_re 258)) := rfl
set_option maxRecDepth 100000 in
theorem am_cw259 : lw_tbl[1939]? = some (Cond.code (am_nm 259) (am_bc 259) (am_ml 259) (am_re 259)) := rfl
set_option maxRecDepth 100000 in
theorem am_cw260 : lw_tbl[1931]? = some (Cond.code (am_nm 260) (am_bc 260) (am_ml 260) (am_re 260)) := rfl
set_option maxRecDepth 100000 in
theorem am_cw261 : lw_tbl[1947]? = some (Cond.code (am_nm 261) (am_bc 261) (am_ml 261) (am_re 261)) := rfl
set_option maxRecDepth 100000 in
theorem am_cw262 : lw_tbl[1951]? = some (Cond.code (am_nm 262) (am_bc 262) (am_ml 262) (am_re 262)) := rfl
set_option maxRecDepth 100000 in
theorem am_cw263 : lw_tbl[1935]? = some (Cond.code (am_nm 263) (am_bc 263) (am_ml 263) (am_re 263)) := rfl
set_option maxRecDepth 100000 in
theorem am_cw264 : lw_tbl[1954]? = some (Cond.code (am_nm 264) (am_bc 264) (am_ml 264) (am_re 264)) := rfl
set_option maxRecDepth 100000 in
theorem am_cw265 : lw_tbl[1962]? = some (Cond.code (am_nm 265) (am_bc 265) (am_ml 265) (am_re 265)) := rfl
set_option maxRecDepth 100000 in
theorem am_cw266 : lw_tbl[1923]? = some (Cond.code (am_nm 266) (am_bc 266) (am_ml 266) (am_re 266)) := rfl
set_option maxRecDepth 100000 in
theorem am_cw267 : lw_tbl[1958]? = some (Cond.code (am_nm 267) (am_bc 267) (am_ml 267) (am_re 267)) := rfl
set_option maxRecDepth 100000 in
theorem am_cw268 : lw_tbl[1971]? = some (Cond.code (am_nm 268) (am_bc 268) (am_ml 268) (am_re 268)) := rfl
set_option maxRecDepth 100000 in
theorem am_cw269 : lw_tbl[1975]? = some (Cond.code (am_nm 269) (am_bc 269) (am_ml 269) (am_re 269)) := rfl
set_option maxRecDepth 100000 in
theorem am_cw270 : lw_tbl[1966]? = some (Cond.code (am_nm 270) (am_bc 270) (am_ml 270) (am_re 270)) := rfl
set_option maxRecDepth 100000 in
theorem am_cw271 : lw_tbl[1983]? = some (Cond.code (am_nm 271) (am_bc 271) (am_ml 271) (am_re 271)) := rfl
set_option maxRecDepth 100000 in
theorem am_cw272 : lw_tbl[1979]? = some (Cond.code (am_nm 272) (am_bc 272) (am_ml 272) (am_re 272)) := rfl
set_option maxRecDepth 100000 in
theorem am_cw273 : lw_tbl[1987]? = some (Cond.code (am_nm 273) (am_bc 273) (am_ml 273) (am_re 273)) := rfl
set_option maxRecDepth 100000 in
theorem am_cw274 : lw_tbl[1994]? = some (Cond.code (am_nm 274) (am_bc 274) (am_ml 274) (am_re 274)) := rfl
set_option maxRecDepth 100000 in
theorem am_cw275 : lw_tbl[1998]? = some (Cond.code (am_nm 275) (am_bc 275) (am_ml 275) (am_re 275)) := rfl
set_option maxRecDepth 100000 in
theorem am_cw276 : lw_tbl[2002]? = some (Cond.code (am_nm 276) (am_bc 276) (am_ml 276) (am_re 276)) := rfl
set_option maxRecDepth 100000 in
theorem am_cw277 : lw_tbl[2006]? = some (Cond.code (am_nm 277) (am_bc 277) (am_ml 277) (am_re 277)) := rfl
set_option maxRecDepth 100000 in
theorem am_cw278 : lw_tbl[2010]? = some (Cond.code (am_nm 278) (am_bc 278) (am_ml 278) (am_re 278)) := rfl
set_option maxRecDepth 100000 in
theorem am_cw279 : lw_tbl[2014]? = some (Cond.code (am_nm 279) (am_bc 279) (am_ml 279) (am_re 279)) := rfl
set_option maxRecDepth 100000 in
theorem am_cw280 : lw_tbl[2018]? = some (Cond.code (am_nm 280) (am_bc 280) (am_ml 280) (am_re 280)) := rfl
set_option maxRecDepth 100000 in
theorem am_cw281 : lw_tbl[2022]? = some (Cond.code (am_nm 281) (am_bc 281) (am_ml 281) (am_re 281)) := rfl
set_option maxRecDepth 100000 in
theorem am_cw282 : lw_tbl[2034]? = some (Cond.code (am_nm 282) (am_bc 282) (am_ml 282) (am_re 282)) := rfl
set_option maxRecDepth 100000 in
theorem am_cw283 : lw_tbl[2030]? = some (Cond.code (am_nm 283) (am_bc 283) (am_ml 283) (am_re 283)) := rfl
set_option maxRecDepth 100000 in
theorem am_cw284 : lw_tbl[2026]? = some (Cond.code (am_nm 284) (am_bc 284) (am_ml 284) (am_re 284)) := rfl
set_option maxRecDepth 100000 in
theorem am_cw285 : lw_tbl[2038]? = some (Cond.code (am_nm 285) (am_bc 285) (am_ml 285) (am_re 285)) := rfl
set_option maxRecDepth 100000 in
theorem am_cw286 : lw_tbl[2042]? = some (Cond.code (am_nm 286) (am_bc 286) (am_ml 286) (am_re 286)) := rfl
set_option maxRecDepth 100000 in
theorem am_cw287 : lw_tbl[2050]? = some (Cond.code (am_nm 287) (am_bc 287) (am_ml 287) (am_re 287)) := rfl
set_option maxRecDepth 100000 in
theorem am_cw288 : lw_tbl[2056]? = some (Cond.code (am_nm 288) (am_bc 288) (am_ml 288) (am_re 288)) := rfl
set_option maxRecDepth 100000 in
theorem am_cw289 : lw_tbl[2046]? = some (Cond.code (am_nm 289) (am_bc 289) (am_ml 289) (am_re 289)) := rfl
set_option maxRecDepth 100000 in
theorem am_cw290 : lw_tbl[2060]? = some (Cond.code (am_nm 290) (am_bc 290) (am_ml 290) (am_re 290)) := rfl
set_option maxRecDepth 100000 in
theorem am_cw291 : lw_tbl[2068]? = some (Cond.code (am_nm 291) (am_bc 291) (am_ml 291) (am_re 291)) := rfl
set_option maxRecDepth 100000 in
theorem am_cw292 : lw_tbl[2064]? = some (Cond.code (am_nm 292) (am_bc 292) (am_ml 292) (am_re 292)) := rfl
set_option maxRecDepth 100000 in
theorem am_cw293 : lw_tbl[2080]? = some (Cond.code (am_nm 293) (am_bc 293) (am_ml 293) (am_re 293)) := rfl
set_option maxRecDepth 100000 in
theorem am_cw294 : lw_tbl[2076]? = some (Cond.code (am_nm 294) (am_bc 294) (am_ml 294) (am_re 294)) := rfl
set_option maxRecDepth 100000 in
theorem am_cw295 : lw_tbl[2072]? = some (Cond.code (am_nm 295) (am_bc 295) (am_ml 295) (am_re 295)) := rfl
set_option maxRecDepth 100000 in
theorem am_cw296 : lw_tbl[2084]? = some (Cond.code (am_nm 296) (am_bc 296) (am_ml 296) (am_re 296)) := rfl
set_option maxRecDepth 100000 in
theorem am_cw297 : lw_tbl[2093]? = some (Cond.code (am_nm 297) (am_bc 297) (am_ml 297) (am_re 297)) := rfl
set_option maxRecDepth 100000 in
theorem am_cw298 : lw_tbl[2097]? = some (Cond.code (am_nm 298) (am_bc 298) (am_ml 298) (am_re 298)) := rfl
set_option maxRecDepth 100000 in
theorem am_cw299 : lw_tbl[2103]? = some (Cond.code (am_nm 299) (am_bc 299) (am_ml 299) (am_re 299)) := rfl
set_option maxRecDepth 100000 in
theorem am_cw300 : lw_tbl[2100]? = some (Cond.code (am_nm 300) (am_bc 300) (am_ml 300) (am_re 300)) := rfl
set_option maxRecDepth 100000 in
theorem am_cw301 : lw_tbl[2088]? = some (Cond.code (am_nm 301) (am_bc 301) (am_ml 301) (am_re 301)) := rfl
set_option maxRecDepth 100000 in
theorem am_cw302 : lw_tbl[2107]? = some (Cond.code (am_nm 302) (am_bc 302) (am_ml 302) (am_re 302)) := rfl
set_option maxRecDepth 100000 in
theorem am_cw303 : lw_tbl[2119]? = some (Cond.code (am_nm 303) (am_bc 303) (am_ml 303) (am_re 303)) := rfl
set_option maxRecDepth 100000 in
theorem am_cw304 : lw_tbl[2111]? = some (Cond.code (am_nm 304) (am_bc 304) (am_ml 304) (am_re 304)) := rfl
set_option maxRecDepth 100000 in
theorem am_cw305 : lw_tbl[2115]? = some (Cond.code (am_nm 305) (am_bc 305) (am_ml 305) (am_re 305)) := rfl
set_option maxRecDepth 100000 in
theorem am_cw306 : lw_tbl[2123]? = some (Cond.code (am_nm 306) (am_bc 306) (am_ml 306) (am_re 306)) := rfl
set_option maxRecDepth 100000 in
theorem am_cw307 : lw_tbl[2127]? = some (Cond.code (am_nm 307) (am_bc 307) (am_ml 307) (am_re 307)) := rfl
set_option maxRecDepth 100000 in
theorem am_cw308 : lw_tbl[2131]? = some (Cond.code (am_nm 308) (am_bc 308) (am_ml 308) (am_re 308)) := rfl
set_option maxRecDepth 100000 in
theorem am_cw309 : lw_tbl[2139]? = some (Cond.code (am_nm 309) (am_bc 309) (am_ml 309) (am_re 309)) := rfl
set_option maxRecDepth 100000 in
theorem am_cw310 : lw_tbl[2135]? = some (Cond.code (am_nm 310) (am_bc 310) (am_ml 310) (am_re 310)) := rfl
set_option maxRecDepth 100000 in
theorem am_cw311 : lw_tbl[1220]? = some (Cond.code (am_nm 311) (am_bc 311) (am_ml 311) (am_re 311)) := rfl
set_option maxRecDepth 100000 in
theorem am_cw312 : lw_tbl[1295]? = some (Cond.code (am_nm 312) (am_bc 312) (am_ml 312) (am_re 312)) := rfl
set_option maxRecDepth 100000 in
theorem am_cw313 : lw_tbl[902]? = some (Cond.code (am_nm 313) (am_bc 313) (am_ml 313) (am_re 313)) := rfl
set_option maxRecDepth 100000 in
theorem am_cw314 : lw_tbl[1193]? = some (Cond.code (am_nm 314) (am_bc 314) (am_ml 314) (am_re 314)) := rfl
set_option maxRecDepth 100000 in
theorem am_cw315 : lw_tbl[864]? = some (Cond.code (am_nm 315) (am_bc 315) (am_ml 315) (am_re 315)) := rfl
theorem am_cw {y : Nat} (h : y < 316) : Cond.code (am_nm y) (am_bc y) (am_ml y) (am_re y) ∈ lw_tbl := by
  rcases Nat.lt_or_ge y 158 with h | h
  · skip
    rcases Nat.lt_or_ge y 79 with h | h
    · skip
      rcases Nat.lt_or_ge y 39 with h | h
      · skip
        rcases Nat.lt_or_ge y 19 with h | h
        · skip
          rcases Nat.lt_or_ge y 9 with h | h
          · skip
            rcases Nat.lt_or_ge y 4 with h | h
            · skip
              rcases Nat.lt_or_ge y 2 with h | h
              · skip
                rcases Nat.lt_or_ge y 1 with h | h
                · skip
                  obtain rfl : y = 0 := by omega
                  exact List.mem_of_getElem? am_cw0
                · skip
                  obtain rfl : y = 1 := by omega
                  exact List.mem_of_getElem? am_cw1
              · skip
                rcases Nat.lt_or_ge y 3 with h | h
                · skip
                  obtain rfl : y = 2 := by omega
                  exact List.mem_of_getElem? am_cw2
                · skip
                  obtain rfl : y = 3 := by omega
                  exact List.mem_of_getElem? am_cw3
            · skip
              rcases Nat.lt_or_ge y 6 with h | h
              · skip
                rcases Nat.lt_or_ge y 5 with h | h
                · skip
                  obtain rfl : y = 4 := by omega
                  exact List.mem_of_getElem? am_cw4
                · skip
                  obtain rfl : y = 5 := by omega
                  exact List.mem_of_getElem? am_cw5
              · skip
                rcases Nat.lt_or_ge y 7 with h | h
                · skip
                  obtain rfl : y = 6 := by omega
                  exact List.mem_of_getElem? am_cw6
                · skip
                  rcases Nat.lt_or_ge y 8 with h | h
                  · skip
                    obtain rfl : y = 7 := by omega
                    exact List.mem_of_getElem? am_cw7
                  · skip
                    obtain rfl : y = 8 := by omega
                    exact List.mem_of_getElem? am_cw8
          · skip
            rcases Nat.lt_or_ge y 14 with h | h
            · skip
              rcases Nat.lt_or_ge y 11 with h | h
              · skip
                rcases Nat.lt_or_ge y 10 with h | h
                · skip
                  obtain rfl : y = 9 := by omega
                  exact List.mem_of_getElem? am_cw9
                · skip
                  obtain rfl : y = 10 := by omega
                  exact List.mem_of_getElem? am_cw10
              · skip
                rcases Nat.lt_or_ge y 12 with h | h
                · skip
                  obtain rfl : y = 11 := by omega
                  exact List.mem_of_getElem? am_cw11
                · skip
                  rcases Nat.lt_or_ge y 13 with h | h
                  · skip
                    obtain rfl : y = 12 := by omega
                    exact List.mem_of_getElem? am_cw12
                  · skip
                    obtain rfl : y = 13 := by omega
                    exact List.mem_of_getElem? am_cw13
            · skip
              rcases Nat.lt_or_ge y 16 with h | h
              · skip
                rcases Nat.lt_or_ge y 15 with h | h
                · skip
                  obtain rfl : y = 14 := by omega
                  exact List.mem_of_getElem? am_cw14
                · skip
                  obtain rfl : y = 15 := by omega
                  exact List.mem_of_getElem? am_cw15
              · skip
                rcases Nat.lt_or_ge y 17 with h | h
                · skip
                  obtain rfl : y = 16 := by omega
                  exact List.mem_of_getElem? am_cw16
                · skip
                  rcases Nat.lt_or_ge y 18 with h | h
                  · skip
                    obtain rfl : y = 17 := by omega
                    exact List.mem_of_getElem? am_cw17
                  · skip
                    obtain rfl : y = 18 := by omega
                    exact List.mem_of_getElem? am_cw18
        · skip
          rcases Nat.lt_or_ge y 29 with h | h
          · skip
            rcases Nat.lt_or_ge y 24 with h | h
            · skip
              rcases Nat.lt_or_ge y 21 with h | h
              · skip
                rcases Nat.lt_or_ge y 20 with h | h
                · skip
                  obtain rfl : y = 19 := by omega
                  exact List.mem_of_getElem? am_cw19
                · skip
                  obtain rfl : y = 20 := by omega
                  exact List.mem_of_getElem? am_cw20
              · skip
                rcases Nat.lt_or_ge y 22 with h | h
                · skip
                  obtain rfl : y = 21 := by omega
                  exact List.mem_of_getElem? am_cw21
                · skip
                  rcases Nat.lt_or_ge y 23 with h | h
                  · skip
                    obtain rfl : y = 22 := by omega
                    exact List.mem_of_getElem? am_cw22
                  · skip
                    obtain rfl : y = 23 := by omega
                    exact List.mem_of_getElem? am_cw23
            · skip
              rcases Nat.lt_or_ge y 26 with h | h
              · skip
                rcases Nat.lt_or_ge y 25 with h | h
                · skip
                  obtain rfl : y = 24 := by omega
                  exact List.mem_of_getElem? am_cw24
                · skip
                  obtain rfl : y = 25 := by omega
                  exact List.mem_of_getElem? am_cw25
              · skip
                rcases Nat.lt_or_ge y 27 with h | h
                · skip
                  obtain rfl : y = 26 := by omega
                  exact List.mem_of_getElem? am_cw26
                · skip
                  rcases Nat.lt_or_ge y 28 with h | h
                  · skip
                    obtain rfl : y = 27 := by omega
                    exact List.mem_of_getElem? am_cw27
                  · skip
                    obtain rfl : y = 28 := by omega
                    exact List.mem_of_getElem? am_cw28
          · skip
            rcases Nat.lt_or_ge y 34 with h | h
            · skip
              rcases Nat.lt_or_ge y 31 with h | h
              · skip
                rcases Nat.lt_or_ge y 30 with h | h
                · skip
                  obtain rfl : y = 29 := by omega
                  exact List.mem_of_getElem? am_cw29
                · skip
                  obtain rfl : y = 30 := by omega
                  exact List.mem_of_getElem? am_cw30
              · skip
                rcases Nat.lt_or_ge y 32 with h | h
                · skip
                  obtain rfl : y = 31 := by omega
                  exact List.mem_of_getElem? am_cw31
                · skip
                  rcases Nat.lt_or_ge y 33 with h | h
                  · skip
                    obtain rfl : y = 32 := by omega
                    exact List.mem_of_getElem? am_cw32
                  · skip
                    obtain rfl : y = 33 := by omega
                    exact List.mem_of_getElem? am_cw33
            · skip
              rcases Nat.lt_or_ge y 36 with h | h
              · skip
                rcases Nat.lt_or_ge y 35 with h | h
                · skip
                  obtain rfl : y = 34 := by omega
                  exact List.mem_of_getElem? am_cw34
                · skip
                  obtain rfl : y = 35 := by omega
                  exact List.mem_of_getElem? am_cw35
              · skip
                rcases Nat.lt_or_ge y 37 with h | h
                · skip
                  obtain rfl : y = 36 := by omega
                  exact List.mem_of_getElem? am_cw36
                · skip
                  rcases Nat.lt_or_ge y 38 with h | h
                  · skip
                    obtain rfl : y = 37 := by omega
                    exact List.mem_of_getElem? am_cw37
                  · skip
                    obtain rfl : y = 38 := by omega
                    exact List.mem_of_getElem? am_cw38
      · skip
        rcases Nat.lt_or_ge y 59 with h | h
        · skip
          rcases Nat.lt_or_ge y 49 with h | h
          · skip
            rcases Nat.lt_or_ge y 44 with h | h
            · skip
              rcases Nat.lt_or_ge y 41 with h | h
              · skip
                rcases Nat.lt_or_ge y 40 with h | h
                · skip
                  obtain rfl : y = 39 := by omega
                  exact List.mem_of_getElem? am_cw39
                · skip
                  obtain rfl : y = 40 := by omega
                  exact List.mem_of_getElem? am_cw40
              · skip
                rcases Nat.lt_or_ge y 42 with h | h
                · skip
                  obtain rfl : y = 41 := by omega
                  exact List.mem_of_getElem? am_cw41
                · skip
                  rcases Nat.lt_or_ge y 43 with h | h
                  · skip
                    obtain rfl : y = 42 := by omega
                    exact List.mem_of_getElem? am_cw42
                  · skip
                    obtain rfl : y = 43 := by omega
                    exact List.mem_of_getElem? am_cw43
            · skip
              rcases Nat.lt_or_ge y 46 with h | h
              · skip
                rcases Nat.lt_or_ge y 45 with h | h
                · skip
                  obtain rfl : y = 44 := by omega
                  exact List.mem_of_getElem? am_cw44
                · skip
                  obtain rfl : y = 45 := by omega
                  exact List.mem_of_getElem? am_cw45
              · skip
                rcases Nat.lt_or_ge y 47 with h | h
                · skip
                  obtain rfl : y = 46 := by omega
                  exact List.mem_of_getElem? am_cw46
                · skip
                  rcases Nat.lt_or_ge y 48 with h | h
                  · skip
                    obtain rfl : y = 47 := by omega
                    exact List.mem_of_getElem? am_cw47
                  · skip
                    obtain rfl : y = 48 := by omega
                    exact List.mem_of_getElem? am_cw48
          · skip
            rcases Nat.lt_or_ge y 54 with h | h
            · skip
              rcases Nat.lt_or_ge y 51 with h | h
              · skip
                rcases Nat.lt_or_ge y 50 with h | h
                · skip
                  obtain rfl : y = 49 := by omega
                  exact List.mem_of_getElem? am_cw49
                · skip
                  obtain rfl : y = 50 := by omega
                  exact List.mem_of_getElem? am_cw50
              · skip
                rcases Nat.lt_or_ge y 52 with h | h
                · skip
                  obtain rfl : y = 51 := by omega
                  exact List.mem_of_getElem? am_cw51
                · skip
                  rcases Nat.lt_or_ge y 53 with h | h
                  · skip
                    obtain rfl : y = 52 := by omega
                    exact List.mem_of_getElem? am_cw52
                  · skip
                    obtain rfl : y = 53 := by omega
                    exact List.mem_of_getElem? am_cw53
            · skip
              rcases Nat.lt_or_ge y 56 with h | h
              · skip
                rcases Nat.lt_or_ge y 55 with h | h
                · skip
                  obtain rfl : y = 54 := by omega
                  exact List.mem_of_getElem? am_cw54
                · skip
                  obtain rfl : y = 55 := by omega
                  exact List.mem_of_getElem? am_cw55
              · skip
                rcases Nat.lt_or_ge y 57 with h | h
                · skip
                  obtain rfl : y = 56 := by omega
                  exact List.mem_of_getElem? am_cw56
                · skip
                  rcases Nat.lt_or_ge y 58 with h | h
                  · skip
                    obtain rfl : y = 57 := by omega
                    exact List.mem_of_getElem? am_cw57
                  · skip
                    obtain rfl : y = 58 := by omega
                    exact List.mem_of_getElem? am_cw58
        · skip
          rcases Nat.lt_or_ge y 69 with h | h
          · skip
            rcases Nat.lt_or_ge y 64 with h | h
            · skip
              rcases Nat.lt_or_ge y 61 with h | h
              · skip
                rcases Nat.lt_or_ge y 60 with h | h
                · skip
                  obtain rfl : y = 59 := by omega
                  exact List.mem_of_getElem? am_cw59
                · skip
                  obtain rfl : y = 60 := by omega
                  exact List.mem_of_getElem? am_cw60
              · skip
                rcases Nat.lt_or_ge y 62 with h | h
                · skip
                  obtain rfl : y = 61 := by omega
                  exact List.mem_of_getElem? am_cw61
                · skip
                  rcases Nat.lt_or_ge y 63 with h | h
                  · skip
                    obtain rfl : y = 62 := by omega
                    exact List.mem_of_getElem? am_cw62
                  · skip
                    obtain rfl : y = 63 := by omega
                    exact List.mem_of_getElem? am_cw63
            · skip
              rcases Nat.lt_or_ge y 66 with h | h
              · skip
                rcases Nat.lt_or_ge y 65 with h | h
                · skip
                  obtain rfl : y = 64 := by omega
                  exact List.mem_of_getElem? am_cw64
                · skip
                  obtain rfl : y = 65 := by omega
                  exact List.mem_of_getElem? am_cw65
              · skip
                rcases Nat.lt_or_ge y 67 with h | h
                · skip
                  obtain rfl : y = 66 := by omega
                  exact List.mem_of_getElem? am_cw66
                · skip
                  rcases Nat.lt_or_ge y 68 with h | h
                  · skip
                    obtain rfl : y = 67 := by omega
                    exact List.mem_of_getElem? am_cw67
                  · skip
                    obtain rfl : y = 68 := by omega
                    exact List.mem_of_getElem? am_cw68
          · skip
            rcases Nat.lt_or_ge y 74 with h | h
            · skip
              rcases Nat.lt_or_ge y 71 with h | h
              · skip
                rcases Nat.lt_or_ge y 70 with h | h
                · skip
                  obtain rfl : y = 69 := by omega
                  exact List.mem_of_getElem? am_cw69
                · skip
                  obtain rfl : y = 70 := by omega
                  exact List.mem_of_getElem? am_cw70
              · skip
                rcases Nat.lt_or_ge y 72 with h | h
                · skip
                  obtain rfl : y = 71 := by omega
                  exact List.mem_of_getElem? am_cw71
                · skip
                  rcases Nat.lt_or_ge y 73 with h | h
                  · skip
                    obtain rfl : y = 72 := by omega
                    exact List.mem_of_getElem? am_cw72
                  · skip
                    obtain rfl : y = 73 := by omega
                    exact List.mem_of_getElem? am_cw73
            · skip
              rcases Nat.lt_or_ge y 76 with h | h
              · skip
                rcases Nat.lt_or_ge y 75 with h | h
                · skip
                  obtain rfl : y = 74 := by omega
                  exact List.mem_of_getElem? am_cw74
                · skip
                  obtain rfl : y = 75 := by omega
                  exact List.mem_of_getElem? am_cw75
              · skip
                rcases Nat.lt_or_ge y 77 with h | h
                · skip
                  obtain rfl : y = 76 := by omega
                  exact List.mem_of_getElem? am_cw76
                · skip
                  rcases Nat.lt_or_ge y 78 with h | h
                  · skip
                    obtain rfl : y = 77 := by omega
                    exact List.mem_of_getElem? am_cw77
                  · skip
                    obtain rfl : y = 78 := by omega
                    exact List.mem_of_getElem? am_cw78
    · skip
      rcases Nat.lt_or_ge y 118 with h | h
      · skip
        rcases Nat.lt_or_ge y 98 with h | h
        · skip
          rcases Nat.lt_or_ge y 88 with h | h
          · skip
            rcases Nat.lt_or_ge y 83 with h | h
            · skip
              rcases Nat.lt_or_ge y 81 with h | h
              · skip
                rcases Nat.lt_or_ge y 80 with h | h
                · skip
                  obtain rfl : y = 79 := by omega
                  exact List.mem_of_getElem? am_cw79
                · skip
                  obtain rfl : y = 80 := by omega
                  exact List.mem_of_getElem? am_cw80
              · skip
                rcases Nat.lt_or_ge y 82 with h | h
                · skip
                  obtain rfl : y = 81 := by omega
                  exact List.mem_of_getElem? am_cw81
                · skip
                  obtain rfl : y = 82 := by omega
                  exact List.mem_of_getElem? am_cw82
            · skip
              rcases Nat.lt_or_ge y 85 with h | h
              · skip
                rcases Nat.lt_or_ge y 84 with h | h
                · skip
                  obtain rfl : y = 83 := by omega
                  exact List.mem_of_getElem? am_cw83
                · skip
                  obtain rfl : y = 84 := by omega
                  exact List.mem_of_getElem? am_cw84
              · skip
                rcases Nat.lt_or_ge y 86 with h | h
                · skip
                  obtain rfl : y = 85 := by omega
                  exact List.mem_of_getElem? am_cw85
                · skip
                  rcases Nat.lt_or_ge y 87 with h | h
                  · skip
                    obtain rfl : y = 86 := by omega
                    exact List.mem_of_getElem? am_cw86
                  · skip
                    obtain rfl : y = 87 := by omega
                    exact List.mem_of_getElem? am_cw87
          · skip
            rcases Nat.lt_or_ge y 93 with h | h
            · skip
              rcases Nat.lt_or_ge y 90 with h | h
              · skip
                rcases Nat.lt_or_ge y 89 with h | h
                · skip
                  obtain rfl : y = 88 := by omega
                  exact List.mem_of_getElem? am_cw88
                · skip
                  obtain rfl : y = 89 := by omega
                  exact List.mem_of_getElem? am_cw89
              · skip
                rcases Nat.lt_or_ge y 91 with h | h
                · skip
                  obtain rfl : y = 90 := by omega
                  exact List.mem_of_getElem? am_cw90
                · skip
                  rcases Nat.lt_or_ge y 92 with h | h
                  · skip
                    obtain rfl : y = 91 := by omega
                    exact List.mem_of_getElem? am_cw91
                  · skip
                    obtain rfl : y = 92 := by omega
                    exact List.mem_of_getElem? am_cw92
            · skip
              rcases Nat.lt_or_ge y 95 with h | h
              · skip
                rcases Nat.lt_or_ge y 94 with h | h
                · skip
                  obtain rfl : y = 93 := by omega
                  exact List.mem_of_getElem? am_cw93
                · skip
                  obtain rfl : y = 94 := by omega
                  exact List.mem_of_getElem? am_cw94
              · skip
                rcases Nat.lt_or_ge y 96 with h | h
                · skip
                  obtain rfl : y = 95 := by omega
                  exact List.mem_of_getElem? am_cw95
                · skip
                  rcases Nat.lt_or_ge y 97 with h | h
                  · skip
                    obtain rfl : y = 96 := by omega
                    exact List.mem_of_getElem? am_cw96
                  · skip
                    obtain rfl : y = 97 := by omega
                    exact List.mem_of_getElem? am_cw97
        · skip
          rcases Nat.lt_or_ge y 108 with h | h
          · skip
            rcases Nat.lt_or_ge y 103 with h | h
            · skip
              rcases Nat.lt_or_ge y 100 with h | h
              · skip
                rcases Nat.lt_or_ge y 99 with h | h
                · skip
                  obtain rfl : y = 98 := by omega
                  exact List.mem_of_getElem? am_cw98
                · skip
                  obtain rfl : y = 99 := by omega
                  exact List.mem_of_getElem? am_cw99
              · skip
                rcases Nat.lt_or_ge y 101 with h | h
                · skip
                  obtain rfl : y = 100 := by omega
                  exact List.mem_of_getElem? am_cw100
                · skip
                  rcases Nat.lt_or_ge y 102 with h | h
                  · skip
                    obtain rfl : y = 101 := by omega
                    exact List.mem_of_getElem? am_cw101
                  · skip
                    obtain rfl : y = 102 := by omega
                    exact List.mem_of_getElem? am_cw102
            · skip
              rcases Nat.lt_or_ge y 105 with h | h
              · skip
                rcases Nat.lt_or_ge y 104 with h | h
                · skip
                  obtain rfl : y = 103 := by omega
                  exact List.mem_of_getElem? am_cw103
                · skip
                  obtain rfl : y = 104 := by omega
                  exact List.mem_of_getElem? am_cw104
              · skip
                rcases Nat.lt_or_ge y 106 with h | h
                · skip
                  obtain rfl : y = 105 := by omega
                  exact List.mem_of_getElem? am_cw105
                · skip
                  rcases Nat.lt_or_ge y 107 with h | h
                  · skip
                    obtain rfl : y = 106 := by omega
                    exact List.mem_of_getElem? am_cw106
                  · skip
                    obtain rfl : y = 107 := by omega
                    exact List.mem_of_getElem? am_cw107
          · skip
            rcases Nat.lt_or_ge y 113 with h | h
            · skip
              rcases Nat.lt_or_ge y 110 with h | h
              · skip
                rcases Nat.lt_or_ge y 109 with h | h
                · skip
                  obtain rfl : y = 108 := by omega
                  exact List.mem_of_getElem? am_cw108
                · skip
                  obtain rfl : y = 109 := by omega
                  exact List.mem_of_getElem? am_cw109
              · skip
                rcases Nat.lt_or_ge y 111 with h | h
                · skip
                  obtain rfl : y = 110 := by omega
                  exact List.mem_of_getElem? am_cw110
                · skip
                  rcases Nat.lt_or_ge y 112 with h | h
                  · skip
                    obtain rfl : y = 111 := by omega
                    exact List.mem_of_getElem? am_cw111
                  · skip
                    obtain rfl : y = 112 := by omega
                    exact List.mem_of_getElem? am_cw112
            · skip
              rcases Nat.lt_or_ge y 115 with h | h
              · skip
                rcases Nat.lt_or_ge y 114 with h | h
                · skip
                  obtain rfl : y = 113 := by omega
                  exact List.mem_of_getElem? am_cw113
                · skip
                  obtain rfl : y = 114 := by omega
                  exact List.mem_of_getElem? am_cw114
              · skip
                rcases Nat.lt_or_ge y 116 with h | h
                · skip
                  obtain rfl : y = 115 := by omega
                  exact List.mem_of_getElem? am_cw115
                · skip
                  rcases Nat.lt_or_ge y 117 with h | h
                  · skip
                    obtain rfl : y = 116 := by omega
                    exact List.mem_of_getElem? am_cw116
                  · skip
                    obtain rfl : y = 117 := by omega
                    exact List.mem_of_getElem? am_cw117
      · skip
        rcases Nat.lt_or_ge y 138 with h | h
        · skip
          rcases Nat.lt_or_ge y 128 with h | h
          · skip
            rcases Nat.lt_or_ge y 123 with h | h
            · skip
              rcases Nat.lt_or_ge y 120 with h | h
              · skip
                rcases Nat.lt_or_ge y 119 with h | h
                · skip
                  obtain rfl : y = 118 := by omega
                  exact List.mem_of_getElem? am_cw118
                · skip
                  obtain rfl : y = 119 := by omega
                  exact List.mem_of_getElem? am_cw119
              · skip
                rcases Nat.lt_or_ge y 121 with h | h
                · skip
                  obtain rfl : y = 120 := by omega
                  exact List.mem_of_getElem? am_cw120
                · skip
                  rcases Nat.lt_or_ge y 122 with h | h
                  · skip
                    obtain rfl : y = 121 := by omega
                    exact List.mem_of_getElem? am_cw121
                  · skip
                    obtain rfl : y = 122 := by omega
                    exact List.mem_of_getElem? am_cw122
            · skip
              rcases Nat.lt_or_ge y 125 with h | h
              · skip
                rcases Nat.lt_or_ge y 124 with h | h
                · skip
                  obtain rfl : y = 123 := by omega
                  exact List.mem_of_getElem? am_cw123
                · skip
                  obtain rfl : y = 124 := by omega
                  exact List.mem_of_getElem? am_cw124
              · skip
                rcases Nat.lt_or_ge y 126 with h | h
                · skip
                  obtain rfl : y = 125 := by omega
                  exact List.mem_of_getElem? am_cw125
                · skip
                  rcases Nat.lt_or_ge y 127 with h | h
                  · skip
                    obtain rfl : y = 126 := by omega
                    exact List.mem_of_getElem? am_cw126
                  · skip
                    obtain rfl : y = 127 := by omega
                    exact List.mem_of_getElem? am_cw127
          · skip
            rcases Nat.lt_or_ge y 133 with h | h
            · skip
              rcases Nat.lt_or_ge y 130 with h | h
              · skip
                rcases Nat.lt_or_ge y 129 with h | h
                · skip
                  obtain rfl : y = 128 := by omega
                  exact List.mem_of_getElem? am_cw128
                · skip
                  obtain rfl : y = 129 := by omega
                  exact List.mem_of_getElem? am_cw129
              · skip
                rcases Nat.lt_or_ge y 131 with h | h
                · skip
                  obtain rfl : y = 130 := by omega
                  exact List.mem_of_getElem? am_cw130
                · skip
                  rcases Nat.lt_or_ge y 132 with h | h
                  · skip
                    obtain rfl : y = 131 := by omega
                    exact List.mem_of_getElem? am_cw131
                  · skip
                    obtain rfl : y = 132 := by omega
                    exact List.mem_of_getElem? am_cw132
            · skip
              rcases Nat.lt_or_ge y 135 with h | h
              · skip
                rcases Nat.lt_or_ge y 134 with h | h
                · skip
                  obtain rfl : y = 133 := by omega
                  exact List.mem_of_getElem? am_cw133
                · skip
                  obtain rfl : y = 134 := by omega
                  exact List.mem_of_getElem? am_cw134
              · skip
                rcases Nat.lt_or_ge y 136 with h | h
                · skip
                  obtain rfl : y = 135 := by omega
                  exact List.mem_of_getElem? am_cw135
                · skip
                  rcases Nat.lt_or_ge y 137 with h | h
                  · skip
                    obtain rfl : y = 136 := by omega
                    exact List.mem_of_getElem? am_cw136
                  · skip
                    obtain rfl : y = 137 := by omega
                    exact List.mem_of_getElem? am_cw137
        · skip
          rcases Nat.lt_or_ge y 148 with h | h
          · skip
            rcases Nat.lt_or_ge y 143 with h | h
            · skip
              rcases Nat.lt_or_ge y 140 with h | h
              · skip
                rcases Nat.lt_or_ge y 139 with h | h
                · skip
                  obtain rfl : y = 138 := by omega
                  exact List.mem_of_getElem? am_cw138
                · skip
                  obtain rfl : y = 139 := by omega
                  exact List.mem_of_getElem? am_cw139
              · skip
                rcases Nat.lt_or_ge y 141 with h | h
                · skip
                  obtain rfl : y = 140 := by omega
                  exact List.mem_of_getElem? am_cw140
                · skip
                  rcases Nat.lt_or_ge y 142 with h | h
                  · skip
                    obtain rfl : y = 141 := by omega
                    exact List.mem_of_getElem? am_cw141
                  · skip
                    obtain rfl : y = 142 := by omega
                    exact List.mem_of_getElem? am_cw142
            · skip
              rcases Nat.lt_or_ge y 145 with h | h
              · skip
                rcases Nat.lt_or_ge y 144 with h | h
                · skip
                  obtain rfl : y = 143 := by omega
                  exact List.mem_of_getElem? am_cw143
                · skip
                  obtain rfl : y = 144 := by omega
                  exact List.mem_of_getElem? am_cw144
              · skip
                rcases Nat.lt_or_ge y 146 with h | h
                · skip
                  obtain rfl : y = 145 := by omega
                  exact List.mem_of_getElem? am_cw145
                · skip
                  rcases Nat.lt_or_ge y 147 with h | h
                  · skip
                    obtain rfl : y = 146 := by omega
                    exact List.mem_of_getElem? am_cw146
                  · skip
                    obtain rfl : y = 147 := by omega
                    exact List.mem_of_getElem? am_cw147
          · skip
            rcases Nat.lt_or_ge y 153 with h | h
            · skip
              rcases Nat.lt_or_ge y 150 with h | h
              · skip
                rcases Nat.lt_or_ge y 149 with h | h
                · skip
                  obtain rfl : y = 148 := by omega
                  exact List.mem_of_getElem? am_cw148
                · skip
                  obtain rfl : y = 149 := by omega
                  exact List.mem_of_getElem? am_cw149
              · skip
                rcases Nat.lt_or_ge y 151 with h | h
                · skip
                  obtain rfl : y = 150 := by omega
                  exact List.mem_of_getElem? am_cw150
                · skip
                  rcases Nat.lt_or_ge y 152 with h | h
                  · skip
                    obtain rfl : y = 151 := by omega
                    exact List.mem_of_getElem? am_cw151
                  · skip
                    obtain rfl : y = 152 := by omega
                    exact List.mem_of_getElem? am_cw152
            · skip
              rcases Nat.lt_or_ge y 155 with h | h
              · skip
                rcases Nat.lt_or_ge y 154 with h | h
                · skip
                  obtain rfl : y = 153 := by omega
                  exact List.mem_of_getElem? am_cw153
                · skip
                  obtain rfl : y = 154 := by omega
                  exact List.mem_of_getElem? am_cw154
              · skip
                rcases Nat.lt_or_ge y 156 with h | h
                · skip
                  obtain rfl : y = 155 := by omega
                  exact List.mem_of_getElem? am_cw155
                · skip
                  rcases Nat.lt_or_ge y 157 with h | h
                  · skip
                    obtain rfl : y = 156 := by omega
                    exact List.mem_of_getElem? am_cw156
                  · skip
                    obtain rfl : y = 157 := by omega
                    exact List.mem_of_getElem? am_cw157
  · skip
    rcases Nat.lt_or_ge y 237 with h | h
    · skip
      rcases Nat.lt_or_ge y 197 with h | h
      · skip
        rcases Nat.lt_or_ge y 177 with h | h
        · skip
          rcases Nat.lt_or_ge y 167 with h | h
          · skip
            rcases Nat.lt_or_ge y 162 with h | h
            · skip
              rcases Nat.lt_or_ge y 160 with h | h
              · skip
                rcases Nat.lt_or_ge y 159 with h | h
                · skip
                  obtain rfl : y = 158 := by omega
                  exact List.mem_of_getElem? am_cw158
                · skip
                  obtain rfl : y = 159 := by omega
                  exact List.mem_of_getElem? am_cw159
              · skip
                rcases Nat.lt_or_ge y 161 with h | h
                · skip
                  obtain rfl : y = 160 := by omega
                  exact List.mem_of_getElem? am_cw160
                · skip
                  obtain rfl : y = 161 := by omega
                  exact List.mem_of_getElem? am_cw161
            · skip
              rcases Nat.lt_or_ge y 164 with h | h
              · skip
                rcases Nat.lt_or_ge y 163 with h | h
                · skip
                  obtain rfl : y = 162 := by omega
                  exact List.mem_of_getElem? am_cw162
                · skip
                  obtain rfl : y = 163 := by omega
                  exact List.mem_of_getElem? am_cw163
              · skip
                rcases Nat.lt_or_ge y 165 with h | h
                · skip
                  obtain rfl : y = 164 := by omega
                  exact List.mem_of_getElem? am_cw164
                · skip
                  rcases Nat.lt_or_ge y 166 with h | h
                  · skip
                    obtain rfl : y = 165 := by omega
                    exact List.mem_of_getElem? am_cw165
                  · skip
                    obtain rfl : y = 166 := by omega
                    exact List.mem_of_getElem? am_cw166
          · skip
            rcases Nat.lt_or_ge y 172 with h | h
            · skip
              rcases Nat.lt_or_ge y 169 with h | h
              · skip
                rcases Nat.lt_or_ge y 168 with h | h
                · skip
                  obtain rfl : y = 167 := by omega
                  exact List.mem_of_getElem? am_cw167
                · skip
                  obtain rfl : y = 168 := by omega
                  exact List.mem_of_getElem? am_cw168
              · skip
                rcases Nat.lt_or_ge y 170 with h | h
                · skip
                  obtain rfl : y = 169 := by omega
                  exact List.mem_of_getElem? am_cw169
                · skip
                  rcases Nat.lt_or_ge y 171 with h | h
                  · skip
                    obtain rfl : y = 170 := by omega
                    exact List.mem_of_getElem? am_cw170
                  · skip
                    obtain rfl : y = 171 := by omega
                    exact List.mem_of_getElem? am_cw171
            · skip
              rcases Nat.lt_or_ge y 174 with h | h
              · skip
                rcases Nat.lt_or_ge y 173 with h | h
                · skip
                  obtain rfl : y = 172 := by omega
                  exact List.mem_of_getElem? am_cw172
                · skip
                  obtain rfl : y = 173 := by omega
                  exact List.mem_of_getElem? am_cw173
              · skip
                rcases Nat.lt_or_ge y 175 with h | h
                · skip
                  obtain rfl : y = 174 := by omega
                  exact List.mem_of_getElem? am_cw174
                · skip
                  rcases Nat.lt_or_ge y 176 with h | h
                  · skip
                    obtain rfl : y = 175 := by omega
                    exact List.mem_of_getElem? am_cw175
                  · skip
                    obtain rfl : y = 176 := by omega
                    exact List.mem_of_getElem? am_cw176
        · skip
          rcases Nat.lt_or_ge y 187 with h | h
          · skip
            rcases Nat.lt_or_ge y 182 with h | h
            · skip
              rcases Nat.lt_or_ge y 179 with h | h
              · skip
                rcases Nat.lt_or_ge y 178 with h | h
                · skip
                  obtain rfl : y = 177 := by omega
                  exact List.mem_of_getElem? am_cw177
                · skip
                  obtain rfl : y = 178 := by omega
                  exact List.mem_of_getElem? am_cw178
              · skip
                rcases Nat.lt_or_ge y 180 with h | h
                · skip
                  obtain rfl : y = 179 := by omega
                  exact List.mem_of_getElem? am_cw179
                · skip
                  rcases Nat.lt_or_ge y 181 with h | h
                  · skip
                    obtain rfl : y = 180 := by omega
                    exact List.mem_of_getElem? am_cw180
                  · skip
                    obtain rfl : y = 181 := by omega
                    exact List.mem_of_getElem? am_cw181
            · skip
              rcases Nat.lt_or_ge y 184 with h | h
              · skip
                rcases Nat.lt_or_ge y 183 with h | h
                · skip
                  obtain rfl : y = 182 := by omega
                  exact List.mem_of_getElem? am_cw182
                · skip
                  obtain rfl : y = 183 := by omega
                  exact List.mem_of_getElem? am_cw183
              · skip
                rcases Nat.lt_or_ge y 185 with h | h
                · skip
                  obtain rfl : y = 184 := by omega
                  exact List.mem_of_getElem? am_cw184
                · skip
                  rcases Nat.lt_or_ge y 186 with h | h
                  · skip
                    obtain rfl : y = 185 := by omega
                    exact List.mem_of_getElem? am_cw185
                  · skip
                    obtain rfl : y = 186 := by omega
                    exact List.mem_of_getElem? am_cw186
          · skip
            rcases Nat.lt_or_ge y 192 with h | h
            · skip
              rcases Nat.lt_or_ge y 189 with h | h
              · skip
                rcases Nat.lt_or_ge y 188 with h | h
                · skip
                  obtain rfl : y = 187 := by omega
                  exact List.mem_of_getElem? am_cw187
                · skip
                  obtain rfl : y = 188 := by omega
                  exact List.mem_of_getElem? am_cw188
              · skip
                rcases Nat.lt_or_ge y 190 with h | h
                · skip
                  obtain rfl : y = 189 := by omega
                  exact List.mem_of_getElem? am_cw189
                · skip
                  rcases Nat.lt_or_ge y 191 with h | h
                  · skip
                    obtain rfl : y = 190 := by omega
                    exact List.mem_of_getElem? am_cw190
                  · skip
                    obtain rfl : y = 191 := by omega
                    exact List.mem_of_getElem? am_cw191
            · skip
              rcases Nat.lt_or_ge y 194 with h | h
              · skip
                rcases Nat.lt_or_ge y 193 with h | h
                · skip
                  obtain rfl : y = 192 := by omega
                  exact List.mem_of_getElem? am_cw192
                · skip
                  obtain rfl : y = 193 := by omega
                  exact List.mem_of_getElem? am_cw193
              · skip
                rcases Nat.lt_or_ge y 195 with h | h
                · skip
                  obtain rfl : y = 194 := by omega
                  exact List.mem_of_getElem? am_cw194
                · skip
                  rcases Nat.lt_or_ge y 196 with h | h
                  · skip
                    obtain rfl : y = 195 := by omega
                    exact List.mem_of_getElem? am_cw195
                  · skip
                    obtain rfl : y = 196 := by omega
                    exact List.mem_of_getElem? am_cw196
      · skip
        rcases Nat.lt_or_ge y 217 with h | h
        · skip
          rcases Nat.lt_or_ge y 207 with h | h
          · skip
            rcases Nat.lt_or_ge y 202 with h | h
            · skip
              rcases Nat.lt_or_ge y 199 with h | h
              · skip
                rcases Nat.lt_or_ge y 198 with h | h
                · skip
                  obtain rfl : y = 197 := by omega
                  exact List.mem_of_getElem? am_cw197
                · skip
                  obtain rfl : y = 198 := by omega
                  exact List.mem_of_getElem? am_cw198
              · skip
                rcases Nat.lt_or_ge y 200 with h | h
                · skip
                  obtain rfl : y = 199 := by omega
                  exact List.mem_of_getElem? am_cw199
                · skip
                  rcases Nat.lt_or_ge y 201 with h | h
                  · skip
                    obtain rfl : y = 200 := by omega
                    exact List.mem_of_getElem? am_cw200
                  · skip
                    obtain rfl : y = 201 := by omega
                    exact List.mem_of_getElem? am_cw201
            · skip
              rcases Nat.lt_or_ge y 204 with h | h
              · skip
                rcases Nat.lt_or_ge y 203 with h | h
                · skip
                  obtain rfl : y = 202 := by omega
                  exact List.mem_of_getElem? am_cw202
                · skip
                  obtain rfl : y = 203 := by omega
                  exact List.mem_of_getElem? am_cw203
              · skip
                rcases Nat.lt_or_ge y 205 with h | h
                · skip
                  obtain rfl : y = 204 := by omega
                  exact List.mem_of_getElem? am_cw204
                · skip
                  rcases Nat.lt_or_ge y 206 with h | h
                  · skip
                    obtain rfl : y = 205 := by omega
                    exact List.mem_of_getElem? am_cw205
                  · skip
                    obtain rfl : y = 206 := by omega
                    exact List.mem_of_getElem? am_cw206
          · skip
            rcases Nat.lt_or_ge y 212 with h | h
            · skip
              rcases Nat.lt_or_ge y 209 with h | h
              · skip
                rcases Nat.lt_or_ge y 208 with h | h
                · skip
                  obtain rfl : y = 207 := by omega
                  exact List.mem_of_getElem? am_cw207
                · skip
                  obtain rfl : y = 208 := by omega
                  exact List.mem_of_getElem? am_cw208
              · skip
                rcases Nat.lt_or_ge y 210 with h | h
                · skip
                  obtain rfl : y = 209 := by omega
                  exact List.mem_of_getElem? am_cw209
                · skip
                  rcases Nat.lt_or_ge y 211 with h | h
                  · skip
                    obtain rfl : y = 210 := by omega
                    exact List.mem_of_getElem? am_cw210
                  · skip
                    obtain rfl : y = 211 := by omega
                    exact List.mem_of_getElem? am_cw211
            · skip
              rcases Nat.lt_or_ge y 214 with h | h
              · skip
                rcases Nat.lt_or_ge y 213 with h | h
                · skip
                  obtain rfl : y = 212 := by omega
                  exact List.mem_of_getElem? am_cw212
                · skip
                  obtain rfl : y = 213 := by omega
                  exact List.mem_of_getElem? am_cw213
              · skip
                rcases Nat.lt_or_ge y 215 with h | h
                · skip
                  obtain rfl : y = 214 := by omega
                  exact List.mem_of_getElem? am_cw214
                · skip
                  rcases Nat.lt_or_ge y 216 with h | h
                  · skip
                    obtain rfl : y = 215 := by omega
                    exact List.mem_of_getElem? am_cw215
                  · skip
                    obtain rfl : y = 216 := by omega
                    exact List.mem_of_getElem? am_cw216
        · skip
          rcases Nat.lt_or_ge y 227 with h | h
          · skip
            rcases Nat.lt_or_ge y 222 with h | h
            · skip
              rcases Nat.lt_or_ge y 219 with h | h
              · skip
                rcases Nat.lt_or_ge y 218 with h | h
                · skip
                  obtain rfl : y = 217 := by omega
                  exact List.mem_of_getElem? am_cw217
                · skip
                  obtain rfl : y = 218 := by omega
                  exact List.mem_of_getElem? am_cw218
              · skip
                rcases Nat.lt_or_ge y 220 with h | h
                · skip
                  obtain rfl : y = 219 := by omega
                  exact List.mem_of_getElem? am_cw219
                · skip
                  rcases Nat.lt_or_ge y 221 with h | h
                  · skip
                    obtain rfl : y = 220 := by omega
                    exact List.mem_of_getElem? am_cw220
                  · skip
                    obtain rfl : y = 221 := by omega
                    exact List.mem_of_getElem? am_cw221
            · skip
              rcases Nat.lt_or_ge y 224 with h | h
              · skip
                rcases Nat.lt_or_ge y 223 with h | h
                · skip
                  obtain rfl : y = 222 := by omega
                  exact List.mem_of_getElem? am_cw222
                · skip
                  obtain rfl : y = 223 := by omega
                  exact List.mem_of_getElem? am_cw223
              · skip
                rcases Nat.lt_or_ge y 225 with h | h
                · skip
                  obtain rfl : y = 224 := by omega
                  exact List.mem_of_getElem? am_cw224
                · skip
                  rcases Nat.lt_or_ge y 226 with h | h
                  · skip
                    obtain rfl : y = 225 := by omega
                    exact List.mem_of_getElem? am_cw225
                  · skip
                    obtain rfl : y = 226 := by omega
                    exact List.mem_of_getElem? am_cw226
          · skip
            rcases Nat.lt_or_ge y 232 with h | h
            · skip
              rcases Nat.lt_or_ge y 229 with h | h
              · skip
                rcases Nat.lt_or_ge y 228 with h | h
                · skip
                  obtain rfl : y = 227 := by omega
                  exact List.mem_of_getElem? am_cw227
                · skip
                  obtain rfl : y = 228 := by omega
                  exact List.mem_of_getElem? am_cw228
              · skip
                rcases Nat.lt_or_ge y 230 with h | h
                · skip
                  obtain rfl : y = 229 := by omega
                  exact List.mem_of_getElem? am_cw229
                · skip
                  rcases Nat.lt_or_ge y 231 with h | h
                  · skip
                    obtain rfl : y = 230 := by omega
                    exact List.mem_of_getElem? am_cw230
                  · skip
                    obtain rfl : y = 231 := by omega
                    exact List.mem_of_getElem? am_cw231
            · skip
              rcases Nat.lt_or_ge y 234 with h | h
              · skip
                rcases Nat.lt_or_ge y 233 with h | h
                · skip
                  obtain rfl : y = 232 := by omega
                  exact List.mem_of_getElem? am_cw232
                · skip
                  obtain rfl : y = 233 := by omega
                  exact List.mem_of_getElem? am_cw233
              · skip
                rcases Nat.lt_or_ge y 235 with h | h
                · skip
                  obtain rfl : y = 234 := by omega
                  exact List.mem_of_getElem? am_cw234
                · skip
                  rcases Nat.lt_or_ge y 236 with h | h
                  · skip
                    obtain rfl : y = 235 := by omega
                    exact List.mem_of_getElem? am_cw235
                  · skip
                    obtain rfl : y = 236 := by omega
                    exact List.mem_of_getElem? am_cw236
    · skip
      rcases Nat.lt_or_ge y 276 with h | h
      · skip
        rcases Nat.lt_or_ge y 256 with h | h
        · skip
          rcases Nat.lt_or_ge y 246 with h | h
          · skip
            rcases Nat.lt_or_ge y 241 with h | h
            · skip
              rcases Nat.lt_or_ge y 239 with h | h
              · skip
                rcases Nat.lt_or_ge y 238 with h | h
                · skip
                  obtain rfl : y = 237 := by omega
                  exact List.mem_of_getElem? am_cw237
                · skip
                  obtain rfl : y = 238 := by omega
                  exact List.mem_of_getElem? am_cw238
              · skip
                rcases Nat.lt_or_ge y 240 with h | h
                · skip
                  obtain rfl : y = 239 := by omega
                  exact List.mem_of_getElem? am_cw239
                · skip
                  obtain rfl : y = 240 := by omega
                  exact List.mem_of_getElem? am_cw240
            · skip
              rcases Nat.lt_or_ge y 243 with h | h
              · skip
                rcases Nat.lt_or_ge y 242 with h | h
                · skip
                  obtain rfl : y = 241 := by omega
                  exact List.mem_of_getElem? am_cw241
                · skip
                  obtain rfl : y = 242 := by omega
                  exact List.mem_of_getElem? am_cw242
              · skip
                rcases Nat.lt_or_ge y 244 with h | h
                · skip
                  obtain rfl : y = 243 := by omega
                  exact List.mem_of_getElem? am_cw243
                · skip
                  rcases Nat.lt_or_ge y 245 with h | h
                  · skip
                    obtain rfl : y = 244 := by omega
                    exact List.mem_of_getElem? am_cw244
                  · skip
                    obtain rfl : y = 245 := by omega
                    exact List.mem_of_getElem? am_cw245
          · skip
            rcases Nat.lt_or_ge y 251 with h | h
            · skip
              rcases Nat.lt_or_ge y 248 with h | h
              · skip
                rcases Nat.lt_or_ge y 247 with h | h
                · skip
                  obtain rfl : y = 246 := by omega
                  exact List.mem_of_getElem? am_cw246
                · skip
                  obtain rfl : y = 247 := by omega
                  exact List.mem_of_getElem? am_cw247
              · skip
                rcases Nat.lt_or_ge y 249 with h | h
                · skip
                  obtain rfl : y = 248 := by omega
                  exact List.mem_of_getElem? am_cw248
                · skip
                  rcases Nat.lt_or_ge y 250 with h | h
                  · skip
                    obtain rfl : y = 249 := by omega
                    exact List.mem_of_getElem? am_cw249
                  · skip
                    obtain rfl : y = 250 := by omega
                    exact List.mem_of_getElem? am_cw250
            · skip
              rcases Nat.lt_or_ge y 253 with h | h
              · skip
                rcases Nat.lt_or_ge y 252 with h | h
                · skip
                  obtain rfl : y = 251 := by omega
                  exact List.mem_of_getElem? am_cw251
                · skip
                  obtain rfl : y = 252 := by omega
                  exact List.mem_of_getElem? am_cw252
              · skip
                rcases Nat.lt_or_ge y 254 with h | h
                · skip
                  obtain rfl : y = 253 := by omega
                  exact List.mem_of_getElem? am_cw253
                · skip
                  rcases Nat.lt_or_ge y 255 with h | h
                  · skip
                    obtain rfl : y = 254 := by omega
                    exact List.mem_of_getElem? am_cw254
                  · skip
                    obtain rfl : y = 255 := by omega
                    exact List.mem_of_getElem? am_cw255
        · skip
          rcases Nat.lt_or_ge y 266 with h | h
          · skip
            rcases Nat.lt_or_ge y 261 with h | h
            · skip
              rcases Nat.lt_or_ge y 258 with h | h
              · skip
                rcases Nat.lt_or_ge y 257 with h | h
                · skip
                  obtain rfl : y = 256 := by omega
                  exact List.mem_of_getElem? am_cw256
                · skip
                  obtain rfl : y = 257 := by omega
                  exact List.mem_of_getElem? am_cw257
              · skip
                rcases Nat.lt_or_ge y 259 with h | h
                · skip
                  obtain rfl : y = 258 := by omega
                  exact List.mem_of_getElem? am_cw258
                · skip
                  rcases Nat.lt_or_ge y 260 with h | h
                  · skip
                    obtain rfl : y = 259 := by omega
                    exact List.mem_of_getElem? am_cw259
                  · skip
                    obtain rfl : y = 260 := by omega
                    exact List.mem_of_getElem? am_cw260
            · skip
              rcases Nat.lt_or_ge y 263 with h | h
              · skip
                rcases Nat.lt_or_ge y 262 with h | h
                · skip
                  obtain rfl : y = 261 := by omega
                  exact List.mem_of_getElem? am_cw261
                · skip
                  obtain rfl : y = 262 := by omega
                  exact List.mem_of_getElem? am_cw262
              · skip
                rcases Nat.lt_or_ge y 264 with h | h
                · skip
                  obtain rfl : y = 263 := by omega
                  exact List.mem_of_getElem? am_cw263
                · skip
                  rcases Nat.lt_or_ge y 265 with h | h
                  · skip
                    obtain rfl : y = 264 := by omega
                    exact List.mem_of_getElem? am_cw264
                  · skip
                    obtain rfl : y = 265 := by omega
                    exact List.mem_of_getElem? am_cw265
          · skip
            rcases Nat.lt_or_ge y 271 with h | h
            · skip
              rcases Nat.lt_or_ge y 268 with h | h
              · skip
                rcases Nat.lt_or_ge y 267 with h | h
                · skip
                  obtain rfl : y = 266 := by omega
                  exact List.mem_of_getElem? am_cw266
                · skip
                  obtain rfl : y = 267 := by omega
                  exact List.mem_of_getElem? am_cw267
              · skip
                rcases Nat.lt_or_ge y 269 with h | h
                · skip
                  obtain rfl : y = 268 := by omega
                  exact List.mem_of_getElem? am_cw268
                · skip
                  rcases Nat.lt_or_ge y 270 with h | h
                  · skip
                    obtain rfl : y = 269 := by omega
                    exact List.mem_of_getElem? am_cw269
                  · skip
                    obtain rfl : y = 270 := by omega
                    exact List.mem_of_getElem? am_cw270
            · skip
              rcases Nat.lt_or_ge y 273 with h | h
              · skip
                rcases Nat.lt_or_ge y 272 with h | h
                · skip
                  obtain rfl : y = 271 := by omega
                  exact List.mem_of_getElem? am_cw271
                · skip
                  obtain rfl : y = 272 := by omega
                  exact List.mem_of_getElem? am_cw272
              · skip
                rcases Nat.lt_or_ge y 274 with h | h
                · skip
                  obtain rfl : y = 273 := by omega
                  exact List.mem_of_getElem? am_cw273
                · skip
                  rcases Nat.lt_or_ge y 275 with h | h
                  · skip
                    obtain rfl : y = 274 := by omega
                    exact List.mem_of_getElem? am_cw274
                  · skip
                    obtain rfl : y = 275 := by omega
                    exact List.mem_of_getElem? am_cw275
      · skip
        rcases Nat.lt_or_ge y 296 with h | h
        · skip
          rcases Nat.lt_or_ge y 286 with h | h
          · skip
            rcases Nat.lt_or_ge y 281 with h | h
            · skip
              rcases Nat.lt_or_ge y 278 with h | h
              · skip
                rcases Nat.lt_or_ge y 277 with h | h
                · skip
                  obtain rfl : y = 276 := by omega
                  exact List.mem_of_getElem? am_cw276
                · skip
                  obtain rfl : y = 277 := by omega
                  exact List.mem_of_getElem? am_cw277
              · skip
                rcases Nat.lt_or_ge y 279 with h | h
                · skip
                  obtain rfl : y = 278 := by omega
                  exact List.mem_of_getElem? am_cw278
                · skip
                  rcases Nat.lt_or_ge y 280 with h | h
                  · skip
                    obtain rfl : y = 279 := by omega
                    exact List.mem_of_getElem? am_cw279
                  · skip
                    obtain rfl : y = 280 := by omega
                    exact List.mem_of_getElem? am_cw280
            · skip
              rcases Nat.lt_or_ge y 283 with h | h
              · skip
                rcases Nat.lt_or_ge y 282 with h | h
                · skip
                  obtain rfl : y = 281 := by omega
                  exact List.mem_of_getElem? am_cw281
                · skip
                  obtain rfl : y = 282 := by omega
                  exact List.mem_of_getElem? am_cw282
              · skip
                rcases Nat.lt_or_ge y 284 with h | h
                · skip
                  obtain rfl : y = 283 := by omega
                  exact List.mem_of_getElem? am_cw283
                · skip
                  rcases Nat.lt_or_ge y 285 with h | h
                  · skip
                    obtain rfl : y = 284 := by omega
                    exact List.mem_of_getElem? am_cw284
                  · skip
                    obtain rfl : y = 285 := by omega
                    exact List.mem_of_getElem? am_cw285
          · skip
            rcases Nat.lt_or_ge y 291 with h | h
            · skip
              rcases Nat.lt_or_ge y 288 with h | h
              · skip
                rcases Nat.lt_or_ge y 287 with h | h
                · skip
                  obtain rfl : y = 286 := by omega
                  exact List.mem_of_getElem? am_cw286
                · skip
                  obtain rfl : y = 287 := by omega
                  exact List.mem_of_getElem? am_cw287
              · skip
                rcases Nat.lt_or_ge y 289 with h | h
                · skip
                  obtain rfl : y = 288 := by omega
                  exact List.mem_of_getElem? am_cw288
                · skip
                  rcases Nat.lt_or_ge y 290 with h | h
                  · skip
                    obtain rfl : y = 289 := by omega
                    exact List.mem_of_getElem? am_cw289
                  · skip
                    obtain rfl : y = 290 := by omega
                    exact List.mem_of_getElem? am_cw290
            · skip
              rcases Nat.lt_or_ge y 293 with h | h
              · skip
                rcases Nat.lt_or_ge y 292 with h | h
                · skip
                  obtain rfl : y = 291 := by omega
                  exact List.mem_of_getElem? am_cw291
                · skip
                  obtain rfl : y = 292 := by omega
                  exact List.mem_of_getElem? am_cw292
              · skip
                rcases Nat.lt_or_ge y 294 with h | h
                · skip
                  obtain rfl : y = 293 := by omega
                  exact List.mem_of_getElem? am_cw293
                · skip
                  rcases Nat.lt_or_ge y 295 with h | h
                  · skip
                    obtain rfl : y = 294 := by omega
                    exact List.mem_of_getElem? am_cw294
                  · skip
                    obtain rfl : y = 295 := by omega
                    exact List.mem_of_getElem? am_cw295
        · skip
          rcases Nat.lt_or_ge y 306 with h | h
          · skip
            rcases Nat.lt_or_ge y 301 with h | h
            · skip
              rcases Nat.lt_or_ge y 298 with h | h
              · skip
                rcases Nat.lt_or_ge y 297 with h | h
                · skip
                  obtain rfl : y = 296 := by omega
                  exact List.mem_of_getElem? am_cw296
                · skip
                  obtain rfl : y = 297 := by omega
                  exact List.mem_of_getElem? am_cw297
              · skip
                rcases Nat.lt_or_ge y 299 with h | h
                · skip
                  obtain rfl : y = 298 := by omega
                  exact List.mem_of_getElem? am_cw298
                · skip
                  rcases Nat.lt_or_ge y 300 with h | h
                  · skip
                    obtain rfl : y = 299 := by omega
                    exact List.mem_of_getElem? am_cw299
                  · skip
                    obtain rfl : y = 300 := by omega
                    exact List.mem_of_getElem? am_cw300
            · skip
              rcases Nat.lt_or_ge y 303 with h | h
              · skip
                rcases Nat.lt_or_ge y 302 with h | h
                · skip
                  obtain rfl : y = 301 := by omega
                  exact List.mem_of_getElem? am_cw301
                · skip
                  obtain rfl : y = 302 := by omega
                  exact List.mem_of_getElem? am_cw302
              · skip
                rcases Nat.lt_or_ge y 304 with h | h
                · skip
                  obtain rfl : y = 303 := by omega
                  exact List.mem_of_getElem? am_cw303
                · skip
                  rcases Nat.lt_or_ge y 305 with h | h
                  · skip
                    obtain rfl : y = 304 := by omega
                    exact List.mem_of_getElem? am_cw304
                  · skip
                    obtain rfl : y = 305 := by omega
                    exact List.mem_of_getElem? am_cw305
          · skip
            rcases Nat.lt_or_ge y 311 with h | h
            · skip
              rcases Nat.lt_or_ge y 308 with h | h
              · skip
                rcases Nat.lt_or_ge y 307 with h | h
                · skip
                  obtain rfl : y = 306 := by omega
                  exact List.mem_of_getElem? am_cw306
                · skip
                  obtain rfl : y = 307 := by omega
                  exact List.mem_of_getElem? am_cw307
              · skip
                rcases Nat.lt_or_ge y 309 with h | h
                · skip
                  obtain rfl : y = 308 := by omega
                  exact List.mem_of_getElem? am_cw308
                · skip
                  rcases Nat.lt_or_ge y 310 with h | h
                  · skip
                    obtain rfl : y = 309 := by omega
                    exact List.mem_of_getElem? am_cw309
                  · skip
                    obtain rfl : y = 310 := by omega
                    exact List.mem_of_getElem? am_cw310
            · skip
              rcases Nat.lt_or_ge y 313 with h | h
              · skip
                rcases Nat.lt_or_ge y 312 with h | h
                · skip
                  obtain rfl : y = 311 := by omega
                  exact List.mem_of_getElem? am_cw311
                · skip
                  obtain rfl : y = 312 := by omega
                  exact List.mem_of_getElem? am_cw312
              · skip
                rcases Nat.lt_or_ge y 314 with h | h
                · skip
                  obtain rfl : y = 313 := by omega
                  exact List.mem_of_getElem? am_cw313
                · skip
                  rcases Nat.lt_or_ge y 315 with h | h
                  · skip
                    obtain rfl : y = 314 := by omega
                    exact List.mem_of_getElem? am_cw314
                  · skip
                    obtain rfl : y = 315 := by omega
                    exact List.mem_of_getElem? am_cw315
