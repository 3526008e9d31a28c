set_option maxRecDepth 20000 in
theorem lk_120 : Cond.initialized RL ∈ WSG := lkT1 0 rfl rfl
set_option maxRecDepth 20000 in
theorem lk_614 : Cond.methodLink RL 133 yX11_feed ∈ WSG := lkT3 14 rfl rfl
set_option maxRecDepth 20000 in
theorem lk_615 : Cond.instanceMethod yX11_feed ∈ WSG := lkT3 15 rfl rfl
set_option maxRecDepth 20000 in
theorem lk_616 : Cond.selects RX11 yX11_feed yX11_feed ∈ WSG := lkT3 16 rfl rfl
set_option maxRecDepth 20000 in
theorem lk_617 : Cond.code yX11_feed cX11_feed 6 (some .int) ∈ WSG := lkT3 17 rfl rfl
set_option maxRecDepth 20000 in
theorem lk_622 : Cond.methodLink RL 148 yX11_fault ∈ WSG := lkT3 22 rfl rfl
set_option maxRecDepth 20000 in
theorem lk_623 : Cond.instanceMethod yX11_fault ∈ WSG := lkT3 23 rfl rfl
set_option maxRecDepth 20000 in
theorem lk_624 : Cond.selects RX11 yX11_fault yX11_fault ∈ WSG := lkT3 24 rfl rfl
set_option maxRecDepth 20000 in
theorem lk_625 : Cond.code yX11_fault cX11_fault 2 (some .int) ∈ WSG := lkT3 25 rfl rfl
set_option maxRecDepth 20000 in
theorem lk_626 : Cond.methodLink RL 162 yX11_why ∈ WSG := lkT3 26 rfl rfl
set_option maxRecDepth 20000 in
theorem lk_627 : Cond.instanceMethod yX11_why ∈ WSG := lkT3 27 rfl rfl
set_option maxRecDepth 20000 in
theorem lk_628 : Cond.selects RX11 yX11_why yX11_why ∈ WSG := lkT3 28 rfl rfl
set_option maxRecDepth 20000 in
theorem lk_629 : Cond.code yX11_why cX11_why 2 (some .int) ∈ WSG := lkT3 29 rfl rfl
set_option maxRecDepth 20000 in
theorem lk_662 : Cond.methodLink RL 169 yX11_plans ∈ WSG := lkT3 62 rfl rfl
set_option maxRecDepth 20000 in
theorem lk_663 : Cond.instanceMethod yX11_plans ∈ WSG := lkT3 63 rfl rfl
set_option maxRecDepth 20000 in
theorem lk_664 : Cond.selects RX11 yX11_plans yX11_plans ∈ WSG := lkT3 64 rfl rfl
set_option maxRecDepth 20000 in
theorem lk_665 : Cond.code yX11_plans cX11_plans 1 (some .int) ∈ WSG := lkT3 65 rfl rfl
set_option maxRecDepth 20000 in
theorem lk_688 : Cond.methodLink RL 185 yX11_nights ∈ WSG := lkT3 88 rfl rfl
set_option maxRecDepth 20000 in
theorem lk_689 : Cond.instanceMethod yX11_nights ∈ WSG := lkT3 89 rfl rfl
set_option maxRecDepth 20000 in
theorem lk_690 : Cond.selects RX11 yX11_nights yX11_nights ∈ WSG := lkT3 90 rfl rfl
set_option maxRecDepth 20000 in
theorem lk_691 : Cond.code yX11_nights cX11_nights 1 (some .int) ∈ WSG := lkT3 91 rfl rfl
set_option maxRecDepth 20000 in
theorem lk_704 : Cond.methodLink RL 215 yX11_bestRule ∈ WSG := lkT3 104 rfl rfl
set_option maxRecDepth 20000 in
theorem lk_705 : Cond.instanceMethod yX11_bestRule ∈ WSG := lkT3 105 rfl rfl
set_option maxRecDepth 20000 in
theorem lk_706 : Cond.selects RX11 yX11_bestRule yX11_bestRule ∈ WSG := lkT3 106 rfl rfl
set_option maxRecDepth 20000 in
theorem lk_707 : Cond.code yX11_bestRule cX11_bestRule 5 (some .int) ∈ WSG := lkT3 107 rfl rfl
set_option maxRecDepth 20000 in
theorem lk_744 : Cond.methodLink RL 225 yX11_night ∈ WSG := lkT3 144 rfl rfl
set_option maxRecDepth 20000 in
theorem lk_745 : Cond.instanceMethod yX11_night ∈ WSG := lkT3 145 rfl rfl
set_option maxRecDepth 20000 in
theorem lk_746 : Cond.selects RX11 yX11_night yX11_night ∈ WSG := lkT3 146 rfl rfl
set_option maxRecDepth 20000 in
theorem lk_747 : Cond.code yX11_night cX11_night 3 (some .int) ∈ WSG := lkT3 147 rfl rfl
set_option maxRecDepth 20000 in
theorem lk_762 : Cond.methodLink RL 279 yX11_count ∈ WSG := lkT3 162 rfl rfl
set_option maxRecDepth 20000 in
theorem lk_763 : Cond.instanceMethod yX11_count ∈ WSG := lkT3 163 rfl rfl
set_option maxRecDepth 20000 in
theorem lk_764 : Cond.selects RX11 yX11_count yX11_count ∈ WSG := lkT3 164 rfl rfl
set_option maxRecDepth 20000 in
theorem lk_765 : Cond.code yX11_count cX11_count 2 (some .int) ∈ WSG := lkT3 165 rfl rfl
set_option maxRecDepth 20000 in
theorem lk_771 : Cond.methodLink RL 138 yL_sky ∈ WSG := lkT3 171 rfl rfl
set_option maxRecDepth 20000 in
theorem lk_772 : Cond.static yL_sky ∈ WSG := lkT3 172 rfl rfl
set_option maxRecDepth 20000 in
theorem lk_773 : Cond.codeWith yL_sky cL_sky 4 (some .int) [(0, 9, 12, 13)] ∈ WSG := lkT3 173 rfl rfl
set_option maxRecDepth 20000 in
theorem lk_774 : Cond.classLink RL 13 "java/lang/IllegalArgumentException" ∈ WSG := lkT3 174 rfl rfl
set_option maxRecDepth 20000 in
theorem lk_775 : Cond.methodLink RL 7 yX11_sky ∈ WSG := lkT3 175 rfl rfl
set_option maxRecDepth 20000 in
theorem lk_776 : Cond.instanceMethod yX11_sky ∈ WSG := lkT3 176 rfl rfl
set_option maxRecDepth 20000 in
theorem lk_777 : Cond.selects RX11 yX11_sky yX11_sky ∈ WSG := lkT3 177 rfl rfl
set_option maxRecDepth 20000 in
theorem lk_778 : Cond.code yX11_sky cX11_sky 2 (some .int) ∈ WSG := lkT3 178 rfl rfl
set_option maxRecDepth 20000 in
theorem lk_1124 : Cond.methodLink RL 152 yL_wish ∈ WSG := lkT5 44 rfl rfl
set_option maxRecDepth 20000 in
theorem lk_1125 : Cond.static yL_wish ∈ WSG := lkT5 45 rfl rfl
set_option maxRecDepth 20000 in
theorem lk_1126 : Cond.codeWith yL_wish cL_wish 5 (some .int) [(0, 10, 13, 19), (0, 10, 17, 13)] ∈ WSG := lkT5 46 rfl rfl
set_option maxRecDepth 20000 in
theorem lk_1127 : Cond.classLink RL 19 "java/util/NoSuchElementException" ∈ WSG := lkT5 47 rfl rfl
set_option maxRecDepth 20000 in
theorem lk_1128 : Cond.methodLink RL 15 yX11_wish ∈ WSG := lkT5 48 rfl rfl
set_option maxRecDepth 20000 in
theorem lk_1129 : Cond.instanceMethod yX11_wish ∈ WSG := lkT5 49 rfl rfl
set_option maxRecDepth 20000 in
theorem lk_1130 : Cond.selects RX11 yX11_wish yX11_wish ∈ WSG := lkT5 50 rfl rfl
set_option maxRecDepth 20000 in
theorem lk_1131 : Cond.code yX11_wish cX11_wish 3 (some .int) ∈ WSG := lkT5 51 rfl rfl
set_option maxRecDepth 20000 in
theorem lk_1157 : Cond.methodLink RL 156 yL_weather ∈ WSG := lkT5 77 rfl rfl
set_option maxRecDepth 20000 in
theorem lk_1158 : Cond.static yL_weather ∈ WSG := lkT5 78 rfl rfl
set_option maxRecDepth 20000 in
theorem lk_1159 : Cond.codeWith yL_weather cL_weather 4 (some .int) [(0, 9, 12, 13)] ∈ WSG := lkT5 79 rfl rfl
set_option maxRecDepth 20000 in
theorem lk_1160 : Cond.methodLink RL 21 yX11_weather ∈ WSG := lkT5 80 rfl rfl
set_option maxRecDepth 20000 in
theorem lk_1161 : Cond.instanceMethod yX11_weather ∈ WSG := lkT5 81 rfl rfl
set_option maxRecDepth 20000 in
theorem lk_1162 : Cond.selects RX11 yX11_weather yX11_weather ∈ WSG := lkT5 82 rfl rfl
set_option maxRecDepth 20000 in
theorem lk_1163 : Cond.code yX11_weather cX11_weather 2 (some .int) ∈ WSG := lkT5 83 rfl rfl
set_option maxRecDepth 20000 in
theorem lk_1170 : Cond.methodLink RL 159 yL_holds ∈ WSG := lkT5 90 rfl rfl
set_option maxRecDepth 20000 in
theorem lk_1171 : Cond.static yL_holds ∈ WSG := lkT5 91 rfl rfl
set_option maxRecDepth 20000 in
theorem lk_1172 : Cond.codeWith yL_holds cL_holds 5 (some .int) [(0, 17, 20, 19), (0, 17, 24, 13)] ∈ WSG := lkT5 92 rfl rfl
set_option maxRecDepth 20000 in
theorem lk_1173 : Cond.methodLink RL 24 yX11_holds ∈ WSG := lkT5 93 rfl rfl
set_option maxRecDepth 20000 in
theorem lk_1174 : Cond.instanceMethod yX11_holds ∈ WSG := lkT5 94 rfl rfl
set_option maxRecDepth 20000 in
theorem lk_1175 : Cond.selects RX11 yX11_holds yX11_holds ∈ WSG := lkT5 95 rfl rfl
set_option maxRecDepth 20000 in
theorem lk_1176 : Cond.code yX11_holds cX11_holds 3 (some .boolean) ∈ WSG := lkT5 96 rfl rfl
set_option maxRecDepth 20000 in
theorem lk_1178 : Cond.methodLink RL 166 yL_granted ∈ WSG := lkT5 98 rfl rfl
set_option maxRecDepth 20000 in
theorem lk_1179 : Cond.static yL_granted ∈ WSG := lkT5 99 rfl rfl
set_option maxRecDepth 20000 in
theorem lk_1180 : Cond.codeWith yL_granted cL_granted 4 (some .int) [(0, 9, 12, 13)] ∈ WSG := lkT5 100 rfl rfl
set_option maxRecDepth 20000 in
theorem lk_1181 : Cond.methodLink RL 28 yX11_granted ∈ WSG := lkT5 101 rfl rfl
set_option maxRecDepth 20000 in
theorem lk_1182 : Cond.instanceMethod yX11_granted ∈ WSG := lkT5 102 rfl rfl
set_option maxRecDepth 20000 in
theorem lk_1183 : Cond.selects RX11 yX11_granted yX11_granted ∈ WSG := lkT5 103 rfl rfl
set_option maxRecDepth 20000 in
theorem lk_1184 : Cond.code yX11_granted cX11_granted 2 (some .int) ∈ WSG := lkT5 104 rfl rfl
set_option maxRecDepth 20000 in
theorem lk_1185 : Cond.methodLink RL 173 yL_together ∈ WSG := lkT5 105 rfl rfl
set_option maxRecDepth 20000 in
theorem lk_1186 : Cond.static yL_together ∈ WSG := lkT5 106 rfl rfl
set_option maxRecDepth 20000 in
theorem lk_1187 : Cond.codeWith yL_together cL_together 4 (some .int) [(0, 9, 12, 13)] ∈ WSG := lkT5 107 rfl rfl
set_option maxRecDepth 20000 in
theorem lk_1188 : Cond.methodLink RL 31 yX11_together ∈ WSG := lkT5 108 rfl rfl
set_option maxRecDepth 20000 in
theorem lk_1189 : Cond.instanceMethod yX11_together ∈ WSG := lkT5 109 rfl rfl
set_option maxRecDepth 20000 in
theorem lk_1190 : Cond.selects RX11 yX11_together yX11_together ∈ WSG := lkT5 110 rfl rfl
set_option maxRecDepth 20000 in
theorem lk_1191 : Cond.code yX11_together cX11_together 2 (some .int) ∈ WSG := lkT5 111 rfl rfl
set_option maxRecDepth 20000 in
theorem lk_1198 : Cond.methodLink RL 176 yL_quarrel ∈ WSG := lkT5 118 rfl rfl
set_option maxRecDepth 20000 in
theorem lk_1199 : Cond.static yL_quarrel ∈ WSG := lkT5 119 rfl rfl
set_option maxRecDepth 20000 in
theorem lk_1200 : Cond.codeWith yL_quarrel cL_quarrel 4 (some .int) [(0, 9, 12, 13)] ∈ WSG := lkT5 120 rfl rfl
set_option maxRecDepth 20000 in
theorem lk_1201 : Cond.methodLink RL 34 yX11_quarrel ∈ WSG := lkT5 121 rfl rfl
set_option maxRecDepth 20000 in
theorem lk_1202 : Cond.instanceMethod yX11_quarrel ∈ WSG := lkT5 122 rfl rfl
set_option maxRecDepth 20000 in
theorem lk_1203 : Cond.selects RX11 yX11_quarrel yX11_quarrel ∈ WSG := lkT5 123 rfl rfl
set_option maxRecDepth 20000 in
theorem lk_1204 : Cond.code yX11_quarrel cX11_quarrel 2 (some .int) ∈ WSG := lkT5 124 rfl rfl
set_option maxRecDepth 20000 in
theorem lk_1209 : Cond.methodLink RL 179 yL_foes ∈ WSG := lkT5 129 rfl rfl
set_option maxRecDepth 20000 in
theorem lk_1210 : Cond.static yL_foes ∈ WSG := lkT5 130 rfl rfl
set_option maxRecDepth 20000 in
theorem lk_1211 : Cond.codeWith yL_foes cL_foes 4 (some .int) [(0, 9, 12, 19), (0, 9, 15, 13)] ∈ WSG := lkT5 131 rfl rfl
set_option maxRecDepth 20000 in
theorem lk_1212 : Cond.methodLink RL 37 yX11_foes ∈ WSG := lkT5 132 rfl rfl
set_option maxRecDepth 20000 in
theorem lk_1213 : Cond.instanceMethod yX11_foes ∈ WSG := lkT5 133 rfl rfl
set_option maxRecDepth 20000 in
theorem lk_1214 : Cond.selects RX11 yX11_foes yX11_foes ∈ WSG := lkT5 134 rfl rfl
set_option maxRecDepth 20000 in
theorem lk_1215 : Cond.code yX11_foes cX11_foes 2 (some .int) ∈ WSG := lkT5 135 rfl rfl
set_option maxRecDepth 20000 in
theorem lk_1225 : Cond.methodLink RL 182 yL_most ∈ WSG := lkT5 145 rfl rfl
set_option maxRecDepth 20000 in
theorem lk_1226 : Cond.static yL_most ∈ WSG := lkT5 146 rfl rfl
set_option maxRecDepth 20000 in
theorem lk_1227 : Cond.codeWith yL_most cL_most 4 (some .int) [(0, 9, 12, 13)] ∈ WSG := lkT5 147 rfl rfl
set_option maxRecDepth 20000 in
theorem lk_1228 : Cond.methodLink RL 40 yX11_most ∈ WSG := lkT5 148 rfl rfl
set_option maxRecDepth 20000 in
theorem lk_1229 : Cond.instanceMethod yX11_most ∈ WSG := lkT5 149 rfl rfl
set_option maxRecDepth 20000 in
theorem lk_1230 : Cond.selects RX11 yX11_most yX11_most ∈ WSG := lkT5 150 rfl rfl
set_option maxRecDepth 20000 in
theorem lk_1231 : Cond.code yX11_most cX11_most 4 (some .int) ∈ WSG := lkT5 151 rfl rfl
set_option maxRecDepth 20000 in
theorem lk_1241 : Cond.methodLink RL 189 yL_hearts ∈ WSG := lkT5 161 rfl rfl
set_option maxRecDepth 20000 in
theorem lk_1242 : Cond.static yL_hearts ∈ WSG := lkT5 162 rfl rfl
set_option maxRecDepth 20000 in
theorem lk_1243 : Cond.codeWith yL_hearts cL_hearts 5 (some .int) [(0, 10, 13, 19), (0, 10, 17, 13)] ∈ WSG := lkT5 163 rfl rfl
set_option maxRecDepth 20000 in
theorem lk_1244 : Cond.methodLink RL 43 yX11_hearts ∈ WSG := lkT5 164 rfl rfl
set_option maxRecDepth 20000 in
theorem lk_1245 : Cond.instanceMethod yX11_hearts ∈ WSG := lkT5 165 rfl rfl
set_option maxRecDepth 20000 in
theorem lk_1246 : Cond.selects RX11 yX11_hearts yX11_hearts ∈ WSG := lkT5 166 rfl rfl
set_option maxRecDepth 20000 in
theorem lk_1247 : Cond.code yX11_hearts cX11_hearts 4 (some .int) ∈ WSG := lkT5 167 rfl rfl
set_option maxRecDepth 20000 in
theorem lk_1252 : Cond.methodLink RL 192 yL_follows ∈ WSG := lkT5 172 rfl rfl
set_option maxRecDepth 20000 in
theorem lk_1253 : Cond.static yL_follows ∈ WSG := lkT5 173 rfl rfl
set_option maxRecDepth 20000 in
theorem lk_1254 : Cond.codeWith yL_follows cL_follows 4 (some .int) [(0, 9, 12, 19), (0, 9, 15, 13)] ∈ WSG := lkT5 174 rfl rfl
set_option maxRecDepth 20000 in
theorem lk_1255 : Cond.methodLink RL 46 yX11_follows ∈ WSG := lkT5 175 rfl rfl
set_option maxRecDepth 20000 in
theorem lk_1256 : Cond.instanceMethod yX11_follows ∈ WSG := lkT5 176 rfl rfl
set_option maxRecDepth 20000 in
theorem lk_1257 : Cond.selects RX11 yX11_follows yX11_follows ∈ WSG := lkT5 177 rfl rfl
set_option maxRecDepth 20000 in
theorem lk_1258 : Cond.code yX11_follows cX11_follows 2 (some .int) ∈ WSG := lkT5 178 rfl rfl
set_option maxRecDepth 20000 in
theorem lk_1263 : Cond.methodLink RL 195 yL_sure ∈ WSG := lkT5 183 rfl rfl
set_option maxRecDepth 20000 in
theorem lk_1264 : Cond.static yL_sure ∈ WSG := lkT5 184 rfl rfl
set_option maxRecDepth 20000 in
theorem lk_1265 : Cond.codeWith yL_sure cL_sure 5 (some .int) [(0, 10, 13, 13)] ∈ WSG := lkT5 185 rfl rfl
set_option maxRecDepth 20000 in
theorem lk_1266 : Cond.methodLink RL 49 yX11_sure ∈ WSG := lkT5 186 rfl rfl
set_option maxRecDepth 20000 in
theorem lk_1267 : Cond.instanceMethod yX11_sure ∈ WSG := lkT5 187 rfl rfl
set_option maxRecDepth 20000 in
theorem lk_1268 : Cond.selects RX11 yX11_sure yX11_sure ∈ WSG := lkT5 188 rfl rfl
set_option maxRecDepth 20000 in
theorem lk_1269 : Cond.code yX11_sure cX11_sure 3 (some .int) ∈ WSG := lkT5 189 rfl rfl
set_option maxRecDepth 20000 in
theorem lk_1276 : Cond.methodLink RL 199 yL_expected ∈ WSG := lkT5 196 rfl rfl
set_option maxRecDepth 20000 in
theorem lk_1277 : Cond.static yL_expected ∈ WSG := lkT5 197 rfl rfl
set_option maxRecDepth 20000 in
theorem lk_1278 : Cond.codeWith yL_expected cL_expected 5 (some .int) [(0, 9, 12, 13)] ∈ WSG := lkT5 198 rfl rfl
set_option maxRecDepth 20000 in
theorem lk_1279 : Cond.methodLink RL 53 yX11_expected ∈ WSG := lkT5 199 rfl rfl
set_option maxRecDepth 20000 in
theorem lk_1280 : Cond.instanceMethod yX11_expected ∈ WSG := lkT5 200 rfl rfl
set_option maxRecDepth 20000 in
theorem lk_1281 : Cond.selects RX11 yX11_expected yX11_expected ∈ WSG := lkT5 201 rfl rfl
set_option maxRecDepth 20000 in
theorem lk_1282 : Cond.code yX11_expected cX11_expected 3 (some .long) ∈ WSG := lkT5 202 rfl rfl
set_option maxRecDepth 20000 in
theorem lk_1296 : Cond.methodLink RL 202 yL_bestChance ∈ WSG := lkT5 216 rfl rfl
set_option maxRecDepth 20000 in
theorem lk_1297 : Cond.static yL_bestChance ∈ WSG := lkT5 217 rfl rfl
set_option maxRecDepth 20000 in
theorem lk_1298 : Cond.codeWith yL_bestChance cL_bestChance 4 (some .int) [(0, 9, 12, 13)] ∈ WSG := lkT5 218 rfl rfl
set_option maxRecDepth 20000 in
theorem lk_1299 : Cond.methodLink RL 57 yX11_bestChance ∈ WSG := lkT5 219 rfl rfl
set_option maxRecDepth 20000 in
theorem lk_1300 : Cond.instanceMethod yX11_bestChance ∈ WSG := lkT5 220 rfl rfl
set_option maxRecDepth 20000 in
theorem lk_1301 : Cond.selects RX11 yX11_bestChance yX11_bestChance ∈ WSG := lkT5 221 rfl rfl
set_option maxRecDepth 20000 in
theorem lk_1302 : Cond.code yX11_bestChance cX11_bestChance 2 (some .int) ∈ WSG := lkT5 222 rfl rfl
set_option maxRecDepth 20000 in
theorem lk_1309 : Cond.methodLink RL 205 yL_served ∈ WSG := lkT5 229 rfl rfl
set_option maxRecDepth 20000 in
theorem lk_1310 : Cond.static yL_served ∈ WSG := lkT5 230 rfl rfl
set_option maxRecDepth 20000 in
theorem lk_1311 : Cond.codeWith yL_served cL_served 4 (some .int) [(0, 9, 12, 13)] ∈ WSG := lkT5 231 rfl rfl
set_option maxRecDepth 20000 in
theorem lk_1312 : Cond.methodLink RL 60 yX11_served ∈ WSG := lkT5 232 rfl rfl
set_option maxRecDepth 20000 in
theorem lk_1313 : Cond.instanceMethod yX11_served ∈ WSG := lkT5 233 rfl rfl
set_option maxRecDepth 20000 in
theorem lk_1314 : Cond.selects RX11 yX11_served yX11_served ∈ WSG := lkT5 234 rfl rfl
set_option maxRecDepth 20000 in
theorem lk_1315 : Cond.code yX11_served cX11_served 2 (some .int) ∈ WSG := lkT5 235 rfl rfl
set_option maxRecDepth 20000 in
theorem lk_1321 : Cond.methodLink RL 208 yL_share ∈ WSG := lkT6 1 rfl rfl
set_option maxRecDepth 20000 in
theorem lk_1322 : Cond.static yL_share ∈ WSG := lkT6 2 rfl rfl
set_option maxRecDepth 20000 in
theorem lk_1323 : Cond.codeWith yL_share cL_share 5 (some .int) [(0, 10, 13, 13)] ∈ WSG := lkT6 3 rfl rfl
set_option maxRecDepth 20000 in
theorem lk_1324 : Cond.methodLink RL 63 yX11_share ∈ WSG := lkT6 4 rfl rfl
set_option maxRecDepth 20000 in
theorem lk_1325 : Cond.instanceMethod yX11_share ∈ WSG := lkT6 5 rfl rfl
set_option maxRecDepth 20000 in
theorem lk_1326 : Cond.selects RX11 yX11_share yX11_share ∈ WSG := lkT6 6 rfl rfl
set_option maxRecDepth 20000 in
theorem lk_1327 : Cond.code yX11_share cX11_share 3 (some .int) ∈ WSG := lkT6 7 rfl rfl
set_option maxRecDepth 20000 in
theorem lk_1337 : Cond.methodLink RL 211 yL_gains ∈ WSG := lkT6 17 rfl rfl
set_option maxRecDepth 20000 in
theorem lk_1338 : Cond.static yL_gains ∈ WSG := lkT6 18 rfl rfl
set_option maxRecDepth 20000 in
theorem lk_1339 : Cond.codeWith yL_gains cL_gains 6 (some .int) [(0, 12, 15, 13)] ∈ WSG := lkT6 19 rfl rfl
set_option maxRecDepth 20000 in
theorem lk_1340 : Cond.methodLink RL 66 yX11_gains ∈ WSG := lkT6 20 rfl rfl
set_option maxRecDepth 20000 in
theorem lk_1341 : Cond.instanceMethod yX11_gains ∈ WSG := lkT6 21 rfl rfl
set_option maxRecDepth 20000 in
theorem lk_1342 : Cond.selects RX11 yX11_gains yX11_gains ∈ WSG := lkT6 22 rfl rfl
set_option maxRecDepth 20000 in
theorem lk_1343 : Cond.code yX11_gains cX11_gains 4 (some .int) ∈ WSG := lkT6 23 rfl rfl
set_option maxRecDepth 20000 in
theorem lk_1354 : Cond.methodLink RL 219 yL_wants ∈ WSG := lkT6 34 rfl rfl
set_option maxRecDepth 20000 in
theorem lk_1355 : Cond.static yL_wants ∈ WSG := lkT6 35 rfl rfl
set_option maxRecDepth 20000 in
theorem lk_1356 : Cond.codeWith yL_wants cL_wants 5 (some .int) [(0, 10, 13, 19), (0, 10, 17, 73), (0, 10, 21, 13)] ∈ WSG := lkT6 36 rfl rfl
set_option maxRecDepth 20000 in
theorem lk_1357 : Cond.classLink RL 73 "java/lang/IllegalStateException" ∈ WSG := lkT6 37 rfl rfl
set_option maxRecDepth 20000 in
theorem lk_1358 : Cond.methodLink RL 70 yX11_wants ∈ WSG := lkT6 38 rfl rfl
set_option maxRecDepth 20000 in
theorem lk_1359 : Cond.instanceMethod yX11_wants ∈ WSG := lkT6 39 rfl rfl
set_option maxRecDepth 20000 in
theorem lk_1360 : Cond.selects RX11 yX11_wants yX11_wants ∈ WSG := lkT6 40 rfl rfl
set_option maxRecDepth 20000 in
theorem lk_1361 : Cond.code yX11_wants cX11_wants 5 (some .int) ∈ WSG := lkT6 41 rfl rfl
set_option maxRecDepth 20000 in
theorem lk_1409 : Cond.methodLink RL 222 yL_readings ∈ WSG := lkT6 89 rfl rfl
set_option maxRecDepth 20000 in
theorem lk_1410 : Cond.static yL_readings ∈ WSG := lkT6 90 rfl rfl
set_option maxRecDepth 20000 in
theorem lk_1411 : Cond.codeWith yL_readings cL_readings 5 (some .int) [(0, 10, 13, 19), (0, 10, 17, 73), (0, 10, 21, 13)] ∈ WSG := lkT6 91 rfl rfl
set_option maxRecDepth 20000 in
theorem lk_1412 : Cond.methodLink RL 75 yX11_readings ∈ WSG := lkT6 92 rfl rfl
set_option maxRecDepth 20000 in
theorem lk_1413 : Cond.instanceMethod yX11_readings ∈ WSG := lkT6 93 rfl rfl
set_option maxRecDepth 20000 in
theorem lk_1414 : Cond.selects RX11 yX11_readings yX11_readings ∈ WSG := lkT6 94 rfl rfl
set_option maxRecDepth 20000 in
theorem lk_1415 : Cond.code yX11_readings cX11_readings 4 (some .int) ∈ WSG := lkT6 95 rfl rfl
set_option maxRecDepth 20000 in
theorem lk_1466 : Cond.methodLink RL 229 yL_thank ∈ WSG := lkT6 146 rfl rfl
set_option maxRecDepth 20000 in
theorem lk_1467 : Cond.static yL_thank ∈ WSG := lkT6 147 rfl rfl
set_option maxRecDepth 20000 in
theorem lk_1468 : Cond.codeWith yL_thank cL_thank 5 (some .int) [(0, 10, 13, 13)] ∈ WSG := lkT6 148 rfl rfl
set_option maxRecDepth 20000 in
theorem lk_1469 : Cond.methodLink RL 78 yX11_thank ∈ WSG := lkT6 149 rfl rfl
set_option maxRecDepth 20000 in
theorem lk_1470 : Cond.instanceMethod yX11_thank ∈ WSG := lkT6 150 rfl rfl
set_option maxRecDepth 20000 in
theorem lk_1471 : Cond.selects RX11 yX11_thank yX11_thank ∈ WSG := lkT6 151 rfl rfl
set_option maxRecDepth 20000 in
theorem lk_1472 : Cond.code yX11_thank cX11_thank 3 (some .int) ∈ WSG := lkT6 152 rfl rfl
set_option maxRecDepth 20000 in
theorem lk_1474 : Cond.methodLink RL 232 yL_owes ∈ WSG := lkT6 154 rfl rfl
set_option maxRecDepth 20000 in
theorem lk_1475 : Cond.static yL_owes ∈ WSG := lkT6 155 rfl rfl
set_option maxRecDepth 20000 in
theorem lk_1476 : Cond.codeWith yL_owes cL_owes 4 (some .int) [(0, 9, 12, 13)] ∈ WSG := lkT6 156 rfl rfl
set_option maxRecDepth 20000 in
theorem lk_1477 : Cond.methodLink RL 81 yX11_owes ∈ WSG := lkT6 157 rfl rfl
set_option maxRecDepth 20000 in
theorem lk_1478 : Cond.instanceMethod yX11_owes ∈ WSG := lkT6 158 rfl rfl
set_option maxRecDepth 20000 in
theorem lk_1479 : Cond.selects RX11 yX11_owes yX11_owes ∈ WSG := lkT6 159 rfl rfl
set_option maxRecDepth 20000 in
theorem lk_1480 : Cond.code yX11_owes cX11_owes 2 (some .int) ∈ WSG := lkT6 160 rfl rfl
set_option maxRecDepth 20000 in
theorem lk_1481 : Cond.methodLink RL 235 yL_withdraw ∈ WSG := lkT6 161 rfl rfl
set_option maxRecDepth 20000 in
theorem lk_1482 : Cond.static yL_withdraw ∈ WSG := lkT6 162 rfl rfl
set_option maxRecDepth 20000 in
theorem lk_1483 : Cond.codeWith yL_withdraw cL_withdraw 4 (some .int) [(0, 9, 12, 19), (0, 9, 15, 73)] ∈ WSG := lkT6 163 rfl rfl
set_option maxRecDepth 20000 in
theorem lk_1484 : Cond.methodLink RL 84 yX11_withdraw ∈ WSG := lkT6 164 rfl rfl
set_option maxRecDepth 20000 in
theorem lk_1485 : Cond.instanceMethod yX11_withdraw ∈ WSG := lkT6 165 rfl rfl
set_option maxRecDepth 20000 in
theorem lk_1486 : Cond.selects RX11 yX11_withdraw yX11_withdraw ∈ WSG := lkT6 166 rfl rfl
set_option maxRecDepth 20000 in
theorem lk_1487 : Cond.code yX11_withdraw cX11_withdraw 2 (some .int) ∈ WSG := lkT6 167 rfl rfl
set_option maxRecDepth 20000 in
theorem lk_1488 : Cond.methodLink RL 238 yL_again ∈ WSG := lkT6 168 rfl rfl
set_option maxRecDepth 20000 in
theorem lk_1489 : Cond.static yL_again ∈ WSG := lkT6 169 rfl rfl
set_option maxRecDepth 20000 in
theorem lk_1490 : Cond.codeWith yL_again cL_again 4 (some .int) [(0, 9, 12, 19), (0, 9, 15, 73)] ∈ WSG := lkT6 170 rfl rfl
set_option maxRecDepth 20000 in
theorem lk_1491 : Cond.methodLink RL 87 yX11_again ∈ WSG := lkT6 171 rfl rfl
set_option maxRecDepth 20000 in
theorem lk_1492 : Cond.instanceMethod yX11_again ∈ WSG := lkT6 172 rfl rfl
set_option maxRecDepth 20000 in
theorem lk_1493 : Cond.selects RX11 yX11_again yX11_again ∈ WSG := lkT6 173 rfl rfl
set_option maxRecDepth 20000 in
theorem lk_1494 : Cond.code yX11_again cX11_again 2 (some .int) ∈ WSG := lkT6 174 rfl rfl
set_option maxRecDepth 20000 in
theorem lk_1496 : Cond.methodLink RL 241 yL_undo ∈ WSG := lkT6 176 rfl rfl
set_option maxRecDepth 20000 in
theorem lk_1497 : Cond.static yL_undo ∈ WSG := lkT6 177 rfl rfl
set_option maxRecDepth 20000 in
theorem lk_1498 : Cond.codeWith yL_undo cL_undo 4 (some .int) [(0, 9, 12, 13)] ∈ WSG := lkT6 178 rfl rfl
set_option maxRecDepth 20000 in
theorem lk_1499 : Cond.methodLink RL 90 yX11_undo ∈ WSG := lkT6 179 rfl rfl
set_option maxRecDepth 20000 in
theorem lk_1500 : Cond.instanceMethod yX11_undo ∈ WSG := lkT6 180 rfl rfl
set_option maxRecDepth 20000 in
theorem lk_1501 : Cond.selects RX11 yX11_undo yX11_undo ∈ WSG := lkT6 181 rfl rfl
set_option maxRecDepth 20000 in
theorem lk_1502 : Cond.code yX11_undo cX11_undo 2 (some .int) ∈ WSG := lkT6 182 rfl rfl
set_option maxRecDepth 20000 in
theorem lk_1508 : Cond.methodLink RL 244 yL_judge ∈ WSG := lkT6 188 rfl rfl
set_option maxRecDepth 20000 in
theorem lk_1509 : Cond.static yL_judge ∈ WSG := lkT6 189 rfl rfl
set_option maxRecDepth 20000 in
theorem lk_1510 : Cond.codeWith yL_judge cL_judge 5 (some .int) [(0, 10, 13, 19), (0, 10, 17, 73), (0, 10, 21, 13)] ∈ WSG := lkT6 190 rfl rfl
set_option maxRecDepth 20000 in
theorem lk_1511 : Cond.methodLink RL 93 yX11_judge ∈ WSG := lkT6 191 rfl rfl
set_option maxRecDepth 20000 in
theorem lk_1512 : Cond.instanceMethod yX11_judge ∈ WSG := lkT6 192 rfl rfl
set_option maxRecDepth 20000 in
theorem lk_1513 : Cond.selects RX11 yX11_judge yX11_judge ∈ WSG := lkT6 193 rfl rfl
set_option maxRecDepth 20000 in
theorem lk_1514 : Cond.code yX11_judge cX11_judge 9 (some .int) ∈ WSG := lkT6 194 rfl rfl
set_option maxRecDepth 20000 in
theorem lk_1515 : Cond.methodLink RL 247 yL_perform ∈ WSG := lkT6 195 rfl rfl
set_option maxRecDepth 20000 in
theorem lk_1516 : Cond.static yL_perform ∈ WSG := lkT6 196 rfl rfl
set_option maxRecDepth 20000 in
theorem lk_1517 : Cond.codeWith yL_perform cL_perform 4 (some .int) [(0, 9, 12, 19), (0, 9, 15, 73)] ∈ WSG := lkT6 197 rfl rfl
set_option maxRecDepth 20000 in
theorem lk_1518 : Cond.methodLink RL 96 yX11_perform ∈ WSG := lkT6 198 rfl rfl
set_option maxRecDepth 20000 in
theorem lk_1519 : Cond.instanceMethod yX11_perform ∈ WSG := lkT6 199 rfl rfl
set_option maxRecDepth 20000 in
theorem lk_1520 : Cond.selects RX11 yX11_perform yX11_perform ∈ WSG := lkT6 200 rfl rfl
set_option maxRecDepth 20000 in
theorem lk_1521 : Cond.code yX11_perform cX11_perform 4 (some .int) ∈ WSG := lkT6 201 rfl rfl
set_option maxRecDepth 20000 in
theorem lk_1522 : Cond.methodLink RL 250 yL_season ∈ WSG := lkT6 202 rfl rfl
set_option maxRecDepth 20000 in
theorem lk_1523 : Cond.static yL_season ∈ WSG := lkT6 203 rfl rfl
set_option maxRecDepth 20000 in
theorem lk_1524 : Cond.codeWith yL_season cL_season 5 (some .int) [(0, 10, 13, 13), (0, 10, 17, 73)] ∈ WSG := lkT6 204 rfl rfl
set_option maxRecDepth 20000 in
theorem lk_1525 : Cond.methodLink RL 99 yX11_season ∈ WSG := lkT6 205 rfl rfl
set_option maxRecDepth 20000 in
theorem lk_1526 : Cond.instanceMethod yX11_season ∈ WSG := lkT6 206 rfl rfl
set_option maxRecDepth 20000 in
theorem lk_1527 : Cond.selects RX11 yX11_season yX11_season ∈ WSG := lkT6 207 rfl rfl
set_option maxRecDepth 20000 in
theorem lk_1528 : Cond.code yX11_season cX11_season 9 (some .int) ∈ WSG := lkT6 208 rfl rfl
set_option maxRecDepth 20000 in
theorem lk_1534 : Cond.methodLink RL 253 yL_holding ∈ WSG := lkT6 214 rfl rfl
set_option maxRecDepth 20000 in
theorem lk_1535 : Cond.static yL_holding ∈ WSG := lkT6 215 rfl rfl
set_option maxRecDepth 20000 in
theorem lk_1536 : Cond.codeWith yL_holding cL_holding 6 (some .int) [(0, 11, 14, 19), (0, 11, 18, 73), (0, 11, 22, 13)] ∈ WSG := lkT6 216 rfl rfl
set_option maxRecDepth 20000 in
theorem lk_1537 : Cond.methodLink RL 102 yX11_holding ∈ WSG := lkT6 217 rfl rfl
set_option maxRecDepth 20000 in
theorem lk_1538 : Cond.instanceMethod yX11_holding ∈ WSG := lkT6 218 rfl rfl
set_option maxRecDepth 20000 in
theorem lk_1539 : Cond.selects RX11 yX11_holding yX11_holding ∈ WSG := lkT6 219 rfl rfl
set_option maxRecDepth 20000 in
theorem lk_1540 : Cond.code yX11_holding cX11_holding 4 (some .long) ∈ WSG := lkT6 220 rfl rfl
set_option maxRecDepth 20000 in
theorem lk_1567 : Cond.methodLink RL 256 yL_grants ∈ WSG := lkT7 7 rfl rfl
set_option maxRecDepth 20000 in
theorem lk_1568 : Cond.static yL_grants ∈ WSG := lkT7 8 rfl rfl
set_option maxRecDepth 20000 in
theorem lk_1569 : Cond.codeWith yL_grants cL_grants 6 (some .int) [(0, 12, 15, 19), (0, 12, 19, 73), (0, 12, 23, 13)] ∈ WSG := lkT7 9 rfl rfl
set_option maxRecDepth 20000 in
theorem lk_1570 : Cond.methodLink RL 106 yX11_grants ∈ WSG := lkT7 10 rfl rfl
set_option maxRecDepth 20000 in
theorem lk_1571 : Cond.instanceMethod yX11_grants ∈ WSG := lkT7 11 rfl rfl
set_option maxRecDepth 20000 in
theorem lk_1572 : Cond.selects RX11 yX11_grants yX11_grants ∈ WSG := lkT7 12 rfl rfl
set_option maxRecDepth 20000 in
theorem lk_1573 : Cond.code yX11_grants cX11_grants 4 (some .int) ∈ WSG := lkT7 13 rfl rfl
set_option maxRecDepth 20000 in
theorem lk_1578 : Cond.methodLink RL 259 yL_tray ∈ WSG := lkT7 18 rfl rfl
set_option maxRecDepth 20000 in
theorem lk_1579 : Cond.static yL_tray ∈ WSG := lkT7 19 rfl rfl
set_option maxRecDepth 20000 in
theorem lk_1580 : Cond.codeWith yL_tray cL_tray 5 (some .int) [(0, 7, 10, 19), (0, 7, 14, 13)] ∈ WSG := lkT7 20 rfl rfl
set_option maxRecDepth 20000 in
theorem lk_1581 : Cond.methodLink RL 109 yX11_tray ∈ WSG := lkT7 21 rfl rfl
set_option maxRecDepth 20000 in
theorem lk_1582 : Cond.instanceMethod yX11_tray ∈ WSG := lkT7 22 rfl rfl
set_option maxRecDepth 20000 in
theorem lk_1583 : Cond.selects RX11 yX11_tray yX11_tray ∈ WSG := lkT7 23 rfl rfl
set_option maxRecDepth 20000 in
theorem lk_1584 : Cond.code yX11_tray cX11_tray 4 none ∈ WSG := lkT7 24 rfl rfl
set_option maxRecDepth 20000 in
theorem lk_1593 : Cond.methodLink RL 265 yL_write ∈ WSG := lkT7 33 rfl rfl
set_option maxRecDepth 20000 in
theorem lk_1594 : Cond.static yL_write ∈ WSG := lkT7 34 rfl rfl
set_option maxRecDepth 20000 in
theorem lk_1595 : Cond.codeWith yL_write cL_write 7 (some .int) [(0, 11, 14, 19), (0, 11, 18, 73), (0, 11, 22, 117)] ∈ WSG := lkT7 35 rfl rfl
set_option maxRecDepth 20000 in
theorem lk_1596 : Cond.classLink RL 117 "java/lang/IndexOutOfBoundsException" ∈ WSG := lkT7 36 rfl rfl
set_option maxRecDepth 20000 in
theorem lk_1597 : Cond.methodLink RL 113 yX11_write ∈ WSG := lkT7 37 rfl rfl
set_option maxRecDepth 20000 in
theorem lk_1598 : Cond.instanceMethod yX11_write ∈ WSG := lkT7 38 rfl rfl
set_option maxRecDepth 20000 in
theorem lk_1599 : Cond.selects RX11 yX11_write yX11_write ∈ WSG := lkT7 39 rfl rfl
set_option maxRecDepth 20000 in
theorem lk_1600 : Cond.code yX11_write cX11_write 6 (some .long) ∈ WSG := lkT7 40 rfl rfl
set_option maxRecDepth 20000 in
theorem lk_1621 : Cond.methodLink RL 269 yL_pour ∈ WSG := lkT7 61 rfl rfl
set_option maxRecDepth 20000 in
theorem lk_1622 : Cond.static yL_pour ∈ WSG := lkT7 62 rfl rfl
set_option maxRecDepth 20000 in
theorem lk_1623 : Cond.codeWith yL_pour cL_pour 4 (some .int) [(0, 9, 12, 19), (0, 9, 15, 73)] ∈ WSG := lkT7 63 rfl rfl
set_option maxRecDepth 20000 in
theorem lk_1624 : Cond.methodLink RL 119 yX11_pour ∈ WSG := lkT7 64 rfl rfl
set_option maxRecDepth 20000 in
theorem lk_1625 : Cond.instanceMethod yX11_pour ∈ WSG := lkT7 65 rfl rfl
set_option maxRecDepth 20000 in
theorem lk_1626 : Cond.selects RX11 yX11_pour yX11_pour ∈ WSG := lkT7 66 rfl rfl
set_option maxRecDepth 20000 in
theorem lk_1627 : Cond.code yX11_pour cX11_pour 6 (some .int) ∈ WSG := lkT7 67 rfl rfl
set_option maxRecDepth 20000 in
theorem lk_1629 : Cond.methodLink RL 272 yL_image ∈ WSG := lkT7 69 rfl rfl
set_option maxRecDepth 20000 in
theorem lk_1630 : Cond.static yL_image ∈ WSG := lkT7 70 rfl rfl
set_option maxRecDepth 20000 in
theorem lk_1631 : Cond.codeWith yL_image cL_image 3 (some .int) [(0, 5, 8, 19)] ∈ WSG := lkT7 71 rfl rfl
set_option maxRecDepth 20000 in
theorem lk_1632 : Cond.methodLink RL 122 yX11_image ∈ WSG := lkT7 72 rfl rfl
set_option maxRecDepth 20000 in
theorem lk_1633 : Cond.instanceMethod yX11_image ∈ WSG := lkT7 73 rfl rfl
set_option maxRecDepth 20000 in
theorem lk_1634 : Cond.selects RX11 yX11_image yX11_image ∈ WSG := lkT7 74 rfl rfl
set_option maxRecDepth 20000 in
theorem lk_1635 : Cond.code yX11_image cX11_image 2 none ∈ WSG := lkT7 75 rfl rfl
set_option maxRecDepth 20000 in
theorem lk_1645 : Cond.methodLink RL 276 yL_restore ∈ WSG := lkT7 85 rfl rfl
set_option maxRecDepth 20000 in
theorem lk_1646 : Cond.static yL_restore ∈ WSG := lkT7 86 rfl rfl
set_option maxRecDepth 20000 in
theorem lk_1647 : Cond.codeWith yL_restore cL_restore 3 (some .int) [(0, 5, 8, 19), (0, 5, 11, 73)] ∈ WSG := lkT7 87 rfl rfl
set_option maxRecDepth 20000 in
theorem lk_1648 : Cond.methodLink RL 126 yX11_restore ∈ WSG := lkT7 88 rfl rfl
set_option maxRecDepth 20000 in
theorem lk_1649 : Cond.instanceMethod yX11_restore ∈ WSG := lkT7 89 rfl rfl
set_option maxRecDepth 20000 in
theorem lk_1650 : Cond.selects RX11 yX11_restore yX11_restore ∈ WSG := lkT7 90 rfl rfl
set_option maxRecDepth 20000 in
theorem lk_1651 : Cond.code yX11_restore cX11_restore 2 none ∈ WSG := lkT7 91 rfl rfl
set_option maxRecDepth 20000 in
theorem lk_1820 : Cond.methodLink RL 144 yX12_thrown ∈ WSG := lkT8 20 rfl rfl
set_option maxRecDepth 20000 in
theorem lk_1821 : Cond.instanceMethod yX12_thrown ∈ WSG := lkT8 21 rfl rfl
set_option maxRecDepth 20000 in
theorem lk_1822 : Cond.selects RX12 yX12_thrown yX12_thrown ∈ WSG := lkT8 22 rfl rfl
set_option maxRecDepth 20000 in
theorem lk_1823 : Cond.code yX12_thrown cX12_thrown 1 (some .int) ∈ WSG := lkT8 23 rfl rfl
set_option maxRecDepth 20000 in
theorem lk_1824 : Cond.methodLink RL 137 yX12_feed ∈ WSG := lkT8 24 rfl rfl
set_option maxRecDepth 20000 in
theorem lk_1825 : Cond.instanceMethod yX12_feed ∈ WSG := lkT8 25 rfl rfl
set_option maxRecDepth 20000 in
theorem lk_1826 : Cond.selects RX12 yX12_feed yX12_feed ∈ WSG := lkT8 26 rfl rfl
set_option maxRecDepth 20000 in
theorem lk_1827 : Cond.code yX12_feed cX12_feed 8 (some .int) ∈ WSG := lkT8 27 rfl rfl
set_option maxRecDepth 20000 in
theorem lk_1828 : Cond.methodLink RL 143 yX12_sky ∈ WSG := lkT8 28 rfl rfl
set_option maxRecDepth 20000 in
theorem lk_1829 : Cond.instanceMethod yX12_sky ∈ WSG := lkT8 29 rfl rfl
set_option maxRecDepth 20000 in
theorem lk_1830 : Cond.selects RX12 yX12_sky yX12_sky ∈ WSG := lkT8 30 rfl rfl
set_option maxRecDepth 20000 in
theorem lk_1831 : Cond.code yX12_sky cX12_sky 3 (some .int) ∈ WSG := lkT8 31 rfl rfl
set_option maxRecDepth 20000 in
theorem lk_1945 : Cond.methodLink RL 151 yX12_fault ∈ WSG := lkT8 145 rfl rfl
set_option maxRecDepth 20000 in
theorem lk_1946 : Cond.instanceMethod yX12_fault ∈ WSG := lkT8 146 rfl rfl
set_option maxRecDepth 20000 in
theorem lk_1947 : Cond.selects RX12 yX12_fault yX12_fault ∈ WSG := lkT8 147 rfl rfl
set_option maxRecDepth 20000 in
theorem lk_1948 : Cond.code yX12_fault cX12_fault 2 (some .int) ∈ WSG := lkT8 148 rfl rfl
set_option maxRecDepth 20000 in
theorem lk_1949 : Cond.methodLink RL 155 yX12_wish ∈ WSG := lkT8 149 rfl rfl
set_option maxRecDepth 20000 in
theorem lk_1950 : Cond.instanceMethod yX12_wish ∈ WSG := lkT8 150 rfl rfl
set_option maxRecDepth 20000 in
theorem lk_1951 : Cond.selects RX12 yX12_wish yX12_wish ∈ WSG := lkT8 151 rfl rfl
set_option maxRecDepth 20000 in
theorem lk_1952 : Cond.code yX12_wish cX12_wish 5 (some .int) ∈ WSG := lkT8 152 rfl rfl
set_option maxRecDepth 20000 in
theorem lk_1966 : Cond.methodLink RL 158 yX12_weather ∈ WSG := lkT8 166 rfl rfl
set_option maxRecDepth 20000 in
theorem lk_1967 : Cond.instanceMethod yX12_weather ∈ WSG := lkT8 167 rfl rfl
set_option maxRecDepth 20000 in
theorem lk_1968 : Cond.selects RX12 yX12_weather yX12_weather ∈ WSG := lkT8 168 rfl rfl
set_option maxRecDepth 20000 in
theorem lk_1969 : Cond.code yX12_weather cX12_weather 2 (some .int) ∈ WSG := lkT8 169 rfl rfl
set_option maxRecDepth 20000 in
theorem lk_1974 : Cond.methodLink RL 161 yX12_holds ∈ WSG := lkT8 174 rfl rfl
set_option maxRecDepth 20000 in
theorem lk_1975 : Cond.instanceMethod yX12_holds ∈ WSG := lkT8 175 rfl rfl
set_option maxRecDepth 20000 in
theorem lk_1976 : Cond.selects RX12 yX12_holds yX12_holds ∈ WSG := lkT8 176 rfl rfl
set_option maxRecDepth 20000 in
theorem lk_1977 : Cond.code yX12_holds cX12_holds 3 (some .boolean) ∈ WSG := lkT8 177 rfl rfl
set_option maxRecDepth 20000 in
theorem lk_1978 : Cond.methodLink RL 165 yX12_why ∈ WSG := lkT8 178 rfl rfl
set_option maxRecDepth 20000 in
theorem lk_1979 : Cond.instanceMethod yX12_why ∈ WSG := lkT8 179 rfl rfl
set_option maxRecDepth 20000 in
theorem lk_1980 : Cond.selects RX12 yX12_why yX12_why ∈ WSG := lkT8 180 rfl rfl
set_option maxRecDepth 20000 in
theorem lk_1981 : Cond.code yX12_why cX12_why 2 (some .int) ∈ WSG := lkT8 181 rfl rfl
set_option maxRecDepth 20000 in
theorem lk_1994 : Cond.methodLink RL 168 yX12_granted ∈ WSG := lkT8 194 rfl rfl
set_option maxRecDepth 20000 in
theorem lk_1995 : Cond.instanceMethod yX12_granted ∈ WSG := lkT8 195 rfl rfl
set_option maxRecDepth 20000 in
theorem lk_1996 : Cond.selects RX12 yX12_granted yX12_granted ∈ WSG := lkT8 196 rfl rfl
set_option maxRecDepth 20000 in
theorem lk_1997 : Cond.code yX12_granted cX12_granted 2 (some .int) ∈ WSG := lkT8 197 rfl rfl
set_option maxRecDepth 20000 in
theorem lk_1998 : Cond.methodLink RL 172 yX12_plans ∈ WSG := lkT8 198 rfl rfl
set_option maxRecDepth 20000 in
theorem lk_1999 : Cond.instanceMethod yX12_plans ∈ WSG := lkT8 199 rfl rfl
set_option maxRecDepth 20000 in
theorem lk_2000 : Cond.selects RX12 yX12_plans yX12_plans ∈ WSG := lkT8 200 rfl rfl
set_option maxRecDepth 20000 in
theorem lk_2001 : Cond.code yX12_plans cX12_plans 3 (some .int) ∈ WSG := lkT8 201 rfl rfl
set_option maxRecDepth 20000 in
theorem lk_2002 : Cond.methodLink RL 175 yX12_together ∈ WSG := lkT8 202 rfl rfl
set_option maxRecDepth 20000 in
theorem lk_2003 : Cond.instanceMethod yX12_together ∈ WSG := lkT8 203 rfl rfl
set_option maxRecDepth 20000 in
theorem lk_2004 : Cond.selects RX12 yX12_together yX12_together ∈ WSG := lkT8 204 rfl rfl
set_option maxRecDepth 20000 in
theorem lk_2005 : Cond.code yX12_together cX12_together 2 (some .int) ∈ WSG := lkT8 205 rfl rfl
set_option maxRecDepth 20000 in
theorem lk_2018 : Cond.methodLink RL 178 yX12_quarrel ∈ WSG := lkT8 218 rfl rfl
set_option maxRecDepth 20000 in
theorem lk_2019 : Cond.instanceMethod yX12_quarrel ∈ WSG := lkT8 219 rfl rfl
set_option maxRecDepth 20000 in
theorem lk_2020 : Cond.selects RX12 yX12_quarrel yX12_quarrel ∈ WSG := lkT8 220 rfl rfl
set_option maxRecDepth 20000 in
theorem lk_2021 : Cond.code yX12_quarrel cX12_quarrel 4 (some .int) ∈ WSG := lkT8 221 rfl rfl
set_option maxRecDepth 20000 in
theorem lk_2022 : Cond.methodLink RL 181 yX12_foes ∈ WSG := lkT8 222 rfl rfl
set_option maxRecDepth 20000 in
theorem lk_2023 : Cond.instanceMethod yX12_foes ∈ WSG := lkT8 223 rfl rfl
set_option maxRecDepth 20000 in
theorem lk_2024 : Cond.selects RX12 yX12_foes yX12_foes ∈ WSG := lkT8 224 rfl rfl
set_option maxRecDepth 20000 in
theorem lk_2025 : Cond.code yX12_foes cX12_foes 4 (some .int) ∈ WSG := lkT8 225 rfl rfl
set_option maxRecDepth 20000 in
theorem lk_2030 : Cond.methodLink RL 184 yX12_most ∈ WSG := lkT8 230 rfl rfl
set_option maxRecDepth 20000 in
theorem lk_2031 : Cond.instanceMethod yX12_most ∈ WSG := lkT8 231 rfl rfl
set_option maxRecDepth 20000 in
theorem lk_2032 : Cond.selects RX12 yX12_most yX12_most ∈ WSG := lkT8 232 rfl rfl
set_option maxRecDepth 20000 in
theorem lk_2033 : Cond.code yX12_most cX12_most 5 (some .int) ∈ WSG := lkT8 233 rfl rfl
set_option maxRecDepth 20000 in
theorem lk_2039 : Cond.methodLink RL 188 yX12_nights ∈ WSG := lkT8 239 rfl rfl
set_option maxRecDepth 20000 in
theorem lk_2040 : Cond.instanceMethod yX12_nights ∈ WSG := lkT9 0 rfl rfl
set_option maxRecDepth 20000 in
theorem lk_2041 : Cond.selects RX12 yX12_nights yX12_nights ∈ WSG := lkT9 1 rfl rfl
set_option maxRecDepth 20000 in
theorem lk_2042 : Cond.code yX12_nights cX12_nights 5 (some .int) ∈ WSG := lkT9 2 rfl rfl
set_option maxRecDepth 20000 in
theorem lk_2043 : Cond.methodLink RL 191 yX12_hearts ∈ WSG := lkT9 3 rfl rfl
set_option maxRecDepth 20000 in
theorem lk_2044 : Cond.instanceMethod yX12_hearts ∈ WSG := lkT9 4 rfl rfl
set_option maxRecDepth 20000 in
theorem lk_2045 : Cond.selects RX12 yX12_hearts yX12_hearts ∈ WSG := lkT9 5 rfl rfl
set_option maxRecDepth 20000 in
theorem lk_2046 : Cond.code yX12_hearts cX12_hearts 4 (some .int) ∈ WSG := lkT9 6 rfl rfl
set_option maxRecDepth 20000 in
theorem lk_2051 : Cond.methodLink RL 194 yX12_follows ∈ WSG := lkT9 11 rfl rfl
set_option maxRecDepth 20000 in
theorem lk_2052 : Cond.instanceMethod yX12_follows ∈ WSG := lkT9 12 rfl rfl
set_option maxRecDepth 20000 in
theorem lk_2053 : Cond.selects RX12 yX12_follows yX12_follows ∈ WSG := lkT9 13 rfl rfl
set_option maxRecDepth 20000 in
theorem lk_2054 : Cond.code yX12_follows cX12_follows 4 (some .int) ∈ WSG := lkT9 14 rfl rfl
set_option maxRecDepth 20000 in
theorem lk_2055 : Cond.methodLink RL 198 yX12_sure ∈ WSG := lkT9 15 rfl rfl
set_option maxRecDepth 20000 in
theorem lk_2056 : Cond.instanceMethod yX12_sure ∈ WSG := lkT9 16 rfl rfl
set_option maxRecDepth 20000 in
theorem lk_2057 : Cond.selects RX12 yX12_sure yX12_sure ∈ WSG := lkT9 17 rfl rfl
set_option maxRecDepth 20000 in
theorem lk_2058 : Cond.code yX12_sure cX12_sure 5 (some .int) ∈ WSG := lkT9 18 rfl rfl
set_option maxRecDepth 20000 in
theorem lk_2059 : Cond.methodLink RL 201 yX12_expected ∈ WSG := lkT9 19 rfl rfl
set_option maxRecDepth 20000 in
theorem lk_2060 : Cond.instanceMethod yX12_expected ∈ WSG := lkT9 20 rfl rfl
set_option maxRecDepth 20000 in
theorem lk_2061 : Cond.selects RX12 yX12_expected yX12_expected ∈ WSG := lkT9 21 rfl rfl
set_option maxRecDepth 20000 in
theorem lk_2062 : Cond.code yX12_expected cX12_expected 3 (some .long) ∈ WSG := lkT9 22 rfl rfl
set_option maxRecDepth 20000 in
theorem lk_2071 : Cond.methodLink RL 204 yX12_bestChance ∈ WSG := lkT9 31 rfl rfl
set_option maxRecDepth 20000 in
theorem lk_2072 : Cond.instanceMethod yX12_bestChance ∈ WSG := lkT9 32 rfl rfl
set_option maxRecDepth 20000 in
theorem lk_2073 : Cond.selects RX12 yX12_bestChance yX12_bestChance ∈ WSG := lkT9 33 rfl rfl
set_option maxRecDepth 20000 in
theorem lk_2074 : Cond.code yX12_bestChance cX12_bestChance 8 (some .int) ∈ WSG := lkT9 34 rfl rfl
set_option maxRecDepth 20000 in
theorem lk_2075 : Cond.methodLink RL 207 yX12_served ∈ WSG := lkT9 35 rfl rfl
set_option maxRecDepth 20000 in
theorem lk_2076 : Cond.instanceMethod yX12_served ∈ WSG := lkT9 36 rfl rfl
set_option maxRecDepth 20000 in
theorem lk_2077 : Cond.selects RX12 yX12_served yX12_served ∈ WSG := lkT9 37 rfl rfl
set_option maxRecDepth 20000 in
theorem lk_2078 : Cond.code yX12_served cX12_served 2 (some .int) ∈ WSG := lkT9 38 rfl rfl
set_option maxRecDepth 20000 in
theorem lk_2099 : Cond.methodLink RL 210 yX12_share ∈ WSG := lkT9 59 rfl rfl
set_option maxRecDepth 20000 in
theorem lk_2100 : Cond.instanceMethod yX12_share ∈ WSG := lkT9 60 rfl rfl
set_option maxRecDepth 20000 in
theorem lk_2101 : Cond.selects RX12 yX12_share yX12_share ∈ WSG := lkT9 61 rfl rfl
set_option maxRecDepth 20000 in
theorem lk_2102 : Cond.code yX12_share cX12_share 3 (some .int) ∈ WSG := lkT9 62 rfl rfl
set_option maxRecDepth 20000 in
theorem lk_2110 : Cond.methodLink RL 214 yX12_gains ∈ WSG := lkT9 70 rfl rfl
set_option maxRecDepth 20000 in
theorem lk_2111 : Cond.instanceMethod yX12_gains ∈ WSG := lkT9 71 rfl rfl
set_option maxRecDepth 20000 in
theorem lk_2112 : Cond.selects RX12 yX12_gains yX12_gains ∈ WSG := lkT9 72 rfl rfl
set_option maxRecDepth 20000 in
theorem lk_2113 : Cond.code yX12_gains cX12_gains 9 (some .int) ∈ WSG := lkT9 73 rfl rfl
set_option maxRecDepth 20000 in
theorem lk_2118 : Cond.methodLink RL 218 yX12_bestRule ∈ WSG := lkT9 78 rfl rfl
set_option maxRecDepth 20000 in
theorem lk_2119 : Cond.instanceMethod yX12_bestRule ∈ WSG := lkT9 79 rfl rfl
set_option maxRecDepth 20000 in
theorem lk_2120 : Cond.selects RX12 yX12_bestRule yX12_bestRule ∈ WSG := lkT9 80 rfl rfl
set_option maxRecDepth 20000 in
theorem lk_2121 : Cond.code yX12_bestRule cX12_bestRule 3 (some .int) ∈ WSG := lkT9 81 rfl rfl
set_option maxRecDepth 20000 in
theorem lk_2122 : Cond.methodLink RL 221 yX12_wants ∈ WSG := lkT9 82 rfl rfl
set_option maxRecDepth 20000 in
theorem lk_2123 : Cond.instanceMethod yX12_wants ∈ WSG := lkT9 83 rfl rfl
set_option maxRecDepth 20000 in
theorem lk_2124 : Cond.selects RX12 yX12_wants yX12_wants ∈ WSG := lkT9 84 rfl rfl
set_option maxRecDepth 20000 in
theorem lk_2125 : Cond.code yX12_wants cX12_wants 4 (some .int) ∈ WSG := lkT9 85 rfl rfl
set_option maxRecDepth 20000 in
theorem lk_2150 : Cond.methodLink RL 224 yX12_readings ∈ WSG := lkT9 110 rfl rfl
set_option maxRecDepth 20000 in
theorem lk_2151 : Cond.instanceMethod yX12_readings ∈ WSG := lkT9 111 rfl rfl
set_option maxRecDepth 20000 in
theorem lk_2152 : Cond.selects RX12 yX12_readings yX12_readings ∈ WSG := lkT9 112 rfl rfl
set_option maxRecDepth 20000 in
theorem lk_2153 : Cond.code yX12_readings cX12_readings 9 (some .int) ∈ WSG := lkT9 113 rfl rfl
set_option maxRecDepth 20000 in
theorem lk_2183 : Cond.methodLink RL 228 yX12_night ∈ WSG := lkT9 143 rfl rfl
set_option maxRecDepth 20000 in
theorem lk_2184 : Cond.instanceMethod yX12_night ∈ WSG := lkT9 144 rfl rfl
set_option maxRecDepth 20000 in
theorem lk_2185 : Cond.selects RX12 yX12_night yX12_night ∈ WSG := lkT9 145 rfl rfl
set_option maxRecDepth 20000 in
theorem lk_2186 : Cond.code yX12_night cX12_night 3 (some .int) ∈ WSG := lkT9 146 rfl rfl
set_option maxRecDepth 20000 in
theorem lk_2195 : Cond.methodLink RL 231 yX12_thank ∈ WSG := lkT9 155 rfl rfl
set_option maxRecDepth 20000 in
theorem lk_2196 : Cond.instanceMethod yX12_thank ∈ WSG := lkT9 156 rfl rfl
set_option maxRecDepth 20000 in
theorem lk_2197 : Cond.selects RX12 yX12_thank yX12_thank ∈ WSG := lkT9 157 rfl rfl
set_option maxRecDepth 20000 in
theorem lk_2198 : Cond.code yX12_thank cX12_thank 3 (some .int) ∈ WSG := lkT9 158 rfl rfl
set_option maxRecDepth 20000 in
theorem lk_2200 : Cond.methodLink RL 234 yX12_owes ∈ WSG := lkT9 160 rfl rfl
set_option maxRecDepth 20000 in
theorem lk_2201 : Cond.instanceMethod yX12_owes ∈ WSG := lkT9 161 rfl rfl
set_option maxRecDepth 20000 in
theorem lk_2202 : Cond.selects RX12 yX12_owes yX12_owes ∈ WSG := lkT9 162 rfl rfl
set_option maxRecDepth 20000 in
theorem lk_2203 : Cond.code yX12_owes cX12_owes 2 (some .int) ∈ WSG := lkT9 163 rfl rfl
set_option maxRecDepth 20000 in
theorem lk_2204 : Cond.methodLink RL 237 yX12_withdraw ∈ WSG := lkT9 164 rfl rfl
set_option maxRecDepth 20000 in
theorem lk_2205 : Cond.instanceMethod yX12_withdraw ∈ WSG := lkT9 165 rfl rfl
set_option maxRecDepth 20000 in
theorem lk_2206 : Cond.selects RX12 yX12_withdraw yX12_withdraw ∈ WSG := lkT9 166 rfl rfl
set_option maxRecDepth 20000 in
theorem lk_2207 : Cond.code yX12_withdraw cX12_withdraw 2 (some .int) ∈ WSG := lkT9 167 rfl rfl
set_option maxRecDepth 20000 in
theorem lk_2208 : Cond.methodLink RL 240 yX12_again ∈ WSG := lkT9 168 rfl rfl
set_option maxRecDepth 20000 in
theorem lk_2209 : Cond.instanceMethod yX12_again ∈ WSG := lkT9 169 rfl rfl
set_option maxRecDepth 20000 in
theorem lk_2210 : Cond.selects RX12 yX12_again yX12_again ∈ WSG := lkT9 170 rfl rfl
set_option maxRecDepth 20000 in
theorem lk_2211 : Cond.code yX12_again cX12_again 2 (some .int) ∈ WSG := lkT9 171 rfl rfl
set_option maxRecDepth 20000 in
theorem lk_2212 : Cond.methodLink RL 243 yX12_undo ∈ WSG := lkT9 172 rfl rfl
set_option maxRecDepth 20000 in
theorem lk_2213 : Cond.instanceMethod yX12_undo ∈ WSG := lkT9 173 rfl rfl
set_option maxRecDepth 20000 in
theorem lk_2214 : Cond.selects RX12 yX12_undo yX12_undo ∈ WSG := lkT9 174 rfl rfl
set_option maxRecDepth 20000 in
theorem lk_2215 : Cond.code yX12_undo cX12_undo 3 (some .int) ∈ WSG := lkT9 175 rfl rfl
set_option maxRecDepth 20000 in
theorem lk_2216 : Cond.methodLink RL 246 yX12_judge ∈ WSG := lkT9 176 rfl rfl
set_option maxRecDepth 20000 in
theorem lk_2217 : Cond.instanceMethod yX12_judge ∈ WSG := lkT9 177 rfl rfl
set_option maxRecDepth 20000 in
theorem lk_2218 : Cond.selects RX12 yX12_judge yX12_judge ∈ WSG := lkT9 178 rfl rfl
set_option maxRecDepth 20000 in
theorem lk_2219 : Cond.code yX12_judge cX12_judge 8 (some .int) ∈ WSG := lkT9 179 rfl rfl
set_option maxRecDepth 20000 in
theorem lk_2220 : Cond.methodLink RL 249 yX12_perform ∈ WSG := lkT9 180 rfl rfl
set_option maxRecDepth 20000 in
theorem lk_2221 : Cond.instanceMethod yX12_perform ∈ WSG := lkT9 181 rfl rfl
set_option maxRecDepth 20000 in
theorem lk_2222 : Cond.selects RX12 yX12_perform yX12_perform ∈ WSG := lkT9 182 rfl rfl
set_option maxRecDepth 20000 in
theorem lk_2223 : Cond.code yX12_perform cX12_perform 3 (some .int) ∈ WSG := lkT9 183 rfl rfl
set_option maxRecDepth 20000 in
theorem lk_2224 : Cond.methodLink RL 252 yX12_season ∈ WSG := lkT9 184 rfl rfl
set_option maxRecDepth 20000 in
theorem lk_2225 : Cond.instanceMethod yX12_season ∈ WSG := lkT9 185 rfl rfl
set_option maxRecDepth 20000 in
theorem lk_2226 : Cond.selects RX12 yX12_season yX12_season ∈ WSG := lkT9 186 rfl rfl
set_option maxRecDepth 20000 in
theorem lk_2227 : Cond.code yX12_season cX12_season 7 (some .int) ∈ WSG := lkT9 187 rfl rfl
set_option maxRecDepth 20000 in
theorem lk_2234 : Cond.methodLink RL 255 yX12_holding ∈ WSG := lkT9 194 rfl rfl
set_option maxRecDepth 20000 in
theorem lk_2235 : Cond.instanceMethod yX12_holding ∈ WSG := lkT9 195 rfl rfl
set_option maxRecDepth 20000 in
theorem lk_2236 : Cond.selects RX12 yX12_holding yX12_holding ∈ WSG := lkT9 196 rfl rfl
set_option maxRecDepth 20000 in
theorem lk_2237 : Cond.code yX12_holding cX12_holding 4 (some .long) ∈ WSG := lkT9 197 rfl rfl
set_option maxRecDepth 20000 in
theorem lk_2251 : Cond.methodLink RL 258 yX12_grants ∈ WSG := lkT9 211 rfl rfl
set_option maxRecDepth 20000 in
theorem lk_2252 : Cond.instanceMethod yX12_grants ∈ WSG := lkT9 212 rfl rfl
set_option maxRecDepth 20000 in
theorem lk_2253 : Cond.selects RX12 yX12_grants yX12_grants ∈ WSG := lkT9 213 rfl rfl
set_option maxRecDepth 20000 in
theorem lk_2254 : Cond.code yX12_grants cX12_grants 9 (some .int) ∈ WSG := lkT9 214 rfl rfl
set_option maxRecDepth 20000 in
theorem lk_2256 : Cond.methodLink RL 262 yX12_tray ∈ WSG := lkT9 216 rfl rfl
set_option maxRecDepth 20000 in
theorem lk_2257 : Cond.instanceMethod yX12_tray ∈ WSG := lkT9 217 rfl rfl
set_option maxRecDepth 20000 in
theorem lk_2258 : Cond.selects RX12 yX12_tray yX12_tray ∈ WSG := lkT9 218 rfl rfl
set_option maxRecDepth 20000 in
theorem lk_2259 : Cond.code yX12_tray cX12_tray 5 none ∈ WSG := lkT9 219 rfl rfl
set_option maxRecDepth 20000 in
theorem lk_2260 : Cond.methodLink RL 268 yX12_write ∈ WSG := lkT9 220 rfl rfl
set_option maxRecDepth 20000 in
theorem lk_2261 : Cond.instanceMethod yX12_write ∈ WSG := lkT9 221 rfl rfl
set_option maxRecDepth 20000 in
theorem lk_2262 : Cond.selects RX12 yX12_write yX12_write ∈ WSG := lkT9 222 rfl rfl
set_option maxRecDepth 20000 in
theorem lk_2263 : Cond.code yX12_write cX12_write 5 (some .long) ∈ WSG := lkT9 223 rfl rfl
set_option maxRecDepth 20000 in
theorem lk_2268 : Cond.methodLink RL 271 yX12_pour ∈ WSG := lkT9 228 rfl rfl
set_option maxRecDepth 20000 in
theorem lk_2269 : Cond.instanceMethod yX12_pour ∈ WSG := lkT9 229 rfl rfl
set_option maxRecDepth 20000 in
theorem lk_2270 : Cond.selects RX12 yX12_pour yX12_pour ∈ WSG := lkT9 230 rfl rfl
set_option maxRecDepth 20000 in
theorem lk_2271 : Cond.code yX12_pour cX12_pour 4 (some .int) ∈ WSG := lkT9 231 rfl rfl
set_option maxRecDepth 20000 in
theorem lk_2272 : Cond.methodLink RL 275 yX12_image ∈ WSG := lkT9 232 rfl rfl
set_option maxRecDepth 20000 in
theorem lk_2273 : Cond.instanceMethod yX12_image ∈ WSG := lkT9 233 rfl rfl
set_option maxRecDepth 20000 in
theorem lk_2274 : Cond.selects RX12 yX12_image yX12_image ∈ WSG := lkT9 234 rfl rfl
set_option maxRecDepth 20000 in
theorem lk_2275 : Cond.code yX12_image cX12_image 3 none ∈ WSG := lkT9 235 rfl rfl
set_option maxRecDepth 20000 in
theorem lk_2276 : Cond.methodLink RL 278 yX12_restore ∈ WSG := lkT9 236 rfl rfl
set_option maxRecDepth 20000 in
theorem lk_2277 : Cond.instanceMethod yX12_restore ∈ WSG := lkT9 237 rfl rfl
set_option maxRecDepth 20000 in
theorem lk_2278 : Cond.selects RX12 yX12_restore yX12_restore ∈ WSG := lkT9 238 rfl rfl
set_option maxRecDepth 20000 in
theorem lk_2279 : Cond.code yX12_restore cX12_restore 3 none ∈ WSG := lkT9 239 rfl rfl
set_option maxRecDepth 20000 in
theorem lk_2280 : Cond.methodLink RL 282 yX12_count ∈ WSG := lkT10 0 rfl rfl
set_option maxRecDepth 20000 in
theorem lk_2281 : Cond.instanceMethod yX12_count ∈ WSG := lkT10 1 rfl rfl
set_option maxRecDepth 20000 in
theorem lk_2282 : Cond.selects RX12 yX12_count yX12_count ∈ WSG := lkT10 2 rfl rfl
set_option maxRecDepth 20000 in
theorem lk_2283 : Cond.code yX12_count cX12_count 4 (some .int) ∈ WSG := lkT10 3 rfl rfl
set_option maxRecDepth 20000 in
theorem lk_2284 : Cond.constantLong RL 263 (4294967295 : Int64) ∈ WSG := lkT10 4 rfl rfl
theorem kx0 : (kd 0).1 = 11 := by decide +kernel
theorem km0 : (kd 152).1 = 12 := by decide +kernel
def pgL_sky : List (Nat × Instr × Nat) := [(0, .aload_n 2, 1), (1, .iconst 0, 1), (2, .aload_n 0, 1), (3, .iload_n 1, 1), (4, .invokevirtual 7, 3), (7, .i2l, 1), (8, .lastore, 1), (9, .goto 6, 3), (12, .astore_n 3, 1), (13, .iconst 1, 1), (14, .ireturn, 1), (15, .iconst 0, 1), (16, .ireturn, 1)]
theorem dkL_sky : ∀ q ∈ pgL_sky, decode cL_sky q.1 = .ok q.2 := by decide +kernel
abbrev hs_L_sky : List (Nat × Int32) := [(0, 1)]
theorem cat_L_sky : ∀ q ∈ hs_L_sky, CatchOk RL cL_sky [(0, 9, 12, 13)] 4 4 q := by
  intro q hq
  simp only [hs_L_sky, List.mem_cons, List.not_mem_nil, or_false] at hq
  rcases hq with rfl
  · refine ⟨[], ⟨0, 9, 12, 13⟩, [], rfl, ?_, by decide, by decide, lk_774, by decide, 3, 13, 1, Or.inl ⟨3, dkL_sky (12, .astore_n 3, 1) (pgm 8 rfl), rfl, rfl⟩, by decide, dkL_sky (13, .iconst 1, 1) (pgm 9 rfl), by decide, dkL_sky (14, .ireturn, 1) (pgm 10 rfl)⟩
    intro z hz
    cases hz
def f_L_sky (a1 : Int32) (h0 : PH) : Option (Int32 × PH) :=
  cbc (f_X11_sky 0 a1 h0) (fun (r1 : Int32) (h2 : PH) => lt (pL h2 NC 0 r1.toInt64) (fun (h3 : PH) => some ((0 : Int32), h3))) hs_L_sky
set_option maxRecDepth 100000 in
set_option maxHeartbeats 4000000 in
theorem ct_L_sky (l : Launch) (hlt : l.stackTraces = false) (a1 : Int32) (h0 : PH) : CTw l yL_sky cL_sky 4 (some .int) [(0, 9, 12, 13)] (rmx 11 3 18) 3 18 [.ref 0, .int a1, .ref NC] h0 (f_L_sky a1 h0) := by
  refine ctw_of (by decide) (Nat.le_of_ble_eq_true rfl) ?_
  intro p e s m args below meth c D cA ad A X hnc hr hlk htab
  have X : Cx p s m args c RL cL_sky 4 D cA ad A := X
  unfold f_L_sky
  refine so_pick (L' := [(0, .ref 0), (1, .int a1), (2, .ref NC)]) X [0, 1, 2] rfl ?_
  refine so_aload_n (i := 2) X 2 (dkL_sky (0, .aload_n 2, 1) (pgm 0 rfl)) rfl rfl ?_
  refine so_iconst (v := (0 : Int32)) X (dkL_sky (1, .iconst 0, 1) (pgm 1 rfl)) ic_0 ?_
  refine so_aload_n (i := 0) X 0 (dkL_sky (2, .aload_n 0, 1) (pgm 2 rfl)) rfl rfl ?_
  refine so_iload_n (i := 1) X 1 (dkL_sky (3, .iload_n 1, 1) (pgm 3 rfl)) rfl rfl ?_
  refine so_callC (n := 1) (As := [.int a1]) X hr hlk htab cat_L_sky (ct_X11_sky l hlt 0 a1 h0 kx0) kx0 (by decide) rfl lk_775 lk_776 lk_777 lk_121 lk_778 (by decide +kernel) rfl rfl rfl ⟨Nat.le_of_ble_eq_true rfl, Nat.le_of_ble_eq_true rfl⟩ ⟨Nat.le_of_ble_eq_true rfl, Nat.le_of_ble_eq_true rfl⟩ ⟨Nat.le_of_ble_eq_true rfl, Nat.le_of_ble_eq_true rfl⟩ (by decide) (dkL_sky (4, .invokevirtual 7, 3) (pgm 4 rfl)) (fun r1 h2 => ?_) rfl
  refine so_i2l X (dkL_sky (7, .i2l, 1) (pgm 5 rfl)) ?_
  refine so_outSt X hnc (dkL_sky (8, .lastore, 1) (pgm 6 rfl)) (fun h3 => ?_)
  refine so_goto (tgt := 15) X (dkL_sky (9, .goto 6, 3) (pgm 7 rfl)) rfl ?_
  refine so_iconst (v := (0 : Int32)) X (dkL_sky (15, .iconst 0, 1) (pgm 11 rfl)) ic_0 ?_
  exact so_iretW X hr hlk (Nat.le_of_ble_eq_true rfl) (Nat.le_of_ble_eq_true rfl) (dkL_sky (16, .ireturn, 1) (pgm 12 rfl))
def pgL_wish : List (Nat × Instr × Nat) := [(0, .aload_n 3, 1), (1, .iconst 0, 1), (2, .aload_n 0, 1), (3, .iload_n 1, 1), (4, .iload_n 2, 1), (5, .invokevirtual 15, 3), (8, .i2l, 1), (9, .lastore, 1), (10, .goto 11, 3), (13, .astore 4, 2), (15, .iconst 1, 1), (16, .ireturn, 1), (17, .astore 4, 2), (19, .iconst 2, 1), (20, .ireturn, 1), (21, .iconst 0, 1), (22, .ireturn, 1)]
theorem dkL_wish : ∀ q ∈ pgL_wish, decode cL_wish q.1 = .ok q.2 := by decide +kernel
abbrev hs_L_wish : List (Nat × Int32) := [(1, 1), (0, 2)]
theorem cat_L_wish : ∀ q ∈ hs_L_wish, CatchOk RL cL_wish [(0, 10, 13, 19), (0, 10, 17, 13)] 5 5 q := by
  intro q hq
  simp only [hs_L_wish, List.mem_cons, List.not_mem_nil, or_false] at hq
  rcases hq with rfl | rfl
  · refine ⟨[], ⟨0, 10, 13, 19⟩, [⟨0, 10, 17, 13⟩], rfl, ?_, by decide, by decide, lk_1127, by decide, 4, 15, 1, Or.inr ⟨dkL_wish (13, .astore 4, 2) (pgm 9 rfl), rfl⟩, by decide, dkL_wish (15, .iconst 1, 1) (pgm 10 rfl), by decide, dkL_wish (16, .ireturn, 1) (pgm 11 rfl)⟩
    intro z hz
    cases hz
  · refine ⟨[⟨0, 10, 13, 19⟩], ⟨0, 10, 17, 13⟩, [], rfl, ?_, by decide, by decide, lk_774, by decide, 4, 19, 2, Or.inr ⟨dkL_wish (17, .astore 4, 2) (pgm 12 rfl), rfl⟩, by decide, dkL_wish (19, .iconst 2, 1) (pgm 13 rfl), by decide, dkL_wish (20, .ireturn, 1) (pgm 14 rfl)⟩
    intro z hz
    simp only [List.mem_cons, List.not_mem_nil, or_false] at hz
    rcases hz with rfl
    · exact ⟨by decide, _, lk_1127, by decide⟩
def f_L_wish (a1 : Int32) (a2 : Int32) (h0 : PH) : Option (Int32 × PH) :=
  cbc (f_X11_wish 0 a1 a2 h0) (fun (r1 : Int32) (h2 : PH) => lt (pL h2 NC 0 r1.toInt64) (fun (h3 : PH) => some ((0 : Int32), h3))) hs_L_wish
set_option maxRecDepth 100000 in
set_option maxHeartbeats 4000000 in
theorem ct_L_wish (l : Launch) (hlt : l.stackTraces = false) (a1 : Int32) (a2 : Int32) (h0 : PH) : CTw l yL_wish cL_wish 5 (some .int) [(0, 10, 13, 19), (0, 10, 17, 13)] (rmx 11 3 18) 3 18 [.ref 0, .int a1, .int a2, .ref NC] h0 (f_L_wish a1 a2 h0) := by
  refine ctw_of (by decide) (Nat.le_of_ble_eq_true rfl) ?_
  intro p e s m args below meth c D cA ad A X hnc hr hlk htab
  have X : Cx p s m args c RL cL_wish 5 D cA ad A := X
  unfold f_L_wish
  refine so_pick (L' := [(0, .ref 0), (1, .int a1), (2, .int a2), (3, .ref NC)]) X [0, 1, 2, 3] rfl ?_
  refine so_aload_n (i := 3) X 3 (dkL_wish (0, .aload_n 3, 1) (pgm 0 rfl)) rfl rfl ?_
  refine so_iconst (v := (0 : Int32)) X (dkL_wish (1, .iconst 0, 1) (pgm 1 rfl)) ic_0 ?_
  refine so_aload_n (i := 0) X 0 (dkL_wish (2, .aload_n 0, 1) (pgm 2 rfl)) rfl rfl ?_
  refine so_iload_n (i := 1) X 1 (dkL_wish (3, .iload_n 1, 1) (pgm 3 rfl)) rfl rfl ?_
  refine so_iload_n (i := 2) X 2 (dkL_wish (4, .iload_n 2, 1) (pgm 4 rfl)) rfl rfl ?_
  refine so_callC (n := 2) (As := [.int a1, .int a2]) X hr hlk htab cat_L_wish (ct_X11_wish l hlt 0 a1 a2 h0 kx0) kx0 (by decide) rfl lk_1128 lk_1129 lk_1130 lk_121 lk_1131 (by decide +kernel) rfl rfl rfl ⟨Nat.le_of_ble_eq_true rfl, Nat.le_of_ble_eq_true rfl⟩ ⟨Nat.le_of_ble_eq_true rfl, Nat.le_of_ble_eq_true rfl⟩ ⟨Nat.le_of_ble_eq_true rfl, Nat.le_of_ble_eq_true rfl⟩ (by decide) (dkL_wish (5, .invokevirtual 15, 3) (pgm 5 rfl)) (fun r1 h2 => ?_) rfl
  refine so_i2l X (dkL_wish (8, .i2l, 1) (pgm 6 rfl)) ?_
  refine so_outSt X hnc (dkL_wish (9, .lastore, 1) (pgm 7 rfl)) (fun h3 => ?_)
  refine so_goto (tgt := 21) X (dkL_wish (10, .goto 11, 3) (pgm 8 rfl)) rfl ?_
  refine so_iconst (v := (0 : Int32)) X (dkL_wish (21, .iconst 0, 1) (pgm 15 rfl)) ic_0 ?_
  exact so_iretW X hr hlk (Nat.le_of_ble_eq_true rfl) (Nat.le_of_ble_eq_true rfl) (dkL_wish (22, .ireturn, 1) (pgm 16 rfl))
def pgL_weather : List (Nat × Instr × Nat) := [(0, .aload_n 2, 1), (1, .iconst 0, 1), (2, .aload_n 0, 1), (3, .iload_n 1, 1), (4, .invokevirtual 21, 3), (7, .i2l, 1), (8, .lastore, 1), (9, .goto 6, 3), (12, .astore_n 3, 1), (13, .iconst 1, 1), (14, .ireturn, 1), (15, .iconst 0, 1), (16, .ireturn, 1)]
theorem dkL_weather : ∀ q ∈ pgL_weather, decode cL_weather q.1 = .ok q.2 := by decide +kernel
abbrev hs_L_weather : List (Nat × Int32) := [(0, 1)]
theorem cat_L_weather : ∀ q ∈ hs_L_weather, CatchOk RL cL_weather [(0, 9, 12, 13)] 4 4 q := by
  intro q hq
  simp only [hs_L_weather, List.mem_cons, List.not_mem_nil, or_false] at hq
  rcases hq with rfl
  · refine ⟨[], ⟨0, 9, 12, 13⟩, [], rfl, ?_, by decide, by decide, lk_774, by decide, 3, 13, 1, Or.inl ⟨3, dkL_weather (12, .astore_n 3, 1) (pgm 8 rfl), rfl, rfl⟩, by decide, dkL_weather (13, .iconst 1, 1) (pgm 9 rfl), by decide, dkL_weather (14, .ireturn, 1) (pgm 10 rfl)⟩
    intro z hz
    cases hz
def f_L_weather (a1 : Int32) (h0 : PH) : Option (Int32 × PH) :=
  cbc (f_X11_weather 0 a1 h0) (fun (r1 : Int32) (h2 : PH) => lt (pL h2 NC 0 r1.toInt64) (fun (h3 : PH) => some ((0 : Int32), h3))) hs_L_weather
set_option maxRecDepth 100000 in
set_option maxHeartbeats 4000000 in
theorem ct_L_weather (l : Launch) (hlt : l.stackTraces = false) (a1 : Int32) (h0 : PH) : CTw l yL_weather cL_weather 4 (some .int) [(0, 9, 12, 13)] (rmx 11 3 18) 3 18 [.ref 0, .int a1, .ref NC] h0 (f_L_weather a1 h0) := by
  refine ctw_of (by decide) (Nat.le_of_ble_eq_true rfl) ?_
  intro p e s m args below meth c D cA ad A X hnc hr hlk htab
  have X : Cx p s m args c RL cL_weather 4 D cA ad A := X
  unfold f_L_weather
  refine so_pick (L' := [(0, .ref 0), (1, .int a1), (2, .ref NC)]) X [0, 1, 2] rfl ?_
  refine so_aload_n (i := 2) X 2 (dkL_weather (0, .aload_n 2, 1) (pgm 0 rfl)) rfl rfl ?_
  refine so_iconst (v := (0 : Int32)) X (dkL_weather (1, .iconst 0, 1) (pgm 1 rfl)) ic_0 ?_
  refine so_aload_n (i := 0) X 0 (dkL_weather (2, .aload_n 0, 1) (pgm 2 rfl)) rfl rfl ?_
  refine so_iload_n (i := 1) X 1 (dkL_weather (3, .iload_n 1, 1) (pgm 3 rfl)) rfl rfl ?_
  refine so_callC (n := 1) (As := [.int a1]) X hr hlk htab cat_L_weather (ct_X11_weather l hlt 0 a1 h0 kx0) kx0 (by decide) rfl lk_1160 lk_1161 lk_1162 lk_121 lk_1163 (by decide +kernel) rfl rfl rfl ⟨Nat.le_of_ble_eq_true rfl, Nat.le_of_ble_eq_true rfl⟩ ⟨Nat.le_of_ble_eq_true rfl, Nat.le_of_ble_eq_true rfl⟩ ⟨Nat.le_of_ble_eq_true rfl, Nat.le_of_ble_eq_true rfl⟩ (by decide) (dkL_weather (4, .invokevirtual 21, 3) (pgm 4 rfl)) (fun r1 h2 => ?_) rfl
  refine so_i2l X (dkL_weather (7, .i2l, 1) (pgm 5 rfl)) ?_
  refine so_outSt X hnc (dkL_weather (8, .lastore, 1) (pgm 6 rfl)) (fun h3 => ?_)
  refine so_goto (tgt := 15) X (dkL_weather (9, .goto 6, 3) (pgm 7 rfl)) rfl ?_
  refine so_iconst (v := (0 : Int32)) X (dkL_weather (15, .iconst 0, 1) (pgm 11 rfl)) ic_0 ?_
  exact so_iretW X hr hlk (Nat.le_of_ble_eq_true rfl) (Nat.le_of_ble_eq_true rfl) (dkL_weather (16, .ireturn, 1) (pgm 12 rfl))
def pgL_holds : List (Nat × Instr × Nat) := [(0, .aload_n 3, 1), (1, .iconst 0, 1), (2, .aload_n 0, 1), (3, .iload_n 1, 1), (4, .iload_n 2, 1), (5, .invokevirtual 24, 3), (8, .ifCond .eq 7, 3), (11, .lconst 1, 1), (12, .goto 4, 3), (15, .lconst 0, 1), (16, .lastore, 1), (17, .goto 11, 3), (20, .astore 4, 2), (22, .iconst 1, 1), (23, .ireturn, 1), (24, .astore 4, 2), (26, .iconst 2, 1), (27, .ireturn, 1), (28, .iconst 0, 1), (29, .ireturn, 1)]
theorem dkL_holds : ∀ q ∈ pgL_holds, decode cL_holds q.1 = .ok q.2 := by decide +kernel
abbrev hs_L_holds : List (Nat × Int32) := [(1, 1), (0, 2)]
theorem cat_L_holds : ∀ q ∈ hs_L_holds, CatchOk RL cL_holds [(0, 17, 20, 19), (0, 17, 24, 13)] 5 5 q := by
  intro q hq
  simp only [hs_L_holds, List.mem_cons, List.not_mem_nil, or_false] at hq
  rcases hq with rfl | rfl
  · refine ⟨[], ⟨0, 17, 20, 19⟩, [⟨0, 17, 24, 13⟩], rfl, ?_, by decide, by decide, lk_1127, by decide, 4, 22, 1, Or.inr ⟨dkL_holds (20, .astore 4, 2) (pgm 12 rfl), rfl⟩, by decide, dkL_holds (22, .iconst 1, 1) (pgm 13 rfl), by decide, dkL_holds (23, .ireturn, 1) (pgm 14 rfl)⟩
    intro z hz
    cases hz
  · refine ⟨[⟨0, 17, 20, 19⟩], ⟨0, 17, 24, 13⟩, [], rfl, ?_, by decide, by decide, lk_774, by decide, 4, 26, 2, Or.inr ⟨dkL_holds (24, .astore 4, 2) (pgm 15 rfl), rfl⟩, by decide, dkL_holds (26, .iconst 2, 1) (pgm 16 rfl), by decide, dkL_holds (27, .ireturn, 1) (pgm 17 rfl)⟩
    intro z hz
    simp only [List.mem_cons, List.not_mem_nil, or_false] at hz
    rcases hz with rfl
    · exact ⟨by decide, _, lk_1127, by decide⟩
def f_L_holds (a1 : Int32) (a2 : Int32) (h0 : PH) : Option (Int32 × PH) :=
  cbc (f_X11_holds 0 a1 a2 h0) (fun (r1 : Int32) (h2 : PH) => lt (fun (t3 : Int64) (h4 : PH) => lt (pL h4 NC 0 t3) (fun (h5 : PH) => some ((0 : Int32), h5))) (fun (j16 : Int64 → PH → Option (Int32 × PH)) => if r1 = 0 then (j16 (0 : Int64) h2) else (j16 (1 : Int64) h2))) hs_L_holds
set_option maxRecDepth 100000 in
set_option maxHeartbeats 4000000 in
theorem ct_L_holds (l : Launch) (hlt : l.stackTraces = false) (a1 : Int32) (a2 : Int32) (h0 : PH) : CTw l yL_holds cL_holds 5 (some .int) [(0, 17, 20, 19), (0, 17, 24, 13)] (rmx 11 3 18) 3 18 [.ref 0, .int a1, .int a2, .ref NC] h0 (f_L_holds a1 a2 h0) := by
  refine ctw_of (by decide) (Nat.le_of_ble_eq_true rfl) ?_
  intro p e s m args below meth c D cA ad A X hnc hr hlk htab
  have X : Cx p s m args c RL cL_holds 5 D cA ad A := X
  unfold f_L_holds
  refine so_pick (L' := [(0, .ref 0), (1, .int a1), (2, .int a2), (3, .ref NC)]) X [0, 1, 2, 3] rfl ?_
  refine so_aload_n (i := 3) X 3 (dkL_holds (0, .aload_n 3, 1) (pgm 0 rfl)) rfl rfl ?_
  refine so_iconst (v := (0 : Int32)) X (dkL_holds (1, .iconst 0, 1) (pgm 1 rfl)) ic_0 ?_
  refine so_aload_n (i := 0) X 0 (dkL_holds (2, .aload_n 0, 1) (pgm 2 rfl)) rfl rfl ?_
  refine so_iload_n (i := 1) X 1 (dkL_holds (3, .iload_n 1, 1) (pgm 3 rfl)) rfl rfl ?_
  refine so_iload_n (i := 2) X 2 (dkL_holds (4, .iload_n 2, 1) (pgm 4 rfl)) rfl rfl ?_
  refine so_callC (n := 2) (As := [.int a1, .int a2]) X hr hlk htab cat_L_holds (ct_X11_holds l hlt 0 a1 a2 h0 kx0) kx0 (by decide) rfl lk_1173 lk_1174 lk_1175 lk_121 lk_1176 (by decide +kernel) rfl rfl rfl ⟨Nat.le_of_ble_eq_true rfl, Nat.le_of_ble_eq_true rfl⟩ ⟨Nat.le_of_ble_eq_true rfl, Nat.le_of_ble_eq_true rfl⟩ ⟨Nat.le_of_ble_eq_true rfl, Nat.le_of_ble_eq_true rfl⟩ (by decide) (dkL_holds (5, .invokevirtual 24, 3) (pgm 5 rfl)) (fun r1 h2 => ?_) rfl
  refine so_join (jf := fun (t3 : Int64) (h4 : PH) => lt (pL h4 NC 0 t3) (fun (h5 : PH) => some ((0 : Int32), h5))) (fun (j : Int64 → PH → Option (Int32 × PH)) => ∀ (t3 : Int64) (h4 : PH), SWo (QW below args s D cA ad A 3 18) p l e (rmx 11 3 18) s m args below meth c 2 12 5 D cA ad A 16 [] [.long t3, .int (0 : Int32), .ref NC] h4 (j t3 h4)) ?_ (fun j16 hj16 => ?_)
  · intro t3 h4
    refine so_outSt X hnc (dkL_holds (16, .lastore, 1) (pgm 10 rfl)) (fun h5 => ?_)
    refine so_goto (tgt := 28) X (dkL_holds (17, .goto 11, 3) (pgm 11 rfl)) rfl ?_
    refine so_iconst (v := (0 : Int32)) X (dkL_holds (28, .iconst 0, 1) (pgm 18 rfl)) ic_0 ?_
    exact so_iretW X hr hlk (Nat.le_of_ble_eq_true rfl) (Nat.le_of_ble_eq_true rfl) (dkL_holds (29, .ireturn, 1) (pgm 19 rfl))
  refine so_if_eq (tgt := 15) X (dkL_holds (8, .ifCond .eq 7, 3) (pgm 6 rfl)) rfl (fun _ => ?_) (fun _ => ?_)
  · refine so_lconst (v := (0 : Int64)) X (dkL_holds (15, .lconst 0, 1) (pgm 9 rfl)) lc_0 ?_
    exact so_pick X [] rfl (hj16 (0 : Int64) h2)
  · refine so_lconst (v := (1 : Int64)) X (dkL_holds (11, .lconst 1, 1) (pgm 7 rfl)) lc_1 ?_
    refine so_goto (tgt := 16) X (dkL_holds (12, .goto 4, 3) (pgm 8 rfl)) rfl ?_
    exact so_pick X [] rfl (hj16 (1 : Int64) h2)
def pgL_granted : List (Nat × Instr × Nat) := [(0, .aload_n 2, 1), (1, .iconst 0, 1), (2, .aload_n 0, 1), (3, .iload_n 1, 1), (4, .invokevirtual 28, 3), (7, .i2l, 1), (8, .lastore, 1), (9, .goto 6, 3), (12, .astore_n 3, 1), (13, .iconst 1, 1), (14, .ireturn, 1), (15, .iconst 0, 1), (16, .ireturn, 1)]
theorem dkL_granted : ∀ q ∈ pgL_granted, decode cL_granted q.1 = .ok q.2 := by decide +kernel
abbrev hs_L_granted : List (Nat × Int32) := [(0, 1)]
theorem cat_L_granted : ∀ q ∈ hs_L_granted, CatchOk RL cL_granted [(0, 9, 12, 13)] 4 4 q := by
  intro q hq
  simp only [hs_L_granted, List.mem_cons, List.not_mem_nil, or_false] at hq
  rcases hq with rfl
  · refine ⟨[], ⟨0, 9, 12, 13⟩, [], rfl, ?_, by decide, by decide, lk_774, by decide, 3, 13, 1, Or.inl ⟨3, dkL_granted (12, .astore_n 3, 1) (pgm 8 rfl), rfl, rfl⟩, by decide, dkL_granted (13, .iconst 1, 1) (pgm 9 rfl), by decide, dkL_granted (14, .ireturn, 1) (pgm 10 rfl)⟩
    intro z hz
    cases hz
def f_L_granted (a1 : Int32) (h0 : PH) : Option (Int32 × PH) :=
  cbc (f_X11_granted 0 a1 h0) (fun (r1 : Int32) (h2 : PH) => lt (pL h2 NC 0 r1.toInt64) (fun (h3 : PH) => some ((0 : Int32), h3))) hs_L_granted
set_option maxRecDepth 100000 in
set_option maxHeartbeats 4000000 in
theorem ct_L_granted (l : Launch) (hlt : l.stackTraces = false) (a1 : Int32) (h0 : PH) : CTw l yL_granted cL_granted 4 (some .int) [(0, 9, 12, 13)] (rmx 11 3 18) 3 18 [.ref 0, .int a1, .ref NC] h0 (f_L_granted a1 h0) := by
  refine ctw_of (by decide) (Nat.le_of_ble_eq_true rfl) ?_
  intro p e s m args below meth c D cA ad A X hnc hr hlk htab
  have X : Cx p s m args c RL cL_granted 4 D cA ad A := X
  unfold f_L_granted
  refine so_pick (L' := [(0, .ref 0), (1, .int a1), (2, .ref NC)]) X [0, 1, 2] rfl ?_
  refine so_aload_n (i := 2) X 2 (dkL_granted (0, .aload_n 2, 1) (pgm 0 rfl)) rfl rfl ?_
  refine so_iconst (v := (0 : Int32)) X (dkL_granted (1, .iconst 0, 1) (pgm 1 rfl)) ic_0 ?_
  refine so_aload_n (i := 0) X 0 (dkL_granted (2, .aload_n 0, 1) (pgm 2 rfl)) rfl rfl ?_
  refine so_iload_n (i := 1) X 1 (dkL_granted (3, .iload_n 1, 1) (pgm 3 rfl)) rfl rfl ?_
  refine so_callC (n := 1) (As := [.int a1]) X hr hlk htab cat_L_granted (ct_X11_granted l hlt 0 a1 h0 kx0) kx0 (by decide) rfl lk_1181 lk_1182 lk_1183 lk_121 lk_1184 (by decide +kernel) rfl rfl rfl ⟨Nat.le_of_ble_eq_true rfl, Nat.le_of_ble_eq_true rfl⟩ ⟨Nat.le_of_ble_eq_true rfl, Nat.le_of_ble_eq_true rfl⟩ ⟨Nat.le_of_ble_eq_true rfl, Nat.le_of_ble_eq_true rfl⟩ (by decide) (dkL_granted (4, .invokevirtual 28, 3) (pgm 4 rfl)) (fun r1 h2 => ?_) rfl
  refine so_i2l X (dkL_granted (7, .i2l, 1) (pgm 5 rfl)) ?_
  refine so_outSt X hnc (dkL_granted (8, .lastore, 1) (pgm 6 rfl)) (fun h3 => ?_)
  refine so_goto (tgt := 15) X (dkL_granted (9, .goto 6, 3) (pgm 7 rfl)) rfl ?_
  refine so_iconst (v := (0 : Int32)) X (dkL_granted (15, .iconst 0, 1) (pgm 11 rfl)) ic_0 ?_
  exact so_iretW X hr hlk (Nat.le_of_ble_eq_true rfl) (Nat.le_of_ble_eq_true rfl) (dkL_granted (16, .ireturn, 1) (pgm 12 rfl))
def pgL_together : List (Nat × Instr × Nat) := [(0, .aload_n 2, 1), (1, .iconst 0, 1), (2, .aload_n 0, 1), (3, .iload_n 1, 1), (4, .invokevirtual 31, 3), (7, .i2l, 1), (8, .lastore, 1), (9, .goto 6, 3), (12, .astore_n 3, 1), (13, .iconst 1, 1), (14, .ireturn, 1), (15, .iconst 0, 1), (16, .ireturn, 1)]
theorem dkL_together : ∀ q ∈ pgL_together, decode cL_together q.1 = .ok q.2 := by decide +kernel
abbrev hs_L_together : List (Nat × Int32) := [(0, 1)]
theorem cat_L_together : ∀ q ∈ hs_L_together, CatchOk RL cL_together [(0, 9, 12, 13)] 4 4 q := by
  intro q hq
  simp only [hs_L_together, List.mem_cons, List.not_mem_nil, or_false] at hq
  rcases hq with rfl
  · refine ⟨[], ⟨0, 9, 12, 13⟩, [], rfl, ?_, by decide, by decide, lk_774, by decide, 3, 13, 1, Or.inl ⟨3, dkL_together (12, .astore_n 3, 1) (pgm 8 rfl), rfl, rfl⟩, by decide, dkL_together (13, .iconst 1, 1) (pgm 9 rfl), by decide, dkL_together (14, .ireturn, 1) (pgm 10 rfl)⟩
    intro z hz
    cases hz
def f_L_together (a1 : Int32) (h0 : PH) : Option (Int32 × PH) :=
  cbc (f_X11_together 0 a1 h0) (fun (r1 : Int32) (h2 : PH) => lt (pL h2 NC 0 r1.toInt64) (fun (h3 : PH) => some ((0 : Int32), h3))) hs_L_together
set_option maxRecDepth 100000 in
set_option maxHeartbeats 4000000 in
theorem ct_L_together (l : Launch) (hlt : l.stackTraces = false) (a1 : Int32) (h0 : PH) : CTw l yL_together cL_together 4 (some .int) [(0, 9, 12, 13)] (rmx 11 3 18) 3 18 [.ref 0, .int a1, .ref NC] h0 (f_L_together a1 h0) := by
  refine ctw_of (by decide) (Nat.le_of_ble_eq_true rfl) ?_
  intro p e s m args below meth c D cA ad A X hnc hr hlk htab
  have X : Cx p s m args c RL cL_together 4 D cA ad A := X
  unfold f_L_together
  refine so_pick (L' := [(0, .ref 0), (1, .int a1), (2, .ref NC)]) X [0, 1, 2] rfl ?_
  refine so_aload_n (i := 2) X 2 (dkL_together (0, .aload_n 2, 1) (pgm 0 rfl)) rfl rfl ?_
  refine so_iconst (v := (0 : Int32)) X (dkL_together (1, .iconst 0, 1) (pgm 1 rfl)) ic_0 ?_
  refine so_aload_n (i := 0) X 0 (dkL_together (2, .aload_n 0, 1) (pgm 2 rfl)) rfl rfl ?_
  refine so_iload_n (i := 1) X 1 (dkL_together (3, .iload_n 1, 1) (pgm 3 rfl)) rfl rfl ?_
  refine so_callC (n := 1) (As := [.int a1]) X hr hlk htab cat_L_together (ct_X11_together l hlt 0 a1 h0 kx0) kx0 (by decide) rfl lk_1188 lk_1189 lk_1190 lk_121 lk_1191 (by decide +kernel) rfl rfl rfl ⟨Nat.le_of_ble_eq_true rfl, Nat.le_of_ble_eq_true rfl⟩ ⟨Nat.le_of_ble_eq_true rfl, Nat.le_of_ble_eq_true rfl⟩ ⟨Nat.le_of_ble_eq_true rfl, Nat.le_of_ble_eq_true rfl⟩ (by decide) (dkL_together (4, .invokevirtual 31, 3) (pgm 4 rfl)) (fun r1 h2 => ?_) rfl
  refine so_i2l X (dkL_together (7, .i2l, 1) (pgm 5 rfl)) ?_
  refine so_outSt X hnc (dkL_together (8, .lastore, 1) (pgm 6 rfl)) (fun h3 => ?_)
  refine so_goto (tgt := 15) X (dkL_together (9, .goto 6, 3) (pgm 7 rfl)) rfl ?_
  refine so_iconst (v := (0 : Int32)) X (dkL_together (15, .iconst 0, 1) (pgm 11 rfl)) ic_0 ?_
  exact so_iretW X hr hlk (Nat.le_of_ble_eq_true rfl) (Nat.le_of_ble_eq_true rfl) (dkL_together (16, .ireturn, 1) (pgm 12 rfl))
def pgL_quarrel : List (Nat × Instr × Nat) := [(0, .aload_n 2, 1), (1, .iconst 0, 1), (2, .aload_n 0, 1), (3, .iload_n 1, 1), (4, .invokevirtual 34, 3), (7, .i2l, 1), (8, .lastore, 1), (9, .goto 6, 3), (12, .astore_n 3, 1), (13, .iconst 1, 1), (14, .ireturn, 1), (15, .iconst 0, 1), (16, .ireturn, 1)]
theorem dkL_quarrel : ∀ q ∈ pgL_quarrel, decode cL_quarrel q.1 = .ok q.2 := by decide +kernel
abbrev hs_L_quarrel : List (Nat × Int32) := [(0, 1)]
theorem cat_L_quarrel : ∀ q ∈ hs_L_quarrel, CatchOk RL cL_quarrel [(0, 9, 12, 13)] 4 4 q := by
  intro q hq
  simp only [hs_L_quarrel, List.mem_cons, List.not_mem_nil, or_false] at hq
  rcases hq with rfl
  · refine ⟨[], ⟨0, 9, 12, 13⟩, [], rfl, ?_, by decide, by decide, lk_774, by decide, 3, 13, 1, Or.inl ⟨3, dkL_quarrel (12, .astore_n 3, 1) (pgm 8 rfl), rfl, rfl⟩, by decide, dkL_quarrel (13, .iconst 1, 1) (pgm 9 rfl), by decide, dkL_quarrel (14, .ireturn, 1) (pgm 10 rfl)⟩
    intro z hz
    cases hz
def f_L_quarrel (a1 : Int32) (h0 : PH) : Option (Int32 × PH) :=
  cbc (f_X11_quarrel 0 a1 h0) (fun (r1 : Int32) (h2 : PH) => lt (pL h2 NC 0 r1.toInt64) (fun (h3 : PH) => some ((0 : Int32), h3))) hs_L_quarrel
set_option maxRecDepth 100000 in
set_option maxHeartbeats 4000000 in
theorem ct_L_quarrel (l : Launch) (hlt : l.stackTraces = false) (a1 : Int32) (h0 : PH) : CTw l yL_quarrel cL_quarrel 4 (some .int) [(0, 9, 12, 13)] (rmx 11 3 18) 3 18 [.ref 0, .int a1, .ref NC] h0 (f_L_quarrel a1 h0) := by
  refine ctw_of (by decide) (Nat.le_of_ble_eq_true rfl) ?_
  intro p e s m args below meth c D cA ad A X hnc hr hlk htab
  have X : Cx p s m args c RL cL_quarrel 4 D cA ad A := X
  unfold f_L_quarrel
  refine so_pick (L' := [(0, .ref 0), (1, .int a1), (2, .ref NC)]) X [0, 1, 2] rfl ?_
  refine so_aload_n (i := 2) X 2 (dkL_quarrel (0, .aload_n 2, 1) (pgm 0 rfl)) rfl rfl ?_
  refine so_iconst (v := (0 : Int32)) X (dkL_quarrel (1, .iconst 0, 1) (pgm 1 rfl)) ic_0 ?_
  refine so_aload_n (i := 0) X 0 (dkL_quarrel (2, .aload_n 0, 1) (pgm 2 rfl)) rfl rfl ?_
  refine so_iload_n (i := 1) X 1 (dkL_quarrel (3, .iload_n 1, 1) (pgm 3 rfl)) rfl rfl ?_
  refine so_callC (n := 1) (As := [.int a1]) X hr hlk htab cat_L_quarrel (ct_X11_quarrel l hlt 0 a1 h0 kx0) kx0 (by decide) rfl lk_1201 lk_1202 lk_1203 lk_121 lk_1204 (by decide +kernel) rfl rfl rfl ⟨Nat.le_of_ble_eq_true rfl, Nat.le_of_ble_eq_true rfl⟩ ⟨Nat.le_of_ble_eq_true rfl, Nat.le_of_ble_eq_true rfl⟩ ⟨Nat.le_of_ble_eq_true rfl, Nat.le_of_ble_eq_true rfl⟩ (by decide) (dkL_quarrel (4, .invokevirtual 34, 3) (pgm 4 rfl)) (fun r1 h2 => ?_) rfl
  refine so_i2l X (dkL_quarrel (7, .i2l, 1) (pgm 5 rfl)) ?_
  refine so_outSt X hnc (dkL_quarrel (8, .lastore, 1) (pgm 6 rfl)) (fun h3 => ?_)
  refine so_goto (tgt := 15) X (dkL_quarrel (9, .goto 6, 3) (pgm 7 rfl)) rfl ?_
  refine so_iconst (v := (0 : Int32)) X (dkL_quarrel (15, .iconst 0, 1) (pgm 11 rfl)) ic_0 ?_
  exact so_iretW X hr hlk (Nat.le_of_ble_eq_true rfl) (Nat.le_of_ble_eq_true rfl) (dkL_quarrel (16, .ireturn, 1) (pgm 12 rfl))
def pgL_foes : List (Nat × Instr × Nat) := [(0, .aload_n 2, 1), (1, .iconst 0, 1), (2, .aload_n 0, 1), (3, .iload_n 1, 1), (4, .invokevirtual 37, 3), (7, .i2l, 1), (8, .lastore, 1), (9, .goto 9, 3), (12, .astore_n 3, 1), (13, .iconst 1, 1), (14, .ireturn, 1), (15, .astore_n 3, 1), (16, .iconst 2, 1), (17, .ireturn, 1), (18, .iconst 0, 1), (19, .ireturn, 1)]
theorem dkL_foes : ∀ q ∈ pgL_foes, decode cL_foes q.1 = .ok q.2 := by decide +kernel
abbrev hs_L_foes : List (Nat × Int32) := [(1, 1), (0, 2)]
theorem cat_L_foes : ∀ q ∈ hs_L_foes, CatchOk RL cL_foes [(0, 9, 12, 19), (0, 9, 15, 13)] 4 4 q := by
  intro q hq
  simp only [hs_L_foes, List.mem_cons, List.not_mem_nil, or_false] at hq
  rcases hq with rfl | rfl
  · refine ⟨[], ⟨0, 9, 12, 19⟩, [⟨0, 9, 15, 13⟩], rfl, ?_, by decide, by decide, lk_1127, by decide, 3, 13, 1, Or.inl ⟨3, dkL_foes (12, .astore_n 3, 1) (pgm 8 rfl), rfl, rfl⟩, by decide, dkL_foes (13, .iconst 1, 1) (pgm 9 rfl), by decide, dkL_foes (14, .ireturn, 1) (pgm 10 rfl)⟩
    intro z hz
    cases hz
  · refine ⟨[⟨0, 9, 12, 19⟩], ⟨0, 9, 15, 13⟩, [], rfl, ?_, by decide, by decide, lk_774, by decide, 3, 16, 2, Or.inl ⟨3, dkL_foes (15, .astore_n 3, 1) (pgm 11 rfl), rfl, rfl⟩, by decide, dkL_foes (16, .iconst 2, 1) (pgm 12 rfl), by decide, dkL_foes (17, .ireturn, 1) (pgm 13 rfl)⟩
    intro z hz
    simp only [List.mem_cons, List.not_mem_nil, or_false] at hz
    rcases hz with rfl
    · exact ⟨by decide, _, lk_1127, by decide⟩
def f_L_foes (a1 : Int32) (h0 : PH) : Option (Int32 × PH) :=
  cbc (f_X11_foes 0 a1 h0) (fun (r1 : Int32) (h2 : PH) => lt (pL h2 NC 0 r1.toInt64) (fun (h3 : PH) => some ((0 : Int32), h3))) hs_L_foes
set_option maxRecDepth 100000 in
set_option maxHeartbeats 4000000 in
theorem ct_L_foes (l : Launch) (hlt : l.stackTraces = false) (a1 : Int32) (h0 : PH) : CTw l yL_foes cL_foes 4 (some .int) [(0, 9, 12, 19), (0, 9, 15, 13)] (rmx 11 3 18) 3 18 [.ref 0, .int a1, .ref NC] h0 (f_L_foes a1 h0) := by
  refine ctw_of (by decide) (Nat.le_of_ble_eq_true rfl) ?_
  intro p e s m args below meth c D cA ad A X hnc hr hlk htab
  have X : Cx p s m args c RL cL_foes 4 D cA ad A := X
  unfold f_L_foes
  refine so_pick (L' := [(0, .ref 0), (1, .int a1), (2, .ref NC)]) X [0, 1, 2] rfl ?_
  refine so_aload_n (i := 2) X 2 (dkL_foes (0, .aload_n 2, 1) (pgm 0 rfl)) rfl rfl ?_
  refine so_iconst (v := (0 : Int32)) X (dkL_foes (1, .iconst 0, 1) (pgm 1 rfl)) ic_0 ?_
  refine so_aload_n (i := 0) X 0 (dkL_foes (2, .aload_n 0, 1) (pgm 2 rfl)) rfl rfl ?_
  refine so_iload_n (i := 1) X 1 (dkL_foes (3, .iload_n 1, 1) (pgm 3 rfl)) rfl rfl ?_
  refine so_callC (n := 1) (As := [.int a1]) X hr hlk htab cat_L_foes (ct_X11_foes l hlt 0 a1 h0 kx0) kx0 (by decide) rfl lk_1212 lk_1213 lk_1214 lk_121 lk_1215 (by decide +kernel) rfl rfl rfl ⟨Nat.le_of_ble_eq_true rfl, Nat.le_of_ble_eq_true rfl⟩ ⟨Nat.le_of_ble_eq_true rfl, Nat.le_of_ble_eq_true rfl⟩ ⟨Nat.le_of_ble_eq_true rfl, Nat.le_of_ble_eq_true rfl⟩ (by decide) (dkL_foes (4, .invokevirtual 37, 3) (pgm 4 rfl)) (fun r1 h2 => ?_) rfl
  refine so_i2l X (dkL_foes (7, .i2l, 1) (pgm 5 rfl)) ?_
  refine so_outSt X hnc (dkL_foes (8, .lastore, 1) (pgm 6 rfl)) (fun h3 => ?_)
  refine so_goto (tgt := 18) X (dkL_foes (9, .goto 9, 3) (pgm 7 rfl)) rfl ?_
  refine so_iconst (v := (0 : Int32)) X (dkL_foes (18, .iconst 0, 1) (pgm 14 rfl)) ic_0 ?_
  exact so_iretW X hr hlk (Nat.le_of_ble_eq_true rfl) (Nat.le_of_ble_eq_true rfl) (dkL_foes (19, .ireturn, 1) (pgm 15 rfl))
def pgL_most : List (Nat × Instr × Nat) := [(0, .aload_n 2, 1), (1, .iconst 0, 1), (2, .aload_n 0, 1), (3, .iload_n 1, 1), (4, .invokevirtual 40, 3), (7, .i2l, 1), (8, .lastore, 1), (9, .goto 6, 3), (12, .astore_n 3, 1), (13, .iconst 1, 1), (14, .ireturn, 1), (15, .iconst 0, 1), (16, .ireturn, 1)]
theorem dkL_most : ∀ q ∈ pgL_most, decode cL_most q.1 = .ok q.2 := by decide +kernel
abbrev hs_L_most : List (Nat × Int32) := [(0, 1)]
theorem cat_L_most : ∀ q ∈ hs_L_most, CatchOk RL cL_most [(0, 9, 12, 13)] 4 4 q := by
  intro q hq
  simp only [hs_L_most, List.mem_cons, List.not_mem_nil, or_false] at hq
  rcases hq with rfl
  · refine ⟨[], ⟨0, 9, 12, 13⟩, [], rfl, ?_, by decide, by decide, lk_774, by decide, 3, 13, 1, Or.inl ⟨3, dkL_most (12, .astore_n 3, 1) (pgm 8 rfl), rfl, rfl⟩, by decide, dkL_most (13, .iconst 1, 1) (pgm 9 rfl), by decide, dkL_most (14, .ireturn, 1) (pgm 10 rfl)⟩
    intro z hz
    cases hz
def f_L_most (a1 : Int32) (h0 : PH) : Option (Int32 × PH) :=
  cbc (f_X11_most 0 a1 h0) (fun (r1 : Int32) (h2 : PH) => lt (pL h2 NC 0 r1.toInt64) (fun (h3 : PH) => some ((0 : Int32), h3))) hs_L_most
set_option maxRecDepth 100000 in
set_option maxHeartbeats 4000000 in
theorem ct_L_most (l : Launch) (hlt : l.stackTraces = false) (a1 : Int32) (h0 : PH) : CTw l yL_most cL_most 4 (some .int) [(0, 9, 12, 13)] (rmx 11 3 18) 3 18 [.ref 0, .int a1, .ref NC] h0 (f_L_most a1 h0) := by
  refine ctw_of (by decide) (Nat.le_of_ble_eq_true rfl) ?_
  intro p e s m args below meth c D cA ad A X hnc hr hlk htab
  have X : Cx p s m args c RL cL_most 4 D cA ad A := X
  unfold f_L_most
  refine so_pick (L' := [(0, .ref 0), (1, .int a1), (2, .ref NC)]) X [0, 1, 2] rfl ?_
  refine so_aload_n (i := 2) X 2 (dkL_most (0, .aload_n 2, 1) (pgm 0 rfl)) rfl rfl ?_
  refine so_iconst (v := (0 : Int32)) X (dkL_most (1, .iconst 0, 1) (pgm 1 rfl)) ic_0 ?_
  refine so_aload_n (i := 0) X 0 (dkL_most (2, .aload_n 0, 1) (pgm 2 rfl)) rfl rfl ?_
  refine so_iload_n (i := 1) X 1 (dkL_most (3, .iload_n 1, 1) (pgm 3 rfl)) rfl rfl ?_
  refine so_callC (n := 1) (As := [.int a1]) X hr hlk htab cat_L_most (ct_X11_most l hlt 0 a1 h0 kx0) kx0 (by decide) rfl lk_1228 lk_1229 lk_1230 lk_121 lk_1231 (by decide +kernel) rfl rfl rfl ⟨Nat.le_of_ble_eq_true rfl, Nat.le_of_ble_eq_true rfl⟩ ⟨Nat.le_of_ble_eq_true rfl, Nat.le_of_ble_eq_true rfl⟩ ⟨Nat.le_of_ble_eq_true rfl, Nat.le_of_ble_eq_true rfl⟩ (by decide) (dkL_most (4, .invokevirtual 40, 3) (pgm 4 rfl)) (fun r1 h2 => ?_) rfl
  refine so_i2l X (dkL_most (7, .i2l, 1) (pgm 5 rfl)) ?_
  refine so_outSt X hnc (dkL_most (8, .lastore, 1) (pgm 6 rfl)) (fun h3 => ?_)
  refine so_goto (tgt := 15) X (dkL_most (9, .goto 6, 3) (pgm 7 rfl)) rfl ?_
  refine so_iconst (v := (0 : Int32)) X (dkL_most (15, .iconst 0, 1) (pgm 11 rfl)) ic_0 ?_
  exact so_iretW X hr hlk (Nat.le_of_ble_eq_true rfl) (Nat.le_of_ble_eq_true rfl) (dkL_most (16, .ireturn, 1) (pgm 12 rfl))
def pgL_hearts : List (Nat × Instr × Nat) := [(0, .aload_n 3, 1), (1, .iconst 0, 1), (2, .aload_n 0, 1), (3, .iload_n 1, 1), (4, .iload_n 2, 1), (5, .invokevirtual 43, 3), (8, .i2l, 1), (9, .lastore, 1), (10, .goto 11, 3), (13, .astore 4, 2), (15, .iconst 1, 1), (16, .ireturn, 1), (17, .astore 4, 2), (19, .iconst 2, 1), (20, .ireturn, 1), (21, .iconst 0, 1), (22, .ireturn, 1)]
theorem dkL_hearts : ∀ q ∈ pgL_hearts, decode cL_hearts q.1 = .ok q.2 := by decide +kernel
abbrev hs_L_hearts : List (Nat × Int32) := [(1, 1), (0, 2)]
theorem cat_L_hearts : ∀ q ∈ hs_L_hearts, CatchOk RL cL_hearts [(0, 10, 13, 19), (0, 10, 17, 13)] 5 5 q := by
  intro q hq
  simp only [hs_L_hearts, List.mem_cons, List.not_mem_nil, or_false] at hq
  rcases hq with rfl | rfl
  · refine ⟨[], ⟨0, 10, 13, 19⟩, [⟨0, 10, 17, 13⟩], rfl, ?_, by decide, by decide, lk_1127, by decide, 4, 15, 1, Or.inr ⟨dkL_hearts (13, .astore 4, 2) (pgm 9 rfl), rfl⟩, by decide, dkL_hearts (15, .iconst 1, 1) (pgm 10 rfl), by decide, dkL_hearts (16, .ireturn, 1) (pgm 11 rfl)⟩
    intro z hz
    cases hz
  · refine ⟨[⟨0, 10, 13, 19⟩], ⟨0, 10, 17, 13⟩, [], rfl, ?_, by decide, by decide, lk_774, by decide, 4, 19, 2, Or.inr ⟨dkL_hearts (17, .astore 4, 2) (pgm 12 rfl), rfl⟩, by decide, dkL_hearts (19, .iconst 2, 1) (pgm 13 rfl), by decide, dkL_hearts (20, .ireturn, 1) (pgm 14 rfl)⟩
    intro z hz
    simp only [List.mem_cons, List.not_mem_nil, or_false] at hz
    rcases hz with rfl
    · exact ⟨by decide, _, lk_1127, by decide⟩
def f_L_hearts (a1 : Int32) (a2 : Int32) (h0 : PH) : Option (Int32 × PH) :=
  cbc (f_X11_hearts 0 a1 a2 h0) (fun (r1 : Int32) (h2 : PH) => lt (pL h2 NC 0 r1.toInt64) (fun (h3 : PH) => some ((0 : Int32), h3))) hs_L_hearts
set_option maxRecDepth 100000 in
set_option maxHeartbeats 4000000 in
theorem ct_L_hearts (l : Launch) (hlt : l.stackTraces = false) (a1 : Int32) (a2 : Int32) (h0 : PH) : CTw l yL_hearts cL_hearts 5 (some .int) [(0, 10, 13, 19), (0, 10, 17, 13)] (rmx 11 3 18) 3 18 [.ref 0, .int a1, .int a2, .ref NC] h0 (f_L_hearts a1 a2 h0) := by
  refine ctw_of (by decide) (Nat.le_of_ble_eq_true rfl) ?_
  intro p e s m args below meth c D cA ad A X hnc hr hlk htab
  have X : Cx p s m args c RL cL_hearts 5 D cA ad A := X
  unfold f_L_hearts
  refine so_pick (L' := [(0, .ref 0), (1, .int a1), (2, .int a2), (3, .ref NC)]) X [0, 1, 2, 3] rfl ?_
  refine so_aload_n (i := 3) X 3 (dkL_hearts (0, .aload_n 3, 1) (pgm 0 rfl)) rfl rfl ?_
  refine so_iconst (v := (0 : Int32)) X (dkL_hearts (1, .iconst 0, 1) (pgm 1 rfl)) ic_0 ?_
  refine so_aload_n (i := 0) X 0 (dkL_hearts (2, .aload_n 0, 1) (pgm 2 rfl)) rfl rfl ?_
  refine so_iload_n (i := 1) X 1 (dkL_hearts (3, .iload_n 1, 1) (pgm 3 rfl)) rfl rfl ?_
  refine so_iload_n (i := 2) X 2 (dkL_hearts (4, .iload_n 2, 1) (pgm 4 rfl)) rfl rfl ?_
  refine so_callC (n := 2) (As := [.int a1, .int a2]) X hr hlk htab cat_L_hearts (ct_X11_hearts l hlt 0 a1 a2 h0 kx0) kx0 (by decide) rfl lk_1244 lk_1245 lk_1246 lk_121 lk_1247 (by decide +kernel) rfl rfl rfl ⟨Nat.le_of_ble_eq_true rfl, Nat.le_of_ble_eq_true rfl⟩ ⟨Nat.le_of_ble_eq_true rfl, Nat.le_of_ble_eq_true rfl⟩ ⟨Nat.le_of_ble_eq_true rfl, Nat.le_of_ble_eq_true rfl⟩ (by decide) (dkL_hearts (5, .invokevirtual 43, 3) (pgm 5 rfl)) (fun r1 h2 => ?_) rfl
  refine so_i2l X (dkL_hearts (8, .i2l, 1) (pgm 6 rfl)) ?_
  refine so_outSt X hnc (dkL_hearts (9, .lastore, 1) (pgm 7 rfl)) (fun h3 => ?_)
  refine so_goto (tgt := 21) X (dkL_hearts (10, .goto 11, 3) (pgm 8 rfl)) rfl ?_
  refine so_iconst (v := (0 : Int32)) X (dkL_hearts (21, .iconst 0, 1) (pgm 15 rfl)) ic_0 ?_
  exact so_iretW X hr hlk (Nat.le_of_ble_eq_true rfl) (Nat.le_of_ble_eq_true rfl) (dkL_hearts (22, .ireturn, 1) (pgm 16 rfl))
def pgL_follows : List (Nat × Instr × Nat) := [(0, .aload_n 2, 1), (1, .iconst 0, 1), (2, .aload_n 0, 1), (3, .iload_n 1, 1), (4, .invokevirtual 46, 3), (7, .i2l, 1), (8, .lastore, 1), (9, .goto 9, 3), (12, .astore_n 3, 1), (13, .iconst 1, 1), (14, .ireturn, 1), (15, .astore_n 3, 1), (16, .iconst 2, 1), (17, .ireturn, 1), (18, .iconst 0, 1), (19, .ireturn, 1)]
theorem dkL_follows : ∀ q ∈ pgL_follows, decode cL_follows q.1 = .ok q.2 := by decide +kernel
abbrev hs_L_follows : List (Nat × Int32) := [(1, 1), (0, 2)]
theorem cat_L_follows : ∀ q ∈ hs_L_follows, CatchOk RL cL_follows [(0, 9, 12, 19), (0, 9, 15, 13)] 4 4 q := by
  intro q hq
  simp only [hs_L_follows, List.mem_cons, List.not_mem_nil, or_false] at hq
  rcases hq with rfl | rfl
  · refine ⟨[], ⟨0, 9, 12, 19⟩, [⟨0, 9, 15, 13⟩], rfl, ?_, by decide, by decide, lk_1127, by decide, 3, 13, 1, Or.inl ⟨3, dkL_follows (12, .astore_n 3, 1) (pgm 8 rfl), rfl, rfl⟩, by decide, dkL_follows (13, .iconst 1, 1) (pgm 9 rfl), by decide, dkL_follows (14, .ireturn, 1) (pgm 10 rfl)⟩
    intro z hz
    cases hz
  · refine ⟨[⟨0, 9, 12, 19⟩], ⟨0, 9, 15, 13⟩, [], rfl, ?_, by decide, by decide, lk_774, by decide, 3, 16, 2, Or.inl ⟨3, dkL_follows (15, .astore_n 3, 1) (pgm 11 rfl), rfl, rfl⟩, by decide, dkL_follows (16, .iconst 2, 1) (pgm 12 rfl), by decide, dkL_follows (17, .ireturn, 1) (pgm 13 rfl)⟩
    intro z hz
    simp only [List.mem_cons, List.not_mem_nil, or_false] at hz
    rcases hz with rfl
    · exact ⟨by decide, _, lk_1127, by decide⟩
def f_L_follows (a1 : Int32) (h0 : PH) : Option (Int32 × PH) :=
  cbc (f_X11_follows 0 a1 h0) (fun (r1 : Int32) (h2 : PH) => lt (pL h2 NC 0 r1.toInt64) (fun (h3 : PH) => some ((0 : Int32), h3))) hs_L_follows
set_option maxRecDepth 100000 in
set_option maxHeartbeats 4000000 in
theorem ct_L_follows (l : Launch) (hlt : l.stackTraces = false) (a1 : Int32) (h0 : PH) : CTw l yL_follows cL_follows 4 (some .int) [(0, 9, 12, 19), (0, 9, 15, 13)] (rmx 11 3 18) 3 18 [.ref 0, .int a1, .ref NC] h0 (f_L_follows a1 h0) := by
  refine ctw_of (by decide) (Nat.le_of_ble_eq_true rfl) ?_
  intro p e s m args below meth c D cA ad A X hnc hr hlk htab
  have X : Cx p s m args c RL cL_follows 4 D cA ad A := X
  unfold f_L_follows
  refine so_pick (L' := [(0, .ref 0), (1, .int a1), (2, .ref NC)]) X [0, 1, 2] rfl ?_
  refine so_aload_n (i := 2) X 2 (dkL_follows (0, .aload_n 2, 1) (pgm 0 rfl)) rfl rfl ?_
  refine so_iconst (v := (0 : Int32)) X (dkL_follows (1, .iconst 0, 1) (pgm 1 rfl)) ic_0 ?_
  refine so_aload_n (i := 0) X 0 (dkL_follows (2, .aload_n 0, 1) (pgm 2 rfl)) rfl rfl ?_
  refine so_iload_n (i := 1) X 1 (dkL_follows (3, .iload_n 1, 1) (pgm 3 rfl)) rfl rfl ?_
  refine so_callC (n := 1) (As := [.int a1]) X hr hlk htab cat_L_follows (ct_X11_follows l hlt 0 a1 h0 kx0) kx0 (by decide) rfl lk_1255 lk_1256 lk_1257 lk_121 lk_1258 (by decide +kernel) rfl rfl rfl ⟨Nat.le_of_ble_eq_true rfl, Nat.le_of_ble_eq_true rfl⟩ ⟨Nat.le_of_ble_eq_true rfl, Nat.le_of_ble_eq_true rfl⟩ ⟨Nat.le_of_ble_eq_true rfl, Nat.le_of_ble_eq_true rfl⟩ (by decide) (dkL_follows (4, .invokevirtual 46, 3) (pgm 4 rfl)) (fun r1 h2 => ?_) rfl
  refine so_i2l X (dkL_follows (7, .i2l, 1) (pgm 5 rfl)) ?_
  refine so_outSt X hnc (dkL_follows (8, .lastore, 1) (pgm 6 rfl)) (fun h3 => ?_)
  refine so_goto (tgt := 18) X (dkL_follows (9, .goto 9, 3) (pgm 7 rfl)) rfl ?_
  refine so_iconst (v := (0 : Int32)) X (dkL_follows (18, .iconst 0, 1) (pgm 14 rfl)) ic_0 ?_
  exact so_iretW X hr hlk (Nat.le_of_ble_eq_true rfl) (Nat.le_of_ble_eq_true rfl) (dkL_follows (19, .ireturn, 1) (pgm 15 rfl))
def pgL_sure : List (Nat × Instr × Nat) := [(0, .aload_n 3, 1), (1, .iconst 0, 1), (2, .aload_n 0, 1), (3, .iload_n 1, 1), (4, .iload_n 2, 1), (5, .invokevirtual 49, 3), (8, .i2l, 1), (9, .lastore, 1), (10, .goto 7, 3), (13, .astore 4, 2), (15, .iconst 1, 1), (16, .ireturn, 1), (17, .iconst 0, 1), (18, .ireturn, 1)]
theorem dkL_sure : ∀ q ∈ pgL_sure, decode cL_sure q.1 = .ok q.2 := by decide +kernel
abbrev hs_L_sure : List (Nat × Int32) := [(0, 1)]
theorem cat_L_sure : ∀ q ∈ hs_L_sure, CatchOk RL cL_sure [(0, 10, 13, 13)] 5 5 q := by
  intro q hq
  simp only [hs_L_sure, List.mem_cons, List.not_mem_nil, or_false] at hq
  rcases hq with rfl
  · refine ⟨[], ⟨0, 10, 13, 13⟩, [], rfl, ?_, by decide, by decide, lk_774, by decide, 4, 15, 1, Or.inr ⟨dkL_sure (13, .astore 4, 2) (pgm 9 rfl), rfl⟩, by decide, dkL_sure (15, .iconst 1, 1) (pgm 10 rfl), by decide, dkL_sure (16, .ireturn, 1) (pgm 11 rfl)⟩
    intro z hz
    cases hz
def f_L_sure (a1 : Int32) (a2 : Int32) (h0 : PH) : Option (Int32 × PH) :=
  cbc (f_X11_sure 0 a1 a2 h0) (fun (r1 : Int32) (h2 : PH) => lt (pL h2 NC 0 r1.toInt64) (fun (h3 : PH) => some ((0 : Int32), h3))) hs_L_sure
set_option maxRecDepth 100000 in
set_option maxHeartbeats 4000000 in
theorem ct_L_sure (l : Launch) (hlt : l.stackTraces = false) (a1 : Int32) (a2 : Int32) (h0 : PH) : CTw l yL_sure cL_sure 5 (some .int) [(0, 10, 13, 13)] (rmx 11 3 18) 3 18 [.ref 0, .int a1, .int a2, .ref NC] h0 (f_L_sure a1 a2 h0) := by
  refine ctw_of (by decide) (Nat.le_of_ble_eq_true rfl) ?_
  intro p e s m args below meth c D cA ad A X hnc hr hlk htab
  have X : Cx p s m args c RL cL_sure 5 D cA ad A := X
  unfold f_L_sure
  refine so_pick (L' := [(0, .ref 0), (1, .int a1), (2, .int a2), (3, .ref NC)]) X [0, 1, 2, 3] rfl ?_
  refine so_aload_n (i := 3) X 3 (dkL_sure (0, .aload_n 3, 1) (pgm 0 rfl)) rfl rfl ?_
  refine so_iconst (v := (0 : Int32)) X (dkL_sure (1, .iconst 0, 1) (pgm 1 rfl)) ic_0 ?_
  refine so_aload_n (i := 0) X 0 (dkL_sure (2, .aload_n 0, 1) (pgm 2 rfl)) rfl rfl ?_
  refine so_iload_n (i := 1) X 1 (dkL_sure (3, .iload_n 1, 1) (pgm 3 rfl)) rfl rfl ?_
  refine so_iload_n (i := 2) X 2 (dkL_sure (4, .iload_n 2, 1) (pgm 4 rfl)) rfl rfl ?_
  refine so_callC (n := 2) (As := [.int a1, .int a2]) X hr hlk htab cat_L_sure (ct_X11_sure l hlt 0 a1 a2 h0 kx0) kx0 (by decide) rfl lk_1266 lk_1267 lk_1268 lk_121 lk_1269 (by decide +kernel) rfl rfl rfl ⟨Nat.le_of_ble_eq_true rfl, Nat.le_of_ble_eq_true rfl⟩ ⟨Nat.le_of_ble_eq_true rfl, Nat.le_of_ble_eq_true rfl⟩ ⟨Nat.le_of_ble_eq_true rfl, Nat.le_of_ble_eq_true rfl⟩ (by decide) (dkL_sure (5, .invokevirtual 49, 3) (pgm 5 rfl)) (fun r1 h2 => ?_) rfl
  refine so_i2l X (dkL_sure (8, .i2l, 1) (pgm 6 rfl)) ?_
  refine so_outSt X hnc (dkL_sure (9, .lastore, 1) (pgm 7 rfl)) (fun h3 => ?_)
  refine so_goto (tgt := 17) X (dkL_sure (10, .goto 7, 3) (pgm 8 rfl)) rfl ?_
  refine so_iconst (v := (0 : Int32)) X (dkL_sure (17, .iconst 0, 1) (pgm 12 rfl)) ic_0 ?_
  exact so_iretW X hr hlk (Nat.le_of_ble_eq_true rfl) (Nat.le_of_ble_eq_true rfl) (dkL_sure (18, .ireturn, 1) (pgm 13 rfl))
def pgL_expected : List (Nat × Instr × Nat) := [(0, .aload_n 3, 1), (1, .iconst 0, 1), (2, .aload_n 0, 1), (3, .iload_n 1, 1), (4, .iload_n 2, 1), (5, .invokevirtual 53, 3), (8, .lastore, 1), (9, .goto 7, 3), (12, .astore 4, 2), (14, .iconst 1, 1), (15, .ireturn, 1), (16, .iconst 0, 1), (17, .ireturn, 1)]
theorem dkL_expected : ∀ q ∈ pgL_expected, decode cL_expected q.1 = .ok q.2 := by decide +kernel
abbrev hs_L_expected : List (Nat × Int32) := [(0, 1)]
theorem cat_L_expected : ∀ q ∈ hs_L_expected, CatchOk RL cL_expected [(0, 9, 12, 13)] 5 5 q := by
  intro q hq
  simp only [hs_L_expected, List.mem_cons, List.not_mem_nil, or_false] at hq
  rcases hq with rfl
  · refine ⟨[], ⟨0, 9, 12, 13⟩, [], rfl, ?_, by decide, by decide, lk_774, by decide, 4, 14, 1, Or.inr ⟨dkL_expected (12, .astore 4, 2) (pgm 8 rfl), rfl⟩, by decide, dkL_expected (14, .iconst 1, 1) (pgm 9 rfl), by decide, dkL_expected (15, .ireturn, 1) (pgm 10 rfl)⟩
    intro z hz
    cases hz
def f_L_expected (a1 : Int32) (a2 : Int32) (h0 : PH) : Option (Int32 × PH) :=
  cbc (f_X11_expected 0 a1 a2 h0) (fun (r1 : Int64) (h2 : PH) => lt (pL h2 NC 0 r1) (fun (h3 : PH) => some ((0 : Int32), h3))) hs_L_expected
set_option maxRecDepth 100000 in
set_option maxHeartbeats 4000000 in
theorem ct_L_expected (l : Launch) (hlt : l.stackTraces = false) (a1 : Int32) (a2 : Int32) (h0 : PH) : CTw l yL_expected cL_expected 5 (some .int) [(0, 9, 12, 13)] (rmx 11 3 18) 3 18 [.ref 0, .int a1, .int a2, .ref NC] h0 (f_L_expected a1 a2 h0) := by
  refine ctw_of (by decide) (Nat.le_of_ble_eq_true rfl) ?_
  intro p e s m args below meth c D cA ad A X hnc hr hlk htab
  have X : Cx p s m args c RL cL_expected 5 D cA ad A := X
  unfold f_L_expected
  refine so_pick (L' := [(0, .ref 0), (1, .int a1), (2, .int a2), (3, .ref NC)]) X [0, 1, 2, 3] rfl ?_
  refine so_aload_n (i := 3) X 3 (dkL_expected (0, .aload_n 3, 1) (pgm 0 rfl)) rfl rfl ?_
  refine so_iconst (v := (0 : Int32)) X (dkL_expected (1, .iconst 0, 1) (pgm 1 rfl)) ic_0 ?_
  refine so_aload_n (i := 0) X 0 (dkL_expected (2, .aload_n 0, 1) (pgm 2 rfl)) rfl rfl ?_
  refine so_iload_n (i := 1) X 1 (dkL_expected (3, .iload_n 1, 1) (pgm 3 rfl)) rfl rfl ?_
  refine so_iload_n (i := 2) X 2 (dkL_expected (4, .iload_n 2, 1) (pgm 4 rfl)) rfl rfl ?_
  refine so_callC (n := 2) (As := [.int a1, .int a2]) X hr hlk htab cat_L_expected (ct_X11_expected l hlt 0 a1 a2 h0 kx0) kx0 (by decide) rfl lk_1279 lk_1280 lk_1281 lk_121 lk_1282 (by decide +kernel) rfl rfl rfl ⟨Nat.le_of_ble_eq_true rfl, Nat.le_of_ble_eq_true rfl⟩ ⟨Nat.le_of_ble_eq_true rfl, Nat.le_of_ble_eq_true rfl⟩ ⟨Nat.le_of_ble_eq_true rfl, Nat.le_of_ble_eq_true rfl⟩ (by decide) (dkL_expected (5, .invokevirtual 53, 3) (pgm 5 rfl)) (fun r1 h2 => ?_) rfl
  refine so_outSt X hnc (dkL_expected (8, .lastore, 1) (pgm 6 rfl)) (fun h3 => ?_)
  refine so_goto (tgt := 16) X (dkL_expected (9, .goto 7, 3) (pgm 7 rfl)) rfl ?_
  refine so_iconst (v := (0 : Int32)) X (dkL_expected (16, .iconst 0, 1) (pgm 11 rfl)) ic_0 ?_
  exact so_iretW X hr hlk (Nat.le_of_ble_eq_true rfl) (Nat.le_of_ble_eq_true rfl) (dkL_expected (17, .ireturn, 1) (pgm 12 rfl))
def pgL_bestChance : List (Nat × Instr × Nat) := [(0, .aload_n 2, 1), (1, .iconst 0, 1), (2, .aload_n 0, 1), (3, .iload_n 1, 1), (4, .invokevirtual 57, 3), (7, .i2l, 1), (8, .lastore, 1), (9, .goto 6, 3), (12, .astore_n 3, 1), (13, .iconst 1, 1), (14, .ireturn, 1), (15, .iconst 0, 1), (16, .ireturn, 1)]
theorem dkL_bestChance : ∀ q ∈ pgL_bestChance, decode cL_bestChance q.1 = .ok q.2 := by decide +kernel
abbrev hs_L_bestChance : List (Nat × Int32) := [(0, 1)]
theorem cat_L_bestChance : ∀ q ∈ hs_L_bestChance, CatchOk RL cL_bestChance [(0, 9, 12, 13)] 4 4 q := by
  intro q hq
  simp only [hs_L_bestChance, List.mem_cons, List.not_mem_nil, or_false] at hq
  rcases hq with rfl
  · refine ⟨[], ⟨0, 9, 12, 13⟩, [], rfl, ?_, by decide, by decide, lk_774, by decide, 3, 13, 1, Or.inl ⟨3, dkL_bestChance (12, .astore_n 3, 1) (pgm 8 rfl), rfl, rfl⟩, by decide, dkL_bestChance (13, .iconst 1, 1) (pgm 9 rfl), by decide, dkL_bestChance (14, .ireturn, 1) (pgm 10 rfl)⟩
    intro z hz
    cases hz
def f_L_bestChance (a1 : Int32) (h0 : PH) : Option (Int32 × PH) :=
  cbc (f_X11_bestChance 0 a1 h0) (fun (r1 : Int32) (h2 : PH) => lt (pL h2 NC 0 r1.toInt64) (fun (h3 : PH) => some ((0 : Int32), h3))) hs_L_bestChance
set_option maxRecDepth 100000 in
set_option maxHeartbeats 4000000 in
theorem ct_L_bestChance (l : Launch) (hlt : l.stackTraces = false) (a1 : Int32) (h0 : PH) : CTw l yL_bestChance cL_bestChance 4 (some .int) [(0, 9, 12, 13)] (rmx 11 3 18) 3 18 [.ref 0, .int a1, .ref NC] h0 (f_L_bestChance a1 h0) := by
  refine ctw_of (by decide) (Nat.le_of_ble_eq_true rfl) ?_
  intro p e s m args below meth c D cA ad A X hnc hr hlk htab
  have X : Cx p s m args c RL cL_bestChance 4 D cA ad A := X
  unfold f_L_bestChance
  refine so_pick (L' := [(0, .ref 0), (1, .int a1), (2, .ref NC)]) X [0, 1, 2] rfl ?_
  refine so_aload_n (i := 2) X 2 (dkL_bestChance (0, .aload_n 2, 1) (pgm 0 rfl)) rfl rfl ?_
  refine so_iconst (v := (0 : Int32)) X (dkL_bestChance (1, .iconst 0, 1) (pgm 1 rfl)) ic_0 ?_
  refine so_aload_n (i := 0) X 0 (dkL_bestChance (2, .aload_n 0, 1) (pgm 2 rfl)) rfl rfl ?_
  refine so_iload_n (i := 1) X 1 (dkL_bestChance (3, .iload_n 1, 1) (pgm 3 rfl)) rfl rfl ?_
  refine so_callC (n := 1) (As := [.int a1]) X hr hlk htab cat_L_bestChance (ct_X11_bestChance l hlt 0 a1 h0 kx0) kx0 (by decide) rfl lk_1299 lk_1300 lk_1301 lk_121 lk_1302 (by decide +kernel) rfl rfl rfl ⟨Nat.le_of_ble_eq_true rfl, Nat.le_of_ble_eq_true rfl⟩ ⟨Nat.le_of_ble_eq_true rfl, Nat.le_of_ble_eq_true rfl⟩ ⟨Nat.le_of_ble_eq_true rfl, Nat.le_of_ble_eq_true rfl⟩ (by decide) (dkL_bestChance (4, .invokevirtual 57, 3) (pgm 4 rfl)) (fun r1 h2 => ?_) rfl
  refine so_i2l X (dkL_bestChance (7, .i2l, 1) (pgm 5 rfl)) ?_
  refine so_outSt X hnc (dkL_bestChance (8, .lastore, 1) (pgm 6 rfl)) (fun h3 => ?_)
  refine so_goto (tgt := 15) X (dkL_bestChance (9, .goto 6, 3) (pgm 7 rfl)) rfl ?_
  refine so_iconst (v := (0 : Int32)) X (dkL_bestChance (15, .iconst 0, 1) (pgm 11 rfl)) ic_0 ?_
  exact so_iretW X hr hlk (Nat.le_of_ble_eq_true rfl) (Nat.le_of_ble_eq_true rfl) (dkL_bestChance (16, .ireturn, 1) (pgm 12 rfl))
def pgL_served : List (Nat × Instr × Nat) := [(0, .aload_n 2, 1), (1, .iconst 0, 1), (2, .aload_n 0, 1), (3, .iload_n 1, 1), (4, .invokevirtual 60, 3), (7, .i2l, 1), (8, .lastore, 1), (9, .goto 6, 3), (12, .astore_n 3, 1), (13, .iconst 1, 1), (14, .ireturn, 1), (15, .iconst 0, 1), (16, .ireturn, 1)]
theorem dkL_served : ∀ q ∈ pgL_served, decode cL_served q.1 = .ok q.2 := by decide +kernel
abbrev hs_L_served : List (Nat × Int32) := [(0, 1)]
theorem cat_L_served : ∀ q ∈ hs_L_served, CatchOk RL cL_served [(0, 9, 12, 13)] 4 4 q := by
  intro q hq
  simp only [hs_L_served, List.mem_cons, List.not_mem_nil, or_false] at hq
  rcases hq with rfl
  · refine ⟨[], ⟨0, 9, 12, 13⟩, [], rfl, ?_, by decide, by decide, lk_774, by decide, 3, 13, 1, Or.inl ⟨3, dkL_served (12, .astore_n 3, 1) (pgm 8 rfl), rfl, rfl⟩, by decide, dkL_served (13, .iconst 1, 1) (pgm 9 rfl), by decide, dkL_served (14, .ireturn, 1) (pgm 10 rfl)⟩
    intro z hz
    cases hz
def f_L_served (a1 : Int32) (h0 : PH) : Option (Int32 × PH) :=
  cbc (f_X11_served 0 a1 h0) (fun (r1 : Int32) (h2 : PH) => lt (pL h2 NC 0 r1.toInt64) (fun (h3 : PH) => some ((0 : Int32), h3))) hs_L_served
set_option maxRecDepth 100000 in
set_option maxHeartbeats 4000000 in
theorem ct_L_served (l : Launch) (hlt : l.stackTraces = false) (a1 : Int32) (h0 : PH) : CTw l yL_served cL_served 4 (some .int) [(0, 9, 12, 13)] (rmx 11 3 18) 3 18 [.ref 0, .int a1, .ref NC] h0 (f_L_served a1 h0) := by
  refine ctw_of (by decide) (Nat.le_of_ble_eq_true rfl) ?_
  intro p e s m args below meth c D cA ad A X hnc hr hlk htab
  have X : Cx p s m args c RL cL_served 4 D cA ad A := X
  unfold f_L_served
  refine so_pick (L' := [(0, .ref 0), (1, .int a1), (2, .ref NC)]) X [0, 1, 2] rfl ?_
  refine so_aload_n (i := 2) X 2 (dkL_served (0, .aload_n 2, 1) (pgm 0 rfl)) rfl rfl ?_
  refine so_iconst (v := (0 : Int32)) X (dkL_served (1, .iconst 0, 1) (pgm 1 rfl)) ic_0 ?_
  refine so_aload_n (i := 0) X 0 (dkL_served (2, .aload_n 0, 1) (pgm 2 rfl)) rfl rfl ?_
  refine so_iload_n (i := 1) X 1 (dkL_served (3, .iload_n 1, 1) (pgm 3 rfl)) rfl rfl ?_
  refine so_callC (n := 1) (As := [.int a1]) X hr hlk htab cat_L_served (ct_X11_served l hlt 0 a1 h0 kx0) kx0 (by decide) rfl lk_1312 lk_1313 lk_1314 lk_121 lk_1315 (by decide +kernel) rfl rfl rfl ⟨Nat.le_of_ble_eq_true rfl, Nat.le_of_ble_eq_true rfl⟩ ⟨Nat.le_of_ble_eq_true rfl, Nat.le_of_ble_eq_true rfl⟩ ⟨Nat.le_of_ble_eq_true rfl, Nat.le_of_ble_eq_true rfl⟩ (by decide) (dkL_served (4, .invokevirtual 60, 3) (pgm 4 rfl)) (fun r1 h2 => ?_) rfl
  refine so_i2l X (dkL_served (7, .i2l, 1) (pgm 5 rfl)) ?_
  refine so_outSt X hnc (dkL_served (8, .lastore, 1) (pgm 6 rfl)) (fun h3 => ?_)
  refine so_goto (tgt := 15) X (dkL_served (9, .goto 6, 3) (pgm 7 rfl)) rfl ?_
  refine so_iconst (v := (0 : Int32)) X (dkL_served (15, .iconst 0, 1) (pgm 11 rfl)) ic_0 ?_
  exact so_iretW X hr hlk (Nat.le_of_ble_eq_true rfl) (Nat.le_of_ble_eq_true rfl) (dkL_served (16, .ireturn, 1) (pgm 12 rfl))
def pgL_share : List (Nat × Instr × Nat) := [(0, .aload_n 3, 1), (1, .iconst 0, 1), (2, .aload_n 0, 1), (3, .iload_n 1, 1), (4, .iload_n 2, 1), (5, .invokevirtual 63, 3), (8, .i2l, 1), (9, .lastore, 1), (10, .goto 7, 3), (13, .astore 4, 2), (15, .iconst 1, 1), (16, .ireturn, 1), (17, .iconst 0, 1), (18, .ireturn, 1)]
theorem dkL_share : ∀ q ∈ pgL_share, decode cL_share q.1 = .ok q.2 := by decide +kernel
abbrev hs_L_share : List (Nat × Int32) := [(0, 1)]
theorem cat_L_share : ∀ q ∈ hs_L_share, CatchOk RL cL_share [(0, 10, 13, 13)] 5 5 q := by
  intro q hq
  simp only [hs_L_share, List.mem_cons, List.not_mem_nil, or_false] at hq
  rcases hq with rfl
  · refine ⟨[], ⟨0, 10, 13, 13⟩, [], rfl, ?_, by decide, by decide, lk_774, by decide, 4, 15, 1, Or.inr ⟨dkL_share (13, .astore 4, 2) (pgm 9 rfl), rfl⟩, by decide, dkL_share (15, .iconst 1, 1) (pgm 10 rfl), by decide, dkL_share (16, .ireturn, 1) (pgm 11 rfl)⟩
    intro z hz
    cases hz
def f_L_share (a1 : Int32) (a2 : Int32) (h0 : PH) : Option (Int32 × PH) :=
  cbc (f_X11_share 0 a1 a2 h0) (fun (r1 : Int32) (h2 : PH) => lt (pL h2 NC 0 r1.toInt64) (fun (h3 : PH) => some ((0 : Int32), h3))) hs_L_share
set_option maxRecDepth 100000 in
set_option maxHeartbeats 4000000 in
theorem ct_L_share (l : Launch) (hlt : l.stackTraces = false) (a1 : Int32) (a2 : Int32) (h0 : PH) : CTw l yL_share cL_share 5 (some .int) [(0, 10, 13, 13)] (rmx 11 3 18) 3 18 [.ref 0, .int a1, .int a2, .ref NC] h0 (f_L_share a1 a2 h0) := by
  refine ctw_of (by decide) (Nat.le_of_ble_eq_true rfl) ?_
  intro p e s m args below meth c D cA ad A X hnc hr hlk htab
  have X : Cx p s m args c RL cL_share 5 D cA ad A := X
  unfold f_L_share
  refine so_pick (L' := [(0, .ref 0), (1, .int a1), (2, .int a2), (3, .ref NC)]) X [0, 1, 2, 3] rfl ?_
  refine so_aload_n (i := 3) X 3 (dkL_share (0, .aload_n 3, 1) (pgm 0 rfl)) rfl rfl ?_
  refine so_iconst (v := (0 : Int32)) X (dkL_share (1, .iconst 0, 1) (pgm 1 rfl)) ic_0 ?_
  refine so_aload_n (i := 0) X 0 (dkL_share (2, .aload_n 0, 1) (pgm 2 rfl)) rfl rfl ?_
  refine so_iload_n (i := 1) X 1 (dkL_share (3, .iload_n 1, 1) (pgm 3 rfl)) rfl rfl ?_
  refine so_iload_n (i := 2) X 2 (dkL_share (4, .iload_n 2, 1) (pgm 4 rfl)) rfl rfl ?_
  refine so_callC (n := 2) (As := [.int a1, .int a2]) X hr hlk htab cat_L_share (ct_X11_share l hlt 0 a1 a2 h0 kx0) kx0 (by decide) rfl lk_1324 lk_1325 lk_1326 lk_121 lk_1327 (by decide +kernel) rfl rfl rfl ⟨Nat.le_of_ble_eq_true rfl, Nat.le_of_ble_eq_true rfl⟩ ⟨Nat.le_of_ble_eq_true rfl, Nat.le_of_ble_eq_true rfl⟩ ⟨Nat.le_of_ble_eq_true rfl, Nat.le_of_ble_eq_true rfl⟩ (by decide) (dkL_share (5, .invokevirtual 63, 3) (pgm 5 rfl)) (fun r1 h2 => ?_) rfl
  refine so_i2l X (dkL_share (8, .i2l, 1) (pgm 6 rfl)) ?_
  refine so_outSt X hnc (dkL_share (9, .lastore, 1) (pgm 7 rfl)) (fun h3 => ?_)
  refine so_goto (tgt := 17) X (dkL_share (10, .goto 7, 3) (pgm 8 rfl)) rfl ?_
  refine so_iconst (v := (0 : Int32)) X (dkL_share (17, .iconst 0, 1) (pgm 12 rfl)) ic_0 ?_
  exact so_iretW X hr hlk (Nat.le_of_ble_eq_true rfl) (Nat.le_of_ble_eq_true rfl) (dkL_share (18, .ireturn, 1) (pgm 13 rfl))
def pgL_gains : List (Nat × Instr × Nat) := [(0, .aload 4, 2), (2, .iconst 0, 1), (3, .aload_n 0, 1), (4, .iload_n 1, 1), (5, .iload_n 2, 1), (6, .iload_n 3, 1), (7, .invokevirtual 66, 3), (10, .i2l, 1), (11, .lastore, 1), (12, .goto 7, 3), (15, .astore 5, 2), (17, .iconst 1, 1), (18, .ireturn, 1), (19, .iconst 0, 1), (20, .ireturn, 1)]
theorem dkL_gains : ∀ q ∈ pgL_gains, decode cL_gains q.1 = .ok q.2 := by decide +kernel
abbrev hs_L_gains : List (Nat × Int32) := [(0, 1)]
theorem cat_L_gains : ∀ q ∈ hs_L_gains, CatchOk RL cL_gains [(0, 12, 15, 13)] 6 7 q := by
  intro q hq
  simp only [hs_L_gains, List.mem_cons, List.not_mem_nil, or_false] at hq
  rcases hq with rfl
  · refine ⟨[], ⟨0, 12, 15, 13⟩, [], rfl, ?_, by decide, by decide, lk_774, by decide, 5, 17, 1, Or.inr ⟨dkL_gains (15, .astore 5, 2) (pgm 10 rfl), rfl⟩, by decide, dkL_gains (17, .iconst 1, 1) (pgm 11 rfl), by decide, dkL_gains (18, .ireturn, 1) (pgm 12 rfl)⟩
    intro z hz
    cases hz
def f_L_gains (a1 : Int32) (a2 : Int32) (a3 : Int32) (h0 : PH) : Option (Int32 × PH) :=
  cbc (f_X11_gains 0 a1 a2 a3 h0) (fun (r1 : Int32) (h2 : PH) => lt (pL h2 NC 0 r1.toInt64) (fun (h3 : PH) => some ((0 : Int32), h3))) hs_L_gains
set_option maxRecDepth 100000 in
set_option maxHeartbeats 4000000 in
theorem ct_L_gains (l : Launch) (hlt : l.stackTraces = false) (a1 : Int32) (a2 : Int32) (a3 : Int32) (h0 : PH) : CTw l yL_gains cL_gains 6 (some .int) [(0, 12, 15, 13)] (rmx 11 3 18) 3 18 [.ref 0, .int a1, .int a2, .int a3, .ref NC] h0 (f_L_gains a1 a2 a3 h0) := by
  refine ctw_of (by decide) (Nat.le_of_ble_eq_true rfl) ?_
  intro p e s m args below meth c D cA ad A X hnc hr hlk htab
  have X : Cx p s m args c RL cL_gains 6 D cA ad A := X
  unfold f_L_gains
  refine so_pick (L' := [(0, .ref 0), (1, .int a1), (2, .int a2), (3, .int a3), (4, .ref NC)]) X [0, 1, 2, 3, 4] rfl ?_
  refine so_aload (i := 4) X 4 (dkL_gains (0, .aload 4, 2) (pgm 0 rfl)) rfl ?_
  refine so_iconst (v := (0 : Int32)) X (dkL_gains (2, .iconst 0, 1) (pgm 1 rfl)) ic_0 ?_
  refine so_aload_n (i := 0) X 0 (dkL_gains (3, .aload_n 0, 1) (pgm 2 rfl)) rfl rfl ?_
  refine so_iload_n (i := 1) X 1 (dkL_gains (4, .iload_n 1, 1) (pgm 3 rfl)) rfl rfl ?_
  refine so_iload_n (i := 2) X 2 (dkL_gains (5, .iload_n 2, 1) (pgm 4 rfl)) rfl rfl ?_
  refine so_iload_n (i := 3) X 3 (dkL_gains (6, .iload_n 3, 1) (pgm 5 rfl)) rfl rfl ?_
  refine so_callC (n := 3) (As := [.int a1, .int a2, .int a3]) X hr hlk htab cat_L_gains (ct_X11_gains l hlt 0 a1 a2 a3 h0 kx0) kx0 (by decide) rfl lk_1340 lk_1341 lk_1342 lk_121 lk_1343 (by decide +kernel) rfl rfl rfl ⟨Nat.le_of_ble_eq_true rfl, Nat.le_of_ble_eq_true rfl⟩ ⟨Nat.le_of_ble_eq_true rfl, Nat.le_of_ble_eq_true rfl⟩ ⟨Nat.le_of_ble_eq_true rfl, Nat.le_of_ble_eq_true rfl⟩ (by decide) (dkL_gains (7, .invokevirtual 66, 3) (pgm 6 rfl)) (fun r1 h2 => ?_) rfl
  refine so_i2l X (dkL_gains (10, .i2l, 1) (pgm 7 rfl)) ?_
  refine so_outSt X hnc (dkL_gains (11, .lastore, 1) (pgm 8 rfl)) (fun h3 => ?_)
  refine so_goto (tgt := 19) X (dkL_gains (12, .goto 7, 3) (pgm 9 rfl)) rfl ?_
  refine so_iconst (v := (0 : Int32)) X (dkL_gains (19, .iconst 0, 1) (pgm 13 rfl)) ic_0 ?_
  exact so_iretW X hr hlk (Nat.le_of_ble_eq_true rfl) (Nat.le_of_ble_eq_true rfl) (dkL_gains (20, .ireturn, 1) (pgm 14 rfl))
def pgL_wants : List (Nat × Instr × Nat) := [(0, .aload_n 3, 1), (1, .iconst 0, 1), (2, .aload_n 0, 1), (3, .iload_n 1, 1), (4, .iload_n 2, 1), (5, .invokevirtual 70, 3), (8, .i2l, 1), (9, .lastore, 1), (10, .goto 15, 3), (13, .astore 4, 2), (15, .iconst 1, 1), (16, .ireturn, 1), (17, .astore 4, 2), (19, .iconst 2, 1), (20, .ireturn, 1), (21, .astore 4, 2), (23, .iconst 3, 1), (24, .ireturn, 1), (25, .iconst 0, 1), (26, .ireturn, 1)]
theorem dkL_wants : ∀ q ∈ pgL_wants, decode cL_wants q.1 = .ok q.2 := by decide +kernel
abbrev hs_L_wants : List (Nat × Int32) := [(1, 1), (2, 2), (0, 3)]
theorem cat_L_wants : ∀ q ∈ hs_L_wants, CatchOk RL cL_wants [(0, 10, 13, 19), (0, 10, 17, 73), (0, 10, 21, 13)] 5 5 q := by
  intro q hq
  simp only [hs_L_wants, List.mem_cons, List.not_mem_nil, or_false] at hq
  rcases hq with rfl | rfl | rfl
  · refine ⟨[], ⟨0, 10, 13, 19⟩, [⟨0, 10, 17, 73⟩, ⟨0, 10, 21, 13⟩], rfl, ?_, by decide, by decide, lk_1127, by decide, 4, 15, 1, Or.inr ⟨dkL_wants (13, .astore 4, 2) (pgm 9 rfl), rfl⟩, by decide, dkL_wants (15, .iconst 1, 1) (pgm 10 rfl), by decide, dkL_wants (16, .ireturn, 1) (pgm 11 rfl)⟩
    intro z hz
    cases hz
  · refine ⟨[⟨0, 10, 13, 19⟩], ⟨0, 10, 17, 73⟩, [⟨0, 10, 21, 13⟩], rfl, ?_, by decide, by decide, lk_1357, by decide, 4, 19, 2, Or.inr ⟨dkL_wants (17, .astore 4, 2) (pgm 12 rfl), rfl⟩, by decide, dkL_wants (19, .iconst 2, 1) (pgm 13 rfl), by decide, dkL_wants (20, .ireturn, 1) (pgm 14 rfl)⟩
    intro z hz
    simp only [List.mem_cons, List.not_mem_nil, or_false] at hz
    rcases hz with rfl
    · exact ⟨by decide, _, lk_1127, by decide⟩
  · refine ⟨[⟨0, 10, 13, 19⟩, ⟨0, 10, 17, 73⟩], ⟨0, 10, 21, 13⟩, [], rfl, ?_, by decide, by decide, lk_774, by decide, 4, 23, 3, Or.inr ⟨dkL_wants (21, .astore 4, 2) (pgm 15 rfl), rfl⟩, by decide, dkL_wants (23, .iconst 3, 1) (pgm 16 rfl), by decide, dkL_wants (24, .ireturn, 1) (pgm 17 rfl)⟩
    intro z hz
    simp only [List.mem_cons, List.not_mem_nil, or_false] at hz
    rcases hz with rfl | rfl
    · exact ⟨by decide, _, lk_1127, by decide⟩
    · exact ⟨by decide, _, lk_1357, by decide⟩
def f_L_wants (a1 : Int32) (a2 : Int32) (h0 : PH) : Option (Int32 × PH) :=
  cbc (f_X11_wants 0 a1 a2 h0) (fun (r1 : Int32) (h2 : PH) => lt (pL h2 NC 0 r1.toInt64) (fun (h3 : PH) => some ((0 : Int32), h3))) hs_L_wants
set_option maxRecDepth 100000 in
set_option maxHeartbeats 4000000 in
theorem ct_L_wants (l : Launch) (hlt : l.stackTraces = false) (a1 : Int32) (a2 : Int32) (h0 : PH) : CTw l yL_wants cL_wants 5 (some .int) [(0, 10, 13, 19), (0, 10, 17, 73), (0, 10, 21, 13)] (rmx 11 3 18) 3 18 [.ref 0, .int a1, .int a2, .ref NC] h0 (f_L_wants a1 a2 h0) := by
  refine ctw_of (by decide) (Nat.le_of_ble_eq_true rfl) ?_
  intro p e s m args below meth c D cA ad A X hnc hr hlk htab
  have X : Cx p s m args c RL cL_wants 5 D cA ad A := X
  unfold f_L_wants
  refine so_pick (L' := [(0, .ref 0), (1, .int a1), (2, .int a2), (3, .ref NC)]) X [0, 1, 2, 3] rfl ?_
  refine so_aload_n (i := 3) X 3 (dkL_wants (0, .aload_n 3, 1) (pgm 0 rfl)) rfl rfl ?_
  refine so_iconst (v := (0 : Int32)) X (dkL_wants (1, .iconst 0, 1) (pgm 1 rfl)) ic_0 ?_
  refine so_aload_n (i := 0) X 0 (dkL_wants (2, .aload_n 0, 1) (pgm 2 rfl)) rfl rfl ?_
  refine so_iload_n (i := 1) X 1 (dkL_wants (3, .iload_n 1, 1) (pgm 3 rfl)) rfl rfl ?_
  refine so_iload_n (i := 2) X 2 (dkL_wants (4, .iload_n 2, 1) (pgm 4 rfl)) rfl rfl ?_
  refine so_callC (n := 2) (As := [.int a1, .int a2]) X hr hlk htab cat_L_wants (ct_X11_wants l hlt 0 a1 a2 h0 kx0) kx0 (by decide) rfl lk_1358 lk_1359 lk_1360 lk_121 lk_1361 (by decide +kernel) rfl rfl rfl ⟨Nat.le_of_ble_eq_true rfl, Nat.le_of_ble_eq_true rfl⟩ ⟨Nat.le_of_ble_eq_true rfl, Nat.le_of_ble_eq_true rfl⟩ ⟨Nat.le_of_ble_eq_true rfl, Nat.le_of_ble_eq_true rfl⟩ (by decide) (dkL_wants (5, .invokevirtual 70, 3) (pgm 5 rfl)) (fun r1 h2 => ?_) rfl
  refine so_i2l X (dkL_wants (8, .i2l, 1) (pgm 6 rfl)) ?_
  refine so_outSt X hnc (dkL_wants (9, .lastore, 1) (pgm 7 rfl)) (fun h3 => ?_)
  refine so_goto (tgt := 25) X (dkL_wants (10, .goto 15, 3) (pgm 8 rfl)) rfl ?_
  refine so_iconst (v := (0 : Int32)) X (dkL_wants (25, .iconst 0, 1) (pgm 18 rfl)) ic_0 ?_
  exact so_iretW X hr hlk (Nat.le_of_ble_eq_true rfl) (Nat.le_of_ble_eq_true rfl) (dkL_wants (26, .ireturn, 1) (pgm 19 rfl))
def pgL_readings : List (Nat × Instr × Nat) := [(0, .aload_n 3, 1), (1, .iconst 0, 1), (2, .aload_n 0, 1), (3, .iload_n 1, 1), (4, .iload_n 2, 1), (5, .invokevirtual 75, 3), (8, .i2l, 1), (9, .lastore, 1), (10, .goto 15, 3), (13, .astore 4, 2), (15, .iconst 1, 1), (16, .ireturn, 1), (17, .astore 4, 2), (19, .iconst 2, 1), (20, .ireturn, 1), (21, .astore 4, 2), (23, .iconst 3, 1), (24, .ireturn, 1), (25, .iconst 0, 1), (26, .ireturn, 1)]
theorem dkL_readings : ∀ q ∈ pgL_readings, decode cL_readings q.1 = .ok q.2 := by decide +kernel
abbrev hs_L_readings : List (Nat × Int32) := [(1, 1), (2, 2), (0, 3)]
theorem cat_L_readings : ∀ q ∈ hs_L_readings, CatchOk RL cL_readings [(0, 10, 13, 19), (0, 10, 17, 73), (0, 10, 21, 13)] 5 5 q := by
  intro q hq
  simp only [hs_L_readings, List.mem_cons, List.not_mem_nil, or_false] at hq
  rcases hq with rfl | rfl | rfl
  · refine ⟨[], ⟨0, 10, 13, 19⟩, [⟨0, 10, 17, 73⟩, ⟨0, 10, 21, 13⟩], rfl, ?_, by decide, by decide, lk_1127, by decide, 4, 15, 1, Or.inr ⟨dkL_readings (13, .astore 4, 2) (pgm 9 rfl), rfl⟩, by decide, dkL_readings (15, .iconst 1, 1) (pgm 10 rfl), by decide, dkL_readings (16, .ireturn, 1) (pgm 11 rfl)⟩
    intro z hz
    cases hz
  · refine ⟨[⟨0, 10, 13, 19⟩], ⟨0, 10, 17, 73⟩, [⟨0, 10, 21, 13⟩], rfl, ?_, by decide, by decide, lk_1357, by decide, 4, 19, 2, Or.inr ⟨dkL_readings (17, .astore 4, 2) (pgm 12 rfl), rfl⟩, by decide, dkL_readings (19, .iconst 2, 1) (pgm 13 rfl), by decide, dkL_readings (20, .ireturn, 1) (pgm 14 rfl)⟩
    intro z hz
    simp only [List.mem_cons, List.not_mem_nil, or_false] at hz
    rcases hz with rfl
    · exact ⟨by decide, _, lk_1127, by decide⟩
  · refine ⟨[⟨0, 10, 13, 19⟩, ⟨0, 10, 17, 73⟩], ⟨0, 10, 21, 13⟩, [], rfl, ?_, by decide, by decide, lk_774, by decide, 4, 23, 3, Or.inr ⟨dkL_readings (21, .astore 4, 2) (pgm 15 rfl), rfl⟩, by decide, dkL_readings (23, .iconst 3, 1) (pgm 16 rfl), by decide, dkL_readings (24, .ireturn, 1) (pgm 17 rfl)⟩
    intro z hz
    simp only [List.mem_cons, List.not_mem_nil, or_false] at hz
    rcases hz with rfl | rfl
    · exact ⟨by decide, _, lk_1127, by decide⟩
    · exact ⟨by decide, _, lk_1357, by decide⟩
def f_L_readings (a1 : Int32) (a2 : Int32) (h0 : PH) : Option (Int32 × PH) :=
  cbc (f_X11_readings 0 a1 a2 h0) (fun (r1 : Int32) (h2 : PH) => lt (pL h2 NC 0 r1.toInt64) (fun (h3 : PH) => some ((0 : Int32), h3))) hs_L_readings
set_option maxRecDepth 100000 in
set_option maxHeartbeats 4000000 in
theorem ct_L_readings (l : Launch) (hlt : l.stackTraces = false) (a1 : Int32) (a2 : Int32) (h0 : PH) : CTw l yL_readings cL_readings 5 (some .int) [(0, 10, 13, 19), (0, 10, 17, 73), (0, 10, 21, 13)] (rmx 11 3 18) 3 18 [.ref 0, .int a1, .int a2, .ref NC] h0 (f_L_readings a1 a2 h0) := by
  refine ctw_of (by decide) (Nat.le_of_ble_eq_true rfl) ?_
  intro p e s m args below meth c D cA ad A X hnc hr hlk htab
  have X : Cx p s m args c RL cL_readings 5 D cA ad A := X
  unfold f_L_readings
  refine so_pick (L' := [(0, .ref 0), (1, .int a1), (2, .int a2), (3, .ref NC)]) X [0, 1, 2, 3] rfl ?_
  refine so_aload_n (i := 3) X 3 (dkL_readings (0, .aload_n 3, 1) (pgm 0 rfl)) rfl rfl ?_
  refine so_iconst (v := (0 : Int32)) X (dkL_readings (1, .iconst 0, 1) (pgm 1 rfl)) ic_0 ?_
  refine so_aload_n (i := 0) X 0 (dkL_readings (2, .aload_n 0, 1) (pgm 2 rfl)) rfl rfl ?_
  refine so_iload_n (i := 1) X 1 (dkL_readings (3, .iload_n 1, 1) (pgm 3 rfl)) rfl rfl ?_
  refine so_iload_n (i := 2) X 2 (dkL_readings (4, .iload_n 2, 1) (pgm 4 rfl)) rfl rfl ?_
  refine so_callC (n := 2) (As := [.int a1, .int a2]) X hr hlk htab cat_L_readings (ct_X11_readings l hlt 0 a1 a2 h0 kx0) kx0 (by decide) rfl lk_1412 lk_1413 lk_1414 lk_121 lk_1415 (by decide +kernel) rfl rfl rfl ⟨Nat.le_of_ble_eq_true rfl, Nat.le_of_ble_eq_true rfl⟩ ⟨Nat.le_of_ble_eq_true rfl, Nat.le_of_ble_eq_true rfl⟩ ⟨Nat.le_of_ble_eq_true rfl, Nat.le_of_ble_eq_true rfl⟩ (by decide) (dkL_readings (5, .invokevirtual 75, 3) (pgm 5 rfl)) (fun r1 h2 => ?_) rfl
  refine so_i2l X (dkL_readings (8, .i2l, 1) (pgm 6 rfl)) ?_
  refine so_outSt X hnc (dkL_readings (9, .lastore, 1) (pgm 7 rfl)) (fun h3 => ?_)
  refine so_goto (tgt := 25) X (dkL_readings (10, .goto 15, 3) (pgm 8 rfl)) rfl ?_
  refine so_iconst (v := (0 : Int32)) X (dkL_readings (25, .iconst 0, 1) (pgm 18 rfl)) ic_0 ?_
  exact so_iretW X hr hlk (Nat.le_of_ble_eq_true rfl) (Nat.le_of_ble_eq_true rfl) (dkL_readings (26, .ireturn, 1) (pgm 19 rfl))
def pgL_thank : List (Nat × Instr × Nat) := [(0, .aload_n 3, 1), (1, .iconst 0, 1), (2, .aload_n 0, 1), (3, .iload_n 1, 1), (4, .iload_n 2, 1), (5, .invokevirtual 78, 3), (8, .i2l, 1), (9, .lastore, 1), (10, .goto 7, 3), (13, .astore 4, 2), (15, .iconst 1, 1), (16, .ireturn, 1), (17, .iconst 0, 1), (18, .ireturn, 1)]
theorem dkL_thank : ∀ q ∈ pgL_thank, decode cL_thank q.1 = .ok q.2 := by decide +kernel
abbrev hs_L_thank : List (Nat × Int32) := [(0, 1)]
theorem cat_L_thank : ∀ q ∈ hs_L_thank, CatchOk RL cL_thank [(0, 10, 13, 13)] 5 5 q := by
  intro q hq
  simp only [hs_L_thank, List.mem_cons, List.not_mem_nil, or_false] at hq
  rcases hq with rfl
  · refine ⟨[], ⟨0, 10, 13, 13⟩, [], rfl, ?_, by decide, by decide, lk_774, by decide, 4, 15, 1, Or.inr ⟨dkL_thank (13, .astore 4, 2) (pgm 9 rfl), rfl⟩, by decide, dkL_thank (15, .iconst 1, 1) (pgm 10 rfl), by decide, dkL_thank (16, .ireturn, 1) (pgm 11 rfl)⟩
    intro z hz
    cases hz
def f_L_thank (a1 : Int32) (a2 : Int32) (h0 : PH) : Option (Int32 × PH) :=
  cbc (f_X11_thank 0 a1 a2 h0) (fun (r1 : Int32) (h2 : PH) => lt (pL h2 NC 0 r1.toInt64) (fun (h3 : PH) => some ((0 : Int32), h3))) hs_L_thank
set_option maxRecDepth 100000 in
set_option maxHeartbeats 4000000 in
theorem ct_L_thank (l : Launch) (hlt : l.stackTraces = false) (a1 : Int32) (a2 : Int32) (h0 : PH) : CTw l yL_thank cL_thank 5 (some .int) [(0, 10, 13, 13)] (rmx 11 3 18) 3 18 [.ref 0, .int a1, .int a2, .ref NC] h0 (f_L_thank a1 a2 h0) := by
  refine ctw_of (by decide) (Nat.le_of_ble_eq_true rfl) ?_
  intro p e s m args below meth c D cA ad A X hnc hr hlk htab
  have X : Cx p s m args c RL cL_thank 5 D cA ad A := X
  unfold f_L_thank
  refine so_pick (L' := [(0, .ref 0), (1, .int a1), (2, .int a2), (3, .ref NC)]) X [0, 1, 2, 3] rfl ?_
  refine so_aload_n (i := 3) X 3 (dkL_thank (0, .aload_n 3, 1) (pgm 0 rfl)) rfl rfl ?_
  refine so_iconst (v := (0 : Int32)) X (dkL_thank (1, .iconst 0, 1) (pgm 1 rfl)) ic_0 ?_
  refine so_aload_n (i := 0) X 0 (dkL_thank (2, .aload_n 0, 1) (pgm 2 rfl)) rfl rfl ?_
  refine so_iload_n (i := 1) X 1 (dkL_thank (3, .iload_n 1, 1) (pgm 3 rfl)) rfl rfl ?_
  refine so_iload_n (i := 2) X 2 (dkL_thank (4, .iload_n 2, 1) (pgm 4 rfl)) rfl rfl ?_
  refine so_callC (n := 2) (As := [.int a1, .int a2]) X hr hlk htab cat_L_thank (ct_X11_thank l hlt 0 a1 a2 h0 kx0) kx0 (by decide) rfl lk_1469 lk_1470 lk_1471 lk_121 lk_1472 (by decide +kernel) rfl rfl rfl ⟨Nat.le_of_ble_eq_true rfl, Nat.le_of_ble_eq_true rfl⟩ ⟨Nat.le_of_ble_eq_true rfl, Nat.le_of_ble_eq_true rfl⟩ ⟨Nat.le_of_ble_eq_true rfl, Nat.le_of_ble_eq_true rfl⟩ (by decide) (dkL_thank (5, .invokevirtual 78, 3) (pgm 5 rfl)) (fun r1 h2 => ?_) rfl
  refine so_i2l X (dkL_thank (8, .i2l, 1) (pgm 6 rfl)) ?_
  refine so_outSt X hnc (dkL_thank (9, .lastore, 1) (pgm 7 rfl)) (fun h3 => ?_)
  refine so_goto (tgt := 17) X (dkL_thank (10, .goto 7, 3) (pgm 8 rfl)) rfl ?_
  refine so_iconst (v := (0 : Int32)) X (dkL_thank (17, .iconst 0, 1) (pgm 12 rfl)) ic_0 ?_
  exact so_iretW X hr hlk (Nat.le_of_ble_eq_true rfl) (Nat.le_of_ble_eq_true rfl) (dkL_thank (18, .ireturn, 1) (pgm 13 rfl))
def pgL_owes : List (Nat × Instr × Nat) := [(0, .aload_n 2, 1), (1, .iconst 0, 1), (2, .aload_n 0, 1), (3, .iload_n 1, 1), (4, .invokevirtual 81, 3), (7, .i2l, 1), (8, .lastore, 1), (9, .goto 6, 3), (12, .astore_n 3, 1), (13, .iconst 1, 1), (14, .ireturn, 1), (15, .iconst 0, 1), (16, .ireturn, 1)]
theorem dkL_owes : ∀ q ∈ pgL_owes, decode cL_owes q.1 = .ok q.2 := by decide +kernel
abbrev hs_L_owes : List (Nat × Int32) := [(0, 1)]
theorem cat_L_owes : ∀ q ∈ hs_L_owes, CatchOk RL cL_owes [(0, 9, 12, 13)] 4 4 q := by
  intro q hq
  simp only [hs_L_owes, List.mem_cons, List.not_mem_nil, or_false] at hq
  rcases hq with rfl
  · refine ⟨[], ⟨0, 9, 12, 13⟩, [], rfl, ?_, by decide, by decide, lk_774, by decide, 3, 13, 1, Or.inl ⟨3, dkL_owes (12, .astore_n 3, 1) (pgm 8 rfl), rfl, rfl⟩, by decide, dkL_owes (13, .iconst 1, 1) (pgm 9 rfl), by decide, dkL_owes (14, .ireturn, 1) (pgm 10 rfl)⟩
    intro z hz
    cases hz
def f_L_owes (a1 : Int32) (h0 : PH) : Option (Int32 × PH) :=
  cbc (f_X11_owes 0 a1 h0) (fun (r1 : Int32) (h2 : PH) => lt (pL h2 NC 0 r1.toInt64) (fun (h3 : PH) => some ((0 : Int32), h3))) hs_L_owes
set_option maxRecDepth 100000 in
set_option maxHeartbeats 4000000 in
theorem ct_L_owes (l : Launch) (hlt : l.stackTraces = false) (a1 : Int32) (h0 : PH) : CTw l yL_owes cL_owes 4 (some .int) [(0, 9, 12, 13)] (rmx 11 3 18) 3 18 [.ref 0, .int a1, .ref NC] h0 (f_L_owes a1 h0) := by
  refine ctw_of (by decide) (Nat.le_of_ble_eq_true rfl) ?_
  intro p e s m args below meth c D cA ad A X hnc hr hlk htab
  have X : Cx p s m args c RL cL_owes 4 D cA ad A := X
  unfold f_L_owes
  refine so_pick (L' := [(0, .ref 0), (1, .int a1), (2, .ref NC)]) X [0, 1, 2] rfl ?_
  refine so_aload_n (i := 2) X 2 (dkL_owes (0, .aload_n 2, 1) (pgm 0 rfl)) rfl rfl ?_
  refine so_iconst (v := (0 : Int32)) X (dkL_owes (1, .iconst 0, 1) (pgm 1 rfl)) ic_0 ?_
  refine so_aload_n (i := 0) X 0 (dkL_owes (2, .aload_n 0, 1) (pgm 2 rfl)) rfl rfl ?_
  refine so_iload_n (i := 1) X 1 (dkL_owes (3, .iload_n 1, 1) (pgm 3 rfl)) rfl rfl ?_
  refine so_callC (n := 1) (As := [.int a1]) X hr hlk htab cat_L_owes (ct_X11_owes l hlt 0 a1 h0 kx0) kx0 (by decide) rfl lk_1477 lk_1478 lk_1479 lk_121 lk_1480 (by decide +kernel) rfl rfl rfl ⟨Nat.le_of_ble_eq_true rfl, Nat.le_of_ble_eq_true rfl⟩ ⟨Nat.le_of_ble_eq_true rfl, Nat.le_of_ble_eq_true rfl⟩ ⟨Nat.le_of_ble_eq_true rfl, Nat.le_of_ble_eq_true rfl⟩ (by decide) (dkL_owes (4, .invokevirtual 81, 3) (pgm 4 rfl)) (fun r1 h2 => ?_) rfl
  refine so_i2l X (dkL_owes (7, .i2l, 1) (pgm 5 rfl)) ?_
  refine so_outSt X hnc (dkL_owes (8, .lastore, 1) (pgm 6 rfl)) (fun h3 => ?_)
  refine so_goto (tgt := 15) X (dkL_owes (9, .goto 6, 3) (pgm 7 rfl)) rfl ?_
  refine so_iconst (v := (0 : Int32)) X (dkL_owes (15, .iconst 0, 1) (pgm 11 rfl)) ic_0 ?_
  exact so_iretW X hr hlk (Nat.le_of_ble_eq_true rfl) (Nat.le_of_ble_eq_true rfl) (dkL_owes (16, .ireturn, 1) (pgm 12 rfl))
def pgL_withdraw : List (Nat × Instr × Nat) := [(0, .aload_n 2, 1), (1, .iconst 0, 1), (2, .aload_n 0, 1), (3, .iload_n 1, 1), (4, .invokevirtual 84, 3), (7, .i2l, 1), (8, .lastore, 1), (9, .goto 9, 3), (12, .astore_n 3, 1), (13, .iconst 1, 1), (14, .ireturn, 1), (15, .astore_n 3, 1), (16, .iconst 2, 1), (17, .ireturn, 1), (18, .iconst 0, 1), (19, .ireturn, 1)]
theorem dkL_withdraw : ∀ q ∈ pgL_withdraw, decode cL_withdraw q.1 = .ok q.2 := by decide +kernel
abbrev hs_L_withdraw : List (Nat × Int32) := [(1, 1), (2, 2)]
theorem cat_L_withdraw : ∀ q ∈ hs_L_withdraw, CatchOk RL cL_withdraw [(0, 9, 12, 19), (0, 9, 15, 73)] 4 4 q := by
  intro q hq
  simp only [hs_L_withdraw, List.mem_cons, List.not_mem_nil, or_false] at hq
  rcases hq with rfl | rfl
  · refine ⟨[], ⟨0, 9, 12, 19⟩, [⟨0, 9, 15, 73⟩], rfl, ?_, by decide, by decide, lk_1127, by decide, 3, 13, 1, Or.inl ⟨3, dkL_withdraw (12, .astore_n 3, 1) (pgm 8 rfl), rfl, rfl⟩, by decide, dkL_withdraw (13, .iconst 1, 1) (pgm 9 rfl), by decide, dkL_withdraw (14, .ireturn, 1) (pgm 10 rfl)⟩
    intro z hz
    cases hz
  · refine ⟨[⟨0, 9, 12, 19⟩], ⟨0, 9, 15, 73⟩, [], rfl, ?_, by decide, by decide, lk_1357, by decide, 3, 16, 2, Or.inl ⟨3, dkL_withdraw (15, .astore_n 3, 1) (pgm 11 rfl), rfl, rfl⟩, by decide, dkL_withdraw (16, .iconst 2, 1) (pgm 12 rfl), by decide, dkL_withdraw (17, .ireturn, 1) (pgm 13 rfl)⟩
    intro z hz
    simp only [List.mem_cons, List.not_mem_nil, or_false] at hz
    rcases hz with rfl
    · exact ⟨by decide, _, lk_1127, by decide⟩
def f_L_withdraw (a1 : Int32) (h0 : PH) : Option (Int32 × PH) :=
  cbc (f_X11_withdraw 0 a1 h0) (fun (r1 : Int32) (h2 : PH) => lt (pL h2 NC 0 r1.toInt64) (fun (h3 : PH) => some ((0 : Int32), h3))) hs_L_withdraw
set_option maxRecDepth 100000 in
set_option maxHeartbeats 4000000 in
theorem ct_L_withdraw (l : Launch) (hlt : l.stackTraces = false) (a1 : Int32) (h0 : PH) : CTw l yL_withdraw cL_withdraw 4 (some .int) [(0, 9, 12, 19), (0, 9, 15, 73)] (rmx 11 3 18) 3 18 [.ref 0, .int a1, .ref NC] h0 (f_L_withdraw a1 h0) := by
  refine ctw_of (by decide) (Nat.le_of_ble_eq_true rfl) ?_
  intro p e s m args below meth c D cA ad A X hnc hr hlk htab
  have X : Cx p s m args c RL cL_withdraw 4 D cA ad A := X
  unfold f_L_withdraw
  refine so_pick (L' := [(0, .ref 0), (1, .int a1), (2, .ref NC)]) X [0, 1, 2] rfl ?_
  refine so_aload_n (i := 2) X 2 (dkL_withdraw (0, .aload_n 2, 1) (pgm 0 rfl)) rfl rfl ?_
  refine so_iconst (v := (0 : Int32)) X (dkL_withdraw (1, .iconst 0, 1) (pgm 1 rfl)) ic_0 ?_
  refine so_aload_n (i := 0) X 0 (dkL_withdraw (2, .aload_n 0, 1) (pgm 2 rfl)) rfl rfl ?_
  refine so_iload_n (i := 1) X 1 (dkL_withdraw (3, .iload_n 1, 1) (pgm 3 rfl)) rfl rfl ?_
  refine so_callC (n := 1) (As := [.int a1]) X hr hlk htab cat_L_withdraw (ct_X11_withdraw l hlt 0 a1 h0 kx0) kx0 (by decide) rfl lk_1484 lk_1485 lk_1486 lk_121 lk_1487 (by decide +kernel) rfl rfl rfl ⟨Nat.le_of_ble_eq_true rfl, Nat.le_of_ble_eq_true rfl⟩ ⟨Nat.le_of_ble_eq_true rfl, Nat.le_of_ble_eq_true rfl⟩ ⟨Nat.le_of_ble_eq_true rfl, Nat.le_of_ble_eq_true rfl⟩ (by decide) (dkL_withdraw (4, .invokevirtual 84, 3) (pgm 4 rfl)) (fun r1 h2 => ?_) rfl
  refine so_i2l X (dkL_withdraw (7, .i2l, 1) (pgm 5 rfl)) ?_
  refine so_outSt X hnc (dkL_withdraw (8, .lastore, 1) (pgm 6 rfl)) (fun h3 => ?_)
  refine so_goto (tgt := 18) X (dkL_withdraw (9, .goto 9, 3) (pgm 7 rfl)) rfl ?_
  refine so_iconst (v := (0 : Int32)) X (dkL_withdraw (18, .iconst 0, 1) (pgm 14 rfl)) ic_0 ?_
  exact so_iretW X hr hlk (Nat.le_of_ble_eq_true rfl) (Nat.le_of_ble_eq_true rfl) (dkL_withdraw (19, .ireturn, 1) (pgm 15 rfl))
def pgL_again : List (Nat × Instr × Nat) := [(0, .aload_n 2, 1), (1, .iconst 0, 1), (2, .aload_n 0, 1), (3, .iload_n 1, 1), (4, .invokevirtual 87, 3), (7, .i2l, 1), (8, .lastore, 1), (9, .goto 9, 3), (12, .astore_n 3, 1), (13, .iconst 1, 1), (14, .ireturn, 1), (15, .astore_n 3, 1), (16, .iconst 2, 1), (17, .ireturn, 1), (18, .iconst 0, 1), (19, .ireturn, 1)]
theorem dkL_again : ∀ q ∈ pgL_again, decode cL_again q.1 = .ok q.2 := by decide +kernel
abbrev hs_L_again : List (Nat × Int32) := [(1, 1), (2, 2)]
theorem cat_L_again : ∀ q ∈ hs_L_again, CatchOk RL cL_again [(0, 9, 12, 19), (0, 9, 15, 73)] 4 4 q := by
  intro q hq
  simp only [hs_L_again, List.mem_cons, List.not_mem_nil, or_false] at hq
  rcases hq with rfl | rfl
  · refine ⟨[], ⟨0, 9, 12, 19⟩, [⟨0, 9, 15, 73⟩], rfl, ?_, by decide, by decide, lk_1127, by decide, 3, 13, 1, Or.inl ⟨3, dkL_again (12, .astore_n 3, 1) (pgm 8 rfl), rfl, rfl⟩, by decide, dkL_again (13, .iconst 1, 1) (pgm 9 rfl), by decide, dkL_again (14, .ireturn, 1) (pgm 10 rfl)⟩
    intro z hz
    cases hz
  · refine ⟨[⟨0, 9, 12, 19⟩], ⟨0, 9, 15, 73⟩, [], rfl, ?_, by decide, by decide, lk_1357, by decide, 3, 16, 2, Or.inl ⟨3, dkL_again (15, .astore_n 3, 1) (pgm 11 rfl), rfl, rfl⟩, by decide, dkL_again (16, .iconst 2, 1) (pgm 12 rfl), by decide, dkL_again (17, .ireturn, 1) (pgm 13 rfl)⟩
    intro z hz
    simp only [List.mem_cons, List.not_mem_nil, or_false] at hz
    rcases hz with rfl
    · exact ⟨by decide, _, lk_1127, by decide⟩
def f_L_again (a1 : Int32) (h0 : PH) : Option (Int32 × PH) :=
  cbc (f_X11_again 0 a1 h0) (fun (r1 : Int32) (h2 : PH) => lt (pL h2 NC 0 r1.toInt64) (fun (h3 : PH) => some ((0 : Int32), h3))) hs_L_again
set_option maxRecDepth 100000 in
set_option maxHeartbeats 4000000 in
theorem ct_L_again (l : Launch) (hlt : l.stackTraces = false) (a1 : Int32) (h0 : PH) : CTw l yL_again cL_again 4 (some .int) [(0, 9, 12, 19), (0, 9, 15, 73)] (rmx 11 3 18) 3 18 [.ref 0, .int a1, .ref NC] h0 (f_L_again a1 h0) := by
  refine ctw_of (by decide) (Nat.le_of_ble_eq_true rfl) ?_
  intro p e s m args below meth c D cA ad A X hnc hr hlk htab
  have X : Cx p s m args c RL cL_again 4 D cA ad A := X
  unfold f_L_again
  refine so_pick (L' := [(0, .ref 0), (1, .int a1), (2, .ref NC)]) X [0, 1, 2] rfl ?_
  refine so_aload_n (i := 2) X 2 (dkL_again (0, .aload_n 2, 1) (pgm 0 rfl)) rfl rfl ?_
  refine so_iconst (v := (0 : Int32)) X (dkL_again (1, .iconst 0, 1) (pgm 1 rfl)) ic_0 ?_
  refine so_aload_n (i := 0) X 0 (dkL_again (2, .aload_n 0, 1) (pgm 2 rfl)) rfl rfl ?_
  refine so_iload_n (i := 1) X 1 (dkL_again (3, .iload_n 1, 1) (pgm 3 rfl)) rfl rfl ?_
  refine so_callC (n := 1) (As := [.int a1]) X hr hlk htab cat_L_again (ct_X11_again l hlt 0 a1 h0 kx0) kx0 (by decide) rfl lk_1491 lk_1492 lk_1493 lk_121 lk_1494 (by decide +kernel) rfl rfl rfl ⟨Nat.le_of_ble_eq_true rfl, Nat.le_of_ble_eq_true rfl⟩ ⟨Nat.le_of_ble_eq_true rfl, Nat.le_of_ble_eq_true rfl⟩ ⟨Nat.le_of_ble_eq_true rfl, Nat.le_of_ble_eq_true rfl⟩ (by decide) (dkL_again (4, .invokevirtual 87, 3) (pgm 4 rfl)) (fun r1 h2 => ?_) rfl
  refine so_i2l X (dkL_again (7, .i2l, 1) (pgm 5 rfl)) ?_
  refine so_outSt X hnc (dkL_again (8, .lastore, 1) (pgm 6 rfl)) (fun h3 => ?_)
  refine so_goto (tgt := 18) X (dkL_again (9, .goto 9, 3) (pgm 7 rfl)) rfl ?_
  refine so_iconst (v := (0 : Int32)) X (dkL_again (18, .iconst 0, 1) (pgm 14 rfl)) ic_0 ?_
  exact so_iretW X hr hlk (Nat.le_of_ble_eq_true rfl) (Nat.le_of_ble_eq_true rfl) (dkL_again (19, .ireturn, 1) (pgm 15 rfl))
def pgL_undo : List (Nat × Instr × Nat) := [(0, .aload_n 2, 1), (1, .iconst 0, 1), (2, .aload_n 0, 1), (3, .iload_n 1, 1), (4, .invokevirtual 90, 3), (7, .i2l, 1), (8, .lastore, 1), (9, .goto 6, 3), (12, .astore_n 3, 1), (13, .iconst 1, 1), (14, .ireturn, 1), (15, .iconst 0, 1), (16, .ireturn, 1)]
theorem dkL_undo : ∀ q ∈ pgL_undo, decode cL_undo q.1 = .ok q.2 := by decide +kernel
abbrev hs_L_undo : List (Nat × Int32) := [(0, 1)]
theorem cat_L_undo : ∀ q ∈ hs_L_undo, CatchOk RL cL_undo [(0, 9, 12, 13)] 4 4 q := by
  intro q hq
  simp only [hs_L_undo, List.mem_cons, List.not_mem_nil, or_false] at hq
  rcases hq with rfl
  · refine ⟨[], ⟨0, 9, 12, 13⟩, [], rfl, ?_, by decide, by decide, lk_774, by decide, 3, 13, 1, Or.inl ⟨3, dkL_undo (12, .astore_n 3, 1) (pgm 8 rfl), rfl, rfl⟩, by decide, dkL_undo (13, .iconst 1, 1) (pgm 9 rfl), by decide, dkL_undo (14, .ireturn, 1) (pgm 10 rfl)⟩
    intro z hz
    cases hz
def f_L_undo (a1 : Int32) (h0 : PH) : Option (Int32 × PH) :=
  cbc (f_X11_undo 0 a1 h0) (fun (r1 : Int32) (h2 : PH) => lt (pL h2 NC 0 r1.toInt64) (fun (h3 : PH) => some ((0 : Int32), h3))) hs_L_undo
set_option maxRecDepth 100000 in
set_option maxHeartbeats 4000000 in
theorem ct_L_undo (l : Launch) (hlt : l.stackTraces = false) (a1 : Int32) (h0 : PH) : CTw l yL_undo cL_undo 4 (some .int) [(0, 9, 12, 13)] (rmx 11 3 18) 3 18 [.ref 0, .int a1, .ref NC] h0 (f_L_undo a1 h0) := by
  refine ctw_of (by decide) (Nat.le_of_ble_eq_true rfl) ?_
  intro p e s m args below meth c D cA ad A X hnc hr hlk htab
  have X : Cx p s m args c RL cL_undo 4 D cA ad A := X
  unfold f_L_undo
  refine so_pick (L' := [(0, .ref 0), (1, .int a1), (2, .ref NC)]) X [0, 1, 2] rfl ?_
  refine so_aload_n (i := 2) X 2 (dkL_undo (0, .aload_n 2, 1) (pgm 0 rfl)) rfl rfl ?_
  refine so_iconst (v := (0 : Int32)) X (dkL_undo (1, .iconst 0, 1) (pgm 1 rfl)) ic_0 ?_
  refine so_aload_n (i := 0) X 0 (dkL_undo (2, .aload_n 0, 1) (pgm 2 rfl)) rfl rfl ?_
  refine so_iload_n (i := 1) X 1 (dkL_undo (3, .iload_n 1, 1) (pgm 3 rfl)) rfl rfl ?_
  refine so_callC (n := 1) (As := [.int a1]) X hr hlk htab cat_L_undo (ct_X11_undo l hlt 0 a1 h0 kx0) kx0 (by decide) rfl lk_1499 lk_1500 lk_1501 lk_121 lk_1502 (by decide +kernel) rfl rfl rfl ⟨Nat.le_of_ble_eq_true rfl, Nat.le_of_ble_eq_true rfl⟩ ⟨Nat.le_of_ble_eq_true rfl, Nat.le_of_ble_eq_true rfl⟩ ⟨Nat.le_of_ble_eq_true rfl, Nat.le_of_ble_eq_true rfl⟩ (by decide) (dkL_undo (4, .invokevirtual 90, 3) (pgm 4 rfl)) (fun r1 h2 => ?_) rfl
  refine so_i2l X (dkL_undo (7, .i2l, 1) (pgm 5 rfl)) ?_
  refine so_outSt X hnc (dkL_undo (8, .lastore, 1) (pgm 6 rfl)) (fun h3 => ?_)
  refine so_goto (tgt := 15) X (dkL_undo (9, .goto 6, 3) (pgm 7 rfl)) rfl ?_
  refine so_iconst (v := (0 : Int32)) X (dkL_undo (15, .iconst 0, 1) (pgm 11 rfl)) ic_0 ?_
  exact so_iretW X hr hlk (Nat.le_of_ble_eq_true rfl) (Nat.le_of_ble_eq_true rfl) (dkL_undo (16, .ireturn, 1) (pgm 12 rfl))
def pgL_judge : List (Nat × Instr × Nat) := [(0, .aload_n 3, 1), (1, .iconst 0, 1), (2, .aload_n 0, 1), (3, .iload_n 1, 1), (4, .iload_n 2, 1), (5, .invokevirtual 93, 3), (8, .i2l, 1), (9, .lastore, 1), (10, .goto 15, 3), (13, .astore 4, 2), (15, .iconst 1, 1), (16, .ireturn, 1), (17, .astore 4, 2), (19, .iconst 2, 1), (20, .ireturn, 1), (21, .astore 4, 2), (23, .iconst 3, 1), (24, .ireturn, 1), (25, .iconst 0, 1), (26, .ireturn, 1)]
theorem dkL_judge : ∀ q ∈ pgL_judge, decode cL_judge q.1 = .ok q.2 := by decide +kernel
abbrev hs_L_judge : List (Nat × Int32) := [(1, 1), (2, 2), (0, 3)]
theorem cat_L_judge : ∀ q ∈ hs_L_judge, CatchOk RL cL_judge [(0, 10, 13, 19), (0, 10, 17, 73), (0, 10, 21, 13)] 5 5 q := by
  intro q hq
  simp only [hs_L_judge, List.mem_cons, List.not_mem_nil, or_false] at hq
  rcases hq with rfl | rfl | rfl
  · refine ⟨[], ⟨0, 10, 13, 19⟩, [⟨0, 10, 17, 73⟩, ⟨0, 10, 21, 13⟩], rfl, ?_, by decide, by decide, lk_1127, by decide, 4, 15, 1, Or.inr ⟨dkL_judge (13, .astore 4, 2) (pgm 9 rfl), rfl⟩, by decide, dkL_judge (15, .iconst 1, 1) (pgm 10 rfl), by decide, dkL_judge (16, .ireturn, 1) (pgm 11 rfl)⟩
    intro z hz
    cases hz
  · refine ⟨[⟨0, 10, 13, 19⟩], ⟨0, 10, 17, 73⟩, [⟨0, 10, 21, 13⟩], rfl, ?_, by decide, by decide, lk_1357, by decide, 4, 19, 2, Or.inr ⟨dkL_judge (17, .astore 4, 2) (pgm 12 rfl), rfl⟩, by decide, dkL_judge (19, .iconst 2, 1) (pgm 13 rfl), by decide, dkL_judge (20, .ireturn, 1) (pgm 14 rfl)⟩
    intro z hz
    simp only [List.mem_cons, List.not_mem_nil, or_false] at hz
    rcases hz with rfl
    · exact ⟨by decide, _, lk_1127, by decide⟩
  · refine ⟨[⟨0, 10, 13, 19⟩, ⟨0, 10, 17, 73⟩], ⟨0, 10, 21, 13⟩, [], rfl, ?_, by decide, by decide, lk_774, by decide, 4, 23, 3, Or.inr ⟨dkL_judge (21, .astore 4, 2) (pgm 15 rfl), rfl⟩, by decide, dkL_judge (23, .iconst 3, 1) (pgm 16 rfl), by decide, dkL_judge (24, .ireturn, 1) (pgm 17 rfl)⟩
    intro z hz
    simp only [List.mem_cons, List.not_mem_nil, or_false] at hz
    rcases hz with rfl | rfl
    · exact ⟨by decide, _, lk_1127, by decide⟩
    · exact ⟨by decide, _, lk_1357, by decide⟩
def f_L_judge (a1 : Int32) (a2 : Int32) (h0 : PH) : Option (Int32 × PH) :=
  cbc (f_X11_judge 0 a1 a2 h0) (fun (r1 : Int32) (h2 : PH) => lt (pL h2 NC 0 r1.toInt64) (fun (h3 : PH) => some ((0 : Int32), h3))) hs_L_judge
set_option maxRecDepth 100000 in
set_option maxHeartbeats 4000000 in
theorem ct_L_judge (l : Launch) (hlt : l.stackTraces = false) (a1 : Int32) (a2 : Int32) (h0 : PH) : CTw l yL_judge cL_judge 5 (some .int) [(0, 10, 13, 19), (0, 10, 17, 73), (0, 10, 21, 13)] (rmx 11 3 18) 3 18 [.ref 0, .int a1, .int a2, .ref NC] h0 (f_L_judge a1 a2 h0) := by
  refine ctw_of (by decide) (Nat.le_of_ble_eq_true rfl) ?_
  intro p e s m args below meth c D cA ad A X hnc hr hlk htab
  have X : Cx p s m args c RL cL_judge 5 D cA ad A := X
  unfold f_L_judge
  refine so_pick (L' := [(0, .ref 0), (1, .int a1), (2, .int a2), (3, .ref NC)]) X [0, 1, 2, 3] rfl ?_
  refine so_aload_n (i := 3) X 3 (dkL_judge (0, .aload_n 3, 1) (pgm 0 rfl)) rfl rfl ?_
  refine so_iconst (v := (0 : Int32)) X (dkL_judge (1, .iconst 0, 1) (pgm 1 rfl)) ic_0 ?_
  refine so_aload_n (i := 0) X 0 (dkL_judge (2, .aload_n 0, 1) (pgm 2 rfl)) rfl rfl ?_
  refine so_iload_n (i := 1) X 1 (dkL_judge (3, .iload_n 1, 1) (pgm 3 rfl)) rfl rfl ?_
  refine so_iload_n (i := 2) X 2 (dkL_judge (4, .iload_n 2, 1) (pgm 4 rfl)) rfl rfl ?_
  refine so_callC (n := 2) (As := [.int a1, .int a2]) X hr hlk htab cat_L_judge (ct_X11_judge l hlt 0 a1 a2 h0 kx0) kx0 (by decide) rfl lk_1511 lk_1512 lk_1513 lk_121 lk_1514 (by decide +kernel) rfl rfl rfl ⟨Nat.le_of_ble_eq_true rfl, Nat.le_of_ble_eq_true rfl⟩ ⟨Nat.le_of_ble_eq_true rfl, Nat.le_of_ble_eq_true rfl⟩ ⟨Nat.le_of_ble_eq_true rfl, Nat.le_of_ble_eq_true rfl⟩ (by decide) (dkL_judge (5, .invokevirtual 93, 3) (pgm 5 rfl)) (fun r1 h2 => ?_) rfl
  refine so_i2l X (dkL_judge (8, .i2l, 1) (pgm 6 rfl)) ?_
  refine so_outSt X hnc (dkL_judge (9, .lastore, 1) (pgm 7 rfl)) (fun h3 => ?_)
  refine so_goto (tgt := 25) X (dkL_judge (10, .goto 15, 3) (pgm 8 rfl)) rfl ?_
  refine so_iconst (v := (0 : Int32)) X (dkL_judge (25, .iconst 0, 1) (pgm 18 rfl)) ic_0 ?_
  exact so_iretW X hr hlk (Nat.le_of_ble_eq_true rfl) (Nat.le_of_ble_eq_true rfl) (dkL_judge (26, .ireturn, 1) (pgm 19 rfl))
def pgL_perform : List (Nat × Instr × Nat) := [(0, .aload_n 2, 1), (1, .iconst 0, 1), (2, .aload_n 0, 1), (3, .iload_n 1, 1), (4, .invokevirtual 96, 3), (7, .i2l, 1), (8, .lastore, 1), (9, .goto 9, 3), (12, .astore_n 3, 1), (13, .iconst 1, 1), (14, .ireturn, 1), (15, .astore_n 3, 1), (16, .iconst 2, 1), (17, .ireturn, 1), (18, .iconst 0, 1), (19, .ireturn, 1)]
theorem dkL_perform : ∀ q ∈ pgL_perform, decode cL_perform q.1 = .ok q.2 := by decide +kernel
abbrev hs_L_perform : List (Nat × Int32) := [(1, 1), (2, 2)]
theorem cat_L_perform : ∀ q ∈ hs_L_perform, CatchOk RL cL_perform [(0, 9, 12, 19), (0, 9, 15, 73)] 4 4 q := by
  intro q hq
  simp only [hs_L_perform, List.mem_cons, List.not_mem_nil, or_false] at hq
  rcases hq with rfl | rfl
  · refine ⟨[], ⟨0, 9, 12, 19⟩, [⟨0, 9, 15, 73⟩], rfl, ?_, by decide, by decide, lk_1127, by decide, 3, 13, 1, Or.inl ⟨3, dkL_perform (12, .astore_n 3, 1) (pgm 8 rfl), rfl, rfl⟩, by decide, dkL_perform (13, .iconst 1, 1) (pgm 9 rfl), by decide, dkL_perform (14, .ireturn, 1) (pgm 10 rfl)⟩
    intro z hz
    cases hz
  · refine ⟨[⟨0, 9, 12, 19⟩], ⟨0, 9, 15, 73⟩, [], rfl, ?_, by decide, by decide, lk_1357, by decide, 3, 16, 2, Or.inl ⟨3, dkL_perform (15, .astore_n 3, 1) (pgm 11 rfl), rfl, rfl⟩, by decide, dkL_perform (16, .iconst 2, 1) (pgm 12 rfl), by decide, dkL_perform (17, .ireturn, 1) (pgm 13 rfl)⟩
    intro z hz
    simp only [List.mem_cons, List.not_mem_nil, or_false] at hz
    rcases hz with rfl
    · exact ⟨by decide, _, lk_1127, by decide⟩
def f_L_perform (a1 : Int32) (h0 : PH) : Option (Int32 × PH) :=
  cbc (f_X11_perform 0 a1 h0) (fun (r1 : Int32) (h2 : PH) => lt (pL h2 NC 0 r1.toInt64) (fun (h3 : PH) => some ((0 : Int32), h3))) hs_L_perform
set_option maxRecDepth 100000 in
set_option maxHeartbeats 4000000 in
theorem ct_L_perform (l : Launch) (hlt : l.stackTraces = false) (a1 : Int32) (h0 : PH) : CTw l yL_perform cL_perform 4 (some .int) [(0, 9, 12, 19), (0, 9, 15, 73)] (rmx 11 3 18) 3 18 [.ref 0, .int a1, .ref NC] h0 (f_L_perform a1 h0) := by
  refine ctw_of (by decide) (Nat.le_of_ble_eq_true rfl) ?_
  intro p e s m args below meth c D cA ad A X hnc hr hlk htab
  have X : Cx p s m args c RL cL_perform 4 D cA ad A := X
  unfold f_L_perform
  refine so_pick (L' := [(0, .ref 0), (1, .int a1), (2, .ref NC)]) X [0, 1, 2] rfl ?_
  refine so_aload_n (i := 2) X 2 (dkL_perform (0, .aload_n 2, 1) (pgm 0 rfl)) rfl rfl ?_
  refine so_iconst (v := (0 : Int32)) X (dkL_perform (1, .iconst 0, 1) (pgm 1 rfl)) ic_0 ?_
  refine so_aload_n (i := 0) X 0 (dkL_perform (2, .aload_n 0, 1) (pgm 2 rfl)) rfl rfl ?_
  refine so_iload_n (i := 1) X 1 (dkL_perform (3, .iload_n 1, 1) (pgm 3 rfl)) rfl rfl ?_
  refine so_callC (n := 1) (As := [.int a1]) X hr hlk htab cat_L_perform (ct_X11_perform l hlt 0 a1 h0 kx0) kx0 (by decide) rfl lk_1518 lk_1519 lk_1520 lk_121 lk_1521 (by decide +kernel) rfl rfl rfl ⟨Nat.le_of_ble_eq_true rfl, Nat.le_of_ble_eq_true rfl⟩ ⟨Nat.le_of_ble_eq_true rfl, Nat.le_of_ble_eq_true rfl⟩ ⟨Nat.le_of_ble_eq_true rfl, Nat.le_of_ble_eq_true rfl⟩ (by decide) (dkL_perform (4, .invokevirtual 96, 3) (pgm 4 rfl)) (fun r1 h2 => ?_) rfl
  refine so_i2l X (dkL_perform (7, .i2l, 1) (pgm 5 rfl)) ?_
  refine so_outSt X hnc (dkL_perform (8, .lastore, 1) (pgm 6 rfl)) (fun h3 => ?_)
  refine so_goto (tgt := 18) X (dkL_perform (9, .goto 9, 3) (pgm 7 rfl)) rfl ?_
  refine so_iconst (v := (0 : Int32)) X (dkL_perform (18, .iconst 0, 1) (pgm 14 rfl)) ic_0 ?_
  exact so_iretW X hr hlk (Nat.le_of_ble_eq_true rfl) (Nat.le_of_ble_eq_true rfl) (dkL_perform (19, .ireturn, 1) (pgm 15 rfl))
def pgL_season : List (Nat × Instr × Nat) := [(0, .aload_n 3, 1), (1, .iconst 0, 1), (2, .aload_n 0, 1), (3, .iload_n 1, 1), (4, .iload_n 2, 1), (5, .invokevirtual 99, 3), (8, .i2l, 1), (9, .lastore, 1), (10, .goto 11, 3), (13, .astore 4, 2), (15, .iconst 1, 1), (16, .ireturn, 1), (17, .astore 4, 2), (19, .iconst 2, 1), (20, .ireturn, 1), (21, .iconst 0, 1), (22, .ireturn, 1)]
theorem dkL_season : ∀ q ∈ pgL_season, decode cL_season q.1 = .ok q.2 := by decide +kernel
abbrev hs_L_season : List (Nat × Int32) := [(0, 1), (2, 2)]
theorem cat_L_season : ∀ q ∈ hs_L_season, CatchOk RL cL_season [(0, 10, 13, 13), (0, 10, 17, 73)] 5 5 q := by
  intro q hq
  simp only [hs_L_season, List.mem_cons, List.not_mem_nil, or_false] at hq
  rcases hq with rfl | rfl
  · refine ⟨[], ⟨0, 10, 13, 13⟩, [⟨0, 10, 17, 73⟩], rfl, ?_, by decide, by decide, lk_774, by decide, 4, 15, 1, Or.inr ⟨dkL_season (13, .astore 4, 2) (pgm 9 rfl), rfl⟩, by decide, dkL_season (15, .iconst 1, 1) (pgm 10 rfl), by decide, dkL_season (16, .ireturn, 1) (pgm 11 rfl)⟩
    intro z hz
    cases hz
  · refine ⟨[⟨0, 10, 13, 13⟩], ⟨0, 10, 17, 73⟩, [], rfl, ?_, by decide, by decide, lk_1357, by decide, 4, 19, 2, Or.inr ⟨dkL_season (17, .astore 4, 2) (pgm 12 rfl), rfl⟩, by decide, dkL_season (19, .iconst 2, 1) (pgm 13 rfl), by decide, dkL_season (20, .ireturn, 1) (pgm 14 rfl)⟩
    intro z hz
    simp only [List.mem_cons, List.not_mem_nil, or_false] at hz
    rcases hz with rfl
    · exact ⟨by decide, _, lk_774, by decide⟩
def f_L_season (a1 : Int32) (a2 : Int32) (h0 : PH) : Option (Int32 × PH) :=
  cbc (f_X11_season 0 a1 a2 h0) (fun (r1 : Int32) (h2 : PH) => lt (pL h2 NC 0 r1.toInt64) (fun (h3 : PH) => some ((0 : Int32), h3))) hs_L_season
set_option maxRecDepth 100000 in
set_option maxHeartbeats 4000000 in
theorem ct_L_season (l : Launch) (hlt : l.stackTraces = false) (a1 : Int32) (a2 : Int32) (h0 : PH) : CTw l yL_season cL_season 5 (some .int) [(0, 10, 13, 13), (0, 10, 17, 73)] (rmx 11 3 18) 3 18 [.ref 0, .int a1, .int a2, .ref NC] h0 (f_L_season a1 a2 h0) := by
  refine ctw_of (by decide) (Nat.le_of_ble_eq_true rfl) ?_
  intro p e s m args below meth c D cA ad A X hnc hr hlk htab
  have X : Cx p s m args c RL cL_season 5 D cA ad A := X
  unfold f_L_season
  refine so_pick (L' := [(0, .ref 0), (1, .int a1), (2, .int a2), (3, .ref NC)]) X [0, 1, 2, 3] rfl ?_
  refine so_aload_n (i := 3) X 3 (dkL_season (0, .aload_n 3, 1) (pgm 0 rfl)) rfl rfl ?_
  refine so_iconst (v := (0 : Int32)) X (dkL_season (1, .iconst 0, 1) (pgm 1 rfl)) ic_0 ?_
  refine so_aload_n (i := 0) X 0 (dkL_season (2, .aload_n 0, 1) (pgm 2 rfl)) rfl rfl ?_
  refine so_iload_n (i := 1) X 1 (dkL_season (3, .iload_n 1, 1) (pgm 3 rfl)) rfl rfl ?_
  refine so_iload_n (i := 2) X 2 (dkL_season (4, .iload_n 2, 1) (pgm 4 rfl)) rfl rfl ?_
  refine so_callC (n := 2) (As := [.int a1, .int a2]) X hr hlk htab cat_L_season (ct_X11_season l hlt 0 a1 a2 h0 kx0) kx0 (by decide) rfl lk_1525 lk_1526 lk_1527 lk_121 lk_1528 (by decide +kernel) rfl rfl rfl ⟨Nat.le_of_ble_eq_true rfl, Nat.le_of_ble_eq_true rfl⟩ ⟨Nat.le_of_ble_eq_true rfl, Nat.le_of_ble_eq_true rfl⟩ ⟨Nat.le_of_ble_eq_true rfl, Nat.le_of_ble_eq_true rfl⟩ (by decide) (dkL_season (5, .invokevirtual 99, 3) (pgm 5 rfl)) (fun r1 h2 => ?_) rfl
  refine so_i2l X (dkL_season (8, .i2l, 1) (pgm 6 rfl)) ?_
  refine so_outSt X hnc (dkL_season (9, .lastore, 1) (pgm 7 rfl)) (fun h3 => ?_)
  refine so_goto (tgt := 21) X (dkL_season (10, .goto 11, 3) (pgm 8 rfl)) rfl ?_
  refine so_iconst (v := (0 : Int32)) X (dkL_season (21, .iconst 0, 1) (pgm 15 rfl)) ic_0 ?_
  exact so_iretW X hr hlk (Nat.le_of_ble_eq_true rfl) (Nat.le_of_ble_eq_true rfl) (dkL_season (22, .ireturn, 1) (pgm 16 rfl))
def pgL_holding : List (Nat × Instr × Nat) := [(0, .aload 4, 2), (2, .iconst 0, 1), (3, .aload_n 0, 1), (4, .iload_n 1, 1), (5, .iload_n 2, 1), (6, .iload_n 3, 1), (7, .invokevirtual 102, 3), (10, .lastore, 1), (11, .goto 15, 3), (14, .astore 5, 2), (16, .iconst 1, 1), (17, .ireturn, 1), (18, .astore 5, 2), (20, .iconst 2, 1), (21, .ireturn, 1), (22, .astore 5, 2), (24, .iconst 3, 1), (25, .ireturn, 1), (26, .iconst 0, 1), (27, .ireturn, 1)]
theorem dkL_holding : ∀ q ∈ pgL_holding, decode cL_holding q.1 = .ok q.2 := by decide +kernel
abbrev hs_L_holding : List (Nat × Int32) := [(1, 1), (2, 2), (0, 3)]
theorem cat_L_holding : ∀ q ∈ hs_L_holding, CatchOk RL cL_holding [(0, 11, 14, 19), (0, 11, 18, 73), (0, 11, 22, 13)] 6 7 q := by
  intro q hq
  simp only [hs_L_holding, List.mem_cons, List.not_mem_nil, or_false] at hq
  rcases hq with rfl | rfl | rfl
  · refine ⟨[], ⟨0, 11, 14, 19⟩, [⟨0, 11, 18, 73⟩, ⟨0, 11, 22, 13⟩], rfl, ?_, by decide, by decide, lk_1127, by decide, 5, 16, 1, Or.inr ⟨dkL_holding (14, .astore 5, 2) (pgm 9 rfl), rfl⟩, by decide, dkL_holding (16, .iconst 1, 1) (pgm 10 rfl), by decide, dkL_holding (17, .ireturn, 1) (pgm 11 rfl)⟩
    intro z hz
    cases hz
  · refine ⟨[⟨0, 11, 14, 19⟩], ⟨0, 11, 18, 73⟩, [⟨0, 11, 22, 13⟩], rfl, ?_, by decide, by decide, lk_1357, by decide, 5, 20, 2, Or.inr ⟨dkL_holding (18, .astore 5, 2) (pgm 12 rfl), rfl⟩, by decide, dkL_holding (20, .iconst 2, 1) (pgm 13 rfl), by decide, dkL_holding (21, .ireturn, 1) (pgm 14 rfl)⟩
    intro z hz
    simp only [List.mem_cons, List.not_mem_nil, or_false] at hz
    rcases hz with rfl
    · exact ⟨by decide, _, lk_1127, by decide⟩
  · refine ⟨[⟨0, 11, 14, 19⟩, ⟨0, 11, 18, 73⟩], ⟨0, 11, 22, 13⟩, [], rfl, ?_, by decide, by decide, lk_774, by decide, 5, 24, 3, Or.inr ⟨dkL_holding (22, .astore 5, 2) (pgm 15 rfl), rfl⟩, by decide, dkL_holding (24, .iconst 3, 1) (pgm 16 rfl), by decide, dkL_holding (25, .ireturn, 1) (pgm 17 rfl)⟩
    intro z hz
    simp only [List.mem_cons, List.not_mem_nil, or_false] at hz
    rcases hz with rfl | rfl
    · exact ⟨by decide, _, lk_1127, by decide⟩
    · exact ⟨by decide, _, lk_1357, by decide⟩
def f_L_holding (a1 : Int32) (a2 : Int32) (a3 : Int32) (h0 : PH) : Option (Int32 × PH) :=
  cbc (f_X11_holding 0 a1 a2 a3 h0) (fun (r1 : Int64) (h2 : PH) => lt (pL h2 NC 0 r1) (fun (h3 : PH) => some ((0 : Int32), h3))) hs_L_holding
set_option maxRecDepth 100000 in
set_option maxHeartbeats 4000000 in
theorem ct_L_holding (l : Launch) (hlt : l.stackTraces = false) (a1 : Int32) (a2 : Int32) (a3 : Int32) (h0 : PH) : CTw l yL_holding cL_holding 6 (some .int) [(0, 11, 14, 19), (0, 11, 18, 73), (0, 11, 22, 13)] (rmx 11 3 18) 3 18 [.ref 0, .int a1, .int a2, .int a3, .ref NC] h0 (f_L_holding a1 a2 a3 h0) := by
  refine ctw_of (by decide) (Nat.le_of_ble_eq_true rfl) ?_
  intro p e s m args below meth c D cA ad A X hnc hr hlk htab
  have X : Cx p s m args c RL cL_holding 6 D cA ad A := X
  unfold f_L_holding
  refine so_pick (L' := [(0, .ref 0), (1, .int a1), (2, .int a2), (3, .int a3), (4, .ref NC)]) X [0, 1, 2, 3, 4] rfl ?_
  refine so_aload (i := 4) X 4 (dkL_holding (0, .aload 4, 2) (pgm 0 rfl)) rfl ?_
  refine so_iconst (v := (0 : Int32)) X (dkL_holding (2, .iconst 0, 1) (pgm 1 rfl)) ic_0 ?_
  refine so_aload_n (i := 0) X 0 (dkL_holding (3, .aload_n 0, 1) (pgm 2 rfl)) rfl rfl ?_
  refine so_iload_n (i := 1) X 1 (dkL_holding (4, .iload_n 1, 1) (pgm 3 rfl)) rfl rfl ?_
  refine so_iload_n (i := 2) X 2 (dkL_holding (5, .iload_n 2, 1) (pgm 4 rfl)) rfl rfl ?_
  refine so_iload_n (i := 3) X 3 (dkL_holding (6, .iload_n 3, 1) (pgm 5 rfl)) rfl rfl ?_
  refine so_callC (n := 3) (As := [.int a1, .int a2, .int a3]) X hr hlk htab cat_L_holding (ct_X11_holding l hlt 0 a1 a2 a3 h0 kx0) kx0 (by decide) rfl lk_1537 lk_1538 lk_1539 lk_121 lk_1540 (by decide +kernel) rfl rfl rfl ⟨Nat.le_of_ble_eq_true rfl, Nat.le_of_ble_eq_true rfl⟩ ⟨Nat.le_of_ble_eq_true rfl, Nat.le_of_ble_eq_true rfl⟩ ⟨Nat.le_of_ble_eq_true rfl, Nat.le_of_ble_eq_true rfl⟩ (by decide) (dkL_holding (7, .invokevirtual 102, 3) (pgm 6 rfl)) (fun r1 h2 => ?_) rfl
  refine so_outSt X hnc (dkL_holding (10, .lastore, 1) (pgm 7 rfl)) (fun h3 => ?_)
  refine so_goto (tgt := 26) X (dkL_holding (11, .goto 15, 3) (pgm 8 rfl)) rfl ?_
  refine so_iconst (v := (0 : Int32)) X (dkL_holding (26, .iconst 0, 1) (pgm 18 rfl)) ic_0 ?_
  exact so_iretW X hr hlk (Nat.le_of_ble_eq_true rfl) (Nat.le_of_ble_eq_true rfl) (dkL_holding (27, .ireturn, 1) (pgm 19 rfl))
def pgL_grants : List (Nat × Instr × Nat) := [(0, .aload 4, 2), (2, .iconst 0, 1), (3, .aload_n 0, 1), (4, .iload_n 1, 1), (5, .iload_n 2, 1), (6, .iload_n 3, 1), (7, .invokevirtual 106, 3), (10, .i2l, 1), (11, .lastore, 1), (12, .goto 15, 3), (15, .astore 5, 2), (17, .iconst 1, 1), (18, .ireturn, 1), (19, .astore 5, 2), (21, .iconst 2, 1), (22, .ireturn, 1), (23, .astore 5, 2), (25, .iconst 3, 1), (26, .ireturn, 1), (27, .iconst 0, 1), (28, .ireturn, 1)]
theorem dkL_grants : ∀ q ∈ pgL_grants, decode cL_grants q.1 = .ok q.2 := by decide +kernel
abbrev hs_L_grants : List (Nat × Int32) := [(1, 1), (2, 2), (0, 3)]
theorem cat_L_grants : ∀ q ∈ hs_L_grants, CatchOk RL cL_grants [(0, 12, 15, 19), (0, 12, 19, 73), (0, 12, 23, 13)] 6 7 q := by
  intro q hq
  simp only [hs_L_grants, List.mem_cons, List.not_mem_nil, or_false] at hq
  rcases hq with rfl | rfl | rfl
  · refine ⟨[], ⟨0, 12, 15, 19⟩, [⟨0, 12, 19, 73⟩, ⟨0, 12, 23, 13⟩], rfl, ?_, by decide, by decide, lk_1127, by decide, 5, 17, 1, Or.inr ⟨dkL_grants (15, .astore 5, 2) (pgm 10 rfl), rfl⟩, by decide, dkL_grants (17, .iconst 1, 1) (pgm 11 rfl), by decide, dkL_grants (18, .ireturn, 1) (pgm 12 rfl)⟩
    intro z hz
    cases hz
  · refine ⟨[⟨0, 12, 15, 19⟩], ⟨0, 12, 19, 73⟩, [⟨0, 12, 23, 13⟩], rfl, ?_, by decide, by decide, lk_1357, by decide, 5, 21, 2, Or.inr ⟨dkL_grants (19, .astore 5, 2) (pgm 13 rfl), rfl⟩, by decide, dkL_grants (21, .iconst 2, 1) (pgm 14 rfl), by decide, dkL_grants (22, .ireturn, 1) (pgm 15 rfl)⟩
    intro z hz
    simp only [List.mem_cons, List.not_mem_nil, or_false] at hz
    rcases hz with rfl
    · exact ⟨by decide, _, lk_1127, by decide⟩
  · refine ⟨[⟨0, 12, 15, 19⟩, ⟨0, 12, 19, 73⟩], ⟨0, 12, 23, 13⟩, [], rfl, ?_, by decide, by decide, lk_774, by decide, 5, 25, 3, Or.inr ⟨dkL_grants (23, .astore 5, 2) (pgm 16 rfl), rfl⟩, by decide, dkL_grants (25, .iconst 3, 1) (pgm 17 rfl), by decide, dkL_grants (26, .ireturn, 1) (pgm 18 rfl)⟩
    intro z hz
    simp only [List.mem_cons, List.not_mem_nil, or_false] at hz
    rcases hz with rfl | rfl
    · exact ⟨by decide, _, lk_1127, by decide⟩
    · exact ⟨by decide, _, lk_1357, by decide⟩
def f_L_grants (a1 : Int32) (a2 : Int32) (a3 : Int32) (h0 : PH) : Option (Int32 × PH) :=
  cbc (f_X11_grants 0 a1 a2 a3 h0) (fun (r1 : Int32) (h2 : PH) => lt (pL h2 NC 0 r1.toInt64) (fun (h3 : PH) => some ((0 : Int32), h3))) hs_L_grants
set_option maxRecDepth 100000 in
set_option maxHeartbeats 4000000 in
theorem ct_L_grants (l : Launch) (hlt : l.stackTraces = false) (a1 : Int32) (a2 : Int32) (a3 : Int32) (h0 : PH) : CTw l yL_grants cL_grants 6 (some .int) [(0, 12, 15, 19), (0, 12, 19, 73), (0, 12, 23, 13)] (rmx 11 3 18) 3 18 [.ref 0, .int a1, .int a2, .int a3, .ref NC] h0 (f_L_grants a1 a2 a3 h0) := by
  refine ctw_of (by decide) (Nat.le_of_ble_eq_true rfl) ?_
  intro p e s m args below meth c D cA ad A X hnc hr hlk htab
  have X : Cx p s m args c RL cL_grants 6 D cA ad A := X
  unfold f_L_grants
  refine so_pick (L' := [(0, .ref 0), (1, .int a1), (2, .int a2), (3, .int a3), (4, .ref NC)]) X [0, 1, 2, 3, 4] rfl ?_
  refine so_aload (i := 4) X 4 (dkL_grants (0, .aload 4, 2) (pgm 0 rfl)) rfl ?_
  refine so_iconst (v := (0 : Int32)) X (dkL_grants (2, .iconst 0, 1) (pgm 1 rfl)) ic_0 ?_
  refine so_aload_n (i := 0) X 0 (dkL_grants (3, .aload_n 0, 1) (pgm 2 rfl)) rfl rfl ?_
  refine so_iload_n (i := 1) X 1 (dkL_grants (4, .iload_n 1, 1) (pgm 3 rfl)) rfl rfl ?_
  refine so_iload_n (i := 2) X 2 (dkL_grants (5, .iload_n 2, 1) (pgm 4 rfl)) rfl rfl ?_
  refine so_iload_n (i := 3) X 3 (dkL_grants (6, .iload_n 3, 1) (pgm 5 rfl)) rfl rfl ?_
  refine so_callC (n := 3) (As := [.int a1, .int a2, .int a3]) X hr hlk htab cat_L_grants (ct_X11_grants l hlt 0 a1 a2 a3 h0 kx0) kx0 (by decide) rfl lk_1570 lk_1571 lk_1572 lk_121 lk_1573 (by decide +kernel) rfl rfl rfl ⟨Nat.le_of_ble_eq_true rfl, Nat.le_of_ble_eq_true rfl⟩ ⟨Nat.le_of_ble_eq_true rfl, Nat.le_of_ble_eq_true rfl⟩ ⟨Nat.le_of_ble_eq_true rfl, Nat.le_of_ble_eq_true rfl⟩ (by decide) (dkL_grants (7, .invokevirtual 106, 3) (pgm 6 rfl)) (fun r1 h2 => ?_) rfl
  refine so_i2l X (dkL_grants (10, .i2l, 1) (pgm 7 rfl)) ?_
  refine so_outSt X hnc (dkL_grants (11, .lastore, 1) (pgm 8 rfl)) (fun h3 => ?_)
  refine so_goto (tgt := 27) X (dkL_grants (12, .goto 15, 3) (pgm 9 rfl)) rfl ?_
  refine so_iconst (v := (0 : Int32)) X (dkL_grants (27, .iconst 0, 1) (pgm 19 rfl)) ic_0 ?_
  exact so_iretW X hr hlk (Nat.le_of_ble_eq_true rfl) (Nat.le_of_ble_eq_true rfl) (dkL_grants (28, .ireturn, 1) (pgm 20 rfl))
def pgL_tray : List (Nat × Instr × Nat) := [(0, .aload_n 0, 1), (1, .iload_n 1, 1), (2, .iload_n 2, 1), (3, .iload_n 3, 1), (4, .invokevirtual 109, 3), (7, .goto 11, 3), (10, .astore 4, 2), (12, .iconst 1, 1), (13, .ireturn, 1), (14, .astore 4, 2), (16, .iconst 2, 1), (17, .ireturn, 1), (18, .iconst 0, 1), (19, .ireturn, 1)]
theorem dkL_tray : ∀ q ∈ pgL_tray, decode cL_tray q.1 = .ok q.2 := by decide +kernel
abbrev hs_L_tray : List (Nat × Int32) := [(1, 1), (0, 2)]
theorem cat_L_tray : ∀ q ∈ hs_L_tray, CatchOk RL cL_tray [(0, 7, 10, 19), (0, 7, 14, 13)] 5 4 q := by
  intro q hq
  simp only [hs_L_tray, List.mem_cons, List.not_mem_nil, or_false] at hq
  rcases hq with rfl | rfl
  · refine ⟨[], ⟨0, 7, 10, 19⟩, [⟨0, 7, 14, 13⟩], rfl, ?_, by decide, by decide, lk_1127, by decide, 4, 12, 1, Or.inr ⟨dkL_tray (10, .astore 4, 2) (pgm 6 rfl), rfl⟩, by decide, dkL_tray (12, .iconst 1, 1) (pgm 7 rfl), by decide, dkL_tray (13, .ireturn, 1) (pgm 8 rfl)⟩
    intro z hz
    cases hz
  · refine ⟨[⟨0, 7, 10, 19⟩], ⟨0, 7, 14, 13⟩, [], rfl, ?_, by decide, by decide, lk_774, by decide, 4, 16, 2, Or.inr ⟨dkL_tray (14, .astore 4, 2) (pgm 9 rfl), rfl⟩, by decide, dkL_tray (16, .iconst 2, 1) (pgm 10 rfl), by decide, dkL_tray (17, .ireturn, 1) (pgm 11 rfl)⟩
    intro z hz
    simp only [List.mem_cons, List.not_mem_nil, or_false] at hz
    rcases hz with rfl
    · exact ⟨by decide, _, lk_1127, by decide⟩
def f_L_tray (a1 : Int32) (a2 : Int32) (a3 : Int32) (h0 : PH) : Option (Int32 × PH) :=
  cbc (f_X11_tray 0 a1 a2 a3 h0) (fun (r1 : Unit) (h2 : PH) => some ((0 : Int32), h2)) hs_L_tray
set_option maxRecDepth 100000 in
set_option maxHeartbeats 4000000 in
theorem ct_L_tray (l : Launch) (hlt : l.stackTraces = false) (a1 : Int32) (a2 : Int32) (a3 : Int32) (h0 : PH) : CTw l yL_tray cL_tray 5 (some .int) [(0, 7, 10, 19), (0, 7, 14, 13)] (rmx 11 3 18) 3 18 [.ref 0, .int a1, .int a2, .int a3] h0 (f_L_tray a1 a2 a3 h0) := by
  refine ctw_of (by decide) (Nat.le_of_ble_eq_true rfl) ?_
  intro p e s m args below meth c D cA ad A X hnc hr hlk htab
  have X : Cx p s m args c RL cL_tray 5 D cA ad A := X
  unfold f_L_tray
  refine so_pick (L' := [(0, .ref 0), (1, .int a1), (2, .int a2), (3, .int a3)]) X [0, 1, 2, 3] rfl ?_
  refine so_aload_n (i := 0) X 0 (dkL_tray (0, .aload_n 0, 1) (pgm 0 rfl)) rfl rfl ?_
  refine so_iload_n (i := 1) X 1 (dkL_tray (1, .iload_n 1, 1) (pgm 1 rfl)) rfl rfl ?_
  refine so_iload_n (i := 2) X 2 (dkL_tray (2, .iload_n 2, 1) (pgm 2 rfl)) rfl rfl ?_
  refine so_iload_n (i := 3) X 3 (dkL_tray (3, .iload_n 3, 1) (pgm 3 rfl)) rfl rfl ?_
  refine so_callC (n := 3) (As := [.int a1, .int a2, .int a3]) X hr hlk htab cat_L_tray (ct_X11_tray l hlt 0 a1 a2 a3 h0 kx0) kx0 (by decide) rfl lk_1581 lk_1582 lk_1583 lk_121 lk_1584 (by decide +kernel) rfl rfl rfl ⟨Nat.le_of_ble_eq_true rfl, Nat.le_of_ble_eq_true rfl⟩ ⟨Nat.le_of_ble_eq_true rfl, Nat.le_of_ble_eq_true rfl⟩ ⟨Nat.le_of_ble_eq_true rfl, Nat.le_of_ble_eq_true rfl⟩ (by decide) (dkL_tray (4, .invokevirtual 109, 3) (pgm 4 rfl)) (fun r1 h2 => ?_) rfl
  refine so_goto (tgt := 18) X (dkL_tray (7, .goto 11, 3) (pgm 5 rfl)) rfl ?_
  refine so_iconst (v := (0 : Int32)) X (dkL_tray (18, .iconst 0, 1) (pgm 12 rfl)) ic_0 ?_
  exact so_iretW X hr hlk (Nat.le_of_ble_eq_true rfl) (Nat.le_of_ble_eq_true rfl) (dkL_tray (19, .ireturn, 1) (pgm 13 rfl))
def pgL_write : List (Nat × Instr × Nat) := [(0, .aload 5, 2), (2, .iconst 0, 1), (3, .aload_n 0, 1), (4, .iload_n 1, 1), (5, .iload_n 2, 1), (6, .lload_n 3, 1), (7, .invokevirtual 113, 3), (10, .lastore, 1), (11, .goto 15, 3), (14, .astore 6, 2), (16, .iconst 1, 1), (17, .ireturn, 1), (18, .astore 6, 2), (20, .iconst 2, 1), (21, .ireturn, 1), (22, .astore 6, 2), (24, .iconst 3, 1), (25, .ireturn, 1), (26, .iconst 0, 1), (27, .ireturn, 1)]
theorem dkL_write : ∀ q ∈ pgL_write, decode cL_write q.1 = .ok q.2 := by decide +kernel
abbrev hs_L_write : List (Nat × Int32) := [(1, 1), (2, 2), (3, 3)]
theorem cat_L_write : ∀ q ∈ hs_L_write, CatchOk RL cL_write [(0, 11, 14, 19), (0, 11, 18, 73), (0, 11, 22, 117)] 7 7 q := by
  intro q hq
  simp only [hs_L_write, List.mem_cons, List.not_mem_nil, or_false] at hq
  rcases hq with rfl | rfl | rfl
  · refine ⟨[], ⟨0, 11, 14, 19⟩, [⟨0, 11, 18, 73⟩, ⟨0, 11, 22, 117⟩], rfl, ?_, by decide, by decide, lk_1127, by decide, 6, 16, 1, Or.inr ⟨dkL_write (14, .astore 6, 2) (pgm 9 rfl), rfl⟩, by decide, dkL_write (16, .iconst 1, 1) (pgm 10 rfl), by decide, dkL_write (17, .ireturn, 1) (pgm 11 rfl)⟩
    intro z hz
    cases hz
  · refine ⟨[⟨0, 11, 14, 19⟩], ⟨0, 11, 18, 73⟩, [⟨0, 11, 22, 117⟩], rfl, ?_, by decide, by decide, lk_1357, by decide, 6, 20, 2, Or.inr ⟨dkL_write (18, .astore 6, 2) (pgm 12 rfl), rfl⟩, by decide, dkL_write (20, .iconst 2, 1) (pgm 13 rfl), by decide, dkL_write (21, .ireturn, 1) (pgm 14 rfl)⟩
    intro z hz
    simp only [List.mem_cons, List.not_mem_nil, or_false] at hz
    rcases hz with rfl
    · exact ⟨by decide, _, lk_1127, by decide⟩
  · refine ⟨[⟨0, 11, 14, 19⟩, ⟨0, 11, 18, 73⟩], ⟨0, 11, 22, 117⟩, [], rfl, ?_, by decide, by decide, lk_1596, by decide, 6, 24, 3, Or.inr ⟨dkL_write (22, .astore 6, 2) (pgm 15 rfl), rfl⟩, by decide, dkL_write (24, .iconst 3, 1) (pgm 16 rfl), by decide, dkL_write (25, .ireturn, 1) (pgm 17 rfl)⟩
    intro z hz
    simp only [List.mem_cons, List.not_mem_nil, or_false] at hz
    rcases hz with rfl | rfl
    · exact ⟨by decide, _, lk_1127, by decide⟩
    · exact ⟨by decide, _, lk_1357, by decide⟩
def f_L_write (a1 : Int32) (a2 : Int32) (a3 : Int64) (h0 : PH) : Option (Int32 × PH) :=
  cbc (f_X11_write 0 a1 a2 a3 h0) (fun (r1 : Int64) (h2 : PH) => lt (pL h2 NC 0 r1) (fun (h3 : PH) => some ((0 : Int32), h3))) hs_L_write
set_option maxRecDepth 100000 in
set_option maxHeartbeats 4000000 in
theorem ct_L_write (l : Launch) (hlt : l.stackTraces = false) (a1 : Int32) (a2 : Int32) (a3 : Int64) (h0 : PH) : CTw l yL_write cL_write 7 (some .int) [(0, 11, 14, 19), (0, 11, 18, 73), (0, 11, 22, 117)] (rmx 11 3 18) 3 18 [.ref 0, .int a1, .int a2, .long a3, .ref NC] h0 (f_L_write a1 a2 a3 h0) := by
  refine ctw_of (by decide) (Nat.le_of_ble_eq_true rfl) ?_
  intro p e s m args below meth c D cA ad A X hnc hr hlk htab
  have X : Cx p s m args c RL cL_write 7 D cA ad A := X
  unfold f_L_write
  refine so_pick (L' := [(0, .ref 0), (1, .int a1), (2, .int a2), (3, .long a3), (5, .ref NC)]) X [0, 1, 2, 3, 4] rfl ?_
  refine so_aload (i := 5) X 4 (dkL_write (0, .aload 5, 2) (pgm 0 rfl)) rfl ?_
  refine so_iconst (v := (0 : Int32)) X (dkL_write (2, .iconst 0, 1) (pgm 1 rfl)) ic_0 ?_
  refine so_aload_n (i := 0) X 0 (dkL_write (3, .aload_n 0, 1) (pgm 2 rfl)) rfl rfl ?_
  refine so_iload_n (i := 1) X 1 (dkL_write (4, .iload_n 1, 1) (pgm 3 rfl)) rfl rfl ?_
  refine so_iload_n (i := 2) X 2 (dkL_write (5, .iload_n 2, 1) (pgm 4 rfl)) rfl rfl ?_
  refine so_lload_n (i := 3) X 3 (dkL_write (6, .lload_n 3, 1) (pgm 5 rfl)) rfl rfl ?_
  refine so_callC (n := 3) (As := [.int a1, .int a2, .long a3]) X hr hlk htab cat_L_write (ct_X11_write l hlt 0 a1 a2 a3 h0 kx0) kx0 (by decide) rfl lk_1597 lk_1598 lk_1599 lk_121 lk_1600 (by decide +kernel) rfl rfl rfl ⟨Nat.le_of_ble_eq_true rfl, Nat.le_of_ble_eq_true rfl⟩ ⟨Nat.le_of_ble_eq_true rfl, Nat.le_of_ble_eq_true rfl⟩ ⟨Nat.le_of_ble_eq_true rfl, Nat.le_of_ble_eq_true rfl⟩ (by decide) (dkL_write (7, .invokevirtual 113, 3) (pgm 6 rfl)) (fun r1 h2 => ?_) rfl
  refine so_outSt X hnc (dkL_write (10, .lastore, 1) (pgm 7 rfl)) (fun h3 => ?_)
  refine so_goto (tgt := 26) X (dkL_write (11, .goto 15, 3) (pgm 8 rfl)) rfl ?_
  refine so_iconst (v := (0 : Int32)) X (dkL_write (26, .iconst 0, 1) (pgm 18 rfl)) ic_0 ?_
  exact so_iretW X hr hlk (Nat.le_of_ble_eq_true rfl) (Nat.le_of_ble_eq_true rfl) (dkL_write (27, .ireturn, 1) (pgm 19 rfl))
def pgL_pour : List (Nat × Instr × Nat) := [(0, .aload_n 2, 1), (1, .iconst 0, 1), (2, .aload_n 0, 1), (3, .iload_n 1, 1), (4, .invokevirtual 119, 3), (7, .i2l, 1), (8, .lastore, 1), (9, .goto 9, 3), (12, .astore_n 3, 1), (13, .iconst 1, 1), (14, .ireturn, 1), (15, .astore_n 3, 1), (16, .iconst 2, 1), (17, .ireturn, 1), (18, .iconst 0, 1), (19, .ireturn, 1)]
theorem dkL_pour : ∀ q ∈ pgL_pour, decode cL_pour q.1 = .ok q.2 := by decide +kernel
abbrev hs_L_pour : List (Nat × Int32) := [(1, 1), (2, 2)]
theorem cat_L_pour : ∀ q ∈ hs_L_pour, CatchOk RL cL_pour [(0, 9, 12, 19), (0, 9, 15, 73)] 4 4 q := by
  intro q hq
  simp only [hs_L_pour, List.mem_cons, List.not_mem_nil, or_false] at hq
  rcases hq with rfl | rfl
  · refine ⟨[], ⟨0, 9, 12, 19⟩, [⟨0, 9, 15, 73⟩], rfl, ?_, by decide, by decide, lk_1127, by decide, 3, 13, 1, Or.inl ⟨3, dkL_pour (12, .astore_n 3, 1) (pgm 8 rfl), rfl, rfl⟩, by decide, dkL_pour (13, .iconst 1, 1) (pgm 9 rfl), by decide, dkL_pour (14, .ireturn, 1) (pgm 10 rfl)⟩
    intro z hz
    cases hz
  · refine ⟨[⟨0, 9, 12, 19⟩], ⟨0, 9, 15, 73⟩, [], rfl, ?_, by decide, by decide, lk_1357, by decide, 3, 16, 2, Or.inl ⟨3, dkL_pour (15, .astore_n 3, 1) (pgm 11 rfl), rfl, rfl⟩, by decide, dkL_pour (16, .iconst 2, 1) (pgm 12 rfl), by decide, dkL_pour (17, .ireturn, 1) (pgm 13 rfl)⟩
    intro z hz
    simp only [List.mem_cons, List.not_mem_nil, or_false] at hz
    rcases hz with rfl
    · exact ⟨by decide, _, lk_1127, by decide⟩
def f_L_pour (a1 : Int32) (h0 : PH) : Option (Int32 × PH) :=
  cbc (f_X11_pour 0 a1 h0) (fun (r1 : Int32) (h2 : PH) => lt (pL h2 NC 0 r1.toInt64) (fun (h3 : PH) => some ((0 : Int32), h3))) hs_L_pour
set_option maxRecDepth 100000 in
set_option maxHeartbeats 4000000 in
theorem ct_L_pour (l : Launch) (hlt : l.stackTraces = false) (a1 : Int32) (h0 : PH) : CTw l yL_pour cL_pour 4 (some .int) [(0, 9, 12, 19), (0, 9, 15, 73)] (rmx 11 3 18) 3 18 [.ref 0, .int a1, .ref NC] h0 (f_L_pour a1 h0) := by
  refine ctw_of (by decide) (Nat.le_of_ble_eq_true rfl) ?_
  intro p e s m args below meth c D cA ad A X hnc hr hlk htab
  have X : Cx p s m args c RL cL_pour 4 D cA ad A := X
  unfold f_L_pour
  refine so_pick (L' := [(0, .ref 0), (1, .int a1), (2, .ref NC)]) X [0, 1, 2] rfl ?_
  refine so_aload_n (i := 2) X 2 (dkL_pour (0, .aload_n 2, 1) (pgm 0 rfl)) rfl rfl ?_
  refine so_iconst (v := (0 : Int32)) X (dkL_pour (1, .iconst 0, 1) (pgm 1 rfl)) ic_0 ?_
  refine so_aload_n (i := 0) X 0 (dkL_pour (2, .aload_n 0, 1) (pgm 2 rfl)) rfl rfl ?_
  refine so_iload_n (i := 1) X 1 (dkL_pour (3, .iload_n 1, 1) (pgm 3 rfl)) rfl rfl ?_
  refine so_callC (n := 1) (As := [.int a1]) X hr hlk htab cat_L_pour (ct_X11_pour l hlt 0 a1 h0 kx0) kx0 (by decide) rfl lk_1624 lk_1625 lk_1626 lk_121 lk_1627 (by decide +kernel) rfl rfl rfl ⟨Nat.le_of_ble_eq_true rfl, Nat.le_of_ble_eq_true rfl⟩ ⟨Nat.le_of_ble_eq_true rfl, Nat.le_of_ble_eq_true rfl⟩ ⟨Nat.le_of_ble_eq_true rfl, Nat.le_of_ble_eq_true rfl⟩ (by decide) (dkL_pour (4, .invokevirtual 119, 3) (pgm 4 rfl)) (fun r1 h2 => ?_) rfl
  refine so_i2l X (dkL_pour (7, .i2l, 1) (pgm 5 rfl)) ?_
  refine so_outSt X hnc (dkL_pour (8, .lastore, 1) (pgm 6 rfl)) (fun h3 => ?_)
  refine so_goto (tgt := 18) X (dkL_pour (9, .goto 9, 3) (pgm 7 rfl)) rfl ?_
  refine so_iconst (v := (0 : Int32)) X (dkL_pour (18, .iconst 0, 1) (pgm 14 rfl)) ic_0 ?_
  exact so_iretW X hr hlk (Nat.le_of_ble_eq_true rfl) (Nat.le_of_ble_eq_true rfl) (dkL_pour (19, .ireturn, 1) (pgm 15 rfl))
def pgL_image : List (Nat × Instr × Nat) := [(0, .aload_n 0, 1), (1, .iload_n 1, 1), (2, .invokevirtual 122, 3), (5, .goto 6, 3), (8, .astore_n 2, 1), (9, .iconst 1, 1), (10, .ireturn, 1), (11, .iconst 0, 1), (12, .ireturn, 1)]
theorem dkL_image : ∀ q ∈ pgL_image, decode cL_image q.1 = .ok q.2 := by decide +kernel
abbrev hs_L_image : List (Nat × Int32) := [(1, 1)]
theorem cat_L_image : ∀ q ∈ hs_L_image, CatchOk RL cL_image [(0, 5, 8, 19)] 3 2 q := by
  intro q hq
  simp only [hs_L_image, List.mem_cons, List.not_mem_nil, or_false] at hq
  rcases hq with rfl
  · refine ⟨[], ⟨0, 5, 8, 19⟩, [], rfl, ?_, by decide, by decide, lk_1127, by decide, 2, 9, 1, Or.inl ⟨2, dkL_image (8, .astore_n 2, 1) (pgm 4 rfl), rfl, rfl⟩, by decide, dkL_image (9, .iconst 1, 1) (pgm 5 rfl), by decide, dkL_image (10, .ireturn, 1) (pgm 6 rfl)⟩
    intro z hz
    cases hz
def f_L_image (a1 : Int32) (h0 : PH) : Option (Int32 × PH) :=
  cbc (f_X11_image 0 a1 h0) (fun (r1 : Unit) (h2 : PH) => some ((0 : Int32), h2)) hs_L_image
set_option maxRecDepth 100000 in
set_option maxHeartbeats 4000000 in
theorem ct_L_image (l : Launch) (hlt : l.stackTraces = false) (a1 : Int32) (h0 : PH) : CTw l yL_image cL_image 3 (some .int) [(0, 5, 8, 19)] (rmx 11 3 18) 3 18 [.ref 0, .int a1] h0 (f_L_image a1 h0) := by
  refine ctw_of (by decide) (Nat.le_of_ble_eq_true rfl) ?_
  intro p e s m args below meth c D cA ad A X hnc hr hlk htab
  have X : Cx p s m args c RL cL_image 3 D cA ad A := X
  unfold f_L_image
  refine so_pick (L' := [(0, .ref 0), (1, .int a1)]) X [0, 1] rfl ?_
  refine so_aload_n (i := 0) X 0 (dkL_image (0, .aload_n 0, 1) (pgm 0 rfl)) rfl rfl ?_
  refine so_iload_n (i := 1) X 1 (dkL_image (1, .iload_n 1, 1) (pgm 1 rfl)) rfl rfl ?_
  refine so_callC (n := 1) (As := [.int a1]) X hr hlk htab cat_L_image (ct_X11_image l hlt 0 a1 h0 kx0) kx0 (by decide) rfl lk_1632 lk_1633 lk_1634 lk_121 lk_1635 (by decide +kernel) rfl rfl rfl ⟨Nat.le_of_ble_eq_true rfl, Nat.le_of_ble_eq_true rfl⟩ ⟨Nat.le_of_ble_eq_true rfl, Nat.le_of_ble_eq_true rfl⟩ ⟨Nat.le_of_ble_eq_true rfl, Nat.le_of_ble_eq_true rfl⟩ (by decide) (dkL_image (2, .invokevirtual 122, 3) (pgm 2 rfl)) (fun r1 h2 => ?_) rfl
  refine so_goto (tgt := 11) X (dkL_image (5, .goto 6, 3) (pgm 3 rfl)) rfl ?_
  refine so_iconst (v := (0 : Int32)) X (dkL_image (11, .iconst 0, 1) (pgm 7 rfl)) ic_0 ?_
  exact so_iretW X hr hlk (Nat.le_of_ble_eq_true rfl) (Nat.le_of_ble_eq_true rfl) (dkL_image (12, .ireturn, 1) (pgm 8 rfl))
def pgL_restore : List (Nat × Instr × Nat) := [(0, .aload_n 0, 1), (1, .iload_n 1, 1), (2, .invokevirtual 126, 3), (5, .goto 9, 3), (8, .astore_n 2, 1), (9, .iconst 1, 1), (10, .ireturn, 1), (11, .astore_n 2, 1), (12, .iconst 2, 1), (13, .ireturn, 1), (14, .iconst 0, 1), (15, .ireturn, 1)]
theorem dkL_restore : ∀ q ∈ pgL_restore, decode cL_restore q.1 = .ok q.2 := by decide +kernel
abbrev hs_L_restore : List (Nat × Int32) := [(1, 1), (2, 2)]
theorem cat_L_restore : ∀ q ∈ hs_L_restore, CatchOk RL cL_restore [(0, 5, 8, 19), (0, 5, 11, 73)] 3 2 q := by
  intro q hq
  simp only [hs_L_restore, List.mem_cons, List.not_mem_nil, or_false] at hq
  rcases hq with rfl | rfl
  · refine ⟨[], ⟨0, 5, 8, 19⟩, [⟨0, 5, 11, 73⟩], rfl, ?_, by decide, by decide, lk_1127, by decide, 2, 9, 1, Or.inl ⟨2, dkL_restore (8, .astore_n 2, 1) (pgm 4 rfl), rfl, rfl⟩, by decide, dkL_restore (9, .iconst 1, 1) (pgm 5 rfl), by decide, dkL_restore (10, .ireturn, 1) (pgm 6 rfl)⟩
    intro z hz
    cases hz
  · refine ⟨[⟨0, 5, 8, 19⟩], ⟨0, 5, 11, 73⟩, [], rfl, ?_, by decide, by decide, lk_1357, by decide, 2, 12, 2, Or.inl ⟨2, dkL_restore (11, .astore_n 2, 1) (pgm 7 rfl), rfl, rfl⟩, by decide, dkL_restore (12, .iconst 2, 1) (pgm 8 rfl), by decide, dkL_restore (13, .ireturn, 1) (pgm 9 rfl)⟩
    intro z hz
    simp only [List.mem_cons, List.not_mem_nil, or_false] at hz
    rcases hz with rfl
    · exact ⟨by decide, _, lk_1127, by decide⟩
def f_L_restore (a1 : Int32) (h0 : PH) : Option (Int32 × PH) :=
  cbc (f_X11_restore 0 a1 h0) (fun (r1 : Unit) (h2 : PH) => some ((0 : Int32), h2)) hs_L_restore
set_option maxRecDepth 100000 in
set_option maxHeartbeats 4000000 in
theorem ct_L_restore (l : Launch) (hlt : l.stackTraces = false) (a1 : Int32) (h0 : PH) : CTw l yL_restore cL_restore 3 (some .int) [(0, 5, 8, 19), (0, 5, 11, 73)] (rmx 11 3 18) 3 18 [.ref 0, .int a1] h0 (f_L_restore a1 h0) := by
  refine ctw_of (by decide) (Nat.le_of_ble_eq_true rfl) ?_
  intro p e s m args below meth c D cA ad A X hnc hr hlk htab
  have X : Cx p s m args c RL cL_restore 3 D cA ad A := X
  unfold f_L_restore
  refine so_pick (L' := [(0, .ref 0), (1, .int a1)]) X [0, 1] rfl ?_
  refine so_aload_n (i := 0) X 0 (dkL_restore (0, .aload_n 0, 1) (pgm 0 rfl)) rfl rfl ?_
  refine so_iload_n (i := 1) X 1 (dkL_restore (1, .iload_n 1, 1) (pgm 1 rfl)) rfl rfl ?_
  refine so_callC (n := 1) (As := [.int a1]) X hr hlk htab cat_L_restore (ct_X11_restore l hlt 0 a1 h0 kx0) kx0 (by decide) rfl lk_1648 lk_1649 lk_1650 lk_121 lk_1651 (by decide +kernel) rfl rfl rfl ⟨Nat.le_of_ble_eq_true rfl, Nat.le_of_ble_eq_true rfl⟩ ⟨Nat.le_of_ble_eq_true rfl, Nat.le_of_ble_eq_true rfl⟩ ⟨Nat.le_of_ble_eq_true rfl, Nat.le_of_ble_eq_true rfl⟩ (by decide) (dkL_restore (2, .invokevirtual 126, 3) (pgm 2 rfl)) (fun r1 h2 => ?_) rfl
  refine so_goto (tgt := 14) X (dkL_restore (5, .goto 9, 3) (pgm 3 rfl)) rfl ?_
  refine so_iconst (v := (0 : Int32)) X (dkL_restore (14, .iconst 0, 1) (pgm 10 rfl)) ic_0 ?_
  exact so_iretW X hr hlk (Nat.le_of_ble_eq_true rfl) (Nat.le_of_ble_eq_true rfl) (dkL_restore (15, .ireturn, 1) (pgm 11 rfl))
