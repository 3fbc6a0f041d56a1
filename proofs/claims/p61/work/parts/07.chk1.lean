theorem chunk_all {f : Nat → Bool} {step P : Nat} (hs : 0 < step) (h : ∀ p, p < P → allB step (fun k => f (p * step + k)) = true) : ∀ j, j < P * step → f j = true := by
  intro j hj
  have h1 := allB_ok (h (j / step) ((Nat.div_lt_iff_lt_mul hs).mpr hj)) (j % step) (Nat.mod_lt _ hs)
  have e : j / step * step + j % step = j := Nat.div_add_mod' j step
  rw [e] at h1
  exact h1
/-! CHECKS of the tables, part 2 (printed by wip/whole/gen_chk1.py) -/
def plC (i : Nat) : Nat := (cond (Nat.ble 166 i) (cond (Nat.ble 248 i) (cond (Nat.ble 289 i) (cond (Nat.ble 310 i) (cond (Nat.ble 320 i) (cond (Nat.ble 325 i) (cond (Nat.ble 328 i) (cond (Nat.ble 329 i) (cond (Nat.ble 330 i) (cond (Nat.beq i 330) (3067) 0) (cond (Nat.beq i 329) (6156) 0)) (cond (Nat.beq i 328) (6165) 0)) (cond (Nat.ble 326 i) (cond (Nat.ble 327 i) (cond (Nat.beq i 327) (4226) 0) (cond (Nat.beq i 326) (6182) 0)) (cond (Nat.beq i 325) (3059) 0))) (cond (Nat.ble 322 i) (cond (Nat.ble 323 i) (cond (Nat.ble 324 i) (cond (Nat.beq i 324) (7064) 0) (cond (Nat.beq i 323) (7114) 0)) (cond (Nat.beq i 322) (7185) 0)) (cond (Nat.ble 321 i) (cond (Nat.beq i 321) (7018) 0) (cond (Nat.beq i 320) (6142) 0)))) (cond (Nat.ble 315 i) (cond (Nat.ble 317 i) (cond (Nat.ble 318 i) (cond (Nat.ble 319 i) (cond (Nat.beq i 319) (2182) 0) (cond (Nat.beq i 318) (3062) 0)) (cond (Nat.beq i 317) (3055) 0)) (cond (Nat.ble 316 i) (cond (Nat.beq i 316) (6239) 0) (cond (Nat.beq i 315) (3051) 0))) (cond (Nat.ble 312 i) (cond (Nat.ble 313 i) (cond (Nat.ble 314 i) (cond (Nat.beq i 314) (6235) 0) (cond (Nat.beq i 313) (4103) 0)) (cond (Nat.beq i 312) (7024) 0)) (cond (Nat.ble 311 i) (cond (Nat.beq i 311) (7027) 0) (cond (Nat.beq i 310) (8117) 0))))) (cond (Nat.ble 299 i) (cond (Nat.ble 304 i) (cond (Nat.ble 307 i) (cond (Nat.ble 308 i) (cond (Nat.ble 309 i) (cond (Nat.beq i 309) (6179) 0) (cond (Nat.beq i 308) (7021) 0)) (cond (Nat.beq i 307) (6145) 0)) (cond (Nat.ble 305 i) (cond (Nat.ble 306 i) (cond (Nat.beq i 306) (7188) 0) (cond (Nat.beq i 305) (7117) 0)) (cond (Nat.beq i 304) (6153) 0))) (cond (Nat.ble 301 i) (cond (Nat.ble 302 i) (cond (Nat.ble 303 i) (cond (Nat.beq i 303) (6149) 0) (cond (Nat.beq i 302) (7066) 0)) (cond (Nat.beq i 301) (2185) 0)) (cond (Nat.ble 300 i) (cond (Nat.beq i 300) (3042) 0) (cond (Nat.beq i 299) (3042) 0)))) (cond (Nat.ble 294 i) (cond (Nat.ble 296 i) (cond (Nat.ble 297 i) (cond (Nat.ble 298 i) (cond (Nat.beq i 298) (3042) 0) (cond (Nat.beq i 297) (3042) 0)) (cond (Nat.beq i 296) (3042) 0)) (cond (Nat.ble 295 i) (cond (Nat.beq i 295) (3042) 0) (cond (Nat.beq i 294) (3042) 0))) (cond (Nat.ble 291 i) (cond (Nat.ble 292 i) (cond (Nat.ble 293 i) (cond (Nat.beq i 293) (3042) 0) (cond (Nat.beq i 292) (3042) 0)) (cond (Nat.beq i 291) (3042) 0)) (cond (Nat.ble 290 i) (cond (Nat.beq i 290) (3042) 0) (cond (Nat.beq i 289) (3042) 0)))))) (cond (Nat.ble 268 i) (cond (Nat.ble 278 i) (cond (Nat.ble 283 i) (cond (Nat.ble 286 i) (cond (Nat.ble 287 i) (cond (Nat.ble 288 i) (cond (Nat.beq i 288) (3042) 0) (cond (Nat.beq i 287) (3042) 0)) (cond (Nat.beq i 286) (3042) 0)) (cond (Nat.ble 284 i) (cond (Nat.ble 285 i) (cond (Nat.beq i 285) (3042) 0) (cond (Nat.beq i 284) (3042) 0)) (cond (Nat.beq i 283) (3042) 0))) (cond (Nat.ble 280 i) (cond (Nat.ble 281 i) (cond (Nat.ble 282 i) (cond (Nat.beq i 282) (3042) 0) (cond (Nat.beq i 281) (3042) 0)) (cond (Nat.beq i 280) (3042) 0)) (cond (Nat.ble 279 i) (cond (Nat.beq i 279) (3042) 0) (cond (Nat.beq i 278) (3042) 0)))) (cond (Nat.ble 273 i) (cond (Nat.ble 275 i) (cond (Nat.ble 276 i) (cond (Nat.ble 277 i) (cond (Nat.beq i 277) (3042) 0) (cond (Nat.beq i 276) (3042) 0)) (cond (Nat.beq i 275) (3042) 0)) (cond (Nat.ble 274 i) (cond (Nat.beq i 274) (3042) 0) (cond (Nat.beq i 273) (3042) 0))) (cond (Nat.ble 270 i) (cond (Nat.ble 271 i) (cond (Nat.ble 272 i) (cond (Nat.beq i 272) (3042) 0) (cond (Nat.beq i 271) (3042) 0)) (cond (Nat.beq i 270) (3042) 0)) (cond (Nat.ble 269 i) (cond (Nat.beq i 269) (3042) 0) (cond (Nat.beq i 268) (3042) 0))))) (cond (Nat.ble 258 i) (cond (Nat.ble 263 i) (cond (Nat.ble 265 i) (cond (Nat.ble 266 i) (cond (Nat.ble 267 i) (cond (Nat.beq i 267) (3042) 0) (cond (Nat.beq i 266) (3042) 0)) (cond (Nat.beq i 265) (3042) 0)) (cond (Nat.ble 264 i) (cond (Nat.beq i 264) (3042) 0) (cond (Nat.beq i 263) (3042) 0))) (cond (Nat.ble 260 i) (cond (Nat.ble 261 i) (cond (Nat.ble 262 i) (cond (Nat.beq i 262) (3042) 0) (cond (Nat.beq i 261) (3042) 0)) (cond (Nat.beq i 260) (3042) 0)) (cond (Nat.ble 259 i) (cond (Nat.beq i 259) (3042) 0) (cond (Nat.beq i 258) (3042) 0)))) (cond (Nat.ble 253 i) (cond (Nat.ble 255 i) (cond (Nat.ble 256 i) (cond (Nat.ble 257 i) (cond (Nat.beq i 257) (3042) 0) (cond (Nat.beq i 256) (3042) 0)) (cond (Nat.beq i 255) (3042) 0)) (cond (Nat.ble 254 i) (cond (Nat.beq i 254) (3042) 0) (cond (Nat.beq i 253) (3042) 0))) (cond (Nat.ble 250 i) (cond (Nat.ble 251 i) (cond (Nat.ble 252 i) (cond (Nat.beq i 252) (3042) 0) (cond (Nat.beq i 251) (3042) 0)) (cond (Nat.beq i 250) (3042) 0)) (cond (Nat.ble 249 i) (cond (Nat.beq i 249) (3042) 0) (cond (Nat.beq i 248) (3042) 0))))))) (cond (Nat.ble 207 i) (cond (Nat.ble 227 i) (cond (Nat.ble 237 i) (cond (Nat.ble 242 i) (cond (Nat.ble 245 i) (cond (Nat.ble 246 i) (cond (Nat.ble 247 i) (cond (Nat.beq i 247) (3042) 0) (cond (Nat.beq i 246) (3042) 0)) (cond (Nat.beq i 245) (3042) 0)) (cond (Nat.ble 243 i) (cond (Nat.ble 244 i) (cond (Nat.beq i 244) (3042) 0) (cond (Nat.beq i 243) (3042) 0)) (cond (Nat.beq i 242) (3042) 0))) (cond (Nat.ble 239 i) (cond (Nat.ble 240 i) (cond (Nat.ble 241 i) (cond (Nat.beq i 241) (3042) 0) (cond (Nat.beq i 240) (3042) 0)) (cond (Nat.beq i 239) (3042) 0)) (cond (Nat.ble 238 i) (cond (Nat.beq i 238) (3042) 0) (cond (Nat.beq i 237) (3042) 0)))) (cond (Nat.ble 232 i) (cond (Nat.ble 234 i) (cond (Nat.ble 235 i) (cond (Nat.ble 236 i) (cond (Nat.beq i 236) (3042) 0) (cond (Nat.beq i 235) (3042) 0)) (cond (Nat.beq i 234) (3042) 0)) (cond (Nat.ble 233 i) (cond (Nat.beq i 233) (3042) 0) (cond (Nat.beq i 232) (3042) 0))) (cond (Nat.ble 229 i) (cond (Nat.ble 230 i) (cond (Nat.ble 231 i) (cond (Nat.beq i 231) (3042) 0) (cond (Nat.beq i 230) (3042) 0)) (cond (Nat.beq i 229) (3042) 0)) (cond (Nat.ble 228 i) (cond (Nat.beq i 228) (3042) 0) (cond (Nat.beq i 227) (3042) 0))))) (cond (Nat.ble 217 i) (cond (Nat.ble 222 i) (cond (Nat.ble 224 i) (cond (Nat.ble 225 i) (cond (Nat.ble 226 i) (cond (Nat.beq i 226) (3042) 0) (cond (Nat.beq i 225) (3042) 0)) (cond (Nat.beq i 224) (3042) 0)) (cond (Nat.ble 223 i) (cond (Nat.beq i 223) (3042) 0) (cond (Nat.beq i 222) (3042) 0))) (cond (Nat.ble 219 i) (cond (Nat.ble 220 i) (cond (Nat.ble 221 i) (cond (Nat.beq i 221) (3042) 0) (cond (Nat.beq i 220) (3042) 0)) (cond (Nat.beq i 219) (3042) 0)) (cond (Nat.ble 218 i) (cond (Nat.beq i 218) (3042) 0) (cond (Nat.beq i 217) (3042) 0)))) (cond (Nat.ble 212 i) (cond (Nat.ble 214 i) (cond (Nat.ble 215 i) (cond (Nat.ble 216 i) (cond (Nat.beq i 216) (3042) 0) (cond (Nat.beq i 215) (3042) 0)) (cond (Nat.beq i 214) (3042) 0)) (cond (Nat.ble 213 i) (cond (Nat.beq i 213) (3042) 0) (cond (Nat.beq i 212) (3042) 0))) (cond (Nat.ble 209 i) (cond (Nat.ble 210 i) (cond (Nat.ble 211 i) (cond (Nat.beq i 211) (3042) 0) (cond (Nat.beq i 210) (3042) 0)) (cond (Nat.beq i 209) (7073) 0)) (cond (Nat.ble 208 i) (cond (Nat.beq i 208) (7070) 0) (cond (Nat.beq i 207) (7076) 0)))))) (cond (Nat.ble 186 i) (cond (Nat.ble 196 i) (cond (Nat.ble 201 i) (cond (Nat.ble 204 i) (cond (Nat.ble 205 i) (cond (Nat.ble 206 i) (cond (Nat.beq i 206) (7045) 0) (cond (Nat.beq i 205) (6212) 0)) (cond (Nat.beq i 204) (7052) 0)) (cond (Nat.ble 202 i) (cond (Nat.ble 203 i) (cond (Nat.beq i 203) (7012) 0) (cond (Nat.beq i 202) (7049) 0)) (cond (Nat.beq i 201) (7003) 0))) (cond (Nat.ble 198 i) (cond (Nat.ble 199 i) (cond (Nat.ble 200 i) (cond (Nat.beq i 200) (7007) 0) (cond (Nat.beq i 199) (7058) 0)) (cond (Nat.beq i 198) (6215) 0)) (cond (Nat.ble 197 i) (cond (Nat.beq i 197) (7200) 0) (cond (Nat.beq i 196) (7203) 0)))) (cond (Nat.ble 191 i) (cond (Nat.ble 193 i) (cond (Nat.ble 194 i) (cond (Nat.ble 195 i) (cond (Nat.beq i 195) (6136) 0) (cond (Nat.beq i 194) (7172) 0)) (cond (Nat.beq i 193) (6133) 0)) (cond (Nat.ble 192 i) (cond (Nat.beq i 192) (6050) 0) (cond (Nat.beq i 191) (6053) 0))) (cond (Nat.ble 188 i) (cond (Nat.ble 189 i) (cond (Nat.ble 190 i) (cond (Nat.beq i 190) (6056) 0) (cond (Nat.beq i 189) (5177) 0)) (cond (Nat.beq i 188) (5037) 0)) (cond (Nat.ble 187 i) (cond (Nat.beq i 187) (5005) 0) (cond (Nat.beq i 186) (8005) 0))))) (cond (Nat.ble 176 i) (cond (Nat.ble 181 i) (cond (Nat.ble 183 i) (cond (Nat.ble 184 i) (cond (Nat.ble 185 i) (cond (Nat.beq i 185) (4069) 0) (cond (Nat.beq i 184) (4143) 0)) (cond (Nat.beq i 183) (3114) 0)) (cond (Nat.ble 182 i) (cond (Nat.beq i 182) (2107) 0) (cond (Nat.beq i 181) (6118) 0))) (cond (Nat.ble 178 i) (cond (Nat.ble 179 i) (cond (Nat.ble 180 i) (cond (Nat.beq i 180) (6114) 0) (cond (Nat.beq i 179) (6110) 0)) (cond (Nat.beq i 178) (6098) 0)) (cond (Nat.ble 177 i) (cond (Nat.beq i 177) (6095) 0) (cond (Nat.beq i 176) (6070) 0)))) (cond (Nat.ble 171 i) (cond (Nat.ble 173 i) (cond (Nat.ble 174 i) (cond (Nat.ble 175 i) (cond (Nat.beq i 175) (6085) 0) (cond (Nat.beq i 174) (6081) 0)) (cond (Nat.beq i 173) (6073) 0)) (cond (Nat.ble 172 i) (cond (Nat.beq i 172) (6067) 0) (cond (Nat.beq i 171) (5014) 0))) (cond (Nat.ble 168 i) (cond (Nat.ble 169 i) (cond (Nat.ble 170 i) (cond (Nat.beq i 170) (5009) 0) (cond (Nat.beq i 169) (5000) 0)) (cond (Nat.beq i 168) (4236) 0)) (cond (Nat.ble 167 i) (cond (Nat.beq i 167) (4231) 0) (cond (Nat.beq i 166) (4223) 0)))))))) (cond (Nat.ble 83 i) (cond (Nat.ble 124 i) (cond (Nat.ble 145 i) (cond (Nat.ble 155 i) (cond (Nat.ble 160 i) (cond (Nat.ble 163 i) (cond (Nat.ble 164 i) (cond (Nat.ble 165 i) (cond (Nat.beq i 165) (2156) 0) (cond (Nat.beq i 164) (8081) 0)) (cond (Nat.beq i 163) (8085) 0)) (cond (Nat.ble 161 i) (cond (Nat.ble 162 i) (cond (Nat.beq i 162) (8090) 0) (cond (Nat.beq i 161) (8077) 0)) (cond (Nat.beq i 160) (8071) 0))) (cond (Nat.ble 157 i) (cond (Nat.ble 158 i) (cond (Nat.ble 159 i) (cond (Nat.beq i 159) (8065) 0) (cond (Nat.beq i 158) (8104) 0)) (cond (Nat.beq i 157) (8061) 0)) (cond (Nat.ble 156 i) (cond (Nat.beq i 156) (8095) 0) (cond (Nat.beq i 155) (8050) 0)))) (cond (Nat.ble 150 i) (cond (Nat.ble 152 i) (cond (Nat.ble 153 i) (cond (Nat.ble 154 i) (cond (Nat.beq i 154) (2215) 0) (cond (Nat.beq i 153) (6102) 0)) (cond (Nat.beq i 152) (5230) 0)) (cond (Nat.ble 151 i) (cond (Nat.beq i 151) (4206) 0) (cond (Nat.beq i 150) (6014) 0))) (cond (Nat.ble 147 i) (cond (Nat.ble 148 i) (cond (Nat.ble 149 i) (cond (Nat.beq i 149) (6041) 0) (cond (Nat.beq i 148) (4162) 0)) (cond (Nat.beq i 147) (6130) 0)) (cond (Nat.ble 146 i) (cond (Nat.beq i 146) (4157) 0) (cond (Nat.beq i 145) (4176) 0))))) (cond (Nat.ble 134 i) (cond (Nat.ble 139 i) (cond (Nat.ble 142 i) (cond (Nat.ble 143 i) (cond (Nat.ble 144 i) (cond (Nat.beq i 144) (8021) 0) (cond (Nat.beq i 143) (4139) 0)) (cond (Nat.beq i 142) (8001) 0)) (cond (Nat.ble 140 i) (cond (Nat.ble 141 i) (cond (Nat.beq i 141) (4061) 0) (cond (Nat.beq i 140) (8032) 0)) (cond (Nat.beq i 139) (4081) 0))) (cond (Nat.ble 136 i) (cond (Nat.ble 137 i) (cond (Nat.ble 138 i) (cond (Nat.beq i 138) (5025) 0) (cond (Nat.beq i 137) (3119) 0)) (cond (Nat.beq i 136) (3103) 0)) (cond (Nat.ble 135 i) (cond (Nat.beq i 135) (2048) 0) (cond (Nat.beq i 134) (5084) 0)))) (cond (Nat.ble 129 i) (cond (Nat.ble 131 i) (cond (Nat.ble 132 i) (cond (Nat.ble 133 i) (cond (Nat.beq i 133) (4210) 0) (cond (Nat.beq i 132) (5152) 0)) (cond (Nat.beq i 131) (4214) 0)) (cond (Nat.ble 130 i) (cond (Nat.beq i 130) (5115) 0) (cond (Nat.beq i 129) (4100) 0))) (cond (Nat.ble 126 i) (cond (Nat.ble 127 i) (cond (Nat.ble 128 i) (cond (Nat.beq i 128) (4090) 0) (cond (Nat.beq i 127) (8010) 0)) (cond (Nat.beq i 126) (4149) 0)) (cond (Nat.ble 125 i) (cond (Nat.beq i 125) (5160) 0) (cond (Nat.beq i 124) (4153) 0)))))) (cond (Nat.ble 103 i) (cond (Nat.ble 113 i) (cond (Nat.ble 118 i) (cond (Nat.ble 121 i) (cond (Nat.ble 122 i) (cond (Nat.ble 123 i) (cond (Nat.beq i 123) (7227) 0) (cond (Nat.beq i 122) (5034) 0)) (cond (Nat.beq i 121) (5029) 0)) (cond (Nat.ble 119 i) (cond (Nat.ble 120 i) (cond (Nat.beq i 120) (3133) 0) (cond (Nat.beq i 119) (4085) 0)) (cond (Nat.beq i 118) (3107) 0))) (cond (Nat.ble 115 i) (cond (Nat.ble 116 i) (cond (Nat.ble 117 i) (cond (Nat.beq i 117) (2054) 0) (cond (Nat.beq i 116) (4064) 0)) (cond (Nat.beq i 115) (3122) 0)) (cond (Nat.ble 114 i) (cond (Nat.beq i 114) (3125) 0) (cond (Nat.beq i 113) (8109) 0)))) (cond (Nat.ble 108 i) (cond (Nat.ble 110 i) (cond (Nat.ble 111 i) (cond (Nat.ble 112 i) (cond (Nat.beq i 112) (8100) 0) (cond (Nat.beq i 111) (7168) 0)) (cond (Nat.beq i 110) (3142) 0)) (cond (Nat.ble 109 i) (cond (Nat.beq i 109) (4050) 0) (cond (Nat.beq i 108) (3139) 0))) (cond (Nat.ble 105 i) (cond (Nat.ble 106 i) (cond (Nat.ble 107 i) (cond (Nat.beq i 107) (3099) 0) (cond (Nat.beq i 106) (4196) 0)) (cond (Nat.beq i 105) (4191) 0)) (cond (Nat.ble 104 i) (cond (Nat.beq i 104) (5127) 0) (cond (Nat.beq i 103) (4094) 0))))) (cond (Nat.ble 93 i) (cond (Nat.ble 98 i) (cond (Nat.ble 100 i) (cond (Nat.ble 101 i) (cond (Nat.ble 102 i) (cond (Nat.beq i 102) (3042) 0) (cond (Nat.beq i 101) (3042) 0)) (cond (Nat.beq i 100) (8122) 0)) (cond (Nat.ble 99 i) (cond (Nat.beq i 99) (8129) 0) (cond (Nat.beq i 98) (3042) 0))) (cond (Nat.ble 95 i) (cond (Nat.ble 96 i) (cond (Nat.ble 97 i) (cond (Nat.beq i 97) (5237) 0) (cond (Nat.beq i 96) (8057) 0)) (cond (Nat.beq i 95) (8045) 0)) (cond (Nat.ble 94 i) (cond (Nat.beq i 94) (6122) 0) (cond (Nat.beq i 93) (7180) 0)))) (cond (Nat.ble 88 i) (cond (Nat.ble 90 i) (cond (Nat.ble 91 i) (cond (Nat.ble 92 i) (cond (Nat.beq i 92) (7197) 0) (cond (Nat.beq i 91) (7110) 0)) (cond (Nat.beq i 90) (6028) 0)) (cond (Nat.ble 89 i) (cond (Nat.beq i 89) (5132) 0) (cond (Nat.beq i 88) (6037) 0))) (cond (Nat.ble 85 i) (cond (Nat.ble 86 i) (cond (Nat.ble 87 i) (cond (Nat.beq i 87) (6023) 0) (cond (Nat.beq i 86) (7208) 0)) (cond (Nat.beq i 85) (4170) 0)) (cond (Nat.ble 84 i) (cond (Nat.beq i 84) (6106) 0) (cond (Nat.beq i 83) (6091) 0))))))) (cond (Nat.ble 42 i) (cond (Nat.ble 62 i) (cond (Nat.ble 72 i) (cond (Nat.ble 77 i) (cond (Nat.ble 80 i) (cond (Nat.ble 81 i) (cond (Nat.ble 82 i) (cond (Nat.beq i 82) (6077) 0) (cond (Nat.beq i 81) (6063) 0)) (cond (Nat.beq i 80) (4219) 0)) (cond (Nat.ble 78 i) (cond (Nat.ble 79 i) (cond (Nat.beq i 79) (8017) 0) (cond (Nat.beq i 78) (4187) 0)) (cond (Nat.beq i 77) (4135) 0))) (cond (Nat.ble 74 i) (cond (Nat.ble 75 i) (cond (Nat.ble 76 i) (cond (Nat.beq i 76) (5226) 0) (cond (Nat.beq i 75) (4202) 0)) (cond (Nat.beq i 74) (6010) 0)) (cond (Nat.ble 73 i) (cond (Nat.beq i 73) (5211) 0) (cond (Nat.beq i 72) (5188) 0)))) (cond (Nat.ble 67 i) (cond (Nat.ble 69 i) (cond (Nat.ble 70 i) (cond (Nat.ble 71 i) (cond (Nat.beq i 71) (5219) 0) (cond (Nat.beq i 70) (5204) 0)) (cond (Nat.beq i 69) (5200) 0)) (cond (Nat.ble 68 i) (cond (Nat.beq i 68) (5196) 0) (cond (Nat.beq i 67) (6033) 0))) (cond (Nat.ble 64 i) (cond (Nat.ble 65 i) (cond (Nat.ble 66 i) (cond (Nat.beq i 66) (5181) 0) (cond (Nat.beq i 65) (7237) 0)) (cond (Nat.beq i 64) (4057) 0)) (cond (Nat.ble 63 i) (cond (Nat.beq i 63) (5111) 0) (cond (Nat.beq i 62) (5104) 0))))) (cond (Nat.ble 52 i) (cond (Nat.ble 57 i) (cond (Nat.ble 59 i) (cond (Nat.ble 60 i) (cond (Nat.ble 61 i) (cond (Nat.beq i 61) (5056) 0) (cond (Nat.beq i 60) (8028) 0)) (cond (Nat.beq i 59) (4077) 0)) (cond (Nat.ble 58 i) (cond (Nat.beq i 58) (5080) 0) (cond (Nat.beq i 57) (5093) 0))) (cond (Nat.ble 54 i) (cond (Nat.ble 55 i) (cond (Nat.ble 56 i) (cond (Nat.beq i 56) (5123) 0) (cond (Nat.beq i 55) (5072) 0)) (cond (Nat.beq i 54) (5174) 0)) (cond (Nat.ble 53 i) (cond (Nat.beq i 53) (5065) 0) (cond (Nat.beq i 52) (5061) 0)))) (cond (Nat.ble 47 i) (cond (Nat.ble 49 i) (cond (Nat.ble 50 i) (cond (Nat.ble 51 i) (cond (Nat.beq i 51) (5167) 0) (cond (Nat.beq i 50) (5048) 0)) (cond (Nat.beq i 49) (5156) 0)) (cond (Nat.ble 48 i) (cond (Nat.beq i 48) (5041) 0) (cond (Nat.beq i 47) (7222) 0))) (cond (Nat.ble 44 i) (cond (Nat.ble 45 i) (cond (Nat.ble 46 i) (cond (Nat.beq i 46) (5021) 0) (cond (Nat.beq i 45) (3095) 0)) (cond (Nat.beq i 44) (2040) 0)) (cond (Nat.ble 43 i) (cond (Nat.beq i 43) (5089) 0) (cond (Nat.beq i 42) (5192) 0)))))) (cond (Nat.ble 21 i) (cond (Nat.ble 31 i) (cond (Nat.ble 36 i) (cond (Nat.ble 39 i) (cond (Nat.ble 40 i) (cond (Nat.ble 41 i) (cond (Nat.beq i 41) (2035) 0) (cond (Nat.beq i 40) (3046) 0)) (cond (Nat.beq i 39) (8038) 0)) (cond (Nat.ble 37 i) (cond (Nat.ble 38 i) (cond (Nat.beq i 38) (8125) 0) (cond (Nat.beq i 37) (8053) 0)) (cond (Nat.beq i 36) (8041) 0))) (cond (Nat.ble 33 i) (cond (Nat.ble 34 i) (cond (Nat.ble 35 i) (cond (Nat.beq i 35) (7176) 0) (cond (Nat.beq i 34) (7106) 0)) (cond (Nat.beq i 33) (6019) 0)) (cond (Nat.ble 32 i) (cond (Nat.beq i 32) (4166) 0) (cond (Nat.beq i 31) (8013) 0)))) (cond (Nat.ble 26 i) (cond (Nat.ble 28 i) (cond (Nat.ble 29 i) (cond (Nat.ble 30 i) (cond (Nat.beq i 30) (4183) 0) (cond (Nat.beq i 29) (4109) 0)) (cond (Nat.beq i 28) (5222) 0)) (cond (Nat.ble 27 i) (cond (Nat.beq i 27) (5233) 0) (cond (Nat.beq i 26) (6006) 0))) (cond (Nat.ble 23 i) (cond (Nat.ble 24 i) (cond (Nat.ble 25 i) (cond (Nat.beq i 25) (5207) 0) (cond (Nat.beq i 24) (5184) 0)) (cond (Nat.beq i 23) (5215) 0)) (cond (Nat.ble 22 i) (cond (Nat.beq i 22) (6000) 0) (cond (Nat.beq i 21) (6047) 0))))) (cond (Nat.ble 11 i) (cond (Nat.ble 16 i) (cond (Nat.ble 18 i) (cond (Nat.ble 19 i) (cond (Nat.ble 20 i) (cond (Nat.beq i 20) (6044) 0) (cond (Nat.beq i 19) (7233) 0)) (cond (Nat.beq i 18) (4053) 0)) (cond (Nat.ble 17 i) (cond (Nat.beq i 17) (5107) 0) (cond (Nat.beq i 16) (5100) 0))) (cond (Nat.ble 13 i) (cond (Nat.ble 14 i) (cond (Nat.ble 15 i) (cond (Nat.beq i 15) (5052) 0) (cond (Nat.beq i 14) (8024) 0)) (cond (Nat.beq i 13) (4072) 0)) (cond (Nat.ble 12 i) (cond (Nat.beq i 12) (5076) 0) (cond (Nat.beq i 11) (5097) 0)))) (cond (Nat.ble 6 i) (cond (Nat.ble 8 i) (cond (Nat.ble 9 i) (cond (Nat.ble 10 i) (cond (Nat.beq i 10) (5119) 0) (cond (Nat.beq i 9) (5068) 0)) (cond (Nat.beq i 8) (5170) 0)) (cond (Nat.ble 7 i) (cond (Nat.beq i 7) (6003) 0) (cond (Nat.beq i 6) (5163) 0))) (cond (Nat.ble 3 i) (cond (Nat.ble 4 i) (cond (Nat.ble 5 i) (cond (Nat.beq i 5) (5044) 0) (cond (Nat.beq i 4) (7218) 0)) (cond (Nat.beq i 3) (5017) 0)) (cond (Nat.ble 2 i) (cond (Nat.beq i 2) (3089) 0) (cond (Nat.beq i 1) (3042) 0)))))))))
def plN (i : Nat) : Nat := (cond (Nat.ble 9 i) (cond (Nat.ble 14 i) (cond (Nat.ble 16 i) (cond (Nat.ble 17 i) (cond (Nat.beq i 17) (2012) 0) (cond (Nat.beq i 16) (2030) 0)) (cond (Nat.ble 15 i) (cond (Nat.beq i 15) (2028) 0) (cond (Nat.beq i 14) (2011) 0))) (cond (Nat.ble 12 i) (cond (Nat.ble 13 i) (cond (Nat.beq i 13) (2007) 0) (cond (Nat.beq i 12) (2008) 0)) (cond (Nat.ble 10 i) (cond (Nat.beq i 10) (2025) 0) (cond (Nat.beq i 9) (2014) 0)))) (cond (Nat.ble 4 i) (cond (Nat.ble 6 i) (cond (Nat.ble 8 i) (cond (Nat.beq i 8) (2006) 0) (cond (Nat.beq i 6) (2004) 0)) (cond (Nat.ble 5 i) (cond (Nat.beq i 5) (2005) 0) (cond (Nat.beq i 4) (2010) 0))) (cond (Nat.ble 2 i) (cond (Nat.ble 3 i) (cond (Nat.beq i 3) (2002) 0) (cond (Nat.beq i 2) (2003) 0)) (cond (Nat.ble 1 i) (cond (Nat.beq i 1) (2001) 0) (cond (Nat.beq i 0) (2000) 0)))))
def plS (i : Nat) : Nat := (cond (Nat.ble 166 i) (cond (Nat.ble 248 i) (cond (Nat.ble 289 i) (cond (Nat.ble 310 i) (cond (Nat.ble 320 i) (cond (Nat.ble 325 i) (cond (Nat.ble 328 i) (cond (Nat.ble 329 i) (cond (Nat.ble 330 i) (cond (Nat.beq i 330) (3066) 0) (cond (Nat.beq i 329) (6155) 0)) (cond (Nat.beq i 328) (6164) 0)) (cond (Nat.ble 326 i) (cond (Nat.ble 327 i) (cond (Nat.beq i 327) (4225) 0) (cond (Nat.beq i 326) (6181) 0)) (cond (Nat.beq i 325) (3058) 0))) (cond (Nat.ble 322 i) (cond (Nat.ble 323 i) (cond (Nat.ble 324 i) (cond (Nat.beq i 324) (7063) 0) (cond (Nat.beq i 323) (7112) 0)) (cond (Nat.beq i 322) (7183) 0)) (cond (Nat.ble 321 i) (cond (Nat.beq i 321) (7016) 0) (cond (Nat.beq i 320) (6140) 0)))) (cond (Nat.ble 315 i) (cond (Nat.ble 317 i) (cond (Nat.ble 318 i) (cond (Nat.ble 319 i) (cond (Nat.beq i 319) (2181) 0) (cond (Nat.beq i 318) (3061) 0)) (cond (Nat.beq i 317) (3053) 0)) (cond (Nat.ble 316 i) (cond (Nat.beq i 316) (6237) 0) (cond (Nat.beq i 315) (3049) 0))) (cond (Nat.ble 312 i) (cond (Nat.ble 313 i) (cond (Nat.ble 314 i) (cond (Nat.beq i 314) (6233) 0) (cond (Nat.beq i 313) (4102) 0)) (cond (Nat.beq i 312) (7023) 0)) (cond (Nat.ble 311 i) (cond (Nat.beq i 311) (7026) 0) (cond (Nat.beq i 310) (8116) 0))))) (cond (Nat.ble 299 i) (cond (Nat.ble 304 i) (cond (Nat.ble 307 i) (cond (Nat.ble 308 i) (cond (Nat.ble 309 i) (cond (Nat.beq i 309) (6176) 0) (cond (Nat.beq i 308) (7020) 0)) (cond (Nat.beq i 307) (6144) 0)) (cond (Nat.ble 305 i) (cond (Nat.ble 306 i) (cond (Nat.beq i 306) (7187) 0) (cond (Nat.beq i 305) (7116) 0)) (cond (Nat.beq i 304) (6152) 0))) (cond (Nat.ble 301 i) (cond (Nat.ble 302 i) (cond (Nat.ble 303 i) (cond (Nat.beq i 303) (6148) 0) (cond (Nat.beq i 302) (7060) 0)) (cond (Nat.beq i 301) (2184) 0)) (cond (Nat.ble 300 i) (cond (Nat.beq i 300) (3041) 0) (cond (Nat.beq i 299) (3041) 0)))) (cond (Nat.ble 294 i) (cond (Nat.ble 296 i) (cond (Nat.ble 297 i) (cond (Nat.ble 298 i) (cond (Nat.beq i 298) (3041) 0) (cond (Nat.beq i 297) (3041) 0)) (cond (Nat.beq i 296) (3041) 0)) (cond (Nat.ble 295 i) (cond (Nat.beq i 295) (3041) 0) (cond (Nat.beq i 294) (3041) 0))) (cond (Nat.ble 291 i) (cond (Nat.ble 292 i) (cond (Nat.ble 293 i) (cond (Nat.beq i 293) (3041) 0) (cond (Nat.beq i 292) (3041) 0)) (cond (Nat.beq i 291) (3041) 0)) (cond (Nat.ble 290 i) (cond (Nat.beq i 290) (3041) 0) (cond (Nat.beq i 289) (3041) 0)))))) (cond (Nat.ble 268 i) (cond (Nat.ble 278 i) (cond (Nat.ble 283 i) (cond (Nat.ble 286 i) (cond (Nat.ble 287 i) (cond (Nat.ble 288 i) (cond (Nat.beq i 288) (3041) 0) (cond (Nat.beq i 287) (3041) 0)) (cond (Nat.beq i 286) (3041) 0)) (cond (Nat.ble 284 i) (cond (Nat.ble 285 i) (cond (Nat.beq i 285) (3041) 0) (cond (Nat.beq i 284) (3041) 0)) (cond (Nat.beq i 283) (3041) 0))) (cond (Nat.ble 280 i) (cond (Nat.ble 281 i) (cond (Nat.ble 282 i) (cond (Nat.beq i 282) (3041) 0) (cond (Nat.beq i 281) (3041) 0)) (cond (Nat.beq i 280) (3041) 0)) (cond (Nat.ble 279 i) (cond (Nat.beq i 279) (3041) 0) (cond (Nat.beq i 278) (3041) 0)))) (cond (Nat.ble 273 i) (cond (Nat.ble 275 i) (cond (Nat.ble 276 i) (cond (Nat.ble 277 i) (cond (Nat.beq i 277) (3041) 0) (cond (Nat.beq i 276) (3041) 0)) (cond (Nat.beq i 275) (3041) 0)) (cond (Nat.ble 274 i) (cond (Nat.beq i 274) (3041) 0) (cond (Nat.beq i 273) (3041) 0))) (cond (Nat.ble 270 i) (cond (Nat.ble 271 i) (cond (Nat.ble 272 i) (cond (Nat.beq i 272) (3041) 0) (cond (Nat.beq i 271) (3041) 0)) (cond (Nat.beq i 270) (3041) 0)) (cond (Nat.ble 269 i) (cond (Nat.beq i 269) (3041) 0) (cond (Nat.beq i 268) (3041) 0))))) (cond (Nat.ble 258 i) (cond (Nat.ble 263 i) (cond (Nat.ble 265 i) (cond (Nat.ble 266 i) (cond (Nat.ble 267 i) (cond (Nat.beq i 267) (3041) 0) (cond (Nat.beq i 266) (3041) 0)) (cond (Nat.beq i 265) (3041) 0)) (cond (Nat.ble 264 i) (cond (Nat.beq i 264) (3041) 0) (cond (Nat.beq i 263) (3041) 0))) (cond (Nat.ble 260 i) (cond (Nat.ble 261 i) (cond (Nat.ble 262 i) (cond (Nat.beq i 262) (3041) 0) (cond (Nat.beq i 261) (3041) 0)) (cond (Nat.beq i 260) (3041) 0)) (cond (Nat.ble 259 i) (cond (Nat.beq i 259) (3041) 0) (cond (Nat.beq i 258) (3041) 0)))) (cond (Nat.ble 253 i) (cond (Nat.ble 255 i) (cond (Nat.ble 256 i) (cond (Nat.ble 257 i) (cond (Nat.beq i 257) (3041) 0) (cond (Nat.beq i 256) (3041) 0)) (cond (Nat.beq i 255) (3041) 0)) (cond (Nat.ble 254 i) (cond (Nat.beq i 254) (3041) 0) (cond (Nat.beq i 253) (3041) 0))) (cond (Nat.ble 250 i) (cond (Nat.ble 251 i) (cond (Nat.ble 252 i) (cond (Nat.beq i 252) (3041) 0) (cond (Nat.beq i 251) (3041) 0)) (cond (Nat.beq i 250) (3041) 0)) (cond (Nat.ble 249 i) (cond (Nat.beq i 249) (3041) 0) (cond (Nat.beq i 248) (3041) 0))))))) (cond (Nat.ble 207 i) (cond (Nat.ble 227 i) (cond (Nat.ble 237 i) (cond (Nat.ble 242 i) (cond (Nat.ble 245 i) (cond (Nat.ble 246 i) (cond (Nat.ble 247 i) (cond (Nat.beq i 247) (3041) 0) (cond (Nat.beq i 246) (3041) 0)) (cond (Nat.beq i 245) (3041) 0)) (cond (Nat.ble 243 i) (cond (Nat.ble 244 i) (cond (Nat.beq i 244) (3041) 0) (cond (Nat.beq i 243) (3041) 0)) (cond (Nat.beq i 242) (3041) 0))) (cond (Nat.ble 239 i) (cond (Nat.ble 240 i) (cond (Nat.ble 241 i) (cond (Nat.beq i 241) (3041) 0) (cond (Nat.beq i 240) (3041) 0)) (cond (Nat.beq i 239) (3041) 0)) (cond (Nat.ble 238 i) (cond (Nat.beq i 238) (3041) 0) (cond (Nat.beq i 237) (3041) 0)))) (cond (Nat.ble 232 i) (cond (Nat.ble 234 i) (cond (Nat.ble 235 i) (cond (Nat.ble 236 i) (cond (Nat.beq i 236) (3041) 0) (cond (Nat.beq i 235) (3041) 0)) (cond (Nat.beq i 234) (3041) 0)) (cond (Nat.ble 233 i) (cond (Nat.beq i 233) (3041) 0) (cond (Nat.beq i 232) (3041) 0))) (cond (Nat.ble 229 i) (cond (Nat.ble 230 i) (cond (Nat.ble 231 i) (cond (Nat.beq i 231) (3041) 0) (cond (Nat.beq i 230) (3041) 0)) (cond (Nat.beq i 229) (3041) 0)) (cond (Nat.ble 228 i) (cond (Nat.beq i 228) (3041) 0) (cond (Nat.beq i 227) (3041) 0))))) (cond (Nat.ble 217 i) (cond (Nat.ble 222 i) (cond (Nat.ble 224 i) (cond (Nat.ble 225 i) (cond (Nat.ble 226 i) (cond (Nat.beq i 226) (3041) 0) (cond (Nat.beq i 225) (3041) 0)) (cond (Nat.beq i 224) (3041) 0)) (cond (Nat.ble 223 i) (cond (Nat.beq i 223) (3041) 0) (cond (Nat.beq i 222) (3041) 0))) (cond (Nat.ble 219 i) (cond (Nat.ble 220 i) (cond (Nat.ble 221 i) (cond (Nat.beq i 221) (3041) 0) (cond (Nat.beq i 220) (3041) 0)) (cond (Nat.beq i 219) (3041) 0)) (cond (Nat.ble 218 i) (cond (Nat.beq i 218) (3041) 0) (cond (Nat.beq i 217) (3041) 0)))) (cond (Nat.ble 212 i) (cond (Nat.ble 214 i) (cond (Nat.ble 215 i) (cond (Nat.ble 216 i) (cond (Nat.beq i 216) (3041) 0) (cond (Nat.beq i 215) (3041) 0)) (cond (Nat.beq i 214) (3041) 0)) (cond (Nat.ble 213 i) (cond (Nat.beq i 213) (3041) 0) (cond (Nat.beq i 212) (3041) 0))) (cond (Nat.ble 209 i) (cond (Nat.ble 210 i) (cond (Nat.ble 211 i) (cond (Nat.beq i 211) (3041) 0) (cond (Nat.beq i 210) (3041) 0)) (cond (Nat.beq i 209) (7072) 0)) (cond (Nat.ble 208 i) (cond (Nat.beq i 208) (7069) 0) (cond (Nat.beq i 207) (7075) 0)))))) (cond (Nat.ble 186 i) (cond (Nat.ble 196 i) (cond (Nat.ble 201 i) (cond (Nat.ble 204 i) (cond (Nat.ble 205 i) (cond (Nat.ble 206 i) (cond (Nat.beq i 206) (7043) 0) (cond (Nat.beq i 205) (6210) 0)) (cond (Nat.beq i 204) (7051) 0)) (cond (Nat.ble 202 i) (cond (Nat.ble 203 i) (cond (Nat.beq i 203) (7010) 0) (cond (Nat.beq i 202) (7048) 0)) (cond (Nat.beq i 201) (7002) 0))) (cond (Nat.ble 198 i) (cond (Nat.ble 199 i) (cond (Nat.ble 200 i) (cond (Nat.beq i 200) (7006) 0) (cond (Nat.beq i 199) (7055) 0)) (cond (Nat.beq i 198) (6214) 0)) (cond (Nat.ble 197 i) (cond (Nat.beq i 197) (7199) 0) (cond (Nat.beq i 196) (7202) 0)))) (cond (Nat.ble 191 i) (cond (Nat.ble 193 i) (cond (Nat.ble 194 i) (cond (Nat.ble 195 i) (cond (Nat.beq i 195) (6135) 0) (cond (Nat.beq i 194) (7171) 0)) (cond (Nat.beq i 193) (6132) 0)) (cond (Nat.ble 192 i) (cond (Nat.beq i 192) (6049) 0) (cond (Nat.beq i 191) (6052) 0))) (cond (Nat.ble 188 i) (cond (Nat.ble 189 i) (cond (Nat.ble 190 i) (cond (Nat.beq i 190) (6055) 0) (cond (Nat.beq i 189) (5176) 0)) (cond (Nat.beq i 188) (5036) 0)) (cond (Nat.ble 187 i) (cond (Nat.beq i 187) (5003) 0) (cond (Nat.beq i 186) (8003) 0))))) (cond (Nat.ble 176 i) (cond (Nat.ble 181 i) (cond (Nat.ble 183 i) (cond (Nat.ble 184 i) (cond (Nat.ble 185 i) (cond (Nat.beq i 185) (4067) 0) (cond (Nat.beq i 184) (4141) 0)) (cond (Nat.beq i 183) (3112) 0)) (cond (Nat.ble 182 i) (cond (Nat.beq i 182) (2106) 0) (cond (Nat.beq i 181) (6117) 0))) (cond (Nat.ble 178 i) (cond (Nat.ble 179 i) (cond (Nat.ble 180 i) (cond (Nat.beq i 180) (6113) 0) (cond (Nat.beq i 179) (6108) 0)) (cond (Nat.beq i 178) (6097) 0)) (cond (Nat.ble 177 i) (cond (Nat.beq i 177) (6093) 0) (cond (Nat.beq i 176) (6069) 0)))) (cond (Nat.ble 171 i) (cond (Nat.ble 173 i) (cond (Nat.ble 174 i) (cond (Nat.ble 175 i) (cond (Nat.beq i 175) (6084) 0) (cond (Nat.beq i 174) (6079) 0)) (cond (Nat.beq i 173) (6072) 0)) (cond (Nat.ble 172 i) (cond (Nat.beq i 172) (6065) 0) (cond (Nat.beq i 171) (5013) 0))) (cond (Nat.ble 168 i) (cond (Nat.ble 169 i) (cond (Nat.ble 170 i) (cond (Nat.beq i 170) (5008) 0) (cond (Nat.beq i 169) (4239) 0)) (cond (Nat.beq i 168) (4235) 0)) (cond (Nat.ble 167 i) (cond (Nat.beq i 167) (4230) 0) (cond (Nat.beq i 166) (4221) 0)))))))) (cond (Nat.ble 83 i) (cond (Nat.ble 124 i) (cond (Nat.ble 145 i) (cond (Nat.ble 155 i) (cond (Nat.ble 160 i) (cond (Nat.ble 163 i) (cond (Nat.ble 164 i) (cond (Nat.ble 165 i) (cond (Nat.beq i 165) (2155) 0) (cond (Nat.beq i 164) (8080) 0)) (cond (Nat.beq i 163) (8084) 0)) (cond (Nat.ble 161 i) (cond (Nat.ble 162 i) (cond (Nat.beq i 162) (8089) 0) (cond (Nat.beq i 161) (8076) 0)) (cond (Nat.beq i 160) (8070) 0))) (cond (Nat.ble 157 i) (cond (Nat.ble 158 i) (cond (Nat.ble 159 i) (cond (Nat.beq i 159) (8064) 0) (cond (Nat.beq i 158) (8102) 0)) (cond (Nat.beq i 157) (8059) 0)) (cond (Nat.ble 156 i) (cond (Nat.beq i 156) (8093) 0) (cond (Nat.beq i 155) (8048) 0)))) (cond (Nat.ble 150 i) (cond (Nat.ble 152 i) (cond (Nat.ble 153 i) (cond (Nat.ble 154 i) (cond (Nat.beq i 154) (2214) 0) (cond (Nat.beq i 153) (6100) 0)) (cond (Nat.beq i 152) (5228) 0)) (cond (Nat.ble 151 i) (cond (Nat.beq i 151) (4204) 0) (cond (Nat.beq i 150) (6012) 0))) (cond (Nat.ble 147 i) (cond (Nat.ble 148 i) (cond (Nat.ble 149 i) (cond (Nat.beq i 149) (6039) 0) (cond (Nat.beq i 148) (4160) 0)) (cond (Nat.beq i 147) (6128) 0)) (cond (Nat.ble 146 i) (cond (Nat.beq i 146) (4155) 0) (cond (Nat.beq i 145) (4174) 0))))) (cond (Nat.ble 134 i) (cond (Nat.ble 139 i) (cond (Nat.ble 142 i) (cond (Nat.ble 143 i) (cond (Nat.ble 144 i) (cond (Nat.beq i 144) (8019) 0) (cond (Nat.beq i 143) (4137) 0)) (cond (Nat.beq i 142) (7239) 0)) (cond (Nat.ble 140 i) (cond (Nat.ble 141 i) (cond (Nat.beq i 141) (4059) 0) (cond (Nat.beq i 140) (8030) 0)) (cond (Nat.beq i 139) (4079) 0))) (cond (Nat.ble 136 i) (cond (Nat.ble 137 i) (cond (Nat.ble 138 i) (cond (Nat.beq i 138) (5023) 0) (cond (Nat.beq i 137) (3117) 0)) (cond (Nat.beq i 136) (3101) 0)) (cond (Nat.ble 135 i) (cond (Nat.beq i 135) (2047) 0) (cond (Nat.beq i 134) (5082) 0)))) (cond (Nat.ble 129 i) (cond (Nat.ble 131 i) (cond (Nat.ble 132 i) (cond (Nat.ble 133 i) (cond (Nat.beq i 133) (4208) 0) (cond (Nat.beq i 132) (5150) 0)) (cond (Nat.beq i 131) (4212) 0)) (cond (Nat.ble 130 i) (cond (Nat.beq i 130) (5113) 0) (cond (Nat.beq i 129) (4098) 0))) (cond (Nat.ble 126 i) (cond (Nat.ble 127 i) (cond (Nat.ble 128 i) (cond (Nat.beq i 128) (4088) 0) (cond (Nat.beq i 127) (8008) 0)) (cond (Nat.beq i 126) (4147) 0)) (cond (Nat.ble 125 i) (cond (Nat.beq i 125) (5158) 0) (cond (Nat.beq i 124) (4151) 0)))))) (cond (Nat.ble 103 i) (cond (Nat.ble 113 i) (cond (Nat.ble 118 i) (cond (Nat.ble 121 i) (cond (Nat.ble 122 i) (cond (Nat.ble 123 i) (cond (Nat.beq i 123) (7225) 0) (cond (Nat.beq i 122) (5033) 0)) (cond (Nat.beq i 121) (5027) 0)) (cond (Nat.ble 119 i) (cond (Nat.ble 120 i) (cond (Nat.beq i 120) (3131) 0) (cond (Nat.beq i 119) (4083) 0)) (cond (Nat.beq i 118) (3105) 0))) (cond (Nat.ble 115 i) (cond (Nat.ble 116 i) (cond (Nat.ble 117 i) (cond (Nat.beq i 117) (2053) 0) (cond (Nat.beq i 116) (4063) 0)) (cond (Nat.beq i 115) (3121) 0)) (cond (Nat.ble 114 i) (cond (Nat.beq i 114) (3124) 0) (cond (Nat.beq i 113) (8108) 0)))) (cond (Nat.ble 108 i) (cond (Nat.ble 110 i) (cond (Nat.ble 111 i) (cond (Nat.ble 112 i) (cond (Nat.beq i 112) (8099) 0) (cond (Nat.beq i 111) (7167) 0)) (cond (Nat.beq i 110) (3141) 0)) (cond (Nat.ble 109 i) (cond (Nat.beq i 109) (4049) 0) (cond (Nat.beq i 108) (3138) 0))) (cond (Nat.ble 105 i) (cond (Nat.ble 106 i) (cond (Nat.ble 107 i) (cond (Nat.beq i 107) (3098) 0) (cond (Nat.beq i 106) (4195) 0)) (cond (Nat.beq i 105) (4190) 0)) (cond (Nat.ble 104 i) (cond (Nat.beq i 104) (5126) 0) (cond (Nat.beq i 103) (4093) 0))))) (cond (Nat.ble 93 i) (cond (Nat.ble 98 i) (cond (Nat.ble 100 i) (cond (Nat.ble 101 i) (cond (Nat.ble 102 i) (cond (Nat.beq i 102) (3041) 0) (cond (Nat.beq i 101) (3041) 0)) (cond (Nat.beq i 100) (8120) 0)) (cond (Nat.ble 99 i) (cond (Nat.beq i 99) (8127) 0) (cond (Nat.beq i 98) (3041) 0))) (cond (Nat.ble 95 i) (cond (Nat.ble 96 i) (cond (Nat.ble 97 i) (cond (Nat.beq i 97) (5236) 0) (cond (Nat.beq i 96) (8055) 0)) (cond (Nat.beq i 95) (8043) 0)) (cond (Nat.ble 94 i) (cond (Nat.beq i 94) (6120) 0) (cond (Nat.beq i 93) (7178) 0)))) (cond (Nat.ble 88 i) (cond (Nat.ble 90 i) (cond (Nat.ble 91 i) (cond (Nat.ble 92 i) (cond (Nat.beq i 92) (7195) 0) (cond (Nat.beq i 91) (7108) 0)) (cond (Nat.beq i 90) (6026) 0)) (cond (Nat.ble 89 i) (cond (Nat.beq i 89) (5130) 0) (cond (Nat.beq i 88) (6035) 0))) (cond (Nat.ble 85 i) (cond (Nat.ble 86 i) (cond (Nat.ble 87 i) (cond (Nat.beq i 87) (6021) 0) (cond (Nat.beq i 86) (7206) 0)) (cond (Nat.beq i 85) (4168) 0)) (cond (Nat.ble 84 i) (cond (Nat.beq i 84) (6104) 0) (cond (Nat.beq i 83) (6089) 0))))))) (cond (Nat.ble 42 i) (cond (Nat.ble 62 i) (cond (Nat.ble 72 i) (cond (Nat.ble 77 i) (cond (Nat.ble 80 i) (cond (Nat.ble 81 i) (cond (Nat.ble 82 i) (cond (Nat.beq i 82) (6075) 0) (cond (Nat.beq i 81) (6061) 0)) (cond (Nat.beq i 80) (4217) 0)) (cond (Nat.ble 78 i) (cond (Nat.ble 79 i) (cond (Nat.beq i 79) (8015) 0) (cond (Nat.beq i 78) (4185) 0)) (cond (Nat.beq i 77) (4133) 0))) (cond (Nat.ble 74 i) (cond (Nat.ble 75 i) (cond (Nat.ble 76 i) (cond (Nat.beq i 76) (5224) 0) (cond (Nat.beq i 75) (4200) 0)) (cond (Nat.beq i 74) (6008) 0)) (cond (Nat.ble 73 i) (cond (Nat.beq i 73) (5209) 0) (cond (Nat.beq i 72) (5186) 0)))) (cond (Nat.ble 67 i) (cond (Nat.ble 69 i) (cond (Nat.ble 70 i) (cond (Nat.ble 71 i) (cond (Nat.beq i 71) (5217) 0) (cond (Nat.beq i 70) (5202) 0)) (cond (Nat.beq i 69) (5198) 0)) (cond (Nat.ble 68 i) (cond (Nat.beq i 68) (5194) 0) (cond (Nat.beq i 67) (6031) 0))) (cond (Nat.ble 64 i) (cond (Nat.ble 65 i) (cond (Nat.ble 66 i) (cond (Nat.beq i 66) (5179) 0) (cond (Nat.beq i 65) (7235) 0)) (cond (Nat.beq i 64) (4055) 0)) (cond (Nat.ble 63 i) (cond (Nat.beq i 63) (5109) 0) (cond (Nat.beq i 62) (5102) 0))))) (cond (Nat.ble 52 i) (cond (Nat.ble 57 i) (cond (Nat.ble 59 i) (cond (Nat.ble 60 i) (cond (Nat.ble 61 i) (cond (Nat.beq i 61) (5054) 0) (cond (Nat.beq i 60) (8026) 0)) (cond (Nat.beq i 59) (4075) 0)) (cond (Nat.ble 58 i) (cond (Nat.beq i 58) (5078) 0) (cond (Nat.beq i 57) (5091) 0))) (cond (Nat.ble 54 i) (cond (Nat.ble 55 i) (cond (Nat.ble 56 i) (cond (Nat.beq i 56) (5121) 0) (cond (Nat.beq i 55) (5070) 0)) (cond (Nat.beq i 54) (5172) 0)) (cond (Nat.ble 53 i) (cond (Nat.beq i 53) (5063) 0) (cond (Nat.beq i 52) (5059) 0)))) (cond (Nat.ble 47 i) (cond (Nat.ble 49 i) (cond (Nat.ble 50 i) (cond (Nat.ble 51 i) (cond (Nat.beq i 51) (5165) 0) (cond (Nat.beq i 50) (5046) 0)) (cond (Nat.beq i 49) (5154) 0)) (cond (Nat.ble 48 i) (cond (Nat.beq i 48) (5039) 0) (cond (Nat.beq i 47) (7220) 0))) (cond (Nat.ble 44 i) (cond (Nat.ble 45 i) (cond (Nat.ble 46 i) (cond (Nat.beq i 46) (5019) 0) (cond (Nat.beq i 45) (3093) 0)) (cond (Nat.beq i 44) (2039) 0)) (cond (Nat.ble 43 i) (cond (Nat.beq i 43) (5088) 0) (cond (Nat.beq i 42) (5191) 0)))))) (cond (Nat.ble 21 i) (cond (Nat.ble 31 i) (cond (Nat.ble 36 i) (cond (Nat.ble 39 i) (cond (Nat.ble 40 i) (cond (Nat.ble 41 i) (cond (Nat.beq i 41) (2034) 0) (cond (Nat.beq i 40) (3045) 0)) (cond (Nat.beq i 39) (8037) 0)) (cond (Nat.ble 37 i) (cond (Nat.ble 38 i) (cond (Nat.beq i 38) (8124) 0) (cond (Nat.beq i 37) (8052) 0)) (cond (Nat.beq i 36) (8040) 0))) (cond (Nat.ble 33 i) (cond (Nat.ble 34 i) (cond (Nat.ble 35 i) (cond (Nat.beq i 35) (7175) 0) (cond (Nat.beq i 34) (7105) 0)) (cond (Nat.beq i 33) (6018) 0)) (cond (Nat.ble 32 i) (cond (Nat.beq i 32) (4165) 0) (cond (Nat.beq i 31) (8012) 0)))) (cond (Nat.ble 26 i) (cond (Nat.ble 28 i) (cond (Nat.ble 29 i) (cond (Nat.ble 30 i) (cond (Nat.beq i 30) (4182) 0) (cond (Nat.beq i 29) (4108) 0)) (cond (Nat.beq i 28) (5221) 0)) (cond (Nat.ble 27 i) (cond (Nat.beq i 27) (5232) 0) (cond (Nat.beq i 26) (6005) 0))) (cond (Nat.ble 23 i) (cond (Nat.ble 24 i) (cond (Nat.ble 25 i) (cond (Nat.beq i 25) (5206) 0) (cond (Nat.beq i 24) (5183) 0)) (cond (Nat.beq i 23) (5214) 0)) (cond (Nat.ble 22 i) (cond (Nat.beq i 22) (5239) 0) (cond (Nat.beq i 21) (6046) 0))))) (cond (Nat.ble 11 i) (cond (Nat.ble 16 i) (cond (Nat.ble 18 i) (cond (Nat.ble 19 i) (cond (Nat.ble 20 i) (cond (Nat.beq i 20) (6043) 0) (cond (Nat.beq i 19) (7232) 0)) (cond (Nat.beq i 18) (4052) 0)) (cond (Nat.ble 17 i) (cond (Nat.beq i 17) (5106) 0) (cond (Nat.beq i 16) (5099) 0))) (cond (Nat.ble 13 i) (cond (Nat.ble 14 i) (cond (Nat.ble 15 i) (cond (Nat.beq i 15) (5051) 0) (cond (Nat.beq i 14) (8023) 0)) (cond (Nat.beq i 13) (4071) 0)) (cond (Nat.ble 12 i) (cond (Nat.beq i 12) (5075) 0) (cond (Nat.beq i 11) (5096) 0)))) (cond (Nat.ble 6 i) (cond (Nat.ble 8 i) (cond (Nat.ble 9 i) (cond (Nat.ble 10 i) (cond (Nat.beq i 10) (5118) 0) (cond (Nat.beq i 9) (5067) 0)) (cond (Nat.beq i 8) (5169) 0)) (cond (Nat.ble 7 i) (cond (Nat.beq i 7) (6002) 0) (cond (Nat.beq i 6) (5162) 0))) (cond (Nat.ble 3 i) (cond (Nat.ble 4 i) (cond (Nat.ble 5 i) (cond (Nat.beq i 5) (5043) 0) (cond (Nat.beq i 4) (7217) 0)) (cond (Nat.beq i 3) (5016) 0)) (cond (Nat.ble 2 i) (cond (Nat.beq i 2) (3088) 0) (cond (Nat.beq i 1) (3041) 0)))))))))
def chkJ (j : Nat) : Bool := cond (Nat.beq j 0 || !Nat.blt j nmT) true (atB (plC j) (codeW j) && (atB (plN (clsT j)) (Cond.initialized (yT j).cls) && (decide ((yT j).cls ≠ "java/lang/invoke/MethodHandle" ∧ (yT j).cls ≠ "java/lang/invoke/VarHandle") && (decide (entT j ≤ 41) && (plainName (yT j).cls && (decide ((yT j).cls = ownT (clsT j)) && true))))))

theorem chkJ_c0 : allB 1 (fun k => chkJ (0 * 1 + k)) = true := by decide +kernel
theorem chkJ_c1 : allB 1 (fun k => chkJ (1 * 1 + k)) = true := by decide +kernel
theorem chkJ_c2 : allB 1 (fun k => chkJ (2 * 1 + k)) = true := by decide +kernel
theorem chkJ_c3 : allB 1 (fun k => chkJ (3 * 1 + k)) = true := by decide +kernel
theorem chkJ_c4 : allB 1 (fun k => chkJ (4 * 1 + k)) = true := by decide +kernel
theorem chkJ_c5 : allB 1 (fun k => chkJ (5 * 1 + k)) = true := by decide +kernel
theorem chkJ_c6 : allB 1 (fun k => chkJ (6 * 1 + k)) = true := by decide +kernel
theorem chkJ_c7 : allB 1 (fun k => chkJ (7 * 1 + k)) = true := by decide +kernel
theorem chkJ_c8 : allB 1 (fun k => chkJ (8 * 1 + k)) = true := by decide +kernel
theorem chkJ_c9 : allB 1 (fun k => chkJ (9 * 1 + k)) = true := by decide +kernel
theorem chkJ_c10 : allB 1 (fun k => chkJ (10 * 1 + k)) = true := by decide +kernel
theorem chkJ_c11 : allB 1 (fun k => chkJ (11 * 1 + k)) = true := by decide +kernel
theorem chkJ_c12 : allB 1 (fun k => chkJ (12 * 1 + k)) = true := by decide +kernel
theorem chkJ_c13 : allB 1 (fun k => chkJ (13 * 1 + k)) = true := by decide +kernel
theorem chkJ_c14 : allB 1 (fun k => chkJ (14 * 1 + k)) = true := by decide +kernel
theorem chkJ_c15 : allB 1 (fun k => chkJ (15 * 1 + k)) = true := by decide +kernel
theorem chkJ_c16 : allB 1 (fun k => chkJ (16 * 1 + k)) = true := by decide +kernel
theorem chkJ_c17 : allB 1 (fun k => chkJ (17 * 1 + k)) = true := by decide +kernel
theorem chkJ_c18 : allB 1 (fun k => chkJ (18 * 1 + k)) = true := by decide +kernel
theorem chkJ_c19 : allB 1 (fun k => chkJ (19 * 1 + k)) = true := by decide +kernel
theorem chkJ_c20 : allB 1 (fun k => chkJ (20 * 1 + k)) = true := by decide +kernel
theorem chkJ_c21 : allB 1 (fun k => chkJ (21 * 1 + k)) = true := by decide +kernel
theorem chkJ_c22 : allB 1 (fun k => chkJ (22 * 1 + k)) = true := by decide +kernel
theorem chkJ_c23 : allB 1 (fun k => chkJ (23 * 1 + k)) = true := by decide +kernel
theorem chkJ_c24 : allB 1 (fun k => chkJ (24 * 1 + k)) = true := by decide +kernel
theorem chkJ_c25 : allB 1 (fun k => chkJ (25 * 1 + k)) = true := by decide +kernel
theorem chkJ_c26 : allB 1 (fun k => chkJ (26 * 1 + k)) = true := by decide +kernel
theorem chkJ_c27 : allB 1 (fun k => chkJ (27 * 1 + k)) = true := by decide +kernel
theorem chkJ_c28 : allB 1 (fun k => chkJ (28 * 1 + k)) = true := by decide +kernel
theorem chkJ_c29 : allB 1 (fun k => chkJ (29 * 1 + k)) = true := by decide +kernel
theorem chkJ_c30 : allB 1 (fun k => chkJ (30 * 1 + k)) = true := by decide +kernel
theorem chkJ_c31 : allB 1 (fun k => chkJ (31 * 1 + k)) = true := by decide +kernel
theorem chkJ_c32 : allB 1 (fun k => chkJ (32 * 1 + k)) = true := by decide +kernel
theorem chkJ_c33 : allB 1 (fun k => chkJ (33 * 1 + k)) = true := by decide +kernel
theorem chkJ_c34 : allB 1 (fun k => chkJ (34 * 1 + k)) = true := by decide +kernel
theorem chkJ_c35 : allB 1 (fun k => chkJ (35 * 1 + k)) = true := by decide +kernel
theorem chkJ_c36 : allB 1 (fun k => chkJ (36 * 1 + k)) = true := by decide +kernel
theorem chkJ_c37 : allB 1 (fun k => chkJ (37 * 1 + k)) = true := by decide +kernel
theorem chkJ_c38 : allB 1 (fun k => chkJ (38 * 1 + k)) = true := by decide +kernel
theorem chkJ_c39 : allB 1 (fun k => chkJ (39 * 1 + k)) = true := by decide +kernel
theorem chkJ_c40 : allB 1 (fun k => chkJ (40 * 1 + k)) = true := by decide +kernel
theorem chkJ_c41 : allB 1 (fun k => chkJ (41 * 1 + k)) = true := by decide +kernel
theorem chkJ_c42 : allB 1 (fun k => chkJ (42 * 1 + k)) = true := by decide +kernel
theorem chkJ_c43 : allB 1 (fun k => chkJ (43 * 1 + k)) = true := by decide +kernel
theorem chkJ_c44 : allB 1 (fun k => chkJ (44 * 1 + k)) = true := by decide +kernel
theorem chkJ_c45 : allB 1 (fun k => chkJ (45 * 1 + k)) = true := by decide +kernel
theorem chkJ_c46 : allB 1 (fun k => chkJ (46 * 1 + k)) = true := by decide +kernel
theorem chkJ_c47 : allB 1 (fun k => chkJ (47 * 1 + k)) = true := by decide +kernel
theorem chkJ_c48 : allB 1 (fun k => chkJ (48 * 1 + k)) = true := by decide +kernel
theorem chkJ_c49 : allB 1 (fun k => chkJ (49 * 1 + k)) = true := by decide +kernel
theorem chkJ_c50 : allB 1 (fun k => chkJ (50 * 1 + k)) = true := by decide +kernel
theorem chkJ_c51 : allB 1 (fun k => chkJ (51 * 1 + k)) = true := by decide +kernel
theorem chkJ_c52 : allB 1 (fun k => chkJ (52 * 1 + k)) = true := by decide +kernel
theorem chkJ_c53 : allB 1 (fun k => chkJ (53 * 1 + k)) = true := by decide +kernel
theorem chkJ_c54 : allB 1 (fun k => chkJ (54 * 1 + k)) = true := by decide +kernel
theorem chkJ_c55 : allB 1 (fun k => chkJ (55 * 1 + k)) = true := by decide +kernel
theorem chkJ_c56 : allB 1 (fun k => chkJ (56 * 1 + k)) = true := by decide +kernel
theorem chkJ_c57 : allB 1 (fun k => chkJ (57 * 1 + k)) = true := by decide +kernel
theorem chkJ_c58 : allB 1 (fun k => chkJ (58 * 1 + k)) = true := by decide +kernel
theorem chkJ_c59 : allB 1 (fun k => chkJ (59 * 1 + k)) = true := by decide +kernel
theorem chkJ_c60 : allB 1 (fun k => chkJ (60 * 1 + k)) = true := by decide +kernel
theorem chkJ_c61 : allB 1 (fun k => chkJ (61 * 1 + k)) = true := by decide +kernel
theorem chkJ_c62 : allB 1 (fun k => chkJ (62 * 1 + k)) = true := by decide +kernel
theorem chkJ_c63 : allB 1 (fun k => chkJ (63 * 1 + k)) = true := by decide +kernel
theorem chkJ_c64 : allB 1 (fun k => chkJ (64 * 1 + k)) = true := by decide +kernel
theorem chkJ_c65 : allB 1 (fun k => chkJ (65 * 1 + k)) = true := by decide +kernel
theorem chkJ_c66 : allB 1 (fun k => chkJ (66 * 1 + k)) = true := by decide +kernel
theorem chkJ_c67 : allB 1 (fun k => chkJ (67 * 1 + k)) = true := by decide +kernel
theorem chkJ_c68 : allB 1 (fun k => chkJ (68 * 1 + k)) = true := by decide +kernel
theorem chkJ_c69 : allB 1 (fun k => chkJ (69 * 1 + k)) = true := by decide +kernel
theorem chkJ_c70 : allB 1 (fun k => chkJ (70 * 1 + k)) = true := by decide +kernel
theorem chkJ_c71 : allB 1 (fun k => chkJ (71 * 1 + k)) = true := by decide +kernel
theorem chkJ_c72 : allB 1 (fun k => chkJ (72 * 1 + k)) = true := by decide +kernel
theorem chkJ_c73 : allB 1 (fun k => chkJ (73 * 1 + k)) = true := by decide +kernel
theorem chkJ_c74 : allB 1 (fun k => chkJ (74 * 1 + k)) = true := by decide +kernel
theorem chkJ_c75 : allB 1 (fun k => chkJ (75 * 1 + k)) = true := by decide +kernel
theorem chkJ_c76 : allB 1 (fun k => chkJ (76 * 1 + k)) = true := by decide +kernel
theorem chkJ_c77 : allB 1 (fun k => chkJ (77 * 1 + k)) = true := by decide +kernel
theorem chkJ_c78 : allB 1 (fun k => chkJ (78 * 1 + k)) = true := by decide +kernel
theorem chkJ_c79 : allB 1 (fun k => chkJ (79 * 1 + k)) = true := by decide +kernel
theorem chkJ_c80 : allB 1 (fun k => chkJ (80 * 1 + k)) = true := by decide +kernel
theorem chkJ_c81 : allB 1 (fun k => chkJ (81 * 1 + k)) = true := by decide +kernel
theorem chkJ_c82 : allB 1 (fun k => chkJ (82 * 1 + k)) = true := by decide +kernel
theorem chkJ_c83 : allB 1 (fun k => chkJ (83 * 1 + k)) = true := by decide +kernel
theorem chkJ_c84 : allB 1 (fun k => chkJ (84 * 1 + k)) = true := by decide +kernel
theorem chkJ_c85 : allB 1 (fun k => chkJ (85 * 1 + k)) = true := by decide +kernel
theorem chkJ_c86 : allB 1 (fun k => chkJ (86 * 1 + k)) = true := by decide +kernel
theorem chkJ_c87 : allB 1 (fun k => chkJ (87 * 1 + k)) = true := by decide +kernel
theorem chkJ_c88 : allB 1 (fun k => chkJ (88 * 1 + k)) = true := by decide +kernel
theorem chkJ_c89 : allB 1 (fun k => chkJ (89 * 1 + k)) = true := by decide +kernel
theorem chkJ_c90 : allB 1 (fun k => chkJ (90 * 1 + k)) = true := by decide +kernel
theorem chkJ_c91 : allB 1 (fun k => chkJ (91 * 1 + k)) = true := by decide +kernel
theorem chkJ_c92 : allB 1 (fun k => chkJ (92 * 1 + k)) = true := by decide +kernel
theorem chkJ_c93 : allB 1 (fun k => chkJ (93 * 1 + k)) = true := by decide +kernel
theorem chkJ_c94 : allB 1 (fun k => chkJ (94 * 1 + k)) = true := by decide +kernel
theorem chkJ_c95 : allB 1 (fun k => chkJ (95 * 1 + k)) = true := by decide +kernel
theorem chkJ_c96 : allB 1 (fun k => chkJ (96 * 1 + k)) = true := by decide +kernel
theorem chkJ_c97 : allB 1 (fun k => chkJ (97 * 1 + k)) = true := by decide +kernel
theorem chkJ_c98 : allB 1 (fun k => chkJ (98 * 1 + k)) = true := by decide +kernel
theorem chkJ_c99 : allB 1 (fun k => chkJ (99 * 1 + k)) = true := by decide +kernel
theorem chkJ_c100 : allB 1 (fun k => chkJ (100 * 1 + k)) = true := by decide +kernel
theorem chkJ_c101 : allB 1 (fun k => chkJ (101 * 1 + k)) = true := by decide +kernel
theorem chkJ_c102 : allB 1 (fun k => chkJ (102 * 1 + k)) = true := by decide +kernel
theorem chkJ_c103 : allB 1 (fun k => chkJ (103 * 1 + k)) = true := by decide +kernel
theorem chkJ_c104 : allB 1 (fun k => chkJ (104 * 1 + k)) = true := by decide +kernel
theorem chkJ_c105 : allB 1 (fun k => chkJ (105 * 1 + k)) = true := by decide +kernel
theorem chkJ_c106 : allB 1 (fun k => chkJ (106 * 1 + k)) = true := by decide +kernel
theorem chkJ_c107 : allB 1 (fun k => chkJ (107 * 1 + k)) = true := by decide +kernel
theorem chkJ_c108 : allB 1 (fun k => chkJ (108 * 1 + k)) = true := by decide +kernel
theorem chkJ_c109 : allB 1 (fun k => chkJ (109 * 1 + k)) = true := by decide +kernel
theorem chkJ_c110 : allB 1 (fun k => chkJ (110 * 1 + k)) = true := by decide +kernel
theorem chkJ_c111 : allB 1 (fun k => chkJ (111 * 1 + k)) = true := by decide +kernel
theorem chkJ_c112 : allB 1 (fun k => chkJ (112 * 1 + k)) = true := by decide +kernel
theorem chkJ_c113 : allB 1 (fun k => chkJ (113 * 1 + k)) = true := by decide +kernel
theorem chkJ_c114 : allB 1 (fun k => chkJ (114 * 1 + k)) = true := by decide +kernel
theorem chkJ_c115 : allB 1 (fun k => chkJ (115 * 1 + k)) = true := by decide +kernel
theorem chkJ_c116 : allB 1 (fun k => chkJ (116 * 1 + k)) = true := by decide +kernel
theorem chkJ_c117 : allB 1 (fun k => chkJ (117 * 1 + k)) = true := by decide +kernel
theorem chkJ_c118 : allB 1 (fun k => chkJ (118 * 1 + k)) = true := by decide +kernel
theorem chkJ_c119 : allB 1 (fun k => chkJ (119 * 1 + k)) = true := by decide +kernel
theorem chkJ_c120 : allB 1 (fun k => chkJ (120 * 1 + k)) = true := by decide +kernel
theorem chkJ_c121 : allB 1 (fun k => chkJ (121 * 1 + k)) = true := by decide +kernel
theorem chkJ_c122 : allB 1 (fun k => chkJ (122 * 1 + k)) = true := by decide +kernel
theorem chkJ_c123 : allB 1 (fun k => chkJ (123 * 1 + k)) = true := by decide +kernel
theorem chkJ_c124 : allB 1 (fun k => chkJ (124 * 1 + k)) = true := by decide +kernel
theorem chkJ_c125 : allB 1 (fun k => chkJ (125 * 1 + k)) = true := by decide +kernel
theorem chkJ_c126 : allB 1 (fun k => chkJ (126 * 1 + k)) = true := by decide +kernel
theorem chkJ_c127 : allB 1 (fun k => chkJ (127 * 1 + k)) = true := by decide +kernel
theorem chkJ_c128 : allB 1 (fun k => chkJ (128 * 1 + k)) = true := by decide +kernel
theorem chkJ_c129 : allB 1 (fun k => chkJ (129 * 1 + k)) = true := by decide +kernel
theorem chkJ_c130 : allB 1 (fun k => chkJ (130 * 1 + k)) = true := by decide +kernel
theorem chkJ_c131 : allB 1 (fun k => chkJ (131 * 1 + k)) = true := by decide +kernel
theorem chkJ_c132 : allB 1 (fun k => chkJ (132 * 1 + k)) = true := by decide +kernel
theorem chkJ_c133 : allB 1 (fun k => chkJ (133 * 1 + k)) = true := by decide +kernel
theorem chkJ_c134 : allB 1 (fun k => chkJ (134 * 1 + k)) = true := by decide +kernel
theorem chkJ_c135 : allB 1 (fun k => chkJ (135 * 1 + k)) = true := by decide +kernel
theorem chkJ_c136 : allB 1 (fun k => chkJ (136 * 1 + k)) = true := by decide +kernel
theorem chkJ_c137 : allB 1 (fun k => chkJ (137 * 1 + k)) = true := by decide +kernel
theorem chkJ_c138 : allB 1 (fun k => chkJ (138 * 1 + k)) = true := by decide +kernel
theorem chkJ_c139 : allB 1 (fun k => chkJ (139 * 1 + k)) = true := by decide +kernel
theorem chkJ_c140 : allB 1 (fun k => chkJ (140 * 1 + k)) = true := by decide +kernel
theorem chkJ_c141 : allB 1 (fun k => chkJ (141 * 1 + k)) = true := by decide +kernel
theorem chkJ_c142 : allB 1 (fun k => chkJ (142 * 1 + k)) = true := by decide +kernel
theorem chkJ_c143 : allB 1 (fun k => chkJ (143 * 1 + k)) = true := by decide +kernel
theorem chkJ_c144 : allB 1 (fun k => chkJ (144 * 1 + k)) = true := by decide +kernel
theorem chkJ_c145 : allB 1 (fun k => chkJ (145 * 1 + k)) = true := by decide +kernel
theorem chkJ_c146 : allB 1 (fun k => chkJ (146 * 1 + k)) = true := by decide +kernel
theorem chkJ_c147 : allB 1 (fun k => chkJ (147 * 1 + k)) = true := by decide +kernel
theorem chkJ_c148 : allB 1 (fun k => chkJ (148 * 1 + k)) = true := by decide +kernel
theorem chkJ_c149 : allB 1 (fun k => chkJ (149 * 1 + k)) = true := by decide +kernel
theorem chkJ_c150 : allB 1 (fun k => chkJ (150 * 1 + k)) = true := by decide +kernel
theorem chkJ_c151 : allB 1 (fun k => chkJ (151 * 1 + k)) = true := by decide +kernel
theorem chkJ_c152 : allB 1 (fun k => chkJ (152 * 1 + k)) = true := by decide +kernel
theorem chkJ_c153 : allB 1 (fun k => chkJ (153 * 1 + k)) = true := by decide +kernel
theorem chkJ_c154 : allB 1 (fun k => chkJ (154 * 1 + k)) = true := by decide +kernel
theorem chkJ_c155 : allB 1 (fun k => chkJ (155 * 1 + k)) = true := by decide +kernel
theorem chkJ_c156 : allB 1 (fun k => chkJ (156 * 1 + k)) = true := by decide +kernel
theorem chkJ_c157 : allB 1 (fun k => chkJ (157 * 1 + k)) = true := by decide +kernel
theorem chkJ_c158 : allB 1 (fun k => chkJ (158 * 1 + k)) = true := by decide +kernel
theorem chkJ_c159 : allB 1 (fun k => chkJ (159 * 1 + k)) = true := by decide +kernel
theorem chkJ_c160 : allB 1 (fun k => chkJ (160 * 1 + k)) = true := by decide +kernel
theorem chkJ_c161 : allB 1 (fun k => chkJ (161 * 1 + k)) = true := by decide +kernel
theorem chkJ_c162 : allB 1 (fun k => chkJ (162 * 1 + k)) = true := by decide +kernel
theorem chkJ_c163 : allB 1 (fun k => chkJ (163 * 1 + k)) = true := by decide +kernel
theorem chkJ_c164 : allB 1 (fun k => chkJ (164 * 1 + k)) = true := by decide +kernel
theorem chkJ_c165 : allB 1 (fun k => chkJ (165 * 1 + k)) = true := by decide +kernel
theorem chkJ_c166 : allB 1 (fun k => chkJ (166 * 1 + k)) = true := by decide +kernel
theorem chkJ_c167 : allB 1 (fun k => chkJ (167 * 1 + k)) = true := by decide +kernel
theorem chkJ_c168 : allB 1 (fun k => chkJ (168 * 1 + k)) = true := by decide +kernel
theorem chkJ_c169 : allB 1 (fun k => chkJ (169 * 1 + k)) = true := by decide +kernel
theorem chkJ_c170 : allB 1 (fun k => chkJ (170 * 1 + k)) = true := by decide +kernel
theorem chkJ_c171 : allB 1 (fun k => chkJ (171 * 1 + k)) = true := by decide +kernel
theorem chkJ_c172 : allB 1 (fun k => chkJ (172 * 1 + k)) = true := by decide +kernel
theorem chkJ_c173 : allB 1 (fun k => chkJ (173 * 1 + k)) = true := by decide +kernel
theorem chkJ_c174 : allB 1 (fun k => chkJ (174 * 1 + k)) = true := by decide +kernel
theorem chkJ_c175 : allB 1 (fun k => chkJ (175 * 1 + k)) = true := by decide +kernel
theorem chkJ_c176 : allB 1 (fun k => chkJ (176 * 1 + k)) = true := by decide +kernel
theorem chkJ_c177 : allB 1 (fun k => chkJ (177 * 1 + k)) = true := by decide +kernel
theorem chkJ_c178 : allB 1 (fun k => chkJ (178 * 1 + k)) = true := by decide +kernel
theorem chkJ_c179 : allB 1 (fun k => chkJ (179 * 1 + k)) = true := by decide +kernel
theorem chkJ_c180 : allB 1 (fun k => chkJ (180 * 1 + k)) = true := by decide +kernel
theorem chkJ_c181 : allB 1 (fun k => chkJ (181 * 1 + k)) = true := by decide +kernel
theorem chkJ_c182 : allB 1 (fun k => chkJ (182 * 1 + k)) = true := by decide +kernel
theorem chkJ_c183 : allB 1 (fun k => chkJ (183 * 1 + k)) = true := by decide +kernel
theorem chkJ_c184 : allB 1 (fun k => chkJ (184 * 1 + k)) = true := by decide +kernel
theorem chkJ_c185 : allB 1 (fun k => chkJ (185 * 1 + k)) = true := by decide +kernel
theorem chkJ_c186 : allB 1 (fun k => chkJ (186 * 1 + k)) = true := by decide +kernel
theorem chkJ_c187 : allB 1 (fun k => chkJ (187 * 1 + k)) = true := by decide +kernel
theorem chkJ_c188 : allB 1 (fun k => chkJ (188 * 1 + k)) = true := by decide +kernel
theorem chkJ_c189 : allB 1 (fun k => chkJ (189 * 1 + k)) = true := by decide +kernel
theorem chkJ_c190 : allB 1 (fun k => chkJ (190 * 1 + k)) = true := by decide +kernel
theorem chkJ_c191 : allB 1 (fun k => chkJ (191 * 1 + k)) = true := by decide +kernel
theorem chkJ_c192 : allB 1 (fun k => chkJ (192 * 1 + k)) = true := by decide +kernel
theorem chkJ_c193 : allB 1 (fun k => chkJ (193 * 1 + k)) = true := by decide +kernel
theorem chkJ_c194 : allB 1 (fun k => chkJ (194 * 1 + k)) = true := by decide +kernel
theorem chkJ_c195 : allB 1 (fun k => chkJ (195 * 1 + k)) = true := by decide +kernel
theorem chkJ_c196 : allB 1 (fun k => chkJ (196 * 1 + k)) = true := by decide +kernel
theorem chkJ_c197 : allB 1 (fun k => chkJ (197 * 1 + k)) = true := by decide +kernel
theorem chkJ_c198 : allB 1 (fun k => chkJ (198 * 1 + k)) = true := by decide +kernel
theorem chkJ_c199 : allB 1 (fun k => chkJ (199 * 1 + k)) = true := by decide +kernel
theorem chkJ_c200 : allB 1 (fun k => chkJ (200 * 1 + k)) = true := by decide +kernel
theorem chkJ_c201 : allB 1 (fun k => chkJ (201 * 1 + k)) = true := by decide +kernel
theorem chkJ_c202 : allB 1 (fun k => chkJ (202 * 1 + k)) = true := by decide +kernel
theorem chkJ_c203 : allB 1 (fun k => chkJ (203 * 1 + k)) = true := by decide +kernel
theorem chkJ_c204 : allB 1 (fun k => chkJ (204 * 1 + k)) = true := by decide +kernel
theorem chkJ_c205 : allB 1 (fun k => chkJ (205 * 1 + k)) = true := by decide +kernel
theorem chkJ_c206 : allB 1 (fun k => chkJ (206 * 1 + k)) = true := by decide +kernel
theorem chkJ_c207 : allB 1 (fun k => chkJ (207 * 1 + k)) = true := by decide +kernel
theorem chkJ_c208 : allB 1 (fun k => chkJ (208 * 1 + k)) = true := by decide +kernel
theorem chkJ_c209 : allB 1 (fun k => chkJ (209 * 1 + k)) = true := by decide +kernel
theorem chkJ_c210 : allB 1 (fun k => chkJ (210 * 1 + k)) = true := by decide +kernel
theorem chkJ_c211 : allB 1 (fun k => chkJ (211 * 1 + k)) = true := by decide +kernel
theorem chkJ_c212 : allB 1 (fun k => chkJ (212 * 1 + k)) = true := by decide +kernel
theorem chkJ_c213 : allB 1 (fun k => chkJ (213 * 1 + k)) = true := by decide +kernel
theorem chkJ_c214 : allB 1 (fun k => chkJ (214 * 1 + k)) = true := by decide +kernel
theorem chkJ_c215 : allB 1 (fun k => chkJ (215 * 1 + k)) = true := by decide +kernel
theorem chkJ_c216 : allB 1 (fun k => chkJ (216 * 1 + k)) = true := by decide +kernel
theorem chkJ_c217 : allB 1 (fun k => chkJ (217 * 1 + k)) = true := by decide +kernel
theorem chkJ_c218 : allB 1 (fun k => chkJ (218 * 1 + k)) = true := by decide +kernel
theorem chkJ_c219 : allB 1 (fun k => chkJ (219 * 1 + k)) = true := by decide +kernel
theorem chkJ_c220 : allB 1 (fun k => chkJ (220 * 1 + k)) = true := by decide +kernel
theorem chkJ_c221 : allB 1 (fun k => chkJ (221 * 1 + k)) = true := by decide +kernel
theorem chkJ_c222 : allB 1 (fun k => chkJ (222 * 1 + k)) = true := by decide +kernel
theorem chkJ_c223 : allB 1 (fun k => chkJ (223 * 1 + k)) = true := by decide +kernel
theorem chkJ_c224 : allB 1 (fun k => chkJ (224 * 1 + k)) = true := by decide +kernel
theorem chkJ_c225 : allB 1 (fun k => chkJ (225 * 1 + k)) = true := by decide +kernel
theorem chkJ_c226 : allB 1 (fun k => chkJ (226 * 1 + k)) = true := by decide +kernel
theorem chkJ_c227 : allB 1 (fun k => chkJ (227 * 1 + k)) = true := by decide +kernel
theorem chkJ_c228 : allB 1 (fun k => chkJ (228 * 1 + k)) = true := by decide +kernel
theorem chkJ_c229 : allB 1 (fun k => chkJ (229 * 1 + k)) = true := by decide +kernel
theorem chkJ_c230 : allB 1 (fun k => chkJ (230 * 1 + k)) = true := by decide +kernel
theorem chkJ_c231 : allB 1 (fun k => chkJ (231 * 1 + k)) = true := by decide +kernel
theorem chkJ_c232 : allB 1 (fun k => chkJ (232 * 1 + k)) = true := by decide +kernel
theorem chkJ_c233 : allB 1 (fun k => chkJ (233 * 1 + k)) = true := by decide +kernel
theorem chkJ_c234 : allB 1 (fun k => chkJ (234 * 1 + k)) = true := by decide +kernel
theorem chkJ_c235 : allB 1 (fun k => chkJ (235 * 1 + k)) = true := by decide +kernel
theorem chkJ_c236 : allB 1 (fun k => chkJ (236 * 1 + k)) = true := by decide +kernel
theorem chkJ_c237 : allB 1 (fun k => chkJ (237 * 1 + k)) = true := by decide +kernel
theorem chkJ_c238 : allB 1 (fun k => chkJ (238 * 1 + k)) = true := by decide +kernel
theorem chkJ_c239 : allB 1 (fun k => chkJ (239 * 1 + k)) = true := by decide +kernel
theorem chkJ_c240 : allB 1 (fun k => chkJ (240 * 1 + k)) = true := by decide +kernel
theorem chkJ_c241 : allB 1 (fun k => chkJ (241 * 1 + k)) = true := by decide +kernel
theorem chkJ_c242 : allB 1 (fun k => chkJ (242 * 1 + k)) = true := by decide +kernel
theorem chkJ_c243 : allB 1 (fun k => chkJ (243 * 1 + k)) = true := by decide +kernel
theorem chkJ_c244 : allB 1 (fun k => chkJ (244 * 1 + k)) = true := by decide +kernel
theorem chkJ_c245 : allB 1 (fun k => chkJ (245 * 1 + k)) = true := by decide +kernel
theorem chkJ_c246 : allB 1 (fun k => chkJ (246 * 1 + k)) = true := by decide +kernel
theorem chkJ_c247 : allB 1 (fun k => chkJ (247 * 1 + k)) = true := by decide +kernel
theorem chkJ_c248 : allB 1 (fun k => chkJ (248 * 1 + k)) = true := by decide +kernel
theorem chkJ_c249 : allB 1 (fun k => chkJ (249 * 1 + k)) = true := by decide +kernel
theorem chkJ_c250 : allB 1 (fun k => chkJ (250 * 1 + k)) = true := by decide +kernel
theorem chkJ_c251 : allB 1 (fun k => chkJ (251 * 1 + k)) = true := by decide +kernel
theorem chkJ_c252 : allB 1 (fun k => chkJ (252 * 1 + k)) = true := by decide +kernel
theorem chkJ_c253 : allB 1 (fun k => chkJ (253 * 1 + k)) = true := by decide +kernel
theorem chkJ_c254 : allB 1 (fun k => chkJ (254 * 1 + k)) = true := by decide +kernel
theorem chkJ_c255 : allB 1 (fun k => chkJ (255 * 1 + k)) = true := by decide +kernel
theorem chkJ_c256 : allB 1 (fun k => chkJ (256 * 1 + k)) = true := by decide +kernel
theorem chkJ_c257 : allB 1 (fun k => chkJ (257 * 1 + k)) = true := by decide +kernel
theorem chkJ_c258 : allB 1 (fun k => chkJ (258 * 1 + k)) = true := by decide +kernel
theorem chkJ_c259 : allB 1 (fun k => chkJ (259 * 1 + k)) = true := by decide +kernel
theorem chkJ_c260 : allB 1 (fun k => chkJ (260 * 1 + k)) = true := by decide +kernel
theorem chkJ_c261 : allB 1 (fun k => chkJ (261 * 1 + k)) = true := by decide +kernel
theorem chkJ_c262 : allB 1 (fun k => chkJ (262 * 1 + k)) = true := by decide +kernel
theorem chkJ_c263 : allB 1 (fun k => chkJ (263 * 1 + k)) = true := by decide +kernel
theorem chkJ_c264 : allB 1 (fun k => chkJ (264 * 1 + k)) = true := by decide +kernel
theorem chkJ_c265 : allB 1 (fun k => chkJ (265 * 1 + k)) = true := by decide +kernel
theorem chkJ_c266 : allB 1 (fun k => chkJ (266 * 1 + k)) = true := by decide +kernel
theorem chkJ_c267 : allB 1 (fun k => chkJ (267 * 1 + k)) = true := by decide +kernel
theorem chkJ_c268 : allB 1 (fun k => chkJ (268 * 1 + k)) = true := by decide +kernel
theorem chkJ_c269 : allB 1 (fun k => chkJ (269 * 1 + k)) = true := by decide +kernel
theorem chkJ_c270 : allB 1 (fun k => chkJ (270 * 1 + k)) = true := by decide +kernel
theorem chkJ_c271 : allB 1 (fun k => chkJ (271 * 1 + k)) = true := by decide +kernel
theorem chkJ_c272 : allB 1 (fun k => chkJ (272 * 1 + k)) = true := by decide +kernel
theorem chkJ_c273 : allB 1 (fun k => chkJ (273 * 1 + k)) = true := by decide +kernel
theorem chkJ_c274 : allB 1 (fun k => chkJ (274 * 1 + k)) = true := by decide +kernel
theorem chkJ_c275 : allB 1 (fun k => chkJ (275 * 1 + k)) = true := by decide +kernel
theorem chkJ_c276 : allB 1 (fun k => chkJ (276 * 1 + k)) = true := by decide +kernel
theorem chkJ_c277 : allB 1 (fun k => chkJ (277 * 1 + k)) = true := by decide +kernel
theorem chkJ_c278 : allB 1 (fun k => chkJ (278 * 1 + k)) = true := by decide +kernel
theorem chkJ_c279 : allB 1 (fun k => chkJ (279 * 1 + k)) = true := by decide +kernel
theorem chkJ_c280 : allB 1 (fun k => chkJ (280 * 1 + k)) = true := by decide +kernel
theorem chkJ_c281 : allB 1 (fun k => chkJ (281 * 1 + k)) = true := by decide +kernel
theorem chkJ_c282 : allB 1 (fun k => chkJ (282 * 1 + k)) = true := by decide +kernel
theorem chkJ_c283 : allB 1 (fun k => chkJ (283 * 1 + k)) = true := by decide +kernel
theorem chkJ_c284 : allB 1 (fun k => chkJ (284 * 1 + k)) = true := by decide +kernel
theorem chkJ_c285 : allB 1 (fun k => chkJ (285 * 1 + k)) = true := by decide +kernel
theorem chkJ_c286 : allB 1 (fun k => chkJ (286 * 1 + k)) = true := by decide +kernel
theorem chkJ_c287 : allB 1 (fun k => chkJ (287 * 1 + k)) = true := by decide +kernel
theorem chkJ_c288 : allB 1 (fun k => chkJ (288 * 1 + k)) = true := by decide +kernel
theorem chkJ_c289 : allB 1 (fun k => chkJ (289 * 1 + k)) = true := by decide +kernel
theorem chkJ_c290 : allB 1 (fun k => chkJ (290 * 1 + k)) = true := by decide +kernel
theorem chkJ_c291 : allB 1 (fun k => chkJ (291 * 1 + k)) = true := by decide +kernel
theorem chkJ_c292 : allB 1 (fun k => chkJ (292 * 1 + k)) = true := by decide +kernel
theorem chkJ_c293 : allB 1 (fun k => chkJ (293 * 1 + k)) = true := by decide +kernel
theorem chkJ_c294 : allB 1 (fun k => chkJ (294 * 1 + k)) = true := by decide +kernel
theorem chkJ_c295 : allB 1 (fun k => chkJ (295 * 1 + k)) = true := by decide +kernel
theorem chkJ_c296 : allB 1 (fun k => chkJ (296 * 1 + k)) = true := by decide +kernel
theorem chkJ_c297 : allB 1 (fun k => chkJ (297 * 1 + k)) = true := by decide +kernel
theorem chkJ_c298 : allB 1 (fun k => chkJ (298 * 1 + k)) = true := by decide +kernel
theorem chkJ_c299 : allB 1 (fun k => chkJ (299 * 1 + k)) = true := by decide +kernel
theorem chkJ_c300 : allB 1 (fun k => chkJ (300 * 1 + k)) = true := by decide +kernel
theorem chkJ_c301 : allB 1 (fun k => chkJ (301 * 1 + k)) = true := by decide +kernel
theorem chkJ_c302 : allB 1 (fun k => chkJ (302 * 1 + k)) = true := by decide +kernel
theorem chkJ_c303 : allB 1 (fun k => chkJ (303 * 1 + k)) = true := by decide +kernel
theorem chkJ_c304 : allB 1 (fun k => chkJ (304 * 1 + k)) = true := by decide +kernel
theorem chkJ_c305 : allB 1 (fun k => chkJ (305 * 1 + k)) = true := by decide +kernel
theorem chkJ_c306 : allB 1 (fun k => chkJ (306 * 1 + k)) = true := by decide +kernel
theorem chkJ_c307 : allB 1 (fun k => chkJ (307 * 1 + k)) = true := by decide +kernel
theorem chkJ_c308 : allB 1 (fun k => chkJ (308 * 1 + k)) = true := by decide +kernel
theorem chkJ_c309 : allB 1 (fun k => chkJ (309 * 1 + k)) = true := by decide +kernel
theorem chkJ_c310 : allB 1 (fun k => chkJ (310 * 1 + k)) = true := by decide +kernel
theorem chkJ_c311 : allB 1 (fun k => chkJ (311 * 1 + k)) = true := by decide +kernel
theorem chkJ_c312 : allB 1 (fun k => chkJ (312 * 1 + k)) = true := by decide +kernel
theorem chkJ_c313 : allB 1 (fun k => chkJ (313 * 1 + k)) = true := by decide +kernel
theorem chkJ_c314 : allB 1 (fun k => chkJ (314 * 1 + k)) = true := by decide +kernel
theorem chkJ_c315 : allB 1 (fun k => chkJ (315 * 1 + k)) = true := by decide +kernel
theorem chkJ_c316 : allB 1 (fun k => chkJ (316 * 1 + k)) = true := by decide +kernel
theorem chkJ_c317 : allB 1 (fun k => chkJ (317 * 1 + k)) = true := by decide +kernel
theorem chkJ_c318 : allB 1 (fun k => chkJ (318 * 1 + k)) = true := by decide +kernel
theorem chkJ_c319 : allB 1 (fun k => chkJ (319 * 1 + k)) = true := by decide +kernel
theorem chkJ_c320 : allB 1 (fun k => chkJ (320 * 1 + k)) = true := by decide +kernel
theorem chkJ_c321 : allB 1 (fun k => chkJ (321 * 1 + k)) = true := by decide +kernel
theorem chkJ_c322 : allB 1 (fun k => chkJ (322 * 1 + k)) = true := by decide +kernel
theorem chkJ_c323 : allB 1 (fun k => chkJ (323 * 1 + k)) = true := by decide +kernel
theorem chkJ_c324 : allB 1 (fun k => chkJ (324 * 1 + k)) = true := by decide +kernel
theorem chkJ_c325 : allB 1 (fun k => chkJ (325 * 1 + k)) = true := by decide +kernel
theorem chkJ_c326 : allB 1 (fun k => chkJ (326 * 1 + k)) = true := by decide +kernel
theorem chkJ_c327 : allB 1 (fun k => chkJ (327 * 1 + k)) = true := by decide +kernel
theorem chkJ_c328 : allB 1 (fun k => chkJ (328 * 1 + k)) = true := by decide +kernel
theorem chkJ_c329 : allB 1 (fun k => chkJ (329 * 1 + k)) = true := by decide +kernel
theorem chkJ_c330 : allB 1 (fun k => chkJ (330 * 1 + k)) = true := by decide +kernel
theorem chkJ_all : ∀ j, j < 331 → chkJ j = true := chunk_all (step := 1) (P := 331) (by decide) fun p hp => match p, hp with
  | 0, _ => chkJ_c0
  | 1, _ => chkJ_c1
  | 2, _ => chkJ_c2
  | 3, _ => chkJ_c3
  | 4, _ => chkJ_c4
  | 5, _ => chkJ_c5
  | 6, _ => chkJ_c6
  | 7, _ => chkJ_c7
  | 8, _ => chkJ_c8
  | 9, _ => chkJ_c9
  | 10, _ => chkJ_c10
  | 11, _ => chkJ_c11
  | 12, _ => chkJ_c12
  | 13, _ => chkJ_c13
  | 14, _ => chkJ_c14
  | 15, _ => chkJ_c15
  | 16, _ => chkJ_c16
  | 17, _ => chkJ_c17
  | 18, _ => chkJ_c18
  | 19, _ => chkJ_c19
  | 20, _ => chkJ_c20
  | 21, _ => chkJ_c21
  | 22, _ => chkJ_c22
  | 23, _ => chkJ_c23
  | 24, _ => chkJ_c24
  | 25, _ => chkJ_c25
  | 26, _ => chkJ_c26
  | 27, _ => chkJ_c27
  | 28, _ => chkJ_c28
  | 29, _ => chkJ_c29
  | 30, _ => chkJ_c30
  | 31, _ => chkJ_c31
  | 32, _ => chkJ_c32
  | 33, _ => chkJ_c33
  | 34, _ => chkJ_c34
  | 35, _ => chkJ_c35
  | 36, _ => chkJ_c36
  | 37, _ => chkJ_c37
  | 38, _ => chkJ_c38
  | 39, _ => chkJ_c39
  | 40, _ => chkJ_c40
  | 41, _ => chkJ_c41
  | 42, _ => chkJ_c42
  | 43, _ => chkJ_c43
  | 44, _ => chkJ_c44
  | 45, _ => chkJ_c45
  | 46, _ => chkJ_c46
  | 47, _ => chkJ_c47
  | 48, _ => chkJ_c48
  | 49, _ => chkJ_c49
  | 50, _ => chkJ_c50
  | 51, _ => chkJ_c51
  | 52, _ => chkJ_c52
  | 53, _ => chkJ_c53
  | 54, _ => chkJ_c54
  | 55, _ => chkJ_c55
  | 56, _ => chkJ_c56
  | 57, _ => chkJ_c57
  | 58, _ => chkJ_c58
  | 59, _ => chkJ_c59
  | 60, _ => chkJ_c60
  | 61, _ => chkJ_c61
  | 62, _ => chkJ_c62
  | 63, _ => chkJ_c63
  | 64, _ => chkJ_c64
  | 65, _ => chkJ_c65
  | 66, _ => chkJ_c66
  | 67, _ => chkJ_c67
  | 68, _ => chkJ_c68
  | 69, _ => chkJ_c69
  | 70, _ => chkJ_c70
  | 71, _ => chkJ_c71
  | 72, _ => chkJ_c72
  | 73, _ => chkJ_c73
  | 74, _ => chkJ_c74
  | 75, _ => chkJ_c75
  | 76, _ => chkJ_c76
  | 77, _ => chkJ_c77
  | 78, _ => chkJ_c78
  | 79, _ => chkJ_c79
  | 80, _ => chkJ_c80
  | 81, _ => chkJ_c81
  | 82, _ => chkJ_c82
  | 83, _ => chkJ_c83
  | 84, _ => chkJ_c84
  | 85, _ => chkJ_c85
  | 86, _ => chkJ_c86
  | 87, _ => chkJ_c87
  | 88, _ => chkJ_c88
  | 89, _ => chkJ_c89
  | 90, _ => chkJ_c90
  | 91, _ => chkJ_c91
  | 92, _ => chkJ_c92
  | 93, _ => chkJ_c93
  | 94, _ => chkJ_c94
  | 95, _ => chkJ_c95
  | 96, _ => chkJ_c96
  | 97, _ => chkJ_c97
  | 98, _ => chkJ_c98
  | 99, _ => chkJ_c99
  | 100, _ => chkJ_c100
  | 101, _ => chkJ_c101
  | 102, _ => chkJ_c102
  | 103, _ => chkJ_c103
  | 104, _ => chkJ_c104
  | 105, _ => chkJ_c105
  | 106, _ => chkJ_c106
  | 107, _ => chkJ_c107
  | 108, _ => chkJ_c108
  | 109, _ => chkJ_c109
  | 110, _ => chkJ_c110
  | 111, _ => chkJ_c111
  | 112, _ => chkJ_c112
  | 113, _ => chkJ_c113
  | 114, _ => chkJ_c114
  | 115, _ => chkJ_c115
  | 116, _ => chkJ_c116
  | 117, _ => chkJ_c117
  | 118, _ => chkJ_c118
  | 119, _ => chkJ_c119
  | 120, _ => chkJ_c120
  | 121, _ => chkJ_c121
  | 122, _ => chkJ_c122
  | 123, _ => chkJ_c123
  | 124, _ => chkJ_c124
  | 125, _ => chkJ_c125
  | 126, _ => chkJ_c126
  | 127, _ => chkJ_c127
  | 128, _ => chkJ_c128
  | 129, _ => chkJ_c129
  | 130, _ => chkJ_c130
  | 131, _ => chkJ_c131
  | 132, _ => chkJ_c132
  | 133, _ => chkJ_c133
  | 134, _ => chkJ_c134
  | 135, _ => chkJ_c135
  | 136, _ => chkJ_c136
  | 137, _ => chkJ_c137
  | 138, _ => chkJ_c138
  | 139, _ => chkJ_c139
  | 140, _ => chkJ_c140
  | 141, _ => chkJ_c141
  | 142, _ => chkJ_c142
  | 143, _ => chkJ_c143
  | 144, _ => chkJ_c144
  | 145, _ => chkJ_c145
  | 146, _ => chkJ_c146
  | 147, _ => chkJ_c147
  | 148, _ => chkJ_c148
  | 149, _ => chkJ_c149
  | 150, _ => chkJ_c150
  | 151, _ => chkJ_c151
  | 152, _ => chkJ_c152
  | 153, _ => chkJ_c153
  | 154, _ => chkJ_c154
  | 155, _ => chkJ_c155
  | 156, _ => chkJ_c156
  | 157, _ => chkJ_c157
  | 158, _ => chkJ_c158
  | 159, _ => chkJ_c159
  | 160, _ => chkJ_c160
  | 161, _ => chkJ_c161
  | 162, _ => chkJ_c162
  | 163, _ => chkJ_c163
  | 164, _ => chkJ_c164
  | 165, _ => chkJ_c165
  | 166, _ => chkJ_c166
  | 167, _ => chkJ_c167
  | 168, _ => chkJ_c168
  | 169, _ => chkJ_c169
  | 170, _ => chkJ_c170
  | 171, _ => chkJ_c171
  | 172, _ => chkJ_c172
  | 173, _ => chkJ_c173
  | 174, _ => chkJ_c174
  | 175, _ => chkJ_c175
  | 176, _ => chkJ_c176
  | 177, _ => chkJ_c177
  | 178, _ => chkJ_c178
  | 179, _ => chkJ_c179
  | 180, _ => chkJ_c180
  | 181, _ => chkJ_c181
  | 182, _ => chkJ_c182
  | 183, _ => chkJ_c183
  | 184, _ => chkJ_c184
  | 185, _ => chkJ_c185
  | 186, _ => chkJ_c186
  | 187, _ => chkJ_c187
  | 188, _ => chkJ_c188
  | 189, _ => chkJ_c189
  | 190, _ => chkJ_c190
  | 191, _ => chkJ_c191
  | 192, _ => chkJ_c192
  | 193, _ => chkJ_c193
  | 194, _ => chkJ_c194
  | 195, _ => chkJ_c195
  | 196, _ => chkJ_c196
  | 197, _ => chkJ_c197
  | 198, _ => chkJ_c198
  | 199, _ => chkJ_c199
  | 200, _ => chkJ_c200
  | 201, _ => chkJ_c201
  | 202, _ => chkJ_c202
  | 203, _ => chkJ_c203
  | 204, _ => chkJ_c204
  | 205, _ => chkJ_c205
  | 206, _ => chkJ_c206
  | 207, _ => chkJ_c207
  | 208, _ => chkJ_c208
  | 209, _ => chkJ_c209
  | 210, _ => chkJ_c210
  | 211, _ => chkJ_c211
  | 212, _ => chkJ_c212
  | 213, _ => chkJ_c213
  | 214, _ => chkJ_c214
  | 215, _ => chkJ_c215
  | 216, _ => chkJ_c216
  | 217, _ => chkJ_c217
  | 218, _ => chkJ_c218
  | 219, _ => chkJ_c219
  | 220, _ => chkJ_c220
  | 221, _ => chkJ_c221
  | 222, _ => chkJ_c222
  | 223, _ => chkJ_c223
  | 224, _ => chkJ_c224
  | 225, _ => chkJ_c225
  | 226, _ => chkJ_c226
  | 227, _ => chkJ_c227
  | 228, _ => chkJ_c228
  | 229, _ => chkJ_c229
  | 230, _ => chkJ_c230
  | 231, _ => chkJ_c231
  | 232, _ => chkJ_c232
  | 233, _ => chkJ_c233
  | 234, _ => chkJ_c234
  | 235, _ => chkJ_c235
  | 236, _ => chkJ_c236
  | 237, _ => chkJ_c237
  | 238, _ => chkJ_c238
  | 239, _ => chkJ_c239
  | 240, _ => chkJ_c240
  | 241, _ => chkJ_c241
  | 242, _ => chkJ_c242
  | 243, _ => chkJ_c243
  | 244, _ => chkJ_c244
  | 245, _ => chkJ_c245
  | 246, _ => chkJ_c246
  | 247, _ => chkJ_c247
  | 248, _ => chkJ_c248
  | 249, _ => chkJ_c249
  | 250, _ => chkJ_c250
  | 251, _ => chkJ_c251
  | 252, _ => chkJ_c252
  | 253, _ => chkJ_c253
  | 254, _ => chkJ_c254
  | 255, _ => chkJ_c255
  | 256, _ => chkJ_c256
  | 257, _ => chkJ_c257
  | 258, _ => chkJ_c258
  | 259, _ => chkJ_c259
  | 260, _ => chkJ_c260
  | 261, _ => chkJ_c261
  | 262, _ => chkJ_c262
  | 263, _ => chkJ_c263
  | 264, _ => chkJ_c264
  | 265, _ => chkJ_c265
  | 266, _ => chkJ_c266
  | 267, _ => chkJ_c267
  | 268, _ => chkJ_c268
  | 269, _ => chkJ_c269
  | 270, _ => chkJ_c270
  | 271, _ => chkJ_c271
  | 272, _ => chkJ_c272
  | 273, _ => chkJ_c273
  | 274, _ => chkJ_c274
  | 275, _ => chkJ_c275
  | 276, _ => chkJ_c276
  | 277, _ => chkJ_c277
  | 278, _ => chkJ_c278
  | 279, _ => chkJ_c279
  | 280, _ => chkJ_c280
  | 281, _ => chkJ_c281
  | 282, _ => chkJ_c282
  | 283, _ => chkJ_c283
  | 284, _ => chkJ_c284
  | 285, _ => chkJ_c285
  | 286, _ => chkJ_c286
  | 287, _ => chkJ_c287
  | 288, _ => chkJ_c288
  | 289, _ => chkJ_c289
  | 290, _ => chkJ_c290
  | 291, _ => chkJ_c291
  | 292, _ => chkJ_c292
  | 293, _ => chkJ_c293
  | 294, _ => chkJ_c294
  | 295, _ => chkJ_c295
  | 296, _ => chkJ_c296
  | 297, _ => chkJ_c297
  | 298, _ => chkJ_c298
  | 299, _ => chkJ_c299
  | 300, _ => chkJ_c300
  | 301, _ => chkJ_c301
  | 302, _ => chkJ_c302
  | 303, _ => chkJ_c303
  | 304, _ => chkJ_c304
  | 305, _ => chkJ_c305
  | 306, _ => chkJ_c306
  | 307, _ => chkJ_c307
  | 308, _ => chkJ_c308
  | 309, _ => chkJ_c309
  | 310, _ => chkJ_c310
  | 311, _ => chkJ_c311
  | 312, _ => chkJ_c312
  | 313, _ => chkJ_c313
  | 314, _ => chkJ_c314
  | 315, _ => chkJ_c315
  | 316, _ => chkJ_c316
  | 317, _ => chkJ_c317
  | 318, _ => chkJ_c318
  | 319, _ => chkJ_c319
  | 320, _ => chkJ_c320
  | 321, _ => chkJ_c321
  | 322, _ => chkJ_c322
  | 323, _ => chkJ_c323
  | 324, _ => chkJ_c324
  | 325, _ => chkJ_c325
  | 326, _ => chkJ_c326
  | 327, _ => chkJ_c327
  | 328, _ => chkJ_c328
  | 329, _ => chkJ_c329
  | 330, _ => chkJ_c330
  | p + 331, h => absurd h (by omega)
theorem chkJ_ok {j : Nat} (h0 : 0 < j) (hj : j < nmT) : codeW j ∈ TBg ∧ Cond.initialized (yT j).cls ∈ TBg ∧ ((yT j).cls ≠ "java/lang/invoke/MethodHandle" ∧ (yT j).cls ≠ "java/lang/invoke/VarHandle") ∧ entT j ≤ 41 ∧ plainName (yT j).cls = true ∧ (yT j).cls = ownT (clsT j) ∧ True := by
  have hj' : j < 331 := hj
  have h := chkJ_all j (by omega)
  unfold chkJ at h
  have h1 : (Nat.beq j 0 || !Nat.blt j nmT) = false := by
    have h2 : Nat.beq j 0 = false := by cases j with
      | zero => omega
      | succ n => rfl
    have h3 : Nat.blt j nmT = true := Nat.ble_eq_true_of_le hj
    rw [h2, h3]; rfl
  rw [h1] at h
  simp only [cond_false, Bool.and_eq_true] at h
  obtain ⟨a1, a2, a3, a4, a5, a6, a7⟩ := h
  exact ⟨atB_ok a1, atB_ok a2, of_decide_eq_true a3, of_decide_eq_true a4, a5, of_decide_eq_true a6, trivial⟩
