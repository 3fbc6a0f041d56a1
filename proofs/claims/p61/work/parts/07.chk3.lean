/-! CHECKS of the tables, part 4: instructions and the rest (printed by wip/whole/gen_chk3.py) -/
def exIn (x : Nat) (E : String) : Bool := decide ((x, E) ∈ exL)
def thrB (i pc x : Nat) : Bool := Nat.beq (clsT i) 1 && ((hhT i).isEmpty && (decide (decode (cT i) (pc + 3) = .ok (.dup, 1)) && (match decode (cT i) (pc + 4) with
  | .ok (.ldc sx, 2) => decide (sx ∈ exStr) && (decide (decode (cT i) (pc + 6) = .ok (.invokespecial (x + 4), 3)) && decide (decode (cT i) (pc + 9) = .ok (.athrow, 1)))
  | .ok (.ldc_w sx, 3) => decide (sx ∈ exStr) && (decide (decode (cT i) (pc + 7) = .ok (.invokespecial (x + 4), 3)) && decide (decode (cT i) (pc + 10) = .ok (.athrow, 1)))
  | _ => false)))
def chkI (i pc : Nat) : Instr → Bool
  | .dstore_n _ => false
  | .invokevirtual x => match rmT (clsT i) x with
    | some r => Nat.beq r.1 0 || Nat.beq r.1 8
    | none => true
  | .invokestatic x => match rmT (clsT i) x with
    | some r => Nat.beq r.1 1 || (Nat.beq r.1 5 || (Nat.beq r.1 6 || Nat.beq r.1 7))
    | none => true
  | .invokespecial x => match rmT (clsT i) x with
    | some r => Nat.beq r.1 2 || (Nat.beq r.1 3 || Nat.beq r.1 4)
    | none => true
  | .new x => match rcT (clsT i) x with
    | some _ => true
    | none => match reT (clsT i) x with
      | some E => exIn x E && thrB i pc x
      | none => true
  | _ => true
def chkD (i pc : Nat) : Bool := match insT i pc with
  | none => true
  | some q => decide (decode (cT i) pc = .ok q) && ((Nat.beq (lenI q.1) 0 || Nat.beq (lenI q.1) q.2) && chkI i pc q.1)
noncomputable def chkDD (i : Nat) : Bool := allB (lenT i) (chkD i)
theorem chkL_c0 : allB 32 (fun k => chkD 0 (0 * 32 + k)) = true := by decide +kernel
theorem chkL_c1 : allB 32 (fun k => chkD 0 (1 * 32 + k)) = true := by decide +kernel
theorem chkL_all : ∀ j, j < 64 → chkD 0 j = true := chunk_all (step := 32) (P := 2) (by decide) fun p hp => match p, hp with
  | 0, _ => chkL_c0
  | 1, _ => chkL_c1
  | p + 2, h => absurd h (by omega)
theorem chkM_i1 : chkDD 1 = true := by decide +kernel
theorem chkM_i2 : chkDD 2 = true := by decide +kernel
theorem chkM_i3 : chkDD 3 = true := by decide +kernel
theorem chkM_i4 : chkDD 4 = true := by decide +kernel
theorem chkM_i5 : chkDD 5 = true := by decide +kernel
theorem chkM_i6 : chkDD 6 = true := by decide +kernel
theorem chkM_i7 : chkDD 7 = true := by decide +kernel
theorem chkM_i8 : chkDD 8 = true := by decide +kernel
theorem chkM_i9 : chkDD 9 = true := by decide +kernel
theorem chkM_i10 : chkDD 10 = true := by decide +kernel
theorem chkM_i11 : chkDD 11 = true := by decide +kernel
theorem chkM_i12 : chkDD 12 = true := by decide +kernel
theorem chkM_i13 : chkDD 13 = true := by decide +kernel
theorem chkM_i14 : chkDD 14 = true := by decide +kernel
theorem chkM_i15 : chkDD 15 = true := by decide +kernel
theorem chkM_i16 : chkDD 16 = true := by decide +kernel
theorem chkM_i17 : chkDD 17 = true := by decide +kernel
theorem chkM_i18 : chkDD 18 = true := by decide +kernel
theorem chkM_i19 : chkDD 19 = true := by decide +kernel
theorem chkM_i20 : chkDD 20 = true := by decide +kernel
theorem chkM_i21 : chkDD 21 = true := by decide +kernel
theorem chkM_i22 : chkDD 22 = true := by decide +kernel
theorem chkM_i23 : chkDD 23 = true := by decide +kernel
theorem chkM_i24 : chkDD 24 = true := by decide +kernel
theorem chkM_i25 : chkDD 25 = true := by decide +kernel
theorem chkM_i26 : chkDD 26 = true := by decide +kernel
theorem chkM_i27 : chkDD 27 = true := by decide +kernel
theorem chkM_i28 : chkDD 28 = true := by decide +kernel
theorem chkM_i29 : chkDD 29 = true := by decide +kernel
theorem chkM_i30 : chkDD 30 = true := by decide +kernel
theorem chkM_i31 : chkDD 31 = true := by decide +kernel
theorem chkM_i32 : chkDD 32 = true := by decide +kernel
theorem chkM_i33 : chkDD 33 = true := by decide +kernel
theorem chkM_i34 : chkDD 34 = true := by decide +kernel
theorem chkM_i35 : chkDD 35 = true := by decide +kernel
theorem chkM_i36 : chkDD 36 = true := by decide +kernel
theorem chkM_i37 : chkDD 37 = true := by decide +kernel
theorem chkM_i38 : chkDD 38 = true := by decide +kernel
theorem chkM_i39 : chkDD 39 = true := by decide +kernel
theorem chkM_i40 : chkDD 40 = true := by decide +kernel
theorem chkM_i41 : chkDD 41 = true := by decide +kernel
theorem chkM_i42 : chkDD 42 = true := by decide +kernel
theorem chkM_i43 : chkDD 43 = true := by decide +kernel
theorem chkM_i44 : chkDD 44 = true := by decide +kernel
theorem chkM_i45 : chkDD 45 = true := by decide +kernel
theorem chkM_i46 : chkDD 46 = true := by decide +kernel
theorem chkM_i47 : chkDD 47 = true := by decide +kernel
theorem chkM_i48 : chkDD 48 = true := by decide +kernel
theorem chkM_i49 : chkDD 49 = true := by decide +kernel
theorem chkM_i50 : chkDD 50 = true := by decide +kernel
theorem chkM_i51 : chkDD 51 = true := by decide +kernel
theorem chkM_i52 : chkDD 52 = true := by decide +kernel
theorem chkM_i53 : chkDD 53 = true := by decide +kernel
theorem chkM_i54 : chkDD 54 = true := by decide +kernel
theorem chkM_i55 : chkDD 55 = true := by decide +kernel
theorem chkM_i56 : chkDD 56 = true := by decide +kernel
theorem chkM_i57 : chkDD 57 = true := by decide +kernel
theorem chkM_i58 : chkDD 58 = true := by decide +kernel
theorem chkM_i59 : chkDD 59 = true := by decide +kernel
theorem chkM_i60 : chkDD 60 = true := by decide +kernel
theorem chkM_i61 : chkDD 61 = true := by decide +kernel
theorem chkM_i62 : chkDD 62 = true := by decide +kernel
theorem chkM_i63 : chkDD 63 = true := by decide +kernel
theorem chkM_i64 : chkDD 64 = true := by decide +kernel
theorem chkM_i65 : chkDD 65 = true := by decide +kernel
theorem chkM_i66 : chkDD 66 = true := by decide +kernel
theorem chkM_i67 : chkDD 67 = true := by decide +kernel
theorem chkM_i68 : chkDD 68 = true := by decide +kernel
theorem chkM_i69 : chkDD 69 = true := by decide +kernel
theorem chkM_i70 : chkDD 70 = true := by decide +kernel
theorem chkM_i71 : chkDD 71 = true := by decide +kernel
theorem chkM_i72 : chkDD 72 = true := by decide +kernel
theorem chkM_i73 : chkDD 73 = true := by decide +kernel
theorem chkM_i74 : chkDD 74 = true := by decide +kernel
theorem chkM_i75 : chkDD 75 = true := by decide +kernel
theorem chkM_i76 : chkDD 76 = true := by decide +kernel
theorem chkM_i77 : chkDD 77 = true := by decide +kernel
theorem chkM_i78 : chkDD 78 = true := by decide +kernel
theorem chkM_i79 : chkDD 79 = true := by decide +kernel
theorem chkM_i80 : chkDD 80 = true := by decide +kernel
theorem chkM_i81 : chkDD 81 = true := by decide +kernel
theorem chkM_i82 : chkDD 82 = true := by decide +kernel
theorem chkM_i83 : chkDD 83 = true := by decide +kernel
theorem chkM_i84 : chkDD 84 = true := by decide +kernel
theorem chkM_i85 : chkDD 85 = true := by decide +kernel
theorem chkM_i86 : chkDD 86 = true := by decide +kernel
theorem chkM_i87 : chkDD 87 = true := by decide +kernel
theorem chkM_i88 : chkDD 88 = true := by decide +kernel
theorem chkM_i89 : chkDD 89 = true := by decide +kernel
theorem chkM_i90 : chkDD 90 = true := by decide +kernel
theorem chkM_i91 : chkDD 91 = true := by decide +kernel
theorem chkM_i92 : chkDD 92 = true := by decide +kernel
theorem chkM_i93 : chkDD 93 = true := by decide +kernel
theorem chkM_i94 : chkDD 94 = true := by decide +kernel
theorem chkM_i95 : chkDD 95 = true := by decide +kernel
theorem chkM_i96 : chkDD 96 = true := by decide +kernel
theorem chkM_i97 : chkDD 97 = true := by decide +kernel
theorem chkM_i98 : chkDD 98 = true := by decide +kernel
theorem chkM_i99 : chkDD 99 = true := by decide +kernel
theorem chkM_i100 : chkDD 100 = true := by decide +kernel
theorem chkM_i101 : chkDD 101 = true := by decide +kernel
theorem chkM_i102 : chkDD 102 = true := by decide +kernel
theorem chkM_i103 : chkDD 103 = true := by decide +kernel
theorem chkM_i104 : chkDD 104 = true := by decide +kernel
theorem chkM_i105 : chkDD 105 = true := by decide +kernel
theorem chkM_i106 : chkDD 106 = true := by decide +kernel
theorem chkM_i107 : chkDD 107 = true := by decide +kernel
theorem chkM_i108 : chkDD 108 = true := by decide +kernel
theorem chkM_i109 : chkDD 109 = true := by decide +kernel
theorem chkM_i110 : chkDD 110 = true := by decide +kernel
theorem chkM_i111 : chkDD 111 = true := by decide +kernel
theorem chkM_i112 : chkDD 112 = true := by decide +kernel
theorem chkM_i113 : chkDD 113 = true := by decide +kernel
theorem chkM_i114 : chkDD 114 = true := by decide +kernel
theorem chkM_i115 : chkDD 115 = true := by decide +kernel
theorem chkM_i116 : chkDD 116 = true := by decide +kernel
theorem chkM_i117 : chkDD 117 = true := by decide +kernel
theorem chkM_i118 : chkDD 118 = true := by decide +kernel
theorem chkM_i119 : chkDD 119 = true := by decide +kernel
theorem chkM_i120 : chkDD 120 = true := by decide +kernel
theorem chkM_i121 : chkDD 121 = true := by decide +kernel
theorem chkM_i122 : chkDD 122 = true := by decide +kernel
theorem chkM_i123 : chkDD 123 = true := by decide +kernel
theorem chkM_i124 : chkDD 124 = true := by decide +kernel
theorem chkM_i125 : chkDD 125 = true := by decide +kernel
theorem chkM_i126 : chkDD 126 = true := by decide +kernel
theorem chkM_i127 : chkDD 127 = true := by decide +kernel
theorem chkM_i128 : chkDD 128 = true := by decide +kernel
theorem chkM_i129 : chkDD 129 = true := by decide +kernel
theorem chkM_i130 : chkDD 130 = true := by decide +kernel
theorem chkM_i131 : chkDD 131 = true := by decide +kernel
theorem chkM_i132 : chkDD 132 = true := by decide +kernel
theorem chkM_i133 : chkDD 133 = true := by decide +kernel
theorem chkM_i134 : chkDD 134 = true := by decide +kernel
theorem chkM_i135 : chkDD 135 = true := by decide +kernel
theorem chkM_i136 : chkDD 136 = true := by decide +kernel
theorem chkM_i137 : chkDD 137 = true := by decide +kernel
theorem chkM_i138 : chkDD 138 = true := by decide +kernel
theorem chkM_i139 : chkDD 139 = true := by decide +kernel
theorem chkM_i140 : chkDD 140 = true := by decide +kernel
theorem chkM_i141 : chkDD 141 = true := by decide +kernel
theorem chkM_i142 : chkDD 142 = true := by decide +kernel
theorem chkM_i143 : chkDD 143 = true := by decide +kernel
theorem chkM_i144 : chkDD 144 = true := by decide +kernel
theorem chkM_i145 : chkDD 145 = true := by decide +kernel
theorem chkM_i146 : chkDD 146 = true := by decide +kernel
theorem chkM_i147 : chkDD 147 = true := by decide +kernel
theorem chkM_i148 : chkDD 148 = true := by decide +kernel
theorem chkM_i149 : chkDD 149 = true := by decide +kernel
theorem chkM_i150 : chkDD 150 = true := by decide +kernel
theorem chkM_i151 : chkDD 151 = true := by decide +kernel
theorem chkM_i152 : chkDD 152 = true := by decide +kernel
theorem chkM_i153 : chkDD 153 = true := by decide +kernel
theorem chkM_i154 : chkDD 154 = true := by decide +kernel
theorem chkM_i155 : chkDD 155 = true := by decide +kernel
theorem chkM_i156 : chkDD 156 = true := by decide +kernel
theorem chkM_i157 : chkDD 157 = true := by decide +kernel
theorem chkM_i158 : chkDD 158 = true := by decide +kernel
theorem chkM_i159 : chkDD 159 = true := by decide +kernel
theorem chkM_i160 : chkDD 160 = true := by decide +kernel
theorem chkM_i161 : chkDD 161 = true := by decide +kernel
theorem chkM_i162 : chkDD 162 = true := by decide +kernel
theorem chkM_i163 : chkDD 163 = true := by decide +kernel
theorem chkM_i164 : chkDD 164 = true := by decide +kernel
theorem chkM_i165 : chkDD 165 = true := by decide +kernel
theorem chkM_i166 : chkDD 166 = true := by decide +kernel
theorem chkM_i167 : chkDD 167 = true := by decide +kernel
theorem chkM_i168 : chkDD 168 = true := by decide +kernel
theorem chkM_i169 : chkDD 169 = true := by decide +kernel
theorem chkM_i170 : chkDD 170 = true := by decide +kernel
theorem chkM_i171 : chkDD 171 = true := by decide +kernel
theorem chkM_i172 : chkDD 172 = true := by decide +kernel
theorem chkM_i173 : chkDD 173 = true := by decide +kernel
theorem chkM_i174 : chkDD 174 = true := by decide +kernel
theorem chkM_i175 : chkDD 175 = true := by decide +kernel
theorem chkM_i176 : chkDD 176 = true := by decide +kernel
theorem chkM_i177 : chkDD 177 = true := by decide +kernel
theorem chkM_i178 : chkDD 178 = true := by decide +kernel
theorem chkM_i179 : chkDD 179 = true := by decide +kernel
theorem chkM_i180 : chkDD 180 = true := by decide +kernel
theorem chkM_i181 : chkDD 181 = true := by decide +kernel
theorem chkM_i182 : chkDD 182 = true := by decide +kernel
theorem chkM_i183 : chkDD 183 = true := by decide +kernel
theorem chkM_i184 : chkDD 184 = true := by decide +kernel
theorem chkM_i185 : chkDD 185 = true := by decide +kernel
theorem chkM_i186 : chkDD 186 = true := by decide +kernel
theorem chkM_i187 : chkDD 187 = true := by decide +kernel
theorem chkM_i188 : chkDD 188 = true := by decide +kernel
theorem chkM_i189 : chkDD 189 = true := by decide +kernel
theorem chkM_i190 : chkDD 190 = true := by decide +kernel
theorem chkM_i191 : chkDD 191 = true := by decide +kernel
theorem chkM_i192 : chkDD 192 = true := by decide +kernel
theorem chkM_i193 : chkDD 193 = true := by decide +kernel
theorem chkM_i194 : chkDD 194 = true := by decide +kernel
theorem chkM_i195 : chkDD 195 = true := by decide +kernel
theorem chkM_i196 : chkDD 196 = true := by decide +kernel
theorem chkM_i197 : chkDD 197 = true := by decide +kernel
theorem chkM_i198 : chkDD 198 = true := by decide +kernel
theorem chkM_i199 : chkDD 199 = true := by decide +kernel
theorem chkM_i200 : chkDD 200 = true := by decide +kernel
theorem chkM_i201 : chkDD 201 = true := by decide +kernel
theorem chkM_i202 : chkDD 202 = true := by decide +kernel
theorem chkM_i203 : chkDD 203 = true := by decide +kernel
theorem chkM_i204 : chkDD 204 = true := by decide +kernel
theorem chkM_i205 : chkDD 205 = true := by decide +kernel
theorem chkM_i206 : chkDD 206 = true := by decide +kernel
theorem chkM_i207 : chkDD 207 = true := by decide +kernel
theorem chkM_i208 : chkDD 208 = true := by decide +kernel
theorem chkM_i209 : chkDD 209 = true := by decide +kernel
theorem chkM_i210 : chkDD 210 = true := by decide +kernel
theorem chkM_i211 : chkDD 211 = true := by decide +kernel
theorem chkM_i212 : chkDD 212 = true := by decide +kernel
theorem chkM_i213 : chkDD 213 = true := by decide +kernel
theorem chkM_i214 : chkDD 214 = true := by decide +kernel
theorem chkM_i215 : chkDD 215 = true := by decide +kernel
theorem chkM_i216 : chkDD 216 = true := by decide +kernel
theorem chkM_i217 : chkDD 217 = true := by decide +kernel
theorem chkM_i218 : chkDD 218 = true := by decide +kernel
theorem chkM_i219 : chkDD 219 = true := by decide +kernel
theorem chkM_i220 : chkDD 220 = true := by decide +kernel
theorem chkM_i221 : chkDD 221 = true := by decide +kernel
theorem chkM_i222 : chkDD 222 = true := by decide +kernel
theorem chkM_i223 : chkDD 223 = true := by decide +kernel
theorem chkM_i224 : chkDD 224 = true := by decide +kernel
theorem chkM_i225 : chkDD 225 = true := by decide +kernel
theorem chkM_i226 : chkDD 226 = true := by decide +kernel
theorem chkM_i227 : chkDD 227 = true := by decide +kernel
theorem chkM_i228 : chkDD 228 = true := by decide +kernel
theorem chkM_i229 : chkDD 229 = true := by decide +kernel
theorem chkM_i230 : chkDD 230 = true := by decide +kernel
theorem chkM_i231 : chkDD 231 = true := by decide +kernel
theorem chkM_i232 : chkDD 232 = true := by decide +kernel
theorem chkM_i233 : chkDD 233 = true := by decide +kernel
theorem chkM_i234 : chkDD 234 = true := by decide +kernel
theorem chkM_i235 : chkDD 235 = true := by decide +kernel
theorem chkM_i236 : chkDD 236 = true := by decide +kernel
theorem chkM_i237 : chkDD 237 = true := by decide +kernel
theorem chkM_i238 : chkDD 238 = true := by decide +kernel
theorem chkM_i239 : chkDD 239 = true := by decide +kernel
theorem chkM_i240 : chkDD 240 = true := by decide +kernel
theorem chkM_i241 : chkDD 241 = true := by decide +kernel
theorem chkM_i242 : chkDD 242 = true := by decide +kernel
theorem chkM_i243 : chkDD 243 = true := by decide +kernel
theorem chkM_i244 : chkDD 244 = true := by decide +kernel
theorem chkM_i245 : chkDD 245 = true := by decide +kernel
theorem chkM_i246 : chkDD 246 = true := by decide +kernel
theorem chkM_i247 : chkDD 247 = true := by decide +kernel
theorem chkM_i248 : chkDD 248 = true := by decide +kernel
theorem chkM_i249 : chkDD 249 = true := by decide +kernel
theorem chkM_i250 : chkDD 250 = true := by decide +kernel
theorem chkM_i251 : chkDD 251 = true := by decide +kernel
theorem chkM_i252 : chkDD 252 = true := by decide +kernel
theorem chkM_i253 : chkDD 253 = true := by decide +kernel
theorem chkM_i254 : chkDD 254 = true := by decide +kernel
theorem chkM_i255 : chkDD 255 = true := by decide +kernel
theorem chkM_i256 : chkDD 256 = true := by decide +kernel
theorem chkM_i257 : chkDD 257 = true := by decide +kernel
theorem chkM_i258 : chkDD 258 = true := by decide +kernel
theorem chkM_i259 : chkDD 259 = true := by decide +kernel
theorem chkM_i260 : chkDD 260 = true := by decide +kernel
theorem chkM_i261 : chkDD 261 = true := by decide +kernel
theorem chkM_i262 : chkDD 262 = true := by decide +kernel
theorem chkM_i263 : chkDD 263 = true := by decide +kernel
theorem chkM_i264 : chkDD 264 = true := by decide +kernel
theorem chkM_i265 : chkDD 265 = true := by decide +kernel
theorem chkM_i266 : chkDD 266 = true := by decide +kernel
theorem chkM_i267 : chkDD 267 = true := by decide +kernel
theorem chkM_i268 : chkDD 268 = true := by decide +kernel
theorem chkM_i269 : chkDD 269 = true := by decide +kernel
theorem chkM_i270 : chkDD 270 = true := by decide +kernel
theorem chkM_i271 : chkDD 271 = true := by decide +kernel
theorem chkM_i272 : chkDD 272 = true := by decide +kernel
theorem chkM_i273 : chkDD 273 = true := by decide +kernel
theorem chkM_i274 : chkDD 274 = true := by decide +kernel
theorem chkM_i275 : chkDD 275 = true := by decide +kernel
theorem chkM_i276 : chkDD 276 = true := by decide +kernel
theorem chkM_i277 : chkDD 277 = true := by decide +kernel
theorem chkM_i278 : chkDD 278 = true := by decide +kernel
theorem chkM_i279 : chkDD 279 = true := by decide +kernel
theorem chkM_i280 : chkDD 280 = true := by decide +kernel
theorem chkM_i281 : chkDD 281 = true := by decide +kernel
theorem chkM_i282 : chkDD 282 = true := by decide +kernel
theorem chkM_i283 : chkDD 283 = true := by decide +kernel
theorem chkM_i284 : chkDD 284 = true := by decide +kernel
theorem chkM_i285 : chkDD 285 = true := by decide +kernel
theorem chkM_i286 : chkDD 286 = true := by decide +kernel
theorem chkM_i287 : chkDD 287 = true := by decide +kernel
theorem chkM_i288 : chkDD 288 = true := by decide +kernel
theorem chkM_i289 : chkDD 289 = true := by decide +kernel
theorem chkM_i290 : chkDD 290 = true := by decide +kernel
theorem chkM_i291 : chkDD 291 = true := by decide +kernel
theorem chkM_i292 : chkDD 292 = true := by decide +kernel
theorem chkM_i293 : chkDD 293 = true := by decide +kernel
theorem chkM_i294 : chkDD 294 = true := by decide +kernel
theorem chkM_i295 : chkDD 295 = true := by decide +kernel
theorem chkM_i296 : chkDD 296 = true := by decide +kernel
theorem chkM_i297 : chkDD 297 = true := by decide +kernel
theorem chkM_i298 : chkDD 298 = true := by decide +kernel
theorem chkM_i299 : chkDD 299 = true := by decide +kernel
theorem chkM_i300 : chkDD 300 = true := by decide +kernel
theorem chkM_i301 : chkDD 301 = true := by decide +kernel
theorem chkM_i302 : chkDD 302 = true := by decide +kernel
theorem chkM_i303 : chkDD 303 = true := by decide +kernel
theorem chkM_i304 : chkDD 304 = true := by decide +kernel
theorem chkM_i305 : chkDD 305 = true := by decide +kernel
theorem chkM_i306 : chkDD 306 = true := by decide +kernel
theorem chkM_i307 : chkDD 307 = true := by decide +kernel
theorem chkM_i308 : chkDD 308 = true := by decide +kernel
theorem chkM_i309 : chkDD 309 = true := by decide +kernel
theorem chkM_i310 : chkDD 310 = true := by decide +kernel
theorem chkM_i311 : chkDD 311 = true := by decide +kernel
theorem chkM_i312 : chkDD 312 = true := by decide +kernel
theorem chkM_i313 : chkDD 313 = true := by decide +kernel
theorem chkM_i314 : chkDD 314 = true := by decide +kernel
theorem chkM_i315 : chkDD 315 = true := by decide +kernel
theorem chkM_i316 : chkDD 316 = true := by decide +kernel
theorem chkM_i317 : chkDD 317 = true := by decide +kernel
theorem chkM_i318 : chkDD 318 = true := by decide +kernel
theorem chkM_i319 : chkDD 319 = true := by decide +kernel
theorem chkM_i320 : chkDD 320 = true := by decide +kernel
theorem chkM_i321 : chkDD 321 = true := by decide +kernel
theorem chkM_i322 : chkDD 322 = true := by decide +kernel
theorem chkM_i323 : chkDD 323 = true := by decide +kernel
theorem chkM_i324 : chkDD 324 = true := by decide +kernel
theorem chkM_i325 : chkDD 325 = true := by decide +kernel
theorem chkM_i326 : chkDD 326 = true := by decide +kernel
theorem chkM_i327 : chkDD 327 = true := by decide +kernel
theorem chkM_i328 : chkDD 328 = true := by decide +kernel
theorem chkM_i329 : chkDD 329 = true := by decide +kernel
theorem chkM_i330 : chkDD 330 = true := by decide +kernel
theorem chkDD_all : ∀ j, 0 < j → j < 331 → chkDD j = true := fun j h0 hj => match j, h0, hj with
  | 0, h, _ => absurd h (by omega)
  | 1, _, _ => chkM_i1
  | 2, _, _ => chkM_i2
  | 3, _, _ => chkM_i3
  | 4, _, _ => chkM_i4
  | 5, _, _ => chkM_i5
  | 6, _, _ => chkM_i6
  | 7, _, _ => chkM_i7
  | 8, _, _ => chkM_i8
  | 9, _, _ => chkM_i9
  | 10, _, _ => chkM_i10
  | 11, _, _ => chkM_i11
  | 12, _, _ => chkM_i12
  | 13, _, _ => chkM_i13
  | 14, _, _ => chkM_i14
  | 15, _, _ => chkM_i15
  | 16, _, _ => chkM_i16
  | 17, _, _ => chkM_i17
  | 18, _, _ => chkM_i18
  | 19, _, _ => chkM_i19
  | 20, _, _ => chkM_i20
  | 21, _, _ => chkM_i21
  | 22, _, _ => chkM_i22
  | 23, _, _ => chkM_i23
  | 24, _, _ => chkM_i24
  | 25, _, _ => chkM_i25
  | 26, _, _ => chkM_i26
  | 27, _, _ => chkM_i27
  | 28, _, _ => chkM_i28
  | 29, _, _ => chkM_i29
  | 30, _, _ => chkM_i30
  | 31, _, _ => chkM_i31
  | 32, _, _ => chkM_i32
  | 33, _, _ => chkM_i33
  | 34, _, _ => chkM_i34
  | 35, _, _ => chkM_i35
  | 36, _, _ => chkM_i36
  | 37, _, _ => chkM_i37
  | 38, _, _ => chkM_i38
  | 39, _, _ => chkM_i39
  | 40, _, _ => chkM_i40
  | 41, _, _ => chkM_i41
  | 42, _, _ => chkM_i42
  | 43, _, _ => chkM_i43
  | 44, _, _ => chkM_i44
  | 45, _, _ => chkM_i45
  | 46, _, _ => chkM_i46
  | 47, _, _ => chkM_i47
  | 48, _, _ => chkM_i48
  | 49, _, _ => chkM_i49
  | 50, _, _ => chkM_i50
  | 51, _, _ => chkM_i51
  | 52, _, _ => chkM_i52
  | 53, _, _ => chkM_i53
  | 54, _, _ => chkM_i54
  | 55, _, _ => chkM_i55
  | 56, _, _ => chkM_i56
  | 57, _, _ => chkM_i57
  | 58, _, _ => chkM_i58
  | 59, _, _ => chkM_i59
  | 60, _, _ => chkM_i60
  | 61, _, _ => chkM_i61
  | 62, _, _ => chkM_i62
  | 63, _, _ => chkM_i63
  | 64, _, _ => chkM_i64
  | 65, _, _ => chkM_i65
  | 66, _, _ => chkM_i66
  | 67, _, _ => chkM_i67
  | 68, _, _ => chkM_i68
  | 69, _, _ => chkM_i69
  | 70, _, _ => chkM_i70
  | 71, _, _ => chkM_i71
  | 72, _, _ => chkM_i72
  | 73, _, _ => chkM_i73
  | 74, _, _ => chkM_i74
  | 75, _, _ => chkM_i75
  | 76, _, _ => chkM_i76
  | 77, _, _ => chkM_i77
  | 78, _, _ => chkM_i78
  | 79, _, _ => chkM_i79
  | 80, _, _ => chkM_i80
  | 81, _, _ => chkM_i81
  | 82, _, _ => chkM_i82
  | 83, _, _ => chkM_i83
  | 84, _, _ => chkM_i84
  | 85, _, _ => chkM_i85
  | 86, _, _ => chkM_i86
  | 87, _, _ => chkM_i87
  | 88, _, _ => chkM_i88
  | 89, _, _ => chkM_i89
  | 90, _, _ => chkM_i90
  | 91, _, _ => chkM_i91
  | 92, _, _ => chkM_i92
  | 93, _, _ => chkM_i93
  | 94, _, _ => chkM_i94
  | 95, _, _ => chkM_i95
  | 96, _, _ => chkM_i96
  | 97, _, _ => chkM_i97
  | 98, _, _ => chkM_i98
  | 99, _, _ => chkM_i99
  | 100, _, _ => chkM_i100
  | 101, _, _ => chkM_i101
  | 102, _, _ => chkM_i102
  | 103, _, _ => chkM_i103
  | 104, _, _ => chkM_i104
  | 105, _, _ => chkM_i105
  | 106, _, _ => chkM_i106
  | 107, _, _ => chkM_i107
  | 108, _, _ => chkM_i108
  | 109, _, _ => chkM_i109
  | 110, _, _ => chkM_i110
  | 111, _, _ => chkM_i111
  | 112, _, _ => chkM_i112
  | 113, _, _ => chkM_i113
  | 114, _, _ => chkM_i114
  | 115, _, _ => chkM_i115
  | 116, _, _ => chkM_i116
  | 117, _, _ => chkM_i117
  | 118, _, _ => chkM_i118
  | 119, _, _ => chkM_i119
  | 120, _, _ => chkM_i120
  | 121, _, _ => chkM_i121
  | 122, _, _ => chkM_i122
  | 123, _, _ => chkM_i123
  | 124, _, _ => chkM_i124
  | 125, _, _ => chkM_i125
  | 126, _, _ => chkM_i126
  | 127, _, _ => chkM_i127
  | 128, _, _ => chkM_i128
  | 129, _, _ => chkM_i129
  | 130, _, _ => chkM_i130
  | 131, _, _ => chkM_i131
  | 132, _, _ => chkM_i132
  | 133, _, _ => chkM_i133
  | 134, _, _ => chkM_i134
  | 135, _, _ => chkM_i135
  | 136, _, _ => chkM_i136
  | 137, _, _ => chkM_i137
  | 138, _, _ => chkM_i138
  | 139, _, _ => chkM_i139
  | 140, _, _ => chkM_i140
  | 141, _, _ => chkM_i141
  | 142, _, _ => chkM_i142
  | 143, _, _ => chkM_i143
  | 144, _, _ => chkM_i144
  | 145, _, _ => chkM_i145
  | 146, _, _ => chkM_i146
  | 147, _, _ => chkM_i147
  | 148, _, _ => chkM_i148
  | 149, _, _ => chkM_i149
  | 150, _, _ => chkM_i150
  | 151, _, _ => chkM_i151
  | 152, _, _ => chkM_i152
  | 153, _, _ => chkM_i153
  | 154, _, _ => chkM_i154
  | 155, _, _ => chkM_i155
  | 156, _, _ => chkM_i156
  | 157, _, _ => chkM_i157
  | 158, _, _ => chkM_i158
  | 159, _, _ => chkM_i159
  | 160, _, _ => chkM_i160
  | 161, _, _ => chkM_i161
  | 162, _, _ => chkM_i162
  | 163, _, _ => chkM_i163
  | 164, _, _ => chkM_i164
  | 165, _, _ => chkM_i165
  | 166, _, _ => chkM_i166
  | 167, _, _ => chkM_i167
  | 168, _, _ => chkM_i168
  | 169, _, _ => chkM_i169
  | 170, _, _ => chkM_i170
  | 171, _, _ => chkM_i171
  | 172, _, _ => chkM_i172
  | 173, _, _ => chkM_i173
  | 174, _, _ => chkM_i174
  | 175, _, _ => chkM_i175
  | 176, _, _ => chkM_i176
  | 177, _, _ => chkM_i177
  | 178, _, _ => chkM_i178
  | 179, _, _ => chkM_i179
  | 180, _, _ => chkM_i180
  | 181, _, _ => chkM_i181
  | 182, _, _ => chkM_i182
  | 183, _, _ => chkM_i183
  | 184, _, _ => chkM_i184
  | 185, _, _ => chkM_i185
  | 186, _, _ => chkM_i186
  | 187, _, _ => chkM_i187
  | 188, _, _ => chkM_i188
  | 189, _, _ => chkM_i189
  | 190, _, _ => chkM_i190
  | 191, _, _ => chkM_i191
  | 192, _, _ => chkM_i192
  | 193, _, _ => chkM_i193
  | 194, _, _ => chkM_i194
  | 195, _, _ => chkM_i195
  | 196, _, _ => chkM_i196
  | 197, _, _ => chkM_i197
  | 198, _, _ => chkM_i198
  | 199, _, _ => chkM_i199
  | 200, _, _ => chkM_i200
  | 201, _, _ => chkM_i201
  | 202, _, _ => chkM_i202
  | 203, _, _ => chkM_i203
  | 204, _, _ => chkM_i204
  | 205, _, _ => chkM_i205
  | 206, _, _ => chkM_i206
  | 207, _, _ => chkM_i207
  | 208, _, _ => chkM_i208
  | 209, _, _ => chkM_i209
  | 210, _, _ => chkM_i210
  | 211, _, _ => chkM_i211
  | 212, _, _ => chkM_i212
  | 213, _, _ => chkM_i213
  | 214, _, _ => chkM_i214
  | 215, _, _ => chkM_i215
  | 216, _, _ => chkM_i216
  | 217, _, _ => chkM_i217
  | 218, _, _ => chkM_i218
  | 219, _, _ => chkM_i219
  | 220, _, _ => chkM_i220
  | 221, _, _ => chkM_i221
  | 222, _, _ => chkM_i222
  | 223, _, _ => chkM_i223
  | 224, _, _ => chkM_i224
  | 225, _, _ => chkM_i225
  | 226, _, _ => chkM_i226
  | 227, _, _ => chkM_i227
  | 228, _, _ => chkM_i228
  | 229, _, _ => chkM_i229
  | 230, _, _ => chkM_i230
  | 231, _, _ => chkM_i231
  | 232, _, _ => chkM_i232
  | 233, _, _ => chkM_i233
  | 234, _, _ => chkM_i234
  | 235, _, _ => chkM_i235
  | 236, _, _ => chkM_i236
  | 237, _, _ => chkM_i237
  | 238, _, _ => chkM_i238
  | 239, _, _ => chkM_i239
  | 240, _, _ => chkM_i240
  | 241, _, _ => chkM_i241
  | 242, _, _ => chkM_i242
  | 243, _, _ => chkM_i243
  | 244, _, _ => chkM_i244
  | 245, _, _ => chkM_i245
  | 246, _, _ => chkM_i246
  | 247, _, _ => chkM_i247
  | 248, _, _ => chkM_i248
  | 249, _, _ => chkM_i249
  | 250, _, _ => chkM_i250
  | 251, _, _ => chkM_i251
  | 252, _, _ => chkM_i252
  | 253, _, _ => chkM_i253
  | 254, _, _ => chkM_i254
  | 255, _, _ => chkM_i255
  | 256, _, _ => chkM_i256
  | 257, _, _ => chkM_i257
  | 258, _, _ => chkM_i258
  | 259, _, _ => chkM_i259
  | 260, _, _ => chkM_i260
  | 261, _, _ => chkM_i261
  | 262, _, _ => chkM_i262
  | 263, _, _ => chkM_i263
  | 264, _, _ => chkM_i264
  | 265, _, _ => chkM_i265
  | 266, _, _ => chkM_i266
  | 267, _, _ => chkM_i267
  | 268, _, _ => chkM_i268
  | 269, _, _ => chkM_i269
  | 270, _, _ => chkM_i270
  | 271, _, _ => chkM_i271
  | 272, _, _ => chkM_i272
  | 273, _, _ => chkM_i273
  | 274, _, _ => chkM_i274
  | 275, _, _ => chkM_i275
  | 276, _, _ => chkM_i276
  | 277, _, _ => chkM_i277
  | 278, _, _ => chkM_i278
  | 279, _, _ => chkM_i279
  | 280, _, _ => chkM_i280
  | 281, _, _ => chkM_i281
  | 282, _, _ => chkM_i282
  | 283, _, _ => chkM_i283
  | 284, _, _ => chkM_i284
  | 285, _, _ => chkM_i285
  | 286, _, _ => chkM_i286
  | 287, _, _ => chkM_i287
  | 288, _, _ => chkM_i288
  | 289, _, _ => chkM_i289
  | 290, _, _ => chkM_i290
  | 291, _, _ => chkM_i291
  | 292, _, _ => chkM_i292
  | 293, _, _ => chkM_i293
  | 294, _, _ => chkM_i294
  | 295, _, _ => chkM_i295
  | 296, _, _ => chkM_i296
  | 297, _, _ => chkM_i297
  | 298, _, _ => chkM_i298
  | 299, _, _ => chkM_i299
  | 300, _, _ => chkM_i300
  | 301, _, _ => chkM_i301
  | 302, _, _ => chkM_i302
  | 303, _, _ => chkM_i303
  | 304, _, _ => chkM_i304
  | 305, _, _ => chkM_i305
  | 306, _, _ => chkM_i306
  | 307, _, _ => chkM_i307
  | 308, _, _ => chkM_i308
  | 309, _, _ => chkM_i309
  | 310, _, _ => chkM_i310
  | 311, _, _ => chkM_i311
  | 312, _, _ => chkM_i312
  | 313, _, _ => chkM_i313
  | 314, _, _ => chkM_i314
  | 315, _, _ => chkM_i315
  | 316, _, _ => chkM_i316
  | 317, _, _ => chkM_i317
  | 318, _, _ => chkM_i318
  | 319, _, _ => chkM_i319
  | 320, _, _ => chkM_i320
  | 321, _, _ => chkM_i321
  | 322, _, _ => chkM_i322
  | 323, _, _ => chkM_i323
  | 324, _, _ => chkM_i324
  | 325, _, _ => chkM_i325
  | 326, _, _ => chkM_i326
  | 327, _, _ => chkM_i327
  | 328, _, _ => chkM_i328
  | 329, _, _ => chkM_i329
  | 330, _, _ => chkM_i330
  | j + 331, _, h => absurd h (by omega)
theorem ins_lt {i pc : Nat} {q : Instr × Nat} (h : insT i pc = some q) : pc < lenT i := by
  unfold insT at h
  cases h1 : Nat.blt pc (lenT i) with
  | false => rw [h1] at h; cases h
  | true => exact Nat.le_of_ble_eq_true h1
theorem len_lt {i : Nat} (h : 331 ≤ i) : lenT i = 0 := by
  have e : ∀ c : Nat, c < 331 → Nat.beq i c = false := by
    intro c hc
    cases h9 : Nat.beq i c with
    | false => rfl
    | true => have := Nat.eq_of_beq_eq_true h9; omega
  have e2 : ∀ c : Nat, c < 331 → Nat.ble c i = true := fun c hc => Nat.ble_eq_true_of_le (by omega)
  unfold lenT
  repeat (first | rw [e2 _ (by decide)] | rw [e _ (by decide)] | simp only [cond_true, cond_false])
theorem chkD_ok {i pc : Nat} {ins : Instr} {len : Nat} (h : insT i pc = some (ins, len)) : decode (cT i) pc = .ok (ins, len) ∧ (lenI ins = 0 ∨ lenI ins = len) ∧ chkI i pc ins = true := by
  have hpc := ins_lt h
  have hi : i < 331 := by
    rcases Nat.lt_or_ge i 331 with h1 | h1
    · exact h1
    · rw [len_lt h1] at hpc; omega
  have h2 : chkD i pc = true := by
    rcases Nat.eq_zero_or_pos i with h0 | h0
    · subst h0
      refine chkL_all pc (Nat.lt_of_lt_of_le hpc (by decide))
    · exact allB_ok (chkDD_all i h0 hi) pc hpc
  unfold chkD at h2
  rw [h] at h2
  simp only [Bool.and_eq_true, Bool.or_eq_true] at h2
  obtain ⟨a, b, c⟩ := h2
  refine ⟨of_decide_eq_true a, ?_, c⟩
  rcases b with b | b
  · exact Or.inl (Nat.eq_of_beq_eq_true b)
  · exact Or.inr (Nat.eq_of_beq_eq_true b)
