/-! THE LAW: what its loop does -/
noncomputable def L_law_18 (en : pN) (d : Nat) (v3 : Int32) (s : qS) : Option qR := qE (qev en d) en (some .boolean) tb_law (18, [(0, .retAddr 0), (1, .ref 0), (2, .ref 151), (3, .int v3)], []) s
noncomputable def L_law_745 (en : pN) (d : Nat) (v3 : Int32) (vs1 : Int32) (vs2 : Int32) (s : qS) : Option qR := qE (qev en d) en (some .boolean) tb_law (745, [(0, .retAddr 0), (1, .ref 0), (2, .ref 151), (3, .int v3)], [.int vs2, .int vs1, .ref 0]) s
noncomputable def L_law_767 (en : pN) (d : Nat) (v3 : Int32) (vs0 : Int32) (vs2 : Int32) (vs3 : Int32) (s : qS) : Option qR := qE (qev en d) en (some .boolean) tb_law (767, [(0, .retAddr 0), (1, .ref 0), (2, .ref 151), (3, .int v3)], [.int vs3, .int vs2, .ref 151, .int vs0]) s
set_option maxRecDepth 100000 in
set_option maxHeartbeats 8000000 in
theorem le_law_18 (en : pN) (d : Nat) (v3 : Int32) (s : qS) : qle (if ((Int32.ofNat en.1) - (6 : Int32)) < v3 then some (some (.int (1 : Int32)), s) else gd (p_inB v3 en.1 = true) (swI ((en.2 v3.toNatClampNeg) &&& (63 : Int32)).toInt 0 [gd (p_inB (v3 + (1 : Int32)) en.1 = true) (gd (p_inB (v3 + (2 : Int32)) en.1 = true) (gd (p_inB (v3 + (3 : Int32)) en.1 = true) (gd (p_inB (v3 + (4 : Int32)) en.1 = true) (gd (p_inB (v3 + (5 : Int32)) en.1 = true) (bI (qev en d 202 [.ref 0, .int (en.2 (v3 + (1 : Int32)).toNatClampNeg), .int (en.2 (v3 + (2 : Int32)).toNatClampNeg), .int (en.2 (v3 + (3 : Int32)).toNatClampNeg), .int (en.2 (v3 + (4 : Int32)).toNatClampNeg), .int (en.2 (v3 + (5 : Int32)).toNatClampNeg)] s) (fun w8 s9 => bI (qev en d 241 [.ref 151, .int (en.2 (v3 + (1 : Int32)).toNatClampNeg), .int (en.2 (v3 + (2 : Int32)).toNatClampNeg), .int (en.2 (v3 + (3 : Int32)).toNatClampNeg), .int (en.2 (v3 + (4 : Int32)).toNatClampNeg), .int (en.2 (v3 + (5 : Int32)).toNatClampNeg)] s9) (fun w11 s12 => if w8 = w11 then L_law_18 en d (v3 + (6 : Int32)) s12 else some (some (.int (0 : Int32)), s12)))))))), gd (p_inB (v3 + (1 : Int32)) en.1 = true) (bI (qev en d 203 [.ref 0, .int (en.2 (v3 + (1 : Int32)).toNatClampNeg)] s) (fun w16 s17 => bI (qev en d 242 [.ref 151, .int (en.2 (v3 + (1 : Int32)).toNatClampNeg)] s17) (fun w19 s20 => if w16 = w19 then L_law_18 en d (v3 + (6 : Int32)) s20 else some (some (.int (0 : Int32)), s20)))), bI (qev en d 204 [.ref 0] s) (fun w23 s24 => bI (qev en d 289 [.ref 151] s24) (fun w26 s27 => if w23 = w26 then L_law_18 en d (v3 + (6 : Int32)) s27 else some (some (.int (0 : Int32)), s27))), gd (p_inB (v3 + (1 : Int32)) en.1 = true) (bI (qev en d 205 [.ref 0, .int (en.2 (v3 + (1 : Int32)).toNatClampNeg)] s) (fun w31 s32 => bI (qev en d 290 [.ref 151, .int (en.2 (v3 + (1 : Int32)).toNatClampNeg)] s32) (fun w34 s35 => if w31 = w34 then L_law_18 en d (v3 + (6 : Int32)) s35 else some (some (.int (0 : Int32)), s35)))), gd (p_inB (v3 + (1 : Int32)) en.1 = true) (gd (p_inB (v3 + (2 : Int32)) en.1 = true) (bI (qev en d 206 [.ref 0, .int (en.2 (v3 + (1 : Int32)).toNatClampNeg), .int (en.2 (v3 + (2 : Int32)).toNatClampNeg)] s) (fun w40 s41 => bI (qev en d 291 [.ref 151, .int (en.2 (v3 + (1 : Int32)).toNatClampNeg), .int (en.2 (v3 + (2 : Int32)).toNatClampNeg)] s41) (fun w43 s44 => if w40 = w43 then L_law_18 en d (v3 + (6 : Int32)) s44 else some (some (.int (0 : Int32)), s44))))), gd (p_inB (v3 + (1 : Int32)) en.1 = true) (bI (qev en d 207 [.ref 0, .int (en.2 (v3 + (1 : Int32)).toNatClampNeg)] s) (fun w48 s49 => bI (qev en d 332 [.ref 151, .int (en.2 (v3 + (1 : Int32)).toNatClampNeg)] s49) (fun w51 s52 => if w48 = w51 then L_law_18 en d (v3 + (6 : Int32)) s52 else some (some (.int (0 : Int32)), s52)))), gd (p_inB (v3 + (1 : Int32)) en.1 = true) (bI (qev en d 208 [.ref 0, .int (en.2 (v3 + (1 : Int32)).toNatClampNeg)] s) (fun w56 s57 => bI (qev en d 333 [.ref 151, .int (en.2 (v3 + (1 : Int32)).toNatClampNeg)] s57) (fun w59 s60 => if w56 = w59 then L_law_18 en d (v3 + (6 : Int32)) s60 else some (some (.int (0 : Int32)), s60)))), gd (p_inB (v3 + (1 : Int32)) en.1 = true) (gd (p_inB (v3 + (2 : Int32)) en.1 = true) (bI (qev en d 209 [.ref 0, .int (en.2 (v3 + (1 : Int32)).toNatClampNeg), .int (en.2 (v3 + (2 : Int32)).toNatClampNeg)] s) (fun w65 s66 => bI (qev en d 335 [.ref 151, .int (en.2 (v3 + (1 : Int32)).toNatClampNeg), .int (en.2 (v3 + (2 : Int32)).toNatClampNeg)] s66) (fun w68 s69 => if w65 = w68 then L_law_18 en d (v3 + (6 : Int32)) s69 else some (some (.int (0 : Int32)), s69))))), gd (p_inB (v3 + (1 : Int32)) en.1 = true) (gd (p_inB (v3 + (2 : Int32)) en.1 = true) (bI (qev en d 210 [.ref 0, .int (en.2 (v3 + (1 : Int32)).toNatClampNeg), .int (en.2 (v3 + (2 : Int32)).toNatClampNeg)] s) (fun w74 s75 => bI (qev en d 337 [.ref 151, .int (en.2 (v3 + (1 : Int32)).toNatClampNeg), .int (en.2 (v3 + (2 : Int32)).toNatClampNeg)] s75) (fun w77 s78 => if w74 = w77 then L_law_18 en d (v3 + (6 : Int32)) s78 else some (some (.int (0 : Int32)), s78))))), gd (p_inB (v3 + (1 : Int32)) en.1 = true) (gd (p_inB (v3 + (2 : Int32)) en.1 = true) (bI (qev en d 211 [.ref 0, .int (en.2 (v3 + (1 : Int32)).toNatClampNeg), .int (en.2 (v3 + (2 : Int32)).toNatClampNeg)] s) (fun w83 s84 => bI (qev en d 338 [.ref 151, .int (en.2 (v3 + (1 : Int32)).toNatClampNeg), .int (en.2 (v3 + (2 : Int32)).toNatClampNeg)] s84) (fun w86 s87 => if w83 = w86 then L_law_18 en d (v3 + (6 : Int32)) s87 else some (some (.int (0 : Int32)), s87))))), gd (p_inB (v3 + (1 : Int32)) en.1 = true) (bI (qev en d 212 [.ref 0, .int (en.2 (v3 + (1 : Int32)).toNatClampNeg)] s) (fun w91 s92 => bI (qev en d 339 [.ref 151, .int (en.2 (v3 + (1 : Int32)).toNatClampNeg)] s92) (fun w94 s95 => if w91 = w94 then L_law_18 en d (v3 + (6 : Int32)) s95 else some (some (.int (0 : Int32)), s95)))), gd (p_inB (v3 + (1 : Int32)) en.1 = true) (gd (p_inB (v3 + (2 : Int32)) en.1 = true) (bI (qev en d 213 [.ref 0, .int (en.2 (v3 + (1 : Int32)).toNatClampNeg), .int (en.2 (v3 + (2 : Int32)).toNatClampNeg)] s) (fun w100 s101 => bI (qev en d 340 [.ref 151, .int (en.2 (v3 + (1 : Int32)).toNatClampNeg), .int (en.2 (v3 + (2 : Int32)).toNatClampNeg)] s101) (fun w103 s104 => if w100 = w103 then L_law_18 en d (v3 + (6 : Int32)) s104 else some (some (.int (0 : Int32)), s104))))), gd (p_inB (v3 + (1 : Int32)) en.1 = true) (gd (p_inB (v3 + (2 : Int32)) en.1 = true) (bI (qev en d 214 [.ref 0, .int (en.2 (v3 + (1 : Int32)).toNatClampNeg), .int (en.2 (v3 + (2 : Int32)).toNatClampNeg)] s) (fun w109 s110 => bI (qev en d 341 [.ref 151, .int (en.2 (v3 + (1 : Int32)).toNatClampNeg), .int (en.2 (v3 + (2 : Int32)).toNatClampNeg)] s110) (fun w112 s113 => if w109 = w112 then L_law_18 en d (v3 + (6 : Int32)) s113 else some (some (.int (0 : Int32)), s113))))), gd (p_inB (v3 + (1 : Int32)) en.1 = true) (gd (p_inB (v3 + (2 : Int32)) en.1 = true) (bI (qev en d 215 [.ref 0, .int (en.2 (v3 + (1 : Int32)).toNatClampNeg), .int (en.2 (v3 + (2 : Int32)).toNatClampNeg)] s) (fun w118 s119 => bI (qev en d 342 [.ref 151, .int (en.2 (v3 + (1 : Int32)).toNatClampNeg), .int (en.2 (v3 + (2 : Int32)).toNatClampNeg)] s119) (fun w121 s122 => if w118 = w121 then L_law_18 en d (v3 + (6 : Int32)) s122 else some (some (.int (0 : Int32)), s122))))), gd (p_inB (v3 + (1 : Int32)) en.1 = true) (gd (p_inB (v3 + (2 : Int32)) en.1 = true) (bI (qev en d 216 [.ref 0, .int (en.2 (v3 + (1 : Int32)).toNatClampNeg), .int (en.2 (v3 + (2 : Int32)).toNatClampNeg)] s) (fun w127 s128 => bI (qev en d 346 [.ref 151, .int (en.2 (v3 + (1 : Int32)).toNatClampNeg), .int (en.2 (v3 + (2 : Int32)).toNatClampNeg)] s128) (fun w130 s131 => if w127 = w130 then L_law_18 en d (v3 + (6 : Int32)) s131 else some (some (.int (0 : Int32)), s131))))), gd (p_inB (v3 + (1 : Int32)) en.1 = true) (gd (p_inB (v3 + (2 : Int32)) en.1 = true) (bI (qev en d 217 [.ref 0, .int (en.2 (v3 + (1 : Int32)).toNatClampNeg), .int (en.2 (v3 + (2 : Int32)).toNatClampNeg)] s) (fun w136 s137 => bI (qev en d 348 [.ref 151, .int (en.2 (v3 + (1 : Int32)).toNatClampNeg), .int (en.2 (v3 + (2 : Int32)).toNatClampNeg)] s137) (fun w139 s140 => if w136 = w139 then L_law_18 en d (v3 + (6 : Int32)) s140 else some (some (.int (0 : Int32)), s140))))), gd (p_inB (v3 + (1 : Int32)) en.1 = true) (bI (qev en d 218 [.ref 0, .int (en.2 (v3 + (1 : Int32)).toNatClampNeg)] s) (fun w144 s145 => bI (qev en d 353 [.ref 151, .int (en.2 (v3 + (1 : Int32)).toNatClampNeg)] s145) (fun w147 s148 => if w144 = w147 then L_law_18 en d (v3 + (6 : Int32)) s148 else some (some (.int (0 : Int32)), s148)))), gd (p_inB (v3 + (1 : Int32)) en.1 = true) (bI (qev en d 219 [.ref 0, .int (en.2 (v3 + (1 : Int32)).toNatClampNeg)] s) (fun w152 s153 => bI (qev en d 354 [.ref 151, .int (en.2 (v3 + (1 : Int32)).toNatClampNeg)] s153) (fun w155 s156 => if w152 = w155 then L_law_18 en d (v3 + (6 : Int32)) s156 else some (some (.int (0 : Int32)), s156)))), gd (p_inB (v3 + (1 : Int32)) en.1 = true) (gd (p_inB (v3 + (2 : Int32)) en.1 = true) (if (en.2 (v3 + (2 : Int32)).toNatClampNeg) = (0 : Int32) then L_law_745 en d v3 (en.2 (v3 + (1 : Int32)).toNatClampNeg) (0 : Int32) s else L_law_745 en d v3 (en.2 (v3 + (1 : Int32)).toNatClampNeg) (1 : Int32) s)), gd (p_inB (v3 + (1 : Int32)) en.1 = true) (bI (qev en d 221 [.ref 0, .int (en.2 (v3 + (1 : Int32)).toNatClampNeg)] s) (fun w163 s164 => bI (qev en d 367 [.ref 151, .int (en.2 (v3 + (1 : Int32)).toNatClampNeg)] s164) (fun w166 s167 => if w163 = w166 then L_law_18 en d (v3 + (6 : Int32)) s167 else some (some (.int (0 : Int32)), s167)))), gd (p_inB (v3 + (1 : Int32)) en.1 = true) (gd (p_inB (v3 + (2 : Int32)) en.1 = true) (bI (qev en d 222 [.ref 0, .int (en.2 (v3 + (1 : Int32)).toNatClampNeg), .int (en.2 (v3 + (2 : Int32)).toNatClampNeg)] s) (fun w172 s173 => bI (qev en d 370 [.ref 151, .int (en.2 (v3 + (1 : Int32)).toNatClampNeg), .int (en.2 (v3 + (2 : Int32)).toNatClampNeg)] s173) (fun w175 s176 => if w172 = w175 then L_law_18 en d (v3 + (6 : Int32)) s176 else some (some (.int (0 : Int32)), s176))))), gd (p_inB (v3 + (1 : Int32)) en.1 = true) (gd (p_inB (v3 + (2 : Int32)) en.1 = true) (bI (qev en d 223 [.ref 0, .int (en.2 (v3 + (1 : Int32)).toNatClampNeg), .int (en.2 (v3 + (2 : Int32)).toNatClampNeg)] s) (fun w181 s182 => bI (qev en d 371 [.ref 151, .int (en.2 (v3 + (1 : Int32)).toNatClampNeg), .int (en.2 (v3 + (2 : Int32)).toNatClampNeg)] s182) (fun w184 s185 => if w181 = w184 then L_law_18 en d (v3 + (6 : Int32)) s185 else some (some (.int (0 : Int32)), s185))))), gd (p_inB (v3 + (1 : Int32)) en.1 = true) (gd (p_inB (v3 + (2 : Int32)) en.1 = true) (gd (p_inB (v3 + (3 : Int32)) en.1 = true) (bI (qev en d 224 [.ref 0, .int (en.2 (v3 + (1 : Int32)).toNatClampNeg), .int (en.2 (v3 + (2 : Int32)).toNatClampNeg), .int (en.2 (v3 + (3 : Int32)).toNatClampNeg)] s) (fun w191 s192 => bI (qev en d 372 [.ref 151, .int (en.2 (v3 + (1 : Int32)).toNatClampNeg), .int (en.2 (v3 + (2 : Int32)).toNatClampNeg), .int (en.2 (v3 + (3 : Int32)).toNatClampNeg)] s192) (fun w194 s195 => if w191 = w194 then L_law_18 en d (v3 + (6 : Int32)) s195 else some (some (.int (0 : Int32)), s195)))))), gd (p_inB (v3 + (1 : Int32)) en.1 = true) (gd (p_inB (v3 + (2 : Int32)) en.1 = true) (bI (qev en d 225 [.ref 0, .int (en.2 (v3 + (1 : Int32)).toNatClampNeg), .int (en.2 (v3 + (2 : Int32)).toNatClampNeg)] s) (fun w200 s201 => bI (qev en d 376 [.ref 151, .int (en.2 (v3 + (1 : Int32)).toNatClampNeg), .int (en.2 (v3 + (2 : Int32)).toNatClampNeg)] s201) (fun w203 s204 => if w200 = w203 then L_law_18 en d (v3 + (6 : Int32)) s204 else some (some (.int (0 : Int32)), s204))))), gd (p_inB (v3 + (1 : Int32)) en.1 = true) (bI (qev en d 226 [.ref 0, .int (en.2 (v3 + (1 : Int32)).toNatClampNeg)] s) (fun w208 s209 => bI (qev en d 377 [.ref 151, .int (en.2 (v3 + (1 : Int32)).toNatClampNeg)] s209) (fun w211 s212 => if w208 = w211 then L_law_18 en d (v3 + (6 : Int32)) s212 else some (some (.int (0 : Int32)), s212)))), gd (p_inB (v3 + (1 : Int32)) en.1 = true) (gd (p_inB (v3 + (2 : Int32)) en.1 = true) (gd (p_inB (v3 + (3 : Int32)) en.1 = true) (bI (qev en d 227 [.ref 0, .int (en.2 (v3 + (1 : Int32)).toNatClampNeg), .int (en.2 (v3 + (2 : Int32)).toNatClampNeg), .int (en.2 (v3 + (3 : Int32)).toNatClampNeg)] s) (fun w218 s219 => bI (qev en d 379 [.ref 151, .int (en.2 (v3 + (1 : Int32)).toNatClampNeg), .int (en.2 (v3 + (2 : Int32)).toNatClampNeg), .int (en.2 (v3 + (3 : Int32)).toNatClampNeg)] s219) (fun w221 s222 => if w218 = w221 then L_law_18 en d (v3 + (6 : Int32)) s222 else some (some (.int (0 : Int32)), s222)))))), gd (p_inB (v3 + (1 : Int32)) en.1 = true) (gd (p_inB (v3 + (2 : Int32)) en.1 = true) (bI (qev en d 228 [.ref 0, .int (en.2 (v3 + (1 : Int32)).toNatClampNeg), .int (en.2 (v3 + (2 : Int32)).toNatClampNeg)] s) (fun w227 s228 => bI (qev en d 381 [.ref 151, .int (en.2 (v3 + (1 : Int32)).toNatClampNeg), .int (en.2 (v3 + (2 : Int32)).toNatClampNeg)] s228) (fun w230 s231 => if w227 = w230 then L_law_18 en d (v3 + (6 : Int32)) s231 else some (some (.int (0 : Int32)), s231))))), gd (p_inB (v3 + (1 : Int32)) en.1 = true) (bI (qev en d 229 [.ref 0, .int (en.2 (v3 + (1 : Int32)).toNatClampNeg)] s) (fun w235 s236 => bI (qev en d 382 [.ref 151, .int (en.2 (v3 + (1 : Int32)).toNatClampNeg)] s236) (fun w238 s239 => if w235 = w238 then L_law_18 en d (v3 + (6 : Int32)) s239 else some (some (.int (0 : Int32)), s239)))), gd (p_inB (v3 + (1 : Int32)) en.1 = true) (bI (qev en d 230 [.ref 0, .int (en.2 (v3 + (1 : Int32)).toNatClampNeg)] s) (fun w243 s244 => bI (qev en d 388 [.ref 151, .int (en.2 (v3 + (1 : Int32)).toNatClampNeg)] s244) (fun w246 s247 => if w243 = w246 then L_law_18 en d (v3 + (6 : Int32)) s247 else some (some (.int (0 : Int32)), s247)))), gd (p_inB (v3 + (1 : Int32)) en.1 = true) (gd (p_inB (v3 + (2 : Int32)) en.1 = true) (bI (qev en d 231 [.ref 0, .int (en.2 (v3 + (1 : Int32)).toNatClampNeg), .int (en.2 (v3 + (2 : Int32)).toNatClampNeg)] s) (fun w252 s253 => bI (qev en d 389 [.ref 151, .int (en.2 (v3 + (1 : Int32)).toNatClampNeg), .int (en.2 (v3 + (2 : Int32)).toNatClampNeg)] s253) (fun w255 s256 => if w252 = w255 then L_law_18 en d (v3 + (6 : Int32)) s256 else some (some (.int (0 : Int32)), s256))))), bI (qev en d 232 [.ref 0] s) (fun w259 s260 => bI (qev en d 392 [.ref 151] s260) (fun w262 s263 => if w259 = w262 then L_law_18 en d (v3 + (6 : Int32)) s263 else some (some (.int (0 : Int32)), s263))), bI (qev en d 233 [.ref 0] s) (fun w266 s267 => bI (qev en d 393 [.ref 151] s267) (fun w269 s270 => if w266 = w269 then L_law_18 en d (v3 + (6 : Int32)) s270 else some (some (.int (0 : Int32)), s270))), gd (p_inB (v3 + (1 : Int32)) en.1 = true) (gd (p_inB (v3 + (2 : Int32)) en.1 = true) (bI (qev en d 234 [.ref 0, .int (en.2 (v3 + (1 : Int32)).toNatClampNeg), .int (en.2 (v3 + (2 : Int32)).toNatClampNeg)] s) (fun w275 s276 => bI (qev en d 398 [.ref 151, .int (en.2 (v3 + (1 : Int32)).toNatClampNeg), .int (en.2 (v3 + (2 : Int32)).toNatClampNeg)] s276) (fun w278 s279 => if w275 = w278 then L_law_18 en d (v3 + (6 : Int32)) s279 else some (some (.int (0 : Int32)), s279))))), bI (qev en d 235 [.ref 0] s) (fun w282 s283 => bI (qev en d 404 [.ref 151] s283) (fun w285 s286 => if w282 = w285 then L_law_18 en d (v3 + (6 : Int32)) s286 else some (some (.int (0 : Int32)), s286))), gd (p_inB (v3 + (1 : Int32)) en.1 = true) (bI (qev en d 236 [.ref 0, .int (en.2 (v3 + (1 : Int32)).toNatClampNeg)] s) (fun w290 s291 => bI (qev en d 405 [.ref 151, .int (en.2 (v3 + (1 : Int32)).toNatClampNeg)] s291) (fun w293 s294 => if w290 = w293 then L_law_18 en d (v3 + (6 : Int32)) s294 else some (some (.int (0 : Int32)), s294)))), bI (qev en d 237 [.ref 0] s) (fun w297 s298 => bI (qev en d 407 [.ref 151] s298) (fun w300 s301 => if w297 = w300 then L_law_18 en d (v3 + (6 : Int32)) s301 else some (some (.int (0 : Int32)), s301)))] (L_law_18 en d (v3 + (6 : Int32)) s))) (L_law_18 en d v3 s) := by
  show qle _ (qE (qev en d) en (some .boolean) tb_law (18, [(0, .retAddr 0), (1, .ref 0), (2, .ref 151), (3, .int v3)], []) s)
  refine e_L 2 (f' := (20, [(0, .retAddr 0), (1, .ref 0), (2, .ref 151), (3, .int v3)], [.retAddr 0, .int v3])) rfl ?_
  refine e_olen (v := (Int32.ofNat en.1)) rfl rfl rfl ?_
  refine e_L 2 (f' := (24, [(0, .retAddr 0), (1, .ref 0), (2, .ref 151), (3, .int v3)], [.int ((Int32.ofNat en.1) - (6 : Int32)), .int v3])) rfl ?_
  refine e_icmp 1232 rfl rfl rfl (fun c1 => ?_) (fun c1 => ?_)
  · refine e_L 1 (f' := (1233, [(0, .retAddr 0), (1, .ref 0), (2, .ref 151), (3, .int v3)], [.int (1 : Int32)])) rfl ?_
    exact e_rZ rfl rfl (by decide)
  · refine e_L 2 (f' := (29, [(0, .retAddr 0), (1, .ref 0), (2, .ref 151), (3, .int v3)], [.int v3, .retAddr 0])) rfl ?_
    refine qle_gd fun h2 => ?_
    refine e_oal (n := en.1) (f := en.2) rfl rfl h2 ?_
    refine e_L 2 (f' := (33, [(0, .retAddr 0), (1, .ref 0), (2, .ref 151), (3, .int v3)], [.int ((en.2 v3.toNatClampNeg) &&& (63 : Int32))])) rfl ?_
    refine e_tsw rfl (by decide) ⟨?_, ?_, ?_, ?_, ?_, ?_, ?_, ?_, ?_, ?_, ?_, ?_, ?_, ?_, ?_, ?_, ?_, ?_, ?_, ?_, ?_, ?_, ?_, ?_, ?_, ?_, ?_, ?_, ?_, ?_, ?_, ?_, ?_, ?_, ?_, ?_, trivial⟩ ?_
    · refine e_L 5 (f' := (197, [(0, .retAddr 0), (1, .ref 0), (2, .ref 151), (3, .int v3)], [.int (v3 + (1 : Int32)), .retAddr 0, .ref 0])) rfl ?_
      refine qle_gd fun h3 => ?_
      refine e_oal (n := en.1) (f := en.2) rfl rfl h3 ?_
      refine e_L 4 (f' := (202, [(0, .retAddr 0), (1, .ref 0), (2, .ref 151), (3, .int v3)], [.int (v3 + (2 : Int32)), .retAddr 0, .int (en.2 (v3 + (1 : Int32)).toNatClampNeg), .ref 0])) rfl ?_
      refine qle_gd fun h4 => ?_
      refine e_oal (n := en.1) (f := en.2) rfl rfl h4 ?_
      refine e_L 4 (f' := (207, [(0, .retAddr 0), (1, .ref 0), (2, .ref 151), (3, .int v3)], [.int (v3 + (3 : Int32)), .retAddr 0, .int (en.2 (v3 + (2 : Int32)).toNatClampNeg), .int (en.2 (v3 + (1 : Int32)).toNatClampNeg), .ref 0])) rfl ?_
      refine qle_gd fun h5 => ?_
      refine e_oal (n := en.1) (f := en.2) rfl rfl h5 ?_
      refine e_L 4 (f' := (212, [(0, .retAddr 0), (1, .ref 0), (2, .ref 151), (3, .int v3)], [.int (v3 + (4 : Int32)), .retAddr 0, .int (en.2 (v3 + (3 : Int32)).toNatClampNeg), .int (en.2 (v3 + (2 : Int32)).toNatClampNeg), .int (en.2 (v3 + (1 : Int32)).toNatClampNeg), .ref 0])) rfl ?_
      refine qle_gd fun h6 => ?_
      refine e_oal (n := en.1) (f := en.2) rfl rfl h6 ?_
      refine e_L 4 (f' := (217, [(0, .retAddr 0), (1, .ref 0), (2, .ref 151), (3, .int v3)], [.int (v3 + (5 : Int32)), .retAddr 0, .int (en.2 (v3 + (4 : Int32)).toNatClampNeg), .int (en.2 (v3 + (3 : Int32)).toNatClampNeg), .int (en.2 (v3 + (2 : Int32)).toNatClampNeg), .int (en.2 (v3 + (1 : Int32)).toNatClampNeg), .ref 0])) rfl ?_
      refine qle_gd fun h7 => ?_
      refine e_oal (n := en.1) (f := en.2) rfl rfl h7 ?_
      refine e_vI 202 rfl rfl ix_X11_feed rfl (q_recvOf lc_0 rfl) (Nat.le_of_ble_eq_true rfl) (fun w8 s9 e10 => ?_)
      refine e_L 5 (f' := (226, [(0, .retAddr 0), (1, .ref 0), (2, .ref 151), (3, .int v3)], [.int (v3 + (1 : Int32)), .retAddr 0, .ref 151, .int w8])) rfl ?_
      refine e_oal (n := en.1) (f := en.2) rfl rfl h3 ?_
      refine e_L 4 (f' := (231, [(0, .retAddr 0), (1, .ref 0), (2, .ref 151), (3, .int v3)], [.int (v3 + (2 : Int32)), .retAddr 0, .int (en.2 (v3 + (1 : Int32)).toNatClampNeg), .ref 151, .int w8])) rfl ?_
      refine e_oal (n := en.1) (f := en.2) rfl rfl h4 ?_
      refine e_L 4 (f' := (236, [(0, .retAddr 0), (1, .ref 0), (2, .ref 151), (3, .int v3)], [.int (v3 + (3 : Int32)), .retAddr 0, .int (en.2 (v3 + (2 : Int32)).toNatClampNeg), .int (en.2 (v3 + (1 : Int32)).toNatClampNeg), .ref 151, .int w8])) rfl ?_
      refine e_oal (n := en.1) (f := en.2) rfl rfl h5 ?_
      refine e_L 4 (f' := (241, [(0, .retAddr 0), (1, .ref 0), (2, .ref 151), (3, .int v3)], [.int (v3 + (4 : Int32)), .retAddr 0, .int (en.2 (v3 + (3 : Int32)).toNatClampNeg), .int (en.2 (v3 + (2 : Int32)).toNatClampNeg), .int (en.2 (v3 + (1 : Int32)).toNatClampNeg), .ref 151, .int w8])) rfl ?_
      refine e_oal (n := en.1) (f := en.2) rfl rfl h6 ?_
      refine e_L 4 (f' := (246, [(0, .retAddr 0), (1, .ref 0), (2, .ref 151), (3, .int v3)], [.int (v3 + (5 : Int32)), .retAddr 0, .int (en.2 (v3 + (4 : Int32)).toNatClampNeg), .int (en.2 (v3 + (3 : Int32)).toNatClampNeg), .int (en.2 (v3 + (2 : Int32)).toNatClampNeg), .int (en.2 (v3 + (1 : Int32)).toNatClampNeg), .ref 151, .int w8])) rfl ?_
      refine e_oal (n := en.1) (f := en.2) rfl rfl h7 ?_
      refine e_vI 241 rfl rfl ix_X12_feed rfl (q_recvOf lc_151 rfl) (Nat.le_of_ble_eq_true rfl) (fun w11 s12 e13 => ?_)
      refine e_icmp 1226 rfl rfl rfl (fun c14 => ?_) (fun c14 => ?_)
      · refine e_L 2 (f' := (18, [(3, .int (v3 + (6 : Int32))), (0, .retAddr 0), (1, .ref 0), (2, .ref 151)], [])) rfl ?_
        exact qE_sub (qsubL [1, 2, 3, 0] rfl (ks := [3, 0, 1, 2]) rfl (by decide))
      · refine e_L 1 (f' := (254, [(0, .retAddr 0), (1, .ref 0), (2, .ref 151), (3, .int v3)], [.int (0 : Int32)])) rfl ?_
        exact e_rZ rfl rfl (by decide)
    · refine e_L 5 (f' := (260, [(0, .retAddr 0), (1, .ref 0), (2, .ref 151), (3, .int v3)], [.int (v3 + (1 : Int32)), .retAddr 0, .ref 0])) rfl ?_
      refine qle_gd fun h15 => ?_
      refine e_oal (n := en.1) (f := en.2) rfl rfl h15 ?_
      refine e_vI 203 rfl rfl ix_X11_end rfl (q_recvOf lc_0 rfl) (Nat.le_of_ble_eq_true rfl) (fun w16 s17 e18 => ?_)
      refine e_L 5 (f' := (269, [(0, .retAddr 0), (1, .ref 0), (2, .ref 151), (3, .int v3)], [.int (v3 + (1 : Int32)), .retAddr 0, .ref 151, .int w16])) rfl ?_
      refine e_oal (n := en.1) (f := en.2) rfl rfl h15 ?_
      refine e_vI 242 rfl rfl ix_X12_end rfl (q_recvOf lc_151 rfl) (Nat.le_of_ble_eq_true rfl) (fun w19 s20 e21 => ?_)
      refine e_icmp 1226 rfl rfl rfl (fun c22 => ?_) (fun c22 => ?_)
      · refine e_L 2 (f' := (18, [(3, .int (v3 + (6 : Int32))), (0, .retAddr 0), (1, .ref 0), (2, .ref 151)], [])) rfl ?_
        exact qE_sub (qsubL [1, 2, 3, 0] rfl (ks := [3, 0, 1, 2]) rfl (by decide))
      · refine e_L 1 (f' := (277, [(0, .retAddr 0), (1, .ref 0), (2, .ref 151), (3, .int v3)], [.int (0 : Int32)])) rfl ?_
        exact e_rZ rfl rfl (by decide)
    · refine e_L 1 (f' := (279, [(0, .retAddr 0), (1, .ref 0), (2, .ref 151), (3, .int v3)], [.ref 0])) rfl ?_
      refine e_vI 204 rfl rfl ix_X11_program rfl (q_recvOf lc_0 rfl) (Nat.le_of_ble_eq_true rfl) (fun w23 s24 e25 => ?_)
      refine e_L 1 (f' := (283, [(0, .retAddr 0), (1, .ref 0), (2, .ref 151), (3, .int v3)], [.ref 151, .int w23])) rfl ?_
      refine e_vI 289 rfl rfl ix_X12_program rfl (q_recvOf lc_151 rfl) (Nat.le_of_ble_eq_true rfl) (fun w26 s27 e28 => ?_)
      refine e_icmp 1226 rfl rfl rfl (fun c29 => ?_) (fun c29 => ?_)
      · refine e_L 2 (f' := (18, [(3, .int (v3 + (6 : Int32))), (0, .retAddr 0), (1, .ref 0), (2, .ref 151)], [])) rfl ?_
        exact qE_sub (qsubL [1, 2, 3, 0] rfl (ks := [3, 0, 1, 2]) rfl (by decide))
      · refine e_L 1 (f' := (290, [(0, .retAddr 0), (1, .ref 0), (2, .ref 151), (3, .int v3)], [.int (0 : Int32)])) rfl ?_
        exact e_rZ rfl rfl (by decide)
    · refine e_L 5 (f' := (296, [(0, .retAddr 0), (1, .ref 0), (2, .ref 151), (3, .int v3)], [.int (v3 + (1 : Int32)), .retAddr 0, .ref 0])) rfl ?_
      refine qle_gd fun h30 => ?_
      refine e_oal (n := en.1) (f := en.2) rfl rfl h30 ?_
      refine e_vI 205 rfl rfl ix_X11_count rfl (q_recvOf lc_0 rfl) (Nat.le_of_ble_eq_true rfl) (fun w31 s32 e33 => ?_)
      refine e_L 5 (f' := (305, [(0, .retAddr 0), (1, .ref 0), (2, .ref 151), (3, .int v3)], [.int (v3 + (1 : Int32)), .retAddr 0, .ref 151, .int w31])) rfl ?_
      refine e_oal (n := en.1) (f := en.2) rfl rfl h30 ?_
      refine e_vI 290 rfl rfl ix_X12_count rfl (q_recvOf lc_151 rfl) (Nat.le_of_ble_eq_true rfl) (fun w34 s35 e36 => ?_)
      refine e_icmp 1226 rfl rfl rfl (fun c37 => ?_) (fun c37 => ?_)
      · refine e_L 2 (f' := (18, [(3, .int (v3 + (6 : Int32))), (0, .retAddr 0), (1, .ref 0), (2, .ref 151)], [])) rfl ?_
        exact qE_sub (qsubL [1, 2, 3, 0] rfl (ks := [3, 0, 1, 2]) rfl (by decide))
      · refine e_L 1 (f' := (313, [(0, .retAddr 0), (1, .ref 0), (2, .ref 151), (3, .int v3)], [.int (0 : Int32)])) rfl ?_
        exact e_rZ rfl rfl (by decide)
    · refine e_L 5 (f' := (319, [(0, .retAddr 0), (1, .ref 0), (2, .ref 151), (3, .int v3)], [.int (v3 + (1 : Int32)), .retAddr 0, .ref 0])) rfl ?_
      refine qle_gd fun h38 => ?_
      refine e_oal (n := en.1) (f := en.2) rfl rfl h38 ?_
      refine e_L 4 (f' := (324, [(0, .retAddr 0), (1, .ref 0), (2, .ref 151), (3, .int v3)], [.int (v3 + (2 : Int32)), .retAddr 0, .int (en.2 (v3 + (1 : Int32)).toNatClampNeg), .ref 0])) rfl ?_
      refine qle_gd fun h39 => ?_
      refine e_oal (n := en.1) (f := en.2) rfl rfl h39 ?_
      refine e_vI 206 rfl rfl ix_X11_line rfl (q_recvOf lc_0 rfl) (Nat.le_of_ble_eq_true rfl) (fun w40 s41 e42 => ?_)
      refine e_L 5 (f' := (333, [(0, .retAddr 0), (1, .ref 0), (2, .ref 151), (3, .int v3)], [.int (v3 + (1 : Int32)), .retAddr 0, .ref 151, .int w40])) rfl ?_
      refine e_oal (n := en.1) (f := en.2) rfl rfl h38 ?_
      refine e_L 4 (f' := (338, [(0, .retAddr 0), (1, .ref 0), (2, .ref 151), (3, .int v3)], [.int (v3 + (2 : Int32)), .retAddr 0, .int (en.2 (v3 + (1 : Int32)).toNatClampNeg), .ref 151, .int w40])) rfl ?_
      refine e_oal (n := en.1) (f := en.2) rfl rfl h39 ?_
      refine e_vI 291 rfl rfl ix_X12_line rfl (q_recvOf lc_151 rfl) (Nat.le_of_ble_eq_true rfl) (fun w43 s44 e45 => ?_)
      refine e_icmp 1226 rfl rfl rfl (fun c46 => ?_) (fun c46 => ?_)
      · refine e_L 2 (f' := (18, [(3, .int (v3 + (6 : Int32))), (0, .retAddr 0), (1, .ref 0), (2, .ref 151)], [])) rfl ?_
        exact qE_sub (qsubL [1, 2, 3, 0] rfl (ks := [3, 0, 1, 2]) rfl (by decide))
      · refine e_L 1 (f' := (346, [(0, .retAddr 0), (1, .ref 0), (2, .ref 151), (3, .int v3)], [.int (0 : Int32)])) rfl ?_
        exact e_rZ rfl rfl (by decide)
    · refine e_L 5 (f' := (352, [(0, .retAddr 0), (1, .ref 0), (2, .ref 151), (3, .int v3)], [.int (v3 + (1 : Int32)), .retAddr 0, .ref 0])) rfl ?_
      refine qle_gd fun h47 => ?_
      refine e_oal (n := en.1) (f := en.2) rfl rfl h47 ?_
      refine e_vI 207 rfl rfl ix_X11_begin rfl (q_recvOf lc_0 rfl) (Nat.le_of_ble_eq_true rfl) (fun w48 s49 e50 => ?_)
      refine e_L 5 (f' := (361, [(0, .retAddr 0), (1, .ref 0), (2, .ref 151), (3, .int v3)], [.int (v3 + (1 : Int32)), .retAddr 0, .ref 151, .int w48])) rfl ?_
      refine e_oal (n := en.1) (f := en.2) rfl rfl h47 ?_
      refine e_vI 332 rfl rfl ix_X12_begin rfl (q_recvOf lc_151 rfl) (Nat.le_of_ble_eq_true rfl) (fun w51 s52 e53 => ?_)
      refine e_icmp 1226 rfl rfl rfl (fun c54 => ?_) (fun c54 => ?_)
      · refine e_L 2 (f' := (18, [(3, .int (v3 + (6 : Int32))), (0, .retAddr 0), (1, .ref 0), (2, .ref 151)], [])) rfl ?_
        exact qE_sub (qsubL [1, 2, 3, 0] rfl (ks := [3, 0, 1, 2]) rfl (by decide))
      · refine e_L 1 (f' := (369, [(0, .retAddr 0), (1, .ref 0), (2, .ref 151), (3, .int v3)], [.int (0 : Int32)])) rfl ?_
        exact e_rZ rfl rfl (by decide)
    · refine e_L 5 (f' := (375, [(0, .retAddr 0), (1, .ref 0), (2, .ref 151), (3, .int v3)], [.int (v3 + (1 : Int32)), .retAddr 0, .ref 0])) rfl ?_
      refine qle_gd fun h55 => ?_
      refine e_oal (n := en.1) (f := en.2) rfl rfl h55 ?_
      refine e_vI 208 rfl rfl ix_X11_ready rfl (q_recvOf lc_0 rfl) (Nat.le_of_ble_eq_true rfl) (fun w56 s57 e58 => ?_)
      refine e_L 5 (f' := (384, [(0, .retAddr 0), (1, .ref 0), (2, .ref 151), (3, .int v3)], [.int (v3 + (1 : Int32)), .retAddr 0, .ref 151, .int w56])) rfl ?_
      refine e_oal (n := en.1) (f := en.2) rfl rfl h55 ?_
      refine e_vI 333 rfl rfl ix_X12_ready rfl (q_recvOf lc_151 rfl) (Nat.le_of_ble_eq_true rfl) (fun w59 s60 e61 => ?_)
      refine e_icmp 1226 rfl rfl rfl (fun c62 => ?_) (fun c62 => ?_)
      · refine e_L 2 (f' := (18, [(3, .int (v3 + (6 : Int32))), (0, .retAddr 0), (1, .ref 0), (2, .ref 151)], [])) rfl ?_
        exact qE_sub (qsubL [1, 2, 3, 0] rfl (ks := [3, 0, 1, 2]) rfl (by decide))
      · refine e_L 1 (f' := (392, [(0, .retAddr 0), (1, .ref 0), (2, .ref 151), (3, .int v3)], [.int (0 : Int32)])) rfl ?_
        exact e_rZ rfl rfl (by decide)
    · refine e_L 5 (f' := (398, [(0, .retAddr 0), (1, .ref 0), (2, .ref 151), (3, .int v3)], [.int (v3 + (1 : Int32)), .retAddr 0, .ref 0])) rfl ?_
      refine qle_gd fun h63 => ?_
      refine e_oal (n := en.1) (f := en.2) rfl rfl h63 ?_
      refine e_L 4 (f' := (403, [(0, .retAddr 0), (1, .ref 0), (2, .ref 151), (3, .int v3)], [.int (v3 + (2 : Int32)), .retAddr 0, .int (en.2 (v3 + (1 : Int32)).toNatClampNeg), .ref 0])) rfl ?_
      refine qle_gd fun h64 => ?_
      refine e_oal (n := en.1) (f := en.2) rfl rfl h64 ?_
      refine e_vI 209 rfl rfl ix_X11_turn rfl (q_recvOf lc_0 rfl) (Nat.le_of_ble_eq_true rfl) (fun w65 s66 e67 => ?_)
      refine e_L 5 (f' := (412, [(0, .retAddr 0), (1, .ref 0), (2, .ref 151), (3, .int v3)], [.int (v3 + (1 : Int32)), .retAddr 0, .ref 151, .int w65])) rfl ?_
      refine e_oal (n := en.1) (f := en.2) rfl rfl h63 ?_
      refine e_L 4 (f' := (417, [(0, .retAddr 0), (1, .ref 0), (2, .ref 151), (3, .int v3)], [.int (v3 + (2 : Int32)), .retAddr 0, .int (en.2 (v3 + (1 : Int32)).toNatClampNeg), .ref 151, .int w65])) rfl ?_
      refine e_oal (n := en.1) (f := en.2) rfl rfl h64 ?_
      refine e_vI 335 rfl rfl ix_X12_turn rfl (q_recvOf lc_151 rfl) (Nat.le_of_ble_eq_true rfl) (fun w68 s69 e70 => ?_)
      refine e_icmp 1226 rfl rfl rfl (fun c71 => ?_) (fun c71 => ?_)
      · refine e_L 2 (f' := (18, [(3, .int (v3 + (6 : Int32))), (0, .retAddr 0), (1, .ref 0), (2, .ref 151)], [])) rfl ?_
        exact qE_sub (qsubL [1, 2, 3, 0] rfl (ks := [3, 0, 1, 2]) rfl (by decide))
      · refine e_L 1 (f' := (425, [(0, .retAddr 0), (1, .ref 0), (2, .ref 151), (3, .int v3)], [.int (0 : Int32)])) rfl ?_
        exact e_rZ rfl rfl (by decide)
    · refine e_L 5 (f' := (431, [(0, .retAddr 0), (1, .ref 0), (2, .ref 151), (3, .int v3)], [.int (v3 + (1 : Int32)), .retAddr 0, .ref 0])) rfl ?_
      refine qle_gd fun h72 => ?_
      refine e_oal (n := en.1) (f := en.2) rfl rfl h72 ?_
      refine e_L 4 (f' := (436, [(0, .retAddr 0), (1, .ref 0), (2, .ref 151), (3, .int v3)], [.int (v3 + (2 : Int32)), .retAddr 0, .int (en.2 (v3 + (1 : Int32)).toNatClampNeg), .ref 0])) rfl ?_
      refine qle_gd fun h73 => ?_
      refine e_oal (n := en.1) (f := en.2) rfl rfl h73 ?_
      refine e_vI 210 rfl rfl ix_X11_thread rfl (q_recvOf lc_0 rfl) (Nat.le_of_ble_eq_true rfl) (fun w74 s75 e76 => ?_)
      refine e_L 5 (f' := (445, [(0, .retAddr 0), (1, .ref 0), (2, .ref 151), (3, .int v3)], [.int (v3 + (1 : Int32)), .retAddr 0, .ref 151, .int w74])) rfl ?_
      refine e_oal (n := en.1) (f := en.2) rfl rfl h72 ?_
      refine e_L 4 (f' := (450, [(0, .retAddr 0), (1, .ref 0), (2, .ref 151), (3, .int v3)], [.int (v3 + (2 : Int32)), .retAddr 0, .int (en.2 (v3 + (1 : Int32)).toNatClampNeg), .ref 151, .int w74])) rfl ?_
      refine e_oal (n := en.1) (f := en.2) rfl rfl h73 ?_
      refine e_vI 337 rfl rfl ix_X12_thread rfl (q_recvOf lc_151 rfl) (Nat.le_of_ble_eq_true rfl) (fun w77 s78 e79 => ?_)
      refine e_icmp 1226 rfl rfl rfl (fun c80 => ?_) (fun c80 => ?_)
      · refine e_L 2 (f' := (18, [(3, .int (v3 + (6 : Int32))), (0, .retAddr 0), (1, .ref 0), (2, .ref 151)], [])) rfl ?_
        exact qE_sub (qsubL [1, 2, 3, 0] rfl (ks := [3, 0, 1, 2]) rfl (by decide))
      · refine e_L 1 (f' := (458, [(0, .retAddr 0), (1, .ref 0), (2, .ref 151), (3, .int v3)], [.int (0 : Int32)])) rfl ?_
        exact e_rZ rfl rfl (by decide)
    · refine e_L 5 (f' := (464, [(0, .retAddr 0), (1, .ref 0), (2, .ref 151), (3, .int v3)], [.int (v3 + (1 : Int32)), .retAddr 0, .ref 0])) rfl ?_
      refine qle_gd fun h81 => ?_
      refine e_oal (n := en.1) (f := en.2) rfl rfl h81 ?_
      refine e_L 4 (f' := (469, [(0, .retAddr 0), (1, .ref 0), (2, .ref 151), (3, .int v3)], [.int (v3 + (2 : Int32)), .retAddr 0, .int (en.2 (v3 + (1 : Int32)).toNatClampNeg), .ref 0])) rfl ?_
      refine qle_gd fun h82 => ?_
      refine e_oal (n := en.1) (f := en.2) rfl rfl h82 ?_
      refine e_vI 211 rfl rfl ix_X11_local rfl (q_recvOf lc_0 rfl) (Nat.le_of_ble_eq_true rfl) (fun w83 s84 e85 => ?_)
      refine e_L 5 (f' := (478, [(0, .retAddr 0), (1, .ref 0), (2, .ref 151), (3, .int v3)], [.int (v3 + (1 : Int32)), .retAddr 0, .ref 151, .int w83])) rfl ?_
      refine e_oal (n := en.1) (f := en.2) rfl rfl h81 ?_
      refine e_L 4 (f' := (483, [(0, .retAddr 0), (1, .ref 0), (2, .ref 151), (3, .int v3)], [.int (v3 + (2 : Int32)), .retAddr 0, .int (en.2 (v3 + (1 : Int32)).toNatClampNeg), .ref 151, .int w83])) rfl ?_
      refine e_oal (n := en.1) (f := en.2) rfl rfl h82 ?_
      refine e_vI 338 rfl rfl ix_X12_local rfl (q_recvOf lc_151 rfl) (Nat.le_of_ble_eq_true rfl) (fun w86 s87 e88 => ?_)
      refine e_icmp 1226 rfl rfl rfl (fun c89 => ?_) (fun c89 => ?_)
      · refine e_L 2 (f' := (18, [(3, .int (v3 + (6 : Int32))), (0, .retAddr 0), (1, .ref 0), (2, .ref 151)], [])) rfl ?_
        exact qE_sub (qsubL [1, 2, 3, 0] rfl (ks := [3, 0, 1, 2]) rfl (by decide))
      · refine e_L 1 (f' := (491, [(0, .retAddr 0), (1, .ref 0), (2, .ref 151), (3, .int v3)], [.int (0 : Int32)])) rfl ?_
        exact e_rZ rfl rfl (by decide)
    · refine e_L 5 (f' := (497, [(0, .retAddr 0), (1, .ref 0), (2, .ref 151), (3, .int v3)], [.int (v3 + (1 : Int32)), .retAddr 0, .ref 0])) rfl ?_
      refine qle_gd fun h90 => ?_
      refine e_oal (n := en.1) (f := en.2) rfl rfl h90 ?_
      refine e_vI 212 rfl rfl ix_X11_cell rfl (q_recvOf lc_0 rfl) (Nat.le_of_ble_eq_true rfl) (fun w91 s92 e93 => ?_)
      refine e_L 5 (f' := (506, [(0, .retAddr 0), (1, .ref 0), (2, .ref 151), (3, .int v3)], [.int (v3 + (1 : Int32)), .retAddr 0, .ref 151, .int w91])) rfl ?_
      refine e_oal (n := en.1) (f := en.2) rfl rfl h90 ?_
      refine e_vI 339 rfl rfl ix_X12_cell rfl (q_recvOf lc_151 rfl) (Nat.le_of_ble_eq_true rfl) (fun w94 s95 e96 => ?_)
      refine e_icmp 1226 rfl rfl rfl (fun c97 => ?_) (fun c97 => ?_)
      · refine e_L 2 (f' := (18, [(3, .int (v3 + (6 : Int32))), (0, .retAddr 0), (1, .ref 0), (2, .ref 151)], [])) rfl ?_
        exact qE_sub (qsubL [1, 2, 3, 0] rfl (ks := [3, 0, 1, 2]) rfl (by decide))
      · refine e_L 1 (f' := (514, [(0, .retAddr 0), (1, .ref 0), (2, .ref 151), (3, .int v3)], [.int (0 : Int32)])) rfl ?_
        exact e_rZ rfl rfl (by decide)
    · refine e_L 5 (f' := (520, [(0, .retAddr 0), (1, .ref 0), (2, .ref 151), (3, .int v3)], [.int (v3 + (1 : Int32)), .retAddr 0, .ref 0])) rfl ?_
      refine qle_gd fun h98 => ?_
      refine e_oal (n := en.1) (f := en.2) rfl rfl h98 ?_
      refine e_L 4 (f' := (525, [(0, .retAddr 0), (1, .ref 0), (2, .ref 151), (3, .int v3)], [.int (v3 + (2 : Int32)), .retAddr 0, .int (en.2 (v3 + (1 : Int32)).toNatClampNeg), .ref 0])) rfl ?_
      refine qle_gd fun h99 => ?_
      refine e_oal (n := en.1) (f := en.2) rfl rfl h99 ?_
      refine e_vI 213 rfl rfl ix_X11_seen rfl (q_recvOf lc_0 rfl) (Nat.le_of_ble_eq_true rfl) (fun w100 s101 e102 => ?_)
      refine e_L 5 (f' := (534, [(0, .retAddr 0), (1, .ref 0), (2, .ref 151), (3, .int v3)], [.int (v3 + (1 : Int32)), .retAddr 0, .ref 151, .int w100])) rfl ?_
      refine e_oal (n := en.1) (f := en.2) rfl rfl h98 ?_
      refine e_L 4 (f' := (539, [(0, .retAddr 0), (1, .ref 0), (2, .ref 151), (3, .int v3)], [.int (v3 + (2 : Int32)), .retAddr 0, .int (en.2 (v3 + (1 : Int32)).toNatClampNeg), .ref 151, .int w100])) rfl ?_
      refine e_oal (n := en.1) (f := en.2) rfl rfl h99 ?_
      refine e_vI 340 rfl rfl ix_X12_seen rfl (q_recvOf lc_151 rfl) (Nat.le_of_ble_eq_true rfl) (fun w103 s104 e105 => ?_)
      refine e_icmp 1226 rfl rfl rfl (fun c106 => ?_) (fun c106 => ?_)
      · refine e_L 2 (f' := (18, [(3, .int (v3 + (6 : Int32))), (0, .retAddr 0), (1, .ref 0), (2, .ref 151)], [])) rfl ?_
        exact qE_sub (qsubL [1, 2, 3, 0] rfl (ks := [3, 0, 1, 2]) rfl (by decide))
      · refine e_L 1 (f' := (547, [(0, .retAddr 0), (1, .ref 0), (2, .ref 151), (3, .int v3)], [.int (0 : Int32)])) rfl ?_
        exact e_rZ rfl rfl (by decide)
    · refine e_L 5 (f' := (553, [(0, .retAddr 0), (1, .ref 0), (2, .ref 151), (3, .int v3)], [.int (v3 + (1 : Int32)), .retAddr 0, .ref 0])) rfl ?_
      refine qle_gd fun h107 => ?_
      refine e_oal (n := en.1) (f := en.2) rfl rfl h107 ?_
      refine e_L 4 (f' := (558, [(0, .retAddr 0), (1, .ref 0), (2, .ref 151), (3, .int v3)], [.int (v3 + (2 : Int32)), .retAddr 0, .int (en.2 (v3 + (1 : Int32)).toNatClampNeg), .ref 0])) rfl ?_
      refine qle_gd fun h108 => ?_
      refine e_oal (n := en.1) (f := en.2) rfl rfl h108 ?_
      refine e_vI 214 rfl rfl ix_X11_held rfl (q_recvOf lc_0 rfl) (Nat.le_of_ble_eq_true rfl) (fun w109 s110 e111 => ?_)
      refine e_L 5 (f' := (567, [(0, .retAddr 0), (1, .ref 0), (2, .ref 151), (3, .int v3)], [.int (v3 + (1 : Int32)), .retAddr 0, .ref 151, .int w109])) rfl ?_
      refine e_oal (n := en.1) (f := en.2) rfl rfl h107 ?_
      refine e_L 4 (f' := (572, [(0, .retAddr 0), (1, .ref 0), (2, .ref 151), (3, .int v3)], [.int (v3 + (2 : Int32)), .retAddr 0, .int (en.2 (v3 + (1 : Int32)).toNatClampNeg), .ref 151, .int w109])) rfl ?_
      refine e_oal (n := en.1) (f := en.2) rfl rfl h108 ?_
      refine e_vI 341 rfl rfl ix_X12_held rfl (q_recvOf lc_151 rfl) (Nat.le_of_ble_eq_true rfl) (fun w112 s113 e114 => ?_)
      refine e_icmp 1226 rfl rfl rfl (fun c115 => ?_) (fun c115 => ?_)
      · refine e_L 2 (f' := (18, [(3, .int (v3 + (6 : Int32))), (0, .retAddr 0), (1, .ref 0), (2, .ref 151)], [])) rfl ?_
        exact qE_sub (qsubL [1, 2, 3, 0] rfl (ks := [3, 0, 1, 2]) rfl (by decide))
      · refine e_L 1 (f' := (580, [(0, .retAddr 0), (1, .ref 0), (2, .ref 151), (3, .int v3)], [.int (0 : Int32)])) rfl ?_
        exact e_rZ rfl rfl (by decide)
    · refine e_L 5 (f' := (586, [(0, .retAddr 0), (1, .ref 0), (2, .ref 151), (3, .int v3)], [.int (v3 + (1 : Int32)), .retAddr 0, .ref 0])) rfl ?_
      refine qle_gd fun h116 => ?_
      refine e_oal (n := en.1) (f := en.2) rfl rfl h116 ?_
      refine e_L 4 (f' := (591, [(0, .retAddr 0), (1, .ref 0), (2, .ref 151), (3, .int v3)], [.int (v3 + (2 : Int32)), .retAddr 0, .int (en.2 (v3 + (1 : Int32)).toNatClampNeg), .ref 0])) rfl ?_
      refine qle_gd fun h117 => ?_
      refine e_oal (n := en.1) (f := en.2) rfl rfl h117 ?_
      refine e_vI 215 rfl rfl ix_X11_step rfl (q_recvOf lc_0 rfl) (Nat.le_of_ble_eq_true rfl) (fun w118 s119 e120 => ?_)
      refine e_L 5 (f' := (600, [(0, .retAddr 0), (1, .ref 0), (2, .ref 151), (3, .int v3)], [.int (v3 + (1 : Int32)), .retAddr 0, .ref 151, .int w118])) rfl ?_
      refine e_oal (n := en.1) (f := en.2) rfl rfl h116 ?_
      refine e_L 4 (f' := (605, [(0, .retAddr 0), (1, .ref 0), (2, .ref 151), (3, .int v3)], [.int (v3 + (2 : Int32)), .retAddr 0, .int (en.2 (v3 + (1 : Int32)).toNatClampNeg), .ref 151, .int w118])) rfl ?_
      refine e_oal (n := en.1) (f := en.2) rfl rfl h117 ?_
      refine e_vI 342 rfl rfl ix_X12_step rfl (q_recvOf lc_151 rfl) (Nat.le_of_ble_eq_true rfl) (fun w121 s122 e123 => ?_)
      refine e_icmp 1226 rfl rfl rfl (fun c124 => ?_) (fun c124 => ?_)
      · refine e_L 2 (f' := (18, [(3, .int (v3 + (6 : Int32))), (0, .retAddr 0), (1, .ref 0), (2, .ref 151)], [])) rfl ?_
        exact qE_sub (qsubL [1, 2, 3, 0] rfl (ks := [3, 0, 1, 2]) rfl (by decide))
      · refine e_L 1 (f' := (613, [(0, .retAddr 0), (1, .ref 0), (2, .ref 151), (3, .int v3)], [.int (0 : Int32)])) rfl ?_
        exact e_rZ rfl rfl (by decide)
    · refine e_L 5 (f' := (619, [(0, .retAddr 0), (1, .ref 0), (2, .ref 151), (3, .int v3)], [.int (v3 + (1 : Int32)), .retAddr 0, .ref 0])) rfl ?_
      refine qle_gd fun h125 => ?_
      refine e_oal (n := en.1) (f := en.2) rfl rfl h125 ?_
      refine e_L 4 (f' := (624, [(0, .retAddr 0), (1, .ref 0), (2, .ref 151), (3, .int v3)], [.int (v3 + (2 : Int32)), .retAddr 0, .int (en.2 (v3 + (1 : Int32)).toNatClampNeg), .ref 0])) rfl ?_
      refine qle_gd fun h126 => ?_
      refine e_oal (n := en.1) (f := en.2) rfl rfl h126 ?_
      refine e_vI 216 rfl rfl ix_X11_before rfl (q_recvOf lc_0 rfl) (Nat.le_of_ble_eq_true rfl) (fun w127 s128 e129 => ?_)
      refine e_L 5 (f' := (633, [(0, .retAddr 0), (1, .ref 0), (2, .ref 151), (3, .int v3)], [.int (v3 + (1 : Int32)), .retAddr 0, .ref 151, .int w127])) rfl ?_
      refine e_oal (n := en.1) (f := en.2) rfl rfl h125 ?_
      refine e_L 4 (f' := (638, [(0, .retAddr 0), (1, .ref 0), (2, .ref 151), (3, .int v3)], [.int (v3 + (2 : Int32)), .retAddr 0, .int (en.2 (v3 + (1 : Int32)).toNatClampNeg), .ref 151, .int w127])) rfl ?_
      refine e_oal (n := en.1) (f := en.2) rfl rfl h126 ?_
      refine e_vI 346 rfl rfl ix_X12_before rfl (q_recvOf lc_151 rfl) (Nat.le_of_ble_eq_true rfl) (fun w130 s131 e132 => ?_)
      refine e_icmp 1226 rfl rfl rfl (fun c133 => ?_) (fun c133 => ?_)
      · refine e_L 2 (f' := (18, [(3, .int (v3 + (6 : Int32))), (0, .retAddr 0), (1, .ref 0), (2, .ref 151)], [])) rfl ?_
        exact qE_sub (qsubL [1, 2, 3, 0] rfl (ks := [3, 0, 1, 2]) rfl (by decide))
      · refine e_L 1 (f' := (646, [(0, .retAddr 0), (1, .ref 0), (2, .ref 151), (3, .int v3)], [.int (0 : Int32)])) rfl ?_
        exact e_rZ rfl rfl (by decide)
    · refine e_L 5 (f' := (652, [(0, .retAddr 0), (1, .ref 0), (2, .ref 151), (3, .int v3)], [.int (v3 + (1 : Int32)), .retAddr 0, .ref 0])) rfl ?_
      refine qle_gd fun h134 => ?_
      refine e_oal (n := en.1) (f := en.2) rfl rfl h134 ?_
      refine e_L 4 (f' := (657, [(0, .retAddr 0), (1, .ref 0), (2, .ref 151), (3, .int v3)], [.int (v3 + (2 : Int32)), .retAddr 0, .int (en.2 (v3 + (1 : Int32)).toNatClampNeg), .ref 0])) rfl ?_
      refine qle_gd fun h135 => ?_
      refine e_oal (n := en.1) (f := en.2) rfl rfl h135 ?_
      refine e_vI 217 rfl rfl ix_X11_runRace rfl (q_recvOf lc_0 rfl) (Nat.le_of_ble_eq_true rfl) (fun w136 s137 e138 => ?_)
      refine e_L 5 (f' := (666, [(0, .retAddr 0), (1, .ref 0), (2, .ref 151), (3, .int v3)], [.int (v3 + (1 : Int32)), .retAddr 0, .ref 151, .int w136])) rfl ?_
      refine e_oal (n := en.1) (f := en.2) rfl rfl h134 ?_
      refine e_L 4 (f' := (671, [(0, .retAddr 0), (1, .ref 0), (2, .ref 151), (3, .int v3)], [.int (v3 + (2 : Int32)), .retAddr 0, .int (en.2 (v3 + (1 : Int32)).toNatClampNeg), .ref 151, .int w136])) rfl ?_
      refine e_oal (n := en.1) (f := en.2) rfl rfl h135 ?_
      refine e_vI 348 rfl rfl ix_X12_runRace rfl (q_recvOf lc_151 rfl) (Nat.le_of_ble_eq_true rfl) (fun w139 s140 e141 => ?_)
      refine e_icmp 1226 rfl rfl rfl (fun c142 => ?_) (fun c142 => ?_)
      · refine e_L 2 (f' := (18, [(3, .int (v3 + (6 : Int32))), (0, .retAddr 0), (1, .ref 0), (2, .ref 151)], [])) rfl ?_
        exact qE_sub (qsubL [1, 2, 3, 0] rfl (ks := [3, 0, 1, 2]) rfl (by decide))
      · refine e_L 1 (f' := (679, [(0, .retAddr 0), (1, .ref 0), (2, .ref 151), (3, .int v3)], [.int (0 : Int32)])) rfl ?_
        exact e_rZ rfl rfl (by decide)
    · refine e_L 5 (f' := (685, [(0, .retAddr 0), (1, .ref 0), (2, .ref 151), (3, .int v3)], [.int (v3 + (1 : Int32)), .retAddr 0, .ref 0])) rfl ?_
      refine qle_gd fun h143 => ?_
      refine e_oal (n := en.1) (f := en.2) rfl rfl h143 ?_
      refine e_vI 218 rfl rfl ix_X11_linear rfl (q_recvOf lc_0 rfl) (Nat.le_of_ble_eq_true rfl) (fun w144 s145 e146 => ?_)
      refine e_L 5 (f' := (694, [(0, .retAddr 0), (1, .ref 0), (2, .ref 151), (3, .int v3)], [.int (v3 + (1 : Int32)), .retAddr 0, .ref 151, .int w144])) rfl ?_
      refine e_oal (n := en.1) (f := en.2) rfl rfl h143 ?_
      refine e_vI 353 rfl rfl ix_X12_linear rfl (q_recvOf lc_151 rfl) (Nat.le_of_ble_eq_true rfl) (fun w147 s148 e149 => ?_)
      refine e_icmp 1226 rfl rfl rfl (fun c150 => ?_) (fun c150 => ?_)
      · refine e_L 2 (f' := (18, [(3, .int (v3 + (6 : Int32))), (0, .retAddr 0), (1, .ref 0), (2, .ref 151)], [])) rfl ?_
        exact qE_sub (qsubL [1, 2, 3, 0] rfl (ks := [3, 0, 1, 2]) rfl (by decide))
      · refine e_L 1 (f' := (702, [(0, .retAddr 0), (1, .ref 0), (2, .ref 151), (3, .int v3)], [.int (0 : Int32)])) rfl ?_
        exact e_rZ rfl rfl (by decide)
    · refine e_L 5 (f' := (708, [(0, .retAddr 0), (1, .ref 0), (2, .ref 151), (3, .int v3)], [.int (v3 + (1 : Int32)), .retAddr 0, .ref 0])) rfl ?_
      refine qle_gd fun h151 => ?_
      refine e_oal (n := en.1) (f := en.2) rfl rfl h151 ?_
      refine e_vI 219 rfl rfl ix_X11_ordered rfl (q_recvOf lc_0 rfl) (Nat.le_of_ble_eq_true rfl) (fun w152 s153 e154 => ?_)
      refine e_L 5 (f' := (717, [(0, .retAddr 0), (1, .ref 0), (2, .ref 151), (3, .int v3)], [.int (v3 + (1 : Int32)), .retAddr 0, .ref 151, .int w152])) rfl ?_
      refine e_oal (n := en.1) (f := en.2) rfl rfl h151 ?_
      refine e_vI 354 rfl rfl ix_X12_ordered rfl (q_recvOf lc_151 rfl) (Nat.le_of_ble_eq_true rfl) (fun w155 s156 e157 => ?_)
      refine e_icmp 1226 rfl rfl rfl (fun c158 => ?_) (fun c158 => ?_)
      · refine e_L 2 (f' := (18, [(3, .int (v3 + (6 : Int32))), (0, .retAddr 0), (1, .ref 0), (2, .ref 151)], [])) rfl ?_
        exact qE_sub (qsubL [1, 2, 3, 0] rfl (ks := [3, 0, 1, 2]) rfl (by decide))
      · refine e_L 1 (f' := (725, [(0, .retAddr 0), (1, .ref 0), (2, .ref 151), (3, .int v3)], [.int (0 : Int32)])) rfl ?_
        exact e_rZ rfl rfl (by decide)
    · refine e_L 5 (f' := (731, [(0, .retAddr 0), (1, .ref 0), (2, .ref 151), (3, .int v3)], [.int (v3 + (1 : Int32)), .retAddr 0, .ref 0])) rfl ?_
      refine qle_gd fun h159 => ?_
      refine e_oal (n := en.1) (f := en.2) rfl rfl h159 ?_
      refine e_L 4 (f' := (736, [(0, .retAddr 0), (1, .ref 0), (2, .ref 151), (3, .int v3)], [.int (v3 + (2 : Int32)), .retAddr 0, .int (en.2 (v3 + (1 : Int32)).toNatClampNeg), .ref 0])) rfl ?_
      refine qle_gd fun h160 => ?_
      refine e_oal (n := en.1) (f := en.2) rfl rfl h160 ?_
      refine e_ifz 744 rfl rfl rfl (fun c161 => ?_) (fun c161 => ?_)
      · refine e_L 1 (f' := (745, [(0, .retAddr 0), (1, .ref 0), (2, .ref 151), (3, .int v3)], [.int (0 : Int32), .int (en.2 (v3 + (1 : Int32)).toNatClampNeg), .ref 0])) rfl ?_
        exact qE_sub (qsubL [0, 1, 2, 3] rfl (ks := [0, 1, 2, 3]) rfl (by decide))
      · refine e_L 2 (f' := (745, [(0, .retAddr 0), (1, .ref 0), (2, .ref 151), (3, .int v3)], [.int (1 : Int32), .int (en.2 (v3 + (1 : Int32)).toNatClampNeg), .ref 0])) rfl ?_
        exact qE_sub (qsubL [0, 1, 2, 3] rfl (ks := [0, 1, 2, 3]) rfl (by decide))
    · refine e_L 5 (f' := (780, [(0, .retAddr 0), (1, .ref 0), (2, .ref 151), (3, .int v3)], [.int (v3 + (1 : Int32)), .retAddr 0, .ref 0])) rfl ?_
      refine qle_gd fun h162 => ?_
      refine e_oal (n := en.1) (f := en.2) rfl rfl h162 ?_
      refine e_vI 221 rfl rfl ix_X11_explored rfl (q_recvOf lc_0 rfl) (Nat.le_of_ble_eq_true rfl) (fun w163 s164 e165 => ?_)
      refine e_L 5 (f' := (789, [(0, .retAddr 0), (1, .ref 0), (2, .ref 151), (3, .int v3)], [.int (v3 + (1 : Int32)), .retAddr 0, .ref 151, .int w163])) rfl ?_
      refine e_oal (n := en.1) (f := en.2) rfl rfl h162 ?_
      refine e_vI 367 rfl rfl ix_X12_explored rfl (q_recvOf lc_151 rfl) (Nat.le_of_ble_eq_true rfl) (fun w166 s167 e168 => ?_)
      refine e_icmp 1226 rfl rfl rfl (fun c169 => ?_) (fun c169 => ?_)
      · refine e_L 2 (f' := (18, [(3, .int (v3 + (6 : Int32))), (0, .retAddr 0), (1, .ref 0), (2, .ref 151)], [])) rfl ?_
        exact qE_sub (qsubL [1, 2, 3, 0] rfl (ks := [3, 0, 1, 2]) rfl (by decide))
      · refine e_L 1 (f' := (797, [(0, .retAddr 0), (1, .ref 0), (2, .ref 151), (3, .int v3)], [.int (0 : Int32)])) rfl ?_
        exact e_rZ rfl rfl (by decide)
    · refine e_L 5 (f' := (803, [(0, .retAddr 0), (1, .ref 0), (2, .ref 151), (3, .int v3)], [.int (v3 + (1 : Int32)), .retAddr 0, .ref 0])) rfl ?_
      refine qle_gd fun h170 => ?_
      refine e_oal (n := en.1) (f := en.2) rfl rfl h170 ?_
      refine e_L 4 (f' := (808, [(0, .retAddr 0), (1, .ref 0), (2, .ref 151), (3, .int v3)], [.int (v3 + (2 : Int32)), .retAddr 0, .int (en.2 (v3 + (1 : Int32)).toNatClampNeg), .ref 0])) rfl ?_
      refine qle_gd fun h171 => ?_
      refine e_oal (n := en.1) (f := en.2) rfl rfl h171 ?_
      refine e_vI 222 rfl rfl ix_X11_outcome rfl (q_recvOf lc_0 rfl) (Nat.le_of_ble_eq_true rfl) (fun w172 s173 e174 => ?_)
      refine e_L 5 (f' := (817, [(0, .retAddr 0), (1, .ref 0), (2, .ref 151), (3, .int v3)], [.int (v3 + (1 : Int32)), .retAddr 0, .ref 151, .int w172])) rfl ?_
      refine e_oal (n := en.1) (f := en.2) rfl rfl h170 ?_
      refine e_L 4 (f' := (822, [(0, .retAddr 0), (1, .ref 0), (2, .ref 151), (3, .int v3)], [.int (v3 + (2 : Int32)), .retAddr 0, .int (en.2 (v3 + (1 : Int32)).toNatClampNeg), .ref 151, .int w172])) rfl ?_
      refine e_oal (n := en.1) (f := en.2) rfl rfl h171 ?_
      refine e_vI 370 rfl rfl ix_X12_outcome rfl (q_recvOf lc_151 rfl) (Nat.le_of_ble_eq_true rfl) (fun w175 s176 e177 => ?_)
      refine e_icmp 1226 rfl rfl rfl (fun c178 => ?_) (fun c178 => ?_)
      · refine e_L 2 (f' := (18, [(3, .int (v3 + (6 : Int32))), (0, .retAddr 0), (1, .ref 0), (2, .ref 151)], [])) rfl ?_
        exact qE_sub (qsubL [1, 2, 3, 0] rfl (ks := [3, 0, 1, 2]) rfl (by decide))
      · refine e_L 1 (f' := (830, [(0, .retAddr 0), (1, .ref 0), (2, .ref 151), (3, .int v3)], [.int (0 : Int32)])) rfl ?_
        exact e_rZ rfl rfl (by decide)
    · refine e_L 5 (f' := (836, [(0, .retAddr 0), (1, .ref 0), (2, .ref 151), (3, .int v3)], [.int (v3 + (1 : Int32)), .retAddr 0, .ref 0])) rfl ?_
      refine qle_gd fun h179 => ?_
      refine e_oal (n := en.1) (f := en.2) rfl rfl h179 ?_
      refine e_L 4 (f' := (841, [(0, .retAddr 0), (1, .ref 0), (2, .ref 151), (3, .int v3)], [.int (v3 + (2 : Int32)), .retAddr 0, .int (en.2 (v3 + (1 : Int32)).toNatClampNeg), .ref 0])) rfl ?_
      refine qle_gd fun h180 => ?_
      refine e_oal (n := en.1) (f := en.2) rfl rfl h180 ?_
      refine e_vI 223 rfl rfl ix_X11_outcomeCell rfl (q_recvOf lc_0 rfl) (Nat.le_of_ble_eq_true rfl) (fun w181 s182 e183 => ?_)
      refine e_L 5 (f' := (850, [(0, .retAddr 0), (1, .ref 0), (2, .ref 151), (3, .int v3)], [.int (v3 + (1 : Int32)), .retAddr 0, .ref 151, .int w181])) rfl ?_
      refine e_oal (n := en.1) (f := en.2) rfl rfl h179 ?_
      refine e_L 4 (f' := (855, [(0, .retAddr 0), (1, .ref 0), (2, .ref 151), (3, .int v3)], [.int (v3 + (2 : Int32)), .retAddr 0, .int (en.2 (v3 + (1 : Int32)).toNatClampNeg), .ref 151, .int w181])) rfl ?_
      refine e_oal (n := en.1) (f := en.2) rfl rfl h180 ?_
      refine e_vI 371 rfl rfl ix_X12_outcomeCell rfl (q_recvOf lc_151 rfl) (Nat.le_of_ble_eq_true rfl) (fun w184 s185 e186 => ?_)
      refine e_icmp 1226 rfl rfl rfl (fun c187 => ?_) (fun c187 => ?_)
      · refine e_L 2 (f' := (18, [(3, .int (v3 + (6 : Int32))), (0, .retAddr 0), (1, .ref 0), (2, .ref 151)], [])) rfl ?_
        exact qE_sub (qsubL [1, 2, 3, 0] rfl (ks := [3, 0, 1, 2]) rfl (by decide))
      · refine e_L 1 (f' := (863, [(0, .retAddr 0), (1, .ref 0), (2, .ref 151), (3, .int v3)], [.int (0 : Int32)])) rfl ?_
        exact e_rZ rfl rfl (by decide)
    · refine e_L 5 (f' := (869, [(0, .retAddr 0), (1, .ref 0), (2, .ref 151), (3, .int v3)], [.int (v3 + (1 : Int32)), .retAddr 0, .ref 0])) rfl ?_
      refine qle_gd fun h188 => ?_
      refine e_oal (n := en.1) (f := en.2) rfl rfl h188 ?_
      refine e_L 4 (f' := (874, [(0, .retAddr 0), (1, .ref 0), (2, .ref 151), (3, .int v3)], [.int (v3 + (2 : Int32)), .retAddr 0, .int (en.2 (v3 + (1 : Int32)).toNatClampNeg), .ref 0])) rfl ?_
      refine qle_gd fun h189 => ?_
      refine e_oal (n := en.1) (f := en.2) rfl rfl h189 ?_
      refine e_L 4 (f' := (879, [(0, .retAddr 0), (1, .ref 0), (2, .ref 151), (3, .int v3)], [.int (v3 + (3 : Int32)), .retAddr 0, .int (en.2 (v3 + (2 : Int32)).toNatClampNeg), .int (en.2 (v3 + (1 : Int32)).toNatClampNeg), .ref 0])) rfl ?_
      refine qle_gd fun h190 => ?_
      refine e_oal (n := en.1) (f := en.2) rfl rfl h190 ?_
      refine e_vI 224 rfl rfl ix_X11_outcomeLocal rfl (q_recvOf lc_0 rfl) (Nat.le_of_ble_eq_true rfl) (fun w191 s192 e193 => ?_)
      refine e_L 5 (f' := (888, [(0, .retAddr 0), (1, .ref 0), (2, .ref 151), (3, .int v3)], [.int (v3 + (1 : Int32)), .retAddr 0, .ref 151, .int w191])) rfl ?_
      refine e_oal (n := en.1) (f := en.2) rfl rfl h188 ?_
      refine e_L 4 (f' := (893, [(0, .retAddr 0), (1, .ref 0), (2, .ref 151), (3, .int v3)], [.int (v3 + (2 : Int32)), .retAddr 0, .int (en.2 (v3 + (1 : Int32)).toNatClampNeg), .ref 151, .int w191])) rfl ?_
      refine e_oal (n := en.1) (f := en.2) rfl rfl h189 ?_
      refine e_L 4 (f' := (898, [(0, .retAddr 0), (1, .ref 0), (2, .ref 151), (3, .int v3)], [.int (v3 + (3 : Int32)), .retAddr 0, .int (en.2 (v3 + (2 : Int32)).toNatClampNeg), .int (en.2 (v3 + (1 : Int32)).toNatClampNeg), .ref 151, .int w191])) rfl ?_
      refine e_oal (n := en.1) (f := en.2) rfl rfl h190 ?_
      refine e_vI 372 rfl rfl ix_X12_outcomeLocal rfl (q_recvOf lc_151 rfl) (Nat.le_of_ble_eq_true rfl) (fun w194 s195 e196 => ?_)
      refine e_icmp 1226 rfl rfl rfl (fun c197 => ?_) (fun c197 => ?_)
      · refine e_L 2 (f' := (18, [(3, .int (v3 + (6 : Int32))), (0, .retAddr 0), (1, .ref 0), (2, .ref 151)], [])) rfl ?_
        exact qE_sub (qsubL [1, 2, 3, 0] rfl (ks := [3, 0, 1, 2]) rfl (by decide))
      · refine e_L 1 (f' := (906, [(0, .retAddr 0), (1, .ref 0), (2, .ref 151), (3, .int v3)], [.int (0 : Int32)])) rfl ?_
        exact e_rZ rfl rfl (by decide)
    · refine e_L 5 (f' := (912, [(0, .retAddr 0), (1, .ref 0), (2, .ref 151), (3, .int v3)], [.int (v3 + (1 : Int32)), .retAddr 0, .ref 0])) rfl ?_
      refine qle_gd fun h198 => ?_
      refine e_oal (n := en.1) (f := en.2) rfl rfl h198 ?_
      refine e_L 4 (f' := (917, [(0, .retAddr 0), (1, .ref 0), (2, .ref 151), (3, .int v3)], [.int (v3 + (2 : Int32)), .retAddr 0, .int (en.2 (v3 + (1 : Int32)).toNatClampNeg), .ref 0])) rfl ?_
      refine qle_gd fun h199 => ?_
      refine e_oal (n := en.1) (f := en.2) rfl rfl h199 ?_
      refine e_vI 225 rfl rfl ix_X11_schedule rfl (q_recvOf lc_0 rfl) (Nat.le_of_ble_eq_true rfl) (fun w200 s201 e202 => ?_)
      refine e_L 5 (f' := (926, [(0, .retAddr 0), (1, .ref 0), (2, .ref 151), (3, .int v3)], [.int (v3 + (1 : Int32)), .retAddr 0, .ref 151, .int w200])) rfl ?_
      refine e_oal (n := en.1) (f := en.2) rfl rfl h198 ?_
      refine e_L 4 (f' := (931, [(0, .retAddr 0), (1, .ref 0), (2, .ref 151), (3, .int v3)], [.int (v3 + (2 : Int32)), .retAddr 0, .int (en.2 (v3 + (1 : Int32)).toNatClampNeg), .ref 151, .int w200])) rfl ?_
      refine e_oal (n := en.1) (f := en.2) rfl rfl h199 ?_
      refine e_vI 376 rfl rfl ix_X12_schedule rfl (q_recvOf lc_151 rfl) (Nat.le_of_ble_eq_true rfl) (fun w203 s204 e205 => ?_)
      refine e_icmp 1226 rfl rfl rfl (fun c206 => ?_) (fun c206 => ?_)
      · refine e_L 2 (f' := (18, [(3, .int (v3 + (6 : Int32))), (0, .retAddr 0), (1, .ref 0), (2, .ref 151)], [])) rfl ?_
        exact qE_sub (qsubL [1, 2, 3, 0] rfl (ks := [3, 0, 1, 2]) rfl (by decide))
      · refine e_L 1 (f' := (939, [(0, .retAddr 0), (1, .ref 0), (2, .ref 151), (3, .int v3)], [.int (0 : Int32)])) rfl ?_
        exact e_rZ rfl rfl (by decide)
    · refine e_L 5 (f' := (945, [(0, .retAddr 0), (1, .ref 0), (2, .ref 151), (3, .int v3)], [.int (v3 + (1 : Int32)), .retAddr 0, .ref 0])) rfl ?_
      refine qle_gd fun h207 => ?_
      refine e_oal (n := en.1) (f := en.2) rfl rfl h207 ?_
      refine e_vI 226 rfl rfl ix_X11_replay rfl (q_recvOf lc_0 rfl) (Nat.le_of_ble_eq_true rfl) (fun w208 s209 e210 => ?_)
      refine e_L 5 (f' := (954, [(0, .retAddr 0), (1, .ref 0), (2, .ref 151), (3, .int v3)], [.int (v3 + (1 : Int32)), .retAddr 0, .ref 151, .int w208])) rfl ?_
      refine e_oal (n := en.1) (f := en.2) rfl rfl h207 ?_
      refine e_vI 377 rfl rfl ix_X12_replay rfl (q_recvOf lc_151 rfl) (Nat.le_of_ble_eq_true rfl) (fun w211 s212 e213 => ?_)
      refine e_icmp 1226 rfl rfl rfl (fun c214 => ?_) (fun c214 => ?_)
      · refine e_L 2 (f' := (18, [(3, .int (v3 + (6 : Int32))), (0, .retAddr 0), (1, .ref 0), (2, .ref 151)], [])) rfl ?_
        exact qE_sub (qsubL [1, 2, 3, 0] rfl (ks := [3, 0, 1, 2]) rfl (by decide))
      · refine e_L 1 (f' := (962, [(0, .retAddr 0), (1, .ref 0), (2, .ref 151), (3, .int v3)], [.int (0 : Int32)])) rfl ?_
        exact e_rZ rfl rfl (by decide)
    · refine e_L 5 (f' := (968, [(0, .retAddr 0), (1, .ref 0), (2, .ref 151), (3, .int v3)], [.int (v3 + (1 : Int32)), .retAddr 0, .ref 0])) rfl ?_
      refine qle_gd fun h215 => ?_
      refine e_oal (n := en.1) (f := en.2) rfl rfl h215 ?_
      refine e_L 4 (f' := (973, [(0, .retAddr 0), (1, .ref 0), (2, .ref 151), (3, .int v3)], [.int (v3 + (2 : Int32)), .retAddr 0, .int (en.2 (v3 + (1 : Int32)).toNatClampNeg), .ref 0])) rfl ?_
      refine qle_gd fun h216 => ?_
      refine e_oal (n := en.1) (f := en.2) rfl rfl h216 ?_
      refine e_L 4 (f' := (978, [(0, .retAddr 0), (1, .ref 0), (2, .ref 151), (3, .int v3)], [.int (v3 + (3 : Int32)), .retAddr 0, .int (en.2 (v3 + (2 : Int32)).toNatClampNeg), .int (en.2 (v3 + (1 : Int32)).toNatClampNeg), .ref 0])) rfl ?_
      refine qle_gd fun h217 => ?_
      refine e_oal (n := en.1) (f := en.2) rfl rfl h217 ?_
      refine e_vI 227 rfl rfl ix_X11_chances rfl (q_recvOf lc_0 rfl) (Nat.le_of_ble_eq_true rfl) (fun w218 s219 e220 => ?_)
      refine e_L 5 (f' := (987, [(0, .retAddr 0), (1, .ref 0), (2, .ref 151), (3, .int v3)], [.int (v3 + (1 : Int32)), .retAddr 0, .ref 151, .int w218])) rfl ?_
      refine e_oal (n := en.1) (f := en.2) rfl rfl h215 ?_
      refine e_L 4 (f' := (992, [(0, .retAddr 0), (1, .ref 0), (2, .ref 151), (3, .int v3)], [.int (v3 + (2 : Int32)), .retAddr 0, .int (en.2 (v3 + (1 : Int32)).toNatClampNeg), .ref 151, .int w218])) rfl ?_
      refine e_oal (n := en.1) (f := en.2) rfl rfl h216 ?_
      refine e_L 4 (f' := (997, [(0, .retAddr 0), (1, .ref 0), (2, .ref 151), (3, .int v3)], [.int (v3 + (3 : Int32)), .retAddr 0, .int (en.2 (v3 + (2 : Int32)).toNatClampNeg), .int (en.2 (v3 + (1 : Int32)).toNatClampNeg), .ref 151, .int w218])) rfl ?_
      refine e_oal (n := en.1) (f := en.2) rfl rfl h217 ?_
      refine e_vI 379 rfl rfl ix_X12_chances rfl (q_recvOf lc_151 rfl) (Nat.le_of_ble_eq_true rfl) (fun w221 s222 e223 => ?_)
      refine e_icmp 1226 rfl rfl rfl (fun c224 => ?_) (fun c224 => ?_)
      · refine e_L 2 (f' := (18, [(3, .int (v3 + (6 : Int32))), (0, .retAddr 0), (1, .ref 0), (2, .ref 151)], [])) rfl ?_
        exact qE_sub (qsubL [1, 2, 3, 0] rfl (ks := [3, 0, 1, 2]) rfl (by decide))
      · refine e_L 1 (f' := (1005, [(0, .retAddr 0), (1, .ref 0), (2, .ref 151), (3, .int v3)], [.int (0 : Int32)])) rfl ?_
        exact e_rZ rfl rfl (by decide)
    · refine e_L 5 (f' := (1011, [(0, .retAddr 0), (1, .ref 0), (2, .ref 151), (3, .int v3)], [.int (v3 + (1 : Int32)), .retAddr 0, .ref 0])) rfl ?_
      refine qle_gd fun h225 => ?_
      refine e_oal (n := en.1) (f := en.2) rfl rfl h225 ?_
      refine e_L 4 (f' := (1016, [(0, .retAddr 0), (1, .ref 0), (2, .ref 151), (3, .int v3)], [.int (v3 + (2 : Int32)), .retAddr 0, .int (en.2 (v3 + (1 : Int32)).toNatClampNeg), .ref 0])) rfl ?_
      refine qle_gd fun h226 => ?_
      refine e_oal (n := en.1) (f := en.2) rfl rfl h226 ?_
      refine e_vI 228 rfl rfl ix_X11_race rfl (q_recvOf lc_0 rfl) (Nat.le_of_ble_eq_true rfl) (fun w227 s228 e229 => ?_)
      refine e_L 5 (f' := (1025, [(0, .retAddr 0), (1, .ref 0), (2, .ref 151), (3, .int v3)], [.int (v3 + (1 : Int32)), .retAddr 0, .ref 151, .int w227])) rfl ?_
      refine e_oal (n := en.1) (f := en.2) rfl rfl h225 ?_
      refine e_L 4 (f' := (1030, [(0, .retAddr 0), (1, .ref 0), (2, .ref 151), (3, .int v3)], [.int (v3 + (2 : Int32)), .retAddr 0, .int (en.2 (v3 + (1 : Int32)).toNatClampNeg), .ref 151, .int w227])) rfl ?_
      refine e_oal (n := en.1) (f := en.2) rfl rfl h226 ?_
      refine e_vI 381 rfl rfl ix_X12_race rfl (q_recvOf lc_151 rfl) (Nat.le_of_ble_eq_true rfl) (fun w230 s231 e232 => ?_)
      refine e_icmp 1226 rfl rfl rfl (fun c233 => ?_) (fun c233 => ?_)
      · refine e_L 2 (f' := (18, [(3, .int (v3 + (6 : Int32))), (0, .retAddr 0), (1, .ref 0), (2, .ref 151)], [])) rfl ?_
        exact qE_sub (qsubL [1, 2, 3, 0] rfl (ks := [3, 0, 1, 2]) rfl (by decide))
      · refine e_L 1 (f' := (1038, [(0, .retAddr 0), (1, .ref 0), (2, .ref 151), (3, .int v3)], [.int (0 : Int32)])) rfl ?_
        exact e_rZ rfl rfl (by decide)
    · refine e_L 5 (f' := (1044, [(0, .retAddr 0), (1, .ref 0), (2, .ref 151), (3, .int v3)], [.int (v3 + (1 : Int32)), .retAddr 0, .ref 0])) rfl ?_
      refine qle_gd fun h234 => ?_
      refine e_oal (n := en.1) (f := en.2) rfl rfl h234 ?_
      refine e_vI 229 rfl rfl ix_X11_guard rfl (q_recvOf lc_0 rfl) (Nat.le_of_ble_eq_true rfl) (fun w235 s236 e237 => ?_)
      refine e_L 5 (f' := (1053, [(0, .retAddr 0), (1, .ref 0), (2, .ref 151), (3, .int v3)], [.int (v3 + (1 : Int32)), .retAddr 0, .ref 151, .int w235])) rfl ?_
      refine e_oal (n := en.1) (f := en.2) rfl rfl h234 ?_
      refine e_vI 382 rfl rfl ix_X12_guard rfl (q_recvOf lc_151 rfl) (Nat.le_of_ble_eq_true rfl) (fun w238 s239 e240 => ?_)
      refine e_icmp 1226 rfl rfl rfl (fun c241 => ?_) (fun c241 => ?_)
      · refine e_L 2 (f' := (18, [(3, .int (v3 + (6 : Int32))), (0, .retAddr 0), (1, .ref 0), (2, .ref 151)], [])) rfl ?_
        exact qE_sub (qsubL [1, 2, 3, 0] rfl (ks := [3, 0, 1, 2]) rfl (by decide))
      · refine e_L 1 (f' := (1061, [(0, .retAddr 0), (1, .ref 0), (2, .ref 151), (3, .int v3)], [.int (0 : Int32)])) rfl ?_
        exact e_rZ rfl rfl (by decide)
    · refine e_L 5 (f' := (1067, [(0, .retAddr 0), (1, .ref 0), (2, .ref 151), (3, .int v3)], [.int (v3 + (1 : Int32)), .retAddr 0, .ref 0])) rfl ?_
      refine qle_gd fun h242 => ?_
      refine e_oal (n := en.1) (f := en.2) rfl rfl h242 ?_
      refine e_vI 230 rfl rfl ix_X11_ring rfl (q_recvOf lc_0 rfl) (Nat.le_of_ble_eq_true rfl) (fun w243 s244 e245 => ?_)
      refine e_L 5 (f' := (1076, [(0, .retAddr 0), (1, .ref 0), (2, .ref 151), (3, .int v3)], [.int (v3 + (1 : Int32)), .retAddr 0, .ref 151, .int w243])) rfl ?_
      refine e_oal (n := en.1) (f := en.2) rfl rfl h242 ?_
      refine e_vI 388 rfl rfl ix_X12_ring rfl (q_recvOf lc_151 rfl) (Nat.le_of_ble_eq_true rfl) (fun w246 s247 e248 => ?_)
      refine e_icmp 1226 rfl rfl rfl (fun c249 => ?_) (fun c249 => ?_)
      · refine e_L 2 (f' := (18, [(3, .int (v3 + (6 : Int32))), (0, .retAddr 0), (1, .ref 0), (2, .ref 151)], [])) rfl ?_
        exact qE_sub (qsubL [1, 2, 3, 0] rfl (ks := [3, 0, 1, 2]) rfl (by decide))
      · refine e_L 1 (f' := (1084, [(0, .retAddr 0), (1, .ref 0), (2, .ref 151), (3, .int v3)], [.int (0 : Int32)])) rfl ?_
        exact e_rZ rfl rfl (by decide)
    · refine e_L 5 (f' := (1090, [(0, .retAddr 0), (1, .ref 0), (2, .ref 151), (3, .int v3)], [.int (v3 + (1 : Int32)), .retAddr 0, .ref 0])) rfl ?_
      refine qle_gd fun h250 => ?_
      refine e_oal (n := en.1) (f := en.2) rfl rfl h250 ?_
      refine e_L 4 (f' := (1095, [(0, .retAddr 0), (1, .ref 0), (2, .ref 151), (3, .int v3)], [.int (v3 + (2 : Int32)), .retAddr 0, .int (en.2 (v3 + (1 : Int32)).toNatClampNeg), .ref 0])) rfl ?_
      refine qle_gd fun h251 => ?_
      refine e_oal (n := en.1) (f := en.2) rfl rfl h251 ?_
      refine e_vI 231 rfl rfl ix_X11_order rfl (q_recvOf lc_0 rfl) (Nat.le_of_ble_eq_true rfl) (fun w252 s253 e254 => ?_)
      refine e_L 5 (f' := (1104, [(0, .retAddr 0), (1, .ref 0), (2, .ref 151), (3, .int v3)], [.int (v3 + (1 : Int32)), .retAddr 0, .ref 151, .int w252])) rfl ?_
      refine e_oal (n := en.1) (f := en.2) rfl rfl h250 ?_
      refine e_L 4 (f' := (1109, [(0, .retAddr 0), (1, .ref 0), (2, .ref 151), (3, .int v3)], [.int (v3 + (2 : Int32)), .retAddr 0, .int (en.2 (v3 + (1 : Int32)).toNatClampNeg), .ref 151, .int w252])) rfl ?_
      refine e_oal (n := en.1) (f := en.2) rfl rfl h251 ?_
      refine e_vI 389 rfl rfl ix_X12_order rfl (q_recvOf lc_151 rfl) (Nat.le_of_ble_eq_true rfl) (fun w255 s256 e257 => ?_)
      refine e_icmp 1226 rfl rfl rfl (fun c258 => ?_) (fun c258 => ?_)
      · refine e_L 2 (f' := (18, [(3, .int (v3 + (6 : Int32))), (0, .retAddr 0), (1, .ref 0), (2, .ref 151)], [])) rfl ?_
        exact qE_sub (qsubL [1, 2, 3, 0] rfl (ks := [3, 0, 1, 2]) rfl (by decide))
      · refine e_L 1 (f' := (1117, [(0, .retAddr 0), (1, .ref 0), (2, .ref 151), (3, .int v3)], [.int (0 : Int32)])) rfl ?_
        exact e_rZ rfl rfl (by decide)
    · refine e_L 1 (f' := (1119, [(0, .retAddr 0), (1, .ref 0), (2, .ref 151), (3, .int v3)], [.ref 0])) rfl ?_
      refine e_vI 232 rfl rfl ix_X11_judge rfl (q_recvOf lc_0 rfl) (Nat.le_of_ble_eq_true rfl) (fun w259 s260 e261 => ?_)
      refine e_L 1 (f' := (1123, [(0, .retAddr 0), (1, .ref 0), (2, .ref 151), (3, .int v3)], [.ref 151, .int w259])) rfl ?_
      refine e_vI 392 rfl rfl ix_X12_judge rfl (q_recvOf lc_151 rfl) (Nat.le_of_ble_eq_true rfl) (fun w262 s263 e264 => ?_)
      refine e_icmp 1226 rfl rfl rfl (fun c265 => ?_) (fun c265 => ?_)
      · refine e_L 2 (f' := (18, [(3, .int (v3 + (6 : Int32))), (0, .retAddr 0), (1, .ref 0), (2, .ref 151)], [])) rfl ?_
        exact qE_sub (qsubL [1, 2, 3, 0] rfl (ks := [3, 0, 1, 2]) rfl (by decide))
      · refine e_L 1 (f' := (1130, [(0, .retAddr 0), (1, .ref 0), (2, .ref 151), (3, .int v3)], [.int (0 : Int32)])) rfl ?_
        exact e_rZ rfl rfl (by decide)
    · refine e_L 1 (f' := (1132, [(0, .retAddr 0), (1, .ref 0), (2, .ref 151), (3, .int v3)], [.ref 0])) rfl ?_
      refine e_vI 233 rfl rfl ix_X11_where rfl (q_recvOf lc_0 rfl) (Nat.le_of_ble_eq_true rfl) (fun w266 s267 e268 => ?_)
      refine e_L 1 (f' := (1136, [(0, .retAddr 0), (1, .ref 0), (2, .ref 151), (3, .int v3)], [.ref 151, .int w266])) rfl ?_
      refine e_vI 393 rfl rfl ix_X12_where rfl (q_recvOf lc_151 rfl) (Nat.le_of_ble_eq_true rfl) (fun w269 s270 e271 => ?_)
      refine e_icmp 1226 rfl rfl rfl (fun c272 => ?_) (fun c272 => ?_)
      · refine e_L 2 (f' := (18, [(3, .int (v3 + (6 : Int32))), (0, .retAddr 0), (1, .ref 0), (2, .ref 151)], [])) rfl ?_
        exact qE_sub (qsubL [1, 2, 3, 0] rfl (ks := [3, 0, 1, 2]) rfl (by decide))
      · refine e_L 1 (f' := (1143, [(0, .retAddr 0), (1, .ref 0), (2, .ref 151), (3, .int v3)], [.int (0 : Int32)])) rfl ?_
        exact e_rZ rfl rfl (by decide)
    · refine e_L 5 (f' := (1149, [(0, .retAddr 0), (1, .ref 0), (2, .ref 151), (3, .int v3)], [.int (v3 + (1 : Int32)), .retAddr 0, .ref 0])) rfl ?_
      refine qle_gd fun h273 => ?_
      refine e_oal (n := en.1) (f := en.2) rfl rfl h273 ?_
      refine e_L 4 (f' := (1154, [(0, .retAddr 0), (1, .ref 0), (2, .ref 151), (3, .int v3)], [.int (v3 + (2 : Int32)), .retAddr 0, .int (en.2 (v3 + (1 : Int32)).toNatClampNeg), .ref 0])) rfl ?_
      refine qle_gd fun h274 => ?_
      refine e_oal (n := en.1) (f := en.2) rfl rfl h274 ?_
      refine e_vI 234 rfl rfl ix_X11_rewrite rfl (q_recvOf lc_0 rfl) (Nat.le_of_ble_eq_true rfl) (fun w275 s276 e277 => ?_)
      refine e_L 5 (f' := (1163, [(0, .retAddr 0), (1, .ref 0), (2, .ref 151), (3, .int v3)], [.int (v3 + (1 : Int32)), .retAddr 0, .ref 151, .int w275])) rfl ?_
      refine e_oal (n := en.1) (f := en.2) rfl rfl h273 ?_
      refine e_L 4 (f' := (1168, [(0, .retAddr 0), (1, .ref 0), (2, .ref 151), (3, .int v3)], [.int (v3 + (2 : Int32)), .retAddr 0, .int (en.2 (v3 + (1 : Int32)).toNatClampNeg), .ref 151, .int w275])) rfl ?_
      refine e_oal (n := en.1) (f := en.2) rfl rfl h274 ?_
      refine e_vI 398 rfl rfl ix_X12_rewrite rfl (q_recvOf lc_151 rfl) (Nat.le_of_ble_eq_true rfl) (fun w278 s279 e280 => ?_)
      refine e_icmp 1226 rfl rfl rfl (fun c281 => ?_) (fun c281 => ?_)
      · refine e_L 2 (f' := (18, [(3, .int (v3 + (6 : Int32))), (0, .retAddr 0), (1, .ref 0), (2, .ref 151)], [])) rfl ?_
        exact qE_sub (qsubL [1, 2, 3, 0] rfl (ks := [3, 0, 1, 2]) rfl (by decide))
      · refine e_L 1 (f' := (1176, [(0, .retAddr 0), (1, .ref 0), (2, .ref 151), (3, .int v3)], [.int (0 : Int32)])) rfl ?_
        exact e_rZ rfl rfl (by decide)
    · refine e_L 1 (f' := (1178, [(0, .retAddr 0), (1, .ref 0), (2, .ref 151), (3, .int v3)], [.ref 0])) rfl ?_
      refine e_vI 235 rfl rfl ix_X11_drop rfl (q_recvOf lc_0 rfl) (Nat.le_of_ble_eq_true rfl) (fun w282 s283 e284 => ?_)
      refine e_L 1 (f' := (1182, [(0, .retAddr 0), (1, .ref 0), (2, .ref 151), (3, .int v3)], [.ref 151, .int w282])) rfl ?_
      refine e_vI 404 rfl rfl ix_X12_drop rfl (q_recvOf lc_151 rfl) (Nat.le_of_ble_eq_true rfl) (fun w285 s286 e287 => ?_)
      refine e_icmp 1226 rfl rfl rfl (fun c288 => ?_) (fun c288 => ?_)
      · refine e_L 2 (f' := (18, [(3, .int (v3 + (6 : Int32))), (0, .retAddr 0), (1, .ref 0), (2, .ref 151)], [])) rfl ?_
        exact qE_sub (qsubL [1, 2, 3, 0] rfl (ks := [3, 0, 1, 2]) rfl (by decide))
      · refine e_L 1 (f' := (1189, [(0, .retAddr 0), (1, .ref 0), (2, .ref 151), (3, .int v3)], [.int (0 : Int32)])) rfl ?_
        exact e_rZ rfl rfl (by decide)
    · refine e_L 5 (f' := (1195, [(0, .retAddr 0), (1, .ref 0), (2, .ref 151), (3, .int v3)], [.int (v3 + (1 : Int32)), .retAddr 0, .ref 0])) rfl ?_
      refine qle_gd fun h289 => ?_
      refine e_oal (n := en.1) (f := en.2) rfl rfl h289 ?_
      refine e_vI 236 rfl rfl ix_X11_sound rfl (q_recvOf lc_0 rfl) (Nat.le_of_ble_eq_true rfl) (fun w290 s291 e292 => ?_)
      refine e_L 5 (f' := (1204, [(0, .retAddr 0), (1, .ref 0), (2, .ref 151), (3, .int v3)], [.int (v3 + (1 : Int32)), .retAddr 0, .ref 151, .int w290])) rfl ?_
      refine e_oal (n := en.1) (f := en.2) rfl rfl h289 ?_
      refine e_vI 405 rfl rfl ix_X12_sound rfl (q_recvOf lc_151 rfl) (Nat.le_of_ble_eq_true rfl) (fun w293 s294 e295 => ?_)
      refine e_icmp 1226 rfl rfl rfl (fun c296 => ?_) (fun c296 => ?_)
      · refine e_L 2 (f' := (18, [(3, .int (v3 + (6 : Int32))), (0, .retAddr 0), (1, .ref 0), (2, .ref 151)], [])) rfl ?_
        exact qE_sub (qsubL [1, 2, 3, 0] rfl (ks := [3, 0, 1, 2]) rfl (by decide))
      · refine e_L 1 (f' := (1212, [(0, .retAddr 0), (1, .ref 0), (2, .ref 151), (3, .int v3)], [.int (0 : Int32)])) rfl ?_
        exact e_rZ rfl rfl (by decide)
    · refine e_L 1 (f' := (1214, [(0, .retAddr 0), (1, .ref 0), (2, .ref 151), (3, .int v3)], [.ref 0])) rfl ?_
      refine e_vI 237 rfl rfl ix_X11_gained rfl (q_recvOf lc_0 rfl) (Nat.le_of_ble_eq_true rfl) (fun w297 s298 e299 => ?_)
      refine e_L 1 (f' := (1218, [(0, .retAddr 0), (1, .ref 0), (2, .ref 151), (3, .int v3)], [.ref 151, .int w297])) rfl ?_
      refine e_vI 407 rfl rfl ix_X12_gained rfl (q_recvOf lc_151 rfl) (Nat.le_of_ble_eq_true rfl) (fun w300 s301 e302 => ?_)
      refine e_icmp 1226 rfl rfl rfl (fun c303 => ?_) (fun c303 => ?_)
      · refine e_L 2 (f' := (18, [(3, .int (v3 + (6 : Int32))), (0, .retAddr 0), (1, .ref 0), (2, .ref 151)], [])) rfl ?_
        exact qE_sub (qsubL [1, 2, 3, 0] rfl (ks := [3, 0, 1, 2]) rfl (by decide))
      · refine e_L 1 (f' := (1225, [(0, .retAddr 0), (1, .ref 0), (2, .ref 151), (3, .int v3)], [.int (0 : Int32)])) rfl ?_
        exact e_rZ rfl rfl (by decide)
    · refine e_L 2 (f' := (18, [(3, .int (v3 + (6 : Int32))), (0, .retAddr 0), (1, .ref 0), (2, .ref 151)], [])) rfl ?_
      exact qE_sub (qsubL [1, 2, 3, 0] rfl (ks := [3, 0, 1, 2]) rfl (by decide))
set_option maxRecDepth 100000 in
set_option maxHeartbeats 8000000 in
theorem le_law_745 (en : pN) (d : Nat) (v3 : Int32) (vs1 : Int32) (vs2 : Int32) (s : qS) : qle (bI (qev en d 220 [.ref 0, .int vs1, .int vs2] s) (fun w1 s2 => gd (p_inB (v3 + (1 : Int32)) en.1 = true) (gd (p_inB (v3 + (2 : Int32)) en.1 = true) (if (en.2 (v3 + (2 : Int32)).toNatClampNeg) = (0 : Int32) then L_law_767 en d v3 w1 (en.2 (v3 + (1 : Int32)).toNatClampNeg) (0 : Int32) s2 else L_law_767 en d v3 w1 (en.2 (v3 + (1 : Int32)).toNatClampNeg) (1 : Int32) s2)))) (L_law_745 en d v3 vs1 vs2 s) := by
  show qle _ (qE (qev en d) en (some .boolean) tb_law (745, [(0, .retAddr 0), (1, .ref 0), (2, .ref 151), (3, .int v3)], [.int vs2, .int vs1, .ref 0]) s)
  refine e_vI 220 rfl rfl ix_X11_explore rfl (q_recvOf lc_0 rfl) (Nat.le_of_ble_eq_true rfl) (fun w1 s2 e3 => ?_)
  refine e_L 5 (f' := (753, [(0, .retAddr 0), (1, .ref 0), (2, .ref 151), (3, .int v3)], [.int (v3 + (1 : Int32)), .retAddr 0, .ref 151, .int w1])) rfl ?_
  refine qle_gd fun h4 => ?_
  refine e_oal (n := en.1) (f := en.2) rfl rfl h4 ?_
  refine e_L 4 (f' := (758, [(0, .retAddr 0), (1, .ref 0), (2, .ref 151), (3, .int v3)], [.int (v3 + (2 : Int32)), .retAddr 0, .int (en.2 (v3 + (1 : Int32)).toNatClampNeg), .ref 151, .int w1])) rfl ?_
  refine qle_gd fun h5 => ?_
  refine e_oal (n := en.1) (f := en.2) rfl rfl h5 ?_
  refine e_ifz 766 rfl rfl rfl (fun c6 => ?_) (fun c6 => ?_)
  · refine e_L 1 (f' := (767, [(0, .retAddr 0), (1, .ref 0), (2, .ref 151), (3, .int v3)], [.int (0 : Int32), .int (en.2 (v3 + (1 : Int32)).toNatClampNeg), .ref 151, .int w1])) rfl ?_
    exact qE_sub (qsubL [0, 1, 2, 3] rfl (ks := [0, 1, 2, 3]) rfl (by decide))
  · refine e_L 2 (f' := (767, [(0, .retAddr 0), (1, .ref 0), (2, .ref 151), (3, .int v3)], [.int (1 : Int32), .int (en.2 (v3 + (1 : Int32)).toNatClampNeg), .ref 151, .int w1])) rfl ?_
    exact qE_sub (qsubL [0, 1, 2, 3] rfl (ks := [0, 1, 2, 3]) rfl (by decide))
set_option maxRecDepth 100000 in
set_option maxHeartbeats 8000000 in
theorem le_law_767 (en : pN) (d : Nat) (v3 : Int32) (vs0 : Int32) (vs2 : Int32) (vs3 : Int32) (s : qS) : qle (bI (qev en d 366 [.ref 151, .int vs2, .int vs3] s) (fun w1 s2 => if vs0 = w1 then L_law_18 en d (v3 + (6 : Int32)) s2 else some (some (.int (0 : Int32)), s2))) (L_law_767 en d v3 vs0 vs2 vs3 s) := by
  show qle _ (qE (qev en d) en (some .boolean) tb_law (767, [(0, .retAddr 0), (1, .ref 0), (2, .ref 151), (3, .int v3)], [.int vs3, .int vs2, .ref 151, .int vs0]) s)
  refine e_vI 366 rfl rfl ix_X12_explore rfl (q_recvOf lc_151 rfl) (Nat.le_of_ble_eq_true rfl) (fun w1 s2 e3 => ?_)
  refine e_icmp 1226 rfl rfl rfl (fun c4 => ?_) (fun c4 => ?_)
  · refine e_L 2 (f' := (18, [(3, .int (v3 + (6 : Int32))), (0, .retAddr 0), (1, .ref 0), (2, .ref 151)], [])) rfl ?_
    exact qE_sub (qsubL [1, 2, 3, 0] rfl (ks := [3, 0, 1, 2]) rfl (by decide))
  · refine e_L 1 (f' := (774, [(0, .retAddr 0), (1, .ref 0), (2, .ref 151), (3, .int v3)], [.int (0 : Int32)])) rfl ?_
    exact e_rZ rfl rfl (by decide)
