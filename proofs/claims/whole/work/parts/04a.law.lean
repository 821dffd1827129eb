theorem k_aload_nS {α : Type} {E : EE} {cc : ByteArray} {own : String} {nL : Nat} {ret : Option FieldType} {rv : α → Option Value} {mc ms ce sl pc : Nat} {lv : List (Nat × Lv)} {st : List Lv} {σ : Sg} {x : Option (α × Sg)} {j : Fin 4} {i : Nat} {v : Nat} (h : Ok E cc own nL ret) (q : Nat) (hd : decode cc pc = .ok (.aload_n j, 1)) (hj : (j : Nat) = i) (hq : lv[q]? = some (i, LT v)) (k : Wq E rv nL mc ms ce sl (pc + 1) lv (LT v :: st) σ x) : Wq E rv nL mc ms ce sl pc lv st σ x := by
  obtain ⟨p, l, e, R, s, m, args, below, meth, c, B, D, cA, sa⟩ := E
  obtain ⟨hx, hb, hml, hr, ho, ht, hK, hA, hn, hst, hlk⟩ := h
  intro r σ' hxx H locs ls hm hS hl
  exact lv_aload_n hx hb hd hj (lq_at hl q hq) (k r σ' hxx H locs ls hm hS hl)
def mL_law_b18 (xs : Nat → Int32) (L : Nat) (x1 : Option Nat) (x6 : Option Nat) (r13 : (Int32) → Sg → Option (Int32 × Sg)) (q11 : Int32) (s12 : Sg) : Option (Int32 × Sg) :=
lnX L fun v14 =>
if (v14 - 6) < q11 then (
ckB 1 (some (1, s12)))
else (
gX xs L q11 fun v15 =>
swc (v15 &&& 31) 0 [
gX xs L (q11 + 1) fun v16 =>
gX xs L (q11 + 2) fun v17 =>
cv s12 8 x1 fun a25 => cl (mX8_sheet a25 v16 v17 s12) fun v18 s19 =>
gX xs L (q11 + 1) fun v20 =>
gX xs L (q11 + 2) fun v21 =>
cv s19 9 x6 fun a24 => cl (mX9_sheet a24 v20 v21 s19) fun v22 s23 =>
if v18 = v22 then (
r13 (q11 + 6) s23)
else (
ckB 0 (some (0, s23))),
gX xs L (q11 + 1) fun v26 =>
gX xs L (q11 + 2) fun v27 =>
gX xs L (q11 + 3) fun v28 =>
gX xs L (q11 + 4) fun v29 =>
cv s12 8 x1 fun a39 => cl (mX8_cell a39 v26 v27 v28 v29 s12) fun v30 s31 =>
gX xs L (q11 + 1) fun v32 =>
gX xs L (q11 + 2) fun v33 =>
gX xs L (q11 + 3) fun v34 =>
gX xs L (q11 + 4) fun v35 =>
cv s31 9 x6 fun a38 => cl (mX9_cell a38 v32 v33 v34 v35 s31) fun v36 s37 =>
if v30 = v36 then (
r13 (q11 + 6) s37)
else (
ckB 0 (some (0, s37))),
gX xs L (q11 + 1) fun v40 =>
gX xs L (q11 + 2) fun v41 =>
cv s12 8 x1 fun a49 => cl (mX8_gap a49 v40 v41 s12) fun v42 s43 =>
gX xs L (q11 + 1) fun v44 =>
gX xs L (q11 + 2) fun v45 =>
cv s43 9 x6 fun a48 => cl (mX9_gap a48 v44 v45 s43) fun v46 s47 =>
if v42 = v46 then (
r13 (q11 + 6) s47)
else (
ckB 0 (some (0, s47))),
gX xs L (q11 + 1) fun v50 =>
cv s12 8 x1 fun a57 => cl (mX8_lose a57 v50 s12) fun v51 s52 =>
gX xs L (q11 + 1) fun v53 =>
cv s52 9 x6 fun a56 => cl (mX9_lose a56 v53 s52) fun v54 s55 =>
if v51 = v54 then (
r13 (q11 + 6) s55)
else (
ckB 0 (some (0, s55))),
gX xs L (q11 + 1) fun v58 =>
gX xs L (q11 + 2) fun v59 =>
cv s12 8 x1 fun a67 => cl (mX8_told a67 v58 v59 s12) fun v60 s61 =>
gX xs L (q11 + 1) fun v62 =>
gX xs L (q11 + 2) fun v63 =>
cv s61 9 x6 fun a66 => cl (mX9_told a66 v62 v63 s61) fun v64 s65 =>
if v60 = v64 then (
r13 (q11 + 6) s65)
else (
ckB 0 (some (0, s65))),
gX xs L (q11 + 1) fun v68 =>
gX xs L (q11 + 2) fun v69 =>
cv s12 8 x1 fun a77 => cl (mX8_winds a77 v68 v69 s12) fun v70 s71 =>
gX xs L (q11 + 1) fun v72 =>
gX xs L (q11 + 2) fun v73 =>
cv s71 9 x6 fun a76 => cl (mX9_winds a76 v72 v73 s71) fun v74 s75 =>
if v70 = v74 then (
r13 (q11 + 6) s75)
else (
ckB 0 (some (0, s75))),
gX xs L (q11 + 1) fun v78 =>
gX xs L (q11 + 2) fun v79 =>
gX xs L (q11 + 3) fun v80 =>
cv s12 8 x1 fun a89 => cl (mX8_wind a89 v78 v79 v80 s12) fun v81 s82 =>
gX xs L (q11 + 1) fun v83 =>
gX xs L (q11 + 2) fun v84 =>
gX xs L (q11 + 3) fun v85 =>
cv s82 9 x6 fun a88 => cl (mX9_wind a88 v83 v84 v85 s82) fun v86 s87 =>
if v81 = v86 then (
r13 (q11 + 6) s87)
else (
ckB 0 (some (0, s87))),
gX xs L (q11 + 1) fun v90 =>
gX xs L (q11 + 2) fun v91 =>
cv s12 8 x1 fun a99 => cl (mX8_blows a99 v90 v91 s12) fun v92 s93 =>
gX xs L (q11 + 1) fun v94 =>
gX xs L (q11 + 2) fun v95 =>
cv s93 9 x6 fun a98 => cl (mX9_blows a98 v94 v95 s93) fun v96 s97 =>
if v92 = v96 then (
r13 (q11 + 6) s97)
else (
ckB 0 (some (0, s97))),
gX xs L (q11 + 1) fun v100 =>
gX xs L (q11 + 2) fun v101 =>
gX xs L (q11 + 3) fun v102 =>
gX xs L (q11 + 4) fun v103 =>
cv s12 8 x1 fun a113 => cl (mX8_jumper a113 v100 v101 v102 v103 s12) fun v104 s105 =>
gX xs L (q11 + 1) fun v106 =>
gX xs L (q11 + 2) fun v107 =>
gX xs L (q11 + 3) fun v108 =>
gX xs L (q11 + 4) fun v109 =>
cv s105 9 x6 fun a112 => cl (mX9_jumper a112 v106 v107 v108 v109 s105) fun v110 s111 =>
if v104 = v110 then (
r13 (q11 + 6) s111)
else (
ckB 0 (some (0, s111))),
gX xs L (q11 + 1) fun v114 =>
gX xs L (q11 + 2) fun v115 =>
gX xs L (q11 + 3) fun v116 =>
gX xs L (q11 + 4) fun v117 =>
cv s12 8 x1 fun a127 => cl (mX8_group a127 v114 v115 v116 v117 s12) fun v118 s119 =>
gX xs L (q11 + 1) fun v120 =>
gX xs L (q11 + 2) fun v121 =>
gX xs L (q11 + 3) fun v122 =>
gX xs L (q11 + 4) fun v123 =>
cv s119 9 x6 fun a126 => cl (mX9_group a126 v120 v121 v122 v123 s119) fun v124 s125 =>
if v118 = v124 then (
r13 (q11 + 6) s125)
else (
ckB 0 (some (0, s125))),
gX xs L (q11 + 1) fun v128 =>
gX xs L (q11 + 2) fun v129 =>
cv s12 8 x1 fun a137 => cl (mX8_join a137 v128 v129 s12) fun v130 s131 =>
gX xs L (q11 + 1) fun v132 =>
gX xs L (q11 + 2) fun v133 =>
cv s131 9 x6 fun a136 => cl (mX9_join a136 v132 v133 s131) fun v134 s135 =>
if v130 = v134 then (
r13 (q11 + 6) s135)
else (
ckB 0 (some (0, s135))),
gX xs L (q11 + 1) fun v138 =>
gX xs L (q11 + 2) fun v139 =>
cv s12 8 x1 fun a147 => cl (mX8_of a147 v138 v139 s12) fun v140 s141 =>
gX xs L (q11 + 1) fun v142 =>
gX xs L (q11 + 2) fun v143 =>
cv s141 9 x6 fun a146 => cl (mX9_of a146 v142 v143 s141) fun v144 s145 =>
if v140 = v144 then (
r13 (q11 + 6) s145)
else (
ckB 0 (some (0, s145))),
gX xs L (q11 + 1) fun v148 =>
gX xs L (q11 + 2) fun v149 =>
gX xs L (q11 + 3) fun v150 =>
gX xs L (q11 + 4) fun v151 =>
gX xs L (q11 + 5) fun v152 =>
cv s12 8 x1 fun a163 => cl (mX8_plane a163 v148 v149 v150 v151 v152 s12) fun v153 s154 =>
gX xs L (q11 + 1) fun v155 =>
gX xs L (q11 + 2) fun v156 =>
gX xs L (q11 + 3) fun v157 =>
gX xs L (q11 + 4) fun v158 =>
gX xs L (q11 + 5) fun v159 =>
cv s154 9 x6 fun a162 => cl (mX9_plane a162 v155 v156 v157 v158 v159 s154) fun v160 s161 =>
if v153 = v160 then (
r13 (q11 + 6) s161)
else (
ckB 0 (some (0, s161))),
gX xs L (q11 + 1) fun v164 =>
gX xs L (q11 + 2) fun v165 =>
cv s12 8 x1 fun a173 => cl (mX8_rule a173 v164 v165 s12) fun v166 s167 =>
gX xs L (q11 + 1) fun v168 =>
gX xs L (q11 + 2) fun v169 =>
cv s167 9 x6 fun a172 => cl (mX9_rule a172 v168 v169 s167) fun v170 s171 =>
if v166 = v170 then (
r13 (q11 + 6) s171)
else (
ckB 0 (some (0, s171))),
gX xs L (q11 + 1) fun v174 =>
cv s12 8 x1 fun a181 => cl (mX8_load a181 v174 s12) fun v175 s176 =>
gX xs L (q11 + 1) fun v177 =>
cv s176 9 x6 fun a180 => cl (mX9_load a180 v177 s176) fun v178 s179 =>
if v175 = v178 then (
r13 (q11 + 6) s179)
else (
ckB 0 (some (0, s179))),
gX xs L (q11 + 1) fun v182 =>
gX xs L (q11 + 2) fun v183 =>
gX xs L (q11 + 3) fun v184 =>
cv s12 8 x1 fun a193 => cl (mX8_put a193 v182 v183 v184 s12) fun v185 s186 =>
gX xs L (q11 + 1) fun v187 =>
gX xs L (q11 + 2) fun v188 =>
gX xs L (q11 + 3) fun v189 =>
cv s186 9 x6 fun a192 => cl (mX9_put a192 v187 v188 v189 s186) fun v190 s191 =>
if v185 = v190 then (
r13 (q11 + 6) s191)
else (
ckB 0 (some (0, s191))),
gX xs L (q11 + 1) fun v194 =>
gX xs L (q11 + 2) fun v195 =>
cv s12 8 x1 fun a203 => cl (mX8_out a203 v194 v195 s12) fun v196 s197 =>
gX xs L (q11 + 1) fun v198 =>
gX xs L (q11 + 2) fun v199 =>
cv s197 9 x6 fun a202 => cl (mX9_out a202 v198 v199 s197) fun v200 s201 =>
if v196 = v200 then (
r13 (q11 + 6) s201)
else (
ckB 0 (some (0, s201))),
gX xs L (q11 + 1) fun v204 =>
gX xs L (q11 + 2) fun v205 =>
gX xs L (q11 + 3) fun v206 =>
cv s12 8 x1 fun a215 => cl (mX8_pause a215 v204 v205 v206 s12) fun v207 s208 =>
gX xs L (q11 + 1) fun v209 =>
gX xs L (q11 + 2) fun v210 =>
gX xs L (q11 + 3) fun v211 =>
cv s208 9 x6 fun a214 => cl (mX9_pause a214 v209 v210 v211 s208) fun v212 s213 =>
if v207 = v212 then (
r13 (q11 + 6) s213)
else (
ckB 0 (some (0, s213))),
gX xs L (q11 + 1) fun v216 =>
gX xs L (q11 + 2) fun v217 =>
cv s12 8 x1 fun a225 => cl (mX8_start a225 v216 v217 s12) fun v218 s219 =>
gX xs L (q11 + 1) fun v220 =>
gX xs L (q11 + 2) fun v221 =>
cv s219 9 x6 fun a224 => cl (mX9_start a224 v220 v221 s219) fun v222 s223 =>
if v218 = v222 then (
r13 (q11 + 6) s223)
else (
ckB 0 (some (0, s223))),
gX xs L (q11 + 1) fun v226 =>
gX xs L (q11 + 2) fun v227 =>
cv s12 8 x1 fun a235 => cl (mX8_in a235 v226 v227 s12) fun v228 s229 =>
gX xs L (q11 + 1) fun v230 =>
gX xs L (q11 + 2) fun v231 =>
cv s229 9 x6 fun a234 => cl (mX9_in_ a234 v230 v231 s229) fun v232 s233 =>
if v228 = v232 then (
r13 (q11 + 6) s233)
else (
ckB 0 (some (0, s233))),
gX xs L (q11 + 1) fun v236 =>
gX xs L (q11 + 2) fun v237 =>
gX xs L (q11 + 3) fun v238 =>
gX xs L (q11 + 4) fun v239 =>
cv s12 8 x1 fun a249 => cl (mX8_where a249 v236 v237 v238 v239 s12) fun v240 s241 =>
gX xs L (q11 + 1) fun v242 =>
gX xs L (q11 + 2) fun v243 =>
gX xs L (q11 + 3) fun v244 =>
gX xs L (q11 + 4) fun v245 =>
cv s241 9 x6 fun a248 => cl (mX9_where a248 v242 v243 v244 v245 s241) fun v246 s247 =>
if v240 = v246 then (
r13 (q11 + 6) s247)
else (
ckB 0 (some (0, s247))),
gX xs L (q11 + 1) fun v250 =>
gX xs L (q11 + 2) fun v251 =>
gX xs L (q11 + 3) fun v252 =>
cv s12 8 x1 fun a261 => cl (mX8_near a261 v250 v251 v252 s12) fun v253 s254 =>
gX xs L (q11 + 1) fun v255 =>
gX xs L (q11 + 2) fun v256 =>
gX xs L (q11 + 3) fun v257 =>
cv s254 9 x6 fun a260 => cl (mX9_near a260 v255 v256 v257 s254) fun v258 s259 =>
if (lg_cmp v253 v258) = 0 then (
r13 (q11 + 6) s259)
else (
ckB 0 (some (0, s259))),
gX xs L (q11 + 1) fun v262 =>
gX xs L (q11 + 2) fun v263 =>
gX xs L (q11 + 3) fun v264 =>
cv s12 8 x1 fun a273 => cl (mX8_between a273 v262 v263 v264 s12) fun v265 s266 =>
gX xs L (q11 + 1) fun v267 =>
gX xs L (q11 + 2) fun v268 =>
gX xs L (q11 + 3) fun v269 =>
cv s266 9 x6 fun a272 => cl (mX9_between a272 v267 v268 v269 s266) fun v270 s271 =>
if v265 = v270 then (
r13 (q11 + 6) s271)
else (
ckB 0 (some (0, s271))),
gX xs L (q11 + 1) fun v274 =>
cv s12 8 x1 fun a281 => cl (mX8_order a281 v274 s12) fun v275 s276 =>
gX xs L (q11 + 1) fun v277 =>
cv s276 9 x6 fun a280 => cl (mX9_order a280 v277 s276) fun v278 s279 =>
if v275 = v278 then (
r13 (q11 + 6) s279)
else (
ckB 0 (some (0, s279))),
gX xs L (q11 + 1) fun v282 =>
gX xs L (q11 + 2) fun v283 =>
cv s12 8 x1 fun a291 => cl (mX8_spot a291 v282 v283 s12) fun v284 s285 =>
gX xs L (q11 + 1) fun v286 =>
gX xs L (q11 + 2) fun v287 =>
cv s285 9 x6 fun a290 => cl (mX9_spot a290 v286 v287 s285) fun v288 s289 =>
if v284 = v288 then (
r13 (q11 + 6) s289)
else (
ckB 0 (some (0, s289))),
gX xs L (q11 + 1) fun v292 =>
gX xs L (q11 + 2) fun v293 =>
cv s12 8 x1 fun a301 => cl (mX8_why a301 v292 v293 s12) fun v294 s295 =>
gX xs L (q11 + 1) fun v296 =>
gX xs L (q11 + 2) fun v297 =>
cv s295 9 x6 fun a300 => cl (mX9_why a300 v296 v297 s295) fun v298 s299 =>
if v294 = v298 then (
r13 (q11 + 6) s299)
else (
ckB 0 (some (0, s299))),
gX xs L (q11 + 1) fun v302 =>
gX xs L (q11 + 2) fun v303 =>
cv s12 8 x1 fun a311 => cl (mX8_leave a311 v302 v303 s12) fun v304 s305 =>
gX xs L (q11 + 1) fun v306 =>
gX xs L (q11 + 2) fun v307 =>
cv s305 9 x6 fun a310 => cl (mX9_leave a310 v306 v307 s305) fun v308 s309 =>
if v304 = v308 then (
r13 (q11 + 6) s309)
else (
ckB 0 (some (0, s309))),
gX xs L (q11 + 1) fun v312 =>
cv s12 8 x1 fun a319 => cl (mX8_many a319 v312 s12) fun v313 s314 =>
gX xs L (q11 + 1) fun v315 =>
cv s314 9 x6 fun a318 => cl (mX9_many a318 v315 s314) fun v316 s317 =>
if v313 = v316 then (
r13 (q11 + 6) s317)
else (
ckB 0 (some (0, s317)))] (
r13 (q11 + 6) s12))
def mL_law (xs : Nat → Int32) (L : Nat) (s0 : Sg) : Option (Int32 × Sg) :=
nwO s0 8 fun x1 s2 =>
cx x1 fun a5 => cl (mX8_init a5 s2) fun u3 s4 =>
nwO s4 9 fun x6 s7 =>
cx x6 fun a10 => cl (mX9_init a10 s7) fun u8 s9 =>
lp (mL_law_b18 xs L x1 x6) FU 0 s9
set_option maxHeartbeats 8000000 in
set_option maxRecDepth 100000 in
theorem wL_law {l : Launch} {p : Program} {e : Env} {s : State} {m : MethodId} {args : Array Value} {below : List Frame} {meth : Method} {c : Code} {B : Nat} {D : va_G} {cA : Nat → ClassId} {sa : Nat → Nat} {xs : Nat → Int32} {L : Nat} (h : Ok (p, l, e, room_1, s, m, args, below, meth, c, B, D, cA, sa) cL_law RL 4 (some .boolean)) (hX : va_X (sa 3) L xs s s.heap) (hbl : sa 3 < s.heap.size) (hbA : ¬ B ≤ sa 3) (s0 : Sg) : Wq (p, l, e, room_1, s, m, args, below, meth, c, B, D, cA, sa) rI 4 249 28794 0 0 0 [(0, LT 3)] [] s0 (mL_law xs L s0) := by
  unfold mL_law
  refine k_new (N0 := 11) h cls8 (mw1 0 rfl) (mw1 1 rfl) (mw1 2 rfl) (Nat.le_of_ble_eq_true rfl) (Nat.le_of_ble_eq_true rfl) dL_law_0 (fun x1 s2 => ?_)
  refine k_dup h dL_law_3 rfl ?_
  refine k_callIU (As := []) (st := [LR x1]) (x0 := x1) (xg := fun a5 => mX8_init a5 s2) h (fun a5 => ctX8_init l B D cA sa a5  s2) calX8_init rfl (mw1 7 rfl) (Or.inl (mw1 6 rfl)) hgood ⟨rfl, rfl, (Nat.le_of_ble_eq_true rfl), (Nat.le_of_ble_eq_true rfl)⟩ ⟨(Nat.le_of_ble_eq_true rfl), (Nat.le_of_ble_eq_true rfl)⟩ rfl (Nat.le_of_ble_eq_true rfl) dL_law_4 (fun u3 s4 => ?_)
  refine k_astore_n (lv' := [(1, LR x1), (0, LT 3)]) h dL_law_7 rfl (by decide) rfl ?_
  refine k_new (N0 := 48) h cls9 (mw1 3 rfl) (mw1 4 rfl) (mw1 5 rfl) (Nat.le_of_ble_eq_true rfl) (Nat.le_of_ble_eq_true rfl) dL_law_8 (fun x6 s7 => ?_)
  refine k_dup h dL_law_11 rfl ?_
  refine k_callIU (As := []) (st := [LR x6]) (x0 := x6) (xg := fun a10 => mX9_init a10 s7) h (fun a10 => ctX9_init l B D cA sa a10  s7) calX9_init rfl (mw6 8 rfl) (Or.inl (mw6 7 rfl)) hgood ⟨rfl, rfl, (Nat.le_of_ble_eq_true rfl), (Nat.le_of_ble_eq_true rfl)⟩ ⟨(Nat.le_of_ble_eq_true rfl), (Nat.le_of_ble_eq_true rfl)⟩ rfl (Nat.le_of_ble_eq_true rfl) dL_law_12 (fun u8 s9 => ?_)
  refine k_astore_n (lv' := [(2, LR x6), (1, LR x1), (0, LT 3)]) h dL_law_15 rfl (by decide) rfl ?_
  refine k_iconst (v := 0) h dL_law_16 (by decide) ?_
  refine k_istore_n (lv' := [(3, LI 0), (2, LR x6), (1, LR x1), (0, LT 3)]) h dL_law_17 rfl (by decide) rfl ?_
  refine k_sub (lv' := [(0, LT 3), (1, LR x1), (2, LR x6), (3, LI 0)]) h [3, 2, 1, 0] rfl ?_
  refine k_lp (A := Int32) (fun q11 => [(0, LT 3), (1, LR x1), (2, LR x6), (3, LI q11)]) (fun q11 => []) (fun r13 hr13 q11 s12 => ?_) FU 0 s9
  unfold mL_law_b18
  refine k_iload_n h 3 dL_law_18 rfl rfl ?_
  refine k_aload_nS h 0 dL_law_19 rfl rfl ?_
  refine k_lnX h hX hbl hbA dL_law_20 (fun v14 => ?_)
  refine k_bipush (v := 6) h dL_law_21 (by decide) ?_
  refine k_isub h dL_law_23 ?_
  refine k_icmp_gt (tgt := 1211) h dL_law_24 (by decide) ?_ ?_
  · refine k_iconst (v := 1) h dL_law_1211 (by decide) ?_
    exact k_zret h rfl dL_law_1212 (Nat.le_of_ble_eq_true rfl) (Nat.le_of_ble_eq_true rfl)
  · refine k_aload_nS h 0 dL_law_27 rfl rfl ?_
    refine k_iload_n h 3 dL_law_28 rfl rfl ?_
    refine k_alX h hX hbl hbA dL_law_29 (fun v15 => ?_)
    refine k_bipush (v := 31) h dL_law_30 (by decide) ?_
    refine k_iand h dL_law_32 ?_
    refine k_table (tg := 1205) (tgs := [160, 193, 246, 279, 302, 335, 368, 411, 444, 497, 550, 583, 616, 679, 712, 735, 778, 811, 854, 887, 920, 973, 1017, 1060, 1083, 1116, 1149, 1182]) h dL_law_33 (by decide) (by decide) rfl (by decide) ?_ ?_
    · refine k_iinc (w := (q11 + 6)) (lv' := [(3, LI (q11 + 6)), (0, LT 3), (1, LR x1), (2, LR x6)]) h 3 dL_law_1205 rfl rfl (by decide) rfl ?_
      refine k_goto (tgt := 18) h dL_law_1208 (by decide) ?_
      refine k_sub (lv' := [(0, LT 3), (1, LR x1), (2, LR x6), (3, LI (q11 + 6))]) h [1, 2, 3, 0] rfl ?_
      exact hr13 (q11 + 6) s12
    · intro q9 hq9
      simp only [List.zip_cons_cons, List.zip_nil_right, List.zip_nil_left, List.mem_cons, List.not_mem_nil, or_false] at hq9
      rcases hq9 with rfl | rfl | rfl | rfl | rfl | rfl | rfl | rfl | rfl | rfl | rfl | rfl | rfl | rfl | rfl | rfl | rfl | rfl | rfl | rfl | rfl | rfl | rfl | rfl | rfl | rfl | rfl | rfl
      · dsimp only
        refine k_aload_n h 1 dL_law_160 rfl rfl ?_
        refine k_aload_nS h 0 dL_law_161 rfl rfl ?_
        refine k_iload_n h 3 dL_law_162 rfl rfl ?_
        refine k_iconst (v := 1) h dL_law_163 (by decide) ?_
        refine k_iadd h dL_law_164 ?_
        refine k_alX h hX hbl hbA dL_law_165 (fun v16 => ?_)
        refine k_aload_nS h 0 dL_law_166 rfl rfl ?_
        refine k_iload_n h 3 dL_law_167 rfl rfl ?_
        refine k_iconst (v := 2) h dL_law_168 (by decide) ?_
        refine k_iadd h dL_law_169 ?_
        refine k_alX h hX hbl hbA dL_law_170 (fun v17 => ?_)
        refine k_callVI (As := [LI v16, LI v17]) (st := []) (x0 := x1) (xg := fun a25 => mX8_sheet a25 v16 v17 s12) h (fun a25 => ctX8_sheet l B D cA sa a25 v16 v17 s12) calX8_sheet rfl (by decide) (mw8 6 rfl) (mw8 7 rfl) (Or.inl (mw8 5 rfl)) hgood ⟨rfl, rfl, Nat.le_of_ble_eq_true rfl, Nat.le_of_ble_eq_true rfl⟩ ⟨Nat.le_of_ble_eq_true rfl, Nat.le_of_ble_eq_true rfl⟩ rfl (Nat.le_of_ble_eq_true rfl) dL_law_171 (fun v18 s19 => ?_)
        refine k_aload_n h 2 dL_law_174 rfl rfl ?_
        refine k_aload_nS h 0 dL_law_175 rfl rfl ?_
        refine k_iload_n h 3 dL_law_176 rfl rfl ?_
        refine k_iconst (v := 1) h dL_law_177 (by decide) ?_
        refine k_iadd h dL_law_178 ?_
        refine k_alX h hX hbl hbA dL_law_179 (fun v20 => ?_)
        refine k_aload_nS h 0 dL_law_180 rfl rfl ?_
        refine k_iload_n h 3 dL_law_181 rfl rfl ?_
        refine k_iconst (v := 2) h dL_law_182 (by decide) ?_
        refine k_iadd h dL_law_183 ?_
        refine k_alX h hX hbl hbA dL_law_184 (fun v21 => ?_)
        refine k_callVI (As := [LI v20, LI v21]) (st := [LI v18]) (x0 := x6) (xg := fun a24 => mX9_sheet a24 v20 v21 s19) h (fun a24 => ctX9_sheet l B D cA sa a24 v20 v21 s19) calX9_sheet rfl (by decide) (mw8 17 rfl) (mw8 18 rfl) (Or.inl (mw8 16 rfl)) hgood ⟨rfl, rfl, Nat.le_of_ble_eq_true rfl, Nat.le_of_ble_eq_true rfl⟩ ⟨Nat.le_of_ble_eq_true rfl, Nat.le_of_ble_eq_true rfl⟩ rfl (Nat.le_of_ble_eq_true rfl) dL_law_185 (fun v22 s23 => ?_)
        refine k_icmp_eq (tgt := 1205) h dL_law_188 (by decide) ?_ ?_
        · refine k_iinc (w := (q11 + 6)) (lv' := [(3, LI (q11 + 6)), (0, LT 3), (1, LR x1), (2, LR x6)]) h 3 dL_law_1205 rfl rfl (by decide) rfl ?_
          refine k_goto (tgt := 18) h dL_law_1208 (by decide) ?_
          refine k_sub (lv' := [(0, LT 3), (1, LR x1), (2, LR x6), (3, LI (q11 + 6))]) h [1, 2, 3, 0] rfl ?_
          exact hr13 (q11 + 6) s23
        · refine k_iconst (v := 0) h dL_law_191 (by decide) ?_
          exact k_zret h rfl dL_law_192 (Nat.le_of_ble_eq_true rfl) (Nat.le_of_ble_eq_true rfl)
      · dsimp only
        refine k_aload_n h 1 dL_law_193 rfl rfl ?_
        refine k_aload_nS h 0 dL_law_194 rfl rfl ?_
        refine k_iload_n h 3 dL_law_195 rfl rfl ?_
        refine k_iconst (v := 1) h dL_law_196 (by decide) ?_
        refine k_iadd h dL_law_197 ?_
        refine k_alX h hX hbl hbA dL_law_198 (fun v26 => ?_)
        refine k_aload_nS h 0 dL_law_199 rfl rfl ?_
        refine k_iload_n h 3 dL_law_200 rfl rfl ?_
        refine k_iconst (v := 2) h dL_law_201 (by decide) ?_
        refine k_iadd h dL_law_202 ?_
        refine k_alX h hX hbl hbA dL_law_203 (fun v27 => ?_)
        refine k_aload_nS h 0 dL_law_204 rfl rfl ?_
        refine k_iload_n h 3 dL_law_205 rfl rfl ?_
        refine k_iconst (v := 3) h dL_law_206 (by decide) ?_
        refine k_iadd h dL_law_207 ?_
        refine k_alX h hX hbl hbA dL_law_208 (fun v28 => ?_)
        refine k_aload_nS h 0 dL_law_209 rfl rfl ?_
        refine k_iload_n h 3 dL_law_210 rfl rfl ?_
        refine k_iconst (v := 4) h dL_law_211 (by decide) ?_
        refine k_iadd h dL_law_212 ?_
        refine k_alX h hX hbl hbA dL_law_213 (fun v29 => ?_)
        refine k_callVI (As := [LI v26, LI v27, LI v28, LI v29]) (st := []) (x0 := x1) (xg := fun a39 => mX8_cell a39 v26 v27 v28 v29 s12) h (fun a39 => ctX8_cell l B D cA sa a39 v26 v27 v28 v29 s12) calX8_cell rfl (by decide) (mw9 4 rfl) (mw9 5 rfl) (Or.inl (mw9 3 rfl)) hgood ⟨rfl, rfl, Nat.le_of_ble_eq_true rfl, Nat.le_of_ble_eq_true rfl⟩ ⟨Nat.le_of_ble_eq_true rfl, Nat.le_of_ble_eq_true rfl⟩ rfl (Nat.le_of_ble_eq_true rfl) dL_law_214 (fun v30 s31 => ?_)
        refine k_aload_n h 2 dL_law_217 rfl rfl ?_
        refine k_aload_nS h 0 dL_law_218 rfl rfl ?_
        refine k_iload_n h 3 dL_law_219 rfl rfl ?_
        refine k_iconst (v := 1) h dL_law_220 (by decide) ?_
        refine k_iadd h dL_law_221 ?_
        refine k_alX h hX hbl hbA dL_law_222 (fun v32 => ?_)
        refine k_aload_nS h 0 dL_law_223 rfl rfl ?_
        refine k_iload_n h 3 dL_law_224 rfl rfl ?_
        refine k_iconst (v := 2) h dL_law_225 (by decide) ?_
        refine k_iadd h dL_law_226 ?_
        refine k_alX h hX hbl hbA dL_law_227 (fun v33 => ?_)
        refine k_aload_nS h 0 dL_law_228 rfl rfl ?_
        refine k_iload_n h 3 dL_law_229 rfl rfl ?_
        refine k_iconst (v := 3) h dL_law_230 (by decide) ?_
        refine k_iadd h dL_law_231 ?_
        refine k_alX h hX hbl hbA dL_law_232 (fun v34 => ?_)
        refine k_aload_nS h 0 dL_law_233 rfl rfl ?_
        refine k_iload_n h 3 dL_law_234 rfl rfl ?_
        refine k_iconst (v := 4) h dL_law_235 (by decide) ?_
        refine k_iadd h dL_law_236 ?_
        refine k_alX h hX hbl hbA dL_law_237 (fun v35 => ?_)
        refine k_callVI (As := [LI v32, LI v33, LI v34, LI v35]) (st := [LI v30]) (x0 := x6) (xg := fun a38 => mX9_cell a38 v32 v33 v34 v35 s31) h (fun a38 => ctX9_cell l B D cA sa a38 v32 v33 v34 v35 s31) calX9_cell rfl (by decide) (mw9 18 rfl) (mw9 19 rfl) (Or.inl (mw9 17 rfl)) hgood ⟨rfl, rfl, Nat.le_of_ble_eq_true rfl, Nat.le_of_ble_eq_true rfl⟩ ⟨Nat.le_of_ble_eq_true rfl, Nat.le_of_ble_eq_true rfl⟩ rfl (Nat.le_of_ble_eq_true rfl) dL_law_238 (fun v36 s37 => ?_)
        refine k_icmp_eq (tgt := 1205) h dL_law_241 (by decide) ?_ ?_
        · refine k_iinc (w := (q11 + 6)) (lv' := [(3, LI (q11 + 6)), (0, LT 3), (1, LR x1), (2, LR x6)]) h 3 dL_law_1205 rfl rfl (by decide) rfl ?_
          refine k_goto (tgt := 18) h dL_law_1208 (by decide) ?_
          refine k_sub (lv' := [(0, LT 3), (1, LR x1), (2, LR x6), (3, LI (q11 + 6))]) h [1, 2, 3, 0] rfl ?_
          exact hr13 (q11 + 6) s37
        · refine k_iconst (v := 0) h dL_law_244 (by decide) ?_
          exact k_zret h rfl dL_law_245 (Nat.le_of_ble_eq_true rfl) (Nat.le_of_ble_eq_true rfl)
      · dsimp only
        refine k_aload_n h 1 dL_law_246 rfl rfl ?_
        refine k_aload_nS h 0 dL_law_247 rfl rfl ?_
        refine k_iload_n h 3 dL_law_248 rfl rfl ?_
        refine k_iconst (v := 1) h dL_law_249 (by decide) ?_
        refine k_iadd h dL_law_250 ?_
        refine k_alX h hX hbl hbA dL_law_251 (fun v40 => ?_)
        refine k_aload_nS h 0 dL_law_252 rfl rfl ?_
        refine k_iload_n h 3 dL_law_253 rfl rfl ?_
        refine k_iconst (v := 2) h dL_law_254 (by decide) ?_
        refine k_iadd h dL_law_255 ?_
        refine k_alX h hX hbl hbA dL_law_256 (fun v41 => ?_)
        refine k_callVI (As := [LI v40, LI v41]) (st := []) (x0 := x1) (xg := fun a49 => mX8_gap a49 v40 v41 s12) h (fun a49 => ctX8_gap l B D cA sa a49 v40 v41 s12) calX8_gap rfl (by decide) (mw9 23 rfl) (mw10 0 rfl) (Or.inl (mw9 22 rfl)) hgood ⟨rfl, rfl, Nat.le_of_ble_eq_true rfl, Nat.le_of_ble_eq_true rfl⟩ ⟨Nat.le_of_ble_eq_true rfl, Nat.le_of_ble_eq_true rfl⟩ rfl (Nat.le_of_ble_eq_true rfl) dL_law_257 (fun v42 s43 => ?_)
        refine k_aload_n h 2 dL_law_260 rfl rfl ?_
        refine k_aload_nS h 0 dL_law_261 rfl rfl ?_
        refine k_iload_n h 3 dL_law_262 rfl rfl ?_
        refine k_iconst (v := 1) h dL_law_263 (by decide) ?_
        refine k_iadd h dL_law_264 ?_
        refine k_alX h hX hbl hbA dL_law_265 (fun v44 => ?_)
        refine k_aload_nS h 0 dL_law_266 rfl rfl ?_
        refine k_iload_n h 3 dL_law_267 rfl rfl ?_
        refine k_iconst (v := 2) h dL_law_268 (by decide) ?_
        refine k_iadd h dL_law_269 ?_
        refine k_alX h hX hbl hbA dL_law_270 (fun v45 => ?_)
        refine k_callVI (As := [LI v44, LI v45]) (st := [LI v42]) (x0 := x6) (xg := fun a48 => mX9_gap a48 v44 v45 s43) h (fun a48 => ctX9_gap l B D cA sa a48 v44 v45 s43) calX9_gap rfl (by decide) (mw10 6 rfl) (mw10 7 rfl) (Or.inl (mw10 5 rfl)) hgood ⟨rfl, rfl, Nat.le_of_ble_eq_true rfl, Nat.le_of_ble_eq_true rfl⟩ ⟨Nat.le_of_ble_eq_true rfl, Nat.le_of_ble_eq_true rfl⟩ rfl (Nat.le_of_ble_eq_true rfl) dL_law_271 (fun v46 s47 => ?_)
        refine k_icmp_eq (tgt := 1205) h dL_law_274 (by decide) ?_ ?_
        · refine k_iinc (w := (q11 + 6)) (lv' := [(3, LI (q11 + 6)), (0, LT 3), (1, LR x1), (2, LR x6)]) h 3 dL_law_1205 rfl rfl (by decide) rfl ?_
          refine k_goto (tgt := 18) h dL_law_1208 (by decide) ?_
          refine k_sub (lv' := [(0, LT 3), (1, LR x1), (2, LR x6), (3, LI (q11 + 6))]) h [1, 2, 3, 0] rfl ?_
          exact hr13 (q11 + 6) s47
        · refine k_iconst (v := 0) h dL_law_277 (by decide) ?_
          exact k_zret h rfl dL_law_278 (Nat.le_of_ble_eq_true rfl) (Nat.le_of_ble_eq_true rfl)
      · dsimp only
        refine k_aload_n h 1 dL_law_279 rfl rfl ?_
        refine k_aload_nS h 0 dL_law_280 rfl rfl ?_
        refine k_iload_n h 3 dL_law_281 rfl rfl ?_
        refine k_iconst (v := 1) h dL_law_282 (by decide) ?_
        refine k_iadd h dL_law_283 ?_
        refine k_alX h hX hbl hbA dL_law_284 (fun v50 => ?_)
        refine k_callVI (As := [LI v50]) (st := []) (x0 := x1) (xg := fun a57 => mX8_lose a57 v50 s12) h (fun a57 => ctX8_lose l B D cA sa a57 v50 s12) calX8_lose rfl (by decide) (mw10 10 rfl) (mw10 11 rfl) (Or.inl (mw10 9 rfl)) hgood ⟨rfl, rfl, Nat.le_of_ble_eq_true rfl, Nat.le_of_ble_eq_true rfl⟩ ⟨Nat.le_of_ble_eq_true rfl, Nat.le_of_ble_eq_true rfl⟩ rfl (Nat.le_of_ble_eq_true rfl) dL_law_285 (fun v51 s52 => ?_)
        refine k_aload_n h 2 dL_law_288 rfl rfl ?_
        refine k_aload_nS h 0 dL_law_289 rfl rfl ?_
        refine k_iload_n h 3 dL_law_290 rfl rfl ?_
        refine k_iconst (v := 1) h dL_law_291 (by decide) ?_
        refine k_iadd h dL_law_292 ?_
        refine k_alX h hX hbl hbA dL_law_293 (fun v53 => ?_)
        refine k_callVI (As := [LI v53]) (st := [LI v51]) (x0 := x6) (xg := fun a56 => mX9_lose a56 v53 s52) h (fun a56 => ctX9_lose l B D cA sa a56 v53 s52) calX9_lose rfl (by decide) (mw10 14 rfl) (mw10 15 rfl) (Or.inl (mw10 13 rfl)) hgood ⟨rfl, rfl, Nat.le_of_ble_eq_true rfl, Nat.le_of_ble_eq_true rfl⟩ ⟨Nat.le_of_ble_eq_true rfl, Nat.le_of_ble_eq_true rfl⟩ rfl (Nat.le_of_ble_eq_true rfl) dL_law_294 (fun v54 s55 => ?_)
        refine k_icmp_eq (tgt := 1205) h dL_law_297 (by decide) ?_ ?_
        · refine k_iinc (w := (q11 + 6)) (lv' := [(3, LI (q11 + 6)), (0, LT 3), (1, LR x1), (2, LR x6)]) h 3 dL_law_1205 rfl rfl (by decide) rfl ?_
          refine k_goto (tgt := 18) h dL_law_1208 (by decide) ?_
          refine k_sub (lv' := [(0, LT 3), (1, LR x1), (2, LR x6), (3, LI (q11 + 6))]) h [1, 2, 3, 0] rfl ?_
          exact hr13 (q11 + 6) s55
        · refine k_iconst (v := 0) h dL_law_300 (by decide) ?_
          exact k_zret h rfl dL_law_301 (Nat.le_of_ble_eq_true rfl) (Nat.le_of_ble_eq_true rfl)
      · dsimp only
        refine k_aload_n h 1 dL_law_302 rfl rfl ?_
        refine k_aload_nS h 0 dL_law_303 rfl rfl ?_
        refine k_iload_n h 3 dL_law_304 rfl rfl ?_
        refine k_iconst (v := 1) h dL_law_305 (by decide) ?_
        refine k_iadd h dL_law_306 ?_
        refine k_alX h hX hbl hbA dL_law_307 (fun v58 => ?_)
        refine k_aload_nS h 0 dL_law_308 rfl rfl ?_
        refine k_iload_n h 3 dL_law_309 rfl rfl ?_
        refine k_iconst (v := 2) h dL_law_310 (by decide) ?_
        refine k_iadd h dL_law_311 ?_
        refine k_alX h hX hbl hbA dL_law_312 (fun v59 => ?_)
        refine k_callVI (As := [LI v58, LI v59]) (st := []) (x0 := x1) (xg := fun a67 => mX8_told a67 v58 v59 s12) h (fun a67 => ctX8_told l B D cA sa a67 v58 v59 s12) calX8_told rfl (by decide) (mw10 18 rfl) (mw10 19 rfl) (Or.inl (mw10 17 rfl)) hgood ⟨rfl, rfl, Nat.le_of_ble_eq_true rfl, Nat.le_of_ble_eq_true rfl⟩ ⟨Nat.le_of_ble_eq_true rfl, Nat.le_of_ble_eq_true rfl⟩ rfl (Nat.le_of_ble_eq_true rfl) dL_law_313 (fun v60 s61 => ?_)
        refine k_aload_n h 2 dL_law_316 rfl rfl ?_
        refine k_aload_nS h 0 dL_law_317 rfl rfl ?_
        refine k_iload_n h 3 dL_law_318 rfl rfl ?_
        refine k_iconst (v := 1) h dL_law_319 (by decide) ?_
        refine k_iadd h dL_law_320 ?_
        refine k_alX h hX hbl hbA dL_law_321 (fun v62 => ?_)
        refine k_aload_nS h 0 dL_law_322 rfl rfl ?_
        refine k_iload_n h 3 dL_law_323 rfl rfl ?_
        refine k_iconst (v := 2) h dL_law_324 (by decide) ?_
        refine k_iadd h dL_law_325 ?_
        refine k_alX h hX hbl hbA dL_law_326 (fun v63 => ?_)
        refine k_callVI (As := [LI v62, LI v63]) (st := [LI v60]) (x0 := x6) (xg := fun a66 => mX9_told a66 v62 v63 s61) h (fun a66 => ctX9_told l B D cA sa a66 v62 v63 s61) calX9_told rfl (by decide) (mw11 11 rfl) (mw11 12 rfl) (Or.inl (mw11 10 rfl)) hgood ⟨rfl, rfl, Nat.le_of_ble_eq_true rfl, Nat.le_of_ble_eq_true rfl⟩ ⟨Nat.le_of_ble_eq_true rfl, Nat.le_of_ble_eq_true rfl⟩ rfl (Nat.le_of_ble_eq_true rfl) dL_law_327 (fun v64 s65 => ?_)
        refine k_icmp_eq (tgt := 1205) h dL_law_330 (by decide) ?_ ?_
        · refine k_iinc (w := (q11 + 6)) (lv' := [(3, LI (q11 + 6)), (0, LT 3), (1, LR x1), (2, LR x6)]) h 3 dL_law_1205 rfl rfl (by decide) rfl ?_
          refine k_goto (tgt := 18) h dL_law_1208 (by decide) ?_
          refine k_sub (lv' := [(0, LT 3), (1, LR x1), (2, LR x6), (3, LI (q11 + 6))]) h [1, 2, 3, 0] rfl ?_
          exact hr13 (q11 + 6) s65
        · refine k_iconst (v := 0) h dL_law_333 (by decide) ?_
          exact k_zret h rfl dL_law_334 (Nat.le_of_ble_eq_true rfl) (Nat.le_of_ble_eq_true rfl)
      · dsimp only
        refine k_aload_n h 1 dL_law_335 rfl rfl ?_
        refine k_aload_nS h 0 dL_law_336 rfl rfl ?_
        refine k_iload_n h 3 dL_law_337 rfl rfl ?_
        refine k_iconst (v := 1) h dL_law_338 (by decide) ?_
        refine k_iadd h dL_law_339 ?_
        refine k_alX h hX hbl hbA dL_law_340 (fun v68 => ?_)
        refine k_aload_nS h 0 dL_law_341 rfl rfl ?_
        refine k_iload_n h 3 dL_law_342 rfl rfl ?_
        refine k_iconst (v := 2) h dL_law_343 (by decide) ?_
        refine k_iadd h dL_law_344 ?_
        refine k_alX h hX hbl hbA dL_law_345 (fun v69 => ?_)
        refine k_callVI (As := [LI v68, LI v69]) (st := []) (x0 := x1) (xg := fun a77 => mX8_winds a77 v68 v69 s12) h (fun a77 => ctX8_winds l B D cA sa a77 v68 v69 s12) calX8_winds rfl (by decide) (mw12 1 rfl) (mw12 2 rfl) (Or.inl (mw12 0 rfl)) hgood ⟨rfl, rfl, Nat.le_of_ble_eq_true rfl, Nat.le_of_ble_eq_true rfl⟩ ⟨Nat.le_of_ble_eq_true rfl, Nat.le_of_ble_eq_true rfl⟩ rfl (Nat.le_of_ble_eq_true rfl) dL_law_346 (fun v70 s71 => ?_)
        refine k_aload_n h 2 dL_law_349 rfl rfl ?_
        refine k_aload_nS h 0 dL_law_350 rfl rfl ?_
        refine k_iload_n h 3 dL_law_351 rfl rfl ?_
        refine k_iconst (v := 1) h dL_law_352 (by decide) ?_
        refine k_iadd h dL_law_353 ?_
        refine k_alX h hX hbl hbA dL_law_354 (fun v72 => ?_)
        refine k_aload_nS h 0 dL_law_355 rfl rfl ?_
        refine k_iload_n h 3 dL_law_356 rfl rfl ?_
        refine k_iconst (v := 2) h dL_law_357 (by decide) ?_
        refine k_iadd h dL_law_358 ?_
        refine k_alX h hX hbl hbA dL_law_359 (fun v73 => ?_)
        refine k_callVI (As := [LI v72, LI v73]) (st := [LI v70]) (x0 := x6) (xg := fun a76 => mX9_winds a76 v72 v73 s71) h (fun a76 => ctX9_winds l B D cA sa a76 v72 v73 s71) calX9_winds rfl (by decide) (mw12 23 rfl) (mw13 0 rfl) (Or.inl (mw12 22 rfl)) hgood ⟨rfl, rfl, Nat.le_of_ble_eq_true rfl, Nat.le_of_ble_eq_true rfl⟩ ⟨Nat.le_of_ble_eq_true rfl, Nat.le_of_ble_eq_true rfl⟩ rfl (Nat.le_of_ble_eq_true rfl) dL_law_360 (fun v74 s75 => ?_)
        refine k_icmp_eq (tgt := 1205) h dL_law_363 (by decide) ?_ ?_
        · refine k_iinc (w := (q11 + 6)) (lv' := [(3, LI (q11 + 6)), (0, LT 3), (1, LR x1), (2, LR x6)]) h 3 dL_law_1205 rfl rfl (by decide) rfl ?_
          refine k_goto (tgt := 18) h dL_law_1208 (by decide) ?_
          refine k_sub (lv' := [(0, LT 3), (1, LR x1), (2, LR x6), (3, LI (q11 + 6))]) h [1, 2, 3, 0] rfl ?_
          exact hr13 (q11 + 6) s75
        · refine k_iconst (v := 0) h dL_law_366 (by decide) ?_
          exact k_zret h rfl dL_law_367 (Nat.le_of_ble_eq_true rfl) (Nat.le_of_ble_eq_true rfl)
      · dsimp only
        refine k_aload_n h 1 dL_law_368 rfl rfl ?_
        refine k_aload_nS h 0 dL_law_369 rfl rfl ?_
        refine k_iload_n h 3 dL_law_370 rfl rfl ?_
        refine k_iconst (v := 1) h dL_law_371 (by decide) ?_
        refine k_iadd h dL_law_372 ?_
        refine k_alX h hX hbl hbA dL_law_373 (fun v78 => ?_)
        refine k_aload_nS h 0 dL_law_374 rfl rfl ?_
        refine k_iload_n h 3 dL_law_375 rfl rfl ?_
        refine k_iconst (v := 2) h dL_law_376 (by decide) ?_
        refine k_iadd h dL_law_377 ?_
        refine k_alX h hX hbl hbA dL_law_378 (fun v79 => ?_)
        refine k_aload_nS h 0 dL_law_379 rfl rfl ?_
        refine k_iload_n h 3 dL_law_380 rfl rfl ?_
        refine k_iconst (v := 3) h dL_law_381 (by decide) ?_
        refine k_iadd h dL_law_382 ?_
        refine k_alX h hX hbl hbA dL_law_383 (fun v80 => ?_)
        refine k_callVI (As := [LI v78, LI v79, LI v80]) (st := []) (x0 := x1) (xg := fun a89 => mX8_wind a89 v78 v79 v80 s12) h (fun a89 => ctX8_wind l B D cA sa a89 v78 v79 v80 s12) calX8_wind rfl (by decide) (mw13 10 rfl) (mw13 11 rfl) (Or.inl (mw13 9 rfl)) hgood ⟨rfl, rfl, Nat.le_of_ble_eq_true rfl, Nat.le_of_ble_eq_true rfl⟩ ⟨Nat.le_of_ble_eq_true rfl, Nat.le_of_ble_eq_true rfl⟩ rfl (Nat.le_of_ble_eq_true rfl) dL_law_384 (fun v81 s82 => ?_)
        refine k_aload_n h 2 dL_law_387 rfl rfl ?_
        refine k_aload_nS h 0 dL_law_388 rfl rfl ?_
        refine k_iload_n h 3 dL_law_389 rfl rfl ?_
        refine k_iconst (v := 1) h dL_law_390 (by decide) ?_
        refine k_iadd h dL_law_391 ?_
        refine k_alX h hX hbl hbA dL_law_392 (fun v83 => ?_)
        refine k_aload_nS h 0 dL_law_393 rfl rfl ?_
        refine k_iload_n h 3 dL_law_394 rfl rfl ?_
        refine k_iconst (v := 2) h dL_law_395 (by decide) ?_
        refine k_iadd h dL_law_396 ?_
        refine k_alX h hX hbl hbA dL_law_397 (fun v84 => ?_)
        refine k_aload_nS h 0 dL_law_398 rfl rfl ?_
        refine k_iload_n h 3 dL_law_399 rfl rfl ?_
        refine k_iconst (v := 3) h dL_law_400 (by decide) ?_
        refine k_iadd h dL_law_401 ?_
        refine k_alX h hX hbl hbA dL_law_402 (fun v85 => ?_)
        refine k_callVI (As := [LI v83, LI v84, LI v85]) (st := [LI v81]) (x0 := x6) (xg := fun a88 => mX9_wind a88 v83 v84 v85 s82) h (fun a88 => ctX9_wind l B D cA sa a88 v83 v84 v85 s82) calX9_wind rfl (by decide) (mw13 14 rfl) (mw13 15 rfl) (Or.inl (mw13 13 rfl)) hgood ⟨rfl, rfl, Nat.le_of_ble_eq_true rfl, Nat.le_of_ble_eq_true rfl⟩ ⟨Nat.le_of_ble_eq_true rfl, Nat.le_of_ble_eq_true rfl⟩ rfl (Nat.le_of_ble_eq_true rfl) dL_law_403 (fun v86 s87 => ?_)
        refine k_icmp_eq (tgt := 1205) h dL_law_406 (by decide) ?_ ?_
        · refine k_iinc (w := (q11 + 6)) (lv' := [(3, LI (q11 + 6)), (0, LT 3), (1, LR x1), (2, LR x6)]) h 3 dL_law_1205 rfl rfl (by decide) rfl ?_
          refine k_goto (tgt := 18) h dL_law_1208 (by decide) ?_
          refine k_sub (lv' := [(0, LT 3), (1, LR x1), (2, LR x6), (3, LI (q11 + 6))]) h [1, 2, 3, 0] rfl ?_
          exact hr13 (q11 + 6) s87
        · refine k_iconst (v := 0) h dL_law_409 (by decide) ?_
          exact k_zret h rfl dL_law_410 (Nat.le_of_ble_eq_true rfl) (Nat.le_of_ble_eq_true rfl)
      · dsimp only
        refine k_aload_n h 1 dL_law_411 rfl rfl ?_
        refine k_aload_nS h 0 dL_law_412 rfl rfl ?_
        refine k_iload_n h 3 dL_law_413 rfl rfl ?_
        refine k_iconst (v := 1) h dL_law_414 (by decide) ?_
        refine k_iadd h dL_law_415 ?_
        refine k_alX h hX hbl hbA dL_law_416 (fun v90 => ?_)
        refine k_aload_nS h 0 dL_law_417 rfl rfl ?_
        refine k_iload_n h 3 dL_law_418 rfl rfl ?_
        refine k_iconst (v := 2) h dL_law_419 (by decide) ?_
        refine k_iadd h dL_law_420 ?_
        refine k_alX h hX hbl hbA dL_law_421 (fun v91 => ?_)
        refine k_callVI (As := [LI v90, LI v91]) (st := []) (x0 := x1) (xg := fun a99 => mX8_blows a99 v90 v91 s12) h (fun a99 => ctX8_blows l B D cA sa a99 v90 v91 s12) calX8_blows rfl (by decide) (mw13 19 rfl) (mw13 20 rfl) (Or.inl (mw13 18 rfl)) hgood ⟨rfl, rfl, Nat.le_of_ble_eq_true rfl, Nat.le_of_ble_eq_true rfl⟩ ⟨Nat.le_of_ble_eq_true rfl, Nat.le_of_ble_eq_true rfl⟩ rfl (Nat.le_of_ble_eq_true rfl) dL_law_422 (fun v92 s93 => ?_)
        refine k_aload_n h 2 dL_law_425 rfl rfl ?_
        refine k_aload_nS h 0 dL_law_426 rfl rfl ?_
        refine k_iload_n h 3 dL_law_427 rfl rfl ?_
        refine k_iconst (v := 1) h dL_law_428 (by decide) ?_
        refine k_iadd h dL_law_429 ?_
        refine k_alX h hX hbl hbA dL_law_430 (fun v94 => ?_)
        refine k_aload_nS h 0 dL_law_431 rfl rfl ?_
        refine k_iload_n h 3 dL_law_432 rfl rfl ?_
        refine k_iconst (v := 2) h dL_law_433 (by decide) ?_
        refine k_iadd h dL_law_434 ?_
        refine k_alX h hX hbl hbA dL_law_435 (fun v95 => ?_)
        refine k_callVI (As := [LI v94, LI v95]) (st := [LI v92]) (x0 := x6) (xg := fun a98 => mX9_blows a98 v94 v95 s93) h (fun a98 => ctX9_blows l B D cA sa a98 v94 v95 s93) calX9_blows rfl (by decide) (mw14 5 rfl) (mw14 6 rfl) (Or.inl (mw14 4 rfl)) hgood ⟨rfl, rfl, Nat.le_of_ble_eq_true rfl, Nat.le_of_ble_eq_true rfl⟩ ⟨Nat.le_of_ble_eq_true rfl, Nat.le_of_ble_eq_true rfl⟩ rfl (Nat.le_of_ble_eq_true rfl) dL_law_436 (fun v96 s97 => ?_)
        refine k_icmp_eq (tgt := 1205) h dL_law_439 (by decide) ?_ ?_
        · refine k_iinc (w := (q11 + 6)) (lv' := [(3, LI (q11 + 6)), (0, LT 3), (1, LR x1), (2, LR x6)]) h 3 dL_law_1205 rfl rfl (by decide) rfl ?_
          refine k_goto (tgt := 18) h dL_law_1208 (by decide) ?_
          refine k_sub (lv' := [(0, LT 3), (1, LR x1), (2, LR x6), (3, LI (q11 + 6))]) h [1, 2, 3, 0] rfl ?_
          exact hr13 (q11 + 6) s97
        · refine k_iconst (v := 0) h dL_law_442 (by decide) ?_
          exact k_zret h rfl dL_law_443 (Nat.le_of_ble_eq_true rfl) (Nat.le_of_ble_eq_true rfl)
      · dsimp only
        refine k_aload_n h 1 dL_law_444 rfl rfl ?_
        refine k_aload_nS h 0 dL_law_445 rfl rfl ?_
        refine k_iload_n h 3 dL_law_446 rfl rfl ?_
        refine k_iconst (v := 1) h dL_law_447 (by decide) ?_
        refine k_iadd h dL_law_448 ?_
        refine k_alX h hX hbl hbA dL_law_449 (fun v100 => ?_)
        refine k_aload_nS h 0 dL_law_450 rfl rfl ?_
        refine k_iload_n h 3 dL_law_451 rfl rfl ?_
        refine k_iconst (v := 2) h dL_law_452 (by decide) ?_
        refine k_iadd h dL_law_453 ?_
        refine k_alX h hX hbl hbA dL_law_454 (fun v101 => ?_)
        refine k_aload_nS h 0 dL_law_455 rfl rfl ?_
        refine k_iload_n h 3 dL_law_456 rfl rfl ?_
        refine k_iconst (v := 3) h dL_law_457 (by decide) ?_
        refine k_iadd h dL_law_458 ?_
        refine k_alX h hX hbl hbA dL_law_459 (fun v102 => ?_)
        refine k_aload_nS h 0 dL_law_460 rfl rfl ?_
        refine k_iload_n h 3 dL_law_461 rfl rfl ?_
        refine k_iconst (v := 4) h dL_law_462 (by decide) ?_
        refine k_iadd h dL_law_463 ?_
        refine k_alX h hX hbl hbA dL_law_464 (fun v103 => ?_)
        refine k_callVI (As := [LI v100, LI v101, LI v102, LI v103]) (st := []) (x0 := x1) (xg := fun a113 => mX8_jumper a113 v100 v101 v102 v103 s12) h (fun a113 => ctX8_jumper l B D cA sa a113 v100 v101 v102 v103 s12) calX8_jumper rfl (by decide) (mw14 9 rfl) (mw14 10 rfl) (Or.inl (mw14 8 rfl)) hgood ⟨rfl, rfl, Nat.le_of_ble_eq_true rfl, Nat.le_of_ble_eq_true rfl⟩ ⟨Nat.le_of_ble_eq_true rfl, Nat.le_of_ble_eq_true rfl⟩ rfl (Nat.le_of_ble_eq_true rfl) dL_law_465 (fun v104 s105 => ?_)
        refine k_aload_n h 2 dL_law_468 rfl rfl ?_
        refine k_aload_nS h 0 dL_law_469 rfl rfl ?_
        refine k_iload_n h 3 dL_law_470 rfl rfl ?_
        refine k_iconst (v := 1) h dL_law_471 (by decide) ?_
        refine k_iadd h dL_law_472 ?_
        refine k_alX h hX hbl hbA dL_law_473 (fun v106 => ?_)
        refine k_aload_nS h 0 dL_law_474 rfl rfl ?_
        refine k_iload_n h 3 dL_law_475 rfl rfl ?_
        refine k_iconst (v := 2) h dL_law_476 (by decide) ?_
        refine k_iadd h dL_law_477 ?_
        refine k_alX h hX hbl hbA dL_law_478 (fun v107 => ?_)
        refine k_aload_nS h 0 dL_law_479 rfl rfl ?_
        refine k_iload_n h 3 dL_law_480 rfl rfl ?_
        refine k_iconst (v := 3) h dL_law_481 (by decide) ?_
        refine k_iadd h dL_law_482 ?_
        refine k_alX h hX hbl hbA dL_law_483 (fun v108 => ?_)
        refine k_aload_nS h 0 dL_law_484 rfl rfl ?_
        refine k_iload_n h 3 dL_law_485 rfl rfl ?_
        refine k_iconst (v := 4) h dL_law_486 (by decide) ?_
        refine k_iadd h dL_law_487 ?_
        refine k_alX h hX hbl hbA dL_law_488 (fun v109 => ?_)
        refine k_callVI (As := [LI v106, LI v107, LI v108, LI v109]) (st := [LI v104]) (x0 := x6) (xg := fun a112 => mX9_jumper a112 v106 v107 v108 v109 s105) h (fun a112 => ctX9_jumper l B D cA sa a112 v106 v107 v108 v109 s105) calX9_jumper rfl (by decide) (mw14 20 rfl) (mw14 21 rfl) (Or.inl (mw14 19 rfl)) hgood ⟨rfl, rfl, Nat.le_of_ble_eq_true rfl, Nat.le_of_ble_eq_true rfl⟩ ⟨Nat.le_of_ble_eq_true rfl, Nat.le_of_ble_eq_true rfl⟩ rfl (Nat.le_of_ble_eq_true rfl) dL_law_489 (fun v110 s111 => ?_)
        refine k_icmp_eq (tgt := 1205) h dL_law_492 (by decide) ?_ ?_
        · refine k_iinc (w := (q11 + 6)) (lv' := [(3, LI (q11 + 6)), (0, LT 3), (1, LR x1), (2, LR x6)]) h 3 dL_law_1205 rfl rfl (by decide) rfl ?_
          refine k_goto (tgt := 18) h dL_law_1208 (by decide) ?_
          refine k_sub (lv' := [(0, LT 3), (1, LR x1), (2, LR x6), (3, LI (q11 + 6))]) h [1, 2, 3, 0] rfl ?_
          exact hr13 (q11 + 6) s111
        · refine k_iconst (v := 0) h dL_law_495 (by decide) ?_
          exact k_zret h rfl dL_law_496 (Nat.le_of_ble_eq_true rfl) (Nat.le_of_ble_eq_true rfl)
      · dsimp only
        refine k_aload_n h 1 dL_law_497 rfl rfl ?_
        refine k_aload_nS h 0 dL_law_498 rfl rfl ?_
        refine k_iload_n h 3 dL_law_499 rfl rfl ?_
        refine k_iconst (v := 1) h dL_law_500 (by decide) ?_
        refine k_iadd h dL_law_501 ?_
        refine k_alX h hX hbl hbA dL_law_502 (fun v114 => ?_)
        refine k_aload_nS h 0 dL_law_503 rfl rfl ?_
        refine k_iload_n h 3 dL_law_504 rfl rfl ?_
        refine k_iconst (v := 2) h dL_law_505 (by decide) ?_
        refine k_iadd h dL_law_506 ?_
        refine k_alX h hX hbl hbA dL_law_507 (fun v115 => ?_)
        refine k_aload_nS h 0 dL_law_508 rfl rfl ?_
        refine k_iload_n h 3 dL_law_509 rfl rfl ?_
        refine k_iconst (v := 3) h dL_law_510 (by decide) ?_
        refine k_iadd h dL_law_511 ?_
        refine k_alX h hX hbl hbA dL_law_512 (fun v116 => ?_)
        refine k_aload_nS h 0 dL_law_513 rfl rfl ?_
        refine k_iload_n h 3 dL_law_514 rfl rfl ?_
        refine k_iconst (v := 4) h dL_law_515 (by decide) ?_
        refine k_iadd h dL_law_516 ?_
        refine k_alX h hX hbl hbA dL_law_517 (fun v117 => ?_)
        refine k_callVI (As := [LI v114, LI v115, LI v116, LI v117]) (st := []) (x0 := x1) (xg := fun a127 => mX8_group a127 v114 v115 v116 v117 s12) h (fun a127 => ctX8_group l B D cA sa a127 v114 v115 v116 v117 s12) calX8_group rfl (by decide) (mw15 4 rfl) (mw15 5 rfl) (Or.inl (mw15 3 rfl)) hgood ⟨rfl, rfl, Nat.le_of_ble_eq_true rfl, Nat.le_of_ble_eq_true rfl⟩ ⟨Nat.le_of_ble_eq_true rfl, Nat.le_of_ble_eq_true rfl⟩ rfl (Nat.le_of_ble_eq_true rfl) dL_law_518 (fun v118 s119 => ?_)
        refine k_aload_n h 2 dL_law_521 rfl rfl ?_
        refine k_aload_nS h 0 dL_law_522 rfl rfl ?_
        refine k_iload_n h 3 dL_law_523 rfl rfl ?_
        refine k_iconst (v := 1) h dL_law_524 (by decide) ?_
        refine k_iadd h dL_law_525 ?_
        refine k_alX h hX hbl hbA dL_law_526 (fun v120 => ?_)
        refine k_aload_nS h 0 dL_law_527 rfl rfl ?_
        refine k_iload_n h 3 dL_law_528 rfl rfl ?_
        refine k_iconst (v := 2) h dL_law_529 (by decide) ?_
        refine k_iadd h dL_law_530 ?_
        refine k_alX h hX hbl hbA dL_law_531 (fun v121 => ?_)
        refine k_aload_nS h 0 dL_law_532 rfl rfl ?_
        refine k_iload_n h 3 dL_law_533 rfl rfl ?_
        refine k_iconst (v := 3) h dL_law_534 (by decide) ?_
        refine k_iadd h dL_law_535 ?_
        refine k_alX h hX hbl hbA dL_law_536 (fun v122 => ?_)
        refine k_aload_nS h 0 dL_law_537 rfl rfl ?_
        refine k_iload_n h 3 dL_law_538 rfl rfl ?_
        refine k_iconst (v := 4) h dL_law_539 (by decide) ?_
        refine k_iadd h dL_law_540 ?_
        refine k_alX h hX hbl hbA dL_law_541 (fun v123 => ?_)
        refine k_callVI (As := [LI v120, LI v121, LI v122, LI v123]) (st := [LI v118]) (x0 := x6) (xg := fun a126 => mX9_group a126 v120 v121 v122 v123 s119) h (fun a126 => ctX9_group l B D cA sa a126 v120 v121 v122 v123 s119) calX9_group rfl (by decide) (mw15 11 rfl) (mw15 12 rfl) (Or.inl (mw15 10 rfl)) hgood ⟨rfl, rfl, Nat.le_of_ble_eq_true rfl, Nat.le_of_ble_eq_true rfl⟩ ⟨Nat.le_of_ble_eq_true rfl, Nat.le_of_ble_eq_true rfl⟩ rfl (Nat.le_of_ble_eq_true rfl) dL_law_542 (fun v124 s125 => ?_)
        refine k_icmp_eq (tgt := 1205) h dL_law_545 (by decide) ?_ ?_
        · refine k_iinc (w := (q11 + 6)) (lv' := [(3, LI (q11 + 6)), (0, LT 3), (1, LR x1), (2, LR x6)]) h 3 dL_law_1205 rfl rfl (by decide) rfl ?_
          refine k_goto (tgt := 18) h dL_law_1208 (by decide) ?_
          refine k_sub (lv' := [(0, LT 3), (1, LR x1), (2, LR x6), (3, LI (q11 + 6))]) h [1, 2, 3, 0] rfl ?_
          exact hr13 (q11 + 6) s125
        · refine k_iconst (v := 0) h dL_law_548 (by decide) ?_
          exact k_zret h rfl dL_law_549 (Nat.le_of_ble_eq_true rfl) (Nat.le_of_ble_eq_true rfl)
      · dsimp only
        refine k_aload_n h 1 dL_law_550 rfl rfl ?_
        refine k_aload_nS h 0 dL_law_551 rfl rfl ?_
        refine k_iload_n h 3 dL_law_552 rfl rfl ?_
        refine k_iconst (v := 1) h dL_law_553 (by decide) ?_
        refine k_iadd h dL_law_554 ?_
        refine k_alX h hX hbl hbA dL_law_555 (fun v128 => ?_)
        refine k_aload_nS h 0 dL_law_556 rfl rfl ?_
        refine k_iload_n h 3 dL_law_557 rfl rfl ?_
        refine k_iconst (v := 2) h dL_law_558 (by decide) ?_
        refine k_iadd h dL_law_559 ?_
        refine k_alX h hX hbl hbA dL_law_560 (fun v129 => ?_)
        refine k_callVI (As := [LI v128, LI v129]) (st := []) (x0 := x1) (xg := fun a137 => mX8_join a137 v128 v129 s12) h (fun a137 => ctX8_join l B D cA sa a137 v128 v129 s12) calX8_join rfl (by decide) (mw15 20 rfl) (mw15 21 rfl) (Or.inl (mw15 19 rfl)) hgood ⟨rfl, rfl, Nat.le_of_ble_eq_true rfl, Nat.le_of_ble_eq_true rfl⟩ ⟨Nat.le_of_ble_eq_true rfl, Nat.le_of_ble_eq_true rfl⟩ rfl (Nat.le_of_ble_eq_true rfl) dL_law_561 (fun v130 s131 => ?_)
        refine k_aload_n h 2 dL_law_564 rfl rfl ?_
        refine k_aload_nS h 0 dL_law_565 rfl rfl ?_
        refine k_iload_n h 3 dL_law_566 rfl rfl ?_
        refine k_iconst (v := 1) h dL_law_567 (by decide) ?_
        refine k_iadd h dL_law_568 ?_
        refine k_alX h hX hbl hbA dL_law_569 (fun v132 => ?_)
        refine k_aload_nS h 0 dL_law_570 rfl rfl ?_
        refine k_iload_n h 3 dL_law_571 rfl rfl ?_
        refine k_iconst (v := 2) h dL_law_572 (by decide) ?_
        refine k_iadd h dL_law_573 ?_
        refine k_alX h hX hbl hbA dL_law_574 (fun v133 => ?_)
        refine k_callVI (As := [LI v132, LI v133]) (st := [LI v130]) (x0 := x6) (xg := fun a136 => mX9_join a136 v132 v133 s131) h (fun a136 => ctX9_join l B D cA sa a136 v132 v133 s131) calX9_join rfl (by decide) (mw16 17 rfl) (mw16 18 rfl) (Or.inl (mw16 16 rfl)) hgood ⟨rfl, rfl, Nat.le_of_ble_eq_true rfl, Nat.le_of_ble_eq_true rfl⟩ ⟨Nat.le_of_ble_eq_true rfl, Nat.le_of_ble_eq_true rfl⟩ rfl (Nat.le_of_ble_eq_true rfl) dL_law_575 (fun v134 s135 => ?_)
        refine k_icmp_eq (tgt := 1205) h dL_law_578 (by decide) ?_ ?_
        · refine k_iinc (w := (q11 + 6)) (lv' := [(3, LI (q11 + 6)), (0, LT 3), (1, LR x1), (2, LR x6)]) h 3 dL_law_1205 rfl rfl (by decide) rfl ?_
          refine k_goto (tgt := 18) h dL_law_1208 (by decide) ?_
          refine k_sub (lv' := [(0, LT 3), (1, LR x1), (2, LR x6), (3, LI (q11 + 6))]) h [1, 2, 3, 0] rfl ?_
          exact hr13 (q11 + 6) s135
        · refine k_iconst (v := 0) h dL_law_581 (by decide) ?_
          exact k_zret h rfl dL_law_582 (Nat.le_of_ble_eq_true rfl) (Nat.le_of_ble_eq_true rfl)
      · dsimp only
        refine k_aload_n h 1 dL_law_583 rfl rfl ?_
        refine k_aload_nS h 0 dL_law_584 rfl rfl ?_
        refine k_iload_n h 3 dL_law_585 rfl rfl ?_
        refine k_iconst (v := 1) h dL_law_586 (by decide) ?_
        refine k_iadd h dL_law_587 ?_
        refine k_alX h hX hbl hbA dL_law_588 (fun v138 => ?_)
        refine k_aload_nS h 0 dL_law_589 rfl rfl ?_
        refine k_iload_n h 3 dL_law_590 rfl rfl ?_
        refine k_iconst (v := 2) h dL_law_591 (by decide) ?_
        refine k_iadd h dL_law_592 ?_
        refine k_alX h hX hbl hbA dL_law_593 (fun v139 => ?_)
        refine k_callVI (As := [LI v138, LI v139]) (st := []) (x0 := x1) (xg := fun a147 => mX8_of a147 v138 v139 s12) h (fun a147 => ctX8_of l B D cA sa a147 v138 v139 s12) calX8_of rfl (by decide) (mw17 10 rfl) (mw17 11 rfl) (Or.inl (mw17 9 rfl)) hgood ⟨rfl, rfl, Nat.le_of_ble_eq_true rfl, Nat.le_of_ble_eq_true rfl⟩ ⟨Nat.le_of_ble_eq_true rfl, Nat.le_of_ble_eq_true rfl⟩ rfl (Nat.le_of_ble_eq_true rfl) dL_law_594 (fun v140 s141 => ?_)
        refine k_aload_n h 2 dL_law_597 rfl rfl ?_
        refine k_aload_nS h 0 dL_law_598 rfl rfl ?_
        refine k_iload_n h 3 dL_law_599 rfl rfl ?_
        refine k_iconst (v := 1) h dL_law_600 (by decide) ?_
        refine k_iadd h dL_law_601 ?_
        refine k_alX h hX hbl hbA dL_law_602 (fun v142 => ?_)
        refine k_aload_nS h 0 dL_law_603 rfl rfl ?_
        refine k_iload_n h 3 dL_law_604 rfl rfl ?_
        refine k_iconst (v := 2) h dL_law_605 (by decide) ?_
        refine k_iadd h dL_law_606 ?_
        refine k_alX h hX hbl hbA dL_law_607 (fun v143 => ?_)
        refine k_callVI (As := [LI v142, LI v143]) (st := [LI v140]) (x0 := x6) (xg := fun a146 => mX9_of a146 v142 v143 s141) h (fun a146 => ctX9_of l B D cA sa a146 v142 v143 s141) calX9_of rfl (by decide) (mw17 21 rfl) (mw17 22 rfl) (Or.inl (mw17 20 rfl)) hgood ⟨rfl, rfl, Nat.le_of_ble_eq_true rfl, Nat.le_of_ble_eq_true rfl⟩ ⟨Nat.le_of_ble_eq_true rfl, Nat.le_of_ble_eq_true rfl⟩ rfl (Nat.le_of_ble_eq_true rfl) dL_law_608 (fun v144 s145 => ?_)
        refine k_icmp_eq (tgt := 1205) h dL_law_611 (by decide) ?_ ?_
        · refine k_iinc (w := (q11 + 6)) (lv' := [(3, LI (q11 + 6)), (0, LT 3), (1, LR x1), (2, LR x6)]) h 3 dL_law_1205 rfl rfl (by decide) rfl ?_
          refine k_goto (tgt := 18) h dL_law_1208 (by decide) ?_
          refine k_sub (lv' := [(0, LT 3), (1, LR x1), (2, LR x6), (3, LI (q11 + 6))]) h [1, 2, 3, 0] rfl ?_
          exact hr13 (q11 + 6) s145
        · refine k_iconst (v := 0) h dL_law_614 (by decide) ?_
          exact k_zret h rfl dL_law_615 (Nat.le_of_ble_eq_true rfl) (Nat.le_of_ble_eq_true rfl)
      · dsimp only
        refine k_aload_n h 1 dL_law_616 rfl rfl ?_
        refine k_aload_nS h 0 dL_law_617 rfl rfl ?_
        refine k_iload_n h 3 dL_law_618 rfl rfl ?_
        refine k_iconst (v := 1) h dL_law_619 (by decide) ?_
        refine k_iadd h dL_law_620 ?_
        refine k_alX h hX hbl hbA dL_law_621 (fun v148 => ?_)
        refine k_aload_nS h 0 dL_law_622 rfl rfl ?_
        refine k_iload_n h 3 dL_law_623 rfl rfl ?_
        refine k_iconst (v := 2) h dL_law_624 (by decide) ?_
        refine k_iadd h dL_law_625 ?_
        refine k_alX h hX hbl hbA dL_law_626 (fun v149 => ?_)
        refine k_aload_nS h 0 dL_law_627 rfl rfl ?_
        refine k_iload_n h 3 dL_law_628 rfl rfl ?_
        refine k_iconst (v := 3) h dL_law_629 (by decide) ?_
        refine k_iadd h dL_law_630 ?_
        refine k_alX h hX hbl hbA dL_law_631 (fun v150 => ?_)
        refine k_aload_nS h 0 dL_law_632 rfl rfl ?_
        refine k_iload_n h 3 dL_law_633 rfl rfl ?_
        refine k_iconst (v := 4) h dL_law_634 (by decide) ?_
        refine k_iadd h dL_law_635 ?_
        refine k_alX h hX hbl hbA dL_law_636 (fun v151 => ?_)
        refine k_aload_nS h 0 dL_law_637 rfl rfl ?_
        refine k_iload_n h 3 dL_law_638 rfl rfl ?_
        refine k_iconst (v := 5) h dL_law_639 (by decide) ?_
        refine k_iadd h dL_law_640 ?_
        refine k_alX h hX hbl hbA dL_law_641 (fun v152 => ?_)
        refine k_callVI (As := [LI v148, LI v149, LI v150, LI v151, LI v152]) (st := []) (x0 := x1) (xg := fun a163 => mX8_plane a163 v148 v149 v150 v151 v152 s12) h (fun a163 => ctX8_plane l B D cA sa a163 v148 v149 v150 v151 v152 s12) calX8_plane rfl (by decide) (mw18 5 rfl) (mw18 6 rfl) (Or.inl (mw18 4 rfl)) hgood ⟨rfl, rfl, Nat.le_of_ble_eq_true rfl, Nat.le_of_ble_eq_true rfl⟩ ⟨Nat.le_of_ble_eq_true rfl, Nat.le_of_ble_eq_true rfl⟩ rfl (Nat.le_of_ble_eq_true rfl) dL_law_642 (fun v153 s154 => ?_)
        refine k_aload_n h 2 dL_law_645 rfl rfl ?_
        refine k_aload_nS h 0 dL_law_646 rfl rfl ?_
        refine k_iload_n h 3 dL_law_647 rfl rfl ?_
        refine k_iconst (v := 1) h dL_law_648 (by decide) ?_
        refine k_iadd h dL_law_649 ?_
        refine k_alX h hX hbl hbA dL_law_650 (fun v155 => ?_)
        refine k_aload_nS h 0 dL_law_651 rfl rfl ?_
        refine k_iload_n h 3 dL_law_652 rfl rfl ?_
        refine k_iconst (v := 2) h dL_law_653 (by decide) ?_
        refine k_iadd h dL_law_654 ?_
        refine k_alX h hX hbl hbA dL_law_655 (fun v156 => ?_)
        refine k_aload_nS h 0 dL_law_656 rfl rfl ?_
        refine k_iload_n h 3 dL_law_657 rfl rfl ?_
        refine k_iconst (v := 3) h dL_law_658 (by decide) ?_
        refine k_iadd h dL_law_659 ?_
        refine k_alX h hX hbl hbA dL_law_660 (fun v157 => ?_)
        refine k_aload_nS h 0 dL_law_661 rfl rfl ?_
        refine k_iload_n h 3 dL_law_662 rfl rfl ?_
        refine k_iconst (v := 4) h dL_law_663 (by decide) ?_
        refine k_iadd h dL_law_664 ?_
        refine k_alX h hX hbl hbA dL_law_665 (fun v158 => ?_)
        refine k_aload_nS h 0 dL_law_666 rfl rfl ?_
        refine k_iload_n h 3 dL_law_667 rfl rfl ?_
        refine k_iconst (v := 5) h dL_law_668 (by decide) ?_
        refine k_iadd h dL_law_669 ?_
        refine k_alX h hX hbl hbA dL_law_670 (fun v159 => ?_)
        refine k_callVI (As := [LI v155, LI v156, LI v157, LI v158, LI v159]) (st := [LI v153]) (x0 := x6) (xg := fun a162 => mX9_plane a162 v155 v156 v157 v158 v159 s154) h (fun a162 => ctX9_plane l B D cA sa a162 v155 v156 v157 v158 v159 s154) calX9_plane rfl (by decide) (mw18 17 rfl) (mw18 18 rfl) (Or.inl (mw18 16 rfl)) hgood ⟨rfl, rfl, Nat.le_of_ble_eq_true rfl, Nat.le_of_ble_eq_true rfl⟩ ⟨Nat.le_of_ble_eq_true rfl, Nat.le_of_ble_eq_true rfl⟩ rfl (Nat.le_of_ble_eq_true rfl) dL_law_671 (fun v160 s161 => ?_)
        refine k_icmp_eq (tgt := 1205) h dL_law_674 (by decide) ?_ ?_
        · refine k_iinc (w := (q11 + 6)) (lv' := [(3, LI (q11 + 6)), (0, LT 3), (1, LR x1), (2, LR x6)]) h 3 dL_law_1205 rfl rfl (by decide) rfl ?_
          refine k_goto (tgt := 18) h dL_law_1208 (by decide) ?_
          refine k_sub (lv' := [(0, LT 3), (1, LR x1), (2, LR x6), (3, LI (q11 + 6))]) h [1, 2, 3, 0] rfl ?_
          exact hr13 (q11 + 6) s161
        · refine k_iconst (v := 0) h dL_law_677 (by decide) ?_
          exact k_zret h rfl dL_law_678 (Nat.le_of_ble_eq_true rfl) (Nat.le_of_ble_eq_true rfl)
      · dsimp only
        refine k_aload_n h 1 dL_law_679 rfl rfl ?_
        refine k_aload_nS h 0 dL_law_680 rfl rfl ?_
        refine k_iload_n h 3 dL_law_681 rfl rfl ?_
        refine k_iconst (v := 1) h dL_law_682 (by decide) ?_
        refine k_iadd h dL_law_683 ?_
        refine k_alX h hX hbl hbA dL_law_684 (fun v164 => ?_)
        refine k_aload_nS h 0 dL_law_685 rfl rfl ?_
        refine k_iload_n h 3 dL_law_686 rfl rfl ?_
        refine k_iconst (v := 2) h dL_law_687 (by decide) ?_
        refine k_iadd h dL_law_688 ?_
        refine k_alX h hX hbl hbA dL_law_689 (fun v165 => ?_)
        refine k_callVI (As := [LI v164, LI v165]) (st := []) (x0 := x1) (xg := fun a173 => mX8_rule a173 v164 v165 s12) h (fun a173 => ctX8_rule l B D cA sa a173 v164 v165 s12) calX8_rule rfl (by decide) (mw19 1 rfl) (mw19 2 rfl) (Or.inl (mw19 0 rfl)) hgood ⟨rfl, rfl, Nat.le_of_ble_eq_true rfl, Nat.le_of_ble_eq_true rfl⟩ ⟨Nat.le_of_ble_eq_true rfl, Nat.le_of_ble_eq_true rfl⟩ rfl (Nat.le_of_ble_eq_true rfl) dL_law_690 (fun v166 s167 => ?_)
        refine k_aload_n h 2 dL_law_693 rfl rfl ?_
        refine k_aload_nS h 0 dL_law_694 rfl rfl ?_
        refine k_iload_n h 3 dL_law_695 rfl rfl ?_
        refine k_iconst (v := 1) h dL_law_696 (by decide) ?_
        refine k_iadd h dL_law_697 ?_
        refine k_alX h hX hbl hbA dL_law_698 (fun v168 => ?_)
        refine k_aload_nS h 0 dL_law_699 rfl rfl ?_
        refine k_iload_n h 3 dL_law_700 rfl rfl ?_
        refine k_iconst (v := 2) h dL_law_701 (by decide) ?_
        refine k_iadd h dL_law_702 ?_
        refine k_alX h hX hbl hbA dL_law_703 (fun v169 => ?_)
        refine k_callVI (As := [LI v168, LI v169]) (st := [LI v166]) (x0 := x6) (xg := fun a172 => mX9_rule a172 v168 v169 s167) h (fun a172 => ctX9_rule l B D cA sa a172 v168 v169 s167) calX9_rule rfl (by decide) (mw19 6 rfl) (mw19 7 rfl) (Or.inl (mw19 5 rfl)) hgood ⟨rfl, rfl, Nat.le_of_ble_eq_true rfl, Nat.le_of_ble_eq_true rfl⟩ ⟨Nat.le_of_ble_eq_true rfl, Nat.le_of_ble_eq_true rfl⟩ rfl (Nat.le_of_ble_eq_true rfl) dL_law_704 (fun v170 s171 => ?_)
        refine k_icmp_eq (tgt := 1205) h dL_law_707 (by decide) ?_ ?_
        · refine k_iinc (w := (q11 + 6)) (lv' := [(3, LI (q11 + 6)), (0, LT 3), (1, LR x1), (2, LR x6)]) h 3 dL_law_1205 rfl rfl (by decide) rfl ?_
          refine k_goto (tgt := 18) h dL_law_1208 (by decide) ?_
          refine k_sub (lv' := [(0, LT 3), (1, LR x1), (2, LR x6), (3, LI (q11 + 6))]) h [1, 2, 3, 0] rfl ?_
          exact hr13 (q11 + 6) s171
        · refine k_iconst (v := 0) h dL_law_710 (by decide) ?_
          exact k_zret h rfl dL_law_711 (Nat.le_of_ble_eq_true rfl) (Nat.le_of_ble_eq_true rfl)
      · dsimp only
        refine k_aload_n h 1 dL_law_712 rfl rfl ?_
        refine k_aload_nS h 0 dL_law_713 rfl rfl ?_
        refine k_iload_n h 3 dL_law_714 rfl rfl ?_
        refine k_iconst (v := 1) h dL_law_715 (by decide) ?_
        refine k_iadd h dL_law_716 ?_
        refine k_alX h hX hbl hbA dL_law_717 (fun v174 => ?_)
        refine k_callVI (As := [LI v174]) (st := []) (x0 := x1) (xg := fun a181 => mX8_load a181 v174 s12) h (fun a181 => ctX8_load l B D cA sa a181 v174 s12) calX8_load rfl (by decide) (mw19 12 rfl) (mw19 13 rfl) (Or.inl (mw19 11 rfl)) hgood ⟨rfl, rfl, Nat.le_of_ble_eq_true rfl, Nat.le_of_ble_eq_true rfl⟩ ⟨Nat.le_of_ble_eq_true rfl, Nat.le_of_ble_eq_true rfl⟩ rfl (Nat.le_of_ble_eq_true rfl) dL_law_718 (fun v175 s176 => ?_)
        refine k_aload_n h 2 dL_law_721 rfl rfl ?_
        refine k_aload_nS h 0 dL_law_722 rfl rfl ?_
        refine k_iload_n h 3 dL_law_723 rfl rfl ?_
        refine k_iconst (v := 1) h dL_law_724 (by decide) ?_
        refine k_iadd h dL_law_725 ?_
        refine k_alX h hX hbl hbA dL_law_726 (fun v177 => ?_)
        refine k_callVI (As := [LI v177]) (st := [LI v175]) (x0 := x6) (xg := fun a180 => mX9_load a180 v177 s176) h (fun a180 => ctX9_load l B D cA sa a180 v177 s176) calX9_load rfl (by decide) (mw19 19 rfl) (mw19 20 rfl) (Or.inl (mw19 18 rfl)) hgood ⟨rfl, rfl, Nat.le_of_ble_eq_true rfl, Nat.le_of_ble_eq_true rfl⟩ ⟨Nat.le_of_ble_eq_true rfl, Nat.le_of_ble_eq_true rfl⟩ rfl (Nat.le_of_ble_eq_true rfl) dL_law_727 (fun v178 s179 => ?_)
        refine k_icmp_eq (tgt := 1205) h dL_law_730 (by decide) ?_ ?_
        · refine k_iinc (w := (q11 + 6)) (lv' := [(3, LI (q11 + 6)), (0, LT 3), (1, LR x1), (2, LR x6)]) h 3 dL_law_1205 rfl rfl (by decide) rfl ?_
          refine k_goto (tgt := 18) h dL_law_1208 (by decide) ?_
          refine k_sub (lv' := [(0, LT 3), (1, LR x1), (2, LR x6), (3, LI (q11 + 6))]) h [1, 2, 3, 0] rfl ?_
          exact hr13 (q11 + 6) s179
        · refine k_iconst (v := 0) h dL_law_733 (by decide) ?_
          exact k_zret h rfl dL_law_734 (Nat.le_of_ble_eq_true rfl) (Nat.le_of_ble_eq_true rfl)
      · dsimp only
        refine k_aload_n h 1 dL_law_735 rfl rfl ?_
        refine k_aload_nS h 0 dL_law_736 rfl rfl ?_
        refine k_iload_n h 3 dL_law_737 rfl rfl ?_
        refine k_iconst (v := 1) h dL_law_738 (by decide) ?_
        refine k_iadd h dL_law_739 ?_
        refine k_alX h hX hbl hbA dL_law_740 (fun v182 => ?_)
        refine k_aload_nS h 0 dL_law_741 rfl rfl ?_
        refine k_iload_n h 3 dL_law_742 rfl rfl ?_
        refine k_iconst (v := 2) h dL_law_743 (by decide) ?_
        refine k_iadd h dL_law_744 ?_
        refine k_alX h hX hbl hbA dL_law_745 (fun v183 => ?_)
        refine k_aload_nS h 0 dL_law_746 rfl rfl ?_
        refine k_iload_n h 3 dL_law_747 rfl rfl ?_
        refine k_iconst (v := 3) h dL_law_748 (by decide) ?_
        refine k_iadd h dL_law_749 ?_
        refine k_alX h hX hbl hbA dL_law_750 (fun v184 => ?_)
        refine k_callVI (As := [LI v182, LI v183, LI v184]) (st := []) (x0 := x1) (xg := fun a193 => mX8_put a193 v182 v183 v184 s12) h (fun a193 => ctX8_put l B D cA sa a193 v182 v183 v184 s12) calX8_put rfl (by decide) (mw19 23 rfl) (mw20 0 rfl) (Or.inl (mw19 22 rfl)) hgood ⟨rfl, rfl, Nat.le_of_ble_eq_true rfl, Nat.le_of_ble_eq_true rfl⟩ ⟨Nat.le_of_ble_eq_true rfl, Nat.le_of_ble_eq_true rfl⟩ rfl (Nat.le_of_ble_eq_true rfl) dL_law_751 (fun v185 s186 => ?_)
        refine k_aload_n h 2 dL_law_754 rfl rfl ?_
        refine k_aload_nS h 0 dL_law_755 rfl rfl ?_
        refine k_iload_n h 3 dL_law_756 rfl rfl ?_
        refine k_iconst (v := 1) h dL_law_757 (by decide) ?_
        refine k_iadd h dL_law_758 ?_
        refine k_alX h hX hbl hbA dL_law_759 (fun v187 => ?_)
        refine k_aload_nS h 0 dL_law_760 rfl rfl ?_
        refine k_iload_n h 3 dL_law_761 rfl rfl ?_
        refine k_iconst (v := 2) h dL_law_762 (by decide) ?_
        refine k_iadd h dL_law_763 ?_
        refine k_alX h hX hbl hbA dL_law_764 (fun v188 => ?_)
        refine k_aload_nS h 0 dL_law_765 rfl rfl ?_
        refine k_iload_n h 3 dL_law_766 rfl rfl ?_
        refine k_iconst (v := 3) h dL_law_767 (by decide) ?_
        refine k_iadd h dL_law_768 ?_
        refine k_alX h hX hbl hbA dL_law_769 (fun v189 => ?_)
        refine k_callVI (As := [LI v187, LI v188, LI v189]) (st := [LI v185]) (x0 := x6) (xg := fun a192 => mX9_put a192 v187 v188 v189 s186) h (fun a192 => ctX9_put l B D cA sa a192 v187 v188 v189 s186) calX9_put rfl (by decide) (mw20 13 rfl) (mw20 14 rfl) (Or.inl (mw20 12 rfl)) hgood ⟨rfl, rfl, Nat.le_of_ble_eq_true rfl, Nat.le_of_ble_eq_true rfl⟩ ⟨Nat.le_of_ble_eq_true rfl, Nat.le_of_ble_eq_true rfl⟩ rfl (Nat.le_of_ble_eq_true rfl) dL_law_770 (fun v190 s191 => ?_)
        refine k_icmp_eq (tgt := 1205) h dL_law_773 (by decide) ?_ ?_
        · refine k_iinc (w := (q11 + 6)) (lv' := [(3, LI (q11 + 6)), (0, LT 3), (1, LR x1), (2, LR x6)]) h 3 dL_law_1205 rfl rfl (by decide) rfl ?_
          refine k_goto (tgt := 18) h dL_law_1208 (by decide) ?_
          refine k_sub (lv' := [(0, LT 3), (1, LR x1), (2, LR x6), (3, LI (q11 + 6))]) h [1, 2, 3, 0] rfl ?_
          exact hr13 (q11 + 6) s191
        · refine k_iconst (v := 0) h dL_law_776 (by decide) ?_
          exact k_zret h rfl dL_law_777 (Nat.le_of_ble_eq_true rfl) (Nat.le_of_ble_eq_true rfl)
      · dsimp only
        refine k_aload_n h 1 dL_law_778 rfl rfl ?_
        refine k_aload_nS h 0 dL_law_779 rfl rfl ?_
        refine k_iload_n h 3 dL_law_780 rfl rfl ?_
        refine k_iconst (v := 1) h dL_law_781 (by decide) ?_
        refine k_iadd h dL_law_782 ?_
        refine k_alX h hX hbl hbA dL_law_783 (fun v194 => ?_)
        refine k_aload_nS h 0 dL_law_784 rfl rfl ?_
        refine k_iload_n h 3 dL_law_785 rfl rfl ?_
        refine k_iconst (v := 2) h dL_law_786 (by decide) ?_
        refine k_iadd h dL_law_787 ?_
        refine k_alX h hX hbl hbA dL_law_788 (fun v195 => ?_)
        refine k_callVI (As := [LI v194, LI v195]) (st := []) (x0 := x1) (xg := fun a203 => mX8_out a203 v194 v195 s12) h (fun a203 => ctX8_out l B D cA sa a203 v194 v195 s12) calX8_out rfl (by decide) (mw20 22 rfl) (mw20 23 rfl) (Or.inl (mw20 21 rfl)) hgood ⟨rfl, rfl, Nat.le_of_ble_eq_true rfl, Nat.le_of_ble_eq_true rfl⟩ ⟨Nat.le_of_ble_eq_true rfl, Nat.le_of_ble_eq_true rfl⟩ rfl (Nat.le_of_ble_eq_true rfl) dL_law_789 (fun v196 s197 => ?_)
        refine k_aload_n h 2 dL_law_792 rfl rfl ?_
        refine k_aload_nS h 0 dL_law_793 rfl rfl ?_
        refine k_iload_n h 3 dL_law_794 rfl rfl ?_
        refine k_iconst (v := 1) h dL_law_795 (by decide) ?_
        refine k_iadd h dL_law_796 ?_
        refine k_alX h hX hbl hbA dL_law_797 (fun v198 => ?_)
        refine k_aload_nS h 0 dL_law_798 rfl rfl ?_
        refine k_iload_n h 3 dL_law_799 rfl rfl ?_
        refine k_iconst (v := 2) h dL_law_800 (by decide) ?_
        refine k_iadd h dL_law_801 ?_
        refine k_alX h hX hbl hbA dL_law_802 (fun v199 => ?_)
        refine k_callVI (As := [LI v198, LI v199]) (st := [LI v196]) (x0 := x6) (xg := fun a202 => mX9_out a202 v198 v199 s197) h (fun a202 => ctX9_out l B D cA sa a202 v198 v199 s197) calX9_out rfl (by decide) (mw21 9 rfl) (mw21 10 rfl) (Or.inl (mw21 8 rfl)) hgood ⟨rfl, rfl, Nat.le_of_ble_eq_true rfl, Nat.le_of_ble_eq_true rfl⟩ ⟨Nat.le_of_ble_eq_true rfl, Nat.le_of_ble_eq_true rfl⟩ rfl (Nat.le_of_ble_eq_true rfl) dL_law_803 (fun v200 s201 => ?_)
        refine k_icmp_eq (tgt := 1205) h dL_law_806 (by decide) ?_ ?_
        · refine k_iinc (w := (q11 + 6)) (lv' := [(3, LI (q11 + 6)), (0, LT 3), (1, LR x1), (2, LR x6)]) h 3 dL_law_1205 rfl rfl (by decide) rfl ?_
          refine k_goto (tgt := 18) h dL_law_1208 (by decide) ?_
          refine k_sub (lv' := [(0, LT 3), (1, LR x1), (2, LR x6), (3, LI (q11 + 6))]) h [1, 2, 3, 0] rfl ?_
          exact hr13 (q11 + 6) s201
        · refine k_iconst (v := 0) h dL_law_809 (by decide) ?_
          exact k_zret h rfl dL_law_810 (Nat.le_of_ble_eq_true rfl) (Nat.le_of_ble_eq_true rfl)
      · dsimp only
        refine k_aload_n h 1 dL_law_811 rfl rfl ?_
        refine k_aload_nS h 0 dL_law_812 rfl rfl ?_
        refine k_iload_n h 3 dL_law_813 rfl rfl ?_
        refine k_iconst (v := 1) h dL_law_814 (by decide) ?_
        refine k_iadd h dL_law_815 ?_
        refine k_alX h hX hbl hbA dL_law_816 (fun v204 => ?_)
        refine k_aload_nS h 0 dL_law_817 rfl rfl ?_
        refine k_iload_n h 3 dL_law_818 rfl rfl ?_
        refine k_iconst (v := 2) h dL_law_819 (by decide) ?_
        refine k_iadd h dL_law_820 ?_
        refine k_alX h hX hbl hbA dL_law_821 (fun v205 => ?_)
        refine k_aload_nS h 0 dL_law_822 rfl rfl ?_
        refine k_iload_n h 3 dL_law_823 rfl rfl ?_
        refine k_iconst (v := 3) h dL_law_824 (by decide) ?_
        refine k_iadd h dL_law_825 ?_
        refine k_alX h hX hbl hbA dL_law_826 (fun v206 => ?_)
        refine k_callVI (As := [LI v204, LI v205, LI v206]) (st := []) (x0 := x1) (xg := fun a215 => mX8_pause a215 v204 v205 v206 s12) h (fun a215 => ctX8_pause l B D cA sa a215 v204 v205 v206 s12) calX8_pause rfl (by decide) (mw21 17 rfl) (mw21 18 rfl) (Or.inl (mw21 16 rfl)) hgood ⟨rfl, rfl, Nat.le_of_ble_eq_true rfl, Nat.le_of_ble_eq_true rfl⟩ ⟨Nat.le_of_ble_eq_true rfl, Nat.le_of_ble_eq_true rfl⟩ rfl (Nat.le_of_ble_eq_true rfl) dL_law_827 (fun v207 s208 => ?_)
        refine k_aload_n h 2 dL_law_830 rfl rfl ?_
        refine k_aload_nS h 0 dL_law_831 rfl rfl ?_
        refine k_iload_n h 3 dL_law_832 rfl rfl ?_
        refine k_iconst (v := 1) h dL_law_833 (by decide) ?_
        refine k_iadd h dL_law_834 ?_
        refine k_alX h hX hbl hbA dL_law_835 (fun v209 => ?_)
        refine k_aload_nS h 0 dL_law_836 rfl rfl ?_
        refine k_iload_n h 3 dL_law_837 rfl rfl ?_
        refine k_iconst (v := 2) h dL_law_838 (by decide) ?_
        refine k_iadd h dL_law_839 ?_
        refine k_alX h hX hbl hbA dL_law_840 (fun v210 => ?_)
        refine k_aload_nS h 0 dL_law_841 rfl rfl ?_
        refine k_iload_n h 3 dL_law_842 rfl rfl ?_
        refine k_iconst (v := 3) h dL_law_843 (by decide) ?_
        refine k_iadd h dL_law_844 ?_
        refine k_alX h hX hbl hbA dL_law_845 (fun v211 => ?_)
        refine k_callVI (As := [LI v209, LI v210, LI v211]) (st := [LI v207]) (x0 := x6) (xg := fun a214 => mX9_pause a214 v209 v210 v211 s208) h (fun a214 => ctX9_pause l B D cA sa a214 v209 v210 v211 s208) calX9_pause rfl (by decide) (mw21 21 rfl) (mw21 22 rfl) (Or.inl (mw21 20 rfl)) hgood ⟨rfl, rfl, Nat.le_of_ble_eq_true rfl, Nat.le_of_ble_eq_true rfl⟩ ⟨Nat.le_of_ble_eq_true rfl, Nat.le_of_ble_eq_true rfl⟩ rfl (Nat.le_of_ble_eq_true rfl) dL_law_846 (fun v212 s213 => ?_)
        refine k_icmp_eq (tgt := 1205) h dL_law_849 (by decide) ?_ ?_
        · refine k_iinc (w := (q11 + 6)) (lv' := [(3, LI (q11 + 6)), (0, LT 3), (1, LR x1), (2, LR x6)]) h 3 dL_law_1205 rfl rfl (by decide) rfl ?_
          refine k_goto (tgt := 18) h dL_law_1208 (by decide) ?_
          refine k_sub (lv' := [(0, LT 3), (1, LR x1), (2, LR x6), (3, LI (q11 + 6))]) h [1, 2, 3, 0] rfl ?_
          exact hr13 (q11 + 6) s213
        · refine k_iconst (v := 0) h dL_law_852 (by decide) ?_
          exact k_zret h rfl dL_law_853 (Nat.le_of_ble_eq_true rfl) (Nat.le_of_ble_eq_true rfl)
      · dsimp only
        refine k_aload_n h 1 dL_law_854 rfl rfl ?_
        refine k_aload_nS h 0 dL_law_855 rfl rfl ?_
        refine k_iload_n h 3 dL_law_856 rfl rfl ?_
        refine k_iconst (v := 1) h dL_law_857 (by decide) ?_
        refine k_iadd h dL_law_858 ?_
        refine k_alX h hX hbl hbA dL_law_859 (fun v216 => ?_)
        refine k_aload_nS h 0 dL_law_860 rfl rfl ?_
        refine k_iload_n h 3 dL_law_861 rfl rfl ?_
        refine k_iconst (v := 2) h dL_law_862 (by decide) ?_
        refine k_iadd h dL_law_863 ?_
        refine k_alX h hX hbl hbA dL_law_864 (fun v217 => ?_)
        refine k_callVI (As := [LI v216, LI v217]) (st := []) (x0 := x1) (xg := fun a225 => mX8_start a225 v216 v217 s12) h (fun a225 => ctX8_start l B D cA sa a225 v216 v217 s12) calX8_start rfl (by decide) (mw22 1 rfl) (mw22 2 rfl) (Or.inl (mw22 0 rfl)) hgood ⟨rfl, rfl, Nat.le_of_ble_eq_true rfl, Nat.le_of_ble_eq_true rfl⟩ ⟨Nat.le_of_ble_eq_true rfl, Nat.le_of_ble_eq_true rfl⟩ rfl (Nat.le_of_ble_eq_true rfl) dL_law_865 (fun v218 s219 => ?_)
        refine k_aload_n h 2 dL_law_868 rfl rfl ?_
        refine k_aload_nS h 0 dL_law_869 rfl rfl ?_
        refine k_iload_n h 3 dL_law_870 rfl rfl ?_
        refine k_iconst (v := 1) h dL_law_871 (by decide) ?_
        refine k_iadd h dL_law_872 ?_
        refine k_alX h hX hbl hbA dL_law_873 (fun v220 => ?_)
        refine k_aload_nS h 0 dL_law_874 rfl rfl ?_
        refine k_iload_n h 3 dL_law_875 rfl rfl ?_
        refine k_iconst (v := 2) h dL_law_876 (by decide) ?_
        refine k_iadd h dL_law_877 ?_
        refine k_alX h hX hbl hbA dL_law_878 (fun v221 => ?_)
        refine k_callVI (As := [LI v220, LI v221]) (st := [LI v218]) (x0 := x6) (xg := fun a224 => mX9_start a224 v220 v221 s219) h (fun a224 => ctX9_start l B D cA sa a224 v220 v221 s219) calX9_start rfl (by decide) (mw22 7 rfl) (mw22 8 rfl) (Or.inl (mw22 6 rfl)) hgood ⟨rfl, rfl, Nat.le_of_ble_eq_true rfl, Nat.le_of_ble_eq_true rfl⟩ ⟨Nat.le_of_ble_eq_true rfl, Nat.le_of_ble_eq_true rfl⟩ rfl (Nat.le_of_ble_eq_true rfl) dL_law_879 (fun v222 s223 => ?_)
        refine k_icmp_eq (tgt := 1205) h dL_law_882 (by decide) ?_ ?_
        · refine k_iinc (w := (q11 + 6)) (lv' := [(3, LI (q11 + 6)), (0, LT 3), (1, LR x1), (2, LR x6)]) h 3 dL_law_1205 rfl rfl (by decide) rfl ?_
          refine k_goto (tgt := 18) h dL_law_1208 (by decide) ?_
          refine k_sub (lv' := [(0, LT 3), (1, LR x1), (2, LR x6), (3, LI (q11 + 6))]) h [1, 2, 3, 0] rfl ?_
          exact hr13 (q11 + 6) s223
        · refine k_iconst (v := 0) h dL_law_885 (by decide) ?_
          exact k_zret h rfl dL_law_886 (Nat.le_of_ble_eq_true rfl) (Nat.le_of_ble_eq_true rfl)
      · dsimp only
        refine k_aload_n h 1 dL_law_887 rfl rfl ?_
        refine k_aload_nS h 0 dL_law_888 rfl rfl ?_
        refine k_iload_n h 3 dL_law_889 rfl rfl ?_
        refine k_iconst (v := 1) h dL_law_890 (by decide) ?_
        refine k_iadd h dL_law_891 ?_
        refine k_alX h hX hbl hbA dL_law_892 (fun v226 => ?_)
        refine k_aload_nS h 0 dL_law_893 rfl rfl ?_
        refine k_iload_n h 3 dL_law_894 rfl rfl ?_
        refine k_iconst (v := 2) h dL_law_895 (by decide) ?_
        refine k_iadd h dL_law_896 ?_
        refine k_alX h hX hbl hbA dL_law_897 (fun v227 => ?_)
        refine k_callVI (As := [LI v226, LI v227]) (st := []) (x0 := x1) (xg := fun a235 => mX8_in a235 v226 v227 s12) h (fun a235 => ctX8_in l B D cA sa a235 v226 v227 s12) calX8_in rfl (by decide) (mw22 13 rfl) (mw22 14 rfl) (Or.inl (mw22 12 rfl)) hgood ⟨rfl, rfl, Nat.le_of_ble_eq_true rfl, Nat.le_of_ble_eq_true rfl⟩ ⟨Nat.le_of_ble_eq_true rfl, Nat.le_of_ble_eq_true rfl⟩ rfl (Nat.le_of_ble_eq_true rfl) dL_law_898 (fun v228 s229 => ?_)
        refine k_aload_n h 2 dL_law_901 rfl rfl ?_
        refine k_aload_nS h 0 dL_law_902 rfl rfl ?_
        refine k_iload_n h 3 dL_law_903 rfl rfl ?_
        refine k_iconst (v := 1) h dL_law_904 (by decide) ?_
        refine k_iadd h dL_law_905 ?_
        refine k_alX h hX hbl hbA dL_law_906 (fun v230 => ?_)
        refine k_aload_nS h 0 dL_law_907 rfl rfl ?_
        refine k_iload_n h 3 dL_law_908 rfl rfl ?_
        refine k_iconst (v := 2) h dL_law_909 (by decide) ?_
        refine k_iadd h dL_law_910 ?_
        refine k_alX h hX hbl hbA dL_law_911 (fun v231 => ?_)
        refine k_callVI (As := [LI v230, LI v231]) (st := [LI v228]) (x0 := x6) (xg := fun a234 => mX9_in_ a234 v230 v231 s229) h (fun a234 => ctX9_in_ l B D cA sa a234 v230 v231 s229) calX9_in_ rfl (by decide) (mw23 4 rfl) (mw23 5 rfl) (Or.inl (mw23 3 rfl)) hgood ⟨rfl, rfl, Nat.le_of_ble_eq_true rfl, Nat.le_of_ble_eq_true rfl⟩ ⟨Nat.le_of_ble_eq_true rfl, Nat.le_of_ble_eq_true rfl⟩ rfl (Nat.le_of_ble_eq_true rfl) dL_law_912 (fun v232 s233 => ?_)
        refine k_icmp_eq (tgt := 1205) h dL_law_915 (by decide) ?_ ?_
        · refine k_iinc (w := (q11 + 6)) (lv' := [(3, LI (q11 + 6)), (0, LT 3), (1, LR x1), (2, LR x6)]) h 3 dL_law_1205 rfl rfl (by decide) rfl ?_
          refine k_goto (tgt := 18) h dL_law_1208 (by decide) ?_
          refine k_sub (lv' := [(0, LT 3), (1, LR x1), (2, LR x6), (3, LI (q11 + 6))]) h [1, 2, 3, 0] rfl ?_
          exact hr13 (q11 + 6) s233
        · refine k_iconst (v := 0) h dL_law_918 (by decide) ?_
          exact k_zret h rfl dL_law_919 (Nat.le_of_ble_eq_true rfl) (Nat.le_of_ble_eq_true rfl)
      · dsimp only
        refine k_aload_n h 1 dL_law_920 rfl rfl ?_
        refine k_aload_nS h 0 dL_law_921 rfl rfl ?_
        refine k_iload_n h 3 dL_law_922 rfl rfl ?_
        refine k_iconst (v := 1) h dL_law_923 (by decide) ?_
        refine k_iadd h dL_law_924 ?_
        refine k_alX h hX hbl hbA dL_law_925 (fun v236 => ?_)
        refine k_aload_nS h 0 dL_law_926 rfl rfl ?_
        refine k_iload_n h 3 dL_law_927 rfl rfl ?_
        refine k_iconst (v := 2) h dL_law_928 (by decide) ?_
        refine k_iadd h dL_law_929 ?_
        refine k_alX h hX hbl hbA dL_law_930 (fun v237 => ?_)
        refine k_aload_nS h 0 dL_law_931 rfl rfl ?_
        refine k_iload_n h 3 dL_law_932 rfl rfl ?_
        refine k_iconst (v := 3) h dL_law_933 (by decide) ?_
        refine k_iadd h dL_law_934 ?_
        refine k_alX h hX hbl hbA dL_law_935 (fun v238 => ?_)
        refine k_aload_nS h 0 dL_law_936 rfl rfl ?_
        refine k_iload_n h 3 dL_law_937 rfl rfl ?_
        refine k_iconst (v := 4) h dL_law_938 (by decide) ?_
        refine k_iadd h dL_law_939 ?_
        refine k_alX h hX hbl hbA dL_law_940 (fun v239 => ?_)
        refine k_callVI (As := [LI v236, LI v237, LI v238, LI v239]) (st := []) (x0 := x1) (xg := fun a249 => mX8_where a249 v236 v237 v238 v239 s12) h (fun a249 => ctX8_where l B D cA sa a249 v236 v237 v238 v239 s12) calX8_where rfl (by decide) (mw23 12 rfl) (mw23 13 rfl) (Or.inl (mw23 11 rfl)) hgood ⟨rfl, rfl, Nat.le_of_ble_eq_true rfl, Nat.le_of_ble_eq_true rfl⟩ ⟨Nat.le_of_ble_eq_true rfl, Nat.le_of_ble_eq_true rfl⟩ rfl (Nat.le_of_ble_eq_true rfl) dL_law_941 (fun v240 s241 => ?_)
        refine k_aload_n h 2 dL_law_944 rfl rfl ?_
        refine k_aload_nS h 0 dL_law_945 rfl rfl ?_
        refine k_iload_n h 3 dL_law_946 rfl rfl ?_
        refine k_iconst (v := 1) h dL_law_947 (by decide) ?_
        refine k_iadd h dL_law_948 ?_
        refine k_alX h hX hbl hbA dL_law_949 (fun v242 => ?_)
        refine k_aload_nS h 0 dL_law_950 rfl rfl ?_
        refine k_iload_n h 3 dL_law_951 rfl rfl ?_
        refine k_iconst (v := 2) h dL_law_952 (by decide) ?_
        refine k_iadd h dL_law_953 ?_
        refine k_alX h hX hbl hbA dL_law_954 (fun v243 => ?_)
        refine k_aload_nS h 0 dL_law_955 rfl rfl ?_
        refine k_iload_n h 3 dL_law_956 rfl rfl ?_
        refine k_iconst (v := 3) h dL_law_957 (by decide) ?_
        refine k_iadd h dL_law_958 ?_
        refine k_alX h hX hbl hbA dL_law_959 (fun v244 => ?_)
        refine k_aload_nS h 0 dL_law_960 rfl rfl ?_
        refine k_iload_n h 3 dL_law_961 rfl rfl ?_
        refine k_iconst (v := 4) h dL_law_962 (by decide) ?_
        refine k_iadd h dL_law_963 ?_
        refine k_alX h hX hbl hbA dL_law_964 (fun v245 => ?_)
        refine k_callVI (As := [LI v242, LI v243, LI v244, LI v245]) (st := [LI v240]) (x0 := x6) (xg := fun a248 => mX9_where a248 v242 v243 v244 v245 s241) h (fun a248 => ctX9_where l B D cA sa a248 v242 v243 v244 v245 s241) calX9_where rfl (by decide) (mw25 0 rfl) (mw25 1 rfl) (Or.inl (mw24 23 rfl)) hgood ⟨rfl, rfl, Nat.le_of_ble_eq_true rfl, Nat.le_of_ble_eq_true rfl⟩ ⟨Nat.le_of_ble_eq_true rfl, Nat.le_of_ble_eq_true rfl⟩ rfl (Nat.le_of_ble_eq_true rfl) dL_law_965 (fun v246 s247 => ?_)
        refine k_icmp_eq (tgt := 1205) h dL_law_968 (by decide) ?_ ?_
        · refine k_iinc (w := (q11 + 6)) (lv' := [(3, LI (q11 + 6)), (0, LT 3), (1, LR x1), (2, LR x6)]) h 3 dL_law_1205 rfl rfl (by decide) rfl ?_
          refine k_goto (tgt := 18) h dL_law_1208 (by decide) ?_
          refine k_sub (lv' := [(0, LT 3), (1, LR x1), (2, LR x6), (3, LI (q11 + 6))]) h [1, 2, 3, 0] rfl ?_
          exact hr13 (q11 + 6) s247
        · refine k_iconst (v := 0) h dL_law_971 (by decide) ?_
          exact k_zret h rfl dL_law_972 (Nat.le_of_ble_eq_true rfl) (Nat.le_of_ble_eq_true rfl)
      · dsimp only
        refine k_aload_n h 1 dL_law_973 rfl rfl ?_
        refine k_aload_nS h 0 dL_law_974 rfl rfl ?_
        refine k_iload_n h 3 dL_law_975 rfl rfl ?_
        refine k_iconst (v := 1) h dL_law_976 (by decide) ?_
        refine k_iadd h dL_law_977 ?_
        refine k_alX h hX hbl hbA dL_law_978 (fun v250 => ?_)
        refine k_aload_nS h 0 dL_law_979 rfl rfl ?_
        refine k_iload_n h 3 dL_law_980 rfl rfl ?_
        refine k_iconst (v := 2) h dL_law_981 (by decide) ?_
        refine k_iadd h dL_law_982 ?_
        refine k_alX h hX hbl hbA dL_law_983 (fun v251 => ?_)
        refine k_aload_nS h 0 dL_law_984 rfl rfl ?_
        refine k_iload_n h 3 dL_law_985 rfl rfl ?_
        refine k_iconst (v := 3) h dL_law_986 (by decide) ?_
        refine k_iadd h dL_law_987 ?_
        refine k_alX h hX hbl hbA dL_law_988 (fun v252 => ?_)
        refine k_callVL (As := [LI v250, LI v251, LI v252]) (st := []) (x0 := x1) (xg := fun a261 => mX8_near a261 v250 v251 v252 s12) h (fun a261 => ctX8_near l B D cA sa a261 v250 v251 v252 s12) calX8_near rfl (by decide) (mw26 2 rfl) (mw26 3 rfl) (Or.inl (mw26 1 rfl)) hgood ⟨rfl, rfl, Nat.le_of_ble_eq_true rfl, Nat.le_of_ble_eq_true rfl⟩ ⟨Nat.le_of_ble_eq_true rfl, Nat.le_of_ble_eq_true rfl⟩ rfl (Nat.le_of_ble_eq_true rfl) dL_law_989 (fun v253 s254 => ?_)
        refine k_aload_n h 2 dL_law_992 rfl rfl ?_
        refine k_aload_nS h 0 dL_law_993 rfl rfl ?_
        refine k_iload_n h 3 dL_law_994 rfl rfl ?_
        refine k_iconst (v := 1) h dL_law_995 (by decide) ?_
        refine k_iadd h dL_law_996 ?_
        refine k_alX h hX hbl hbA dL_law_997 (fun v255 => ?_)
        refine k_aload_nS h 0 dL_law_998 rfl rfl ?_
        refine k_iload_n h 3 dL_law_999 rfl rfl ?_
        refine k_iconst (v := 2) h dL_law_1000 (by decide) ?_
        refine k_iadd h dL_law_1001 ?_
        refine k_alX h hX hbl hbA dL_law_1002 (fun v256 => ?_)
        refine k_aload_nS h 0 dL_law_1003 rfl rfl ?_
        refine k_iload_n h 3 dL_law_1004 rfl rfl ?_
        refine k_iconst (v := 3) h dL_law_1005 (by decide) ?_
        refine k_iadd h dL_law_1006 ?_
        refine k_alX h hX hbl hbA dL_law_1007 (fun v257 => ?_)
        refine k_callVL (As := [LI v255, LI v256, LI v257]) (st := [LL v253]) (x0 := x6) (xg := fun a260 => mX9_near a260 v255 v256 v257 s254) h (fun a260 => ctX9_near l B D cA sa a260 v255 v256 v257 s254) calX9_near rfl (by decide) (mw26 16 rfl) (mw26 17 rfl) (Or.inl (mw26 15 rfl)) hgood ⟨rfl, rfl, Nat.le_of_ble_eq_true rfl, Nat.le_of_ble_eq_true rfl⟩ ⟨Nat.le_of_ble_eq_true rfl, Nat.le_of_ble_eq_true rfl⟩ rfl (Nat.le_of_ble_eq_true rfl) dL_law_1008 (fun v258 s259 => ?_)
        refine k_lcmp h dL_law_1011 ?_
        refine k_if_eq (tgt := 1205) h dL_law_1012 (by decide) ?_ ?_
        · refine k_iinc (w := (q11 + 6)) (lv' := [(3, LI (q11 + 6)), (0, LT 3), (1, LR x1), (2, LR x6)]) h 3 dL_law_1205 rfl rfl (by decide) rfl ?_
          refine k_goto (tgt := 18) h dL_law_1208 (by decide) ?_
          refine k_sub (lv' := [(0, LT 3), (1, LR x1), (2, LR x6), (3, LI (q11 + 6))]) h [1, 2, 3, 0] rfl ?_
          exact hr13 (q11 + 6) s259
        · refine k_iconst (v := 0) h dL_law_1015 (by decide) ?_
          exact k_zret h rfl dL_law_1016 (Nat.le_of_ble_eq_true rfl) (Nat.le_of_ble_eq_true rfl)
      · dsimp only
        refine k_aload_n h 1 dL_law_1017 rfl rfl ?_
        refine k_aload_nS h 0 dL_law_1018 rfl rfl ?_
        refine k_iload_n h 3 dL_law_1019 rfl rfl ?_
        refine k_iconst (v := 1) h dL_law_1020 (by decide) ?_
        refine k_iadd h dL_law_1021 ?_
        refine k_alX h hX hbl hbA dL_law_1022 (fun v262 => ?_)
        refine k_aload_nS h 0 dL_law_1023 rfl rfl ?_
        refine k_iload_n h 3 dL_law_1024 rfl rfl ?_
        refine k_iconst (v := 2) h dL_law_1025 (by decide) ?_
        refine k_iadd h dL_law_1026 ?_
        refine k_alX h hX hbl hbA dL_law_1027 (fun v263 => ?_)
        refine k_aload_nS h 0 dL_law_1028 rfl rfl ?_
        refine k_iload_n h 3 dL_law_1029 rfl rfl ?_
        refine k_iconst (v := 3) h dL_law_1030 (by decide) ?_
        refine k_iadd h dL_law_1031 ?_
        refine k_alX h hX hbl hbA dL_law_1032 (fun v264 => ?_)
        refine k_callVI (As := [LI v262, LI v263, LI v264]) (st := []) (x0 := x1) (xg := fun a273 => mX8_between a273 v262 v263 v264 s12) h (fun a273 => ctX8_between l B D cA sa a273 v262 v263 v264 s12) calX8_between rfl (by decide) (mw27 6 rfl) (mw27 7 rfl) (Or.inl (mw27 5 rfl)) hgood ⟨rfl, rfl, Nat.le_of_ble_eq_true rfl, Nat.le_of_ble_eq_true rfl⟩ ⟨Nat.le_of_ble_eq_true rfl, Nat.le_of_ble_eq_true rfl⟩ rfl (Nat.le_of_ble_eq_true rfl) dL_law_1033 (fun v265 s266 => ?_)
        refine k_aload_n h 2 dL_law_1036 rfl rfl ?_
        refine k_aload_nS h 0 dL_law_1037 rfl rfl ?_
        refine k_iload_n h 3 dL_law_1038 rfl rfl ?_
        refine k_iconst (v := 1) h dL_law_1039 (by decide) ?_
        refine k_iadd h dL_law_1040 ?_
        refine k_alX h hX hbl hbA dL_law_1041 (fun v267 => ?_)
        refine k_aload_nS h 0 dL_law_1042 rfl rfl ?_
        refine k_iload_n h 3 dL_law_1043 rfl rfl ?_
        refine k_iconst (v := 2) h dL_law_1044 (by decide) ?_
        refine k_iadd h dL_law_1045 ?_
        refine k_alX h hX hbl hbA dL_law_1046 (fun v268 => ?_)
        refine k_aload_nS h 0 dL_law_1047 rfl rfl ?_
        refine k_iload_n h 3 dL_law_1048 rfl rfl ?_
        refine k_iconst (v := 3) h dL_law_1049 (by decide) ?_
        refine k_iadd h dL_law_1050 ?_
        refine k_alX h hX hbl hbA dL_law_1051 (fun v269 => ?_)
        refine k_callVI (As := [LI v267, LI v268, LI v269]) (st := [LI v265]) (x0 := x6) (xg := fun a272 => mX9_between a272 v267 v268 v269 s266) h (fun a272 => ctX9_between l B D cA sa a272 v267 v268 v269 s266) calX9_between rfl (by decide) (mw27 18 rfl) (mw27 19 rfl) (Or.inl (mw27 17 rfl)) hgood ⟨rfl, rfl, Nat.le_of_ble_eq_true rfl, Nat.le_of_ble_eq_true rfl⟩ ⟨Nat.le_of_ble_eq_true rfl, Nat.le_of_ble_eq_true rfl⟩ rfl (Nat.le_of_ble_eq_true rfl) dL_law_1052 (fun v270 s271 => ?_)
        refine k_icmp_eq (tgt := 1205) h dL_law_1055 (by decide) ?_ ?_
        · refine k_iinc (w := (q11 + 6)) (lv' := [(3, LI (q11 + 6)), (0, LT 3), (1, LR x1), (2, LR x6)]) h 3 dL_law_1205 rfl rfl (by decide) rfl ?_
          refine k_goto (tgt := 18) h dL_law_1208 (by decide) ?_
          refine k_sub (lv' := [(0, LT 3), (1, LR x1), (2, LR x6), (3, LI (q11 + 6))]) h [1, 2, 3, 0] rfl ?_
          exact hr13 (q11 + 6) s271
        · refine k_iconst (v := 0) h dL_law_1058 (by decide) ?_
          exact k_zret h rfl dL_law_1059 (Nat.le_of_ble_eq_true rfl) (Nat.le_of_ble_eq_true rfl)
      · dsimp only
        refine k_aload_n h 1 dL_law_1060 rfl rfl ?_
        refine k_aload_nS h 0 dL_law_1061 rfl rfl ?_
        refine k_iload_n h 3 dL_law_1062 rfl rfl ?_
        refine k_iconst (v := 1) h dL_law_1063 (by decide) ?_
        refine k_iadd h dL_law_1064 ?_
        refine k_alX h hX hbl hbA dL_law_1065 (fun v274 => ?_)
        refine k_callVI (As := [LI v274]) (st := []) (x0 := x1) (xg := fun a281 => mX8_order a281 v274 s12) h (fun a281 => ctX8_order l B D cA sa a281 v274 s12) calX8_order rfl (by decide) (mw28 6 rfl) (mw28 7 rfl) (Or.inl (mw28 5 rfl)) hgood ⟨rfl, rfl, Nat.le_of_ble_eq_true rfl, Nat.le_of_ble_eq_true rfl⟩ ⟨Nat.le_of_ble_eq_true rfl, Nat.le_of_ble_eq_true rfl⟩ rfl (Nat.le_of_ble_eq_true rfl) dL_law_1066 (fun v275 s276 => ?_)
        refine k_aload_n h 2 dL_law_1069 rfl rfl ?_
        refine k_aload_nS h 0 dL_law_1070 rfl rfl ?_
        refine k_iload_n h 3 dL_law_1071 rfl rfl ?_
        refine k_iconst (v := 1) h dL_law_1072 (by decide) ?_
        refine k_iadd h dL_law_1073 ?_
        refine k_alX h hX hbl hbA dL_law_1074 (fun v277 => ?_)
        refine k_callVI (As := [LI v277]) (st := [LI v275]) (x0 := x6) (xg := fun a280 => mX9_order a280 v277 s276) h (fun a280 => ctX9_order l B D cA sa a280 v277 s276) calX9_order rfl (by decide) (mw30 6 rfl) (mw30 7 rfl) (Or.inl (mw30 5 rfl)) hgood ⟨rfl, rfl, Nat.le_of_ble_eq_true rfl, Nat.le_of_ble_eq_true rfl⟩ ⟨Nat.le_of_ble_eq_true rfl, Nat.le_of_ble_eq_true rfl⟩ rfl (Nat.le_of_ble_eq_true rfl) dL_law_1075 (fun v278 s279 => ?_)
        refine k_icmp_eq (tgt := 1205) h dL_law_1078 (by decide) ?_ ?_
        · refine k_iinc (w := (q11 + 6)) (lv' := [(3, LI (q11 + 6)), (0, LT 3), (1, LR x1), (2, LR x6)]) h 3 dL_law_1205 rfl rfl (by decide) rfl ?_
          refine k_goto (tgt := 18) h dL_law_1208 (by decide) ?_
          refine k_sub (lv' := [(0, LT 3), (1, LR x1), (2, LR x6), (3, LI (q11 + 6))]) h [1, 2, 3, 0] rfl ?_
          exact hr13 (q11 + 6) s279
        · refine k_iconst (v := 0) h dL_law_1081 (by decide) ?_
          exact k_zret h rfl dL_law_1082 (Nat.le_of_ble_eq_true rfl) (Nat.le_of_ble_eq_true rfl)
      · dsimp only
        refine k_aload_n h 1 dL_law_1083 rfl rfl ?_
        refine k_aload_nS h 0 dL_law_1084 rfl rfl ?_
        refine k_iload_n h 3 dL_law_1085 rfl rfl ?_
        refine k_iconst (v := 1) h dL_law_1086 (by decide) ?_
        refine k_iadd h dL_law_1087 ?_
        refine k_alX h hX hbl hbA dL_law_1088 (fun v282 => ?_)
        refine k_aload_nS h 0 dL_law_1089 rfl rfl ?_
        refine k_iload_n h 3 dL_law_1090 rfl rfl ?_
        refine k_iconst (v := 2) h dL_law_1091 (by decide) ?_
        refine k_iadd h dL_law_1092 ?_
        refine k_alX h hX hbl hbA dL_law_1093 (fun v283 => ?_)
        refine k_callVI (As := [LI v282, LI v283]) (st := []) (x0 := x1) (xg := fun a291 => mX8_spot a291 v282 v283 s12) h (fun a291 => ctX8_spot l B D cA sa a291 v282 v283 s12) calX8_spot rfl (by decide) (mw31 2 rfl) (mw31 3 rfl) (Or.inl (mw31 1 rfl)) hgood ⟨rfl, rfl, Nat.le_of_ble_eq_true rfl, Nat.le_of_ble_eq_true rfl⟩ ⟨Nat.le_of_ble_eq_true rfl, Nat.le_of_ble_eq_true rfl⟩ rfl (Nat.le_of_ble_eq_true rfl) dL_law_1094 (fun v284 s285 => ?_)
        refine k_aload_n h 2 dL_law_1097 rfl rfl ?_
        refine k_aload_nS h 0 dL_law_1098 rfl rfl ?_
        refine k_iload_n h 3 dL_law_1099 rfl rfl ?_
        refine k_iconst (v := 1) h dL_law_1100 (by decide) ?_
        refine k_iadd h dL_law_1101 ?_
        refine k_alX h hX hbl hbA dL_law_1102 (fun v286 => ?_)
        refine k_aload_nS h 0 dL_law_1103 rfl rfl ?_
        refine k_iload_n h 3 dL_law_1104 rfl rfl ?_
        refine k_iconst (v := 2) h dL_law_1105 (by decide) ?_
        refine k_iadd h dL_law_1106 ?_
        refine k_alX h hX hbl hbA dL_law_1107 (fun v287 => ?_)
        refine k_callVI (As := [LI v286, LI v287]) (st := [LI v284]) (x0 := x6) (xg := fun a290 => mX9_spot a290 v286 v287 s285) h (fun a290 => ctX9_spot l B D cA sa a290 v286 v287 s285) calX9_spot rfl (by decide) (mw32 5 rfl) (mw32 6 rfl) (Or.inl (mw32 4 rfl)) hgood ⟨rfl, rfl, Nat.le_of_ble_eq_true rfl, Nat.le_of_ble_eq_true rfl⟩ ⟨Nat.le_of_ble_eq_true rfl, Nat.le_of_ble_eq_true rfl⟩ rfl (Nat.le_of_ble_eq_true rfl) dL_law_1108 (fun v288 s289 => ?_)
        refine k_icmp_eq (tgt := 1205) h dL_law_1111 (by decide) ?_ ?_
        · refine k_iinc (w := (q11 + 6)) (lv' := [(3, LI (q11 + 6)), (0, LT 3), (1, LR x1), (2, LR x6)]) h 3 dL_law_1205 rfl rfl (by decide) rfl ?_
          refine k_goto (tgt := 18) h dL_law_1208 (by decide) ?_
          refine k_sub (lv' := [(0, LT 3), (1, LR x1), (2, LR x6), (3, LI (q11 + 6))]) h [1, 2, 3, 0] rfl ?_
          exact hr13 (q11 + 6) s289
        · refine k_iconst (v := 0) h dL_law_1114 (by decide) ?_
          exact k_zret h rfl dL_law_1115 (Nat.le_of_ble_eq_true rfl) (Nat.le_of_ble_eq_true rfl)
      · dsimp only
        refine k_aload_n h 1 dL_law_1116 rfl rfl ?_
        refine k_aload_nS h 0 dL_law_1117 rfl rfl ?_
        refine k_iload_n h 3 dL_law_1118 rfl rfl ?_
        refine k_iconst (v := 1) h dL_law_1119 (by decide) ?_
        refine k_iadd h dL_law_1120 ?_
        refine k_alX h hX hbl hbA dL_law_1121 (fun v292 => ?_)
        refine k_aload_nS h 0 dL_law_1122 rfl rfl ?_
        refine k_iload_n h 3 dL_law_1123 rfl rfl ?_
        refine k_iconst (v := 2) h dL_law_1124 (by decide) ?_
        refine k_iadd h dL_law_1125 ?_
        refine k_alX h hX hbl hbA dL_law_1126 (fun v293 => ?_)
        refine k_callVI (As := [LI v292, LI v293]) (st := []) (x0 := x1) (xg := fun a301 => mX8_why a301 v292 v293 s12) h (fun a301 => ctX8_why l B D cA sa a301 v292 v293 s12) calX8_why rfl (by decide) (mw32 21 rfl) (mw32 22 rfl) (Or.inl (mw32 20 rfl)) hgood ⟨rfl, rfl, Nat.le_of_ble_eq_true rfl, Nat.le_of_ble_eq_true rfl⟩ ⟨Nat.le_of_ble_eq_true rfl, Nat.le_of_ble_eq_true rfl⟩ rfl (Nat.le_of_ble_eq_true rfl) dL_law_1127 (fun v294 s295 => ?_)
        refine k_aload_n h 2 dL_law_1130 rfl rfl ?_
        refine k_aload_nS h 0 dL_law_1131 rfl rfl ?_
        refine k_iload_n h 3 dL_law_1132 rfl rfl ?_
        refine k_iconst (v := 1) h dL_law_1133 (by decide) ?_
        refine k_iadd h dL_law_1134 ?_
        refine k_alX h hX hbl hbA dL_law_1135 (fun v296 => ?_)
        refine k_aload_nS h 0 dL_law_1136 rfl rfl ?_
        refine k_iload_n h 3 dL_law_1137 rfl rfl ?_
        refine k_iconst (v := 2) h dL_law_1138 (by decide) ?_
        refine k_iadd h dL_law_1139 ?_
        refine k_alX h hX hbl hbA dL_law_1140 (fun v297 => ?_)
        refine k_callVI (As := [LI v296, LI v297]) (st := [LI v294]) (x0 := x6) (xg := fun a300 => mX9_why a300 v296 v297 s295) h (fun a300 => ctX9_why l B D cA sa a300 v296 v297 s295) calX9_why rfl (by decide) (mw35 8 rfl) (mw35 9 rfl) (Or.inl (mw35 7 rfl)) hgood ⟨rfl, rfl, Nat.le_of_ble_eq_true rfl, Nat.le_of_ble_eq_true rfl⟩ ⟨Nat.le_of_ble_eq_true rfl, Nat.le_of_ble_eq_true rfl⟩ rfl (Nat.le_of_ble_eq_true rfl) dL_law_1141 (fun v298 s299 => ?_)
        refine k_icmp_eq (tgt := 1205) h dL_law_1144 (by decide) ?_ ?_
        · refine k_iinc (w := (q11 + 6)) (lv' := [(3, LI (q11 + 6)), (0, LT 3), (1, LR x1), (2, LR x6)]) h 3 dL_law_1205 rfl rfl (by decide) rfl ?_
          refine k_goto (tgt := 18) h dL_law_1208 (by decide) ?_
          refine k_sub (lv' := [(0, LT 3), (1, LR x1), (2, LR x6), (3, LI (q11 + 6))]) h [1, 2, 3, 0] rfl ?_
          exact hr13 (q11 + 6) s299
        · refine k_iconst (v := 0) h dL_law_1147 (by decide) ?_
          exact k_zret h rfl dL_law_1148 (Nat.le_of_ble_eq_true rfl) (Nat.le_of_ble_eq_true rfl)
      · dsimp only
        refine k_aload_n h 1 dL_law_1149 rfl rfl ?_
        refine k_aload_nS h 0 dL_law_1150 rfl rfl ?_
        refine k_iload_n h 3 dL_law_1151 rfl rfl ?_
        refine k_iconst (v := 1) h dL_law_1152 (by decide) ?_
        refine k_iadd h dL_law_1153 ?_
        refine k_alX h hX hbl hbA dL_law_1154 (fun v302 => ?_)
        refine k_aload_nS h 0 dL_law_1155 rfl rfl ?_
        refine k_iload_n h 3 dL_law_1156 rfl rfl ?_
        refine k_iconst (v := 2) h dL_law_1157 (by decide) ?_
        refine k_iadd h dL_law_1158 ?_
        refine k_alX h hX hbl hbA dL_law_1159 (fun v303 => ?_)
        refine k_callVI (As := [LI v302, LI v303]) (st := []) (x0 := x1) (xg := fun a311 => mX8_leave a311 v302 v303 s12) h (fun a311 => ctX8_leave l B D cA sa a311 v302 v303 s12) calX8_leave rfl (by decide) (mw37 12 rfl) (mw37 13 rfl) (Or.inl (mw37 11 rfl)) hgood ⟨rfl, rfl, Nat.le_of_ble_eq_true rfl, Nat.le_of_ble_eq_true rfl⟩ ⟨Nat.le_of_ble_eq_true rfl, Nat.le_of_ble_eq_true rfl⟩ rfl (Nat.le_of_ble_eq_true rfl) dL_law_1160 (fun v304 s305 => ?_)
        refine k_aload_n h 2 dL_law_1163 rfl rfl ?_
        refine k_aload_nS h 0 dL_law_1164 rfl rfl ?_
        refine k_iload_n h 3 dL_law_1165 rfl rfl ?_
        refine k_iconst (v := 1) h dL_law_1166 (by decide) ?_
        refine k_iadd h dL_law_1167 ?_
        refine k_alX h hX hbl hbA dL_law_1168 (fun v306 => ?_)
        refine k_aload_nS h 0 dL_law_1169 rfl rfl ?_
        refine k_iload_n h 3 dL_law_1170 rfl rfl ?_
        refine k_iconst (v := 2) h dL_law_1171 (by decide) ?_
        refine k_iadd h dL_law_1172 ?_
        refine k_alX h hX hbl hbA dL_law_1173 (fun v307 => ?_)
        refine k_callVI (As := [LI v306, LI v307]) (st := [LI v304]) (x0 := x6) (xg := fun a310 => mX9_leave a310 v306 v307 s305) h (fun a310 => ctX9_leave l B D cA sa a310 v306 v307 s305) calX9_leave rfl (by decide) (mw38 3 rfl) (mw38 4 rfl) (Or.inl (mw38 2 rfl)) hgood ⟨rfl, rfl, Nat.le_of_ble_eq_true rfl, Nat.le_of_ble_eq_true rfl⟩ ⟨Nat.le_of_ble_eq_true rfl, Nat.le_of_ble_eq_true rfl⟩ rfl (Nat.le_of_ble_eq_true rfl) dL_law_1174 (fun v308 s309 => ?_)
        refine k_icmp_eq (tgt := 1205) h dL_law_1177 (by decide) ?_ ?_
        · refine k_iinc (w := (q11 + 6)) (lv' := [(3, LI (q11 + 6)), (0, LT 3), (1, LR x1), (2, LR x6)]) h 3 dL_law_1205 rfl rfl (by decide) rfl ?_
          refine k_goto (tgt := 18) h dL_law_1208 (by decide) ?_
          refine k_sub (lv' := [(0, LT 3), (1, LR x1), (2, LR x6), (3, LI (q11 + 6))]) h [1, 2, 3, 0] rfl ?_
          exact hr13 (q11 + 6) s309
        · refine k_iconst (v := 0) h dL_law_1180 (by decide) ?_
          exact k_zret h rfl dL_law_1181 (Nat.le_of_ble_eq_true rfl) (Nat.le_of_ble_eq_true rfl)
      · dsimp only
        refine k_aload_n h 1 dL_law_1182 rfl rfl ?_
        refine k_aload_nS h 0 dL_law_1183 rfl rfl ?_
        refine k_iload_n h 3 dL_law_1184 rfl rfl ?_
        refine k_iconst (v := 1) h dL_law_1185 (by decide) ?_
        refine k_iadd h dL_law_1186 ?_
        refine k_alX h hX hbl hbA dL_law_1187 (fun v312 => ?_)
        refine k_callVI (As := [LI v312]) (st := []) (x0 := x1) (xg := fun a319 => mX8_many a319 v312 s12) h (fun a319 => ctX8_many l B D cA sa a319 v312 s12) calX8_many rfl (by decide) (mw38 8 rfl) (mw38 9 rfl) (Or.inl (mw38 7 rfl)) hgood ⟨rfl, rfl, Nat.le_of_ble_eq_true rfl, Nat.le_of_ble_eq_true rfl⟩ ⟨Nat.le_of_ble_eq_true rfl, Nat.le_of_ble_eq_true rfl⟩ rfl (Nat.le_of_ble_eq_true rfl) dL_law_1188 (fun v313 s314 => ?_)
        refine k_aload_n h 2 dL_law_1191 rfl rfl ?_
        refine k_aload_nS h 0 dL_law_1192 rfl rfl ?_
        refine k_iload_n h 3 dL_law_1193 rfl rfl ?_
        refine k_iconst (v := 1) h dL_law_1194 (by decide) ?_
        refine k_iadd h dL_law_1195 ?_
        refine k_alX h hX hbl hbA dL_law_1196 (fun v315 => ?_)
        refine k_callVI (As := [LI v315]) (st := [LI v313]) (x0 := x6) (xg := fun a318 => mX9_many a318 v315 s314) h (fun a318 => ctX9_many l B D cA sa a318 v315 s314) calX9_many rfl (by decide) (mw38 20 rfl) (mw38 21 rfl) (Or.inl (mw38 19 rfl)) hgood ⟨rfl, rfl, Nat.le_of_ble_eq_true rfl, Nat.le_of_ble_eq_true rfl⟩ ⟨Nat.le_of_ble_eq_true rfl, Nat.le_of_ble_eq_true rfl⟩ rfl (Nat.le_of_ble_eq_true rfl) dL_law_1197 (fun v316 s317 => ?_)
        refine k_icmp_eq (tgt := 1205) h dL_law_1200 (by decide) ?_ ?_
        · refine k_iinc (w := (q11 + 6)) (lv' := [(3, LI (q11 + 6)), (0, LT 3), (1, LR x1), (2, LR x6)]) h 3 dL_law_1205 rfl rfl (by decide) rfl ?_
          refine k_goto (tgt := 18) h dL_law_1208 (by decide) ?_
          refine k_sub (lv' := [(0, LT 3), (1, LR x1), (2, LR x6), (3, LI (q11 + 6))]) h [1, 2, 3, 0] rfl ?_
          exact hr13 (q11 + 6) s317
        · refine k_iconst (v := 0) h dL_law_1203 (by decide) ?_
          exact k_zret h rfl dL_law_1204 (Nat.le_of_ble_eq_true rfl) (Nat.le_of_ble_eq_true rfl)
