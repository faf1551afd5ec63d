/-! Written by wip/whole/gen.py: the law's loop. -/
def f_L_law_L18 (fu : Nat) (L : Nat) (xs : Nat → Int32) (k : Mem → Int32 → Option (Int32 × Mem)) : Nat → Mem → Int32 → Option (Int32 × Mem)
  | 0, _, _ => none
  | n + 1, M, x3 => if ((Int32.ofNat L) - (7 : Int32)) < x3 then k M x3 else if ix x3 L then nm ((xs x3.toNatClampNeg) &&& (31 : Int32)) (fun v1 => if v1 = 0 then nm (x3 + (1 : Int32)) (fun v3 => if ix v3 L then nm (x3 + (2 : Int32)) (fun v4 => if ix v4 L then nm (x3 + (3 : Int32)) (fun v5 => if ix v5 L then nm (x3 + (4 : Int32)) (fun v6 => if ix v6 L then nm (x3 + (5 : Int32)) (fun v7 => if ix v7 L then bnd (f_X8_code (xs v3.toNatClampNeg) (xs v4.toNatClampNeg) (xs v5.toNatClampNeg) (xs v6.toNatClampNeg) (xs v7.toNatClampNeg) M) (fun r8 M9 => nm (x3 + (1 : Int32)) (fun v10 => if ix v10 L then nm (x3 + (2 : Int32)) (fun v11 => if ix v11 L then nm (x3 + (3 : Int32)) (fun v12 => if ix v12 L then nm (x3 + (4 : Int32)) (fun v13 => if ix v13 L then nm (x3 + (5 : Int32)) (fun v14 => if ix v14 L then bnd (f_X9_code (xs v10.toNatClampNeg) (xs v11.toNatClampNeg) (xs v12.toNatClampNeg) (xs v13.toNatClampNeg) (xs v14.toNatClampNeg) M9) (fun r15 M16 => if r8 = r15 then f_L_law_L18 fu L xs k n M16 (x3 + 7) else none) else none) else none) else none) else none) else none)) else none) else none) else none) else none) else none) else if v1 = 1 then nm (x3 + (1 : Int32)) (fun v18 => if ix v18 L then nm (x3 + (2 : Int32)) (fun v19 => if ix v19 L then nm (x3 + (3 : Int32)) (fun v20 => if ix v20 L then nm (x3 + (4 : Int32)) (fun v21 => if ix v21 L then nm (x3 + (5 : Int32)) (fun v22 => if ix v22 L then nm (x3 + (6 : Int32)) (fun v23 => if ix v23 L then bnd (f_X8_change (xs v18.toNatClampNeg) (xs v19.toNatClampNeg) (xs v20.toNatClampNeg) (xs v21.toNatClampNeg) (xs v22.toNatClampNeg) (xs v23.toNatClampNeg) M) (fun r24 M25 => nm (x3 + (1 : Int32)) (fun v26 => if ix v26 L then nm (x3 + (2 : Int32)) (fun v27 => if ix v27 L then nm (x3 + (3 : Int32)) (fun v28 => if ix v28 L then nm (x3 + (4 : Int32)) (fun v29 => if ix v29 L then nm (x3 + (5 : Int32)) (fun v30 => if ix v30 L then nm (x3 + (6 : Int32)) (fun v31 => if ix v31 L then bnd (f_X9_change (xs v26.toNatClampNeg) (xs v27.toNatClampNeg) (xs v28.toNatClampNeg) (xs v29.toNatClampNeg) (xs v30.toNatClampNeg) (xs v31.toNatClampNeg) M25) (fun r32 M33 => if r24 = r32 then f_L_law_L18 fu L xs k n M33 (x3 + 7) else none) else none) else none) else none) else none) else none) else none)) else none) else none) else none) else none) else none) else none) else if v1 = 2 then nm (x3 + (1 : Int32)) (fun v35 => if ix v35 L then nm (x3 + (2 : Int32)) (fun v36 => if ix v36 L then bnd (f_X8_copy fu (xs v35.toNatClampNeg) (xs v36.toNatClampNeg) M) (fun r37 M38 => nm (x3 + (1 : Int32)) (fun v39 => if ix v39 L then nm (x3 + (2 : Int32)) (fun v40 => if ix v40 L then bnd (f_X9_copy fu (xs v39.toNatClampNeg) (xs v40.toNatClampNeg) M38) (fun r41 M42 => if r37 = r41 then f_L_law_L18 fu L xs k n M42 (x3 + 7) else none) else none) else none)) else none) else none) else if v1 = 3 then nm (x3 + (1 : Int32)) (fun v44 => if ix v44 L then nm (x3 + (2 : Int32)) (fun v45 => if ix v45 L then nm (x3 + (3 : Int32)) (fun v46 => if ix v46 L then bnd (f_X8_needed fu (xs v44.toNatClampNeg) (xs v45.toNatClampNeg) (xs v46.toNatClampNeg) M) (fun r47 M48 => nm (x3 + (1 : Int32)) (fun v49 => if ix v49 L then nm (x3 + (2 : Int32)) (fun v50 => if ix v50 L then nm (x3 + (3 : Int32)) (fun v51 => if ix v51 L then bnd (f_X9_needed fu (xs v49.toNatClampNeg) (xs v50.toNatClampNeg) (xs v51.toNatClampNeg) M48) (fun r52 M53 => if r47 = r52 then f_L_law_L18 fu L xs k n M53 (x3 + 7) else none) else none) else none) else none)) else none) else none) else none) else if v1 = 4 then nm (x3 + (1 : Int32)) (fun v55 => if ix v55 L then nm (x3 + (2 : Int32)) (fun v56 => if ix v56 L then bnd (f_X8_spans fu (xs v55.toNatClampNeg) (xs v56.toNatClampNeg) M) (fun r57 M58 => nm (x3 + (1 : Int32)) (fun v59 => if ix v59 L then nm (x3 + (2 : Int32)) (fun v60 => if ix v60 L then bnd (f_X9_spans fu (xs v59.toNatClampNeg) (xs v60.toNatClampNeg) M58) (fun r61 M62 => if r57 = r61 then f_L_law_L18 fu L xs k n M62 (x3 + 7) else none) else none) else none)) else none) else none) else if v1 = 5 then nm (x3 + (1 : Int32)) (fun v64 => if ix v64 L then nm (x3 + (2 : Int32)) (fun v65 => if ix v65 L then nm (x3 + (3 : Int32)) (fun v66 => if ix v66 L then nm (x3 + (4 : Int32)) (fun v67 => if ix v67 L then bnd (f_X8_span fu (xs v64.toNatClampNeg) (xs v65.toNatClampNeg) (xs v66.toNatClampNeg) (xs v67.toNatClampNeg) M) (fun r68 M69 => nm (x3 + (1 : Int32)) (fun v70 => if ix v70 L then nm (x3 + (2 : Int32)) (fun v71 => if ix v71 L then nm (x3 + (3 : Int32)) (fun v72 => if ix v72 L then nm (x3 + (4 : Int32)) (fun v73 => if ix v73 L then bnd (f_X9_span fu (xs v70.toNatClampNeg) (xs v71.toNatClampNeg) (xs v72.toNatClampNeg) (xs v73.toNatClampNeg) M69) (fun r74 M75 => if r68 = r74 then f_L_law_L18 fu L xs k n M75 (x3 + 7) else none) else none) else none) else none) else none)) else none) else none) else none) else none) else if v1 = 6 then nm (x3 + (1 : Int32)) (fun v77 => if ix v77 L then nm (x3 + (2 : Int32)) (fun v78 => if ix v78 L then nm (x3 + (3 : Int32)) (fun v79 => if ix v79 L then nm (x3 + (4 : Int32)) (fun v80 => if ix v80 L then bnd (f_X8_steps fu (xs v77.toNatClampNeg) (xs v78.toNatClampNeg) (xs v79.toNatClampNeg) (xs v80.toNatClampNeg) M) (fun r81 M82 => nm (x3 + (1 : Int32)) (fun v83 => if ix v83 L then nm (x3 + (2 : Int32)) (fun v84 => if ix v84 L then nm (x3 + (3 : Int32)) (fun v85 => if ix v85 L then nm (x3 + (4 : Int32)) (fun v86 => if ix v86 L then bnd (f_X9_steps fu (xs v83.toNatClampNeg) (xs v84.toNatClampNeg) (xs v85.toNatClampNeg) (xs v86.toNatClampNeg) M82) (fun r87 M88 => if r81 = r87 then f_L_law_L18 fu L xs k n M88 (x3 + 7) else none) else none) else none) else none) else none)) else none) else none) else none) else none) else if v1 = 7 then nm (x3 + (1 : Int32)) (fun v90 => if ix v90 L then nm (x3 + (2 : Int32)) (fun v91 => if ix v91 L then nm (x3 + (3 : Int32)) (fun v92 => if ix v92 L then nm (x3 + (4 : Int32)) (fun v93 => if ix v93 L then nm (x3 + (5 : Int32)) (fun v94 => if ix v94 L then bnd (f_X8_way fu (xs v90.toNatClampNeg) (xs v91.toNatClampNeg) (xs v92.toNatClampNeg) (xs v93.toNatClampNeg) (xs v94.toNatClampNeg) M) (fun r95 M96 => nm (x3 + (1 : Int32)) (fun v97 => if ix v97 L then nm (x3 + (2 : Int32)) (fun v98 => if ix v98 L then nm (x3 + (3 : Int32)) (fun v99 => if ix v99 L then nm (x3 + (4 : Int32)) (fun v100 => if ix v100 L then nm (x3 + (5 : Int32)) (fun v101 => if ix v101 L then bnd (f_X9_way fu (xs v97.toNatClampNeg) (xs v98.toNatClampNeg) (xs v99.toNatClampNeg) (xs v100.toNatClampNeg) (xs v101.toNatClampNeg) M96) (fun r102 M103 => if r95 = r102 then f_L_law_L18 fu L xs k n M103 (x3 + 7) else none) else none) else none) else none) else none) else none)) else none) else none) else none) else none) else none) else if v1 = 8 then nm (x3 + (1 : Int32)) (fun v105 => if ix v105 L then nm (x3 + (2 : Int32)) (fun v106 => if ix v106 L then nm (x3 + (3 : Int32)) (fun v107 => if ix v107 L then nm (x3 + (4 : Int32)) (fun v108 => if ix v108 L then nm (x3 + (5 : Int32)) (fun v109 => if ix v109 L then bnd (f_X8_feed fu (xs v105.toNatClampNeg) (xs v106.toNatClampNeg) (xs v107.toNatClampNeg) (xs v108.toNatClampNeg) (xs v109.toNatClampNeg) M) (fun r110 M111 => nm (x3 + (1 : Int32)) (fun v112 => if ix v112 L then nm (x3 + (2 : Int32)) (fun v113 => if ix v113 L then nm (x3 + (3 : Int32)) (fun v114 => if ix v114 L then nm (x3 + (4 : Int32)) (fun v115 => if ix v115 L then nm (x3 + (5 : Int32)) (fun v116 => if ix v116 L then bnd (f_X9_feed fu (xs v112.toNatClampNeg) (xs v113.toNatClampNeg) (xs v114.toNatClampNeg) (xs v115.toNatClampNeg) (xs v116.toNatClampNeg) M111) (fun r117 M118 => if r110 = r117 then f_L_law_L18 fu L xs k n M118 (x3 + 7) else none) else none) else none) else none) else none) else none)) else none) else none) else none) else none) else none) else if v1 = 9 then nm (x3 + (1 : Int32)) (fun v120 => if ix v120 L then nm (x3 + (2 : Int32)) (fun v121 => if ix v121 L then bnd (f_X8_run fu (xs v120.toNatClampNeg) (xs v121.toNatClampNeg) M) (fun r122 M123 => nm (x3 + (1 : Int32)) (fun v124 => if ix v124 L then nm (x3 + (2 : Int32)) (fun v125 => if ix v125 L then bnd (f_X9_run fu (xs v124.toNatClampNeg) (xs v125.toNatClampNeg) M123) (fun r126 M127 => if r122 = r126 then f_L_law_L18 fu L xs k n M127 (x3 + 7) else none) else none) else none)) else none) else none) else if v1 = 10 then bnd (f_X8_ended M) (fun r129 M130 => bnd (f_X9_ended M130) (fun r131 M132 => if r129 = r131 then f_L_law_L18 fu L xs k n M132 (x3 + 7) else none)) else if v1 = 11 then nm (x3 + (1 : Int32)) (fun v134 => if ix v134 L then nm (x3 + (2 : Int32)) (fun v135 => if ix v135 L then nm (x3 + (3 : Int32)) (fun v136 => if ix v136 L then bnd (f_X8_seen (xs v134.toNatClampNeg) (xs v135.toNatClampNeg) (xs v136.toNatClampNeg) M) (fun r137 M138 => nm (x3 + (1 : Int32)) (fun v139 => if ix v139 L then nm (x3 + (2 : Int32)) (fun v140 => if ix v140 L then nm (x3 + (3 : Int32)) (fun v141 => if ix v141 L then bnd (f_X9_seen (xs v139.toNatClampNeg) (xs v140.toNatClampNeg) (xs v141.toNatClampNeg) M138) (fun r142 M143 => if r137 = r142 then f_L_law_L18 fu L xs k n M143 (x3 + 7) else none) else none) else none) else none)) else none) else none) else none) else if v1 = 12 then nm (x3 + (1 : Int32)) (fun v145 => if ix v145 L then nm (x3 + (2 : Int32)) (fun v146 => if ix v146 L then nm (x3 + (3 : Int32)) (fun v147 => if ix v147 L then bnd (f_X8_melted fu (xs v145.toNatClampNeg) (xs v146.toNatClampNeg) (xs v147.toNatClampNeg) M) (fun r148 M149 => nm (x3 + (1 : Int32)) (fun v150 => if ix v150 L then nm (x3 + (2 : Int32)) (fun v151 => if ix v151 L then nm (x3 + (3 : Int32)) (fun v152 => if ix v152 L then bnd (f_X9_melted fu (xs v150.toNatClampNeg) (xs v151.toNatClampNeg) (xs v152.toNatClampNeg) M149) (fun r153 M154 => if r148 = r153 then f_L_law_L18 fu L xs k n M154 (x3 + 7) else none) else none) else none) else none)) else none) else none) else none) else if v1 = 13 then nm (x3 + (1 : Int32)) (fun v156 => if ix v156 L then nm (x3 + (2 : Int32)) (fun v157 => if ix v157 L then nm (x3 + (3 : Int32)) (fun v158 => if ix v158 L then nm (x3 + (4 : Int32)) (fun v159 => if ix v159 L then bnd (f_X8_fresh fu (xs v156.toNatClampNeg) (xs v157.toNatClampNeg) (xs v158.toNatClampNeg) (xs v159.toNatClampNeg) M) (fun r160 M161 => nm (x3 + (1 : Int32)) (fun v162 => if ix v162 L then nm (x3 + (2 : Int32)) (fun v163 => if ix v163 L then nm (x3 + (3 : Int32)) (fun v164 => if ix v164 L then nm (x3 + (4 : Int32)) (fun v165 => if ix v165 L then bnd (f_X9_fresh fu (xs v162.toNatClampNeg) (xs v163.toNatClampNeg) (xs v164.toNatClampNeg) (xs v165.toNatClampNeg) M161) (fun r166 M167 => if r160 = r166 then f_L_law_L18 fu L xs k n M167 (x3 + 7) else none) else none) else none) else none) else none)) else none) else none) else none) else none) else if v1 = 14 then nm (x3 + (1 : Int32)) (fun v169 => if ix v169 L then nm (x3 + (2 : Int32)) (fun v170 => if ix v170 L then nm (x3 + (3 : Int32)) (fun v171 => if ix v171 L then nm (x3 + (4 : Int32)) (fun v172 => if ix v172 L then nm (x3 + (5 : Int32)) (fun v173 => if ix v173 L then bnd (f_X8_effect (xs v169.toNatClampNeg) (xs v170.toNatClampNeg) (xs v171.toNatClampNeg) (xs v172.toNatClampNeg) (xs v173.toNatClampNeg) M) (fun r174 M175 => nm (x3 + (1 : Int32)) (fun v176 => if ix v176 L then nm (x3 + (2 : Int32)) (fun v177 => if ix v177 L then nm (x3 + (3 : Int32)) (fun v178 => if ix v178 L then nm (x3 + (4 : Int32)) (fun v179 => if ix v179 L then nm (x3 + (5 : Int32)) (fun v180 => if ix v180 L then bnd (f_X9_effect (xs v176.toNatClampNeg) (xs v177.toNatClampNeg) (xs v178.toNatClampNeg) (xs v179.toNatClampNeg) (xs v180.toNatClampNeg) M175) (fun r181 M182 => if r174 = r181 then f_L_law_L18 fu L xs k n M182 (x3 + 7) else none) else none) else none) else none) else none) else none)) else none) else none) else none) else none) else none) else if v1 = 15 then nm (x3 + (1 : Int32)) (fun v184 => if ix v184 L then nm (x3 + (2 : Int32)) (fun v185 => if ix v185 L then if (xs v185.toNatClampNeg) = 0 then bnd (f_X8_reach fu (xs v184.toNatClampNeg) 0 M) (fun r186 M187 => nm (x3 + (1 : Int32)) (fun v188 => if ix v188 L then nm (x3 + (2 : Int32)) (fun v189 => if ix v189 L then if (xs v189.toNatClampNeg) = 0 then bnd (f_X9_reach fu (xs v188.toNatClampNeg) 0 M187) (fun r190 M191 => if r186 = r190 then f_L_law_L18 fu L xs k n M191 (x3 + 7) else none) else bnd (f_X9_reach fu (xs v188.toNatClampNeg) 1 M187) (fun r192 M193 => if r186 = r192 then f_L_law_L18 fu L xs k n M193 (x3 + 7) else none) else none) else none)) else bnd (f_X8_reach fu (xs v184.toNatClampNeg) 1 M) (fun r194 M195 => nm (x3 + (1 : Int32)) (fun v196 => if ix v196 L then nm (x3 + (2 : Int32)) (fun v197 => if ix v197 L then if (xs v197.toNatClampNeg) = 0 then bnd (f_X9_reach fu (xs v196.toNatClampNeg) 0 M195) (fun r198 M199 => if r194 = r198 then f_L_law_L18 fu L xs k n M199 (x3 + 7) else none) else bnd (f_X9_reach fu (xs v196.toNatClampNeg) 1 M195) (fun r200 M201 => if r194 = r200 then f_L_law_L18 fu L xs k n M201 (x3 + 7) else none) else none) else none)) else none) else none) else if v1 = 16 then nm (x3 + (1 : Int32)) (fun v203 => if ix v203 L then nm (x3 + (2 : Int32)) (fun v204 => if ix v204 L then bnd (f_X8_shut fu (xs v203.toNatClampNeg) (xs v204.toNatClampNeg) M) (fun r205 M206 => nm (x3 + (1 : Int32)) (fun v207 => if ix v207 L then nm (x3 + (2 : Int32)) (fun v208 => if ix v208 L then bnd (f_X9_shut fu (xs v207.toNatClampNeg) (xs v208.toNatClampNeg) M206) (fun r209 M210 => if r205 = r209 then f_L_law_L18 fu L xs k n M210 (x3 + 7) else none) else none) else none)) else none) else none) else if v1 = 17 then nm (x3 + (1 : Int32)) (fun v212 => if ix v212 L then nm (x3 + (2 : Int32)) (fun v213 => if ix v213 L then bnd (f_X8_cuts fu (xs v212.toNatClampNeg) (xs v213.toNatClampNeg) M) (fun r214 M215 => nm (x3 + (1 : Int32)) (fun v216 => if ix v216 L then nm (x3 + (2 : Int32)) (fun v217 => if ix v217 L then bnd (f_X9_cuts fu (xs v216.toNatClampNeg) (xs v217.toNatClampNeg) M215) (fun r218 M219 => if r214 = r218 then f_L_law_L18 fu L xs k n M219 (x3 + 7) else none) else none) else none)) else none) else none) else if v1 = 18 then nm (x3 + (1 : Int32)) (fun v221 => if ix v221 L then nm (x3 + (2 : Int32)) (fun v222 => if ix v222 L then nm (x3 + (3 : Int32)) (fun v223 => if ix v223 L then bnd (f_X8_look fu (xs v221.toNatClampNeg) (xs v222.toNatClampNeg) (xs v223.toNatClampNeg) M) (fun r224 M225 => nm (x3 + (1 : Int32)) (fun v226 => if ix v226 L then nm (x3 + (2 : Int32)) (fun v227 => if ix v227 L then nm (x3 + (3 : Int32)) (fun v228 => if ix v228 L then bnd (f_X9_look fu (xs v226.toNatClampNeg) (xs v227.toNatClampNeg) (xs v228.toNatClampNeg) M225) (fun r229 M230 => if r224 = r229 then f_L_law_L18 fu L xs k n M230 (x3 + 7) else none) else none) else none) else none)) else none) else none) else none) else if v1 = 19 then nm (x3 + (1 : Int32)) (fun v232 => if ix v232 L then nm (x3 + (2 : Int32)) (fun v233 => if ix v233 L then bnd (f_X8_count fu (xs v232.toNatClampNeg) (xs v233.toNatClampNeg) M) (fun r234 M235 => nm (x3 + (1 : Int32)) (fun v236 => if ix v236 L then nm (x3 + (2 : Int32)) (fun v237 => if ix v237 L then bnd (f_X9_count fu (xs v236.toNatClampNeg) (xs v237.toNatClampNeg) M235) (fun r238 M239 => if r234 = r238 then f_L_law_L18 fu L xs k n M239 (x3 + 7) else none) else none) else none)) else none) else none) else f_L_law_L18 fu L xs k n M (x3 + 7)) else none
set_option maxHeartbeats 400000000 in
set_option maxRecDepth 100000 in
theorem w_L_law_L18 {p : Program} {l : Launch} {e : Env} {s : State} {m : MethodId} {b : Nat} {below : List Frame} {meth : Method} {c : Code} {D : va_G} {ad : Nat → Nat} {cs : Cs} (fu : Nat) (L : Nat) (xs : Nat → Int32) (hX : va_X b L xs s s.heap) (hbl : b < s.heap.size) (hroom : 600000 ≤ room_1.cells ∧ 7302250 ≤ room_1.slots) (F : Fx p m c cL_law 4 s #[Value.ref b] wsL_law RL D ad cs (fun q => s.heap.size ≤ q)) (k : Mem → Int32 → Option (Int32 × Mem)) (hkx : ∀ (M : Mem) (x3 : Int32), GoX p l e room_1 s m #[Value.ref b] below meth c 600000 7302250 4 (fun _ => lw_Z below #[Value.ref b] s) D ad cs (fun q => s.heap.size ≤ q) M 1052 [(0, .ref b), (1, .ref (ad (0))), (2, .ref (ad (70))), (3, .int x3)] [] (k M x3)) : ∀ (n : Nat) (M : Mem) (x3 : Int32), GoX p l e room_1 s m #[Value.ref b] below meth c 600000 7302250 4 (fun _ => lw_Z below #[Value.ref b] s) D ad cs (fun q => s.heap.size ≤ q) M 18 [(0, .ref b), (1, .ref (ad (0))), (2, .ref (ad (70))), (3, .int x3)] [] (f_L_law_L18 fu L xs k n M x3) := by
  intro n
  induction n with
  | zero => intro M x3; exact g_none
  | succ n ih =>
    intro M x3
    unfold f_L_law_L18
    refine g_iload_n (pc := 18) F 3 dL_law_18 rfl ?_
    refine g_aload_n (pc := 19) F 0 dL_law_19 rfl ?_
    refine g_slen (pc := 20) F hX hbl dL_law_20 ?_
    refine g_bipush (pc := 21) (v := 7) F dL_law_21 (by decide) ?_
    refine g_isub (pc := 23) F dL_law_23 ?_
    refine g_icmp_gt (pc := 24) F 1052 dL_law_24 (by decide) ?_ ?_
    · exact hkx _ _
    · refine g_aload_n (pc := 27) F 0 dL_law_27 rfl ?_
      refine g_iload_n (pc := 28) F 3 dL_law_28 rfl ?_
      refine g_sld (pc := 29) F hX hbl dL_law_29 ?_
      refine g_bipush (pc := 30) (v := 31) F dL_law_30 (by decide) ?_
      refine g_iand (pc := 32) F dL_law_32 ?_
      refine g_nm (fun v1 => ?_)
      refine g_case (v := 0) (fun _ => ?_) (fun n2 => ?_)
      · refine g_tab (pc := 33) (off := 95) F 128 dL_law_33 (by decide) (by decide) (by decide) (by decide) ?_
        refine g_aload_n (pc := 128) F 1 dL_law_128 rfl ?_
        refine g_aload_n (pc := 129) F 0 dL_law_129 rfl ?_
        refine g_iload_n (pc := 130) F 3 dL_law_130 rfl ?_
        refine g_iconst (pc := 131) (v := 1) F dL_law_131 (by decide) ?_
        refine g_iadd (pc := 132) F dL_law_132 ?_
        refine g_nm (fun v3 => ?_)
        refine g_sld (pc := 133) F hX hbl dL_law_133 ?_
        refine g_aload_n (pc := 134) F 0 dL_law_134 rfl ?_
        refine g_iload_n (pc := 135) F 3 dL_law_135 rfl ?_
        refine g_iconst (pc := 136) (v := 2) F dL_law_136 (by decide) ?_
        refine g_iadd (pc := 137) F dL_law_137 ?_
        refine g_nm (fun v4 => ?_)
        refine g_sld (pc := 138) F hX hbl dL_law_138 ?_
        refine g_aload_n (pc := 139) F 0 dL_law_139 rfl ?_
        refine g_iload_n (pc := 140) F 3 dL_law_140 rfl ?_
        refine g_iconst (pc := 141) (v := 3) F dL_law_141 (by decide) ?_
        refine g_iadd (pc := 142) F dL_law_142 ?_
        refine g_nm (fun v5 => ?_)
        refine g_sld (pc := 143) F hX hbl dL_law_143 ?_
        refine g_aload_n (pc := 144) F 0 dL_law_144 rfl ?_
        refine g_iload_n (pc := 145) F 3 dL_law_145 rfl ?_
        refine g_iconst (pc := 146) (v := 4) F dL_law_146 (by decide) ?_
        refine g_iadd (pc := 147) F dL_law_147 ?_
        refine g_nm (fun v6 => ?_)
        refine g_sld (pc := 148) F hX hbl dL_law_148 ?_
        refine g_aload_n (pc := 149) F 0 dL_law_149 rfl ?_
        refine g_iload_n (pc := 150) F 3 dL_law_150 rfl ?_
        refine g_iconst (pc := 151) (v := 5) F dL_law_151 (by decide) ?_
        refine g_iadd (pc := 152) F dL_law_152 ?_
        refine g_nm (fun v7 => ?_)
        refine g_sld (pc := 153) F hX hbl dL_law_153 ?_
        refine g_vi (pc := 154) (k := 0) (ci := 8) (fs := (oX8 ad)) (C := RX8) (T := TX8) (N := 6) (As := [.int (xs v3.toNatClampNeg), .int (xs v4.toNatClampNeg), .int (xs v5.toNatClampNeg), .int (xs v6.toNatClampNeg), .int (xs v7.toNatClampNeg)]) (st := []) F (c_X8_code l D ad cs F.2.2.1 (xs v3.toNatClampNeg) (xs v4.toNatClampNeg) (xs v5.toNatClampNeg) (xs v6.toNatClampNeg) (xs v7.toNatClampNeg) M) (by decide) (fun _ => rfl) rfl (cwV 5 F.1.2.2.2.2 gL_law_X8_code rfl rfl rfl hdV_X8_code ⟨by decide, by decide⟩) rfl rfl (Nat.le_of_ble_eq_true rfl) dL_law_154 hroom (fun r8 M9 => ?_)
        refine g_aload_n (pc := 157) F 2 dL_law_157 rfl ?_
        refine g_aload_n (pc := 158) F 0 dL_law_158 rfl ?_
        refine g_iload_n (pc := 159) F 3 dL_law_159 rfl ?_
        refine g_iconst (pc := 160) (v := 1) F dL_law_160 (by decide) ?_
        refine g_iadd (pc := 161) F dL_law_161 ?_
        refine g_nm (fun v10 => ?_)
        refine g_sld (pc := 162) F hX hbl dL_law_162 ?_
        refine g_aload_n (pc := 163) F 0 dL_law_163 rfl ?_
        refine g_iload_n (pc := 164) F 3 dL_law_164 rfl ?_
        refine g_iconst (pc := 165) (v := 2) F dL_law_165 (by decide) ?_
        refine g_iadd (pc := 166) F dL_law_166 ?_
        refine g_nm (fun v11 => ?_)
        refine g_sld (pc := 167) F hX hbl dL_law_167 ?_
        refine g_aload_n (pc := 168) F 0 dL_law_168 rfl ?_
        refine g_iload_n (pc := 169) F 3 dL_law_169 rfl ?_
        refine g_iconst (pc := 170) (v := 3) F dL_law_170 (by decide) ?_
        refine g_iadd (pc := 171) F dL_law_171 ?_
        refine g_nm (fun v12 => ?_)
        refine g_sld (pc := 172) F hX hbl dL_law_172 ?_
        refine g_aload_n (pc := 173) F 0 dL_law_173 rfl ?_
        refine g_iload_n (pc := 174) F 3 dL_law_174 rfl ?_
        refine g_iconst (pc := 175) (v := 4) F dL_law_175 (by decide) ?_
        refine g_iadd (pc := 176) F dL_law_176 ?_
        refine g_nm (fun v13 => ?_)
        refine g_sld (pc := 177) F hX hbl dL_law_177 ?_
        refine g_aload_n (pc := 178) F 0 dL_law_178 rfl ?_
        refine g_iload_n (pc := 179) F 3 dL_law_179 rfl ?_
        refine g_iconst (pc := 180) (v := 5) F dL_law_180 (by decide) ?_
        refine g_iadd (pc := 181) F dL_law_181 ?_
        refine g_nm (fun v14 => ?_)
        refine g_sld (pc := 182) F hX hbl dL_law_182 ?_
        refine g_vi (pc := 183) (k := 70) (ci := 9) (fs := (oX9 ad)) (C := RX9) (T := TX9) (N := 33) (As := [.int (xs v10.toNatClampNeg), .int (xs v11.toNatClampNeg), .int (xs v12.toNatClampNeg), .int (xs v13.toNatClampNeg), .int (xs v14.toNatClampNeg)]) (st := [.int r8]) F (c_X9_code l D ad cs F.2.2.1 (xs v10.toNatClampNeg) (xs v11.toNatClampNeg) (xs v12.toNatClampNeg) (xs v13.toNatClampNeg) (xs v14.toNatClampNeg) M9) (by decide) (fun _ => rfl) rfl (cwV 5 F.1.2.2.2.2 gL_law_X9_code rfl rfl rfl hdV_X9_code ⟨by decide, by decide⟩) rfl rfl (Nat.le_of_ble_eq_true rfl) dL_law_183 hroom (fun r15 M16 => ?_)
        refine g_icmp_eq (pc := 186) F 1046 dL_law_186 (by decide) ?_ ?_
        · refine g_iinc (pc := 1046) (v := x3 + 7) F [(0, .ref b), (1, .ref (ad (0))), (2, .ref (ad (70))), (3, .int (x3 + 7))] 3 dL_law_1046 rfl rfl (by decide) rfl rfl rfl ?_
          refine g_goto (pc := 1049) F 18 dL_law_1049 (by decide) ?_
          exact ih _ _
        · refine g_iconst (pc := 189) (v := 0) F dL_law_189 (by decide) ?_
          exact g_none
      refine g_case (v := 1) (fun _ => ?_) (fun n17 => ?_)
      · refine g_tab (pc := 33) (off := 158) F 191 dL_law_33 (by decide) (by decide) (by decide) (by decide) ?_
        refine g_aload_n (pc := 191) F 1 dL_law_191 rfl ?_
        refine g_aload_n (pc := 192) F 0 dL_law_192 rfl ?_
        refine g_iload_n (pc := 193) F 3 dL_law_193 rfl ?_
        refine g_iconst (pc := 194) (v := 1) F dL_law_194 (by decide) ?_
        refine g_iadd (pc := 195) F dL_law_195 ?_
        refine g_nm (fun v18 => ?_)
        refine g_sld (pc := 196) F hX hbl dL_law_196 ?_
        refine g_aload_n (pc := 197) F 0 dL_law_197 rfl ?_
        refine g_iload_n (pc := 198) F 3 dL_law_198 rfl ?_
        refine g_iconst (pc := 199) (v := 2) F dL_law_199 (by decide) ?_
        refine g_iadd (pc := 200) F dL_law_200 ?_
        refine g_nm (fun v19 => ?_)
        refine g_sld (pc := 201) F hX hbl dL_law_201 ?_
        refine g_aload_n (pc := 202) F 0 dL_law_202 rfl ?_
        refine g_iload_n (pc := 203) F 3 dL_law_203 rfl ?_
        refine g_iconst (pc := 204) (v := 3) F dL_law_204 (by decide) ?_
        refine g_iadd (pc := 205) F dL_law_205 ?_
        refine g_nm (fun v20 => ?_)
        refine g_sld (pc := 206) F hX hbl dL_law_206 ?_
        refine g_aload_n (pc := 207) F 0 dL_law_207 rfl ?_
        refine g_iload_n (pc := 208) F 3 dL_law_208 rfl ?_
        refine g_iconst (pc := 209) (v := 4) F dL_law_209 (by decide) ?_
        refine g_iadd (pc := 210) F dL_law_210 ?_
        refine g_nm (fun v21 => ?_)
        refine g_sld (pc := 211) F hX hbl dL_law_211 ?_
        refine g_aload_n (pc := 212) F 0 dL_law_212 rfl ?_
        refine g_iload_n (pc := 213) F 3 dL_law_213 rfl ?_
        refine g_iconst (pc := 214) (v := 5) F dL_law_214 (by decide) ?_
        refine g_iadd (pc := 215) F dL_law_215 ?_
        refine g_nm (fun v22 => ?_)
        refine g_sld (pc := 216) F hX hbl dL_law_216 ?_
        refine g_aload_n (pc := 217) F 0 dL_law_217 rfl ?_
        refine g_iload_n (pc := 218) F 3 dL_law_218 rfl ?_
        refine g_bipush (pc := 219) (v := 6) F dL_law_219 (by decide) ?_
        refine g_iadd (pc := 221) F dL_law_221 ?_
        refine g_nm (fun v23 => ?_)
        refine g_sld (pc := 222) F hX hbl dL_law_222 ?_
        refine g_vi (pc := 223) (k := 0) (ci := 8) (fs := (oX8 ad)) (C := RX8) (T := TX8) (N := 6) (As := [.int (xs v18.toNatClampNeg), .int (xs v19.toNatClampNeg), .int (xs v20.toNatClampNeg), .int (xs v21.toNatClampNeg), .int (xs v22.toNatClampNeg), .int (xs v23.toNatClampNeg)]) (st := []) F (c_X8_change l D ad cs F.2.2.1 (xs v18.toNatClampNeg) (xs v19.toNatClampNeg) (xs v20.toNatClampNeg) (xs v21.toNatClampNeg) (xs v22.toNatClampNeg) (xs v23.toNatClampNeg) M) (by decide) (fun _ => rfl) rfl (cwV 6 F.1.2.2.2.2 gL_law_X8_change rfl rfl rfl hdV_X8_change ⟨by decide, by decide⟩) rfl rfl (Nat.le_of_ble_eq_true rfl) dL_law_223 hroom (fun r24 M25 => ?_)
        refine g_aload_n (pc := 226) F 2 dL_law_226 rfl ?_
        refine g_aload_n (pc := 227) F 0 dL_law_227 rfl ?_
        refine g_iload_n (pc := 228) F 3 dL_law_228 rfl ?_
        refine g_iconst (pc := 229) (v := 1) F dL_law_229 (by decide) ?_
        refine g_iadd (pc := 230) F dL_law_230 ?_
        refine g_nm (fun v26 => ?_)
        refine g_sld (pc := 231) F hX hbl dL_law_231 ?_
        refine g_aload_n (pc := 232) F 0 dL_law_232 rfl ?_
        refine g_iload_n (pc := 233) F 3 dL_law_233 rfl ?_
        refine g_iconst (pc := 234) (v := 2) F dL_law_234 (by decide) ?_
        refine g_iadd (pc := 235) F dL_law_235 ?_
        refine g_nm (fun v27 => ?_)
        refine g_sld (pc := 236) F hX hbl dL_law_236 ?_
        refine g_aload_n (pc := 237) F 0 dL_law_237 rfl ?_
        refine g_iload_n (pc := 238) F 3 dL_law_238 rfl ?_
        refine g_iconst (pc := 239) (v := 3) F dL_law_239 (by decide) ?_
        refine g_iadd (pc := 240) F dL_law_240 ?_
        refine g_nm (fun v28 => ?_)
        refine g_sld (pc := 241) F hX hbl dL_law_241 ?_
        refine g_aload_n (pc := 242) F 0 dL_law_242 rfl ?_
        refine g_iload_n (pc := 243) F 3 dL_law_243 rfl ?_
        refine g_iconst (pc := 244) (v := 4) F dL_law_244 (by decide) ?_
        refine g_iadd (pc := 245) F dL_law_245 ?_
        refine g_nm (fun v29 => ?_)
        refine g_sld (pc := 246) F hX hbl dL_law_246 ?_
        refine g_aload_n (pc := 247) F 0 dL_law_247 rfl ?_
        refine g_iload_n (pc := 248) F 3 dL_law_248 rfl ?_
        refine g_iconst (pc := 249) (v := 5) F dL_law_249 (by decide) ?_
        refine g_iadd (pc := 250) F dL_law_250 ?_
        refine g_nm (fun v30 => ?_)
        refine g_sld (pc := 251) F hX hbl dL_law_251 ?_
        refine g_aload_n (pc := 252) F 0 dL_law_252 rfl ?_
        refine g_iload_n (pc := 253) F 3 dL_law_253 rfl ?_
        refine g_bipush (pc := 254) (v := 6) F dL_law_254 (by decide) ?_
        refine g_iadd (pc := 256) F dL_law_256 ?_
        refine g_nm (fun v31 => ?_)
        refine g_sld (pc := 257) F hX hbl dL_law_257 ?_
        refine g_vi (pc := 258) (k := 70) (ci := 9) (fs := (oX9 ad)) (C := RX9) (T := TX9) (N := 33) (As := [.int (xs v26.toNatClampNeg), .int (xs v27.toNatClampNeg), .int (xs v28.toNatClampNeg), .int (xs v29.toNatClampNeg), .int (xs v30.toNatClampNeg), .int (xs v31.toNatClampNeg)]) (st := [.int r24]) F (c_X9_change l D ad cs F.2.2.1 (xs v26.toNatClampNeg) (xs v27.toNatClampNeg) (xs v28.toNatClampNeg) (xs v29.toNatClampNeg) (xs v30.toNatClampNeg) (xs v31.toNatClampNeg) M25) (by decide) (fun _ => rfl) rfl (cwV 6 F.1.2.2.2.2 gL_law_X9_change rfl rfl rfl hdV_X9_change ⟨by decide, by decide⟩) rfl rfl (Nat.le_of_ble_eq_true rfl) dL_law_258 hroom (fun r32 M33 => ?_)
        refine g_icmp_eq (pc := 261) F 1046 dL_law_261 (by decide) ?_ ?_
        · refine g_iinc (pc := 1046) (v := x3 + 7) F [(0, .ref b), (1, .ref (ad (0))), (2, .ref (ad (70))), (3, .int (x3 + 7))] 3 dL_law_1046 rfl rfl (by decide) rfl rfl rfl ?_
          refine g_goto (pc := 1049) F 18 dL_law_1049 (by decide) ?_
          exact ih _ _
        · refine g_iconst (pc := 264) (v := 0) F dL_law_264 (by decide) ?_
          exact g_none
      refine g_case (v := 2) (fun _ => ?_) (fun n34 => ?_)
      · refine g_tab (pc := 33) (off := 233) F 266 dL_law_33 (by decide) (by decide) (by decide) (by decide) ?_
        refine g_aload_n (pc := 266) F 1 dL_law_266 rfl ?_
        refine g_aload_n (pc := 267) F 0 dL_law_267 rfl ?_
        refine g_iload_n (pc := 268) F 3 dL_law_268 rfl ?_
        refine g_iconst (pc := 269) (v := 1) F dL_law_269 (by decide) ?_
        refine g_iadd (pc := 270) F dL_law_270 ?_
        refine g_nm (fun v35 => ?_)
        refine g_sld (pc := 271) F hX hbl dL_law_271 ?_
        refine g_aload_n (pc := 272) F 0 dL_law_272 rfl ?_
        refine g_iload_n (pc := 273) F 3 dL_law_273 rfl ?_
        refine g_iconst (pc := 274) (v := 2) F dL_law_274 (by decide) ?_
        refine g_iadd (pc := 275) F dL_law_275 ?_
        refine g_nm (fun v36 => ?_)
        refine g_sld (pc := 276) F hX hbl dL_law_276 ?_
        refine g_vi (pc := 277) (k := 0) (ci := 8) (fs := (oX8 ad)) (C := RX8) (T := TX8) (N := 6) (As := [.int (xs v35.toNatClampNeg), .int (xs v36.toNatClampNeg)]) (st := []) F (c_X8_copy l D ad cs F.2.2.1 fu (xs v35.toNatClampNeg) (xs v36.toNatClampNeg) M) (by decide) (fun _ => rfl) rfl (cwV 2 F.1.2.2.2.2 gL_law_X8_copy rfl rfl rfl hdV_X8_copy ⟨by decide, by decide⟩) rfl rfl (Nat.le_of_ble_eq_true rfl) dL_law_277 hroom (fun r37 M38 => ?_)
        refine g_aload_n (pc := 280) F 2 dL_law_280 rfl ?_
        refine g_aload_n (pc := 281) F 0 dL_law_281 rfl ?_
        refine g_iload_n (pc := 282) F 3 dL_law_282 rfl ?_
        refine g_iconst (pc := 283) (v := 1) F dL_law_283 (by decide) ?_
        refine g_iadd (pc := 284) F dL_law_284 ?_
        refine g_nm (fun v39 => ?_)
        refine g_sld (pc := 285) F hX hbl dL_law_285 ?_
        refine g_aload_n (pc := 286) F 0 dL_law_286 rfl ?_
        refine g_iload_n (pc := 287) F 3 dL_law_287 rfl ?_
        refine g_iconst (pc := 288) (v := 2) F dL_law_288 (by decide) ?_
        refine g_iadd (pc := 289) F dL_law_289 ?_
        refine g_nm (fun v40 => ?_)
        refine g_sld (pc := 290) F hX hbl dL_law_290 ?_
        refine g_vi (pc := 291) (k := 70) (ci := 9) (fs := (oX9 ad)) (C := RX9) (T := TX9) (N := 33) (As := [.int (xs v39.toNatClampNeg), .int (xs v40.toNatClampNeg)]) (st := [.int r37]) F (c_X9_copy l D ad cs F.2.2.1 fu (xs v39.toNatClampNeg) (xs v40.toNatClampNeg) M38) (by decide) (fun _ => rfl) rfl (cwV 2 F.1.2.2.2.2 gL_law_X9_copy rfl rfl rfl hdV_X9_copy ⟨by decide, by decide⟩) rfl rfl (Nat.le_of_ble_eq_true rfl) dL_law_291 hroom (fun r41 M42 => ?_)
        refine g_icmp_eq (pc := 294) F 1046 dL_law_294 (by decide) ?_ ?_
        · refine g_iinc (pc := 1046) (v := x3 + 7) F [(0, .ref b), (1, .ref (ad (0))), (2, .ref (ad (70))), (3, .int (x3 + 7))] 3 dL_law_1046 rfl rfl (by decide) rfl rfl rfl ?_
          refine g_goto (pc := 1049) F 18 dL_law_1049 (by decide) ?_
          exact ih _ _
        · refine g_iconst (pc := 297) (v := 0) F dL_law_297 (by decide) ?_
          exact g_none
      refine g_case (v := 3) (fun _ => ?_) (fun n43 => ?_)
      · refine g_tab (pc := 33) (off := 266) F 299 dL_law_33 (by decide) (by decide) (by decide) (by decide) ?_
        refine g_aload_n (pc := 299) F 1 dL_law_299 rfl ?_
        refine g_aload_n (pc := 300) F 0 dL_law_300 rfl ?_
        refine g_iload_n (pc := 301) F 3 dL_law_301 rfl ?_
        refine g_iconst (pc := 302) (v := 1) F dL_law_302 (by decide) ?_
        refine g_iadd (pc := 303) F dL_law_303 ?_
        refine g_nm (fun v44 => ?_)
        refine g_sld (pc := 304) F hX hbl dL_law_304 ?_
        refine g_aload_n (pc := 305) F 0 dL_law_305 rfl ?_
        refine g_iload_n (pc := 306) F 3 dL_law_306 rfl ?_
        refine g_iconst (pc := 307) (v := 2) F dL_law_307 (by decide) ?_
        refine g_iadd (pc := 308) F dL_law_308 ?_
        refine g_nm (fun v45 => ?_)
        refine g_sld (pc := 309) F hX hbl dL_law_309 ?_
        refine g_aload_n (pc := 310) F 0 dL_law_310 rfl ?_
        refine g_iload_n (pc := 311) F 3 dL_law_311 rfl ?_
        refine g_iconst (pc := 312) (v := 3) F dL_law_312 (by decide) ?_
        refine g_iadd (pc := 313) F dL_law_313 ?_
        refine g_nm (fun v46 => ?_)
        refine g_sld (pc := 314) F hX hbl dL_law_314 ?_
        refine g_vi (pc := 315) (k := 0) (ci := 8) (fs := (oX8 ad)) (C := RX8) (T := TX8) (N := 6) (As := [.int (xs v44.toNatClampNeg), .int (xs v45.toNatClampNeg), .int (xs v46.toNatClampNeg)]) (st := []) F (c_X8_needed l D ad cs F.2.2.1 fu (xs v44.toNatClampNeg) (xs v45.toNatClampNeg) (xs v46.toNatClampNeg) M) (by decide) (fun _ => rfl) rfl (cwV 3 F.1.2.2.2.2 gL_law_X8_needed rfl rfl rfl hdV_X8_needed ⟨by decide, by decide⟩) rfl rfl (Nat.le_of_ble_eq_true rfl) dL_law_315 hroom (fun r47 M48 => ?_)
        refine g_aload_n (pc := 318) F 2 dL_law_318 rfl ?_
        refine g_aload_n (pc := 319) F 0 dL_law_319 rfl ?_
        refine g_iload_n (pc := 320) F 3 dL_law_320 rfl ?_
        refine g_iconst (pc := 321) (v := 1) F dL_law_321 (by decide) ?_
        refine g_iadd (pc := 322) F dL_law_322 ?_
        refine g_nm (fun v49 => ?_)
        refine g_sld (pc := 323) F hX hbl dL_law_323 ?_
        refine g_aload_n (pc := 324) F 0 dL_law_324 rfl ?_
        refine g_iload_n (pc := 325) F 3 dL_law_325 rfl ?_
        refine g_iconst (pc := 326) (v := 2) F dL_law_326 (by decide) ?_
        refine g_iadd (pc := 327) F dL_law_327 ?_
        refine g_nm (fun v50 => ?_)
        refine g_sld (pc := 328) F hX hbl dL_law_328 ?_
        refine g_aload_n (pc := 329) F 0 dL_law_329 rfl ?_
        refine g_iload_n (pc := 330) F 3 dL_law_330 rfl ?_
        refine g_iconst (pc := 331) (v := 3) F dL_law_331 (by decide) ?_
        refine g_iadd (pc := 332) F dL_law_332 ?_
        refine g_nm (fun v51 => ?_)
        refine g_sld (pc := 333) F hX hbl dL_law_333 ?_
        refine g_vi (pc := 334) (k := 70) (ci := 9) (fs := (oX9 ad)) (C := RX9) (T := TX9) (N := 33) (As := [.int (xs v49.toNatClampNeg), .int (xs v50.toNatClampNeg), .int (xs v51.toNatClampNeg)]) (st := [.int r47]) F (c_X9_needed l D ad cs F.2.2.1 fu (xs v49.toNatClampNeg) (xs v50.toNatClampNeg) (xs v51.toNatClampNeg) M48) (by decide) (fun _ => rfl) rfl (cwV 3 F.1.2.2.2.2 gL_law_X9_needed rfl rfl rfl hdV_X9_needed ⟨by decide, by decide⟩) rfl rfl (Nat.le_of_ble_eq_true rfl) dL_law_334 hroom (fun r52 M53 => ?_)
        refine g_icmp_eq (pc := 337) F 1046 dL_law_337 (by decide) ?_ ?_
        · refine g_iinc (pc := 1046) (v := x3 + 7) F [(0, .ref b), (1, .ref (ad (0))), (2, .ref (ad (70))), (3, .int (x3 + 7))] 3 dL_law_1046 rfl rfl (by decide) rfl rfl rfl ?_
          refine g_goto (pc := 1049) F 18 dL_law_1049 (by decide) ?_
          exact ih _ _
        · refine g_iconst (pc := 340) (v := 0) F dL_law_340 (by decide) ?_
          exact g_none
      refine g_case (v := 4) (fun _ => ?_) (fun n54 => ?_)
      · refine g_tab (pc := 33) (off := 309) F 342 dL_law_33 (by decide) (by decide) (by decide) (by decide) ?_
        refine g_aload_n (pc := 342) F 1 dL_law_342 rfl ?_
        refine g_aload_n (pc := 343) F 0 dL_law_343 rfl ?_
        refine g_iload_n (pc := 344) F 3 dL_law_344 rfl ?_
        refine g_iconst (pc := 345) (v := 1) F dL_law_345 (by decide) ?_
        refine g_iadd (pc := 346) F dL_law_346 ?_
        refine g_nm (fun v55 => ?_)
        refine g_sld (pc := 347) F hX hbl dL_law_347 ?_
        refine g_aload_n (pc := 348) F 0 dL_law_348 rfl ?_
        refine g_iload_n (pc := 349) F 3 dL_law_349 rfl ?_
        refine g_iconst (pc := 350) (v := 2) F dL_law_350 (by decide) ?_
        refine g_iadd (pc := 351) F dL_law_351 ?_
        refine g_nm (fun v56 => ?_)
        refine g_sld (pc := 352) F hX hbl dL_law_352 ?_
        refine g_vi (pc := 353) (k := 0) (ci := 8) (fs := (oX8 ad)) (C := RX8) (T := TX8) (N := 6) (As := [.int (xs v55.toNatClampNeg), .int (xs v56.toNatClampNeg)]) (st := []) F (c_X8_spans l D ad cs F.2.2.1 fu (xs v55.toNatClampNeg) (xs v56.toNatClampNeg) M) (by decide) (fun _ => rfl) rfl (cwV 2 F.1.2.2.2.2 gL_law_X8_spans rfl rfl rfl hdV_X8_spans ⟨by decide, by decide⟩) rfl rfl (Nat.le_of_ble_eq_true rfl) dL_law_353 hroom (fun r57 M58 => ?_)
        refine g_aload_n (pc := 356) F 2 dL_law_356 rfl ?_
        refine g_aload_n (pc := 357) F 0 dL_law_357 rfl ?_
        refine g_iload_n (pc := 358) F 3 dL_law_358 rfl ?_
        refine g_iconst (pc := 359) (v := 1) F dL_law_359 (by decide) ?_
        refine g_iadd (pc := 360) F dL_law_360 ?_
        refine g_nm (fun v59 => ?_)
        refine g_sld (pc := 361) F hX hbl dL_law_361 ?_
        refine g_aload_n (pc := 362) F 0 dL_law_362 rfl ?_
        refine g_iload_n (pc := 363) F 3 dL_law_363 rfl ?_
        refine g_iconst (pc := 364) (v := 2) F dL_law_364 (by decide) ?_
        refine g_iadd (pc := 365) F dL_law_365 ?_
        refine g_nm (fun v60 => ?_)
        refine g_sld (pc := 366) F hX hbl dL_law_366 ?_
        refine g_vi (pc := 367) (k := 70) (ci := 9) (fs := (oX9 ad)) (C := RX9) (T := TX9) (N := 33) (As := [.int (xs v59.toNatClampNeg), .int (xs v60.toNatClampNeg)]) (st := [.int r57]) F (c_X9_spans l D ad cs F.2.2.1 fu (xs v59.toNatClampNeg) (xs v60.toNatClampNeg) M58) (by decide) (fun _ => rfl) rfl (cwV 2 F.1.2.2.2.2 gL_law_X9_spans rfl rfl rfl hdV_X9_spans ⟨by decide, by decide⟩) rfl rfl (Nat.le_of_ble_eq_true rfl) dL_law_367 hroom (fun r61 M62 => ?_)
        refine g_icmp_eq (pc := 370) F 1046 dL_law_370 (by decide) ?_ ?_
        · refine g_iinc (pc := 1046) (v := x3 + 7) F [(0, .ref b), (1, .ref (ad (0))), (2, .ref (ad (70))), (3, .int (x3 + 7))] 3 dL_law_1046 rfl rfl (by decide) rfl rfl rfl ?_
          refine g_goto (pc := 1049) F 18 dL_law_1049 (by decide) ?_
          exact ih _ _
        · refine g_iconst (pc := 373) (v := 0) F dL_law_373 (by decide) ?_
          exact g_none
      refine g_case (v := 5) (fun _ => ?_) (fun n63 => ?_)
      · refine g_tab (pc := 33) (off := 342) F 375 dL_law_33 (by decide) (by decide) (by decide) (by decide) ?_
        refine g_aload_n (pc := 375) F 1 dL_law_375 rfl ?_
        refine g_aload_n (pc := 376) F 0 dL_law_376 rfl ?_
        refine g_iload_n (pc := 377) F 3 dL_law_377 rfl ?_
        refine g_iconst (pc := 378) (v := 1) F dL_law_378 (by decide) ?_
        refine g_iadd (pc := 379) F dL_law_379 ?_
        refine g_nm (fun v64 => ?_)
        refine g_sld (pc := 380) F hX hbl dL_law_380 ?_
        refine g_aload_n (pc := 381) F 0 dL_law_381 rfl ?_
        refine g_iload_n (pc := 382) F 3 dL_law_382 rfl ?_
        refine g_iconst (pc := 383) (v := 2) F dL_law_383 (by decide) ?_
        refine g_iadd (pc := 384) F dL_law_384 ?_
        refine g_nm (fun v65 => ?_)
        refine g_sld (pc := 385) F hX hbl dL_law_385 ?_
        refine g_aload_n (pc := 386) F 0 dL_law_386 rfl ?_
        refine g_iload_n (pc := 387) F 3 dL_law_387 rfl ?_
        refine g_iconst (pc := 388) (v := 3) F dL_law_388 (by decide) ?_
        refine g_iadd (pc := 389) F dL_law_389 ?_
        refine g_nm (fun v66 => ?_)
        refine g_sld (pc := 390) F hX hbl dL_law_390 ?_
        refine g_aload_n (pc := 391) F 0 dL_law_391 rfl ?_
        refine g_iload_n (pc := 392) F 3 dL_law_392 rfl ?_
        refine g_iconst (pc := 393) (v := 4) F dL_law_393 (by decide) ?_
        refine g_iadd (pc := 394) F dL_law_394 ?_
        refine g_nm (fun v67 => ?_)
        refine g_sld (pc := 395) F hX hbl dL_law_395 ?_
        refine g_vi (pc := 396) (k := 0) (ci := 8) (fs := (oX8 ad)) (C := RX8) (T := TX8) (N := 6) (As := [.int (xs v64.toNatClampNeg), .int (xs v65.toNatClampNeg), .int (xs v66.toNatClampNeg), .int (xs v67.toNatClampNeg)]) (st := []) F (c_X8_span l D ad cs F.2.2.1 fu (xs v64.toNatClampNeg) (xs v65.toNatClampNeg) (xs v66.toNatClampNeg) (xs v67.toNatClampNeg) M) (by decide) (fun _ => rfl) rfl (cwV 4 F.1.2.2.2.2 gL_law_X8_span rfl rfl rfl hdV_X8_span ⟨by decide, by decide⟩) rfl rfl (Nat.le_of_ble_eq_true rfl) dL_law_396 hroom (fun r68 M69 => ?_)
        refine g_aload_n (pc := 399) F 2 dL_law_399 rfl ?_
        refine g_aload_n (pc := 400) F 0 dL_law_400 rfl ?_
        refine g_iload_n (pc := 401) F 3 dL_law_401 rfl ?_
        refine g_iconst (pc := 402) (v := 1) F dL_law_402 (by decide) ?_
        refine g_iadd (pc := 403) F dL_law_403 ?_
        refine g_nm (fun v70 => ?_)
        refine g_sld (pc := 404) F hX hbl dL_law_404 ?_
        refine g_aload_n (pc := 405) F 0 dL_law_405 rfl ?_
        refine g_iload_n (pc := 406) F 3 dL_law_406 rfl ?_
        refine g_iconst (pc := 407) (v := 2) F dL_law_407 (by decide) ?_
        refine g_iadd (pc := 408) F dL_law_408 ?_
        refine g_nm (fun v71 => ?_)
        refine g_sld (pc := 409) F hX hbl dL_law_409 ?_
        refine g_aload_n (pc := 410) F 0 dL_law_410 rfl ?_
        refine g_iload_n (pc := 411) F 3 dL_law_411 rfl ?_
        refine g_iconst (pc := 412) (v := 3) F dL_law_412 (by decide) ?_
        refine g_iadd (pc := 413) F dL_law_413 ?_
        refine g_nm (fun v72 => ?_)
        refine g_sld (pc := 414) F hX hbl dL_law_414 ?_
        refine g_aload_n (pc := 415) F 0 dL_law_415 rfl ?_
        refine g_iload_n (pc := 416) F 3 dL_law_416 rfl ?_
        refine g_iconst (pc := 417) (v := 4) F dL_law_417 (by decide) ?_
        refine g_iadd (pc := 418) F dL_law_418 ?_
        refine g_nm (fun v73 => ?_)
        refine g_sld (pc := 419) F hX hbl dL_law_419 ?_
        refine g_vi (pc := 420) (k := 70) (ci := 9) (fs := (oX9 ad)) (C := RX9) (T := TX9) (N := 33) (As := [.int (xs v70.toNatClampNeg), .int (xs v71.toNatClampNeg), .int (xs v72.toNatClampNeg), .int (xs v73.toNatClampNeg)]) (st := [.int r68]) F (c_X9_span l D ad cs F.2.2.1 fu (xs v70.toNatClampNeg) (xs v71.toNatClampNeg) (xs v72.toNatClampNeg) (xs v73.toNatClampNeg) M69) (by decide) (fun _ => rfl) rfl (cwV 4 F.1.2.2.2.2 gL_law_X9_span rfl rfl rfl hdV_X9_span ⟨by decide, by decide⟩) rfl rfl (Nat.le_of_ble_eq_true rfl) dL_law_420 hroom (fun r74 M75 => ?_)
        refine g_icmp_eq (pc := 423) F 1046 dL_law_423 (by decide) ?_ ?_
        · refine g_iinc (pc := 1046) (v := x3 + 7) F [(0, .ref b), (1, .ref (ad (0))), (2, .ref (ad (70))), (3, .int (x3 + 7))] 3 dL_law_1046 rfl rfl (by decide) rfl rfl rfl ?_
          refine g_goto (pc := 1049) F 18 dL_law_1049 (by decide) ?_
          exact ih _ _
        · refine g_iconst (pc := 426) (v := 0) F dL_law_426 (by decide) ?_
          exact g_none
      refine g_case (v := 6) (fun _ => ?_) (fun n76 => ?_)
      · refine g_tab (pc := 33) (off := 395) F 428 dL_law_33 (by decide) (by decide) (by decide) (by decide) ?_
        refine g_aload_n (pc := 428) F 1 dL_law_428 rfl ?_
        refine g_aload_n (pc := 429) F 0 dL_law_429 rfl ?_
        refine g_iload_n (pc := 430) F 3 dL_law_430 rfl ?_
        refine g_iconst (pc := 431) (v := 1) F dL_law_431 (by decide) ?_
        refine g_iadd (pc := 432) F dL_law_432 ?_
        refine g_nm (fun v77 => ?_)
        refine g_sld (pc := 433) F hX hbl dL_law_433 ?_
        refine g_aload_n (pc := 434) F 0 dL_law_434 rfl ?_
        refine g_iload_n (pc := 435) F 3 dL_law_435 rfl ?_
        refine g_iconst (pc := 436) (v := 2) F dL_law_436 (by decide) ?_
        refine g_iadd (pc := 437) F dL_law_437 ?_
        refine g_nm (fun v78 => ?_)
        refine g_sld (pc := 438) F hX hbl dL_law_438 ?_
        refine g_aload_n (pc := 439) F 0 dL_law_439 rfl ?_
        refine g_iload_n (pc := 440) F 3 dL_law_440 rfl ?_
        refine g_iconst (pc := 441) (v := 3) F dL_law_441 (by decide) ?_
        refine g_iadd (pc := 442) F dL_law_442 ?_
        refine g_nm (fun v79 => ?_)
        refine g_sld (pc := 443) F hX hbl dL_law_443 ?_
        refine g_aload_n (pc := 444) F 0 dL_law_444 rfl ?_
        refine g_iload_n (pc := 445) F 3 dL_law_445 rfl ?_
        refine g_iconst (pc := 446) (v := 4) F dL_law_446 (by decide) ?_
        refine g_iadd (pc := 447) F dL_law_447 ?_
        refine g_nm (fun v80 => ?_)
        refine g_sld (pc := 448) F hX hbl dL_law_448 ?_
        refine g_vi (pc := 449) (k := 0) (ci := 8) (fs := (oX8 ad)) (C := RX8) (T := TX8) (N := 6) (As := [.int (xs v77.toNatClampNeg), .int (xs v78.toNatClampNeg), .int (xs v79.toNatClampNeg), .int (xs v80.toNatClampNeg)]) (st := []) F (c_X8_steps l D ad cs F.2.2.1 fu (xs v77.toNatClampNeg) (xs v78.toNatClampNeg) (xs v79.toNatClampNeg) (xs v80.toNatClampNeg) M) (by decide) (fun _ => rfl) rfl (cwV 4 F.1.2.2.2.2 gL_law_X8_steps rfl rfl rfl hdV_X8_steps ⟨by decide, by decide⟩) rfl rfl (Nat.le_of_ble_eq_true rfl) dL_law_449 hroom (fun r81 M82 => ?_)
        refine g_aload_n (pc := 452) F 2 dL_law_452 rfl ?_
        refine g_aload_n (pc := 453) F 0 dL_law_453 rfl ?_
        refine g_iload_n (pc := 454) F 3 dL_law_454 rfl ?_
        refine g_iconst (pc := 455) (v := 1) F dL_law_455 (by decide) ?_
        refine g_iadd (pc := 456) F dL_law_456 ?_
        refine g_nm (fun v83 => ?_)
        refine g_sld (pc := 457) F hX hbl dL_law_457 ?_
        refine g_aload_n (pc := 458) F 0 dL_law_458 rfl ?_
        refine g_iload_n (pc := 459) F 3 dL_law_459 rfl ?_
        refine g_iconst (pc := 460) (v := 2) F dL_law_460 (by decide) ?_
        refine g_iadd (pc := 461) F dL_law_461 ?_
        refine g_nm (fun v84 => ?_)
        refine g_sld (pc := 462) F hX hbl dL_law_462 ?_
        refine g_aload_n (pc := 463) F 0 dL_law_463 rfl ?_
        refine g_iload_n (pc := 464) F 3 dL_law_464 rfl ?_
        refine g_iconst (pc := 465) (v := 3) F dL_law_465 (by decide) ?_
        refine g_iadd (pc := 466) F dL_law_466 ?_
        refine g_nm (fun v85 => ?_)
        refine g_sld (pc := 467) F hX hbl dL_law_467 ?_
        refine g_aload_n (pc := 468) F 0 dL_law_468 rfl ?_
        refine g_iload_n (pc := 469) F 3 dL_law_469 rfl ?_
        refine g_iconst (pc := 470) (v := 4) F dL_law_470 (by decide) ?_
        refine g_iadd (pc := 471) F dL_law_471 ?_
        refine g_nm (fun v86 => ?_)
        refine g_sld (pc := 472) F hX hbl dL_law_472 ?_
        refine g_vi (pc := 473) (k := 70) (ci := 9) (fs := (oX9 ad)) (C := RX9) (T := TX9) (N := 33) (As := [.int (xs v83.toNatClampNeg), .int (xs v84.toNatClampNeg), .int (xs v85.toNatClampNeg), .int (xs v86.toNatClampNeg)]) (st := [.int r81]) F (c_X9_steps l D ad cs F.2.2.1 fu (xs v83.toNatClampNeg) (xs v84.toNatClampNeg) (xs v85.toNatClampNeg) (xs v86.toNatClampNeg) M82) (by decide) (fun _ => rfl) rfl (cwV 4 F.1.2.2.2.2 gL_law_X9_steps rfl rfl rfl hdV_X9_steps ⟨by decide, by decide⟩) rfl rfl (Nat.le_of_ble_eq_true rfl) dL_law_473 hroom (fun r87 M88 => ?_)
        refine g_icmp_eq (pc := 476) F 1046 dL_law_476 (by decide) ?_ ?_
        · refine g_iinc (pc := 1046) (v := x3 + 7) F [(0, .ref b), (1, .ref (ad (0))), (2, .ref (ad (70))), (3, .int (x3 + 7))] 3 dL_law_1046 rfl rfl (by decide) rfl rfl rfl ?_
          refine g_goto (pc := 1049) F 18 dL_law_1049 (by decide) ?_
          exact ih _ _
        · refine g_iconst (pc := 479) (v := 0) F dL_law_479 (by decide) ?_
          exact g_none
      refine g_case (v := 7) (fun _ => ?_) (fun n89 => ?_)
      · refine g_tab (pc := 33) (off := 448) F 481 dL_law_33 (by decide) (by decide) (by decide) (by decide) ?_
        refine g_aload_n (pc := 481) F 1 dL_law_481 rfl ?_
        refine g_aload_n (pc := 482) F 0 dL_law_482 rfl ?_
        refine g_iload_n (pc := 483) F 3 dL_law_483 rfl ?_
        refine g_iconst (pc := 484) (v := 1) F dL_law_484 (by decide) ?_
        refine g_iadd (pc := 485) F dL_law_485 ?_
        refine g_nm (fun v90 => ?_)
        refine g_sld (pc := 486) F hX hbl dL_law_486 ?_
        refine g_aload_n (pc := 487) F 0 dL_law_487 rfl ?_
        refine g_iload_n (pc := 488) F 3 dL_law_488 rfl ?_
        refine g_iconst (pc := 489) (v := 2) F dL_law_489 (by decide) ?_
        refine g_iadd (pc := 490) F dL_law_490 ?_
        refine g_nm (fun v91 => ?_)
        refine g_sld (pc := 491) F hX hbl dL_law_491 ?_
        refine g_aload_n (pc := 492) F 0 dL_law_492 rfl ?_
        refine g_iload_n (pc := 493) F 3 dL_law_493 rfl ?_
        refine g_iconst (pc := 494) (v := 3) F dL_law_494 (by decide) ?_
        refine g_iadd (pc := 495) F dL_law_495 ?_
        refine g_nm (fun v92 => ?_)
        refine g_sld (pc := 496) F hX hbl dL_law_496 ?_
        refine g_aload_n (pc := 497) F 0 dL_law_497 rfl ?_
        refine g_iload_n (pc := 498) F 3 dL_law_498 rfl ?_
        refine g_iconst (pc := 499) (v := 4) F dL_law_499 (by decide) ?_
        refine g_iadd (pc := 500) F dL_law_500 ?_
        refine g_nm (fun v93 => ?_)
        refine g_sld (pc := 501) F hX hbl dL_law_501 ?_
        refine g_aload_n (pc := 502) F 0 dL_law_502 rfl ?_
        refine g_iload_n (pc := 503) F 3 dL_law_503 rfl ?_
        refine g_iconst (pc := 504) (v := 5) F dL_law_504 (by decide) ?_
        refine g_iadd (pc := 505) F dL_law_505 ?_
        refine g_nm (fun v94 => ?_)
        refine g_sld (pc := 506) F hX hbl dL_law_506 ?_
        refine g_vi (pc := 507) (k := 0) (ci := 8) (fs := (oX8 ad)) (C := RX8) (T := TX8) (N := 6) (As := [.int (xs v90.toNatClampNeg), .int (xs v91.toNatClampNeg), .int (xs v92.toNatClampNeg), .int (xs v93.toNatClampNeg), .int (xs v94.toNatClampNeg)]) (st := []) F (c_X8_way l D ad cs F.2.2.1 fu (xs v90.toNatClampNeg) (xs v91.toNatClampNeg) (xs v92.toNatClampNeg) (xs v93.toNatClampNeg) (xs v94.toNatClampNeg) M) (by decide) (fun _ => rfl) rfl (cwV 5 F.1.2.2.2.2 gL_law_X8_way rfl rfl rfl hdV_X8_way ⟨by decide, by decide⟩) rfl rfl (Nat.le_of_ble_eq_true rfl) dL_law_507 hroom (fun r95 M96 => ?_)
        refine g_aload_n (pc := 510) F 2 dL_law_510 rfl ?_
        refine g_aload_n (pc := 511) F 0 dL_law_511 rfl ?_
        refine g_iload_n (pc := 512) F 3 dL_law_512 rfl ?_
        refine g_iconst (pc := 513) (v := 1) F dL_law_513 (by decide) ?_
        refine g_iadd (pc := 514) F dL_law_514 ?_
        refine g_nm (fun v97 => ?_)
        refine g_sld (pc := 515) F hX hbl dL_law_515 ?_
        refine g_aload_n (pc := 516) F 0 dL_law_516 rfl ?_
        refine g_iload_n (pc := 517) F 3 dL_law_517 rfl ?_
        refine g_iconst (pc := 518) (v := 2) F dL_law_518 (by decide) ?_
        refine g_iadd (pc := 519) F dL_law_519 ?_
        refine g_nm (fun v98 => ?_)
        refine g_sld (pc := 520) F hX hbl dL_law_520 ?_
        refine g_aload_n (pc := 521) F 0 dL_law_521 rfl ?_
        refine g_iload_n (pc := 522) F 3 dL_law_522 rfl ?_
        refine g_iconst (pc := 523) (v := 3) F dL_law_523 (by decide) ?_
        refine g_iadd (pc := 524) F dL_law_524 ?_
        refine g_nm (fun v99 => ?_)
        refine g_sld (pc := 525) F hX hbl dL_law_525 ?_
        refine g_aload_n (pc := 526) F 0 dL_law_526 rfl ?_
        refine g_iload_n (pc := 527) F 3 dL_law_527 rfl ?_
        refine g_iconst (pc := 528) (v := 4) F dL_law_528 (by decide) ?_
        refine g_iadd (pc := 529) F dL_law_529 ?_
        refine g_nm (fun v100 => ?_)
        refine g_sld (pc := 530) F hX hbl dL_law_530 ?_
        refine g_aload_n (pc := 531) F 0 dL_law_531 rfl ?_
        refine g_iload_n (pc := 532) F 3 dL_law_532 rfl ?_
        refine g_iconst (pc := 533) (v := 5) F dL_law_533 (by decide) ?_
        refine g_iadd (pc := 534) F dL_law_534 ?_
        refine g_nm (fun v101 => ?_)
        refine g_sld (pc := 535) F hX hbl dL_law_535 ?_
        refine g_vi (pc := 536) (k := 70) (ci := 9) (fs := (oX9 ad)) (C := RX9) (T := TX9) (N := 33) (As := [.int (xs v97.toNatClampNeg), .int (xs v98.toNatClampNeg), .int (xs v99.toNatClampNeg), .int (xs v100.toNatClampNeg), .int (xs v101.toNatClampNeg)]) (st := [.int r95]) F (c_X9_way l D ad cs F.2.2.1 fu (xs v97.toNatClampNeg) (xs v98.toNatClampNeg) (xs v99.toNatClampNeg) (xs v100.toNatClampNeg) (xs v101.toNatClampNeg) M96) (by decide) (fun _ => rfl) rfl (cwV 5 F.1.2.2.2.2 gL_law_X9_way rfl rfl rfl hdV_X9_way ⟨by decide, by decide⟩) rfl rfl (Nat.le_of_ble_eq_true rfl) dL_law_536 hroom (fun r102 M103 => ?_)
        refine g_icmp_eq (pc := 539) F 1046 dL_law_539 (by decide) ?_ ?_
        · refine g_iinc (pc := 1046) (v := x3 + 7) F [(0, .ref b), (1, .ref (ad (0))), (2, .ref (ad (70))), (3, .int (x3 + 7))] 3 dL_law_1046 rfl rfl (by decide) rfl rfl rfl ?_
          refine g_goto (pc := 1049) F 18 dL_law_1049 (by decide) ?_
          exact ih _ _
        · refine g_iconst (pc := 542) (v := 0) F dL_law_542 (by decide) ?_
          exact g_none
      refine g_case (v := 8) (fun _ => ?_) (fun n104 => ?_)
      · refine g_tab (pc := 33) (off := 511) F 544 dL_law_33 (by decide) (by decide) (by decide) (by decide) ?_
        refine g_aload_n (pc := 544) F 1 dL_law_544 rfl ?_
        refine g_aload_n (pc := 545) F 0 dL_law_545 rfl ?_
        refine g_iload_n (pc := 546) F 3 dL_law_546 rfl ?_
        refine g_iconst (pc := 547) (v := 1) F dL_law_547 (by decide) ?_
        refine g_iadd (pc := 548) F dL_law_548 ?_
        refine g_nm (fun v105 => ?_)
        refine g_sld (pc := 549) F hX hbl dL_law_549 ?_
        refine g_aload_n (pc := 550) F 0 dL_law_550 rfl ?_
        refine g_iload_n (pc := 551) F 3 dL_law_551 rfl ?_
        refine g_iconst (pc := 552) (v := 2) F dL_law_552 (by decide) ?_
        refine g_iadd (pc := 553) F dL_law_553 ?_
        refine g_nm (fun v106 => ?_)
        refine g_sld (pc := 554) F hX hbl dL_law_554 ?_
        refine g_aload_n (pc := 555) F 0 dL_law_555 rfl ?_
        refine g_iload_n (pc := 556) F 3 dL_law_556 rfl ?_
        refine g_iconst (pc := 557) (v := 3) F dL_law_557 (by decide) ?_
        refine g_iadd (pc := 558) F dL_law_558 ?_
        refine g_nm (fun v107 => ?_)
        refine g_sld (pc := 559) F hX hbl dL_law_559 ?_
        refine g_aload_n (pc := 560) F 0 dL_law_560 rfl ?_
        refine g_iload_n (pc := 561) F 3 dL_law_561 rfl ?_
        refine g_iconst (pc := 562) (v := 4) F dL_law_562 (by decide) ?_
        refine g_iadd (pc := 563) F dL_law_563 ?_
        refine g_nm (fun v108 => ?_)
        refine g_sld (pc := 564) F hX hbl dL_law_564 ?_
        refine g_aload_n (pc := 565) F 0 dL_law_565 rfl ?_
        refine g_iload_n (pc := 566) F 3 dL_law_566 rfl ?_
        refine g_iconst (pc := 567) (v := 5) F dL_law_567 (by decide) ?_
        refine g_iadd (pc := 568) F dL_law_568 ?_
        refine g_nm (fun v109 => ?_)
        refine g_sld (pc := 569) F hX hbl dL_law_569 ?_
        refine g_vi (pc := 570) (k := 0) (ci := 8) (fs := (oX8 ad)) (C := RX8) (T := TX8) (N := 6) (As := [.int (xs v105.toNatClampNeg), .int (xs v106.toNatClampNeg), .int (xs v107.toNatClampNeg), .int (xs v108.toNatClampNeg), .int (xs v109.toNatClampNeg)]) (st := []) F (c_X8_feed l D ad cs F.2.2.1 fu (xs v105.toNatClampNeg) (xs v106.toNatClampNeg) (xs v107.toNatClampNeg) (xs v108.toNatClampNeg) (xs v109.toNatClampNeg) M) (by decide) (fun _ => rfl) rfl (cwV 5 F.1.2.2.2.2 gL_law_X8_feed rfl rfl rfl hdV_X8_feed ⟨by decide, by decide⟩) rfl rfl (Nat.le_of_ble_eq_true rfl) dL_law_570 hroom (fun r110 M111 => ?_)
        refine g_aload_n (pc := 573) F 2 dL_law_573 rfl ?_
        refine g_aload_n (pc := 574) F 0 dL_law_574 rfl ?_
        refine g_iload_n (pc := 575) F 3 dL_law_575 rfl ?_
        refine g_iconst (pc := 576) (v := 1) F dL_law_576 (by decide) ?_
        refine g_iadd (pc := 577) F dL_law_577 ?_
        refine g_nm (fun v112 => ?_)
        refine g_sld (pc := 578) F hX hbl dL_law_578 ?_
        refine g_aload_n (pc := 579) F 0 dL_law_579 rfl ?_
        refine g_iload_n (pc := 580) F 3 dL_law_580 rfl ?_
        refine g_iconst (pc := 581) (v := 2) F dL_law_581 (by decide) ?_
        refine g_iadd (pc := 582) F dL_law_582 ?_
        refine g_nm (fun v113 => ?_)
        refine g_sld (pc := 583) F hX hbl dL_law_583 ?_
        refine g_aload_n (pc := 584) F 0 dL_law_584 rfl ?_
        refine g_iload_n (pc := 585) F 3 dL_law_585 rfl ?_
        refine g_iconst (pc := 586) (v := 3) F dL_law_586 (by decide) ?_
        refine g_iadd (pc := 587) F dL_law_587 ?_
        refine g_nm (fun v114 => ?_)
        refine g_sld (pc := 588) F hX hbl dL_law_588 ?_
        refine g_aload_n (pc := 589) F 0 dL_law_589 rfl ?_
        refine g_iload_n (pc := 590) F 3 dL_law_590 rfl ?_
        refine g_iconst (pc := 591) (v := 4) F dL_law_591 (by decide) ?_
        refine g_iadd (pc := 592) F dL_law_592 ?_
        refine g_nm (fun v115 => ?_)
        refine g_sld (pc := 593) F hX hbl dL_law_593 ?_
        refine g_aload_n (pc := 594) F 0 dL_law_594 rfl ?_
        refine g_iload_n (pc := 595) F 3 dL_law_595 rfl ?_
        refine g_iconst (pc := 596) (v := 5) F dL_law_596 (by decide) ?_
        refine g_iadd (pc := 597) F dL_law_597 ?_
        refine g_nm (fun v116 => ?_)
        refine g_sld (pc := 598) F hX hbl dL_law_598 ?_
        refine g_vi (pc := 599) (k := 70) (ci := 9) (fs := (oX9 ad)) (C := RX9) (T := TX9) (N := 33) (As := [.int (xs v112.toNatClampNeg), .int (xs v113.toNatClampNeg), .int (xs v114.toNatClampNeg), .int (xs v115.toNatClampNeg), .int (xs v116.toNatClampNeg)]) (st := [.int r110]) F (c_X9_feed l D ad cs F.2.2.1 fu (xs v112.toNatClampNeg) (xs v113.toNatClampNeg) (xs v114.toNatClampNeg) (xs v115.toNatClampNeg) (xs v116.toNatClampNeg) M111) (by decide) (fun _ => rfl) rfl (cwV 5 F.1.2.2.2.2 gL_law_X9_feed rfl rfl rfl hdV_X9_feed ⟨by decide, by decide⟩) rfl rfl (Nat.le_of_ble_eq_true rfl) dL_law_599 hroom (fun r117 M118 => ?_)
        refine g_icmp_eq (pc := 602) F 1046 dL_law_602 (by decide) ?_ ?_
        · refine g_iinc (pc := 1046) (v := x3 + 7) F [(0, .ref b), (1, .ref (ad (0))), (2, .ref (ad (70))), (3, .int (x3 + 7))] 3 dL_law_1046 rfl rfl (by decide) rfl rfl rfl ?_
          refine g_goto (pc := 1049) F 18 dL_law_1049 (by decide) ?_
          exact ih _ _
        · refine g_iconst (pc := 605) (v := 0) F dL_law_605 (by decide) ?_
          exact g_none
      refine g_case (v := 9) (fun _ => ?_) (fun n119 => ?_)
      · refine g_tab (pc := 33) (off := 574) F 607 dL_law_33 (by decide) (by decide) (by decide) (by decide) ?_
        refine g_aload_n (pc := 607) F 1 dL_law_607 rfl ?_
        refine g_aload_n (pc := 608) F 0 dL_law_608 rfl ?_
        refine g_iload_n (pc := 609) F 3 dL_law_609 rfl ?_
        refine g_iconst (pc := 610) (v := 1) F dL_law_610 (by decide) ?_
        refine g_iadd (pc := 611) F dL_law_611 ?_
        refine g_nm (fun v120 => ?_)
        refine g_sld (pc := 612) F hX hbl dL_law_612 ?_
        refine g_aload_n (pc := 613) F 0 dL_law_613 rfl ?_
        refine g_iload_n (pc := 614) F 3 dL_law_614 rfl ?_
        refine g_iconst (pc := 615) (v := 2) F dL_law_615 (by decide) ?_
        refine g_iadd (pc := 616) F dL_law_616 ?_
        refine g_nm (fun v121 => ?_)
        refine g_sld (pc := 617) F hX hbl dL_law_617 ?_
        refine g_vi (pc := 618) (k := 0) (ci := 8) (fs := (oX8 ad)) (C := RX8) (T := TX8) (N := 6) (As := [.int (xs v120.toNatClampNeg), .int (xs v121.toNatClampNeg)]) (st := []) F (c_X8_run l D ad cs F.2.2.1 fu (xs v120.toNatClampNeg) (xs v121.toNatClampNeg) M) (by decide) (fun _ => rfl) rfl (cwV 2 F.1.2.2.2.2 gL_law_X8_run rfl rfl rfl hdV_X8_run ⟨by decide, by decide⟩) rfl rfl (Nat.le_of_ble_eq_true rfl) dL_law_618 hroom (fun r122 M123 => ?_)
        refine g_aload_n (pc := 621) F 2 dL_law_621 rfl ?_
        refine g_aload_n (pc := 622) F 0 dL_law_622 rfl ?_
        refine g_iload_n (pc := 623) F 3 dL_law_623 rfl ?_
        refine g_iconst (pc := 624) (v := 1) F dL_law_624 (by decide) ?_
        refine g_iadd (pc := 625) F dL_law_625 ?_
        refine g_nm (fun v124 => ?_)
        refine g_sld (pc := 626) F hX hbl dL_law_626 ?_
        refine g_aload_n (pc := 627) F 0 dL_law_627 rfl ?_
        refine g_iload_n (pc := 628) F 3 dL_law_628 rfl ?_
        refine g_iconst (pc := 629) (v := 2) F dL_law_629 (by decide) ?_
        refine g_iadd (pc := 630) F dL_law_630 ?_
        refine g_nm (fun v125 => ?_)
        refine g_sld (pc := 631) F hX hbl dL_law_631 ?_
        refine g_vi (pc := 632) (k := 70) (ci := 9) (fs := (oX9 ad)) (C := RX9) (T := TX9) (N := 33) (As := [.int (xs v124.toNatClampNeg), .int (xs v125.toNatClampNeg)]) (st := [.int r122]) F (c_X9_run l D ad cs F.2.2.1 fu (xs v124.toNatClampNeg) (xs v125.toNatClampNeg) M123) (by decide) (fun _ => rfl) rfl (cwV 2 F.1.2.2.2.2 gL_law_X9_run rfl rfl rfl hdV_X9_run ⟨by decide, by decide⟩) rfl rfl (Nat.le_of_ble_eq_true rfl) dL_law_632 hroom (fun r126 M127 => ?_)
        refine g_icmp_eq (pc := 635) F 1046 dL_law_635 (by decide) ?_ ?_
        · refine g_iinc (pc := 1046) (v := x3 + 7) F [(0, .ref b), (1, .ref (ad (0))), (2, .ref (ad (70))), (3, .int (x3 + 7))] 3 dL_law_1046 rfl rfl (by decide) rfl rfl rfl ?_
          refine g_goto (pc := 1049) F 18 dL_law_1049 (by decide) ?_
          exact ih _ _
        · refine g_iconst (pc := 638) (v := 0) F dL_law_638 (by decide) ?_
          exact g_none
      refine g_case (v := 10) (fun _ => ?_) (fun n128 => ?_)
      · refine g_tab (pc := 33) (off := 607) F 640 dL_law_33 (by decide) (by decide) (by decide) (by decide) ?_
        refine g_aload_n (pc := 640) F 1 dL_law_640 rfl ?_
        refine g_vi (pc := 641) (k := 0) (ci := 8) (fs := (oX8 ad)) (C := RX8) (T := TX8) (N := 6) (As := []) (st := []) F (c_X8_ended l D ad cs F.2.2.1 M) (by decide) (fun _ => rfl) rfl (cwV 0 F.1.2.2.2.2 gL_law_X8_ended rfl rfl rfl hdV_X8_ended ⟨by decide, by decide⟩) rfl rfl (Nat.le_of_ble_eq_true rfl) dL_law_641 hroom (fun r129 M130 => ?_)
        refine g_aload_n (pc := 644) F 2 dL_law_644 rfl ?_
        refine g_vi (pc := 645) (k := 70) (ci := 9) (fs := (oX9 ad)) (C := RX9) (T := TX9) (N := 33) (As := []) (st := [.int r129]) F (c_X9_ended l D ad cs F.2.2.1 M130) (by decide) (fun _ => rfl) rfl (cwV 0 F.1.2.2.2.2 gL_law_X9_ended rfl rfl rfl hdV_X9_ended ⟨by decide, by decide⟩) rfl rfl (Nat.le_of_ble_eq_true rfl) dL_law_645 hroom (fun r131 M132 => ?_)
        refine g_icmp_eq (pc := 648) F 1046 dL_law_648 (by decide) ?_ ?_
        · refine g_iinc (pc := 1046) (v := x3 + 7) F [(0, .ref b), (1, .ref (ad (0))), (2, .ref (ad (70))), (3, .int (x3 + 7))] 3 dL_law_1046 rfl rfl (by decide) rfl rfl rfl ?_
          refine g_goto (pc := 1049) F 18 dL_law_1049 (by decide) ?_
          exact ih _ _
        · refine g_iconst (pc := 651) (v := 0) F dL_law_651 (by decide) ?_
          exact g_none
      refine g_case (v := 11) (fun _ => ?_) (fun n133 => ?_)
      · refine g_tab (pc := 33) (off := 620) F 653 dL_law_33 (by decide) (by decide) (by decide) (by decide) ?_
        refine g_aload_n (pc := 653) F 1 dL_law_653 rfl ?_
        refine g_aload_n (pc := 654) F 0 dL_law_654 rfl ?_
        refine g_iload_n (pc := 655) F 3 dL_law_655 rfl ?_
        refine g_iconst (pc := 656) (v := 1) F dL_law_656 (by decide) ?_
        refine g_iadd (pc := 657) F dL_law_657 ?_
        refine g_nm (fun v134 => ?_)
        refine g_sld (pc := 658) F hX hbl dL_law_658 ?_
        refine g_aload_n (pc := 659) F 0 dL_law_659 rfl ?_
        refine g_iload_n (pc := 660) F 3 dL_law_660 rfl ?_
        refine g_iconst (pc := 661) (v := 2) F dL_law_661 (by decide) ?_
        refine g_iadd (pc := 662) F dL_law_662 ?_
        refine g_nm (fun v135 => ?_)
        refine g_sld (pc := 663) F hX hbl dL_law_663 ?_
        refine g_aload_n (pc := 664) F 0 dL_law_664 rfl ?_
        refine g_iload_n (pc := 665) F 3 dL_law_665 rfl ?_
        refine g_iconst (pc := 666) (v := 3) F dL_law_666 (by decide) ?_
        refine g_iadd (pc := 667) F dL_law_667 ?_
        refine g_nm (fun v136 => ?_)
        refine g_sld (pc := 668) F hX hbl dL_law_668 ?_
        refine g_vi (pc := 669) (k := 0) (ci := 8) (fs := (oX8 ad)) (C := RX8) (T := TX8) (N := 6) (As := [.int (xs v134.toNatClampNeg), .int (xs v135.toNatClampNeg), .int (xs v136.toNatClampNeg)]) (st := []) F (c_X8_seen l D ad cs F.2.2.1 (xs v134.toNatClampNeg) (xs v135.toNatClampNeg) (xs v136.toNatClampNeg) M) (by decide) (fun _ => rfl) rfl (cwV 3 F.1.2.2.2.2 gL_law_X8_seen rfl rfl rfl hdV_X8_seen ⟨by decide, by decide⟩) rfl rfl (Nat.le_of_ble_eq_true rfl) dL_law_669 hroom (fun r137 M138 => ?_)
        refine g_aload_n (pc := 672) F 2 dL_law_672 rfl ?_
        refine g_aload_n (pc := 673) F 0 dL_law_673 rfl ?_
        refine g_iload_n (pc := 674) F 3 dL_law_674 rfl ?_
        refine g_iconst (pc := 675) (v := 1) F dL_law_675 (by decide) ?_
        refine g_iadd (pc := 676) F dL_law_676 ?_
        refine g_nm (fun v139 => ?_)
        refine g_sld (pc := 677) F hX hbl dL_law_677 ?_
        refine g_aload_n (pc := 678) F 0 dL_law_678 rfl ?_
        refine g_iload_n (pc := 679) F 3 dL_law_679 rfl ?_
        refine g_iconst (pc := 680) (v := 2) F dL_law_680 (by decide) ?_
        refine g_iadd (pc := 681) F dL_law_681 ?_
        refine g_nm (fun v140 => ?_)
        refine g_sld (pc := 682) F hX hbl dL_law_682 ?_
        refine g_aload_n (pc := 683) F 0 dL_law_683 rfl ?_
        refine g_iload_n (pc := 684) F 3 dL_law_684 rfl ?_
        refine g_iconst (pc := 685) (v := 3) F dL_law_685 (by decide) ?_
        refine g_iadd (pc := 686) F dL_law_686 ?_
        refine g_nm (fun v141 => ?_)
        refine g_sld (pc := 687) F hX hbl dL_law_687 ?_
        refine g_vi (pc := 688) (k := 70) (ci := 9) (fs := (oX9 ad)) (C := RX9) (T := TX9) (N := 33) (As := [.int (xs v139.toNatClampNeg), .int (xs v140.toNatClampNeg), .int (xs v141.toNatClampNeg)]) (st := [.int r137]) F (c_X9_seen l D ad cs F.2.2.1 (xs v139.toNatClampNeg) (xs v140.toNatClampNeg) (xs v141.toNatClampNeg) M138) (by decide) (fun _ => rfl) rfl (cwV 3 F.1.2.2.2.2 gL_law_X9_seen rfl rfl rfl hdV_X9_seen ⟨by decide, by decide⟩) rfl rfl (Nat.le_of_ble_eq_true rfl) dL_law_688 hroom (fun r142 M143 => ?_)
        refine g_icmp_eq (pc := 691) F 1046 dL_law_691 (by decide) ?_ ?_
        · refine g_iinc (pc := 1046) (v := x3 + 7) F [(0, .ref b), (1, .ref (ad (0))), (2, .ref (ad (70))), (3, .int (x3 + 7))] 3 dL_law_1046 rfl rfl (by decide) rfl rfl rfl ?_
          refine g_goto (pc := 1049) F 18 dL_law_1049 (by decide) ?_
          exact ih _ _
        · refine g_iconst (pc := 694) (v := 0) F dL_law_694 (by decide) ?_
          exact g_none
      refine g_case (v := 12) (fun _ => ?_) (fun n144 => ?_)
      · refine g_tab (pc := 33) (off := 663) F 696 dL_law_33 (by decide) (by decide) (by decide) (by decide) ?_
        refine g_aload_n (pc := 696) F 1 dL_law_696 rfl ?_
        refine g_aload_n (pc := 697) F 0 dL_law_697 rfl ?_
        refine g_iload_n (pc := 698) F 3 dL_law_698 rfl ?_
        refine g_iconst (pc := 699) (v := 1) F dL_law_699 (by decide) ?_
        refine g_iadd (pc := 700) F dL_law_700 ?_
        refine g_nm (fun v145 => ?_)
        refine g_sld (pc := 701) F hX hbl dL_law_701 ?_
        refine g_aload_n (pc := 702) F 0 dL_law_702 rfl ?_
        refine g_iload_n (pc := 703) F 3 dL_law_703 rfl ?_
        refine g_iconst (pc := 704) (v := 2) F dL_law_704 (by decide) ?_
        refine g_iadd (pc := 705) F dL_law_705 ?_
        refine g_nm (fun v146 => ?_)
        refine g_sld (pc := 706) F hX hbl dL_law_706 ?_
        refine g_aload_n (pc := 707) F 0 dL_law_707 rfl ?_
        refine g_iload_n (pc := 708) F 3 dL_law_708 rfl ?_
        refine g_iconst (pc := 709) (v := 3) F dL_law_709 (by decide) ?_
        refine g_iadd (pc := 710) F dL_law_710 ?_
        refine g_nm (fun v147 => ?_)
        refine g_sld (pc := 711) F hX hbl dL_law_711 ?_
        refine g_vi (pc := 712) (k := 0) (ci := 8) (fs := (oX8 ad)) (C := RX8) (T := TX8) (N := 6) (As := [.int (xs v145.toNatClampNeg), .int (xs v146.toNatClampNeg), .int (xs v147.toNatClampNeg)]) (st := []) F (c_X8_melted l D ad cs F.2.2.1 fu (xs v145.toNatClampNeg) (xs v146.toNatClampNeg) (xs v147.toNatClampNeg) M) (by decide) (fun _ => rfl) rfl (cwV 3 F.1.2.2.2.2 gL_law_X8_melted rfl rfl rfl hdV_X8_melted ⟨by decide, by decide⟩) rfl rfl (Nat.le_of_ble_eq_true rfl) dL_law_712 hroom (fun r148 M149 => ?_)
        refine g_aload_n (pc := 715) F 2 dL_law_715 rfl ?_
        refine g_aload_n (pc := 716) F 0 dL_law_716 rfl ?_
        refine g_iload_n (pc := 717) F 3 dL_law_717 rfl ?_
        refine g_iconst (pc := 718) (v := 1) F dL_law_718 (by decide) ?_
        refine g_iadd (pc := 719) F dL_law_719 ?_
        refine g_nm (fun v150 => ?_)
        refine g_sld (pc := 720) F hX hbl dL_law_720 ?_
        refine g_aload_n (pc := 721) F 0 dL_law_721 rfl ?_
        refine g_iload_n (pc := 722) F 3 dL_law_722 rfl ?_
        refine g_iconst (pc := 723) (v := 2) F dL_law_723 (by decide) ?_
        refine g_iadd (pc := 724) F dL_law_724 ?_
        refine g_nm (fun v151 => ?_)
        refine g_sld (pc := 725) F hX hbl dL_law_725 ?_
        refine g_aload_n (pc := 726) F 0 dL_law_726 rfl ?_
        refine g_iload_n (pc := 727) F 3 dL_law_727 rfl ?_
        refine g_iconst (pc := 728) (v := 3) F dL_law_728 (by decide) ?_
        refine g_iadd (pc := 729) F dL_law_729 ?_
        refine g_nm (fun v152 => ?_)
        refine g_sld (pc := 730) F hX hbl dL_law_730 ?_
        refine g_vi (pc := 731) (k := 70) (ci := 9) (fs := (oX9 ad)) (C := RX9) (T := TX9) (N := 33) (As := [.int (xs v150.toNatClampNeg), .int (xs v151.toNatClampNeg), .int (xs v152.toNatClampNeg)]) (st := [.int r148]) F (c_X9_melted l D ad cs F.2.2.1 fu (xs v150.toNatClampNeg) (xs v151.toNatClampNeg) (xs v152.toNatClampNeg) M149) (by decide) (fun _ => rfl) rfl (cwV 3 F.1.2.2.2.2 gL_law_X9_melted rfl rfl rfl hdV_X9_melted ⟨by decide, by decide⟩) rfl rfl (Nat.le_of_ble_eq_true rfl) dL_law_731 hroom (fun r153 M154 => ?_)
        refine g_icmp_eq (pc := 734) F 1046 dL_law_734 (by decide) ?_ ?_
        · refine g_iinc (pc := 1046) (v := x3 + 7) F [(0, .ref b), (1, .ref (ad (0))), (2, .ref (ad (70))), (3, .int (x3 + 7))] 3 dL_law_1046 rfl rfl (by decide) rfl rfl rfl ?_
          refine g_goto (pc := 1049) F 18 dL_law_1049 (by decide) ?_
          exact ih _ _
        · refine g_iconst (pc := 737) (v := 0) F dL_law_737 (by decide) ?_
          exact g_none
      refine g_case (v := 13) (fun _ => ?_) (fun n155 => ?_)
      · refine g_tab (pc := 33) (off := 706) F 739 dL_law_33 (by decide) (by decide) (by decide) (by decide) ?_
        refine g_aload_n (pc := 739) F 1 dL_law_739 rfl ?_
        refine g_aload_n (pc := 740) F 0 dL_law_740 rfl ?_
        refine g_iload_n (pc := 741) F 3 dL_law_741 rfl ?_
        refine g_iconst (pc := 742) (v := 1) F dL_law_742 (by decide) ?_
        refine g_iadd (pc := 743) F dL_law_743 ?_
        refine g_nm (fun v156 => ?_)
        refine g_sld (pc := 744) F hX hbl dL_law_744 ?_
        refine g_aload_n (pc := 745) F 0 dL_law_745 rfl ?_
        refine g_iload_n (pc := 746) F 3 dL_law_746 rfl ?_
        refine g_iconst (pc := 747) (v := 2) F dL_law_747 (by decide) ?_
        refine g_iadd (pc := 748) F dL_law_748 ?_
        refine g_nm (fun v157 => ?_)
        refine g_sld (pc := 749) F hX hbl dL_law_749 ?_
        refine g_aload_n (pc := 750) F 0 dL_law_750 rfl ?_
        refine g_iload_n (pc := 751) F 3 dL_law_751 rfl ?_
        refine g_iconst (pc := 752) (v := 3) F dL_law_752 (by decide) ?_
        refine g_iadd (pc := 753) F dL_law_753 ?_
        refine g_nm (fun v158 => ?_)
        refine g_sld (pc := 754) F hX hbl dL_law_754 ?_
        refine g_aload_n (pc := 755) F 0 dL_law_755 rfl ?_
        refine g_iload_n (pc := 756) F 3 dL_law_756 rfl ?_
        refine g_iconst (pc := 757) (v := 4) F dL_law_757 (by decide) ?_
        refine g_iadd (pc := 758) F dL_law_758 ?_
        refine g_nm (fun v159 => ?_)
        refine g_sld (pc := 759) F hX hbl dL_law_759 ?_
        refine g_vi (pc := 760) (k := 0) (ci := 8) (fs := (oX8 ad)) (C := RX8) (T := TX8) (N := 6) (As := [.int (xs v156.toNatClampNeg), .int (xs v157.toNatClampNeg), .int (xs v158.toNatClampNeg), .int (xs v159.toNatClampNeg)]) (st := []) F (c_X8_fresh l D ad cs F.2.2.1 fu (xs v156.toNatClampNeg) (xs v157.toNatClampNeg) (xs v158.toNatClampNeg) (xs v159.toNatClampNeg) M) (by decide) (fun _ => rfl) rfl (cwV 4 F.1.2.2.2.2 gL_law_X8_fresh rfl rfl rfl hdV_X8_fresh ⟨by decide, by decide⟩) rfl rfl (Nat.le_of_ble_eq_true rfl) dL_law_760 hroom (fun r160 M161 => ?_)
        refine g_aload_n (pc := 763) F 2 dL_law_763 rfl ?_
        refine g_aload_n (pc := 764) F 0 dL_law_764 rfl ?_
        refine g_iload_n (pc := 765) F 3 dL_law_765 rfl ?_
        refine g_iconst (pc := 766) (v := 1) F dL_law_766 (by decide) ?_
        refine g_iadd (pc := 767) F dL_law_767 ?_
        refine g_nm (fun v162 => ?_)
        refine g_sld (pc := 768) F hX hbl dL_law_768 ?_
        refine g_aload_n (pc := 769) F 0 dL_law_769 rfl ?_
        refine g_iload_n (pc := 770) F 3 dL_law_770 rfl ?_
        refine g_iconst (pc := 771) (v := 2) F dL_law_771 (by decide) ?_
        refine g_iadd (pc := 772) F dL_law_772 ?_
        refine g_nm (fun v163 => ?_)
        refine g_sld (pc := 773) F hX hbl dL_law_773 ?_
        refine g_aload_n (pc := 774) F 0 dL_law_774 rfl ?_
        refine g_iload_n (pc := 775) F 3 dL_law_775 rfl ?_
        refine g_iconst (pc := 776) (v := 3) F dL_law_776 (by decide) ?_
        refine g_iadd (pc := 777) F dL_law_777 ?_
        refine g_nm (fun v164 => ?_)
        refine g_sld (pc := 778) F hX hbl dL_law_778 ?_
        refine g_aload_n (pc := 779) F 0 dL_law_779 rfl ?_
        refine g_iload_n (pc := 780) F 3 dL_law_780 rfl ?_
        refine g_iconst (pc := 781) (v := 4) F dL_law_781 (by decide) ?_
        refine g_iadd (pc := 782) F dL_law_782 ?_
        refine g_nm (fun v165 => ?_)
        refine g_sld (pc := 783) F hX hbl dL_law_783 ?_
        refine g_vi (pc := 784) (k := 70) (ci := 9) (fs := (oX9 ad)) (C := RX9) (T := TX9) (N := 33) (As := [.int (xs v162.toNatClampNeg), .int (xs v163.toNatClampNeg), .int (xs v164.toNatClampNeg), .int (xs v165.toNatClampNeg)]) (st := [.int r160]) F (c_X9_fresh l D ad cs F.2.2.1 fu (xs v162.toNatClampNeg) (xs v163.toNatClampNeg) (xs v164.toNatClampNeg) (xs v165.toNatClampNeg) M161) (by decide) (fun _ => rfl) rfl (cwV 4 F.1.2.2.2.2 gL_law_X9_fresh rfl rfl rfl hdV_X9_fresh ⟨by decide, by decide⟩) rfl rfl (Nat.le_of_ble_eq_true rfl) dL_law_784 hroom (fun r166 M167 => ?_)
        refine g_icmp_eq (pc := 787) F 1046 dL_law_787 (by decide) ?_ ?_
        · refine g_iinc (pc := 1046) (v := x3 + 7) F [(0, .ref b), (1, .ref (ad (0))), (2, .ref (ad (70))), (3, .int (x3 + 7))] 3 dL_law_1046 rfl rfl (by decide) rfl rfl rfl ?_
          refine g_goto (pc := 1049) F 18 dL_law_1049 (by decide) ?_
          exact ih _ _
        · refine g_iconst (pc := 790) (v := 0) F dL_law_790 (by decide) ?_
          exact g_none
      refine g_case (v := 14) (fun _ => ?_) (fun n168 => ?_)
      · refine g_tab (pc := 33) (off := 759) F 792 dL_law_33 (by decide) (by decide) (by decide) (by decide) ?_
        refine g_aload_n (pc := 792) F 1 dL_law_792 rfl ?_
        refine g_aload_n (pc := 793) F 0 dL_law_793 rfl ?_
        refine g_iload_n (pc := 794) F 3 dL_law_794 rfl ?_
        refine g_iconst (pc := 795) (v := 1) F dL_law_795 (by decide) ?_
        refine g_iadd (pc := 796) F dL_law_796 ?_
        refine g_nm (fun v169 => ?_)
        refine g_sld (pc := 797) F hX hbl dL_law_797 ?_
        refine g_aload_n (pc := 798) F 0 dL_law_798 rfl ?_
        refine g_iload_n (pc := 799) F 3 dL_law_799 rfl ?_
        refine g_iconst (pc := 800) (v := 2) F dL_law_800 (by decide) ?_
        refine g_iadd (pc := 801) F dL_law_801 ?_
        refine g_nm (fun v170 => ?_)
        refine g_sld (pc := 802) F hX hbl dL_law_802 ?_
        refine g_aload_n (pc := 803) F 0 dL_law_803 rfl ?_
        refine g_iload_n (pc := 804) F 3 dL_law_804 rfl ?_
        refine g_iconst (pc := 805) (v := 3) F dL_law_805 (by decide) ?_
        refine g_iadd (pc := 806) F dL_law_806 ?_
        refine g_nm (fun v171 => ?_)
        refine g_sld (pc := 807) F hX hbl dL_law_807 ?_
        refine g_aload_n (pc := 808) F 0 dL_law_808 rfl ?_
        refine g_iload_n (pc := 809) F 3 dL_law_809 rfl ?_
        refine g_iconst (pc := 810) (v := 4) F dL_law_810 (by decide) ?_
        refine g_iadd (pc := 811) F dL_law_811 ?_
        refine g_nm (fun v172 => ?_)
        refine g_sld (pc := 812) F hX hbl dL_law_812 ?_
        refine g_aload_n (pc := 813) F 0 dL_law_813 rfl ?_
        refine g_iload_n (pc := 814) F 3 dL_law_814 rfl ?_
        refine g_iconst (pc := 815) (v := 5) F dL_law_815 (by decide) ?_
        refine g_iadd (pc := 816) F dL_law_816 ?_
        refine g_nm (fun v173 => ?_)
        refine g_sld (pc := 817) F hX hbl dL_law_817 ?_
        refine g_vi (pc := 818) (k := 0) (ci := 8) (fs := (oX8 ad)) (C := RX8) (T := TX8) (N := 6) (As := [.int (xs v169.toNatClampNeg), .int (xs v170.toNatClampNeg), .int (xs v171.toNatClampNeg), .int (xs v172.toNatClampNeg), .int (xs v173.toNatClampNeg)]) (st := []) F (c_X8_effect l D ad cs F.2.2.1 (xs v169.toNatClampNeg) (xs v170.toNatClampNeg) (xs v171.toNatClampNeg) (xs v172.toNatClampNeg) (xs v173.toNatClampNeg) M) (by decide) (fun _ => rfl) rfl (cwV 5 F.1.2.2.2.2 gL_law_X8_effect rfl rfl rfl hdV_X8_effect ⟨by decide, by decide⟩) rfl rfl (Nat.le_of_ble_eq_true rfl) dL_law_818 hroom (fun r174 M175 => ?_)
        refine g_aload_n (pc := 821) F 2 dL_law_821 rfl ?_
        refine g_aload_n (pc := 822) F 0 dL_law_822 rfl ?_
        refine g_iload_n (pc := 823) F 3 dL_law_823 rfl ?_
        refine g_iconst (pc := 824) (v := 1) F dL_law_824 (by decide) ?_
        refine g_iadd (pc := 825) F dL_law_825 ?_
        refine g_nm (fun v176 => ?_)
        refine g_sld (pc := 826) F hX hbl dL_law_826 ?_
        refine g_aload_n (pc := 827) F 0 dL_law_827 rfl ?_
        refine g_iload_n (pc := 828) F 3 dL_law_828 rfl ?_
        refine g_iconst (pc := 829) (v := 2) F dL_law_829 (by decide) ?_
        refine g_iadd (pc := 830) F dL_law_830 ?_
        refine g_nm (fun v177 => ?_)
        refine g_sld (pc := 831) F hX hbl dL_law_831 ?_
        refine g_aload_n (pc := 832) F 0 dL_law_832 rfl ?_
        refine g_iload_n (pc := 833) F 3 dL_law_833 rfl ?_
        refine g_iconst (pc := 834) (v := 3) F dL_law_834 (by decide) ?_
        refine g_iadd (pc := 835) F dL_law_835 ?_
        refine g_nm (fun v178 => ?_)
        refine g_sld (pc := 836) F hX hbl dL_law_836 ?_
        refine g_aload_n (pc := 837) F 0 dL_law_837 rfl ?_
        refine g_iload_n (pc := 838) F 3 dL_law_838 rfl ?_
        refine g_iconst (pc := 839) (v := 4) F dL_law_839 (by decide) ?_
        refine g_iadd (pc := 840) F dL_law_840 ?_
        refine g_nm (fun v179 => ?_)
        refine g_sld (pc := 841) F hX hbl dL_law_841 ?_
        refine g_aload_n (pc := 842) F 0 dL_law_842 rfl ?_
        refine g_iload_n (pc := 843) F 3 dL_law_843 rfl ?_
        refine g_iconst (pc := 844) (v := 5) F dL_law_844 (by decide) ?_
        refine g_iadd (pc := 845) F dL_law_845 ?_
        refine g_nm (fun v180 => ?_)
        refine g_sld (pc := 846) F hX hbl dL_law_846 ?_
        refine g_vi (pc := 847) (k := 70) (ci := 9) (fs := (oX9 ad)) (C := RX9) (T := TX9) (N := 33) (As := [.int (xs v176.toNatClampNeg), .int (xs v177.toNatClampNeg), .int (xs v178.toNatClampNeg), .int (xs v179.toNatClampNeg), .int (xs v180.toNatClampNeg)]) (st := [.int r174]) F (c_X9_effect l D ad cs F.2.2.1 (xs v176.toNatClampNeg) (xs v177.toNatClampNeg) (xs v178.toNatClampNeg) (xs v179.toNatClampNeg) (xs v180.toNatClampNeg) M175) (by decide) (fun _ => rfl) rfl (cwV 5 F.1.2.2.2.2 gL_law_X9_effect rfl rfl rfl hdV_X9_effect ⟨by decide, by decide⟩) rfl rfl (Nat.le_of_ble_eq_true rfl) dL_law_847 hroom (fun r181 M182 => ?_)
        refine g_icmp_eq (pc := 850) F 1046 dL_law_850 (by decide) ?_ ?_
        · refine g_iinc (pc := 1046) (v := x3 + 7) F [(0, .ref b), (1, .ref (ad (0))), (2, .ref (ad (70))), (3, .int (x3 + 7))] 3 dL_law_1046 rfl rfl (by decide) rfl rfl rfl ?_
          refine g_goto (pc := 1049) F 18 dL_law_1049 (by decide) ?_
          exact ih _ _
        · refine g_iconst (pc := 853) (v := 0) F dL_law_853 (by decide) ?_
          exact g_none
      refine g_case (v := 15) (fun _ => ?_) (fun n183 => ?_)
      · refine g_tab (pc := 33) (off := 822) F 855 dL_law_33 (by decide) (by decide) (by decide) (by decide) ?_
        refine g_aload_n (pc := 855) F 1 dL_law_855 rfl ?_
        refine g_aload_n (pc := 856) F 0 dL_law_856 rfl ?_
        refine g_iload_n (pc := 857) F 3 dL_law_857 rfl ?_
        refine g_iconst (pc := 858) (v := 1) F dL_law_858 (by decide) ?_
        refine g_iadd (pc := 859) F dL_law_859 ?_
        refine g_nm (fun v184 => ?_)
        refine g_sld (pc := 860) F hX hbl dL_law_860 ?_
        refine g_aload_n (pc := 861) F 0 dL_law_861 rfl ?_
        refine g_iload_n (pc := 862) F 3 dL_law_862 rfl ?_
        refine g_iconst (pc := 863) (v := 2) F dL_law_863 (by decide) ?_
        refine g_iadd (pc := 864) F dL_law_864 ?_
        refine g_nm (fun v185 => ?_)
        refine g_sld (pc := 865) F hX hbl dL_law_865 ?_
        refine g_if_eq (pc := 866) F 873 dL_law_866 (by decide) ?_ ?_
        · refine g_iconst (pc := 873) (v := 0) F dL_law_873 (by decide) ?_
          refine g_vi (pc := 874) (k := 0) (ci := 8) (fs := (oX8 ad)) (C := RX8) (T := TX8) (N := 6) (As := [.int (xs v184.toNatClampNeg), .int 0]) (st := []) F (c_X8_reach l D ad cs F.2.2.1 fu (xs v184.toNatClampNeg) 0 M) (by decide) (fun _ => rfl) rfl (cwV 2 F.1.2.2.2.2 gL_law_X8_reach rfl rfl rfl hdV_X8_reach ⟨by decide, by decide⟩) rfl rfl (Nat.le_of_ble_eq_true rfl) dL_law_874 hroom (fun r186 M187 => ?_)
          refine g_aload_n (pc := 877) F 2 dL_law_877 rfl ?_
          refine g_aload_n (pc := 878) F 0 dL_law_878 rfl ?_
          refine g_iload_n (pc := 879) F 3 dL_law_879 rfl ?_
          refine g_iconst (pc := 880) (v := 1) F dL_law_880 (by decide) ?_
          refine g_iadd (pc := 881) F dL_law_881 ?_
          refine g_nm (fun v188 => ?_)
          refine g_sld (pc := 882) F hX hbl dL_law_882 ?_
          refine g_aload_n (pc := 883) F 0 dL_law_883 rfl ?_
          refine g_iload_n (pc := 884) F 3 dL_law_884 rfl ?_
          refine g_iconst (pc := 885) (v := 2) F dL_law_885 (by decide) ?_
          refine g_iadd (pc := 886) F dL_law_886 ?_
          refine g_nm (fun v189 => ?_)
          refine g_sld (pc := 887) F hX hbl dL_law_887 ?_
          refine g_if_eq (pc := 888) F 895 dL_law_888 (by decide) ?_ ?_
          · refine g_iconst (pc := 895) (v := 0) F dL_law_895 (by decide) ?_
            refine g_vi (pc := 896) (k := 70) (ci := 9) (fs := (oX9 ad)) (C := RX9) (T := TX9) (N := 33) (As := [.int (xs v188.toNatClampNeg), .int 0]) (st := [.int r186]) F (c_X9_reach l D ad cs F.2.2.1 fu (xs v188.toNatClampNeg) 0 M187) (by decide) (fun _ => rfl) rfl (cwV 2 F.1.2.2.2.2 gL_law_X9_reach rfl rfl rfl hdV_X9_reach ⟨by decide, by decide⟩) rfl rfl (Nat.le_of_ble_eq_true rfl) dL_law_896 hroom (fun r190 M191 => ?_)
            refine g_icmp_eq (pc := 899) F 1046 dL_law_899 (by decide) ?_ ?_
            · refine g_iinc (pc := 1046) (v := x3 + 7) F [(0, .ref b), (1, .ref (ad (0))), (2, .ref (ad (70))), (3, .int (x3 + 7))] 3 dL_law_1046 rfl rfl (by decide) rfl rfl rfl ?_
              refine g_goto (pc := 1049) F 18 dL_law_1049 (by decide) ?_
              exact ih _ _
            · refine g_iconst (pc := 902) (v := 0) F dL_law_902 (by decide) ?_
              exact g_none
          · refine g_iconst (pc := 891) (v := 1) F dL_law_891 (by decide) ?_
            refine g_goto (pc := 892) F 896 dL_law_892 (by decide) ?_
            refine g_vi (pc := 896) (k := 70) (ci := 9) (fs := (oX9 ad)) (C := RX9) (T := TX9) (N := 33) (As := [.int (xs v188.toNatClampNeg), .int 1]) (st := [.int r186]) F (c_X9_reach l D ad cs F.2.2.1 fu (xs v188.toNatClampNeg) 1 M187) (by decide) (fun _ => rfl) rfl (cwV 2 F.1.2.2.2.2 gL_law_X9_reach rfl rfl rfl hdV_X9_reach ⟨by decide, by decide⟩) rfl rfl (Nat.le_of_ble_eq_true rfl) dL_law_896 hroom (fun r192 M193 => ?_)
            refine g_icmp_eq (pc := 899) F 1046 dL_law_899 (by decide) ?_ ?_
            · refine g_iinc (pc := 1046) (v := x3 + 7) F [(0, .ref b), (1, .ref (ad (0))), (2, .ref (ad (70))), (3, .int (x3 + 7))] 3 dL_law_1046 rfl rfl (by decide) rfl rfl rfl ?_
              refine g_goto (pc := 1049) F 18 dL_law_1049 (by decide) ?_
              exact ih _ _
            · refine g_iconst (pc := 902) (v := 0) F dL_law_902 (by decide) ?_
              exact g_none
        · refine g_iconst (pc := 869) (v := 1) F dL_law_869 (by decide) ?_
          refine g_goto (pc := 870) F 874 dL_law_870 (by decide) ?_
          refine g_vi (pc := 874) (k := 0) (ci := 8) (fs := (oX8 ad)) (C := RX8) (T := TX8) (N := 6) (As := [.int (xs v184.toNatClampNeg), .int 1]) (st := []) F (c_X8_reach l D ad cs F.2.2.1 fu (xs v184.toNatClampNeg) 1 M) (by decide) (fun _ => rfl) rfl (cwV 2 F.1.2.2.2.2 gL_law_X8_reach rfl rfl rfl hdV_X8_reach ⟨by decide, by decide⟩) rfl rfl (Nat.le_of_ble_eq_true rfl) dL_law_874 hroom (fun r194 M195 => ?_)
          refine g_aload_n (pc := 877) F 2 dL_law_877 rfl ?_
          refine g_aload_n (pc := 878) F 0 dL_law_878 rfl ?_
          refine g_iload_n (pc := 879) F 3 dL_law_879 rfl ?_
          refine g_iconst (pc := 880) (v := 1) F dL_law_880 (by decide) ?_
          refine g_iadd (pc := 881) F dL_law_881 ?_
          refine g_nm (fun v196 => ?_)
          refine g_sld (pc := 882) F hX hbl dL_law_882 ?_
          refine g_aload_n (pc := 883) F 0 dL_law_883 rfl ?_
          refine g_iload_n (pc := 884) F 3 dL_law_884 rfl ?_
          refine g_iconst (pc := 885) (v := 2) F dL_law_885 (by decide) ?_
          refine g_iadd (pc := 886) F dL_law_886 ?_
          refine g_nm (fun v197 => ?_)
          refine g_sld (pc := 887) F hX hbl dL_law_887 ?_
          refine g_if_eq (pc := 888) F 895 dL_law_888 (by decide) ?_ ?_
          · refine g_iconst (pc := 895) (v := 0) F dL_law_895 (by decide) ?_
            refine g_vi (pc := 896) (k := 70) (ci := 9) (fs := (oX9 ad)) (C := RX9) (T := TX9) (N := 33) (As := [.int (xs v196.toNatClampNeg), .int 0]) (st := [.int r194]) F (c_X9_reach l D ad cs F.2.2.1 fu (xs v196.toNatClampNeg) 0 M195) (by decide) (fun _ => rfl) rfl (cwV 2 F.1.2.2.2.2 gL_law_X9_reach rfl rfl rfl hdV_X9_reach ⟨by decide, by decide⟩) rfl rfl (Nat.le_of_ble_eq_true rfl) dL_law_896 hroom (fun r198 M199 => ?_)
            refine g_icmp_eq (pc := 899) F 1046 dL_law_899 (by decide) ?_ ?_
            · refine g_iinc (pc := 1046) (v := x3 + 7) F [(0, .ref b), (1, .ref (ad (0))), (2, .ref (ad (70))), (3, .int (x3 + 7))] 3 dL_law_1046 rfl rfl (by decide) rfl rfl rfl ?_
              refine g_goto (pc := 1049) F 18 dL_law_1049 (by decide) ?_
              exact ih _ _
            · refine g_iconst (pc := 902) (v := 0) F dL_law_902 (by decide) ?_
              exact g_none
          · refine g_iconst (pc := 891) (v := 1) F dL_law_891 (by decide) ?_
            refine g_goto (pc := 892) F 896 dL_law_892 (by decide) ?_
            refine g_vi (pc := 896) (k := 70) (ci := 9) (fs := (oX9 ad)) (C := RX9) (T := TX9) (N := 33) (As := [.int (xs v196.toNatClampNeg), .int 1]) (st := [.int r194]) F (c_X9_reach l D ad cs F.2.2.1 fu (xs v196.toNatClampNeg) 1 M195) (by decide) (fun _ => rfl) rfl (cwV 2 F.1.2.2.2.2 gL_law_X9_reach rfl rfl rfl hdV_X9_reach ⟨by decide, by decide⟩) rfl rfl (Nat.le_of_ble_eq_true rfl) dL_law_896 hroom (fun r200 M201 => ?_)
            refine g_icmp_eq (pc := 899) F 1046 dL_law_899 (by decide) ?_ ?_
            · refine g_iinc (pc := 1046) (v := x3 + 7) F [(0, .ref b), (1, .ref (ad (0))), (2, .ref (ad (70))), (3, .int (x3 + 7))] 3 dL_law_1046 rfl rfl (by decide) rfl rfl rfl ?_
              refine g_goto (pc := 1049) F 18 dL_law_1049 (by decide) ?_
              exact ih _ _
            · refine g_iconst (pc := 902) (v := 0) F dL_law_902 (by decide) ?_
              exact g_none
      refine g_case (v := 16) (fun _ => ?_) (fun n202 => ?_)
      · refine g_tab (pc := 33) (off := 871) F 904 dL_law_33 (by decide) (by decide) (by decide) (by decide) ?_
        refine g_aload_n (pc := 904) F 1 dL_law_904 rfl ?_
        refine g_aload_n (pc := 905) F 0 dL_law_905 rfl ?_
        refine g_iload_n (pc := 906) F 3 dL_law_906 rfl ?_
        refine g_iconst (pc := 907) (v := 1) F dL_law_907 (by decide) ?_
        refine g_iadd (pc := 908) F dL_law_908 ?_
        refine g_nm (fun v203 => ?_)
        refine g_sld (pc := 909) F hX hbl dL_law_909 ?_
        refine g_aload_n (pc := 910) F 0 dL_law_910 rfl ?_
        refine g_iload_n (pc := 911) F 3 dL_law_911 rfl ?_
        refine g_iconst (pc := 912) (v := 2) F dL_law_912 (by decide) ?_
        refine g_iadd (pc := 913) F dL_law_913 ?_
        refine g_nm (fun v204 => ?_)
        refine g_sld (pc := 914) F hX hbl dL_law_914 ?_
        refine g_vi (pc := 915) (k := 0) (ci := 8) (fs := (oX8 ad)) (C := RX8) (T := TX8) (N := 6) (As := [.int (xs v203.toNatClampNeg), .int (xs v204.toNatClampNeg)]) (st := []) F (c_X8_shut l D ad cs F.2.2.1 fu (xs v203.toNatClampNeg) (xs v204.toNatClampNeg) M) (by decide) (fun _ => rfl) rfl (cwV 2 F.1.2.2.2.2 gL_law_X8_shut rfl rfl rfl hdV_X8_shut ⟨by decide, by decide⟩) rfl rfl (Nat.le_of_ble_eq_true rfl) dL_law_915 hroom (fun r205 M206 => ?_)
        refine g_aload_n (pc := 918) F 2 dL_law_918 rfl ?_
        refine g_aload_n (pc := 919) F 0 dL_law_919 rfl ?_
        refine g_iload_n (pc := 920) F 3 dL_law_920 rfl ?_
        refine g_iconst (pc := 921) (v := 1) F dL_law_921 (by decide) ?_
        refine g_iadd (pc := 922) F dL_law_922 ?_
        refine g_nm (fun v207 => ?_)
        refine g_sld (pc := 923) F hX hbl dL_law_923 ?_
        refine g_aload_n (pc := 924) F 0 dL_law_924 rfl ?_
        refine g_iload_n (pc := 925) F 3 dL_law_925 rfl ?_
        refine g_iconst (pc := 926) (v := 2) F dL_law_926 (by decide) ?_
        refine g_iadd (pc := 927) F dL_law_927 ?_
        refine g_nm (fun v208 => ?_)
        refine g_sld (pc := 928) F hX hbl dL_law_928 ?_
        refine g_vi (pc := 929) (k := 70) (ci := 9) (fs := (oX9 ad)) (C := RX9) (T := TX9) (N := 33) (As := [.int (xs v207.toNatClampNeg), .int (xs v208.toNatClampNeg)]) (st := [.int r205]) F (c_X9_shut l D ad cs F.2.2.1 fu (xs v207.toNatClampNeg) (xs v208.toNatClampNeg) M206) (by decide) (fun _ => rfl) rfl (cwV 2 F.1.2.2.2.2 gL_law_X9_shut rfl rfl rfl hdV_X9_shut ⟨by decide, by decide⟩) rfl rfl (Nat.le_of_ble_eq_true rfl) dL_law_929 hroom (fun r209 M210 => ?_)
        refine g_icmp_eq (pc := 932) F 1046 dL_law_932 (by decide) ?_ ?_
        · refine g_iinc (pc := 1046) (v := x3 + 7) F [(0, .ref b), (1, .ref (ad (0))), (2, .ref (ad (70))), (3, .int (x3 + 7))] 3 dL_law_1046 rfl rfl (by decide) rfl rfl rfl ?_
          refine g_goto (pc := 1049) F 18 dL_law_1049 (by decide) ?_
          exact ih _ _
        · refine g_iconst (pc := 935) (v := 0) F dL_law_935 (by decide) ?_
          exact g_none
      refine g_case (v := 17) (fun _ => ?_) (fun n211 => ?_)
      · refine g_tab (pc := 33) (off := 904) F 937 dL_law_33 (by decide) (by decide) (by decide) (by decide) ?_
        refine g_aload_n (pc := 937) F 1 dL_law_937 rfl ?_
        refine g_aload_n (pc := 938) F 0 dL_law_938 rfl ?_
        refine g_iload_n (pc := 939) F 3 dL_law_939 rfl ?_
        refine g_iconst (pc := 940) (v := 1) F dL_law_940 (by decide) ?_
        refine g_iadd (pc := 941) F dL_law_941 ?_
        refine g_nm (fun v212 => ?_)
        refine g_sld (pc := 942) F hX hbl dL_law_942 ?_
        refine g_aload_n (pc := 943) F 0 dL_law_943 rfl ?_
        refine g_iload_n (pc := 944) F 3 dL_law_944 rfl ?_
        refine g_iconst (pc := 945) (v := 2) F dL_law_945 (by decide) ?_
        refine g_iadd (pc := 946) F dL_law_946 ?_
        refine g_nm (fun v213 => ?_)
        refine g_sld (pc := 947) F hX hbl dL_law_947 ?_
        refine g_vi (pc := 948) (k := 0) (ci := 8) (fs := (oX8 ad)) (C := RX8) (T := TX8) (N := 6) (As := [.int (xs v212.toNatClampNeg), .int (xs v213.toNatClampNeg)]) (st := []) F (c_X8_cuts l D ad cs F.2.2.1 fu (xs v212.toNatClampNeg) (xs v213.toNatClampNeg) M) (by decide) (fun _ => rfl) rfl (cwV 2 F.1.2.2.2.2 gL_law_X8_cuts rfl rfl rfl hdV_X8_cuts ⟨by decide, by decide⟩) rfl rfl (Nat.le_of_ble_eq_true rfl) dL_law_948 hroom (fun r214 M215 => ?_)
        refine g_aload_n (pc := 951) F 2 dL_law_951 rfl ?_
        refine g_aload_n (pc := 952) F 0 dL_law_952 rfl ?_
        refine g_iload_n (pc := 953) F 3 dL_law_953 rfl ?_
        refine g_iconst (pc := 954) (v := 1) F dL_law_954 (by decide) ?_
        refine g_iadd (pc := 955) F dL_law_955 ?_
        refine g_nm (fun v216 => ?_)
        refine g_sld (pc := 956) F hX hbl dL_law_956 ?_
        refine g_aload_n (pc := 957) F 0 dL_law_957 rfl ?_
        refine g_iload_n (pc := 958) F 3 dL_law_958 rfl ?_
        refine g_iconst (pc := 959) (v := 2) F dL_law_959 (by decide) ?_
        refine g_iadd (pc := 960) F dL_law_960 ?_
        refine g_nm (fun v217 => ?_)
        refine g_sld (pc := 961) F hX hbl dL_law_961 ?_
        refine g_vi (pc := 962) (k := 70) (ci := 9) (fs := (oX9 ad)) (C := RX9) (T := TX9) (N := 33) (As := [.int (xs v216.toNatClampNeg), .int (xs v217.toNatClampNeg)]) (st := [.int r214]) F (c_X9_cuts l D ad cs F.2.2.1 fu (xs v216.toNatClampNeg) (xs v217.toNatClampNeg) M215) (by decide) (fun _ => rfl) rfl (cwV 2 F.1.2.2.2.2 gL_law_X9_cuts rfl rfl rfl hdV_X9_cuts ⟨by decide, by decide⟩) rfl rfl (Nat.le_of_ble_eq_true rfl) dL_law_962 hroom (fun r218 M219 => ?_)
        refine g_icmp_eq (pc := 965) F 1046 dL_law_965 (by decide) ?_ ?_
        · refine g_iinc (pc := 1046) (v := x3 + 7) F [(0, .ref b), (1, .ref (ad (0))), (2, .ref (ad (70))), (3, .int (x3 + 7))] 3 dL_law_1046 rfl rfl (by decide) rfl rfl rfl ?_
          refine g_goto (pc := 1049) F 18 dL_law_1049 (by decide) ?_
          exact ih _ _
        · refine g_iconst (pc := 968) (v := 0) F dL_law_968 (by decide) ?_
          exact g_none
      refine g_case (v := 18) (fun _ => ?_) (fun n220 => ?_)
      · refine g_tab (pc := 33) (off := 937) F 970 dL_law_33 (by decide) (by decide) (by decide) (by decide) ?_
        refine g_aload_n (pc := 970) F 1 dL_law_970 rfl ?_
        refine g_aload_n (pc := 971) F 0 dL_law_971 rfl ?_
        refine g_iload_n (pc := 972) F 3 dL_law_972 rfl ?_
        refine g_iconst (pc := 973) (v := 1) F dL_law_973 (by decide) ?_
        refine g_iadd (pc := 974) F dL_law_974 ?_
        refine g_nm (fun v221 => ?_)
        refine g_sld (pc := 975) F hX hbl dL_law_975 ?_
        refine g_aload_n (pc := 976) F 0 dL_law_976 rfl ?_
        refine g_iload_n (pc := 977) F 3 dL_law_977 rfl ?_
        refine g_iconst (pc := 978) (v := 2) F dL_law_978 (by decide) ?_
        refine g_iadd (pc := 979) F dL_law_979 ?_
        refine g_nm (fun v222 => ?_)
        refine g_sld (pc := 980) F hX hbl dL_law_980 ?_
        refine g_aload_n (pc := 981) F 0 dL_law_981 rfl ?_
        refine g_iload_n (pc := 982) F 3 dL_law_982 rfl ?_
        refine g_iconst (pc := 983) (v := 3) F dL_law_983 (by decide) ?_
        refine g_iadd (pc := 984) F dL_law_984 ?_
        refine g_nm (fun v223 => ?_)
        refine g_sld (pc := 985) F hX hbl dL_law_985 ?_
        refine g_vi (pc := 986) (k := 0) (ci := 8) (fs := (oX8 ad)) (C := RX8) (T := TX8) (N := 6) (As := [.int (xs v221.toNatClampNeg), .int (xs v222.toNatClampNeg), .int (xs v223.toNatClampNeg)]) (st := []) F (c_X8_look l D ad cs F.2.2.1 fu (xs v221.toNatClampNeg) (xs v222.toNatClampNeg) (xs v223.toNatClampNeg) M) (by decide) (fun _ => rfl) rfl (cwV 3 F.1.2.2.2.2 gL_law_X8_look rfl rfl rfl hdV_X8_look ⟨by decide, by decide⟩) rfl rfl (Nat.le_of_ble_eq_true rfl) dL_law_986 hroom (fun r224 M225 => ?_)
        refine g_aload_n (pc := 989) F 2 dL_law_989 rfl ?_
        refine g_aload_n (pc := 990) F 0 dL_law_990 rfl ?_
        refine g_iload_n (pc := 991) F 3 dL_law_991 rfl ?_
        refine g_iconst (pc := 992) (v := 1) F dL_law_992 (by decide) ?_
        refine g_iadd (pc := 993) F dL_law_993 ?_
        refine g_nm (fun v226 => ?_)
        refine g_sld (pc := 994) F hX hbl dL_law_994 ?_
        refine g_aload_n (pc := 995) F 0 dL_law_995 rfl ?_
        refine g_iload_n (pc := 996) F 3 dL_law_996 rfl ?_
        refine g_iconst (pc := 997) (v := 2) F dL_law_997 (by decide) ?_
        refine g_iadd (pc := 998) F dL_law_998 ?_
        refine g_nm (fun v227 => ?_)
        refine g_sld (pc := 999) F hX hbl dL_law_999 ?_
        refine g_aload_n (pc := 1000) F 0 dL_law_1000 rfl ?_
        refine g_iload_n (pc := 1001) F 3 dL_law_1001 rfl ?_
        refine g_iconst (pc := 1002) (v := 3) F dL_law_1002 (by decide) ?_
        refine g_iadd (pc := 1003) F dL_law_1003 ?_
        refine g_nm (fun v228 => ?_)
        refine g_sld (pc := 1004) F hX hbl dL_law_1004 ?_
        refine g_vi (pc := 1005) (k := 70) (ci := 9) (fs := (oX9 ad)) (C := RX9) (T := TX9) (N := 33) (As := [.int (xs v226.toNatClampNeg), .int (xs v227.toNatClampNeg), .int (xs v228.toNatClampNeg)]) (st := [.int r224]) F (c_X9_look l D ad cs F.2.2.1 fu (xs v226.toNatClampNeg) (xs v227.toNatClampNeg) (xs v228.toNatClampNeg) M225) (by decide) (fun _ => rfl) rfl (cwV 3 F.1.2.2.2.2 gL_law_X9_look rfl rfl rfl hdV_X9_look ⟨by decide, by decide⟩) rfl rfl (Nat.le_of_ble_eq_true rfl) dL_law_1005 hroom (fun r229 M230 => ?_)
        refine g_icmp_eq (pc := 1008) F 1046 dL_law_1008 (by decide) ?_ ?_
        · refine g_iinc (pc := 1046) (v := x3 + 7) F [(0, .ref b), (1, .ref (ad (0))), (2, .ref (ad (70))), (3, .int (x3 + 7))] 3 dL_law_1046 rfl rfl (by decide) rfl rfl rfl ?_
          refine g_goto (pc := 1049) F 18 dL_law_1049 (by decide) ?_
          exact ih _ _
        · refine g_iconst (pc := 1011) (v := 0) F dL_law_1011 (by decide) ?_
          exact g_none
      refine g_case (v := 19) (fun _ => ?_) (fun n231 => ?_)
      · refine g_tab (pc := 33) (off := 980) F 1013 dL_law_33 (by decide) (by decide) (by decide) (by decide) ?_
        refine g_aload_n (pc := 1013) F 1 dL_law_1013 rfl ?_
        refine g_aload_n (pc := 1014) F 0 dL_law_1014 rfl ?_
        refine g_iload_n (pc := 1015) F 3 dL_law_1015 rfl ?_
        refine g_iconst (pc := 1016) (v := 1) F dL_law_1016 (by decide) ?_
        refine g_iadd (pc := 1017) F dL_law_1017 ?_
        refine g_nm (fun v232 => ?_)
        refine g_sld (pc := 1018) F hX hbl dL_law_1018 ?_
        refine g_aload_n (pc := 1019) F 0 dL_law_1019 rfl ?_
        refine g_iload_n (pc := 1020) F 3 dL_law_1020 rfl ?_
        refine g_iconst (pc := 1021) (v := 2) F dL_law_1021 (by decide) ?_
        refine g_iadd (pc := 1022) F dL_law_1022 ?_
        refine g_nm (fun v233 => ?_)
        refine g_sld (pc := 1023) F hX hbl dL_law_1023 ?_
        refine g_vi (pc := 1024) (k := 0) (ci := 8) (fs := (oX8 ad)) (C := RX8) (T := TX8) (N := 6) (As := [.int (xs v232.toNatClampNeg), .int (xs v233.toNatClampNeg)]) (st := []) F (c_X8_count l D ad cs F.2.2.1 fu (xs v232.toNatClampNeg) (xs v233.toNatClampNeg) M) (by decide) (fun _ => rfl) rfl (cwV 2 F.1.2.2.2.2 gL_law_X8_count rfl rfl rfl hdV_X8_count ⟨by decide, by decide⟩) rfl rfl (Nat.le_of_ble_eq_true rfl) dL_law_1024 hroom (fun r234 M235 => ?_)
        refine g_aload_n (pc := 1027) F 2 dL_law_1027 rfl ?_
        refine g_aload_n (pc := 1028) F 0 dL_law_1028 rfl ?_
        refine g_iload_n (pc := 1029) F 3 dL_law_1029 rfl ?_
        refine g_iconst (pc := 1030) (v := 1) F dL_law_1030 (by decide) ?_
        refine g_iadd (pc := 1031) F dL_law_1031 ?_
        refine g_nm (fun v236 => ?_)
        refine g_sld (pc := 1032) F hX hbl dL_law_1032 ?_
        refine g_aload_n (pc := 1033) F 0 dL_law_1033 rfl ?_
        refine g_iload_n (pc := 1034) F 3 dL_law_1034 rfl ?_
        refine g_iconst (pc := 1035) (v := 2) F dL_law_1035 (by decide) ?_
        refine g_iadd (pc := 1036) F dL_law_1036 ?_
        refine g_nm (fun v237 => ?_)
        refine g_sld (pc := 1037) F hX hbl dL_law_1037 ?_
        refine g_vi (pc := 1038) (k := 70) (ci := 9) (fs := (oX9 ad)) (C := RX9) (T := TX9) (N := 33) (As := [.int (xs v236.toNatClampNeg), .int (xs v237.toNatClampNeg)]) (st := [.int r234]) F (c_X9_count l D ad cs F.2.2.1 fu (xs v236.toNatClampNeg) (xs v237.toNatClampNeg) M235) (by decide) (fun _ => rfl) rfl (cwV 2 F.1.2.2.2.2 gL_law_X9_count rfl rfl rfl hdV_X9_count ⟨by decide, by decide⟩) rfl rfl (Nat.le_of_ble_eq_true rfl) dL_law_1038 hroom (fun r238 M239 => ?_)
        refine g_icmp_eq (pc := 1041) F 1046 dL_law_1041 (by decide) ?_ ?_
        · refine g_iinc (pc := 1046) (v := x3 + 7) F [(0, .ref b), (1, .ref (ad (0))), (2, .ref (ad (70))), (3, .int (x3 + 7))] 3 dL_law_1046 rfl rfl (by decide) rfl rfl rfl ?_
          refine g_goto (pc := 1049) F 18 dL_law_1049 (by decide) ?_
          exact ih _ _
        · refine g_iconst (pc := 1044) (v := 0) F dL_law_1044 (by decide) ?_
          exact g_none
      refine g_tabd (pc := 33) F 1046 dL_law_33 (by have e0 := ne_lit (n := 0) (by decide) n2; have e1 := ne_lit (n := 1) (by decide) n17; have e2 := ne_lit (n := 2) (by decide) n34; have e3 := ne_lit (n := 3) (by decide) n43; have e4 := ne_lit (n := 4) (by decide) n54; have e5 := ne_lit (n := 5) (by decide) n63; have e6 := ne_lit (n := 6) (by decide) n76; have e7 := ne_lit (n := 7) (by decide) n89; have e8 := ne_lit (n := 8) (by decide) n104; have e9 := ne_lit (n := 9) (by decide) n119; have e10 := ne_lit (n := 10) (by decide) n128; have e11 := ne_lit (n := 11) (by decide) n133; have e12 := ne_lit (n := 12) (by decide) n144; have e13 := ne_lit (n := 13) (by decide) n155; have e14 := ne_lit (n := 14) (by decide) n168; have e15 := ne_lit (n := 15) (by decide) n183; have e16 := ne_lit (n := 16) (by decide) n202; have e17 := ne_lit (n := 17) (by decide) n211; have e18 := ne_lit (n := 18) (by decide) n220; have e19 := ne_lit (n := 19) (by decide) n231; omega) (by decide) ?_
      refine g_iinc (pc := 1046) (v := x3 + 7) F [(0, .ref b), (1, .ref (ad (0))), (2, .ref (ad (70))), (3, .int (x3 + 7))] 3 dL_law_1046 rfl rfl (by decide) rfl rfl rfl ?_
      refine g_goto (pc := 1049) F 18 dL_law_1049 (by decide) ?_
      exact ih _ _
