theorem kc_i6 : Int32.ofInt 6 = 6 := by decide
/-- the law -/
def w_law (N Ln : Nat) (xs9 : Nat → Int32) (b : Nat) (h0 : Hp) : Prop :=
  nw h0 11 [rV none, rV none, iV 0, rV none, rV none, rV none, rV none, rV none, rV none, rV none, rV none, rV none] fun a1 h2 =>
  w_X11_init N a1  h2 fun h3 =>
  nw h3 12 [iV 0, iV 0, rV none, rV none, rV none, rV none, rV none, rV none, rV none, rV none, rV none, rV none, rV none, iV 0, rV none, rV none, iV 0, rV none, rV none, iV 0, rV none, rV none, iV 0, iV 0, iV 0, rV none, rV none, rV none, rV none, rV none, rV none, rV none, rV none, rV none, rV none, rV none, rV none, rV none, iV 0, rV none, rV none, rV none, rV none, rV none, rV none, iV 0, rV none, rV none, rV none, iV 0, iV 0, rV none, iV 0, rV none, rV none, iV 0] fun a4 h5 =>
  w_X12_init N a4  h5 fun h6 =>
  nA h6 (.inl (3, 1, .inr (.inl (fun _ => 0)))) fun a7 h8 =>
  nA h8 (.inl (4, 1, .inr (.inr (.inr (.inl (fun _ => 0)))))) fun a9 h10 =>
  fx2 (fun (w28 : Int32 → Hp → Prop) (x12 : Int32) (h11 : Hp) =>
    br (((Int32.ofNat Ln) - 6) < x12) (
      True) (
      aS Ln xs9 x12 fun v13 =>
      br ((v13 &&& 63) = (0 : Int32)) (
        aS Ln xs9 (x12 + 1) fun v14 =>
        w_L_table N (some a1) v14 (some a7) h11 fun v15 h16 =>
        aS Ln xs9 (x12 + 1) fun v17 =>
        cv h16 a4 12 <| w_X12_table N a4 v17 h16 fun v18 h19 =>
        cv h19 a4 12 <| w_X12_thrown N a4  h19 fun v20 =>
        br (v20 = v15) (
          jn (
            w28 (x12 + 6) h19) (fun j269 =>
          br (v15 = 0) (
            aL h19 a7 0 fun v21 =>
            br ((lg_cmp v21 ((v18 : Int32).toInt64)) = 0) (
              j269 ) (
              False)) (
            j269 ))) (
          False)) (
      br ((v13 &&& 63) = (1 : Int32)) (
        aS Ln xs9 (x12 + 1) fun v22 =>
        aS Ln xs9 (x12 + 2) fun v23 =>
        aS Ln xs9 (x12 + 3) fun v24 =>
        aS Ln xs9 (x12 + 4) fun v25 =>
        w_L_bound N (some a1) v22 v23 v24 v25 (some a7) h11 fun v26 h27 =>
        aS Ln xs9 (x12 + 1) fun v28 =>
        aS Ln xs9 (x12 + 2) fun v29 =>
        aS Ln xs9 (x12 + 3) fun v30 =>
        aS Ln xs9 (x12 + 4) fun v31 =>
        cv h27 a4 12 <| w_X12_bound N a4 v28 v29 v30 v31 h27 fun v32 h33 =>
        cv h33 a4 12 <| w_X12_thrown N a4  h33 fun v34 =>
        br (v34 = v26) (
          jn (
            w28 (x12 + 6) h33) (fun j361 =>
          br (v26 = 0) (
            aL h33 a7 0 fun v35 =>
            br ((lg_cmp v35 ((v32 : Int32).toInt64)) = 0) (
              j361 ) (
              False)) (
            j361 ))) (
          False)) (
      br ((v13 &&& 63) = (2 : Int32)) (
        aS Ln xs9 (x12 + 1) fun v36 =>
        aS Ln xs9 (x12 + 2) fun v37 =>
        aS Ln xs9 (x12 + 3) fun v38 =>
        aS Ln xs9 (x12 + 4) fun v39 =>
        w_L_insert N (some a1) v36 v37 v38 v39 (some a7) h11 fun v40 h41 =>
        aS Ln xs9 (x12 + 1) fun v42 =>
        aS Ln xs9 (x12 + 2) fun v43 =>
        aS Ln xs9 (x12 + 3) fun v44 =>
        aS Ln xs9 (x12 + 4) fun v45 =>
        cv h41 a4 12 <| w_X12_insert N a4 v42 v43 v44 v45 h41 fun v46 h47 =>
        cv h47 a4 12 <| w_X12_thrown N a4  h47 fun v48 =>
        br (v48 = v40) (
          jn (
            w28 (x12 + 6) h47) (fun j453 =>
          br (v40 = 0) (
            aL h47 a7 0 fun v49 =>
            br ((lg_cmp v49 ((v46 : Int32).toInt64)) = 0) (
              j453 ) (
              False)) (
            j453 ))) (
          False)) (
      br ((v13 &&& 63) = (3 : Int32)) (
        aS Ln xs9 (x12 + 1) fun v50 =>
        aS Ln xs9 (x12 + 2) fun v51 =>
        w_L_remove N (some a1) v50 v51 (some a7) h11 fun v52 h53 =>
        aS Ln xs9 (x12 + 1) fun v54 =>
        aS Ln xs9 (x12 + 2) fun v55 =>
        cv h53 a4 12 <| w_X12_remove N a4 v54 v55 h53 fun v56 h57 =>
        cv h57 a4 12 <| w_X12_thrown N a4  h57 fun v58 =>
        br (v58 = v52) (
          jn (
            w28 (x12 + 6) h57) (fun j521 =>
          br (v52 = 0) (
            aL h57 a7 0 fun v59 =>
            br ((lg_cmp v59 ((v56 : Int32).toInt64)) = 0) (
              j521 ) (
              False)) (
            j521 ))) (
          False)) (
      br ((v13 &&& 63) = (4 : Int32)) (
        aS Ln xs9 (x12 + 1) fun v60 =>
        w_L_count N (some a1) v60 (some a7) h11 fun v61 h62 =>
        aS Ln xs9 (x12 + 1) fun v63 =>
        cv h62 a4 12 <| w_X12_count N a4 v63 h62 fun v64 h65 =>
        cv h65 a4 12 <| w_X12_thrown N a4  h65 fun v66 =>
        br (v66 = v61) (
          jn (
            w28 (x12 + 6) h65) (fun j577 =>
          br (v61 = 0) (
            aL h65 a7 0 fun v67 =>
            br ((lg_cmp v67 ((v64 : Int32).toInt64)) = 0) (
              j577 ) (
              False)) (
            j577 ))) (
          False)) (
      br ((v13 &&& 63) = (5 : Int32)) (
        aS Ln xs9 (x12 + 1) fun v68 =>
        aS Ln xs9 (x12 + 2) fun v69 =>
        w_L_index N (some a1) v68 v69 (some a7) h11 fun v70 h71 =>
        aS Ln xs9 (x12 + 1) fun v72 =>
        aS Ln xs9 (x12 + 2) fun v73 =>
        cv h71 a4 12 <| w_X12_index N a4 v72 v73 h71 fun v74 h75 =>
        cv h75 a4 12 <| w_X12_thrown N a4  h75 fun v76 =>
        br (v76 = v70) (
          jn (
            w28 (x12 + 6) h75) (fun j645 =>
          br (v70 = 0) (
            aL h75 a7 0 fun v77 =>
            br ((lg_cmp v77 ((v74 : Int32).toInt64)) = 0) (
              j645 ) (
              False)) (
            j645 ))) (
          False)) (
      br ((v13 &&& 63) = (6 : Int32)) (
        aS Ln xs9 (x12 + 1) fun v78 =>
        w_L_frames N (some a1) v78 (some a7) h11 fun v79 h80 =>
        aS Ln xs9 (x12 + 1) fun v81 =>
        cv h80 a4 12 <| w_X12_frames N a4 v81 h80 fun v82 h83 =>
        cv h83 a4 12 <| w_X12_thrown N a4  h83 fun v84 =>
        br (v84 = v79) (
          jn (
            w28 (x12 + 6) h83) (fun j701 =>
          br (v79 = 0) (
            aL h83 a7 0 fun v85 =>
            br ((lg_cmp v85 ((v82 : Int32).toInt64)) = 0) (
              j701 ) (
              False)) (
            j701 ))) (
          False)) (
      br ((v13 &&& 63) = (7 : Int32)) (
        aS Ln xs9 (x12 + 1) fun v86 =>
        w_L_pages N (some a1) v86 (some a7) h11 fun v87 h88 =>
        aS Ln xs9 (x12 + 1) fun v89 =>
        cv h88 a4 12 <| w_X12_pages N a4 v89 h88 fun v90 h91 =>
        cv h91 a4 12 <| w_X12_thrown N a4  h91 fun v92 =>
        br (v92 = v87) (
          jn (
            w28 (x12 + 6) h91) (fun j757 =>
          br (v87 = 0) (
            aL h91 a7 0 fun v93 =>
            br ((lg_cmp v93 ((v90 : Int32).toInt64)) = 0) (
              j757 ) (
              False)) (
            j757 ))) (
          False)) (
      br ((v13 &&& 63) = (8 : Int32)) (
        aS Ln xs9 (x12 + 1) fun v94 =>
        aS Ln xs9 (x12 + 2) fun v95 =>
        aS Ln xs9 (x12 + 3) fun v96 =>
        w_L_value N (some a1) v94 v95 v96 (some a7) h11 fun v97 h98 =>
        aS Ln xs9 (x12 + 1) fun v99 =>
        aS Ln xs9 (x12 + 2) fun v100 =>
        aS Ln xs9 (x12 + 3) fun v101 =>
        cv h98 a4 12 <| w_X12_value N a4 v99 v100 v101 h98 fun v102 h103 =>
        cv h103 a4 12 <| w_X12_thrown N a4  h103 fun v104 =>
        br (v104 = v97) (
          jn (
            w28 (x12 + 6) h103) (fun j837 =>
          br (v97 = 0) (
            aL h103 a7 0 fun v105 =>
            br ((lg_cmp v105 ((v102 : Int32).toInt64)) = 0) (
              j837 ) (
              False)) (
            j837 ))) (
          False)) (
      br ((v13 &&& 63) = (9 : Int32)) (
        aS Ln xs9 (x12 + 1) fun v106 =>
        w_L_entries N (some a1) v106 (some a7) h11 fun v107 h108 =>
        aS Ln xs9 (x12 + 1) fun v109 =>
        cv h108 a4 12 <| w_X12_entries N a4 v109 h108 fun v110 h111 =>
        cv h111 a4 12 <| w_X12_thrown N a4  h111 fun v112 =>
        br (v112 = v107) (
          jn (
            w28 (x12 + 6) h111) (fun j893 =>
          br (v107 = 0) (
            aL h111 a7 0 fun v113 =>
            br ((lg_cmp v113 ((v110 : Int32).toInt64)) = 0) (
              j893 ) (
              False)) (
            j893 ))) (
          False)) (
      br ((v13 &&& 63) = (10 : Int32)) (
        aS Ln xs9 (x12 + 1) fun v114 =>
        aS Ln xs9 (x12 + 2) fun v115 =>
        w_L_entryAt N (some a1) v114 v115 (some a7) h11 fun v116 h117 =>
        aS Ln xs9 (x12 + 1) fun v118 =>
        aS Ln xs9 (x12 + 2) fun v119 =>
        cv h117 a4 12 <| w_X12_entryAt N a4 v118 v119 h117 fun v120 h121 =>
        cv h121 a4 12 <| w_X12_thrown N a4  h121 fun v122 =>
        br (v122 = v116) (
          jn (
            w28 (x12 + 6) h121) (fun j961 =>
          br (v116 = 0) (
            aL h121 a7 0 fun v123 =>
            br ((lg_cmp v123 ((v120 : Int32).toInt64)) = 0) (
              j961 ) (
              False)) (
            j961 ))) (
          False)) (
      br ((v13 &&& 63) = (11 : Int32)) (
        aS Ln xs9 (x12 + 1) fun v124 =>
        aS Ln xs9 (x12 + 2) fun v125 =>
        aS Ln xs9 (x12 + 3) fun v126 =>
        w_L_counted N (some a1) v124 v125 (((v126 : Int32).toUInt32 % 65536).toInt32) (some a7) h11 fun v127 h128 =>
        aS Ln xs9 (x12 + 1) fun v129 =>
        aS Ln xs9 (x12 + 2) fun v130 =>
        aS Ln xs9 (x12 + 3) fun v131 =>
        cv h128 a4 12 <| w_X12_counted N a4 v129 v130 (((v131 : Int32).toUInt32 % 65536).toInt32) h128 fun v132 h133 =>
        cv h133 a4 12 <| w_X12_thrown N a4  h133 fun v134 =>
        br (v134 = v127) (
          jn (
            w28 (x12 + 6) h133) (fun j1043 =>
          br (v127 = 0) (
            aL h133 a7 0 fun v135 =>
            br ((lg_cmp v135 ((v132 : Int32).toInt64)) = 0) (
              j1043 ) (
              False)) (
            j1043 ))) (
          False)) (
      br ((v13 &&& 63) = (12 : Int32)) (
        cv h11 a1 11 <| w_X11_cached N a1  h11 fun v136 =>
        cv h11 a4 12 <| w_X12_cached N a4  h11 fun v137 h138 =>
        br (v136 = v137) (
          w28 (x12 + 6) h138) (
          False)) (
      br ((v13 &&& 63) = (13 : Int32)) (
        aS Ln xs9 (x12 + 1) fun v139 =>
        w_L_cachedAt N (some a1) v139 (some a7) h11 fun v140 h141 =>
        aS Ln xs9 (x12 + 1) fun v142 =>
        cv h141 a4 12 <| w_X12_cachedAt N a4 v142 h141 fun v143 h144 =>
        cv h144 a4 12 <| w_X12_thrown N a4  h144 fun v145 =>
        br (v145 = v140) (
          jn (
            w28 (x12 + 6) h144) (fun j1112 =>
          br (v140 = 0) (
            aL h144 a7 0 fun v146 =>
            br ((lg_cmp v146 ((v143 : Int32).toInt64)) = 0) (
              j1112 ) (
              False)) (
            j1112 ))) (
          False)) (
      br ((v13 &&& 63) = (14 : Int32)) (
        cv h11 a1 11 <| w_X11_flush N a1  h11 fun v147 h148 =>
        cv h148 a4 12 <| w_X12_flush N a4  h148 fun v149 h150 =>
        br (v147 = v149) (
          w28 (x12 + 6) h150) (
          False)) (
      br ((v13 &&& 63) = (15 : Int32)) (
        w_L_query N (some a1) (some a7) h11 fun v151 h152 =>
        cv h152 a4 12 <| w_X12_query N a4  h152 fun v153 h154 =>
        cv h154 a4 12 <| w_X12_thrown N a4  h154 fun v155 =>
        br (v155 = v151) (
          jn (
            w28 (x12 + 6) h154) (fun j1169 =>
          br (v151 = 0) (
            aL h154 a7 0 fun v156 =>
            br ((lg_cmp v156 ((v153 : Int32).toInt64)) = 0) (
              j1169 ) (
              False)) (
            j1169 ))) (
          False)) (
      br ((v13 &&& 63) = (16 : Int32)) (
        aS Ln xs9 (x12 + 1) fun v157 =>
        aS Ln xs9 (x12 + 2) fun v158 =>
        w_L_from N (some a1) v157 v158 (some a7) h11 fun v159 h160 =>
        aS Ln xs9 (x12 + 1) fun v161 =>
        aS Ln xs9 (x12 + 2) fun v162 =>
        cv h160 a4 12 <| w_X12_from N a4 v161 v162 h160 fun v163 h164 =>
        cv h164 a4 12 <| w_X12_thrown N a4  h164 fun v165 =>
        br (v165 = v159) (
          jn (
            w28 (x12 + 6) h164) (fun j1237 =>
          br (v159 = 0) (
            aL h164 a7 0 fun v166 =>
            br ((lg_cmp v166 ((v163 : Int32).toInt64)) = 0) (
              j1237 ) (
              False)) (
            j1237 ))) (
          False)) (
      br ((v13 &&& 63) = (17 : Int32)) (
        aS Ln xs9 (x12 + 1) fun v167 =>
        aS Ln xs9 (x12 + 2) fun v168 =>
        aS Ln xs9 (x12 + 3) fun v169 =>
        aS Ln xs9 (x12 + 4) fun v170 =>
        aS Ln xs9 (x12 + 5) fun v171 =>
        w_L_where N (some a1) v167 v168 v169 (((v170 : Int32).toUInt32 % 65536).toInt32) v171 (some a7) h11 fun v172 h173 =>
        aS Ln xs9 (x12 + 1) fun v174 =>
        aS Ln xs9 (x12 + 2) fun v175 =>
        aS Ln xs9 (x12 + 3) fun v176 =>
        aS Ln xs9 (x12 + 4) fun v177 =>
        aS Ln xs9 (x12 + 5) fun v178 =>
        cv h173 a4 12 <| w_X12_where N a4 v174 v175 v176 (((v177 : Int32).toUInt32 % 65536).toInt32) v178 h173 fun v179 h180 =>
        cv h180 a4 12 <| w_X12_thrown N a4  h180 fun v181 =>
        br (v181 = v172) (
          jn (
            w28 (x12 + 6) h180) (fun j1343 =>
          br (v172 = 0) (
            aL h180 a7 0 fun v182 =>
            br ((lg_cmp v182 ((v179 : Int32).toInt64)) = 0) (
              j1343 ) (
              False)) (
            j1343 ))) (
          False)) (
      br ((v13 &&& 63) = (18 : Int32)) (
        aS Ln xs9 (x12 + 1) fun v183 =>
        aS Ln xs9 (x12 + 2) fun v184 =>
        aS Ln xs9 (x12 + 3) fun v185 =>
        aS Ln xs9 (x12 + 4) fun v186 =>
        aS Ln xs9 (x12 + 5) fun v187 =>
        w_L_join N (some a1) v183 v184 v185 v186 v187 (some a7) h11 fun v188 h189 =>
        aS Ln xs9 (x12 + 1) fun v190 =>
        aS Ln xs9 (x12 + 2) fun v191 =>
        aS Ln xs9 (x12 + 3) fun v192 =>
        aS Ln xs9 (x12 + 4) fun v193 =>
        aS Ln xs9 (x12 + 5) fun v194 =>
        cv h189 a4 12 <| w_X12_join N a4 v190 v191 v192 v193 v194 h189 fun v195 h196 =>
        cv h196 a4 12 <| w_X12_thrown N a4  h196 fun v197 =>
        br (v197 = v188) (
          jn (
            w28 (x12 + 6) h196) (fun j1447 =>
          br (v188 = 0) (
            aL h196 a7 0 fun v198 =>
            br ((lg_cmp v198 ((v195 : Int32).toInt64)) = 0) (
              j1447 ) (
              False)) (
            j1447 ))) (
          False)) (
      br ((v13 &&& 63) = (19 : Int32)) (
        aS Ln xs9 (x12 + 1) fun v199 =>
        w_L_answers N (some a1) v199 (some a7) h11 fun v200 h201 =>
        aS Ln xs9 (x12 + 1) fun v202 =>
        cv h201 a4 12 <| w_X12_answers N a4 v202 h201 fun v203 h204 =>
        cv h204 a4 12 <| w_X12_thrown N a4  h204 fun v205 =>
        br (v205 = v200) (
          jn (
            w28 (x12 + 6) h204) (fun j1503 =>
          br (v200 = 0) (
            aL h204 a7 0 fun v206 =>
            br ((lg_cmp v206 ((v203 : Int32).toInt64)) = 0) (
              j1503 ) (
              False)) (
            j1503 ))) (
          False)) (
      br ((v13 &&& 63) = (20 : Int32)) (
        aS Ln xs9 (x12 + 1) fun v207 =>
        aS Ln xs9 (x12 + 2) fun v208 =>
        aS Ln xs9 (x12 + 3) fun v209 =>
        w_L_answerAt N (some a1) v207 v208 v209 (some a7) h11 fun v210 h211 =>
        aS Ln xs9 (x12 + 1) fun v212 =>
        aS Ln xs9 (x12 + 2) fun v213 =>
        aS Ln xs9 (x12 + 3) fun v214 =>
        cv h211 a4 12 <| w_X12_answerAt N a4 v212 v213 v214 h211 fun v215 h216 =>
        cv h216 a4 12 <| w_X12_thrown N a4  h216 fun v217 =>
        br (v217 = v210) (
          jn (
            w28 (x12 + 6) h216) (fun j1583 =>
          br (v210 = 0) (
            aL h216 a7 0 fun v218 =>
            br ((lg_cmp v218 ((v215 : Int32).toInt64)) = 0) (
              j1583 ) (
              False)) (
            j1583 ))) (
          False)) (
      br ((v13 &&& 63) = (21 : Int32)) (
        aS Ln xs9 (x12 + 1) fun v219 =>
        aS Ln xs9 (x12 + 2) fun v220 =>
        aS Ln xs9 (x12 + 3) fun v221 =>
        w_L_sum N (some a1) v219 v220 v221 (some a7) h11 fun v222 h223 =>
        aS Ln xs9 (x12 + 1) fun v224 =>
        aS Ln xs9 (x12 + 2) fun v225 =>
        aS Ln xs9 (x12 + 3) fun v226 =>
        cv h223 a4 12 <| w_X12_sum N a4 v224 v225 v226 h223 fun v227 h228 =>
        cv h228 a4 12 <| w_X12_thrown N a4  h228 fun v229 =>
        br (v229 = v222) (
          jn (
            w28 (x12 + 6) h228) (fun j1662 =>
          br (v222 = 0) (
            aL h228 a7 0 fun v230 =>
            br ((lg_cmp v230 v227) = 0) (
              j1662 ) (
              False)) (
            j1662 ))) (
          False)) (
      br ((v13 &&& 63) = (22 : Int32)) (
        aS Ln xs9 (x12 + 1) fun v231 =>
        aS Ln xs9 (x12 + 2) fun v232 =>
        aS Ln xs9 (x12 + 3) fun v233 =>
        w_L_planned N (some a1) v231 v232 v233 (some a7) h11 fun v234 h235 =>
        aS Ln xs9 (x12 + 1) fun v236 =>
        aS Ln xs9 (x12 + 2) fun v237 =>
        aS Ln xs9 (x12 + 3) fun v238 =>
        cv h235 a4 12 <| w_X12_planned N a4 v236 v237 v238 h235 fun v239 h240 =>
        cv h240 a4 12 <| w_X12_thrown N a4  h240 fun v241 =>
        br (v241 = v234) (
          jn (
            w28 (x12 + 6) h240) (fun j1742 =>
          br (v234 = 0) (
            aL h240 a7 0 fun v242 =>
            br ((lg_cmp v242 ((v239 : Int32).toInt64)) = 0) (
              j1742 ) (
              False)) (
            j1742 ))) (
          False)) (
      br ((v13 &&& 63) = (23 : Int32)) (
        aS Ln xs9 (x12 + 1) fun v243 =>
        aS Ln xs9 (x12 + 2) fun v244 =>
        aS Ln xs9 (x12 + 3) fun v245 =>
        w_L_way N (some a1) v243 v244 v245 (some a7) h11 fun v246 h247 =>
        aS Ln xs9 (x12 + 1) fun v248 =>
        aS Ln xs9 (x12 + 2) fun v249 =>
        aS Ln xs9 (x12 + 3) fun v250 =>
        cv h247 a4 12 <| w_X12_way N a4 v248 v249 v250 h247 fun v251 h252 =>
        cv h252 a4 12 <| w_X12_thrown N a4  h252 fun v253 =>
        br (v253 = v246) (
          jn (
            w28 (x12 + 6) h252) (fun j1822 =>
          br (v246 = 0) (
            aL h252 a7 0 fun v254 =>
            br ((lg_cmp v254 ((v251 : Int32).toInt64)) = 0) (
              j1822 ) (
              False)) (
            j1822 ))) (
          False)) (
      br ((v13 &&& 63) = (24 : Int32)) (
        aS Ln xs9 (x12 + 1) fun v255 =>
        aS Ln xs9 (x12 + 2) fun v256 =>
        aS Ln xs9 (x12 + 3) fun v257 =>
        w_L_usedIndex N (some a1) v255 v256 v257 (some a7) h11 fun v258 h259 =>
        aS Ln xs9 (x12 + 1) fun v260 =>
        aS Ln xs9 (x12 + 2) fun v261 =>
        aS Ln xs9 (x12 + 3) fun v262 =>
        cv h259 a4 12 <| w_X12_usedIndex N a4 v260 v261 v262 h259 fun v263 h264 =>
        cv h264 a4 12 <| w_X12_thrown N a4  h264 fun v265 =>
        br (v265 = v258) (
          jn (
            w28 (x12 + 6) h264) (fun j1902 =>
          br (v258 = 0) (
            aL h264 a7 0 fun v266 =>
            br ((lg_cmp v266 ((v263 : Int32).toInt64)) = 0) (
              j1902 ) (
              False)) (
            j1902 ))) (
          False)) (
      br ((v13 &&& 63) = (25 : Int32)) (
        aS Ln xs9 (x12 + 1) fun v267 =>
        aS Ln xs9 (x12 + 2) fun v268 =>
        w_L_estimate N (some a1) v267 v268 (some a7) h11 fun v269 h270 =>
        aS Ln xs9 (x12 + 1) fun v271 =>
        aS Ln xs9 (x12 + 2) fun v272 =>
        cv h270 a4 12 <| w_X12_estimate N a4 v271 v272 h270 fun v273 h274 =>
        cv h274 a4 12 <| w_X12_thrown N a4  h274 fun v275 =>
        br (v275 = v269) (
          jn (
            w28 (x12 + 6) h274) (fun j1969 =>
          br (v269 = 0) (
            aL h274 a7 0 fun v276 =>
            br ((lg_cmp v276 v273) = 0) (
              j1969 ) (
              False)) (
            j1969 ))) (
          False)) (
      br ((v13 &&& 63) = (26 : Int32)) (
        aS Ln xs9 (x12 + 1) fun v277 =>
        aS Ln xs9 (x12 + 2) fun v278 =>
        w_L_cold N (some a1) v277 v278 (some a7) h11 fun v279 h280 =>
        aS Ln xs9 (x12 + 1) fun v281 =>
        aS Ln xs9 (x12 + 2) fun v282 =>
        cv h280 a4 12 <| w_X12_cold N a4 v281 v282 h280 fun v283 h284 =>
        cv h284 a4 12 <| w_X12_thrown N a4  h284 fun v285 =>
        br (v285 = v279) (
          jn (
            w28 (x12 + 6) h284) (fun j2037 =>
          br (v279 = 0) (
            aL h284 a7 0 fun v286 =>
            br ((lg_cmp v286 ((v283 : Int32).toInt64)) = 0) (
              j2037 ) (
              False)) (
            j2037 ))) (
          False)) (
      br ((v13 &&& 63) = (27 : Int32)) (
        aS Ln xs9 (x12 + 1) fun v287 =>
        aS Ln xs9 (x12 + 2) fun v288 =>
        w_L_reads N (some a1) v287 v288 (some a7) h11 fun v289 h290 =>
        aS Ln xs9 (x12 + 1) fun v291 =>
        aS Ln xs9 (x12 + 2) fun v292 =>
        cv h290 a4 12 <| w_X12_reads N a4 v291 v292 h290 fun v293 h294 =>
        cv h294 a4 12 <| w_X12_thrown N a4  h294 fun v295 =>
        br (v295 = v289) (
          jn (
            w28 (x12 + 6) h294) (fun j2105 =>
          br (v289 = 0) (
            aL h294 a7 0 fun v296 =>
            br ((lg_cmp v296 ((v293 : Int32).toInt64)) = 0) (
              j2105 ) (
              False)) (
            j2105 ))) (
          False)) (
      br ((v13 &&& 63) = (28 : Int32)) (
        aS Ln xs9 (x12 + 1) fun v297 =>
        aS Ln xs9 (x12 + 2) fun v298 =>
        w_L_ban N (some a1) v297 v298 (some a7) h11 fun v299 h300 =>
        aS Ln xs9 (x12 + 1) fun v301 =>
        aS Ln xs9 (x12 + 2) fun v302 =>
        cv h300 a4 12 <| w_X12_ban N a4 v301 v302 h300 fun v303 h304 =>
        cv h304 a4 12 <| w_X12_thrown N a4  h304 fun v305 =>
        br (v305 = v299) (
          jn (
            w28 (x12 + 6) h304) (fun j2173 =>
          br (v299 = 0) (
            aL h304 a7 0 fun v306 =>
            br ((lg_cmp v306 ((v303 : Int32).toInt64)) = 0) (
              j2173 ) (
              False)) (
            j2173 ))) (
          False)) (
      br ((v13 &&& 63) = (29 : Int32)) (
        aS Ln xs9 (x12 + 1) fun v307 =>
        w_L_round N (some a1) v307 (some a7) h11 fun v308 h309 =>
        aS Ln xs9 (x12 + 1) fun v310 =>
        cv h309 a4 12 <| w_X12_round N a4 v310 h309 fun v311 h312 =>
        cv h312 a4 12 <| w_X12_thrown N a4  h312 fun v313 =>
        br (v313 = v308) (
          jn (
            w28 (x12 + 6) h312) (fun j2229 =>
          br (v308 = 0) (
            aL h312 a7 0 fun v314 =>
            br ((lg_cmp v314 ((v311 : Int32).toInt64)) = 0) (
              j2229 ) (
              False)) (
            j2229 ))) (
          False)) (
      br ((v13 &&& 63) = (30 : Int32)) (
        aS Ln xs9 (x12 + 1) fun v315 =>
        w_L_appeal N (some a1) v315 (some a7) h11 fun v316 h317 =>
        aS Ln xs9 (x12 + 1) fun v318 =>
        cv h317 a4 12 <| w_X12_appeal N a4 v318 h317 fun v319 h320 =>
        cv h320 a4 12 <| w_X12_thrown N a4  h320 fun v321 =>
        br (v321 = v316) (
          jn (
            w28 (x12 + 6) h320) (fun j2285 =>
          br (v316 = 0) (
            aL h320 a7 0 fun v322 =>
            br ((lg_cmp v322 ((v319 : Int32).toInt64)) = 0) (
              j2285 ) (
              False)) (
            j2285 ))) (
          False)) (
      br ((v13 &&& 63) = (31 : Int32)) (
        aS Ln xs9 (x12 + 1) fun v323 =>
        w_L_coins N (some a1) v323 (some a7) h11 fun v324 h325 =>
        aS Ln xs9 (x12 + 1) fun v326 =>
        cv h325 a4 12 <| w_X12_coins N a4 v326 h325 fun v327 h328 =>
        cv h328 a4 12 <| w_X12_thrown N a4  h328 fun v329 =>
        br (v329 = v324) (
          jn (
            w28 (x12 + 6) h328) (fun j2341 =>
          br (v324 = 0) (
            aL h328 a7 0 fun v330 =>
            br ((lg_cmp v330 ((v327 : Int32).toInt64)) = 0) (
              j2341 ) (
              False)) (
            j2341 ))) (
          False)) (
      br ((v13 &&& 63) = (32 : Int32)) (
        aS Ln xs9 (x12 + 1) fun v331 =>
        aS Ln xs9 (x12 + 2) fun v332 =>
        w_L_misses N (some a1) v331 v332 (some a7) h11 fun v333 h334 =>
        aS Ln xs9 (x12 + 1) fun v335 =>
        aS Ln xs9 (x12 + 2) fun v336 =>
        cv h334 a4 12 <| w_X12_misses N a4 v335 v336 h334 fun v337 h338 =>
        cv h338 a4 12 <| w_X12_thrown N a4  h338 fun v339 =>
        br (v339 = v333) (
          jn (
            w28 (x12 + 6) h338) (fun j2409 =>
          br (v333 = 0) (
            aL h338 a7 0 fun v340 =>
            br ((lg_cmp v340 ((v337 : Int32).toInt64)) = 0) (
              j2409 ) (
              False)) (
            j2409 ))) (
          False)) (
      br ((v13 &&& 63) = (33 : Int32)) (
        aS Ln xs9 (x12 + 1) fun v341 =>
        w_L_total N (some a1) v341 (some a7) h11 fun v342 h343 =>
        aS Ln xs9 (x12 + 1) fun v344 =>
        cv h343 a4 12 <| w_X12_total N a4 v344 h343 fun v345 h346 =>
        cv h346 a4 12 <| w_X12_thrown N a4  h346 fun v347 =>
        br (v347 = v342) (
          jn (
            w28 (x12 + 6) h346) (fun j2465 =>
          br (v342 = 0) (
            aL h346 a7 0 fun v348 =>
            br ((lg_cmp v348 ((v345 : Int32).toInt64)) = 0) (
              j2465 ) (
              False)) (
            j2465 ))) (
          False)) (
      br ((v13 &&& 63) = (34 : Int32)) (
        cv h11 a1 11 <| w_X11_rounds N a1  h11 fun v349 =>
        cv h11 a4 12 <| w_X12_rounds N a4  h11 fun v350 h351 =>
        br (v349 = v350) (
          w28 (x12 + 6) h351) (
          False)) (
      br ((v13 &&& 63) = (35 : Int32)) (
        cv h11 a1 11 <| w_X11_print N a1  h11 fun v352 =>
        cv h11 a4 12 <| w_X12_print N a4  h11 fun v353 h354 =>
        br ((lg_cmp v352 v353) = 0) (
          w28 (x12 + 6) h354) (
          False)) (
      br ((v13 &&& 63) = (36 : Int32)) (
        aS Ln xs9 (x12 + 1) fun v355 =>
        aS Ln xs9 (x12 + 2) fun v356 =>
        w_L_hitShare N (some a1) v355 v356 (some a9) h11 fun v357 h358 =>
        aS Ln xs9 (x12 + 1) fun v359 =>
        aS Ln xs9 (x12 + 2) fun v360 =>
        cv h358 a4 12 <| w_X12_hitShare N a4 v359 v360 h358 fun v361 h362 =>
        cv h362 a4 12 <| w_X12_thrown N a4  h362 fun v363 =>
        br (v363 = v357) (
          jn (
            w28 (x12 + 6) h362) (fun j2582 =>
          br (v357 = 0) (
            aD h362 a9 0 fun v364 =>
            ok (vf_n64 (FP.f2d v361)) (
            br ((Op.cmpValue (FP.dcmp v364 (FP.f2d v361)) CmpOp.l) = 0) (
              j2582 ) (
              aD h362 a9 0 fun v365 =>
              aD h362 a9 0 fun v366 =>
              br ((Op.cmpValue (FP.dcmp v365 v366) CmpOp.l) = 0) (
                False) (
                br ((Op.cmpValue (FP.fcmp v361 v361) CmpOp.l) = 0) (
                  False) (
                  j2582 ))))) (
            j2582 ))) (
          False)) (
      br ((v13 &&& 63) = (37 : Int32)) (
        w_L_meanMisses N (some a1) (some a9) h11 fun v367 h368 =>
        cv h368 a4 12 <| w_X12_meanMisses N a4  h368 fun v369 h370 =>
        cv h370 a4 12 <| w_X12_thrown N a4  h370 fun v371 =>
        br (v371 = v367) (
          jn (
            w28 (x12 + 6) h370) (fun j2647 =>
          br (v367 = 0) (
            aD h370 a9 0 fun v372 =>
            br ((Op.cmpValue (FP.dcmp v372 v369) CmpOp.l) = 0) (
              j2647 ) (
              aD h370 a9 0 fun v373 =>
              aD h370 a9 0 fun v374 =>
              br ((Op.cmpValue (FP.dcmp v373 v374) CmpOp.l) = 0) (
                False) (
                br ((Op.cmpValue (FP.dcmp v369 v369) CmpOp.l) = 0) (
                  False) (
                  j2647 )))) (
            j2647 ))) (
          False)) (
      br ((v13 &&& 63) = (38 : Int32)) (
        cv h11 a1 11 <| w_X11_isSound N a1  h11 fun v375 h376 =>
        cv h376 a4 12 <| w_X12_isSound N a4  h376 fun v377 h378 =>
        br (v375 = v377) (
          w28 (x12 + 6) h378) (
          False)) (
        w28 (x12 + 6) h11))))))))))))))))))))))))))))))))))))))))) N 0 h10
theorem nI6 (kk : Nat) : nI (6 * kk) + 6 = nI (6 * (kk + 1)) := by rw [show (6 : Int32) = nI 6 from rfl, nI_add]; rfl
theorem law_head {Ln kk : Nat} (hL : Ln ≤ 3072) (hk : 6 * kk ≤ Ln + 5) (h : ¬ Int32.ofNat Ln - 6 < nI (6 * kk)) : 6 * kk + 6 ≤ Ln := by
  by_cases h6 : 6 ≤ Ln
  · have e1 : Int32.ofNat Ln - 6 = nI (Ln - 6) := by
      have e2 : nI (Ln - 6) + 6 = nI Ln := by rw [show (6 : Int32) = nI 6 from rfl, nI_add]; congr 1; omega
      show nI Ln - 6 = _
      rw [← e2, Int32.add_sub_cancel]
    rw [e1, nI_ltI (by omega) (by omega)] at h
    omega
  · have h7 : Ln = 0 ∨ Ln = 1 ∨ Ln = 2 ∨ Ln = 3 ∨ Ln = 4 ∨ Ln = 5 := by omega
    have h8 : kk = 0 ∨ kk = 1 := by omega
    rcases h7 with rfl | rfl | rfl | rfl | rfl | rfl <;> rcases h8 with rfl | rfl <;> exact absurd (by decide) h
set_option maxHeartbeats 40000000 in
set_option maxRecDepth 100000 in
theorem go_law {G : Gp} {p : Program} {e : Env} {s : State} {m : MethodId} {below : List Frame} {meth : Method} {c9 : Code} {l : Launch} {b Ln N : Nat} {xs9 : Nat → Int32} {h0 : Hp} (hL : Ln ≤ 3072) (hx : p.tables.exec = Jvm.exec) (hb : c9.code = code) (hr : meth.sig.returnType = ret) (hlocks : meth.locks = false) (hG : G.2.2.1 = s.heap.size)
    (C : Cx G (p, l, e, s.setDrawn s.drawn, m, #[Value.ref b], below, meth, c9) RL cL_law 9 ret) (S : Sc G (p, l, e, s.setDrawn s.drawn, m, #[Value.ref b], below, meth, c9) b Ln xs9) (hw : w_law N Ln xs9 b h0) : Go G (p, l, e, s.setDrawn s.drawn, m, #[Value.ref b], below, meth, c9) room_1 9 0 0 (lw_Z below #[Value.ref b] s) h0 0 [(0, rV (some b))] [] := by
  obtain ⟨X, hX⟩ : ∃ X : Kx, X = (p, l, e, s.setDrawn s.drawn, m, #[Value.ref b], below, meth, c9) := ⟨_, rfl⟩
  have hend : ∀ {nL cells slots : Nat} {h : Hp} {pc : Nat} {L : List (Nat × Tv)}, decode code pc = .ok (.ireturn, 1) → cells ≤ 603072 → slots ≤ 7207018 → Go G X room_1 nL cells slots (lw_Z below #[Value.ref b] s) h pc L [iV 1] := by
    intro nL cells slots h pc L hd hc hs
    rw [hX]
    exact go_lend hx hb hr hlocks hG hd hc hs
  rw [← hX] at C S ⊢
  unfold w_law at hw
  refine go_new C cfX11 tw1_27 tw1_28 tw1_1 [rV none, rV none, iV 0, rV none, rV none, rV none, rV none, rV none, rV none, rV none, rV none, rV none] dfX11 ⟨Nat.le_of_ble_eq_true rfl, Nat.le_of_ble_eq_true rfl⟩ dL_law_0 hw (fun a1 h2 hw => ?_)
  refine go_dup C _ dL_law_3 rfl ?_
  refine go_callI_v C [] vX11_init tw1_29 (m_X11_init (xl X) C.2.2.2.2.2.2.2.1 N hw) ⟨Nat.le_of_ble_eq_true rfl, Nat.le_of_ble_eq_true rfl, Nat.le_of_ble_eq_true rfl, Nat.le_of_ble_eq_true rfl⟩ dL_law_4 rfl (Nat.le_of_ble_eq_true rfl) rfl (fun h3 hw => ?_)
  refine go_astore_n C [(1, rV (some a1)), (0, rV (some b))] dL_law_7 (Nat.le_of_ble_eq_true rfl) rfl ?_
  refine go_new C cfX12 tw7_77 tw7_78 tw1_8 [iV 0, iV 0, rV none, rV none, rV none, rV none, rV none, rV none, rV none, rV none, rV none, rV none, rV none, iV 0, rV none, rV none, iV 0, rV none, rV none, iV 0, rV none, rV none, iV 0, iV 0, iV 0, rV none, rV none, rV none, rV none, rV none, rV none, rV none, rV none, rV none, rV none, rV none, rV none, rV none, iV 0, rV none, rV none, rV none, rV none, rV none, rV none, iV 0, rV none, rV none, rV none, iV 0, iV 0, rV none, iV 0, rV none, rV none, iV 0] dfX12 ⟨Nat.le_of_ble_eq_true rfl, Nat.le_of_ble_eq_true rfl⟩ dL_law_8 hw (fun a4 h5 hw => ?_)
  refine go_dup C _ dL_law_11 rfl ?_
  refine go_callI_v C [] vX12_init tw7_79 (m_X12_init (xl X) C.2.2.2.2.2.2.2.1 N hw) ⟨Nat.le_of_ble_eq_true rfl, Nat.le_of_ble_eq_true rfl, Nat.le_of_ble_eq_true rfl, Nat.le_of_ble_eq_true rfl⟩ dL_law_12 rfl (Nat.le_of_ble_eq_true rfl) rfl (fun h6 hw => ?_)
  refine go_astore_n C [(2, rV (some a4)), (1, rV (some a1)), (0, rV (some b))] dL_law_15 (Nat.le_of_ble_eq_true rfl) rfl ?_
  refine go_iconst C 1 dL_law_16 kc_i1 ?_
  refine go_newarr3 C 1 (by decide) (by decide) (Nat.le_of_ble_eq_true rfl) tw9_143 ⟨Nat.le_of_ble_eq_true rfl, Nat.le_of_ble_eq_true rfl⟩ dL_law_17 hw (fun a7 h8 hw => ?_)
  refine go_astore_n C [(3, rV (some a7)), (2, rV (some a4)), (1, rV (some a1)), (0, rV (some b))] dL_law_19 (Nat.le_of_ble_eq_true rfl) rfl ?_
  refine go_iconst C 1 dL_law_20 kc_i1 ?_
  refine go_newarr4 C 1 (by decide) (by decide) (Nat.le_of_ble_eq_true rfl) tw9_144 ⟨Nat.le_of_ble_eq_true rfl, Nat.le_of_ble_eq_true rfl⟩ dL_law_21 hw (fun a9 h10 hw => ?_)
  refine go_astore C [(4, rV (some a9)), (3, rV (some a7)), (2, rV (some a4)), (1, rV (some a1)), (0, rV (some b))] dL_law_23 (Nat.le_of_ble_eq_true rfl) rfl ?_
  refine go_iconst C 0 dL_law_25 kc_i0 ?_
  refine go_istore C [(5, iV 0), (4, rV (some a9)), (3, rV (some a7)), (2, rV (some a4)), (1, rV (some a1)), (0, rV (some b))] dL_law_26 (Nat.le_of_ble_eq_true rfl) rfl ?_
  refine go_sub [5, 4, 3, 2, 1, 0] rfl ?_
  refine fx2_elim (P := fun x12 h11 => ∀ (kk c sl : Nat), x12 = nI (6 * kk) → 6 * kk ≤ Ln + 5 → c ≤ 98 + kk * 9 → sl ≤ 3661 + kk * 194 → Go G X room_1 9 (c) (sl) (lw_Z below #[Value.ref b] s) h11 28 [(0, rV (some b)), (1, rV (some a1)), (2, rV (some a4)), (3, rV (some a7)), (4, rV (some a9)), (5, iV x12)] []) (fun w28 hj28 x12 h11 hw kk c sl exi hkk hc hsl => ?_) N _ _ hw 0 _ _ rfl (Nat.zero_le _) (Nat.le_of_ble_eq_true rfl) (Nat.le_of_ble_eq_true rfl)
  refine go_iload C dL_law_28 5 rfl ?_
  refine go_aload_n C dL_law_30 0 rfl ?_
  refine go_slen C S dL_law_31 ?_
  refine go_bipush C 6 dL_law_32 kc_b6 ?_
  refine go_isub C dL_law_34 ?_
  refine go_icmp_gtc C 2669 dL_law_35 (by decide) hw (fun _ hw => ?_) (fun c35 hw => ?_)
  · refine go_iconst C 1 dL_law_2669 kc_i1 ?_
    exact hend dL_law_2670 (by omega) (by omega)
  have hk6 := law_head hL hkk (by rw [← exi]; exact c35)
  refine go_aload_n C dL_law_38 0 rfl ?_
  refine go_iload C dL_law_39 5 rfl ?_
  refine go_sld C S dL_law_41 hw (fun v13 hw => ?_)
  refine go_bipush C 63 dL_law_42 kc_b63 ?_
  refine go_iand C dL_law_44 ?_
  by_cases n0 : (v13 &&& 63) = (0 : Int32)
  · refine go_tswIn C 0 n0 (by decide) (by decide) dL_law_45 (off := 171) (tgt := 216) (by rfl) (by decide) ?_
    replace hw := hw.1 n0
    refine go_aload_n C dL_law_216 1 rfl ?_
    refine go_aload_n C dL_law_217 0 rfl ?_
    refine go_iload C dL_law_218 5 rfl ?_
    refine go_iconst C 1 dL_law_220 kc_i1 ?_
    refine go_iadd C dL_law_221 ?_
    refine go_sld C S dL_law_222 hw (fun v14 hw => ?_)
    refine go_aload_n C dL_law_223 3 rfl ?_
    refine go_callSH_i C [rV (some a1), iV v14, rV (some a7)] vL_table tw4_5 (m_L_table (xl X) C.2.2.2.2.2.2.2.1 N hw) ⟨Nat.le_of_ble_eq_true rfl, Nat.le_of_ble_eq_true rfl, (by show c + 9 ≤ 603072; omega), (by show sl + 194 ≤ 7207018; omega)⟩ dL_law_224 rfl (Nat.le_of_ble_eq_true rfl) rfl (fun v15 h16 hw => ?_)
    refine go_istore C [(6, iV v15), (0, rV (some b)), (1, rV (some a1)), (2, rV (some a4)), (3, rV (some a7)), (4, rV (some a9)), (5, iV x12)] dL_law_227 (Nat.le_of_ble_eq_true rfl) rfl ?_
    refine go_aload_n C dL_law_229 3 rfl ?_
    refine go_aload_n C dL_law_230 1 rfl ?_
    refine go_iload C dL_law_231 6 rfl ?_
    refine go_iconst C 1 dL_law_233 kc_i1 ?_
    refine go_iadd C dL_law_234 ?_
    refine go_sld C S dL_law_235 hw (fun v17 hw => ?_)
    refine go_c0V_i C [iV v17] vX12_table tw8_16 (ci := 12) rfl (m_X12_table (xl X) C.2.2.2.2.2.2.2.1 N hw.2) ⟨Nat.le_of_ble_eq_true rfl, Nat.le_of_ble_eq_true rfl, (by show c + 9 + 0 ≤ 603072; omega), (by show sl + 194 + 0 ≤ 7207018; omega)⟩ ⟨rfl, rfl⟩ hw.1 dL_law_236 rfl (Nat.le_of_ble_eq_true rfl) rfl (fun v18 h19 hw => ?_)
    refine go_istore C [(7, iV v18), (6, iV v15), (0, rV (some b)), (1, rV (some a1)), (2, rV (some a4)), (3, rV (some a7)), (4, rV (some a9)), (5, iV x12)] dL_law_239 (Nat.le_of_ble_eq_true rfl) rfl ?_
    refine go_aload_n C dL_law_241 4 rfl ?_
    refine go_pV_i C [] vX12_thrown tw8_12 (ci := 12) rfl (m_X12_thrown (xl X) C.2.2.2.2.2.2.2.1 N hw.2) ⟨Nat.le_of_ble_eq_true rfl, Nat.le_of_ble_eq_true rfl, (by show c + 9 + 0 ≤ 603072; omega), (by show sl + 194 + 0 ≤ 7207018; omega)⟩ ⟨rfl, rfl⟩ hw.1 dL_law_242 rfl (Nat.le_of_ble_eq_true rfl) rfl (fun v20 hw => ?_)
    refine go_iload C dL_law_245 1 rfl ?_
    refine go_icmp_eq C 252 dL_law_247 (by decide) hw (fun hw => ?_) (fun hw => ?_)
    · refine go_iload C dL_law_252 1 rfl ?_
      refine jn_elim (P := fun j => j  → Go G X room_1 9 (c + rmL_table.cells) (sl + rmL_table.slots) (lw_Z below #[Value.ref b] s) h19 269 [(0, rV (some b)), (1, rV (some a1)), (2, rV (some a4)), (3, rV (some a7)), (4, rV (some a9)), (5, iV x12)] []) hw (fun  hw => ?_) (fun j269 hj269 hw => ?_)
      · refine go_goto C 2663 dL_law_269 (by decide) ?_
        refine go_iinc C (x12 + 6) [(5, iV (x12 + 6)), (0, rV (some b)), (1, rV (some a1)), (2, rV (some a4)), (3, rV (some a7)), (4, rV (some a9))] dL_law_2663 5 rfl (by rw [kc_i6]) (Nat.le_of_ble_eq_true rfl) rfl ?_
        refine go_goto C 28 dL_law_2666 (by decide) ?_
        refine go_sub [1, 2, 3, 4, 5, 0] rfl ?_
        exact hj28 _ _ hw (kk + 1) _ _ (by rw [exi]; exact nI6 kk) (by omega) (by show c + 9 ≤ _; omega) (by show sl + 194 ≤ _; omega)
      refine go_if_ne C 269 dL_law_254 (by decide) hw (fun hw => ?_) (fun hw => ?_)
      · refine go_sub [2, 3, 4, 5, 6, 7] rfl ?_
        exact hj269  hw
      refine go_aload_n C dL_law_257 5 rfl ?_
      refine go_iconst C 0 dL_law_258 kc_i0 ?_
      refine go_laload C dL_law_259 hw (fun v21 hw => ?_)
      refine go_iload C dL_law_260 0 rfl ?_
      refine go_i2l C dL_law_262 ?_
      refine go_lcmp C dL_law_263 ?_
      refine go_if_eq C 269 dL_law_264 (by decide) hw (fun hw => ?_) (fun hw => ?_)
      · refine go_sub [2, 3, 4, 5, 6, 7] rfl ?_
        exact hj269  hw
      refine go_iconst C 0 dL_law_267 kc_i0 ?_
      exact False.elim hw
    refine go_iconst C 0 dL_law_250 kc_i0 ?_
    exact False.elim hw
  replace hw := hw.2 n0
  by_cases n1 : (v13 &&& 63) = (1 : Int32)
  · refine go_tswIn C 1 n1 (by decide) (by decide) dL_law_45 (off := 227) (tgt := 272) (by rfl) (by decide) ?_
    replace hw := hw.1 n1
    refine go_aload_n C dL_law_272 1 rfl ?_
    refine go_aload_n C dL_law_273 0 rfl ?_
    refine go_iload C dL_law_274 5 rfl ?_
    refine go_iconst C 1 dL_law_276 kc_i1 ?_
    refine go_iadd C dL_law_277 ?_
    refine go_sld C S dL_law_278 hw (fun v22 hw => ?_)
    refine go_aload_n C dL_law_279 0 rfl ?_
    refine go_iload C dL_law_280 5 rfl ?_
    refine go_iconst C 2 dL_law_282 kc_i2 ?_
    refine go_iadd C dL_law_283 ?_
    refine go_sld C S dL_law_284 hw (fun v23 hw => ?_)
    refine go_aload_n C dL_law_285 0 rfl ?_
    refine go_iload C dL_law_286 5 rfl ?_
    refine go_iconst C 3 dL_law_288 kc_i3 ?_
    refine go_iadd C dL_law_289 ?_
    refine go_sld C S dL_law_290 hw (fun v24 hw => ?_)
    refine go_aload_n C dL_law_291 0 rfl ?_
    refine go_iload C dL_law_292 5 rfl ?_
    refine go_iconst C 4 dL_law_294 kc_i4 ?_
    refine go_iadd C dL_law_295 ?_
    refine go_sld C S dL_law_296 hw (fun v25 hw => ?_)
    refine go_aload_n C dL_law_297 3 rfl ?_
    refine go_callSH_i C [rV (some a1), iV v22, iV v23, iV v24, iV v25, rV (some a7)] vL_bound tw4_152 (m_L_bound (xl X) C.2.2.2.2.2.2.2.1 N hw) ⟨Nat.le_of_ble_eq_true rfl, Nat.le_of_ble_eq_true rfl, (by show c + 2 ≤ 603072; omega), (by show sl + 12 ≤ 7207018; omega)⟩ dL_law_298 rfl (Nat.le_of_ble_eq_true rfl) rfl (fun v26 h27 hw => ?_)
    refine go_istore C [(6, iV v26), (0, rV (some b)), (1, rV (some a1)), (2, rV (some a4)), (3, rV (some a7)), (4, rV (some a9)), (5, iV x12)] dL_law_301 (Nat.le_of_ble_eq_true rfl) rfl ?_
    refine go_aload_n C dL_law_303 3 rfl ?_
    refine go_aload_n C dL_law_304 1 rfl ?_
    refine go_iload C dL_law_305 6 rfl ?_
    refine go_iconst C 1 dL_law_307 kc_i1 ?_
    refine go_iadd C dL_law_308 ?_
    refine go_sld C S dL_law_309 hw (fun v28 hw => ?_)
    refine go_aload_n C dL_law_310 1 rfl ?_
    refine go_iload C dL_law_311 6 rfl ?_
    refine go_iconst C 2 dL_law_313 kc_i2 ?_
    refine go_iadd C dL_law_314 ?_
    refine go_sld C S dL_law_315 hw (fun v29 hw => ?_)
    refine go_aload_n C dL_law_316 1 rfl ?_
    refine go_iload C dL_law_317 6 rfl ?_
    refine go_iconst C 3 dL_law_319 kc_i3 ?_
    refine go_iadd C dL_law_320 ?_
    refine go_sld C S dL_law_321 hw (fun v30 hw => ?_)
    refine go_aload_n C dL_law_322 1 rfl ?_
    refine go_iload C dL_law_323 6 rfl ?_
    refine go_iconst C 4 dL_law_325 kc_i4 ?_
    refine go_iadd C dL_law_326 ?_
    refine go_sld C S dL_law_327 hw (fun v31 hw => ?_)
    refine go_c0V_i C [iV v28, iV v29, iV v30, iV v31] vX12_bound tw8_27 (ci := 12) rfl (m_X12_bound (xl X) C.2.2.2.2.2.2.2.1 N hw.2) ⟨Nat.le_of_ble_eq_true rfl, Nat.le_of_ble_eq_true rfl, (by show c + 2 + 0 ≤ 603072; omega), (by show sl + 12 + 0 ≤ 7207018; omega)⟩ ⟨rfl, rfl⟩ hw.1 dL_law_328 rfl (Nat.le_of_ble_eq_true rfl) rfl (fun v32 h33 hw => ?_)
    refine go_istore C [(7, iV v32), (6, iV v26), (0, rV (some b)), (1, rV (some a1)), (2, rV (some a4)), (3, rV (some a7)), (4, rV (some a9)), (5, iV x12)] dL_law_331 (Nat.le_of_ble_eq_true rfl) rfl ?_
    refine go_aload_n C dL_law_333 4 rfl ?_
    refine go_pV_i C [] vX12_thrown tw8_12 (ci := 12) rfl (m_X12_thrown (xl X) C.2.2.2.2.2.2.2.1 N hw.2) ⟨Nat.le_of_ble_eq_true rfl, Nat.le_of_ble_eq_true rfl, (by show c + 2 + 0 ≤ 603072; omega), (by show sl + 12 + 0 ≤ 7207018; omega)⟩ ⟨rfl, rfl⟩ hw.1 dL_law_334 rfl (Nat.le_of_ble_eq_true rfl) rfl (fun v34 hw => ?_)
    refine go_iload C dL_law_337 1 rfl ?_
    refine go_icmp_eq C 344 dL_law_339 (by decide) hw (fun hw => ?_) (fun hw => ?_)
    · refine go_iload C dL_law_344 1 rfl ?_
      refine jn_elim (P := fun j => j  → Go G X room_1 9 (c + rmL_bound.cells) (sl + rmL_bound.slots) (lw_Z below #[Value.ref b] s) h33 361 [(0, rV (some b)), (1, rV (some a1)), (2, rV (some a4)), (3, rV (some a7)), (4, rV (some a9)), (5, iV x12)] []) hw (fun  hw => ?_) (fun j361 hj361 hw => ?_)
      · refine go_goto C 2663 dL_law_361 (by decide) ?_
        refine go_iinc C (x12 + 6) [(5, iV (x12 + 6)), (0, rV (some b)), (1, rV (some a1)), (2, rV (some a4)), (3, rV (some a7)), (4, rV (some a9))] dL_law_2663 5 rfl (by rw [kc_i6]) (Nat.le_of_ble_eq_true rfl) rfl ?_
        refine go_goto C 28 dL_law_2666 (by decide) ?_
        refine go_sub [1, 2, 3, 4, 5, 0] rfl ?_
        exact hj28 _ _ hw (kk + 1) _ _ (by rw [exi]; exact nI6 kk) (by omega) (by show c + 2 ≤ _; omega) (by show sl + 12 ≤ _; omega)
      refine go_if_ne C 361 dL_law_346 (by decide) hw (fun hw => ?_) (fun hw => ?_)
      · refine go_sub [2, 3, 4, 5, 6, 7] rfl ?_
        exact hj361  hw
      refine go_aload_n C dL_law_349 5 rfl ?_
      refine go_iconst C 0 dL_law_350 kc_i0 ?_
      refine go_laload C dL_law_351 hw (fun v35 hw => ?_)
      refine go_iload C dL_law_352 0 rfl ?_
      refine go_i2l C dL_law_354 ?_
      refine go_lcmp C dL_law_355 ?_
      refine go_if_eq C 361 dL_law_356 (by decide) hw (fun hw => ?_) (fun hw => ?_)
      · refine go_sub [2, 3, 4, 5, 6, 7] rfl ?_
        exact hj361  hw
      refine go_iconst C 0 dL_law_359 kc_i0 ?_
      exact False.elim hw
    refine go_iconst C 0 dL_law_342 kc_i0 ?_
    exact False.elim hw
  replace hw := hw.2 n1
  by_cases n2 : (v13 &&& 63) = (2 : Int32)
  · refine go_tswIn C 2 n2 (by decide) (by decide) dL_law_45 (off := 319) (tgt := 364) (by rfl) (by decide) ?_
    replace hw := hw.1 n2
    refine go_aload_n C dL_law_364 1 rfl ?_
    refine go_aload_n C dL_law_365 0 rfl ?_
    refine go_iload C dL_law_366 5 rfl ?_
    refine go_iconst C 1 dL_law_368 kc_i1 ?_
    refine go_iadd C dL_law_369 ?_
    refine go_sld C S dL_law_370 hw (fun v36 hw => ?_)
    refine go_aload_n C dL_law_371 0 rfl ?_
    refine go_iload C dL_law_372 5 rfl ?_
    refine go_iconst C 2 dL_law_374 kc_i2 ?_
    refine go_iadd C dL_law_375 ?_
    refine go_sld C S dL_law_376 hw (fun v37 hw => ?_)
    refine go_aload_n C dL_law_377 0 rfl ?_
    refine go_iload C dL_law_378 5 rfl ?_
    refine go_iconst C 3 dL_law_380 kc_i3 ?_
    refine go_iadd C dL_law_381 ?_
    refine go_sld C S dL_law_382 hw (fun v38 hw => ?_)
    refine go_aload_n C dL_law_383 0 rfl ?_
    refine go_iload C dL_law_384 5 rfl ?_
    refine go_iconst C 4 dL_law_386 kc_i4 ?_
    refine go_iadd C dL_law_387 ?_
    refine go_sld C S dL_law_388 hw (fun v39 hw => ?_)
    refine go_aload_n C dL_law_389 3 rfl ?_
    refine go_callSH_i C [rV (some a1), iV v36, iV v37, iV v38, iV v39, rV (some a7)] vL_insert tw4_221 (m_L_insert (xl X) C.2.2.2.2.2.2.2.1 N hw) ⟨Nat.le_of_ble_eq_true rfl, Nat.le_of_ble_eq_true rfl, (by show c + 2 ≤ 603072; omega), (by show sl + 12 ≤ 7207018; omega)⟩ dL_law_390 rfl (Nat.le_of_ble_eq_true rfl) rfl (fun v40 h41 hw => ?_)
    refine go_istore C [(6, iV v40), (0, rV (some b)), (1, rV (some a1)), (2, rV (some a4)), (3, rV (some a7)), (4, rV (some a9)), (5, iV x12)] dL_law_393 (Nat.le_of_ble_eq_true rfl) rfl ?_
    refine go_aload_n C dL_law_395 3 rfl ?_
    refine go_aload_n C dL_law_396 1 rfl ?_
    refine go_iload C dL_law_397 6 rfl ?_
    refine go_iconst C 1 dL_law_399 kc_i1 ?_
    refine go_iadd C dL_law_400 ?_
    refine go_sld C S dL_law_401 hw (fun v42 hw => ?_)
    refine go_aload_n C dL_law_402 1 rfl ?_
    refine go_iload C dL_law_403 6 rfl ?_
    refine go_iconst C 2 dL_law_405 kc_i2 ?_
    refine go_iadd C dL_law_406 ?_
    refine go_sld C S dL_law_407 hw (fun v43 hw => ?_)
    refine go_aload_n C dL_law_408 1 rfl ?_
    refine go_iload C dL_law_409 6 rfl ?_
    refine go_iconst C 3 dL_law_411 kc_i3 ?_
    refine go_iadd C dL_law_412 ?_
    refine go_sld C S dL_law_413 hw (fun v44 hw => ?_)
    refine go_aload_n C dL_law_414 1 rfl ?_
    refine go_iload C dL_law_415 6 rfl ?_
    refine go_iconst C 4 dL_law_417 kc_i4 ?_
    refine go_iadd C dL_law_418 ?_
    refine go_sld C S dL_law_419 hw (fun v45 hw => ?_)
    refine go_c0V_i C [iV v42, iV v43, iV v44, iV v45] vX12_insert tw8_47 (ci := 12) rfl (m_X12_insert (xl X) C.2.2.2.2.2.2.2.1 N hw.2) ⟨Nat.le_of_ble_eq_true rfl, Nat.le_of_ble_eq_true rfl, (by show c + 2 + 0 ≤ 603072; omega), (by show sl + 12 + 0 ≤ 7207018; omega)⟩ ⟨rfl, rfl⟩ hw.1 dL_law_420 rfl (Nat.le_of_ble_eq_true rfl) rfl (fun v46 h47 hw => ?_)
    refine go_istore C [(7, iV v46), (6, iV v40), (0, rV (some b)), (1, rV (some a1)), (2, rV (some a4)), (3, rV (some a7)), (4, rV (some a9)), (5, iV x12)] dL_law_423 (Nat.le_of_ble_eq_true rfl) rfl ?_
    refine go_aload_n C dL_law_425 4 rfl ?_
    refine go_pV_i C [] vX12_thrown tw8_12 (ci := 12) rfl (m_X12_thrown (xl X) C.2.2.2.2.2.2.2.1 N hw.2) ⟨Nat.le_of_ble_eq_true rfl, Nat.le_of_ble_eq_true rfl, (by show c + 2 + 0 ≤ 603072; omega), (by show sl + 12 + 0 ≤ 7207018; omega)⟩ ⟨rfl, rfl⟩ hw.1 dL_law_426 rfl (Nat.le_of_ble_eq_true rfl) rfl (fun v48 hw => ?_)
    refine go_iload C dL_law_429 1 rfl ?_
    refine go_icmp_eq C 436 dL_law_431 (by decide) hw (fun hw => ?_) (fun hw => ?_)
    · refine go_iload C dL_law_436 1 rfl ?_
      refine jn_elim (P := fun j => j  → Go G X room_1 9 (c + rmL_insert.cells) (sl + rmL_insert.slots) (lw_Z below #[Value.ref b] s) h47 453 [(0, rV (some b)), (1, rV (some a1)), (2, rV (some a4)), (3, rV (some a7)), (4, rV (some a9)), (5, iV x12)] []) hw (fun  hw => ?_) (fun j453 hj453 hw => ?_)
      · refine go_goto C 2663 dL_law_453 (by decide) ?_
        refine go_iinc C (x12 + 6) [(5, iV (x12 + 6)), (0, rV (some b)), (1, rV (some a1)), (2, rV (some a4)), (3, rV (some a7)), (4, rV (some a9))] dL_law_2663 5 rfl (by rw [kc_i6]) (Nat.le_of_ble_eq_true rfl) rfl ?_
        refine go_goto C 28 dL_law_2666 (by decide) ?_
        refine go_sub [1, 2, 3, 4, 5, 0] rfl ?_
        exact hj28 _ _ hw (kk + 1) _ _ (by rw [exi]; exact nI6 kk) (by omega) (by show c + 2 ≤ _; omega) (by show sl + 12 ≤ _; omega)
      refine go_if_ne C 453 dL_law_438 (by decide) hw (fun hw => ?_) (fun hw => ?_)
      · refine go_sub [2, 3, 4, 5, 6, 7] rfl ?_
        exact hj453  hw
      refine go_aload_n C dL_law_441 5 rfl ?_
      refine go_iconst C 0 dL_law_442 kc_i0 ?_
      refine go_laload C dL_law_443 hw (fun v49 hw => ?_)
      refine go_iload C dL_law_444 0 rfl ?_
      refine go_i2l C dL_law_446 ?_
      refine go_lcmp C dL_law_447 ?_
      refine go_if_eq C 453 dL_law_448 (by decide) hw (fun hw => ?_) (fun hw => ?_)
      · refine go_sub [2, 3, 4, 5, 6, 7] rfl ?_
        exact hj453  hw
      refine go_iconst C 0 dL_law_451 kc_i0 ?_
      exact False.elim hw
    refine go_iconst C 0 dL_law_434 kc_i0 ?_
    exact False.elim hw
  replace hw := hw.2 n2
  by_cases n3 : (v13 &&& 63) = (3 : Int32)
  · refine go_tswIn C 3 n3 (by decide) (by decide) dL_law_45 (off := 411) (tgt := 456) (by rfl) (by decide) ?_
    replace hw := hw.1 n3
    refine go_aload_n C dL_law_456 1 rfl ?_
    refine go_aload_n C dL_law_457 0 rfl ?_
    refine go_iload C dL_law_458 5 rfl ?_
    refine go_iconst C 1 dL_law_460 kc_i1 ?_
    refine go_iadd C dL_law_461 ?_
    refine go_sld C S dL_law_462 hw (fun v50 hw => ?_)
    refine go_aload_n C dL_law_463 0 rfl ?_
    refine go_iload C dL_law_464 5 rfl ?_
    refine go_iconst C 2 dL_law_466 kc_i2 ?_
    refine go_iadd C dL_law_467 ?_
    refine go_sld C S dL_law_468 hw (fun v51 hw => ?_)
    refine go_aload_n C dL_law_469 3 rfl ?_
    refine go_callSH_i C [rV (some a1), iV v50, iV v51, rV (some a7)] vL_remove tw5_23 (m_L_remove (xl X) C.2.2.2.2.2.2.2.1 N hw) ⟨Nat.le_of_ble_eq_true rfl, Nat.le_of_ble_eq_true rfl, (by show c + 2 ≤ 603072; omega), (by show sl + 12 ≤ 7207018; omega)⟩ dL_law_470 rfl (Nat.le_of_ble_eq_true rfl) rfl (fun v52 h53 hw => ?_)
    refine go_istore C [(6, iV v52), (0, rV (some b)), (1, rV (some a1)), (2, rV (some a4)), (3, rV (some a7)), (4, rV (some a9)), (5, iV x12)] dL_law_473 (Nat.le_of_ble_eq_true rfl) rfl ?_
    refine go_aload_n C dL_law_475 3 rfl ?_
    refine go_aload_n C dL_law_476 1 rfl ?_
    refine go_iload C dL_law_477 6 rfl ?_
    refine go_iconst C 1 dL_law_479 kc_i1 ?_
    refine go_iadd C dL_law_480 ?_
    refine go_sld C S dL_law_481 hw (fun v54 hw => ?_)
    refine go_aload_n C dL_law_482 1 rfl ?_
    refine go_iload C dL_law_483 6 rfl ?_
    refine go_iconst C 2 dL_law_485 kc_i2 ?_
    refine go_iadd C dL_law_486 ?_
    refine go_sld C S dL_law_487 hw (fun v55 hw => ?_)
    refine go_c0V_i C [iV v54, iV v55] vX12_remove tw8_63 (ci := 12) rfl (m_X12_remove (xl X) C.2.2.2.2.2.2.2.1 N hw.2) ⟨Nat.le_of_ble_eq_true rfl, Nat.le_of_ble_eq_true rfl, (by show c + 2 + 0 ≤ 603072; omega), (by show sl + 12 + 0 ≤ 7207018; omega)⟩ ⟨rfl, rfl⟩ hw.1 dL_law_488 rfl (Nat.le_of_ble_eq_true rfl) rfl (fun v56 h57 hw => ?_)
    refine go_istore C [(7, iV v56), (6, iV v52), (0, rV (some b)), (1, rV (some a1)), (2, rV (some a4)), (3, rV (some a7)), (4, rV (some a9)), (5, iV x12)] dL_law_491 (Nat.le_of_ble_eq_true rfl) rfl ?_
    refine go_aload_n C dL_law_493 4 rfl ?_
    refine go_pV_i C [] vX12_thrown tw8_12 (ci := 12) rfl (m_X12_thrown (xl X) C.2.2.2.2.2.2.2.1 N hw.2) ⟨Nat.le_of_ble_eq_true rfl, Nat.le_of_ble_eq_true rfl, (by show c + 2 + 0 ≤ 603072; omega), (by show sl + 12 + 0 ≤ 7207018; omega)⟩ ⟨rfl, rfl⟩ hw.1 dL_law_494 rfl (Nat.le_of_ble_eq_true rfl) rfl (fun v58 hw => ?_)
    refine go_iload C dL_law_497 1 rfl ?_
    refine go_icmp_eq C 504 dL_law_499 (by decide) hw (fun hw => ?_) (fun hw => ?_)
    · refine go_iload C dL_law_504 1 rfl ?_
      refine jn_elim (P := fun j => j  → Go G X room_1 9 (c + rmL_remove.cells) (sl + rmL_remove.slots) (lw_Z below #[Value.ref b] s) h57 521 [(0, rV (some b)), (1, rV (some a1)), (2, rV (some a4)), (3, rV (some a7)), (4, rV (some a9)), (5, iV x12)] []) hw (fun  hw => ?_) (fun j521 hj521 hw => ?_)
      · refine go_goto C 2663 dL_law_521 (by decide) ?_
        refine go_iinc C (x12 + 6) [(5, iV (x12 + 6)), (0, rV (some b)), (1, rV (some a1)), (2, rV (some a4)), (3, rV (some a7)), (4, rV (some a9))] dL_law_2663 5 rfl (by rw [kc_i6]) (Nat.le_of_ble_eq_true rfl) rfl ?_
        refine go_goto C 28 dL_law_2666 (by decide) ?_
        refine go_sub [1, 2, 3, 4, 5, 0] rfl ?_
        exact hj28 _ _ hw (kk + 1) _ _ (by rw [exi]; exact nI6 kk) (by omega) (by show c + 2 ≤ _; omega) (by show sl + 12 ≤ _; omega)
      refine go_if_ne C 521 dL_law_506 (by decide) hw (fun hw => ?_) (fun hw => ?_)
      · refine go_sub [2, 3, 4, 5, 6, 7] rfl ?_
        exact hj521  hw
      refine go_aload_n C dL_law_509 5 rfl ?_
      refine go_iconst C 0 dL_law_510 kc_i0 ?_
      refine go_laload C dL_law_511 hw (fun v59 hw => ?_)
      refine go_iload C dL_law_512 0 rfl ?_
      refine go_i2l C dL_law_514 ?_
      refine go_lcmp C dL_law_515 ?_
      refine go_if_eq C 521 dL_law_516 (by decide) hw (fun hw => ?_) (fun hw => ?_)
      · refine go_sub [2, 3, 4, 5, 6, 7] rfl ?_
        exact hj521  hw
      refine go_iconst C 0 dL_law_519 kc_i0 ?_
      exact False.elim hw
    refine go_iconst C 0 dL_law_502 kc_i0 ?_
    exact False.elim hw
  replace hw := hw.2 n3
  by_cases n4 : (v13 &&& 63) = (4 : Int32)
  · refine go_tswIn C 4 n4 (by decide) (by decide) dL_law_45 (off := 479) (tgt := 524) (by rfl) (by decide) ?_
    replace hw := hw.1 n4
    refine go_aload_n C dL_law_524 1 rfl ?_
    refine go_aload_n C dL_law_525 0 rfl ?_
    refine go_iload C dL_law_526 5 rfl ?_
    refine go_iconst C 1 dL_law_528 kc_i1 ?_
    refine go_iadd C dL_law_529 ?_
    refine go_sld C S dL_law_530 hw (fun v60 hw => ?_)
    refine go_aload_n C dL_law_531 3 rfl ?_
    refine go_callSH_i C [rV (some a1), iV v60, rV (some a7)] vL_count tw5_62 (m_L_count (xl X) C.2.2.2.2.2.2.2.1 N hw) ⟨Nat.le_of_ble_eq_true rfl, Nat.le_of_ble_eq_true rfl, (by show c + 1 ≤ 603072; omega), (by show sl + 6 ≤ 7207018; omega)⟩ dL_law_532 rfl (Nat.le_of_ble_eq_true rfl) rfl (fun v61 h62 hw => ?_)
    refine go_istore C [(6, iV v61), (0, rV (some b)), (1, rV (some a1)), (2, rV (some a4)), (3, rV (some a7)), (4, rV (some a9)), (5, iV x12)] dL_law_535 (Nat.le_of_ble_eq_true rfl) rfl ?_
    refine go_aload_n C dL_law_537 3 rfl ?_
    refine go_aload_n C dL_law_538 1 rfl ?_
    refine go_iload C dL_law_539 6 rfl ?_
    refine go_iconst C 1 dL_law_541 kc_i1 ?_
    refine go_iadd C dL_law_542 ?_
    refine go_sld C S dL_law_543 hw (fun v63 hw => ?_)
    refine go_c0V_i C [iV v63] vX12_count tw8_71 (ci := 12) rfl (m_X12_count (xl X) C.2.2.2.2.2.2.2.1 N hw.2) ⟨Nat.le_of_ble_eq_true rfl, Nat.le_of_ble_eq_true rfl, (by show c + 1 + 0 ≤ 603072; omega), (by show sl + 6 + 0 ≤ 7207018; omega)⟩ ⟨rfl, rfl⟩ hw.1 dL_law_544 rfl (Nat.le_of_ble_eq_true rfl) rfl (fun v64 h65 hw => ?_)
    refine go_istore C [(7, iV v64), (6, iV v61), (0, rV (some b)), (1, rV (some a1)), (2, rV (some a4)), (3, rV (some a7)), (4, rV (some a9)), (5, iV x12)] dL_law_547 (Nat.le_of_ble_eq_true rfl) rfl ?_
    refine go_aload_n C dL_law_549 4 rfl ?_
    refine go_pV_i C [] vX12_thrown tw8_12 (ci := 12) rfl (m_X12_thrown (xl X) C.2.2.2.2.2.2.2.1 N hw.2) ⟨Nat.le_of_ble_eq_true rfl, Nat.le_of_ble_eq_true rfl, (by show c + 1 + 0 ≤ 603072; omega), (by show sl + 6 + 0 ≤ 7207018; omega)⟩ ⟨rfl, rfl⟩ hw.1 dL_law_550 rfl (Nat.le_of_ble_eq_true rfl) rfl (fun v66 hw => ?_)
    refine go_iload C dL_law_553 1 rfl ?_
    refine go_icmp_eq C 560 dL_law_555 (by decide) hw (fun hw => ?_) (fun hw => ?_)
    · refine go_iload C dL_law_560 1 rfl ?_
      refine jn_elim (P := fun j => j  → Go G X room_1 9 (c + rmL_count.cells) (sl + rmL_count.slots) (lw_Z below #[Value.ref b] s) h65 577 [(0, rV (some b)), (1, rV (some a1)), (2, rV (some a4)), (3, rV (some a7)), (4, rV (some a9)), (5, iV x12)] []) hw (fun  hw => ?_) (fun j577 hj577 hw => ?_)
      · refine go_goto C 2663 dL_law_577 (by decide) ?_
        refine go_iinc C (x12 + 6) [(5, iV (x12 + 6)), (0, rV (some b)), (1, rV (some a1)), (2, rV (some a4)), (3, rV (some a7)), (4, rV (some a9))] dL_law_2663 5 rfl (by rw [kc_i6]) (Nat.le_of_ble_eq_true rfl) rfl ?_
        refine go_goto C 28 dL_law_2666 (by decide) ?_
        refine go_sub [1, 2, 3, 4, 5, 0] rfl ?_
        exact hj28 _ _ hw (kk + 1) _ _ (by rw [exi]; exact nI6 kk) (by omega) (by show c + 1 ≤ _; omega) (by show sl + 6 ≤ _; omega)
      refine go_if_ne C 577 dL_law_562 (by decide) hw (fun hw => ?_) (fun hw => ?_)
      · refine go_sub [2, 3, 4, 5, 6, 7] rfl ?_
        exact hj577  hw
      refine go_aload_n C dL_law_565 5 rfl ?_
      refine go_iconst C 0 dL_law_566 kc_i0 ?_
      refine go_laload C dL_law_567 hw (fun v67 hw => ?_)
      refine go_iload C dL_law_568 0 rfl ?_
      refine go_i2l C dL_law_570 ?_
      refine go_lcmp C dL_law_571 ?_
      refine go_if_eq C 577 dL_law_572 (by decide) hw (fun hw => ?_) (fun hw => ?_)
      · refine go_sub [2, 3, 4, 5, 6, 7] rfl ?_
        exact hj577  hw
      refine go_iconst C 0 dL_law_575 kc_i0 ?_
      exact False.elim hw
    refine go_iconst C 0 dL_law_558 kc_i0 ?_
    exact False.elim hw
  replace hw := hw.2 n4
  by_cases n5 : (v13 &&& 63) = (5 : Int32)
  · refine go_tswIn C 5 n5 (by decide) (by decide) dL_law_45 (off := 535) (tgt := 580) (by rfl) (by decide) ?_
    replace hw := hw.1 n5
    refine go_aload_n C dL_law_580 1 rfl ?_
    refine go_aload_n C dL_law_581 0 rfl ?_
    refine go_iload C dL_law_582 5 rfl ?_
    refine go_iconst C 1 dL_law_584 kc_i1 ?_
    refine go_iadd C dL_law_585 ?_
    refine go_sld C S dL_law_586 hw (fun v68 hw => ?_)
    refine go_aload_n C dL_law_587 0 rfl ?_
    refine go_iload C dL_law_588 5 rfl ?_
    refine go_iconst C 2 dL_law_590 kc_i2 ?_
    refine go_iadd C dL_law_591 ?_
    refine go_sld C S dL_law_592 hw (fun v69 hw => ?_)
    refine go_aload_n C dL_law_593 3 rfl ?_
    refine go_callSH_i C [rV (some a1), iV v68, iV v69, rV (some a7)] vL_index tw5_86 (m_L_index (xl X) C.2.2.2.2.2.2.2.1 N hw) ⟨Nat.le_of_ble_eq_true rfl, Nat.le_of_ble_eq_true rfl, (by show c + 4 ≤ 603072; omega), (by show sl + 57 ≤ 7207018; omega)⟩ dL_law_594 rfl (Nat.le_of_ble_eq_true rfl) rfl (fun v70 h71 hw => ?_)
    refine go_istore C [(6, iV v70), (0, rV (some b)), (1, rV (some a1)), (2, rV (some a4)), (3, rV (some a7)), (4, rV (some a9)), (5, iV x12)] dL_law_597 (Nat.le_of_ble_eq_true rfl) rfl ?_
    refine go_aload_n C dL_law_599 3 rfl ?_
    refine go_aload_n C dL_law_600 1 rfl ?_
    refine go_iload C dL_law_601 6 rfl ?_
    refine go_iconst C 1 dL_law_603 kc_i1 ?_
    refine go_iadd C dL_law_604 ?_
    refine go_sld C S dL_law_605 hw (fun v72 hw => ?_)
    refine go_aload_n C dL_law_606 1 rfl ?_
    refine go_iload C dL_law_607 6 rfl ?_
    refine go_iconst C 2 dL_law_609 kc_i2 ?_
    refine go_iadd C dL_law_610 ?_
    refine go_sld C S dL_law_611 hw (fun v73 hw => ?_)
    refine go_c0V_i C [iV v72, iV v73] vX12_index tw8_83 (ci := 12) rfl (m_X12_index (xl X) C.2.2.2.2.2.2.2.1 N hw.2) ⟨Nat.le_of_ble_eq_true rfl, Nat.le_of_ble_eq_true rfl, (by show c + 4 + 0 ≤ 603072; omega), (by show sl + 57 + 0 ≤ 7207018; omega)⟩ ⟨rfl, rfl⟩ hw.1 dL_law_612 rfl (Nat.le_of_ble_eq_true rfl) rfl (fun v74 h75 hw => ?_)
    refine go_istore C [(7, iV v74), (6, iV v70), (0, rV (some b)), (1, rV (some a1)), (2, rV (some a4)), (3, rV (some a7)), (4, rV (some a9)), (5, iV x12)] dL_law_615 (Nat.le_of_ble_eq_true rfl) rfl ?_
    refine go_aload_n C dL_law_617 4 rfl ?_
    refine go_pV_i C [] vX12_thrown tw8_12 (ci := 12) rfl (m_X12_thrown (xl X) C.2.2.2.2.2.2.2.1 N hw.2) ⟨Nat.le_of_ble_eq_true rfl, Nat.le_of_ble_eq_true rfl, (by show c + 4 + 0 ≤ 603072; omega), (by show sl + 57 + 0 ≤ 7207018; omega)⟩ ⟨rfl, rfl⟩ hw.1 dL_law_618 rfl (Nat.le_of_ble_eq_true rfl) rfl (fun v76 hw => ?_)
    refine go_iload C dL_law_621 1 rfl ?_
    refine go_icmp_eq C 628 dL_law_623 (by decide) hw (fun hw => ?_) (fun hw => ?_)
    · refine go_iload C dL_law_628 1 rfl ?_
      refine jn_elim (P := fun j => j  → Go G X room_1 9 (c + rmL_index.cells) (sl + rmL_index.slots) (lw_Z below #[Value.ref b] s) h75 645 [(0, rV (some b)), (1, rV (some a1)), (2, rV (some a4)), (3, rV (some a7)), (4, rV (some a9)), (5, iV x12)] []) hw (fun  hw => ?_) (fun j645 hj645 hw => ?_)
      · refine go_goto C 2663 dL_law_645 (by decide) ?_
        refine go_iinc C (x12 + 6) [(5, iV (x12 + 6)), (0, rV (some b)), (1, rV (some a1)), (2, rV (some a4)), (3, rV (some a7)), (4, rV (some a9))] dL_law_2663 5 rfl (by rw [kc_i6]) (Nat.le_of_ble_eq_true rfl) rfl ?_
        refine go_goto C 28 dL_law_2666 (by decide) ?_
        refine go_sub [1, 2, 3, 4, 5, 0] rfl ?_
        exact hj28 _ _ hw (kk + 1) _ _ (by rw [exi]; exact nI6 kk) (by omega) (by show c + 4 ≤ _; omega) (by show sl + 57 ≤ _; omega)
      refine go_if_ne C 645 dL_law_630 (by decide) hw (fun hw => ?_) (fun hw => ?_)
      · refine go_sub [2, 3, 4, 5, 6, 7] rfl ?_
        exact hj645  hw
      refine go_aload_n C dL_law_633 5 rfl ?_
      refine go_iconst C 0 dL_law_634 kc_i0 ?_
      refine go_laload C dL_law_635 hw (fun v77 hw => ?_)
      refine go_iload C dL_law_636 0 rfl ?_
      refine go_i2l C dL_law_638 ?_
      refine go_lcmp C dL_law_639 ?_
      refine go_if_eq C 645 dL_law_640 (by decide) hw (fun hw => ?_) (fun hw => ?_)
      · refine go_sub [2, 3, 4, 5, 6, 7] rfl ?_
        exact hj645  hw
      refine go_iconst C 0 dL_law_643 kc_i0 ?_
      exact False.elim hw
    refine go_iconst C 0 dL_law_626 kc_i0 ?_
    exact False.elim hw
  replace hw := hw.2 n5
  by_cases n6 : (v13 &&& 63) = (6 : Int32)
  · refine go_tswIn C 6 n6 (by decide) (by decide) dL_law_45 (off := 603) (tgt := 648) (by rfl) (by decide) ?_
    replace hw := hw.1 n6
    refine go_aload_n C dL_law_648 1 rfl ?_
    refine go_aload_n C dL_law_649 0 rfl ?_
    refine go_iload C dL_law_650 5 rfl ?_
    refine go_iconst C 1 dL_law_652 kc_i1 ?_
    refine go_iadd C dL_law_653 ?_
    refine go_sld C S dL_law_654 hw (fun v78 hw => ?_)
    refine go_aload_n C dL_law_655 3 rfl ?_
    refine go_callSH_i C [rV (some a1), iV v78, rV (some a7)] vL_frames tw5_121 (m_L_frames (xl X) C.2.2.2.2.2.2.2.1 N hw) ⟨Nat.le_of_ble_eq_true rfl, Nat.le_of_ble_eq_true rfl, (by show c + 1 ≤ 603072; omega), (by show sl + 6 ≤ 7207018; omega)⟩ dL_law_656 rfl (Nat.le_of_ble_eq_true rfl) rfl (fun v79 h80 hw => ?_)
    refine go_istore C [(6, iV v79), (0, rV (some b)), (1, rV (some a1)), (2, rV (some a4)), (3, rV (some a7)), (4, rV (some a9)), (5, iV x12)] dL_law_659 (Nat.le_of_ble_eq_true rfl) rfl ?_
    refine go_aload_n C dL_law_661 3 rfl ?_
    refine go_aload_n C dL_law_662 1 rfl ?_
    refine go_iload C dL_law_663 6 rfl ?_
    refine go_iconst C 1 dL_law_665 kc_i1 ?_
    refine go_iadd C dL_law_666 ?_
    refine go_sld C S dL_law_667 hw (fun v81 hw => ?_)
    refine go_c0V_i C [iV v81] vX12_frames tw8_115 (ci := 12) rfl (m_X12_frames (xl X) C.2.2.2.2.2.2.2.1 N hw.2) ⟨Nat.le_of_ble_eq_true rfl, Nat.le_of_ble_eq_true rfl, (by show c + 1 + 0 ≤ 603072; omega), (by show sl + 6 + 0 ≤ 7207018; omega)⟩ ⟨rfl, rfl⟩ hw.1 dL_law_668 rfl (Nat.le_of_ble_eq_true rfl) rfl (fun v82 h83 hw => ?_)
    refine go_istore C [(7, iV v82), (6, iV v79), (0, rV (some b)), (1, rV (some a1)), (2, rV (some a4)), (3, rV (some a7)), (4, rV (some a9)), (5, iV x12)] dL_law_671 (Nat.le_of_ble_eq_true rfl) rfl ?_
    refine go_aload_n C dL_law_673 4 rfl ?_
    refine go_pV_i C [] vX12_thrown tw8_12 (ci := 12) rfl (m_X12_thrown (xl X) C.2.2.2.2.2.2.2.1 N hw.2) ⟨Nat.le_of_ble_eq_true rfl, Nat.le_of_ble_eq_true rfl, (by show c + 1 + 0 ≤ 603072; omega), (by show sl + 6 + 0 ≤ 7207018; omega)⟩ ⟨rfl, rfl⟩ hw.1 dL_law_674 rfl (Nat.le_of_ble_eq_true rfl) rfl (fun v84 hw => ?_)
    refine go_iload C dL_law_677 1 rfl ?_
    refine go_icmp_eq C 684 dL_law_679 (by decide) hw (fun hw => ?_) (fun hw => ?_)
    · refine go_iload C dL_law_684 1 rfl ?_
      refine jn_elim (P := fun j => j  → Go G X room_1 9 (c + rmL_frames.cells) (sl + rmL_frames.slots) (lw_Z below #[Value.ref b] s) h83 701 [(0, rV (some b)), (1, rV (some a1)), (2, rV (some a4)), (3, rV (some a7)), (4, rV (some a9)), (5, iV x12)] []) hw (fun  hw => ?_) (fun j701 hj701 hw => ?_)
      · refine go_goto C 2663 dL_law_701 (by decide) ?_
        refine go_iinc C (x12 + 6) [(5, iV (x12 + 6)), (0, rV (some b)), (1, rV (some a1)), (2, rV (some a4)), (3, rV (some a7)), (4, rV (some a9))] dL_law_2663 5 rfl (by rw [kc_i6]) (Nat.le_of_ble_eq_true rfl) rfl ?_
        refine go_goto C 28 dL_law_2666 (by decide) ?_
        refine go_sub [1, 2, 3, 4, 5, 0] rfl ?_
        exact hj28 _ _ hw (kk + 1) _ _ (by rw [exi]; exact nI6 kk) (by omega) (by show c + 1 ≤ _; omega) (by show sl + 6 ≤ _; omega)
      refine go_if_ne C 701 dL_law_686 (by decide) hw (fun hw => ?_) (fun hw => ?_)
      · refine go_sub [2, 3, 4, 5, 6, 7] rfl ?_
        exact hj701  hw
      refine go_aload_n C dL_law_689 5 rfl ?_
      refine go_iconst C 0 dL_law_690 kc_i0 ?_
      refine go_laload C dL_law_691 hw (fun v85 hw => ?_)
      refine go_iload C dL_law_692 0 rfl ?_
      refine go_i2l C dL_law_694 ?_
      refine go_lcmp C dL_law_695 ?_
      refine go_if_eq C 701 dL_law_696 (by decide) hw (fun hw => ?_) (fun hw => ?_)
      · refine go_sub [2, 3, 4, 5, 6, 7] rfl ?_
        exact hj701  hw
      refine go_iconst C 0 dL_law_699 kc_i0 ?_
      exact False.elim hw
    refine go_iconst C 0 dL_law_682 kc_i0 ?_
    exact False.elim hw
  replace hw := hw.2 n6
  by_cases n7 : (v13 &&& 63) = (7 : Int32)
  · refine go_tswIn C 7 n7 (by decide) (by decide) dL_law_45 (off := 659) (tgt := 704) (by rfl) (by decide) ?_
    replace hw := hw.1 n7
    refine go_aload_n C dL_law_704 1 rfl ?_
    refine go_aload_n C dL_law_705 0 rfl ?_
    refine go_iload C dL_law_706 5 rfl ?_
    refine go_iconst C 1 dL_law_708 kc_i1 ?_
    refine go_iadd C dL_law_709 ?_
    refine go_sld C S dL_law_710 hw (fun v86 hw => ?_)
    refine go_aload_n C dL_law_711 3 rfl ?_
    refine go_callSH_i C [rV (some a1), iV v86, rV (some a7)] vL_pages tw5_129 (m_L_pages (xl X) C.2.2.2.2.2.2.2.1 N hw) ⟨Nat.le_of_ble_eq_true rfl, Nat.le_of_ble_eq_true rfl, (by show c + 1 ≤ 603072; omega), (by show sl + 6 ≤ 7207018; omega)⟩ dL_law_712 rfl (Nat.le_of_ble_eq_true rfl) rfl (fun v87 h88 hw => ?_)
    refine go_istore C [(6, iV v87), (0, rV (some b)), (1, rV (some a1)), (2, rV (some a4)), (3, rV (some a7)), (4, rV (some a9)), (5, iV x12)] dL_law_715 (Nat.le_of_ble_eq_true rfl) rfl ?_
    refine go_aload_n C dL_law_717 3 rfl ?_
    refine go_aload_n C dL_law_718 1 rfl ?_
    refine go_iload C dL_law_719 6 rfl ?_
    refine go_iconst C 1 dL_law_721 kc_i1 ?_
    refine go_iadd C dL_law_722 ?_
    refine go_sld C S dL_law_723 hw (fun v89 hw => ?_)
    refine go_c0V_i C [iV v89] vX12_pages tw8_87 (ci := 12) rfl (m_X12_pages (xl X) C.2.2.2.2.2.2.2.1 N hw.2) ⟨Nat.le_of_ble_eq_true rfl, Nat.le_of_ble_eq_true rfl, (by show c + 1 + 0 ≤ 603072; omega), (by show sl + 6 + 0 ≤ 7207018; omega)⟩ ⟨rfl, rfl⟩ hw.1 dL_law_724 rfl (Nat.le_of_ble_eq_true rfl) rfl (fun v90 h91 hw => ?_)
    refine go_istore C [(7, iV v90), (6, iV v87), (0, rV (some b)), (1, rV (some a1)), (2, rV (some a4)), (3, rV (some a7)), (4, rV (some a9)), (5, iV x12)] dL_law_727 (Nat.le_of_ble_eq_true rfl) rfl ?_
    refine go_aload_n C dL_law_729 4 rfl ?_
    refine go_pV_i C [] vX12_thrown tw8_12 (ci := 12) rfl (m_X12_thrown (xl X) C.2.2.2.2.2.2.2.1 N hw.2) ⟨Nat.le_of_ble_eq_true rfl, Nat.le_of_ble_eq_true rfl, (by show c + 1 + 0 ≤ 603072; omega), (by show sl + 6 + 0 ≤ 7207018; omega)⟩ ⟨rfl, rfl⟩ hw.1 dL_law_730 rfl (Nat.le_of_ble_eq_true rfl) rfl (fun v92 hw => ?_)
    refine go_iload C dL_law_733 1 rfl ?_
    refine go_icmp_eq C 740 dL_law_735 (by decide) hw (fun hw => ?_) (fun hw => ?_)
    · refine go_iload C dL_law_740 1 rfl ?_
      refine jn_elim (P := fun j => j  → Go G X room_1 9 (c + rmL_pages.cells) (sl + rmL_pages.slots) (lw_Z below #[Value.ref b] s) h91 757 [(0, rV (some b)), (1, rV (some a1)), (2, rV (some a4)), (3, rV (some a7)), (4, rV (some a9)), (5, iV x12)] []) hw (fun  hw => ?_) (fun j757 hj757 hw => ?_)
      · refine go_goto C 2663 dL_law_757 (by decide) ?_
        refine go_iinc C (x12 + 6) [(5, iV (x12 + 6)), (0, rV (some b)), (1, rV (some a1)), (2, rV (some a4)), (3, rV (some a7)), (4, rV (some a9))] dL_law_2663 5 rfl (by rw [kc_i6]) (Nat.le_of_ble_eq_true rfl) rfl ?_
        refine go_goto C 28 dL_law_2666 (by decide) ?_
        refine go_sub [1, 2, 3, 4, 5, 0] rfl ?_
        exact hj28 _ _ hw (kk + 1) _ _ (by rw [exi]; exact nI6 kk) (by omega) (by show c + 1 ≤ _; omega) (by show sl + 6 ≤ _; omega)
      refine go_if_ne C 757 dL_law_742 (by decide) hw (fun hw => ?_) (fun hw => ?_)
      · refine go_sub [2, 3, 4, 5, 6, 7] rfl ?_
        exact hj757  hw
      refine go_aload_n C dL_law_745 5 rfl ?_
      refine go_iconst C 0 dL_law_746 kc_i0 ?_
      refine go_laload C dL_law_747 hw (fun v93 hw => ?_)
      refine go_iload C dL_law_748 0 rfl ?_
      refine go_i2l C dL_law_750 ?_
      refine go_lcmp C dL_law_751 ?_
      refine go_if_eq C 757 dL_law_752 (by decide) hw (fun hw => ?_) (fun hw => ?_)
      · refine go_sub [2, 3, 4, 5, 6, 7] rfl ?_
        exact hj757  hw
      refine go_iconst C 0 dL_law_755 kc_i0 ?_
      exact False.elim hw
    refine go_iconst C 0 dL_law_738 kc_i0 ?_
    exact False.elim hw
  replace hw := hw.2 n7
  by_cases n8 : (v13 &&& 63) = (8 : Int32)
  · refine go_tswIn C 8 n8 (by decide) (by decide) dL_law_45 (off := 715) (tgt := 760) (by rfl) (by decide) ?_
    replace hw := hw.1 n8
    refine go_aload_n C dL_law_760 1 rfl ?_
    refine go_aload_n C dL_law_761 0 rfl ?_
    refine go_iload C dL_law_762 5 rfl ?_
    refine go_iconst C 1 dL_law_764 kc_i1 ?_
    refine go_iadd C dL_law_765 ?_
    refine go_sld C S dL_law_766 hw (fun v94 hw => ?_)
    refine go_aload_n C dL_law_767 0 rfl ?_
    refine go_iload C dL_law_768 5 rfl ?_
    refine go_iconst C 2 dL_law_770 kc_i2 ?_
    refine go_iadd C dL_law_771 ?_
    refine go_sld C S dL_law_772 hw (fun v95 hw => ?_)
    refine go_aload_n C dL_law_773 0 rfl ?_
    refine go_iload C dL_law_774 5 rfl ?_
    refine go_iconst C 3 dL_law_776 kc_i3 ?_
    refine go_iadd C dL_law_777 ?_
    refine go_sld C S dL_law_778 hw (fun v96 hw => ?_)
    refine go_aload_n C dL_law_779 3 rfl ?_
    refine go_callSH_i C [rV (some a1), iV v94, iV v95, iV v96, rV (some a7)] vL_value tw5_137 (m_L_value (xl X) C.2.2.2.2.2.2.2.1 N hw) ⟨Nat.le_of_ble_eq_true rfl, Nat.le_of_ble_eq_true rfl, (by show c + 2 ≤ 603072; omega), (by show sl + 12 ≤ 7207018; omega)⟩ dL_law_780 rfl (Nat.le_of_ble_eq_true rfl) rfl (fun v97 h98 hw => ?_)
    refine go_istore C [(6, iV v97), (0, rV (some b)), (1, rV (some a1)), (2, rV (some a4)), (3, rV (some a7)), (4, rV (some a9)), (5, iV x12)] dL_law_783 (Nat.le_of_ble_eq_true rfl) rfl ?_
    refine go_aload_n C dL_law_785 3 rfl ?_
    refine go_aload_n C dL_law_786 1 rfl ?_
    refine go_iload C dL_law_787 6 rfl ?_
    refine go_iconst C 1 dL_law_789 kc_i1 ?_
    refine go_iadd C dL_law_790 ?_
    refine go_sld C S dL_law_791 hw (fun v99 hw => ?_)
    refine go_aload_n C dL_law_792 1 rfl ?_
    refine go_iload C dL_law_793 6 rfl ?_
    refine go_iconst C 2 dL_law_795 kc_i2 ?_
    refine go_iadd C dL_law_796 ?_
    refine go_sld C S dL_law_797 hw (fun v100 hw => ?_)
    refine go_aload_n C dL_law_798 1 rfl ?_
    refine go_iload C dL_law_799 6 rfl ?_
    refine go_iconst C 3 dL_law_801 kc_i3 ?_
    refine go_iadd C dL_law_802 ?_
    refine go_sld C S dL_law_803 hw (fun v101 hw => ?_)
    refine go_c0V_i C [iV v99, iV v100, iV v101] vX12_value tw8_91 (ci := 12) rfl (m_X12_value (xl X) C.2.2.2.2.2.2.2.1 N hw.2) ⟨Nat.le_of_ble_eq_true rfl, Nat.le_of_ble_eq_true rfl, (by show c + 2 + 0 ≤ 603072; omega), (by show sl + 12 + 0 ≤ 7207018; omega)⟩ ⟨rfl, rfl⟩ hw.1 dL_law_804 rfl (Nat.le_of_ble_eq_true rfl) rfl (fun v102 h103 hw => ?_)
    refine go_istore C [(7, iV v102), (6, iV v97), (0, rV (some b)), (1, rV (some a1)), (2, rV (some a4)), (3, rV (some a7)), (4, rV (some a9)), (5, iV x12)] dL_law_807 (Nat.le_of_ble_eq_true rfl) rfl ?_
    refine go_aload_n C dL_law_809 4 rfl ?_
    refine go_pV_i C [] vX12_thrown tw8_12 (ci := 12) rfl (m_X12_thrown (xl X) C.2.2.2.2.2.2.2.1 N hw.2) ⟨Nat.le_of_ble_eq_true rfl, Nat.le_of_ble_eq_true rfl, (by show c + 2 + 0 ≤ 603072; omega), (by show sl + 12 + 0 ≤ 7207018; omega)⟩ ⟨rfl, rfl⟩ hw.1 dL_law_810 rfl (Nat.le_of_ble_eq_true rfl) rfl (fun v104 hw => ?_)
    refine go_iload C dL_law_813 1 rfl ?_
    refine go_icmp_eq C 820 dL_law_815 (by decide) hw (fun hw => ?_) (fun hw => ?_)
    · refine go_iload C dL_law_820 1 rfl ?_
      refine jn_elim (P := fun j => j  → Go G X room_1 9 (c + rmL_value.cells) (sl + rmL_value.slots) (lw_Z below #[Value.ref b] s) h103 837 [(0, rV (some b)), (1, rV (some a1)), (2, rV (some a4)), (3, rV (some a7)), (4, rV (some a9)), (5, iV x12)] []) hw (fun  hw => ?_) (fun j837 hj837 hw => ?_)
      · refine go_goto C 2663 dL_law_837 (by decide) ?_
        refine go_iinc C (x12 + 6) [(5, iV (x12 + 6)), (0, rV (some b)), (1, rV (some a1)), (2, rV (some a4)), (3, rV (some a7)), (4, rV (some a9))] dL_law_2663 5 rfl (by rw [kc_i6]) (Nat.le_of_ble_eq_true rfl) rfl ?_
        refine go_goto C 28 dL_law_2666 (by decide) ?_
        refine go_sub [1, 2, 3, 4, 5, 0] rfl ?_
        exact hj28 _ _ hw (kk + 1) _ _ (by rw [exi]; exact nI6 kk) (by omega) (by show c + 2 ≤ _; omega) (by show sl + 12 ≤ _; omega)
      refine go_if_ne C 837 dL_law_822 (by decide) hw (fun hw => ?_) (fun hw => ?_)
      · refine go_sub [2, 3, 4, 5, 6, 7] rfl ?_
        exact hj837  hw
      refine go_aload_n C dL_law_825 5 rfl ?_
      refine go_iconst C 0 dL_law_826 kc_i0 ?_
      refine go_laload C dL_law_827 hw (fun v105 hw => ?_)
      refine go_iload C dL_law_828 0 rfl ?_
      refine go_i2l C dL_law_830 ?_
      refine go_lcmp C dL_law_831 ?_
      refine go_if_eq C 837 dL_law_832 (by decide) hw (fun hw => ?_) (fun hw => ?_)
      · refine go_sub [2, 3, 4, 5, 6, 7] rfl ?_
        exact hj837  hw
      refine go_iconst C 0 dL_law_835 kc_i0 ?_
      exact False.elim hw
    refine go_iconst C 0 dL_law_818 kc_i0 ?_
    exact False.elim hw
  replace hw := hw.2 n8
  by_cases n9 : (v13 &&& 63) = (9 : Int32)
  · refine go_tswIn C 9 n9 (by decide) (by decide) dL_law_45 (off := 795) (tgt := 840) (by rfl) (by decide) ?_
    replace hw := hw.1 n9
    refine go_aload_n C dL_law_840 1 rfl ?_
    refine go_aload_n C dL_law_841 0 rfl ?_
    refine go_iload C dL_law_842 5 rfl ?_
    refine go_iconst C 1 dL_law_844 kc_i1 ?_
    refine go_iadd C dL_law_845 ?_
    refine go_sld C S dL_law_846 hw (fun v106 hw => ?_)
    refine go_aload_n C dL_law_847 3 rfl ?_
    refine go_callSH_i C [rV (some a1), iV v106, rV (some a7)] vL_entries tw5_145 (m_L_entries (xl X) C.2.2.2.2.2.2.2.1 N hw) ⟨Nat.le_of_ble_eq_true rfl, Nat.le_of_ble_eq_true rfl, (by show c + 1 ≤ 603072; omega), (by show sl + 6 ≤ 7207018; omega)⟩ dL_law_848 rfl (Nat.le_of_ble_eq_true rfl) rfl (fun v107 h108 hw => ?_)
    refine go_istore C [(6, iV v107), (0, rV (some b)), (1, rV (some a1)), (2, rV (some a4)), (3, rV (some a7)), (4, rV (some a9)), (5, iV x12)] dL_law_851 (Nat.le_of_ble_eq_true rfl) rfl ?_
    refine go_aload_n C dL_law_853 3 rfl ?_
    refine go_aload_n C dL_law_854 1 rfl ?_
    refine go_iload C dL_law_855 6 rfl ?_
    refine go_iconst C 1 dL_law_857 kc_i1 ?_
    refine go_iadd C dL_law_858 ?_
    refine go_sld C S dL_law_859 hw (fun v109 hw => ?_)
    refine go_c0V_i C [iV v109] vX12_entries tw8_95 (ci := 12) rfl (m_X12_entries (xl X) C.2.2.2.2.2.2.2.1 N hw.2) ⟨Nat.le_of_ble_eq_true rfl, Nat.le_of_ble_eq_true rfl, (by show c + 1 + 0 ≤ 603072; omega), (by show sl + 6 + 0 ≤ 7207018; omega)⟩ ⟨rfl, rfl⟩ hw.1 dL_law_860 rfl (Nat.le_of_ble_eq_true rfl) rfl (fun v110 h111 hw => ?_)
    refine go_istore C [(7, iV v110), (6, iV v107), (0, rV (some b)), (1, rV (some a1)), (2, rV (some a4)), (3, rV (some a7)), (4, rV (some a9)), (5, iV x12)] dL_law_863 (Nat.le_of_ble_eq_true rfl) rfl ?_
    refine go_aload_n C dL_law_865 4 rfl ?_
    refine go_pV_i C [] vX12_thrown tw8_12 (ci := 12) rfl (m_X12_thrown (xl X) C.2.2.2.2.2.2.2.1 N hw.2) ⟨Nat.le_of_ble_eq_true rfl, Nat.le_of_ble_eq_true rfl, (by show c + 1 + 0 ≤ 603072; omega), (by show sl + 6 + 0 ≤ 7207018; omega)⟩ ⟨rfl, rfl⟩ hw.1 dL_law_866 rfl (Nat.le_of_ble_eq_true rfl) rfl (fun v112 hw => ?_)
    refine go_iload C dL_law_869 1 rfl ?_
    refine go_icmp_eq C 876 dL_law_871 (by decide) hw (fun hw => ?_) (fun hw => ?_)
    · refine go_iload C dL_law_876 1 rfl ?_
      refine jn_elim (P := fun j => j  → Go G X room_1 9 (c + rmL_entries.cells) (sl + rmL_entries.slots) (lw_Z below #[Value.ref b] s) h111 893 [(0, rV (some b)), (1, rV (some a1)), (2, rV (some a4)), (3, rV (some a7)), (4, rV (some a9)), (5, iV x12)] []) hw (fun  hw => ?_) (fun j893 hj893 hw => ?_)
      · refine go_goto C 2663 dL_law_893 (by decide) ?_
        refine go_iinc C (x12 + 6) [(5, iV (x12 + 6)), (0, rV (some b)), (1, rV (some a1)), (2, rV (some a4)), (3, rV (some a7)), (4, rV (some a9))] dL_law_2663 5 rfl (by rw [kc_i6]) (Nat.le_of_ble_eq_true rfl) rfl ?_
        refine go_goto C 28 dL_law_2666 (by decide) ?_
        refine go_sub [1, 2, 3, 4, 5, 0] rfl ?_
        exact hj28 _ _ hw (kk + 1) _ _ (by rw [exi]; exact nI6 kk) (by omega) (by show c + 1 ≤ _; omega) (by show sl + 6 ≤ _; omega)
      refine go_if_ne C 893 dL_law_878 (by decide) hw (fun hw => ?_) (fun hw => ?_)
      · refine go_sub [2, 3, 4, 5, 6, 7] rfl ?_
        exact hj893  hw
      refine go_aload_n C dL_law_881 5 rfl ?_
      refine go_iconst C 0 dL_law_882 kc_i0 ?_
      refine go_laload C dL_law_883 hw (fun v113 hw => ?_)
      refine go_iload C dL_law_884 0 rfl ?_
      refine go_i2l C dL_law_886 ?_
      refine go_lcmp C dL_law_887 ?_
      refine go_if_eq C 893 dL_law_888 (by decide) hw (fun hw => ?_) (fun hw => ?_)
      · refine go_sub [2, 3, 4, 5, 6, 7] rfl ?_
        exact hj893  hw
      refine go_iconst C 0 dL_law_891 kc_i0 ?_
      exact False.elim hw
    refine go_iconst C 0 dL_law_874 kc_i0 ?_
    exact False.elim hw
  replace hw := hw.2 n9
  by_cases n10 : (v13 &&& 63) = (10 : Int32)
  · refine go_tswIn C 10 n10 (by decide) (by decide) dL_law_45 (off := 851) (tgt := 896) (by rfl) (by decide) ?_
    replace hw := hw.1 n10
    refine go_aload_n C dL_law_896 1 rfl ?_
    refine go_aload_n C dL_law_897 0 rfl ?_
    refine go_iload C dL_law_898 5 rfl ?_
    refine go_iconst C 1 dL_law_900 kc_i1 ?_
    refine go_iadd C dL_law_901 ?_
    refine go_sld C S dL_law_902 hw (fun v114 hw => ?_)
    refine go_aload_n C dL_law_903 0 rfl ?_
    refine go_iload C dL_law_904 5 rfl ?_
    refine go_iconst C 2 dL_law_906 kc_i2 ?_
    refine go_iadd C dL_law_907 ?_
    refine go_sld C S dL_law_908 hw (fun v115 hw => ?_)
    refine go_aload_n C dL_law_909 3 rfl ?_
    refine go_callSH_i C [rV (some a1), iV v114, iV v115, rV (some a7)] vL_entryAt tw5_158 (m_L_entryAt (xl X) C.2.2.2.2.2.2.2.1 N hw) ⟨Nat.le_of_ble_eq_true rfl, Nat.le_of_ble_eq_true rfl, (by show c + 2 ≤ 603072; omega), (by show sl + 12 ≤ 7207018; omega)⟩ dL_law_910 rfl (Nat.le_of_ble_eq_true rfl) rfl (fun v116 h117 hw => ?_)
    refine go_istore C [(6, iV v116), (0, rV (some b)), (1, rV (some a1)), (2, rV (some a4)), (3, rV (some a7)), (4, rV (some a9)), (5, iV x12)] dL_law_913 (Nat.le_of_ble_eq_true rfl) rfl ?_
    refine go_aload_n C dL_law_915 3 rfl ?_
    refine go_aload_n C dL_law_916 1 rfl ?_
    refine go_iload C dL_law_917 6 rfl ?_
    refine go_iconst C 1 dL_law_919 kc_i1 ?_
    refine go_iadd C dL_law_920 ?_
    refine go_sld C S dL_law_921 hw (fun v118 hw => ?_)
    refine go_aload_n C dL_law_922 1 rfl ?_
    refine go_iload C dL_law_923 6 rfl ?_
    refine go_iconst C 2 dL_law_925 kc_i2 ?_
    refine go_iadd C dL_law_926 ?_
    refine go_sld C S dL_law_927 hw (fun v119 hw => ?_)
    refine go_c0V_i C [iV v118, iV v119] vX12_entryAt tw8_103 (ci := 12) rfl (m_X12_entryAt (xl X) C.2.2.2.2.2.2.2.1 N hw.2) ⟨Nat.le_of_ble_eq_true rfl, Nat.le_of_ble_eq_true rfl, (by show c + 2 + 0 ≤ 603072; omega), (by show sl + 12 + 0 ≤ 7207018; omega)⟩ ⟨rfl, rfl⟩ hw.1 dL_law_928 rfl (Nat.le_of_ble_eq_true rfl) rfl (fun v120 h121 hw => ?_)
    refine go_istore C [(7, iV v120), (6, iV v116), (0, rV (some b)), (1, rV (some a1)), (2, rV (some a4)), (3, rV (some a7)), (4, rV (some a9)), (5, iV x12)] dL_law_931 (Nat.le_of_ble_eq_true rfl) rfl ?_
    refine go_aload_n C dL_law_933 4 rfl ?_
    refine go_pV_i C [] vX12_thrown tw8_12 (ci := 12) rfl (m_X12_thrown (xl X) C.2.2.2.2.2.2.2.1 N hw.2) ⟨Nat.le_of_ble_eq_true rfl, Nat.le_of_ble_eq_true rfl, (by show c + 2 + 0 ≤ 603072; omega), (by show sl + 12 + 0 ≤ 7207018; omega)⟩ ⟨rfl, rfl⟩ hw.1 dL_law_934 rfl (Nat.le_of_ble_eq_true rfl) rfl (fun v122 hw => ?_)
    refine go_iload C dL_law_937 1 rfl ?_
    refine go_icmp_eq C 944 dL_law_939 (by decide) hw (fun hw => ?_) (fun hw => ?_)
    · refine go_iload C dL_law_944 1 rfl ?_
      refine jn_elim (P := fun j => j  → Go G X room_1 9 (c + rmL_entryAt.cells) (sl + rmL_entryAt.slots) (lw_Z below #[Value.ref b] s) h121 961 [(0, rV (some b)), (1, rV (some a1)), (2, rV (some a4)), (3, rV (some a7)), (4, rV (some a9)), (5, iV x12)] []) hw (fun  hw => ?_) (fun j961 hj961 hw => ?_)
      · refine go_goto C 2663 dL_law_961 (by decide) ?_
        refine go_iinc C (x12 + 6) [(5, iV (x12 + 6)), (0, rV (some b)), (1, rV (some a1)), (2, rV (some a4)), (3, rV (some a7)), (4, rV (some a9))] dL_law_2663 5 rfl (by rw [kc_i6]) (Nat.le_of_ble_eq_true rfl) rfl ?_
        refine go_goto C 28 dL_law_2666 (by decide) ?_
        refine go_sub [1, 2, 3, 4, 5, 0] rfl ?_
        exact hj28 _ _ hw (kk + 1) _ _ (by rw [exi]; exact nI6 kk) (by omega) (by show c + 2 ≤ _; omega) (by show sl + 12 ≤ _; omega)
      refine go_if_ne C 961 dL_law_946 (by decide) hw (fun hw => ?_) (fun hw => ?_)
      · refine go_sub [2, 3, 4, 5, 6, 7] rfl ?_
        exact hj961  hw
      refine go_aload_n C dL_law_949 5 rfl ?_
      refine go_iconst C 0 dL_law_950 kc_i0 ?_
      refine go_laload C dL_law_951 hw (fun v123 hw => ?_)
      refine go_iload C dL_law_952 0 rfl ?_
      refine go_i2l C dL_law_954 ?_
      refine go_lcmp C dL_law_955 ?_
      refine go_if_eq C 961 dL_law_956 (by decide) hw (fun hw => ?_) (fun hw => ?_)
      · refine go_sub [2, 3, 4, 5, 6, 7] rfl ?_
        exact hj961  hw
      refine go_iconst C 0 dL_law_959 kc_i0 ?_
      exact False.elim hw
    refine go_iconst C 0 dL_law_942 kc_i0 ?_
    exact False.elim hw
  replace hw := hw.2 n10
  by_cases n11 : (v13 &&& 63) = (11 : Int32)
  · refine go_tswIn C 11 n11 (by decide) (by decide) dL_law_45 (off := 919) (tgt := 964) (by rfl) (by decide) ?_
    replace hw := hw.1 n11
    refine go_aload_n C dL_law_964 1 rfl ?_
    refine go_aload_n C dL_law_965 0 rfl ?_
    refine go_iload C dL_law_966 5 rfl ?_
    refine go_iconst C 1 dL_law_968 kc_i1 ?_
    refine go_iadd C dL_law_969 ?_
    refine go_sld C S dL_law_970 hw (fun v124 hw => ?_)
    refine go_aload_n C dL_law_971 0 rfl ?_
    refine go_iload C dL_law_972 5 rfl ?_
    refine go_iconst C 2 dL_law_974 kc_i2 ?_
    refine go_iadd C dL_law_975 ?_
    refine go_sld C S dL_law_976 hw (fun v125 hw => ?_)
    refine go_aload_n C dL_law_977 0 rfl ?_
    refine go_iload C dL_law_978 5 rfl ?_
    refine go_iconst C 3 dL_law_980 kc_i3 ?_
    refine go_iadd C dL_law_981 ?_
    refine go_sld C S dL_law_982 hw (fun v126 hw => ?_)
    refine go_i2c C dL_law_983 ?_
    refine go_aload_n C dL_law_984 3 rfl ?_
    refine go_callSH_i C [rV (some a1), iV v124, iV v125, iV (((v126 : Int32).toUInt32 % 65536).toInt32), rV (some a7)] vL_counted tw5_167 (m_L_counted (xl X) C.2.2.2.2.2.2.2.1 N hw) ⟨Nat.le_of_ble_eq_true rfl, Nat.le_of_ble_eq_true rfl, (by show c + 2 ≤ 603072; omega), (by show sl + 12 ≤ 7207018; omega)⟩ dL_law_985 rfl (Nat.le_of_ble_eq_true rfl) rfl (fun v127 h128 hw => ?_)
    refine go_istore C [(6, iV v127), (0, rV (some b)), (1, rV (some a1)), (2, rV (some a4)), (3, rV (some a7)), (4, rV (some a9)), (5, iV x12)] dL_law_988 (Nat.le_of_ble_eq_true rfl) rfl ?_
    refine go_aload_n C dL_law_990 3 rfl ?_
    refine go_aload_n C dL_law_991 1 rfl ?_
    refine go_iload C dL_law_992 6 rfl ?_
    refine go_iconst C 1 dL_law_994 kc_i1 ?_
    refine go_iadd C dL_law_995 ?_
    refine go_sld C S dL_law_996 hw (fun v129 hw => ?_)
    refine go_aload_n C dL_law_997 1 rfl ?_
    refine go_iload C dL_law_998 6 rfl ?_
    refine go_iconst C 2 dL_law_1000 kc_i2 ?_
    refine go_iadd C dL_law_1001 ?_
    refine go_sld C S dL_law_1002 hw (fun v130 hw => ?_)
    refine go_aload_n C dL_law_1003 1 rfl ?_
    refine go_iload C dL_law_1004 6 rfl ?_
    refine go_iconst C 3 dL_law_1006 kc_i3 ?_
    refine go_iadd C dL_law_1007 ?_
    refine go_sld C S dL_law_1008 hw (fun v131 hw => ?_)
    refine go_i2c C dL_law_1009 ?_
    refine go_c0V_i C [iV v129, iV v130, iV (((v131 : Int32).toUInt32 % 65536).toInt32)] vX12_counted tw8_111 (ci := 12) rfl (m_X12_counted (xl X) C.2.2.2.2.2.2.2.1 N hw.2) ⟨Nat.le_of_ble_eq_true rfl, Nat.le_of_ble_eq_true rfl, (by show c + 2 + 0 ≤ 603072; omega), (by show sl + 12 + 0 ≤ 7207018; omega)⟩ ⟨rfl, rfl⟩ hw.1 dL_law_1010 rfl (Nat.le_of_ble_eq_true rfl) rfl (fun v132 h133 hw => ?_)
    refine go_istore C [(7, iV v132), (6, iV v127), (0, rV (some b)), (1, rV (some a1)), (2, rV (some a4)), (3, rV (some a7)), (4, rV (some a9)), (5, iV x12)] dL_law_1013 (Nat.le_of_ble_eq_true rfl) rfl ?_
    refine go_aload_n C dL_law_1015 4 rfl ?_
    refine go_pV_i C [] vX12_thrown tw8_12 (ci := 12) rfl (m_X12_thrown (xl X) C.2.2.2.2.2.2.2.1 N hw.2) ⟨Nat.le_of_ble_eq_true rfl, Nat.le_of_ble_eq_true rfl, (by show c + 2 + 0 ≤ 603072; omega), (by show sl + 12 + 0 ≤ 7207018; omega)⟩ ⟨rfl, rfl⟩ hw.1 dL_law_1016 rfl (Nat.le_of_ble_eq_true rfl) rfl (fun v134 hw => ?_)
    refine go_iload C dL_law_1019 1 rfl ?_
    refine go_icmp_eq C 1026 dL_law_1021 (by decide) hw (fun hw => ?_) (fun hw => ?_)
    · refine go_iload C dL_law_1026 1 rfl ?_
      refine jn_elim (P := fun j => j  → Go G X room_1 9 (c + rmL_counted.cells) (sl + rmL_counted.slots) (lw_Z below #[Value.ref b] s) h133 1043 [(0, rV (some b)), (1, rV (some a1)), (2, rV (some a4)), (3, rV (some a7)), (4, rV (some a9)), (5, iV x12)] []) hw (fun  hw => ?_) (fun j1043 hj1043 hw => ?_)
      · refine go_goto C 2663 dL_law_1043 (by decide) ?_
        refine go_iinc C (x12 + 6) [(5, iV (x12 + 6)), (0, rV (some b)), (1, rV (some a1)), (2, rV (some a4)), (3, rV (some a7)), (4, rV (some a9))] dL_law_2663 5 rfl (by rw [kc_i6]) (Nat.le_of_ble_eq_true rfl) rfl ?_
        refine go_goto C 28 dL_law_2666 (by decide) ?_
        refine go_sub [1, 2, 3, 4, 5, 0] rfl ?_
        exact hj28 _ _ hw (kk + 1) _ _ (by rw [exi]; exact nI6 kk) (by omega) (by show c + 2 ≤ _; omega) (by show sl + 12 ≤ _; omega)
      refine go_if_ne C 1043 dL_law_1028 (by decide) hw (fun hw => ?_) (fun hw => ?_)
      · refine go_sub [2, 3, 4, 5, 6, 7] rfl ?_
        exact hj1043  hw
      refine go_aload_n C dL_law_1031 5 rfl ?_
      refine go_iconst C 0 dL_law_1032 kc_i0 ?_
      refine go_laload C dL_law_1033 hw (fun v135 hw => ?_)
      refine go_iload C dL_law_1034 0 rfl ?_
      refine go_i2l C dL_law_1036 ?_
      refine go_lcmp C dL_law_1037 ?_
      refine go_if_eq C 1043 dL_law_1038 (by decide) hw (fun hw => ?_) (fun hw => ?_)
      · refine go_sub [2, 3, 4, 5, 6, 7] rfl ?_
        exact hj1043  hw
      refine go_iconst C 0 dL_law_1041 kc_i0 ?_
      exact False.elim hw
    refine go_iconst C 0 dL_law_1024 kc_i0 ?_
    exact False.elim hw
  replace hw := hw.2 n11
  by_cases n12 : (v13 &&& 63) = (12 : Int32)
  · refine go_tswIn C 12 n12 (by decide) (by decide) dL_law_45 (off := 1001) (tgt := 1046) (by rfl) (by decide) ?_
    replace hw := hw.1 n12
    refine go_aload_n C dL_law_1046 1 rfl ?_
    refine go_pV_i C [] vX11_cached tw2_15 (ci := 11) rfl (m_X11_cached (xl X) C.2.2.2.2.2.2.2.1 N hw.2) ⟨Nat.le_of_ble_eq_true rfl, Nat.le_of_ble_eq_true rfl, (by show c + 0 ≤ 603072; omega), (by show sl + 0 ≤ 7207018; omega)⟩ ⟨rfl, rfl⟩ hw.1 dL_law_1047 rfl (Nat.le_of_ble_eq_true rfl) rfl (fun v136 hw => ?_)
    refine go_aload_n C dL_law_1050 2 rfl ?_
    refine go_c0V_i C [] vX12_cached tw8_122 (ci := 12) rfl (m_X12_cached (xl X) C.2.2.2.2.2.2.2.1 N hw.2) ⟨Nat.le_of_ble_eq_true rfl, Nat.le_of_ble_eq_true rfl, (by show c + 0 ≤ 603072; omega), (by show sl + 0 ≤ 7207018; omega)⟩ ⟨rfl, rfl⟩ hw.1 dL_law_1051 rfl (Nat.le_of_ble_eq_true rfl) rfl (fun v137 h138 hw => ?_)
    refine go_icmp_eq C 2663 dL_law_1054 (by decide) hw (fun hw => ?_) (fun hw => ?_)
    · refine go_iinc C (x12 + 6) [(5, iV (x12 + 6)), (0, rV (some b)), (1, rV (some a1)), (2, rV (some a4)), (3, rV (some a7)), (4, rV (some a9))] dL_law_2663 5 rfl (by rw [kc_i6]) (Nat.le_of_ble_eq_true rfl) rfl ?_
      refine go_goto C 28 dL_law_2666 (by decide) ?_
      refine go_sub [1, 2, 3, 4, 5, 0] rfl ?_
      exact hj28 _ _ hw (kk + 1) _ _ (by rw [exi]; exact nI6 kk) (by omega) (by show c ≤ _; omega) (by show sl ≤ _; omega)
    refine go_iconst C 0 dL_law_1057 kc_i0 ?_
    exact False.elim hw
  replace hw := hw.2 n12
  by_cases n13 : (v13 &&& 63) = (13 : Int32)
  · refine go_tswIn C 13 n13 (by decide) (by decide) dL_law_45 (off := 1014) (tgt := 1059) (by rfl) (by decide) ?_
    replace hw := hw.1 n13
    refine go_aload_n C dL_law_1059 1 rfl ?_
    refine go_aload_n C dL_law_1060 0 rfl ?_
    refine go_iload C dL_law_1061 5 rfl ?_
    refine go_iconst C 1 dL_law_1063 kc_i1 ?_
    refine go_iadd C dL_law_1064 ?_
    refine go_sld C S dL_law_1065 hw (fun v139 hw => ?_)
    refine go_aload_n C dL_law_1066 3 rfl ?_
    refine go_callSH_i C [rV (some a1), iV v139, rV (some a7)] vL_cachedAt tw5_179 (m_L_cachedAt (xl X) C.2.2.2.2.2.2.2.1 N hw) ⟨Nat.le_of_ble_eq_true rfl, Nat.le_of_ble_eq_true rfl, (by show c + 1 ≤ 603072; omega), (by show sl + 6 ≤ 7207018; omega)⟩ dL_law_1067 rfl (Nat.le_of_ble_eq_true rfl) rfl (fun v140 h141 hw => ?_)
    refine go_istore C [(6, iV v140), (0, rV (some b)), (1, rV (some a1)), (2, rV (some a4)), (3, rV (some a7)), (4, rV (some a9)), (5, iV x12)] dL_law_1070 (Nat.le_of_ble_eq_true rfl) rfl ?_
    refine go_aload_n C dL_law_1072 3 rfl ?_
    refine go_aload_n C dL_law_1073 1 rfl ?_
    refine go_iload C dL_law_1074 6 rfl ?_
    refine go_iconst C 1 dL_law_1076 kc_i1 ?_
    refine go_iadd C dL_law_1077 ?_
    refine go_sld C S dL_law_1078 hw (fun v142 hw => ?_)
    refine go_c0V_i C [iV v142] vX12_cachedAt tw8_126 (ci := 12) rfl (m_X12_cachedAt (xl X) C.2.2.2.2.2.2.2.1 N hw.2) ⟨Nat.le_of_ble_eq_true rfl, Nat.le_of_ble_eq_true rfl, (by show c + 1 + 0 ≤ 603072; omega), (by show sl + 6 + 0 ≤ 7207018; omega)⟩ ⟨rfl, rfl⟩ hw.1 dL_law_1079 rfl (Nat.le_of_ble_eq_true rfl) rfl (fun v143 h144 hw => ?_)
    refine go_istore C [(7, iV v143), (6, iV v140), (0, rV (some b)), (1, rV (some a1)), (2, rV (some a4)), (3, rV (some a7)), (4, rV (some a9)), (5, iV x12)] dL_law_1082 (Nat.le_of_ble_eq_true rfl) rfl ?_
    refine go_aload_n C dL_law_1084 4 rfl ?_
    refine go_pV_i C [] vX12_thrown tw8_12 (ci := 12) rfl (m_X12_thrown (xl X) C.2.2.2.2.2.2.2.1 N hw.2) ⟨Nat.le_of_ble_eq_true rfl, Nat.le_of_ble_eq_true rfl, (by show c + 1 + 0 ≤ 603072; omega), (by show sl + 6 + 0 ≤ 7207018; omega)⟩ ⟨rfl, rfl⟩ hw.1 dL_law_1085 rfl (Nat.le_of_ble_eq_true rfl) rfl (fun v145 hw => ?_)
    refine go_iload C dL_law_1088 1 rfl ?_
    refine go_icmp_eq C 1095 dL_law_1090 (by decide) hw (fun hw => ?_) (fun hw => ?_)
    · refine go_iload C dL_law_1095 1 rfl ?_
      refine jn_elim (P := fun j => j  → Go G X room_1 9 (c + rmL_cachedAt.cells) (sl + rmL_cachedAt.slots) (lw_Z below #[Value.ref b] s) h144 1112 [(0, rV (some b)), (1, rV (some a1)), (2, rV (some a4)), (3, rV (some a7)), (4, rV (some a9)), (5, iV x12)] []) hw (fun  hw => ?_) (fun j1112 hj1112 hw => ?_)
      · refine go_goto C 2663 dL_law_1112 (by decide) ?_
        refine go_iinc C (x12 + 6) [(5, iV (x12 + 6)), (0, rV (some b)), (1, rV (some a1)), (2, rV (some a4)), (3, rV (some a7)), (4, rV (some a9))] dL_law_2663 5 rfl (by rw [kc_i6]) (Nat.le_of_ble_eq_true rfl) rfl ?_
        refine go_goto C 28 dL_law_2666 (by decide) ?_
        refine go_sub [1, 2, 3, 4, 5, 0] rfl ?_
        exact hj28 _ _ hw (kk + 1) _ _ (by rw [exi]; exact nI6 kk) (by omega) (by show c + 1 ≤ _; omega) (by show sl + 6 ≤ _; omega)
      refine go_if_ne C 1112 dL_law_1097 (by decide) hw (fun hw => ?_) (fun hw => ?_)
      · refine go_sub [2, 3, 4, 5, 6, 7] rfl ?_
        exact hj1112  hw
      refine go_aload_n C dL_law_1100 5 rfl ?_
      refine go_iconst C 0 dL_law_1101 kc_i0 ?_
      refine go_laload C dL_law_1102 hw (fun v146 hw => ?_)
      refine go_iload C dL_law_1103 0 rfl ?_
      refine go_i2l C dL_law_1105 ?_
      refine go_lcmp C dL_law_1106 ?_
      refine go_if_eq C 1112 dL_law_1107 (by decide) hw (fun hw => ?_) (fun hw => ?_)
      · refine go_sub [2, 3, 4, 5, 6, 7] rfl ?_
        exact hj1112  hw
      refine go_iconst C 0 dL_law_1110 kc_i0 ?_
      exact False.elim hw
    refine go_iconst C 0 dL_law_1093 kc_i0 ?_
    exact False.elim hw
  replace hw := hw.2 n13
  by_cases n14 : (v13 &&& 63) = (14 : Int32)
  · refine go_tswIn C 14 n14 (by decide) (by decide) dL_law_45 (off := 1070) (tgt := 1115) (by rfl) (by decide) ?_
    replace hw := hw.1 n14
    refine go_aload_n C dL_law_1115 1 rfl ?_
    refine go_c0V_i C [] vX11_flush tw2_23 (ci := 11) rfl (m_X11_flush (xl X) C.2.2.2.2.2.2.2.1 N hw.2) ⟨Nat.le_of_ble_eq_true rfl, Nat.le_of_ble_eq_true rfl, (by show c + 0 ≤ 603072; omega), (by show sl + 0 ≤ 7207018; omega)⟩ ⟨rfl, rfl⟩ hw.1 dL_law_1116 rfl (Nat.le_of_ble_eq_true rfl) rfl (fun v147 h148 hw => ?_)
    refine go_aload_n C dL_law_1119 2 rfl ?_
    refine go_c0V_i C [] vX12_flush tw8_130 (ci := 12) rfl (m_X12_flush (xl X) C.2.2.2.2.2.2.2.1 N hw.2) ⟨Nat.le_of_ble_eq_true rfl, Nat.le_of_ble_eq_true rfl, (by show c + 0 ≤ 603072; omega), (by show sl + 0 ≤ 7207018; omega)⟩ ⟨rfl, rfl⟩ hw.1 dL_law_1120 rfl (Nat.le_of_ble_eq_true rfl) rfl (fun v149 h150 hw => ?_)
    refine go_icmp_eq C 2663 dL_law_1123 (by decide) hw (fun hw => ?_) (fun hw => ?_)
    · refine go_iinc C (x12 + 6) [(5, iV (x12 + 6)), (0, rV (some b)), (1, rV (some a1)), (2, rV (some a4)), (3, rV (some a7)), (4, rV (some a9))] dL_law_2663 5 rfl (by rw [kc_i6]) (Nat.le_of_ble_eq_true rfl) rfl ?_
      refine go_goto C 28 dL_law_2666 (by decide) ?_
      refine go_sub [1, 2, 3, 4, 5, 0] rfl ?_
      exact hj28 _ _ hw (kk + 1) _ _ (by rw [exi]; exact nI6 kk) (by omega) (by show c ≤ _; omega) (by show sl ≤ _; omega)
    refine go_iconst C 0 dL_law_1126 kc_i0 ?_
    exact False.elim hw
  replace hw := hw.2 n14
  by_cases n15 : (v13 &&& 63) = (15 : Int32)
  · refine go_tswIn C 15 n15 (by decide) (by decide) dL_law_45 (off := 1083) (tgt := 1128) (by rfl) (by decide) ?_
    replace hw := hw.1 n15
    refine go_aload_n C dL_law_1128 1 rfl ?_
    refine go_aload_n C dL_law_1129 3 rfl ?_
    refine go_callSH_i C [rV (some a1), rV (some a7)] vL_query tw5_187 (m_L_query (xl X) C.2.2.2.2.2.2.2.1 N hw) ⟨Nat.le_of_ble_eq_true rfl, Nat.le_of_ble_eq_true rfl, (by show c + 4 ≤ 603072; omega), (by show sl + 16 ≤ 7207018; omega)⟩ dL_law_1130 rfl (Nat.le_of_ble_eq_true rfl) rfl (fun v151 h152 hw => ?_)
    refine go_istore C [(6, iV v151), (0, rV (some b)), (1, rV (some a1)), (2, rV (some a4)), (3, rV (some a7)), (4, rV (some a9)), (5, iV x12)] dL_law_1133 (Nat.le_of_ble_eq_true rfl) rfl ?_
    refine go_aload_n C dL_law_1135 3 rfl ?_
    refine go_c0V_i C [] vX12_query tw8_134 (ci := 12) rfl (m_X12_query (xl X) C.2.2.2.2.2.2.2.1 N hw.2) ⟨Nat.le_of_ble_eq_true rfl, Nat.le_of_ble_eq_true rfl, (by show c + 4 + 0 ≤ 603072; omega), (by show sl + 16 + 0 ≤ 7207018; omega)⟩ ⟨rfl, rfl⟩ hw.1 dL_law_1136 rfl (Nat.le_of_ble_eq_true rfl) rfl (fun v153 h154 hw => ?_)
    refine go_istore C [(7, iV v153), (6, iV v151), (0, rV (some b)), (1, rV (some a1)), (2, rV (some a4)), (3, rV (some a7)), (4, rV (some a9)), (5, iV x12)] dL_law_1139 (Nat.le_of_ble_eq_true rfl) rfl ?_
    refine go_aload_n C dL_law_1141 4 rfl ?_
    refine go_pV_i C [] vX12_thrown tw8_12 (ci := 12) rfl (m_X12_thrown (xl X) C.2.2.2.2.2.2.2.1 N hw.2) ⟨Nat.le_of_ble_eq_true rfl, Nat.le_of_ble_eq_true rfl, (by show c + 4 + 0 ≤ 603072; omega), (by show sl + 16 + 0 ≤ 7207018; omega)⟩ ⟨rfl, rfl⟩ hw.1 dL_law_1142 rfl (Nat.le_of_ble_eq_true rfl) rfl (fun v155 hw => ?_)
    refine go_iload C dL_law_1145 1 rfl ?_
    refine go_icmp_eq C 1152 dL_law_1147 (by decide) hw (fun hw => ?_) (fun hw => ?_)
    · refine go_iload C dL_law_1152 1 rfl ?_
      refine jn_elim (P := fun j => j  → Go G X room_1 9 (c + rmL_query.cells) (sl + rmL_query.slots) (lw_Z below #[Value.ref b] s) h154 1169 [(0, rV (some b)), (1, rV (some a1)), (2, rV (some a4)), (3, rV (some a7)), (4, rV (some a9)), (5, iV x12)] []) hw (fun  hw => ?_) (fun j1169 hj1169 hw => ?_)
      · refine go_goto C 2663 dL_law_1169 (by decide) ?_
        refine go_iinc C (x12 + 6) [(5, iV (x12 + 6)), (0, rV (some b)), (1, rV (some a1)), (2, rV (some a4)), (3, rV (some a7)), (4, rV (some a9))] dL_law_2663 5 rfl (by rw [kc_i6]) (Nat.le_of_ble_eq_true rfl) rfl ?_
        refine go_goto C 28 dL_law_2666 (by decide) ?_
        refine go_sub [1, 2, 3, 4, 5, 0] rfl ?_
        exact hj28 _ _ hw (kk + 1) _ _ (by rw [exi]; exact nI6 kk) (by omega) (by show c + 4 ≤ _; omega) (by show sl + 16 ≤ _; omega)
      refine go_if_ne C 1169 dL_law_1154 (by decide) hw (fun hw => ?_) (fun hw => ?_)
      · refine go_sub [2, 3, 4, 5, 6, 7] rfl ?_
        exact hj1169  hw
      refine go_aload_n C dL_law_1157 5 rfl ?_
      refine go_iconst C 0 dL_law_1158 kc_i0 ?_
      refine go_laload C dL_law_1159 hw (fun v156 hw => ?_)
      refine go_iload C dL_law_1160 0 rfl ?_
      refine go_i2l C dL_law_1162 ?_
      refine go_lcmp C dL_law_1163 ?_
      refine go_if_eq C 1169 dL_law_1164 (by decide) hw (fun hw => ?_) (fun hw => ?_)
      · refine go_sub [2, 3, 4, 5, 6, 7] rfl ?_
        exact hj1169  hw
      refine go_iconst C 0 dL_law_1167 kc_i0 ?_
      exact False.elim hw
    refine go_iconst C 0 dL_law_1150 kc_i0 ?_
    exact False.elim hw
  replace hw := hw.2 n15
  by_cases n16 : (v13 &&& 63) = (16 : Int32)
  · refine go_tswIn C 16 n16 (by decide) (by decide) dL_law_45 (off := 1127) (tgt := 1172) (by rfl) (by decide) ?_
    replace hw := hw.1 n16
    refine go_aload_n C dL_law_1172 1 rfl ?_
    refine go_aload_n C dL_law_1173 0 rfl ?_
    refine go_iload C dL_law_1174 5 rfl ?_
    refine go_iconst C 1 dL_law_1176 kc_i1 ?_
    refine go_iadd C dL_law_1177 ?_
    refine go_sld C S dL_law_1178 hw (fun v157 hw => ?_)
    refine go_aload_n C dL_law_1179 0 rfl ?_
    refine go_iload C dL_law_1180 5 rfl ?_
    refine go_iconst C 2 dL_law_1182 kc_i2 ?_
    refine go_iadd C dL_law_1183 ?_
    refine go_sld C S dL_law_1184 hw (fun v158 hw => ?_)
    refine go_aload_n C dL_law_1185 3 rfl ?_
    refine go_callSH_i C [rV (some a1), iV v157, iV v158, rV (some a7)] vL_from tw5_224 (m_L_from (xl X) C.2.2.2.2.2.2.2.1 N hw) ⟨Nat.le_of_ble_eq_true rfl, Nat.le_of_ble_eq_true rfl, (by show c + 3 ≤ 603072; omega), (by show sl + 18 ≤ 7207018; omega)⟩ dL_law_1186 rfl (Nat.le_of_ble_eq_true rfl) rfl (fun v159 h160 hw => ?_)
    refine go_istore C [(6, iV v159), (0, rV (some b)), (1, rV (some a1)), (2, rV (some a4)), (3, rV (some a7)), (4, rV (some a9)), (5, iV x12)] dL_law_1189 (Nat.le_of_ble_eq_true rfl) rfl ?_
    refine go_aload_n C dL_law_1191 3 rfl ?_
    refine go_aload_n C dL_law_1192 1 rfl ?_
    refine go_iload C dL_law_1193 6 rfl ?_
    refine go_iconst C 1 dL_law_1195 kc_i1 ?_
    refine go_iadd C dL_law_1196 ?_
    refine go_sld C S dL_law_1197 hw (fun v161 hw => ?_)
    refine go_aload_n C dL_law_1198 1 rfl ?_
    refine go_iload C dL_law_1199 6 rfl ?_
    refine go_iconst C 2 dL_law_1201 kc_i2 ?_
    refine go_iadd C dL_law_1202 ?_
    refine go_sld C S dL_law_1203 hw (fun v162 hw => ?_)
    refine go_c0V_i C [iV v161, iV v162] vX12_from tw8_138 (ci := 12) rfl (m_X12_from (xl X) C.2.2.2.2.2.2.2.1 N hw.2) ⟨Nat.le_of_ble_eq_true rfl, Nat.le_of_ble_eq_true rfl, (by show c + 3 + 0 ≤ 603072; omega), (by show sl + 18 + 0 ≤ 7207018; omega)⟩ ⟨rfl, rfl⟩ hw.1 dL_law_1204 rfl (Nat.le_of_ble_eq_true rfl) rfl (fun v163 h164 hw => ?_)
    refine go_istore C [(7, iV v163), (6, iV v159), (0, rV (some b)), (1, rV (some a1)), (2, rV (some a4)), (3, rV (some a7)), (4, rV (some a9)), (5, iV x12)] dL_law_1207 (Nat.le_of_ble_eq_true rfl) rfl ?_
    refine go_aload_n C dL_law_1209 4 rfl ?_
    refine go_pV_i C [] vX12_thrown tw8_12 (ci := 12) rfl (m_X12_thrown (xl X) C.2.2.2.2.2.2.2.1 N hw.2) ⟨Nat.le_of_ble_eq_true rfl, Nat.le_of_ble_eq_true rfl, (by show c + 3 + 0 ≤ 603072; omega), (by show sl + 18 + 0 ≤ 7207018; omega)⟩ ⟨rfl, rfl⟩ hw.1 dL_law_1210 rfl (Nat.le_of_ble_eq_true rfl) rfl (fun v165 hw => ?_)
    refine go_iload C dL_law_1213 1 rfl ?_
    refine go_icmp_eq C 1220 dL_law_1215 (by decide) hw (fun hw => ?_) (fun hw => ?_)
    · refine go_iload C dL_law_1220 1 rfl ?_
      refine jn_elim (P := fun j => j  → Go G X room_1 9 (c + rmL_from.cells) (sl + rmL_from.slots) (lw_Z below #[Value.ref b] s) h164 1237 [(0, rV (some b)), (1, rV (some a1)), (2, rV (some a4)), (3, rV (some a7)), (4, rV (some a9)), (5, iV x12)] []) hw (fun  hw => ?_) (fun j1237 hj1237 hw => ?_)
      · refine go_goto C 2663 dL_law_1237 (by decide) ?_
        refine go_iinc C (x12 + 6) [(5, iV (x12 + 6)), (0, rV (some b)), (1, rV (some a1)), (2, rV (some a4)), (3, rV (some a7)), (4, rV (some a9))] dL_law_2663 5 rfl (by rw [kc_i6]) (Nat.le_of_ble_eq_true rfl) rfl ?_
        refine go_goto C 28 dL_law_2666 (by decide) ?_
        refine go_sub [1, 2, 3, 4, 5, 0] rfl ?_
        exact hj28 _ _ hw (kk + 1) _ _ (by rw [exi]; exact nI6 kk) (by omega) (by show c + 3 ≤ _; omega) (by show sl + 18 ≤ _; omega)
      refine go_if_ne C 1237 dL_law_1222 (by decide) hw (fun hw => ?_) (fun hw => ?_)
      · refine go_sub [2, 3, 4, 5, 6, 7] rfl ?_
        exact hj1237  hw
      refine go_aload_n C dL_law_1225 5 rfl ?_
      refine go_iconst C 0 dL_law_1226 kc_i0 ?_
      refine go_laload C dL_law_1227 hw (fun v166 hw => ?_)
      refine go_iload C dL_law_1228 0 rfl ?_
      refine go_i2l C dL_law_1230 ?_
      refine go_lcmp C dL_law_1231 ?_
      refine go_if_eq C 1237 dL_law_1232 (by decide) hw (fun hw => ?_) (fun hw => ?_)
      · refine go_sub [2, 3, 4, 5, 6, 7] rfl ?_
        exact hj1237  hw
      refine go_iconst C 0 dL_law_1235 kc_i0 ?_
      exact False.elim hw
    refine go_iconst C 0 dL_law_1218 kc_i0 ?_
    exact False.elim hw
  replace hw := hw.2 n16
  by_cases n17 : (v13 &&& 63) = (17 : Int32)
  · refine go_tswIn C 17 n17 (by decide) (by decide) dL_law_45 (off := 1195) (tgt := 1240) (by rfl) (by decide) ?_
    replace hw := hw.1 n17
    refine go_aload_n C dL_law_1240 1 rfl ?_
    refine go_aload_n C dL_law_1241 0 rfl ?_
    refine go_iload C dL_law_1242 5 rfl ?_
    refine go_iconst C 1 dL_law_1244 kc_i1 ?_
    refine go_iadd C dL_law_1245 ?_
    refine go_sld C S dL_law_1246 hw (fun v167 hw => ?_)
    refine go_aload_n C dL_law_1247 0 rfl ?_
    refine go_iload C dL_law_1248 5 rfl ?_
    refine go_iconst C 2 dL_law_1250 kc_i2 ?_
    refine go_iadd C dL_law_1251 ?_
    refine go_sld C S dL_law_1252 hw (fun v168 hw => ?_)
    refine go_aload_n C dL_law_1253 0 rfl ?_
    refine go_iload C dL_law_1254 5 rfl ?_
    refine go_iconst C 3 dL_law_1256 kc_i3 ?_
    refine go_iadd C dL_law_1257 ?_
    refine go_sld C S dL_law_1258 hw (fun v169 hw => ?_)
    refine go_aload_n C dL_law_1259 0 rfl ?_
    refine go_iload C dL_law_1260 5 rfl ?_
    refine go_iconst C 4 dL_law_1262 kc_i4 ?_
    refine go_iadd C dL_law_1263 ?_
    refine go_sld C S dL_law_1264 hw (fun v170 hw => ?_)
    refine go_i2c C dL_law_1265 ?_
    refine go_aload_n C dL_law_1266 0 rfl ?_
    refine go_iload C dL_law_1267 5 rfl ?_
    refine go_iconst C 5 dL_law_1269 kc_i5 ?_
    refine go_iadd C dL_law_1270 ?_
    refine go_sld C S dL_law_1271 hw (fun v171 hw => ?_)
    refine go_aload_n C dL_law_1272 3 rfl ?_
    refine go_callSH_i C [rV (some a1), iV v167, iV v168, iV v169, iV (((v170 : Int32).toUInt32 % 65536).toInt32), iV v171, rV (some a7)] vL_where tw6_1 (m_L_where (xl X) C.2.2.2.2.2.2.2.1 N hw) ⟨Nat.le_of_ble_eq_true rfl, Nat.le_of_ble_eq_true rfl, (by show c + 2 ≤ 603072; omega), (by show sl + 12 ≤ 7207018; omega)⟩ dL_law_1273 rfl (Nat.le_of_ble_eq_true rfl) rfl (fun v172 h173 hw => ?_)
    refine go_istore C [(6, iV v172), (0, rV (some b)), (1, rV (some a1)), (2, rV (some a4)), (3, rV (some a7)), (4, rV (some a9)), (5, iV x12)] dL_law_1276 (Nat.le_of_ble_eq_true rfl) rfl ?_
    refine go_aload_n C dL_law_1278 3 rfl ?_
    refine go_aload_n C dL_law_1279 1 rfl ?_
    refine go_iload C dL_law_1280 6 rfl ?_
    refine go_iconst C 1 dL_law_1282 kc_i1 ?_
    refine go_iadd C dL_law_1283 ?_
    refine go_sld C S dL_law_1284 hw (fun v174 hw => ?_)
    refine go_aload_n C dL_law_1285 1 rfl ?_
    refine go_iload C dL_law_1286 6 rfl ?_
    refine go_iconst C 2 dL_law_1288 kc_i2 ?_
    refine go_iadd C dL_law_1289 ?_
    refine go_sld C S dL_law_1290 hw (fun v175 hw => ?_)
    refine go_aload_n C dL_law_1291 1 rfl ?_
    refine go_iload C dL_law_1292 6 rfl ?_
    refine go_iconst C 3 dL_law_1294 kc_i3 ?_
    refine go_iadd C dL_law_1295 ?_
    refine go_sld C S dL_law_1296 hw (fun v176 hw => ?_)
    refine go_aload_n C dL_law_1297 1 rfl ?_
    refine go_iload C dL_law_1298 6 rfl ?_
    refine go_iconst C 4 dL_law_1300 kc_i4 ?_
    refine go_iadd C dL_law_1301 ?_
    refine go_sld C S dL_law_1302 hw (fun v177 hw => ?_)
    refine go_i2c C dL_law_1303 ?_
    refine go_aload_n C dL_law_1304 1 rfl ?_
    refine go_iload C dL_law_1305 6 rfl ?_
    refine go_iconst C 5 dL_law_1307 kc_i5 ?_
    refine go_iadd C dL_law_1308 ?_
    refine go_sld C S dL_law_1309 hw (fun v178 hw => ?_)
    refine go_c0V_i C [iV v174, iV v175, iV v176, iV (((v177 : Int32).toUInt32 % 65536).toInt32), iV v178] vX12_where tw8_146 (ci := 12) rfl (m_X12_where (xl X) C.2.2.2.2.2.2.2.1 N hw.2) ⟨Nat.le_of_ble_eq_true rfl, Nat.le_of_ble_eq_true rfl, (by show c + 2 + 0 ≤ 603072; omega), (by show sl + 12 + 0 ≤ 7207018; omega)⟩ ⟨rfl, rfl⟩ hw.1 dL_law_1310 rfl (Nat.le_of_ble_eq_true rfl) rfl (fun v179 h180 hw => ?_)
    refine go_istore C [(7, iV v179), (6, iV v172), (0, rV (some b)), (1, rV (some a1)), (2, rV (some a4)), (3, rV (some a7)), (4, rV (some a9)), (5, iV x12)] dL_law_1313 (Nat.le_of_ble_eq_true rfl) rfl ?_
    refine go_aload_n C dL_law_1315 4 rfl ?_
    refine go_pV_i C [] vX12_thrown tw8_12 (ci := 12) rfl (m_X12_thrown (xl X) C.2.2.2.2.2.2.2.1 N hw.2) ⟨Nat.le_of_ble_eq_true rfl, Nat.le_of_ble_eq_true rfl, (by show c + 2 + 0 ≤ 603072; omega), (by show sl + 12 + 0 ≤ 7207018; omega)⟩ ⟨rfl, rfl⟩ hw.1 dL_law_1316 rfl (Nat.le_of_ble_eq_true rfl) rfl (fun v181 hw => ?_)
    refine go_iload C dL_law_1319 1 rfl ?_
    refine go_icmp_eq C 1326 dL_law_1321 (by decide) hw (fun hw => ?_) (fun hw => ?_)
    · refine go_iload C dL_law_1326 1 rfl ?_
      refine jn_elim (P := fun j => j  → Go G X room_1 9 (c + rmL_where.cells) (sl + rmL_where.slots) (lw_Z below #[Value.ref b] s) h180 1343 [(0, rV (some b)), (1, rV (some a1)), (2, rV (some a4)), (3, rV (some a7)), (4, rV (some a9)), (5, iV x12)] []) hw (fun  hw => ?_) (fun j1343 hj1343 hw => ?_)
      · refine go_goto C 2663 dL_law_1343 (by decide) ?_
        refine go_iinc C (x12 + 6) [(5, iV (x12 + 6)), (0, rV (some b)), (1, rV (some a1)), (2, rV (some a4)), (3, rV (some a7)), (4, rV (some a9))] dL_law_2663 5 rfl (by rw [kc_i6]) (Nat.le_of_ble_eq_true rfl) rfl ?_
        refine go_goto C 28 dL_law_2666 (by decide) ?_
        refine go_sub [1, 2, 3, 4, 5, 0] rfl ?_
        exact hj28 _ _ hw (kk + 1) _ _ (by rw [exi]; exact nI6 kk) (by omega) (by show c + 2 ≤ _; omega) (by show sl + 12 ≤ _; omega)
      refine go_if_ne C 1343 dL_law_1328 (by decide) hw (fun hw => ?_) (fun hw => ?_)
      · refine go_sub [2, 3, 4, 5, 6, 7] rfl ?_
        exact hj1343  hw
      refine go_aload_n C dL_law_1331 5 rfl ?_
      refine go_iconst C 0 dL_law_1332 kc_i0 ?_
      refine go_laload C dL_law_1333 hw (fun v182 hw => ?_)
      refine go_iload C dL_law_1334 0 rfl ?_
      refine go_i2l C dL_law_1336 ?_
      refine go_lcmp C dL_law_1337 ?_
      refine go_if_eq C 1343 dL_law_1338 (by decide) hw (fun hw => ?_) (fun hw => ?_)
      · refine go_sub [2, 3, 4, 5, 6, 7] rfl ?_
        exact hj1343  hw
      refine go_iconst C 0 dL_law_1341 kc_i0 ?_
      exact False.elim hw
    refine go_iconst C 0 dL_law_1324 kc_i0 ?_
    exact False.elim hw
  replace hw := hw.2 n17
  by_cases n18 : (v13 &&& 63) = (18 : Int32)
  · refine go_tswIn C 18 n18 (by decide) (by decide) dL_law_45 (off := 1301) (tgt := 1346) (by rfl) (by decide) ?_
    replace hw := hw.1 n18
    refine go_aload_n C dL_law_1346 1 rfl ?_
    refine go_aload_n C dL_law_1347 0 rfl ?_
    refine go_iload C dL_law_1348 5 rfl ?_
    refine go_iconst C 1 dL_law_1350 kc_i1 ?_
    refine go_iadd C dL_law_1351 ?_
    refine go_sld C S dL_law_1352 hw (fun v183 hw => ?_)
    refine go_aload_n C dL_law_1353 0 rfl ?_
    refine go_iload C dL_law_1354 5 rfl ?_
    refine go_iconst C 2 dL_law_1356 kc_i2 ?_
    refine go_iadd C dL_law_1357 ?_
    refine go_sld C S dL_law_1358 hw (fun v184 hw => ?_)
    refine go_aload_n C dL_law_1359 0 rfl ?_
    refine go_iload C dL_law_1360 5 rfl ?_
    refine go_iconst C 3 dL_law_1362 kc_i3 ?_
    refine go_iadd C dL_law_1363 ?_
    refine go_sld C S dL_law_1364 hw (fun v185 hw => ?_)
    refine go_aload_n C dL_law_1365 0 rfl ?_
    refine go_iload C dL_law_1366 5 rfl ?_
    refine go_iconst C 4 dL_law_1368 kc_i4 ?_
    refine go_iadd C dL_law_1369 ?_
    refine go_sld C S dL_law_1370 hw (fun v186 hw => ?_)
    refine go_aload_n C dL_law_1371 0 rfl ?_
    refine go_iload C dL_law_1372 5 rfl ?_
    refine go_iconst C 5 dL_law_1374 kc_i5 ?_
    refine go_iadd C dL_law_1375 ?_
    refine go_sld C S dL_law_1376 hw (fun v187 hw => ?_)
    refine go_aload_n C dL_law_1377 3 rfl ?_
    refine go_callSH_i C [rV (some a1), iV v183, iV v184, iV v185, iV v186, iV v187, rV (some a7)] vL_join tw6_40 (m_L_join (xl X) C.2.2.2.2.2.2.2.1 N hw) ⟨Nat.le_of_ble_eq_true rfl, Nat.le_of_ble_eq_true rfl, (by show c + 2 ≤ 603072; omega), (by show sl + 12 ≤ 7207018; omega)⟩ dL_law_1378 rfl (Nat.le_of_ble_eq_true rfl) rfl (fun v188 h189 hw => ?_)
    refine go_istore C [(6, iV v188), (0, rV (some b)), (1, rV (some a1)), (2, rV (some a4)), (3, rV (some a7)), (4, rV (some a9)), (5, iV x12)] dL_law_1381 (Nat.le_of_ble_eq_true rfl) rfl ?_
    refine go_aload_n C dL_law_1383 3 rfl ?_
    refine go_aload_n C dL_law_1384 1 rfl ?_
    refine go_iload C dL_law_1385 6 rfl ?_
    refine go_iconst C 1 dL_law_1387 kc_i1 ?_
    refine go_iadd C dL_law_1388 ?_
    refine go_sld C S dL_law_1389 hw (fun v190 hw => ?_)
    refine go_aload_n C dL_law_1390 1 rfl ?_
    refine go_iload C dL_law_1391 6 rfl ?_
    refine go_iconst C 2 dL_law_1393 kc_i2 ?_
    refine go_iadd C dL_law_1394 ?_
    refine go_sld C S dL_law_1395 hw (fun v191 hw => ?_)
    refine go_aload_n C dL_law_1396 1 rfl ?_
    refine go_iload C dL_law_1397 6 rfl ?_
    refine go_iconst C 3 dL_law_1399 kc_i3 ?_
    refine go_iadd C dL_law_1400 ?_
    refine go_sld C S dL_law_1401 hw (fun v192 hw => ?_)
    refine go_aload_n C dL_law_1402 1 rfl ?_
    refine go_iload C dL_law_1403 6 rfl ?_
    refine go_iconst C 4 dL_law_1405 kc_i4 ?_
    refine go_iadd C dL_law_1406 ?_
    refine go_sld C S dL_law_1407 hw (fun v193 hw => ?_)
    refine go_aload_n C dL_law_1408 1 rfl ?_
    refine go_iload C dL_law_1409 6 rfl ?_
    refine go_iconst C 5 dL_law_1411 kc_i5 ?_
    refine go_iadd C dL_law_1412 ?_
    refine go_sld C S dL_law_1413 hw (fun v194 hw => ?_)
    refine go_c0V_i C [iV v190, iV v191, iV v192, iV v193, iV v194] vX12_join tw8_154 (ci := 12) rfl (m_X12_join (xl X) C.2.2.2.2.2.2.2.1 N hw.2) ⟨Nat.le_of_ble_eq_true rfl, Nat.le_of_ble_eq_true rfl, (by show c + 2 + 0 ≤ 603072; omega), (by show sl + 12 + 0 ≤ 7207018; omega)⟩ ⟨rfl, rfl⟩ hw.1 dL_law_1414 rfl (Nat.le_of_ble_eq_true rfl) rfl (fun v195 h196 hw => ?_)
    refine go_istore C [(7, iV v195), (6, iV v188), (0, rV (some b)), (1, rV (some a1)), (2, rV (some a4)), (3, rV (some a7)), (4, rV (some a9)), (5, iV x12)] dL_law_1417 (Nat.le_of_ble_eq_true rfl) rfl ?_
    refine go_aload_n C dL_law_1419 4 rfl ?_
    refine go_pV_i C [] vX12_thrown tw8_12 (ci := 12) rfl (m_X12_thrown (xl X) C.2.2.2.2.2.2.2.1 N hw.2) ⟨Nat.le_of_ble_eq_true rfl, Nat.le_of_ble_eq_true rfl, (by show c + 2 + 0 ≤ 603072; omega), (by show sl + 12 + 0 ≤ 7207018; omega)⟩ ⟨rfl, rfl⟩ hw.1 dL_law_1420 rfl (Nat.le_of_ble_eq_true rfl) rfl (fun v197 hw => ?_)
    refine go_iload C dL_law_1423 1 rfl ?_
    refine go_icmp_eq C 1430 dL_law_1425 (by decide) hw (fun hw => ?_) (fun hw => ?_)
    · refine go_iload C dL_law_1430 1 rfl ?_
      refine jn_elim (P := fun j => j  → Go G X room_1 9 (c + rmL_join.cells) (sl + rmL_join.slots) (lw_Z below #[Value.ref b] s) h196 1447 [(0, rV (some b)), (1, rV (some a1)), (2, rV (some a4)), (3, rV (some a7)), (4, rV (some a9)), (5, iV x12)] []) hw (fun  hw => ?_) (fun j1447 hj1447 hw => ?_)
      · refine go_goto C 2663 dL_law_1447 (by decide) ?_
        refine go_iinc C (x12 + 6) [(5, iV (x12 + 6)), (0, rV (some b)), (1, rV (some a1)), (2, rV (some a4)), (3, rV (some a7)), (4, rV (some a9))] dL_law_2663 5 rfl (by rw [kc_i6]) (Nat.le_of_ble_eq_true rfl) rfl ?_
        refine go_goto C 28 dL_law_2666 (by decide) ?_
        refine go_sub [1, 2, 3, 4, 5, 0] rfl ?_
        exact hj28 _ _ hw (kk + 1) _ _ (by rw [exi]; exact nI6 kk) (by omega) (by show c + 2 ≤ _; omega) (by show sl + 12 ≤ _; omega)
      refine go_if_ne C 1447 dL_law_1432 (by decide) hw (fun hw => ?_) (fun hw => ?_)
      · refine go_sub [2, 3, 4, 5, 6, 7] rfl ?_
        exact hj1447  hw
      refine go_aload_n C dL_law_1435 5 rfl ?_
      refine go_iconst C 0 dL_law_1436 kc_i0 ?_
      refine go_laload C dL_law_1437 hw (fun v198 hw => ?_)
      refine go_iload C dL_law_1438 0 rfl ?_
      refine go_i2l C dL_law_1440 ?_
      refine go_lcmp C dL_law_1441 ?_
      refine go_if_eq C 1447 dL_law_1442 (by decide) hw (fun hw => ?_) (fun hw => ?_)
      · refine go_sub [2, 3, 4, 5, 6, 7] rfl ?_
        exact hj1447  hw
      refine go_iconst C 0 dL_law_1445 kc_i0 ?_
      exact False.elim hw
    refine go_iconst C 0 dL_law_1428 kc_i0 ?_
    exact False.elim hw
  replace hw := hw.2 n18
  by_cases n19 : (v13 &&& 63) = (19 : Int32)
  · refine go_tswIn C 19 n19 (by decide) (by decide) dL_law_45 (off := 1405) (tgt := 1450) (by rfl) (by decide) ?_
    replace hw := hw.1 n19
    refine go_aload_n C dL_law_1450 1 rfl ?_
    refine go_aload_n C dL_law_1451 0 rfl ?_
    refine go_iload C dL_law_1452 5 rfl ?_
    refine go_iconst C 1 dL_law_1454 kc_i1 ?_
    refine go_iadd C dL_law_1455 ?_
    refine go_sld C S dL_law_1456 hw (fun v199 hw => ?_)
    refine go_aload_n C dL_law_1457 3 rfl ?_
    refine go_callSH_i C [rV (some a1), iV v199, rV (some a7)] vL_answers tw6_73 (m_L_answers (xl X) C.2.2.2.2.2.2.2.1 N hw) ⟨Nat.le_of_ble_eq_true rfl, Nat.le_of_ble_eq_true rfl, (by show c + 2 ≤ 603072; omega), (by show sl + 12 ≤ 7207018; omega)⟩ dL_law_1458 rfl (Nat.le_of_ble_eq_true rfl) rfl (fun v200 h201 hw => ?_)
    refine go_istore C [(6, iV v200), (0, rV (some b)), (1, rV (some a1)), (2, rV (some a4)), (3, rV (some a7)), (4, rV (some a9)), (5, iV x12)] dL_law_1461 (Nat.le_of_ble_eq_true rfl) rfl ?_
    refine go_aload_n C dL_law_1463 3 rfl ?_
    refine go_aload_n C dL_law_1464 1 rfl ?_
    refine go_iload C dL_law_1465 6 rfl ?_
    refine go_iconst C 1 dL_law_1467 kc_i1 ?_
    refine go_iadd C dL_law_1468 ?_
    refine go_sld C S dL_law_1469 hw (fun v202 hw => ?_)
    refine go_c0V_i C [iV v202] vX12_answers tw8_158 (ci := 12) rfl (m_X12_answers (xl X) C.2.2.2.2.2.2.2.1 N hw.2) ⟨Nat.le_of_ble_eq_true rfl, Nat.le_of_ble_eq_true rfl, (by show c + 2 + 0 ≤ 603072; omega), (by show sl + 12 + 0 ≤ 7207018; omega)⟩ ⟨rfl, rfl⟩ hw.1 dL_law_1470 rfl (Nat.le_of_ble_eq_true rfl) rfl (fun v203 h204 hw => ?_)
    refine go_istore C [(7, iV v203), (6, iV v200), (0, rV (some b)), (1, rV (some a1)), (2, rV (some a4)), (3, rV (some a7)), (4, rV (some a9)), (5, iV x12)] dL_law_1473 (Nat.le_of_ble_eq_true rfl) rfl ?_
    refine go_aload_n C dL_law_1475 4 rfl ?_
    refine go_pV_i C [] vX12_thrown tw8_12 (ci := 12) rfl (m_X12_thrown (xl X) C.2.2.2.2.2.2.2.1 N hw.2) ⟨Nat.le_of_ble_eq_true rfl, Nat.le_of_ble_eq_true rfl, (by show c + 2 + 0 ≤ 603072; omega), (by show sl + 12 + 0 ≤ 7207018; omega)⟩ ⟨rfl, rfl⟩ hw.1 dL_law_1476 rfl (Nat.le_of_ble_eq_true rfl) rfl (fun v205 hw => ?_)
    refine go_iload C dL_law_1479 1 rfl ?_
    refine go_icmp_eq C 1486 dL_law_1481 (by decide) hw (fun hw => ?_) (fun hw => ?_)
    · refine go_iload C dL_law_1486 1 rfl ?_
      refine jn_elim (P := fun j => j  → Go G X room_1 9 (c + rmL_answers.cells) (sl + rmL_answers.slots) (lw_Z below #[Value.ref b] s) h204 1503 [(0, rV (some b)), (1, rV (some a1)), (2, rV (some a4)), (3, rV (some a7)), (4, rV (some a9)), (5, iV x12)] []) hw (fun  hw => ?_) (fun j1503 hj1503 hw => ?_)
      · refine go_goto C 2663 dL_law_1503 (by decide) ?_
        refine go_iinc C (x12 + 6) [(5, iV (x12 + 6)), (0, rV (some b)), (1, rV (some a1)), (2, rV (some a4)), (3, rV (some a7)), (4, rV (some a9))] dL_law_2663 5 rfl (by rw [kc_i6]) (Nat.le_of_ble_eq_true rfl) rfl ?_
        refine go_goto C 28 dL_law_2666 (by decide) ?_
        refine go_sub [1, 2, 3, 4, 5, 0] rfl ?_
        exact hj28 _ _ hw (kk + 1) _ _ (by rw [exi]; exact nI6 kk) (by omega) (by show c + 2 ≤ _; omega) (by show sl + 12 ≤ _; omega)
      refine go_if_ne C 1503 dL_law_1488 (by decide) hw (fun hw => ?_) (fun hw => ?_)
      · refine go_sub [2, 3, 4, 5, 6, 7] rfl ?_
        exact hj1503  hw
      refine go_aload_n C dL_law_1491 5 rfl ?_
      refine go_iconst C 0 dL_law_1492 kc_i0 ?_
      refine go_laload C dL_law_1493 hw (fun v206 hw => ?_)
      refine go_iload C dL_law_1494 0 rfl ?_
      refine go_i2l C dL_law_1496 ?_
      refine go_lcmp C dL_law_1497 ?_
      refine go_if_eq C 1503 dL_law_1498 (by decide) hw (fun hw => ?_) (fun hw => ?_)
      · refine go_sub [2, 3, 4, 5, 6, 7] rfl ?_
        exact hj1503  hw
      refine go_iconst C 0 dL_law_1501 kc_i0 ?_
      exact False.elim hw
    refine go_iconst C 0 dL_law_1484 kc_i0 ?_
    exact False.elim hw
  replace hw := hw.2 n19
  by_cases n20 : (v13 &&& 63) = (20 : Int32)
  · refine go_tswIn C 20 n20 (by decide) (by decide) dL_law_45 (off := 1461) (tgt := 1506) (by rfl) (by decide) ?_
    replace hw := hw.1 n20
    refine go_aload_n C dL_law_1506 1 rfl ?_
    refine go_aload_n C dL_law_1507 0 rfl ?_
    refine go_iload C dL_law_1508 5 rfl ?_
    refine go_iconst C 1 dL_law_1510 kc_i1 ?_
    refine go_iadd C dL_law_1511 ?_
    refine go_sld C S dL_law_1512 hw (fun v207 hw => ?_)
    refine go_aload_n C dL_law_1513 0 rfl ?_
    refine go_iload C dL_law_1514 5 rfl ?_
    refine go_iconst C 2 dL_law_1516 kc_i2 ?_
    refine go_iadd C dL_law_1517 ?_
    refine go_sld C S dL_law_1518 hw (fun v208 hw => ?_)
    refine go_aload_n C dL_law_1519 0 rfl ?_
    refine go_iload C dL_law_1520 5 rfl ?_
    refine go_iconst C 3 dL_law_1522 kc_i3 ?_
    refine go_iadd C dL_law_1523 ?_
    refine go_sld C S dL_law_1524 hw (fun v209 hw => ?_)
    refine go_aload_n C dL_law_1525 3 rfl ?_
    refine go_callSH_i C [rV (some a1), iV v207, iV v208, iV v209, rV (some a7)] vL_answerAt tw6_101 (m_L_answerAt (xl X) C.2.2.2.2.2.2.2.1 N hw) ⟨Nat.le_of_ble_eq_true rfl, Nat.le_of_ble_eq_true rfl, (by show c + 2 ≤ 603072; omega), (by show sl + 12 ≤ 7207018; omega)⟩ dL_law_1526 rfl (Nat.le_of_ble_eq_true rfl) rfl (fun v210 h211 hw => ?_)
    refine go_istore C [(6, iV v210), (0, rV (some b)), (1, rV (some a1)), (2, rV (some a4)), (3, rV (some a7)), (4, rV (some a9)), (5, iV x12)] dL_law_1529 (Nat.le_of_ble_eq_true rfl) rfl ?_
    refine go_aload_n C dL_law_1531 3 rfl ?_
    refine go_aload_n C dL_law_1532 1 rfl ?_
    refine go_iload C dL_law_1533 6 rfl ?_
    refine go_iconst C 1 dL_law_1535 kc_i1 ?_
    refine go_iadd C dL_law_1536 ?_
    refine go_sld C S dL_law_1537 hw (fun v212 hw => ?_)
    refine go_aload_n C dL_law_1538 1 rfl ?_
    refine go_iload C dL_law_1539 6 rfl ?_
    refine go_iconst C 2 dL_law_1541 kc_i2 ?_
    refine go_iadd C dL_law_1542 ?_
    refine go_sld C S dL_law_1543 hw (fun v213 hw => ?_)
    refine go_aload_n C dL_law_1544 1 rfl ?_
    refine go_iload C dL_law_1545 6 rfl ?_
    refine go_iconst C 3 dL_law_1547 kc_i3 ?_
    refine go_iadd C dL_law_1548 ?_
    refine go_sld C S dL_law_1549 hw (fun v214 hw => ?_)
    refine go_c0V_i C [iV v212, iV v213, iV v214] vX12_answerAt tw8_185 (ci := 12) rfl (m_X12_answerAt (xl X) C.2.2.2.2.2.2.2.1 N hw.2) ⟨Nat.le_of_ble_eq_true rfl, Nat.le_of_ble_eq_true rfl, (by show c + 2 + 0 ≤ 603072; omega), (by show sl + 12 + 0 ≤ 7207018; omega)⟩ ⟨rfl, rfl⟩ hw.1 dL_law_1550 rfl (Nat.le_of_ble_eq_true rfl) rfl (fun v215 h216 hw => ?_)
    refine go_istore C [(7, iV v215), (6, iV v210), (0, rV (some b)), (1, rV (some a1)), (2, rV (some a4)), (3, rV (some a7)), (4, rV (some a9)), (5, iV x12)] dL_law_1553 (Nat.le_of_ble_eq_true rfl) rfl ?_
    refine go_aload_n C dL_law_1555 4 rfl ?_
    refine go_pV_i C [] vX12_thrown tw8_12 (ci := 12) rfl (m_X12_thrown (xl X) C.2.2.2.2.2.2.2.1 N hw.2) ⟨Nat.le_of_ble_eq_true rfl, Nat.le_of_ble_eq_true rfl, (by show c + 2 + 0 ≤ 603072; omega), (by show sl + 12 + 0 ≤ 7207018; omega)⟩ ⟨rfl, rfl⟩ hw.1 dL_law_1556 rfl (Nat.le_of_ble_eq_true rfl) rfl (fun v217 hw => ?_)
    refine go_iload C dL_law_1559 1 rfl ?_
    refine go_icmp_eq C 1566 dL_law_1561 (by decide) hw (fun hw => ?_) (fun hw => ?_)
    · refine go_iload C dL_law_1566 1 rfl ?_
      refine jn_elim (P := fun j => j  → Go G X room_1 9 (c + rmL_answerAt.cells) (sl + rmL_answerAt.slots) (lw_Z below #[Value.ref b] s) h216 1583 [(0, rV (some b)), (1, rV (some a1)), (2, rV (some a4)), (3, rV (some a7)), (4, rV (some a9)), (5, iV x12)] []) hw (fun  hw => ?_) (fun j1583 hj1583 hw => ?_)
      · refine go_goto C 2663 dL_law_1583 (by decide) ?_
        refine go_iinc C (x12 + 6) [(5, iV (x12 + 6)), (0, rV (some b)), (1, rV (some a1)), (2, rV (some a4)), (3, rV (some a7)), (4, rV (some a9))] dL_law_2663 5 rfl (by rw [kc_i6]) (Nat.le_of_ble_eq_true rfl) rfl ?_
        refine go_goto C 28 dL_law_2666 (by decide) ?_
        refine go_sub [1, 2, 3, 4, 5, 0] rfl ?_
        exact hj28 _ _ hw (kk + 1) _ _ (by rw [exi]; exact nI6 kk) (by omega) (by show c + 2 ≤ _; omega) (by show sl + 12 ≤ _; omega)
      refine go_if_ne C 1583 dL_law_1568 (by decide) hw (fun hw => ?_) (fun hw => ?_)
      · refine go_sub [2, 3, 4, 5, 6, 7] rfl ?_
        exact hj1583  hw
      refine go_aload_n C dL_law_1571 5 rfl ?_
      refine go_iconst C 0 dL_law_1572 kc_i0 ?_
      refine go_laload C dL_law_1573 hw (fun v218 hw => ?_)
      refine go_iload C dL_law_1574 0 rfl ?_
      refine go_i2l C dL_law_1576 ?_
      refine go_lcmp C dL_law_1577 ?_
      refine go_if_eq C 1583 dL_law_1578 (by decide) hw (fun hw => ?_) (fun hw => ?_)
      · refine go_sub [2, 3, 4, 5, 6, 7] rfl ?_
        exact hj1583  hw
      refine go_iconst C 0 dL_law_1581 kc_i0 ?_
      exact False.elim hw
    refine go_iconst C 0 dL_law_1564 kc_i0 ?_
    exact False.elim hw
  replace hw := hw.2 n20
  by_cases n21 : (v13 &&& 63) = (21 : Int32)
  · refine go_tswIn C 21 n21 (by decide) (by decide) dL_law_45 (off := 1541) (tgt := 1586) (by rfl) (by decide) ?_
    replace hw := hw.1 n21
    refine go_aload_n C dL_law_1586 1 rfl ?_
    refine go_aload_n C dL_law_1587 0 rfl ?_
    refine go_iload C dL_law_1588 5 rfl ?_
    refine go_iconst C 1 dL_law_1590 kc_i1 ?_
    refine go_iadd C dL_law_1591 ?_
    refine go_sld C S dL_law_1592 hw (fun v219 hw => ?_)
    refine go_aload_n C dL_law_1593 0 rfl ?_
    refine go_iload C dL_law_1594 5 rfl ?_
    refine go_iconst C 2 dL_law_1596 kc_i2 ?_
    refine go_iadd C dL_law_1597 ?_
    refine go_sld C S dL_law_1598 hw (fun v220 hw => ?_)
    refine go_aload_n C dL_law_1599 0 rfl ?_
    refine go_iload C dL_law_1600 5 rfl ?_
    refine go_iconst C 3 dL_law_1602 kc_i3 ?_
    refine go_iadd C dL_law_1603 ?_
    refine go_sld C S dL_law_1604 hw (fun v221 hw => ?_)
    refine go_aload_n C dL_law_1605 3 rfl ?_
    refine go_callSH_i C [rV (some a1), iV v219, iV v220, iV v221, rV (some a7)] vL_sum tw6_118 (m_L_sum (xl X) C.2.2.2.2.2.2.2.1 N hw) ⟨Nat.le_of_ble_eq_true rfl, Nat.le_of_ble_eq_true rfl, (by show c + 2 ≤ 603072; omega), (by show sl + 12 ≤ 7207018; omega)⟩ dL_law_1606 rfl (Nat.le_of_ble_eq_true rfl) rfl (fun v222 h223 hw => ?_)
    refine go_istore C [(6, iV v222), (0, rV (some b)), (1, rV (some a1)), (2, rV (some a4)), (3, rV (some a7)), (4, rV (some a9)), (5, iV x12)] dL_law_1609 (Nat.le_of_ble_eq_true rfl) rfl ?_
    refine go_aload_n C dL_law_1611 3 rfl ?_
    refine go_aload_n C dL_law_1612 1 rfl ?_
    refine go_iload C dL_law_1613 6 rfl ?_
    refine go_iconst C 1 dL_law_1615 kc_i1 ?_
    refine go_iadd C dL_law_1616 ?_
    refine go_sld C S dL_law_1617 hw (fun v224 hw => ?_)
    refine go_aload_n C dL_law_1618 1 rfl ?_
    refine go_iload C dL_law_1619 6 rfl ?_
    refine go_iconst C 2 dL_law_1621 kc_i2 ?_
    refine go_iadd C dL_law_1622 ?_
    refine go_sld C S dL_law_1623 hw (fun v225 hw => ?_)
    refine go_aload_n C dL_law_1624 1 rfl ?_
    refine go_iload C dL_law_1625 6 rfl ?_
    refine go_iconst C 3 dL_law_1627 kc_i3 ?_
    refine go_iadd C dL_law_1628 ?_
    refine go_sld C S dL_law_1629 hw (fun v226 hw => ?_)
    refine go_c0V_l C [iV v224, iV v225, iV v226] vX12_sum tw8_189 (ci := 12) rfl (m_X12_sum (xl X) C.2.2.2.2.2.2.2.1 N hw.2) ⟨Nat.le_of_ble_eq_true rfl, Nat.le_of_ble_eq_true rfl, (by show c + 2 + 0 ≤ 603072; omega), (by show sl + 12 + 0 ≤ 7207018; omega)⟩ ⟨rfl, rfl⟩ hw.1 dL_law_1630 rfl (Nat.le_of_ble_eq_true rfl) rfl (fun v227 h228 hw => ?_)
    refine go_lstore C [(7, lV v227), (6, iV v222), (0, rV (some b)), (1, rV (some a1)), (2, rV (some a4)), (3, rV (some a7)), (4, rV (some a9)), (5, iV x12)] dL_law_1633 (Nat.le_of_ble_eq_true rfl) rfl ?_
    refine go_aload_n C dL_law_1635 4 rfl ?_
    refine go_pV_i C [] vX12_thrown tw8_12 (ci := 12) rfl (m_X12_thrown (xl X) C.2.2.2.2.2.2.2.1 N hw.2) ⟨Nat.le_of_ble_eq_true rfl, Nat.le_of_ble_eq_true rfl, (by show c + 2 + 0 ≤ 603072; omega), (by show sl + 12 + 0 ≤ 7207018; omega)⟩ ⟨rfl, rfl⟩ hw.1 dL_law_1636 rfl (Nat.le_of_ble_eq_true rfl) rfl (fun v229 hw => ?_)
    refine go_iload C dL_law_1639 1 rfl ?_
    refine go_icmp_eq C 1646 dL_law_1641 (by decide) hw (fun hw => ?_) (fun hw => ?_)
    · refine go_iload C dL_law_1646 1 rfl ?_
      refine jn_elim (P := fun j => j  → Go G X room_1 9 (c + rmL_sum.cells) (sl + rmL_sum.slots) (lw_Z below #[Value.ref b] s) h228 1662 [(0, rV (some b)), (1, rV (some a1)), (2, rV (some a4)), (3, rV (some a7)), (4, rV (some a9)), (5, iV x12)] []) hw (fun  hw => ?_) (fun j1662 hj1662 hw => ?_)
      · refine go_goto C 2663 dL_law_1662 (by decide) ?_
        refine go_iinc C (x12 + 6) [(5, iV (x12 + 6)), (0, rV (some b)), (1, rV (some a1)), (2, rV (some a4)), (3, rV (some a7)), (4, rV (some a9))] dL_law_2663 5 rfl (by rw [kc_i6]) (Nat.le_of_ble_eq_true rfl) rfl ?_
        refine go_goto C 28 dL_law_2666 (by decide) ?_
        refine go_sub [1, 2, 3, 4, 5, 0] rfl ?_
        exact hj28 _ _ hw (kk + 1) _ _ (by rw [exi]; exact nI6 kk) (by omega) (by show c + 2 ≤ _; omega) (by show sl + 12 ≤ _; omega)
      refine go_if_ne C 1662 dL_law_1648 (by decide) hw (fun hw => ?_) (fun hw => ?_)
      · refine go_sub [2, 3, 4, 5, 6, 7] rfl ?_
        exact hj1662  hw
      refine go_aload_n C dL_law_1651 5 rfl ?_
      refine go_iconst C 0 dL_law_1652 kc_i0 ?_
      refine go_laload C dL_law_1653 hw (fun v230 hw => ?_)
      refine go_lload C dL_law_1654 0 rfl ?_
      refine go_lcmp C dL_law_1656 ?_
      refine go_if_eq C 1662 dL_law_1657 (by decide) hw (fun hw => ?_) (fun hw => ?_)
      · refine go_sub [2, 3, 4, 5, 6, 7] rfl ?_
        exact hj1662  hw
      refine go_iconst C 0 dL_law_1660 kc_i0 ?_
      exact False.elim hw
    refine go_iconst C 0 dL_law_1644 kc_i0 ?_
    exact False.elim hw
  replace hw := hw.2 n21
  by_cases n22 : (v13 &&& 63) = (22 : Int32)
  · refine go_tswIn C 22 n22 (by decide) (by decide) dL_law_45 (off := 1620) (tgt := 1665) (by rfl) (by decide) ?_
    replace hw := hw.1 n22
    refine go_aload_n C dL_law_1665 1 rfl ?_
    refine go_aload_n C dL_law_1666 0 rfl ?_
    refine go_iload C dL_law_1667 5 rfl ?_
    refine go_iconst C 1 dL_law_1669 kc_i1 ?_
    refine go_iadd C dL_law_1670 ?_
    refine go_sld C S dL_law_1671 hw (fun v231 hw => ?_)
    refine go_aload_n C dL_law_1672 0 rfl ?_
    refine go_iload C dL_law_1673 5 rfl ?_
    refine go_iconst C 2 dL_law_1675 kc_i2 ?_
    refine go_iadd C dL_law_1676 ?_
    refine go_sld C S dL_law_1677 hw (fun v232 hw => ?_)
    refine go_aload_n C dL_law_1678 0 rfl ?_
    refine go_iload C dL_law_1679 5 rfl ?_
    refine go_iconst C 3 dL_law_1681 kc_i3 ?_
    refine go_iadd C dL_law_1682 ?_
    refine go_sld C S dL_law_1683 hw (fun v233 hw => ?_)
    refine go_aload_n C dL_law_1684 3 rfl ?_
    refine go_callSH_i C [rV (some a1), iV v231, iV v232, iV v233, rV (some a7)] vL_planned tw6_130 (m_L_planned (xl X) C.2.2.2.2.2.2.2.1 N hw) ⟨Nat.le_of_ble_eq_true rfl, Nat.le_of_ble_eq_true rfl, (by show c + 3 ≤ 603072; omega), (by show sl + 18 ≤ 7207018; omega)⟩ dL_law_1685 rfl (Nat.le_of_ble_eq_true rfl) rfl (fun v234 h235 hw => ?_)
    refine go_istore C [(6, iV v234), (0, rV (some b)), (1, rV (some a1)), (2, rV (some a4)), (3, rV (some a7)), (4, rV (some a9)), (5, iV x12)] dL_law_1688 (Nat.le_of_ble_eq_true rfl) rfl ?_
    refine go_aload_n C dL_law_1690 3 rfl ?_
    refine go_aload_n C dL_law_1691 1 rfl ?_
    refine go_iload C dL_law_1692 6 rfl ?_
    refine go_iconst C 1 dL_law_1694 kc_i1 ?_
    refine go_iadd C dL_law_1695 ?_
    refine go_sld C S dL_law_1696 hw (fun v236 hw => ?_)
    refine go_aload_n C dL_law_1697 1 rfl ?_
    refine go_iload C dL_law_1698 6 rfl ?_
    refine go_iconst C 2 dL_law_1700 kc_i2 ?_
    refine go_iadd C dL_law_1701 ?_
    refine go_sld C S dL_law_1702 hw (fun v237 hw => ?_)
    refine go_aload_n C dL_law_1703 1 rfl ?_
    refine go_iload C dL_law_1704 6 rfl ?_
    refine go_iconst C 3 dL_law_1706 kc_i3 ?_
    refine go_iadd C dL_law_1707 ?_
    refine go_sld C S dL_law_1708 hw (fun v238 hw => ?_)
    refine go_c0V_i C [iV v236, iV v237, iV v238] vX12_planned tw8_194 (ci := 12) rfl (m_X12_planned (xl X) C.2.2.2.2.2.2.2.1 N hw.2) ⟨Nat.le_of_ble_eq_true rfl, Nat.le_of_ble_eq_true rfl, (by show c + 3 + 0 ≤ 603072; omega), (by show sl + 18 + 0 ≤ 7207018; omega)⟩ ⟨rfl, rfl⟩ hw.1 dL_law_1709 rfl (Nat.le_of_ble_eq_true rfl) rfl (fun v239 h240 hw => ?_)
    refine go_istore C [(7, iV v239), (6, iV v234), (0, rV (some b)), (1, rV (some a1)), (2, rV (some a4)), (3, rV (some a7)), (4, rV (some a9)), (5, iV x12)] dL_law_1712 (Nat.le_of_ble_eq_true rfl) rfl ?_
    refine go_aload_n C dL_law_1714 4 rfl ?_
    refine go_pV_i C [] vX12_thrown tw8_12 (ci := 12) rfl (m_X12_thrown (xl X) C.2.2.2.2.2.2.2.1 N hw.2) ⟨Nat.le_of_ble_eq_true rfl, Nat.le_of_ble_eq_true rfl, (by show c + 3 + 0 ≤ 603072; omega), (by show sl + 18 + 0 ≤ 7207018; omega)⟩ ⟨rfl, rfl⟩ hw.1 dL_law_1715 rfl (Nat.le_of_ble_eq_true rfl) rfl (fun v241 hw => ?_)
    refine go_iload C dL_law_1718 1 rfl ?_
    refine go_icmp_eq C 1725 dL_law_1720 (by decide) hw (fun hw => ?_) (fun hw => ?_)
    · refine go_iload C dL_law_1725 1 rfl ?_
      refine jn_elim (P := fun j => j  → Go G X room_1 9 (c + rmL_planned.cells) (sl + rmL_planned.slots) (lw_Z below #[Value.ref b] s) h240 1742 [(0, rV (some b)), (1, rV (some a1)), (2, rV (some a4)), (3, rV (some a7)), (4, rV (some a9)), (5, iV x12)] []) hw (fun  hw => ?_) (fun j1742 hj1742 hw => ?_)
      · refine go_goto C 2663 dL_law_1742 (by decide) ?_
        refine go_iinc C (x12 + 6) [(5, iV (x12 + 6)), (0, rV (some b)), (1, rV (some a1)), (2, rV (some a4)), (3, rV (some a7)), (4, rV (some a9))] dL_law_2663 5 rfl (by rw [kc_i6]) (Nat.le_of_ble_eq_true rfl) rfl ?_
        refine go_goto C 28 dL_law_2666 (by decide) ?_
        refine go_sub [1, 2, 3, 4, 5, 0] rfl ?_
        exact hj28 _ _ hw (kk + 1) _ _ (by rw [exi]; exact nI6 kk) (by omega) (by show c + 3 ≤ _; omega) (by show sl + 18 ≤ _; omega)
      refine go_if_ne C 1742 dL_law_1727 (by decide) hw (fun hw => ?_) (fun hw => ?_)
      · refine go_sub [2, 3, 4, 5, 6, 7] rfl ?_
        exact hj1742  hw
      refine go_aload_n C dL_law_1730 5 rfl ?_
      refine go_iconst C 0 dL_law_1731 kc_i0 ?_
      refine go_laload C dL_law_1732 hw (fun v242 hw => ?_)
      refine go_iload C dL_law_1733 0 rfl ?_
      refine go_i2l C dL_law_1735 ?_
      refine go_lcmp C dL_law_1736 ?_
      refine go_if_eq C 1742 dL_law_1737 (by decide) hw (fun hw => ?_) (fun hw => ?_)
      · refine go_sub [2, 3, 4, 5, 6, 7] rfl ?_
        exact hj1742  hw
      refine go_iconst C 0 dL_law_1740 kc_i0 ?_
      exact False.elim hw
    refine go_iconst C 0 dL_law_1723 kc_i0 ?_
    exact False.elim hw
  replace hw := hw.2 n22
  by_cases n23 : (v13 &&& 63) = (23 : Int32)
  · refine go_tswIn C 23 n23 (by decide) (by decide) dL_law_45 (off := 1700) (tgt := 1745) (by rfl) (by decide) ?_
    replace hw := hw.1 n23
    refine go_aload_n C dL_law_1745 1 rfl ?_
    refine go_aload_n C dL_law_1746 0 rfl ?_
    refine go_iload C dL_law_1747 5 rfl ?_
    refine go_iconst C 1 dL_law_1749 kc_i1 ?_
    refine go_iadd C dL_law_1750 ?_
    refine go_sld C S dL_law_1751 hw (fun v243 hw => ?_)
    refine go_aload_n C dL_law_1752 0 rfl ?_
    refine go_iload C dL_law_1753 5 rfl ?_
    refine go_iconst C 2 dL_law_1755 kc_i2 ?_
    refine go_iadd C dL_law_1756 ?_
    refine go_sld C S dL_law_1757 hw (fun v244 hw => ?_)
    refine go_aload_n C dL_law_1758 0 rfl ?_
    refine go_iload C dL_law_1759 5 rfl ?_
    refine go_iconst C 3 dL_law_1761 kc_i3 ?_
    refine go_iadd C dL_law_1762 ?_
    refine go_sld C S dL_law_1763 hw (fun v245 hw => ?_)
    refine go_aload_n C dL_law_1764 3 rfl ?_
    refine go_callSH_i C [rV (some a1), iV v243, iV v244, iV v245, rV (some a7)] vL_way tw6_146 (m_L_way (xl X) C.2.2.2.2.2.2.2.1 N hw) ⟨Nat.le_of_ble_eq_true rfl, Nat.le_of_ble_eq_true rfl, (by show c + 3 ≤ 603072; omega), (by show sl + 18 ≤ 7207018; omega)⟩ dL_law_1765 rfl (Nat.le_of_ble_eq_true rfl) rfl (fun v246 h247 hw => ?_)
    refine go_istore C [(6, iV v246), (0, rV (some b)), (1, rV (some a1)), (2, rV (some a4)), (3, rV (some a7)), (4, rV (some a9)), (5, iV x12)] dL_law_1768 (Nat.le_of_ble_eq_true rfl) rfl ?_
    refine go_aload_n C dL_law_1770 3 rfl ?_
    refine go_aload_n C dL_law_1771 1 rfl ?_
    refine go_iload C dL_law_1772 6 rfl ?_
    refine go_iconst C 1 dL_law_1774 kc_i1 ?_
    refine go_iadd C dL_law_1775 ?_
    refine go_sld C S dL_law_1776 hw (fun v248 hw => ?_)
    refine go_aload_n C dL_law_1777 1 rfl ?_
    refine go_iload C dL_law_1778 6 rfl ?_
    refine go_iconst C 2 dL_law_1780 kc_i2 ?_
    refine go_iadd C dL_law_1781 ?_
    refine go_sld C S dL_law_1782 hw (fun v249 hw => ?_)
    refine go_aload_n C dL_law_1783 1 rfl ?_
    refine go_iload C dL_law_1784 6 rfl ?_
    refine go_iconst C 3 dL_law_1786 kc_i3 ?_
    refine go_iadd C dL_law_1787 ?_
    refine go_sld C S dL_law_1788 hw (fun v250 hw => ?_)
    refine go_c0V_i C [iV v248, iV v249, iV v250] vX12_way tw9_30 (ci := 12) rfl (m_X12_way (xl X) C.2.2.2.2.2.2.2.1 N hw.2) ⟨Nat.le_of_ble_eq_true rfl, Nat.le_of_ble_eq_true rfl, (by show c + 3 + 0 ≤ 603072; omega), (by show sl + 18 + 0 ≤ 7207018; omega)⟩ ⟨rfl, rfl⟩ hw.1 dL_law_1789 rfl (Nat.le_of_ble_eq_true rfl) rfl (fun v251 h252 hw => ?_)
    refine go_istore C [(7, iV v251), (6, iV v246), (0, rV (some b)), (1, rV (some a1)), (2, rV (some a4)), (3, rV (some a7)), (4, rV (some a9)), (5, iV x12)] dL_law_1792 (Nat.le_of_ble_eq_true rfl) rfl ?_
    refine go_aload_n C dL_law_1794 4 rfl ?_
    refine go_pV_i C [] vX12_thrown tw8_12 (ci := 12) rfl (m_X12_thrown (xl X) C.2.2.2.2.2.2.2.1 N hw.2) ⟨Nat.le_of_ble_eq_true rfl, Nat.le_of_ble_eq_true rfl, (by show c + 3 + 0 ≤ 603072; omega), (by show sl + 18 + 0 ≤ 7207018; omega)⟩ ⟨rfl, rfl⟩ hw.1 dL_law_1795 rfl (Nat.le_of_ble_eq_true rfl) rfl (fun v253 hw => ?_)
    refine go_iload C dL_law_1798 1 rfl ?_
    refine go_icmp_eq C 1805 dL_law_1800 (by decide) hw (fun hw => ?_) (fun hw => ?_)
    · refine go_iload C dL_law_1805 1 rfl ?_
      refine jn_elim (P := fun j => j  → Go G X room_1 9 (c + rmL_way.cells) (sl + rmL_way.slots) (lw_Z below #[Value.ref b] s) h252 1822 [(0, rV (some b)), (1, rV (some a1)), (2, rV (some a4)), (3, rV (some a7)), (4, rV (some a9)), (5, iV x12)] []) hw (fun  hw => ?_) (fun j1822 hj1822 hw => ?_)
      · refine go_goto C 2663 dL_law_1822 (by decide) ?_
        refine go_iinc C (x12 + 6) [(5, iV (x12 + 6)), (0, rV (some b)), (1, rV (some a1)), (2, rV (some a4)), (3, rV (some a7)), (4, rV (some a9))] dL_law_2663 5 rfl (by rw [kc_i6]) (Nat.le_of_ble_eq_true rfl) rfl ?_
        refine go_goto C 28 dL_law_2666 (by decide) ?_
        refine go_sub [1, 2, 3, 4, 5, 0] rfl ?_
        exact hj28 _ _ hw (kk + 1) _ _ (by rw [exi]; exact nI6 kk) (by omega) (by show c + 3 ≤ _; omega) (by show sl + 18 ≤ _; omega)
      refine go_if_ne C 1822 dL_law_1807 (by decide) hw (fun hw => ?_) (fun hw => ?_)
      · refine go_sub [2, 3, 4, 5, 6, 7] rfl ?_
        exact hj1822  hw
      refine go_aload_n C dL_law_1810 5 rfl ?_
      refine go_iconst C 0 dL_law_1811 kc_i0 ?_
      refine go_laload C dL_law_1812 hw (fun v254 hw => ?_)
      refine go_iload C dL_law_1813 0 rfl ?_
      refine go_i2l C dL_law_1815 ?_
      refine go_lcmp C dL_law_1816 ?_
      refine go_if_eq C 1822 dL_law_1817 (by decide) hw (fun hw => ?_) (fun hw => ?_)
      · refine go_sub [2, 3, 4, 5, 6, 7] rfl ?_
        exact hj1822  hw
      refine go_iconst C 0 dL_law_1820 kc_i0 ?_
      exact False.elim hw
    refine go_iconst C 0 dL_law_1803 kc_i0 ?_
    exact False.elim hw
  replace hw := hw.2 n23
  by_cases n24 : (v13 &&& 63) = (24 : Int32)
  · refine go_tswIn C 24 n24 (by decide) (by decide) dL_law_45 (off := 1780) (tgt := 1825) (by rfl) (by decide) ?_
    replace hw := hw.1 n24
    refine go_aload_n C dL_law_1825 1 rfl ?_
    refine go_aload_n C dL_law_1826 0 rfl ?_
    refine go_iload C dL_law_1827 5 rfl ?_
    refine go_iconst C 1 dL_law_1829 kc_i1 ?_
    refine go_iadd C dL_law_1830 ?_
    refine go_sld C S dL_law_1831 hw (fun v255 hw => ?_)
    refine go_aload_n C dL_law_1832 0 rfl ?_
    refine go_iload C dL_law_1833 5 rfl ?_
    refine go_iconst C 2 dL_law_1835 kc_i2 ?_
    refine go_iadd C dL_law_1836 ?_
    refine go_sld C S dL_law_1837 hw (fun v256 hw => ?_)
    refine go_aload_n C dL_law_1838 0 rfl ?_
    refine go_iload C dL_law_1839 5 rfl ?_
    refine go_iconst C 3 dL_law_1841 kc_i3 ?_
    refine go_iadd C dL_law_1842 ?_
    refine go_sld C S dL_law_1843 hw (fun v257 hw => ?_)
    refine go_aload_n C dL_law_1844 3 rfl ?_
    refine go_callSH_i C [rV (some a1), iV v255, iV v256, iV v257, rV (some a7)] vL_usedIndex tw6_154 (m_L_usedIndex (xl X) C.2.2.2.2.2.2.2.1 N hw) ⟨Nat.le_of_ble_eq_true rfl, Nat.le_of_ble_eq_true rfl, (by show c + 3 ≤ 603072; omega), (by show sl + 18 ≤ 7207018; omega)⟩ dL_law_1845 rfl (Nat.le_of_ble_eq_true rfl) rfl (fun v258 h259 hw => ?_)
    refine go_istore C [(6, iV v258), (0, rV (some b)), (1, rV (some a1)), (2, rV (some a4)), (3, rV (some a7)), (4, rV (some a9)), (5, iV x12)] dL_law_1848 (Nat.le_of_ble_eq_true rfl) rfl ?_
    refine go_aload_n C dL_law_1850 3 rfl ?_
    refine go_aload_n C dL_law_1851 1 rfl ?_
    refine go_iload C dL_law_1852 6 rfl ?_
    refine go_iconst C 1 dL_law_1854 kc_i1 ?_
    refine go_iadd C dL_law_1855 ?_
    refine go_sld C S dL_law_1856 hw (fun v260 hw => ?_)
    refine go_aload_n C dL_law_1857 1 rfl ?_
    refine go_iload C dL_law_1858 6 rfl ?_
    refine go_iconst C 2 dL_law_1860 kc_i2 ?_
    refine go_iadd C dL_law_1861 ?_
    refine go_sld C S dL_law_1862 hw (fun v261 hw => ?_)
    refine go_aload_n C dL_law_1863 1 rfl ?_
    refine go_iload C dL_law_1864 6 rfl ?_
    refine go_iconst C 3 dL_law_1866 kc_i3 ?_
    refine go_iadd C dL_law_1867 ?_
    refine go_sld C S dL_law_1868 hw (fun v262 hw => ?_)
    refine go_c0V_i C [iV v260, iV v261, iV v262] vX12_usedIndex tw9_34 (ci := 12) rfl (m_X12_usedIndex (xl X) C.2.2.2.2.2.2.2.1 N hw.2) ⟨Nat.le_of_ble_eq_true rfl, Nat.le_of_ble_eq_true rfl, (by show c + 3 + 0 ≤ 603072; omega), (by show sl + 18 + 0 ≤ 7207018; omega)⟩ ⟨rfl, rfl⟩ hw.1 dL_law_1869 rfl (Nat.le_of_ble_eq_true rfl) rfl (fun v263 h264 hw => ?_)
    refine go_istore C [(7, iV v263), (6, iV v258), (0, rV (some b)), (1, rV (some a1)), (2, rV (some a4)), (3, rV (some a7)), (4, rV (some a9)), (5, iV x12)] dL_law_1872 (Nat.le_of_ble_eq_true rfl) rfl ?_
    refine go_aload_n C dL_law_1874 4 rfl ?_
    refine go_pV_i C [] vX12_thrown tw8_12 (ci := 12) rfl (m_X12_thrown (xl X) C.2.2.2.2.2.2.2.1 N hw.2) ⟨Nat.le_of_ble_eq_true rfl, Nat.le_of_ble_eq_true rfl, (by show c + 3 + 0 ≤ 603072; omega), (by show sl + 18 + 0 ≤ 7207018; omega)⟩ ⟨rfl, rfl⟩ hw.1 dL_law_1875 rfl (Nat.le_of_ble_eq_true rfl) rfl (fun v265 hw => ?_)
    refine go_iload C dL_law_1878 1 rfl ?_
    refine go_icmp_eq C 1885 dL_law_1880 (by decide) hw (fun hw => ?_) (fun hw => ?_)
    · refine go_iload C dL_law_1885 1 rfl ?_
      refine jn_elim (P := fun j => j  → Go G X room_1 9 (c + rmL_usedIndex.cells) (sl + rmL_usedIndex.slots) (lw_Z below #[Value.ref b] s) h264 1902 [(0, rV (some b)), (1, rV (some a1)), (2, rV (some a4)), (3, rV (some a7)), (4, rV (some a9)), (5, iV x12)] []) hw (fun  hw => ?_) (fun j1902 hj1902 hw => ?_)
      · refine go_goto C 2663 dL_law_1902 (by decide) ?_
        refine go_iinc C (x12 + 6) [(5, iV (x12 + 6)), (0, rV (some b)), (1, rV (some a1)), (2, rV (some a4)), (3, rV (some a7)), (4, rV (some a9))] dL_law_2663 5 rfl (by rw [kc_i6]) (Nat.le_of_ble_eq_true rfl) rfl ?_
        refine go_goto C 28 dL_law_2666 (by decide) ?_
        refine go_sub [1, 2, 3, 4, 5, 0] rfl ?_
        exact hj28 _ _ hw (kk + 1) _ _ (by rw [exi]; exact nI6 kk) (by omega) (by show c + 3 ≤ _; omega) (by show sl + 18 ≤ _; omega)
      refine go_if_ne C 1902 dL_law_1887 (by decide) hw (fun hw => ?_) (fun hw => ?_)
      · refine go_sub [2, 3, 4, 5, 6, 7] rfl ?_
        exact hj1902  hw
      refine go_aload_n C dL_law_1890 5 rfl ?_
      refine go_iconst C 0 dL_law_1891 kc_i0 ?_
      refine go_laload C dL_law_1892 hw (fun v266 hw => ?_)
      refine go_iload C dL_law_1893 0 rfl ?_
      refine go_i2l C dL_law_1895 ?_
      refine go_lcmp C dL_law_1896 ?_
      refine go_if_eq C 1902 dL_law_1897 (by decide) hw (fun hw => ?_) (fun hw => ?_)
      · refine go_sub [2, 3, 4, 5, 6, 7] rfl ?_
        exact hj1902  hw
      refine go_iconst C 0 dL_law_1900 kc_i0 ?_
      exact False.elim hw
    refine go_iconst C 0 dL_law_1883 kc_i0 ?_
    exact False.elim hw
  replace hw := hw.2 n24
  by_cases n25 : (v13 &&& 63) = (25 : Int32)
  · refine go_tswIn C 25 n25 (by decide) (by decide) dL_law_45 (off := 1860) (tgt := 1905) (by rfl) (by decide) ?_
    replace hw := hw.1 n25
    refine go_aload_n C dL_law_1905 1 rfl ?_
    refine go_aload_n C dL_law_1906 0 rfl ?_
    refine go_iload C dL_law_1907 5 rfl ?_
    refine go_iconst C 1 dL_law_1909 kc_i1 ?_
    refine go_iadd C dL_law_1910 ?_
    refine go_sld C S dL_law_1911 hw (fun v267 hw => ?_)
    refine go_aload_n C dL_law_1912 0 rfl ?_
    refine go_iload C dL_law_1913 5 rfl ?_
    refine go_iconst C 2 dL_law_1915 kc_i2 ?_
    refine go_iadd C dL_law_1916 ?_
    refine go_sld C S dL_law_1917 hw (fun v268 hw => ?_)
    refine go_aload_n C dL_law_1918 3 rfl ?_
    refine go_callSH_i C [rV (some a1), iV v267, iV v268, rV (some a7)] vL_estimate tw6_162 (m_L_estimate (xl X) C.2.2.2.2.2.2.2.1 N hw) ⟨Nat.le_of_ble_eq_true rfl, Nat.le_of_ble_eq_true rfl, (by show c + 3 ≤ 603072; omega), (by show sl + 18 ≤ 7207018; omega)⟩ dL_law_1919 rfl (Nat.le_of_ble_eq_true rfl) rfl (fun v269 h270 hw => ?_)
    refine go_istore C [(6, iV v269), (0, rV (some b)), (1, rV (some a1)), (2, rV (some a4)), (3, rV (some a7)), (4, rV (some a9)), (5, iV x12)] dL_law_1922 (Nat.le_of_ble_eq_true rfl) rfl ?_
    refine go_aload_n C dL_law_1924 3 rfl ?_
    refine go_aload_n C dL_law_1925 1 rfl ?_
    refine go_iload C dL_law_1926 6 rfl ?_
    refine go_iconst C 1 dL_law_1928 kc_i1 ?_
    refine go_iadd C dL_law_1929 ?_
    refine go_sld C S dL_law_1930 hw (fun v271 hw => ?_)
    refine go_aload_n C dL_law_1931 1 rfl ?_
    refine go_iload C dL_law_1932 6 rfl ?_
    refine go_iconst C 2 dL_law_1934 kc_i2 ?_
    refine go_iadd C dL_law_1935 ?_
    refine go_sld C S dL_law_1936 hw (fun v272 hw => ?_)
    refine go_c0V_l C [iV v271, iV v272] vX12_estimate tw9_38 (ci := 12) rfl (m_X12_estimate (xl X) C.2.2.2.2.2.2.2.1 N hw.2) ⟨Nat.le_of_ble_eq_true rfl, Nat.le_of_ble_eq_true rfl, (by show c + 3 + 0 ≤ 603072; omega), (by show sl + 18 + 0 ≤ 7207018; omega)⟩ ⟨rfl, rfl⟩ hw.1 dL_law_1937 rfl (Nat.le_of_ble_eq_true rfl) rfl (fun v273 h274 hw => ?_)
    refine go_lstore C [(7, lV v273), (6, iV v269), (0, rV (some b)), (1, rV (some a1)), (2, rV (some a4)), (3, rV (some a7)), (4, rV (some a9)), (5, iV x12)] dL_law_1940 (Nat.le_of_ble_eq_true rfl) rfl ?_
    refine go_aload_n C dL_law_1942 4 rfl ?_
    refine go_pV_i C [] vX12_thrown tw8_12 (ci := 12) rfl (m_X12_thrown (xl X) C.2.2.2.2.2.2.2.1 N hw.2) ⟨Nat.le_of_ble_eq_true rfl, Nat.le_of_ble_eq_true rfl, (by show c + 3 + 0 ≤ 603072; omega), (by show sl + 18 + 0 ≤ 7207018; omega)⟩ ⟨rfl, rfl⟩ hw.1 dL_law_1943 rfl (Nat.le_of_ble_eq_true rfl) rfl (fun v275 hw => ?_)
    refine go_iload C dL_law_1946 1 rfl ?_
    refine go_icmp_eq C 1953 dL_law_1948 (by decide) hw (fun hw => ?_) (fun hw => ?_)
    · refine go_iload C dL_law_1953 1 rfl ?_
      refine jn_elim (P := fun j => j  → Go G X room_1 9 (c + rmL_estimate.cells) (sl + rmL_estimate.slots) (lw_Z below #[Value.ref b] s) h274 1969 [(0, rV (some b)), (1, rV (some a1)), (2, rV (some a4)), (3, rV (some a7)), (4, rV (some a9)), (5, iV x12)] []) hw (fun  hw => ?_) (fun j1969 hj1969 hw => ?_)
      · refine go_goto C 2663 dL_law_1969 (by decide) ?_
        refine go_iinc C (x12 + 6) [(5, iV (x12 + 6)), (0, rV (some b)), (1, rV (some a1)), (2, rV (some a4)), (3, rV (some a7)), (4, rV (some a9))] dL_law_2663 5 rfl (by rw [kc_i6]) (Nat.le_of_ble_eq_true rfl) rfl ?_
        refine go_goto C 28 dL_law_2666 (by decide) ?_
        refine go_sub [1, 2, 3, 4, 5, 0] rfl ?_
        exact hj28 _ _ hw (kk + 1) _ _ (by rw [exi]; exact nI6 kk) (by omega) (by show c + 3 ≤ _; omega) (by show sl + 18 ≤ _; omega)
      refine go_if_ne C 1969 dL_law_1955 (by decide) hw (fun hw => ?_) (fun hw => ?_)
      · refine go_sub [2, 3, 4, 5, 6, 7] rfl ?_
        exact hj1969  hw
      refine go_aload_n C dL_law_1958 5 rfl ?_
      refine go_iconst C 0 dL_law_1959 kc_i0 ?_
      refine go_laload C dL_law_1960 hw (fun v276 hw => ?_)
      refine go_lload C dL_law_1961 0 rfl ?_
      refine go_lcmp C dL_law_1963 ?_
      refine go_if_eq C 1969 dL_law_1964 (by decide) hw (fun hw => ?_) (fun hw => ?_)
      · refine go_sub [2, 3, 4, 5, 6, 7] rfl ?_
        exact hj1969  hw
      refine go_iconst C 0 dL_law_1967 kc_i0 ?_
      exact False.elim hw
    refine go_iconst C 0 dL_law_1951 kc_i0 ?_
    exact False.elim hw
  replace hw := hw.2 n25
  by_cases n26 : (v13 &&& 63) = (26 : Int32)
  · refine go_tswIn C 26 n26 (by decide) (by decide) dL_law_45 (off := 1927) (tgt := 1972) (by rfl) (by decide) ?_
    replace hw := hw.1 n26
    refine go_aload_n C dL_law_1972 1 rfl ?_
    refine go_aload_n C dL_law_1973 0 rfl ?_
    refine go_iload C dL_law_1974 5 rfl ?_
    refine go_iconst C 1 dL_law_1976 kc_i1 ?_
    refine go_iadd C dL_law_1977 ?_
    refine go_sld C S dL_law_1978 hw (fun v277 hw => ?_)
    refine go_aload_n C dL_law_1979 0 rfl ?_
    refine go_iload C dL_law_1980 5 rfl ?_
    refine go_iconst C 2 dL_law_1982 kc_i2 ?_
    refine go_iadd C dL_law_1983 ?_
    refine go_sld C S dL_law_1984 hw (fun v278 hw => ?_)
    refine go_aload_n C dL_law_1985 3 rfl ?_
    refine go_callSH_i C [rV (some a1), iV v277, iV v278, rV (some a7)] vL_cold tw6_170 (m_L_cold (xl X) C.2.2.2.2.2.2.2.1 N hw) ⟨Nat.le_of_ble_eq_true rfl, Nat.le_of_ble_eq_true rfl, (by show c + 3 ≤ 603072; omega), (by show sl + 18 ≤ 7207018; omega)⟩ dL_law_1986 rfl (Nat.le_of_ble_eq_true rfl) rfl (fun v279 h280 hw => ?_)
    refine go_istore C [(6, iV v279), (0, rV (some b)), (1, rV (some a1)), (2, rV (some a4)), (3, rV (some a7)), (4, rV (some a9)), (5, iV x12)] dL_law_1989 (Nat.le_of_ble_eq_true rfl) rfl ?_
    refine go_aload_n C dL_law_1991 3 rfl ?_
    refine go_aload_n C dL_law_1992 1 rfl ?_
    refine go_iload C dL_law_1993 6 rfl ?_
    refine go_iconst C 1 dL_law_1995 kc_i1 ?_
    refine go_iadd C dL_law_1996 ?_
    refine go_sld C S dL_law_1997 hw (fun v281 hw => ?_)
    refine go_aload_n C dL_law_1998 1 rfl ?_
    refine go_iload C dL_law_1999 6 rfl ?_
    refine go_iconst C 2 dL_law_2001 kc_i2 ?_
    refine go_iadd C dL_law_2002 ?_
    refine go_sld C S dL_law_2003 hw (fun v282 hw => ?_)
    refine go_c0V_i C [iV v281, iV v282] vX12_cold tw9_46 (ci := 12) rfl (m_X12_cold (xl X) C.2.2.2.2.2.2.2.1 N hw.2) ⟨Nat.le_of_ble_eq_true rfl, Nat.le_of_ble_eq_true rfl, (by show c + 3 + 0 ≤ 603072; omega), (by show sl + 18 + 0 ≤ 7207018; omega)⟩ ⟨rfl, rfl⟩ hw.1 dL_law_2004 rfl (Nat.le_of_ble_eq_true rfl) rfl (fun v283 h284 hw => ?_)
    refine go_istore C [(7, iV v283), (6, iV v279), (0, rV (some b)), (1, rV (some a1)), (2, rV (some a4)), (3, rV (some a7)), (4, rV (some a9)), (5, iV x12)] dL_law_2007 (Nat.le_of_ble_eq_true rfl) rfl ?_
    refine go_aload_n C dL_law_2009 4 rfl ?_
    refine go_pV_i C [] vX12_thrown tw8_12 (ci := 12) rfl (m_X12_thrown (xl X) C.2.2.2.2.2.2.2.1 N hw.2) ⟨Nat.le_of_ble_eq_true rfl, Nat.le_of_ble_eq_true rfl, (by show c + 3 + 0 ≤ 603072; omega), (by show sl + 18 + 0 ≤ 7207018; omega)⟩ ⟨rfl, rfl⟩ hw.1 dL_law_2010 rfl (Nat.le_of_ble_eq_true rfl) rfl (fun v285 hw => ?_)
    refine go_iload C dL_law_2013 1 rfl ?_
    refine go_icmp_eq C 2020 dL_law_2015 (by decide) hw (fun hw => ?_) (fun hw => ?_)
    · refine go_iload C dL_law_2020 1 rfl ?_
      refine jn_elim (P := fun j => j  → Go G X room_1 9 (c + rmL_cold.cells) (sl + rmL_cold.slots) (lw_Z below #[Value.ref b] s) h284 2037 [(0, rV (some b)), (1, rV (some a1)), (2, rV (some a4)), (3, rV (some a7)), (4, rV (some a9)), (5, iV x12)] []) hw (fun  hw => ?_) (fun j2037 hj2037 hw => ?_)
      · refine go_goto C 2663 dL_law_2037 (by decide) ?_
        refine go_iinc C (x12 + 6) [(5, iV (x12 + 6)), (0, rV (some b)), (1, rV (some a1)), (2, rV (some a4)), (3, rV (some a7)), (4, rV (some a9))] dL_law_2663 5 rfl (by rw [kc_i6]) (Nat.le_of_ble_eq_true rfl) rfl ?_
        refine go_goto C 28 dL_law_2666 (by decide) ?_
        refine go_sub [1, 2, 3, 4, 5, 0] rfl ?_
        exact hj28 _ _ hw (kk + 1) _ _ (by rw [exi]; exact nI6 kk) (by omega) (by show c + 3 ≤ _; omega) (by show sl + 18 ≤ _; omega)
      refine go_if_ne C 2037 dL_law_2022 (by decide) hw (fun hw => ?_) (fun hw => ?_)
      · refine go_sub [2, 3, 4, 5, 6, 7] rfl ?_
        exact hj2037  hw
      refine go_aload_n C dL_law_2025 5 rfl ?_
      refine go_iconst C 0 dL_law_2026 kc_i0 ?_
      refine go_laload C dL_law_2027 hw (fun v286 hw => ?_)
      refine go_iload C dL_law_2028 0 rfl ?_
      refine go_i2l C dL_law_2030 ?_
      refine go_lcmp C dL_law_2031 ?_
      refine go_if_eq C 2037 dL_law_2032 (by decide) hw (fun hw => ?_) (fun hw => ?_)
      · refine go_sub [2, 3, 4, 5, 6, 7] rfl ?_
        exact hj2037  hw
      refine go_iconst C 0 dL_law_2035 kc_i0 ?_
      exact False.elim hw
    refine go_iconst C 0 dL_law_2018 kc_i0 ?_
    exact False.elim hw
  replace hw := hw.2 n26
  by_cases n27 : (v13 &&& 63) = (27 : Int32)
  · refine go_tswIn C 27 n27 (by decide) (by decide) dL_law_45 (off := 1995) (tgt := 2040) (by rfl) (by decide) ?_
    replace hw := hw.1 n27
    refine go_aload_n C dL_law_2040 1 rfl ?_
    refine go_aload_n C dL_law_2041 0 rfl ?_
    refine go_iload C dL_law_2042 5 rfl ?_
    refine go_iconst C 1 dL_law_2044 kc_i1 ?_
    refine go_iadd C dL_law_2045 ?_
    refine go_sld C S dL_law_2046 hw (fun v287 hw => ?_)
    refine go_aload_n C dL_law_2047 0 rfl ?_
    refine go_iload C dL_law_2048 5 rfl ?_
    refine go_iconst C 2 dL_law_2050 kc_i2 ?_
    refine go_iadd C dL_law_2051 ?_
    refine go_sld C S dL_law_2052 hw (fun v288 hw => ?_)
    refine go_aload_n C dL_law_2053 3 rfl ?_
    refine go_callSH_i C [rV (some a1), iV v287, iV v288, rV (some a7)] vL_reads tw6_181 (m_L_reads (xl X) C.2.2.2.2.2.2.2.1 N hw) ⟨Nat.le_of_ble_eq_true rfl, Nat.le_of_ble_eq_true rfl, (by show c + 3 ≤ 603072; omega), (by show sl + 18 ≤ 7207018; omega)⟩ dL_law_2054 rfl (Nat.le_of_ble_eq_true rfl) rfl (fun v289 h290 hw => ?_)
    refine go_istore C [(6, iV v289), (0, rV (some b)), (1, rV (some a1)), (2, rV (some a4)), (3, rV (some a7)), (4, rV (some a9)), (5, iV x12)] dL_law_2057 (Nat.le_of_ble_eq_true rfl) rfl ?_
    refine go_aload_n C dL_law_2059 3 rfl ?_
    refine go_aload_n C dL_law_2060 1 rfl ?_
    refine go_iload C dL_law_2061 6 rfl ?_
    refine go_iconst C 1 dL_law_2063 kc_i1 ?_
    refine go_iadd C dL_law_2064 ?_
    refine go_sld C S dL_law_2065 hw (fun v291 hw => ?_)
    refine go_aload_n C dL_law_2066 1 rfl ?_
    refine go_iload C dL_law_2067 6 rfl ?_
    refine go_iconst C 2 dL_law_2069 kc_i2 ?_
    refine go_iadd C dL_law_2070 ?_
    refine go_sld C S dL_law_2071 hw (fun v292 hw => ?_)
    refine go_c0V_i C [iV v291, iV v292] vX12_reads tw9_82 (ci := 12) rfl (m_X12_reads (xl X) C.2.2.2.2.2.2.2.1 N hw.2) ⟨Nat.le_of_ble_eq_true rfl, Nat.le_of_ble_eq_true rfl, (by show c + 3 + 0 ≤ 603072; omega), (by show sl + 18 + 0 ≤ 7207018; omega)⟩ ⟨rfl, rfl⟩ hw.1 dL_law_2072 rfl (Nat.le_of_ble_eq_true rfl) rfl (fun v293 h294 hw => ?_)
    refine go_istore C [(7, iV v293), (6, iV v289), (0, rV (some b)), (1, rV (some a1)), (2, rV (some a4)), (3, rV (some a7)), (4, rV (some a9)), (5, iV x12)] dL_law_2075 (Nat.le_of_ble_eq_true rfl) rfl ?_
    refine go_aload_n C dL_law_2077 4 rfl ?_
    refine go_pV_i C [] vX12_thrown tw8_12 (ci := 12) rfl (m_X12_thrown (xl X) C.2.2.2.2.2.2.2.1 N hw.2) ⟨Nat.le_of_ble_eq_true rfl, Nat.le_of_ble_eq_true rfl, (by show c + 3 + 0 ≤ 603072; omega), (by show sl + 18 + 0 ≤ 7207018; omega)⟩ ⟨rfl, rfl⟩ hw.1 dL_law_2078 rfl (Nat.le_of_ble_eq_true rfl) rfl (fun v295 hw => ?_)
    refine go_iload C dL_law_2081 1 rfl ?_
    refine go_icmp_eq C 2088 dL_law_2083 (by decide) hw (fun hw => ?_) (fun hw => ?_)
    · refine go_iload C dL_law_2088 1 rfl ?_
      refine jn_elim (P := fun j => j  → Go G X room_1 9 (c + rmL_reads.cells) (sl + rmL_reads.slots) (lw_Z below #[Value.ref b] s) h294 2105 [(0, rV (some b)), (1, rV (some a1)), (2, rV (some a4)), (3, rV (some a7)), (4, rV (some a9)), (5, iV x12)] []) hw (fun  hw => ?_) (fun j2105 hj2105 hw => ?_)
      · refine go_goto C 2663 dL_law_2105 (by decide) ?_
        refine go_iinc C (x12 + 6) [(5, iV (x12 + 6)), (0, rV (some b)), (1, rV (some a1)), (2, rV (some a4)), (3, rV (some a7)), (4, rV (some a9))] dL_law_2663 5 rfl (by rw [kc_i6]) (Nat.le_of_ble_eq_true rfl) rfl ?_
        refine go_goto C 28 dL_law_2666 (by decide) ?_
        refine go_sub [1, 2, 3, 4, 5, 0] rfl ?_
        exact hj28 _ _ hw (kk + 1) _ _ (by rw [exi]; exact nI6 kk) (by omega) (by show c + 3 ≤ _; omega) (by show sl + 18 ≤ _; omega)
      refine go_if_ne C 2105 dL_law_2090 (by decide) hw (fun hw => ?_) (fun hw => ?_)
      · refine go_sub [2, 3, 4, 5, 6, 7] rfl ?_
        exact hj2105  hw
      refine go_aload_n C dL_law_2093 5 rfl ?_
      refine go_iconst C 0 dL_law_2094 kc_i0 ?_
      refine go_laload C dL_law_2095 hw (fun v296 hw => ?_)
      refine go_iload C dL_law_2096 0 rfl ?_
      refine go_i2l C dL_law_2098 ?_
      refine go_lcmp C dL_law_2099 ?_
      refine go_if_eq C 2105 dL_law_2100 (by decide) hw (fun hw => ?_) (fun hw => ?_)
      · refine go_sub [2, 3, 4, 5, 6, 7] rfl ?_
        exact hj2105  hw
      refine go_iconst C 0 dL_law_2103 kc_i0 ?_
      exact False.elim hw
    refine go_iconst C 0 dL_law_2086 kc_i0 ?_
    exact False.elim hw
  replace hw := hw.2 n27
  by_cases n28 : (v13 &&& 63) = (28 : Int32)
  · refine go_tswIn C 28 n28 (by decide) (by decide) dL_law_45 (off := 2063) (tgt := 2108) (by rfl) (by decide) ?_
    replace hw := hw.1 n28
    refine go_aload_n C dL_law_2108 1 rfl ?_
    refine go_aload_n C dL_law_2109 0 rfl ?_
    refine go_iload C dL_law_2110 5 rfl ?_
    refine go_iconst C 1 dL_law_2112 kc_i1 ?_
    refine go_iadd C dL_law_2113 ?_
    refine go_sld C S dL_law_2114 hw (fun v297 hw => ?_)
    refine go_aload_n C dL_law_2115 0 rfl ?_
    refine go_iload C dL_law_2116 5 rfl ?_
    refine go_iconst C 2 dL_law_2118 kc_i2 ?_
    refine go_iadd C dL_law_2119 ?_
    refine go_sld C S dL_law_2120 hw (fun v298 hw => ?_)
    refine go_aload_n C dL_law_2121 3 rfl ?_
    refine go_callSH_i C [rV (some a1), iV v297, iV v298, rV (some a7)] vL_ban tw6_188 (m_L_ban (xl X) C.2.2.2.2.2.2.2.1 N hw) ⟨Nat.le_of_ble_eq_true rfl, Nat.le_of_ble_eq_true rfl, (by show c + 3 ≤ 603072; omega), (by show sl + 18 ≤ 7207018; omega)⟩ dL_law_2122 rfl (Nat.le_of_ble_eq_true rfl) rfl (fun v299 h300 hw => ?_)
    refine go_istore C [(6, iV v299), (0, rV (some b)), (1, rV (some a1)), (2, rV (some a4)), (3, rV (some a7)), (4, rV (some a9)), (5, iV x12)] dL_law_2125 (Nat.le_of_ble_eq_true rfl) rfl ?_
    refine go_aload_n C dL_law_2127 3 rfl ?_
    refine go_aload_n C dL_law_2128 1 rfl ?_
    refine go_iload C dL_law_2129 6 rfl ?_
    refine go_iconst C 1 dL_law_2131 kc_i1 ?_
    refine go_iadd C dL_law_2132 ?_
    refine go_sld C S dL_law_2133 hw (fun v301 hw => ?_)
    refine go_aload_n C dL_law_2134 1 rfl ?_
    refine go_iload C dL_law_2135 6 rfl ?_
    refine go_iconst C 2 dL_law_2137 kc_i2 ?_
    refine go_iadd C dL_law_2138 ?_
    refine go_sld C S dL_law_2139 hw (fun v302 hw => ?_)
    refine go_c0V_i C [iV v301, iV v302] vX12_ban tw9_86 (ci := 12) rfl (m_X12_ban (xl X) C.2.2.2.2.2.2.2.1 N hw.2) ⟨Nat.le_of_ble_eq_true rfl, Nat.le_of_ble_eq_true rfl, (by show c + 3 + 0 ≤ 603072; omega), (by show sl + 18 + 0 ≤ 7207018; omega)⟩ ⟨rfl, rfl⟩ hw.1 dL_law_2140 rfl (Nat.le_of_ble_eq_true rfl) rfl (fun v303 h304 hw => ?_)
    refine go_istore C [(7, iV v303), (6, iV v299), (0, rV (some b)), (1, rV (some a1)), (2, rV (some a4)), (3, rV (some a7)), (4, rV (some a9)), (5, iV x12)] dL_law_2143 (Nat.le_of_ble_eq_true rfl) rfl ?_
    refine go_aload_n C dL_law_2145 4 rfl ?_
    refine go_pV_i C [] vX12_thrown tw8_12 (ci := 12) rfl (m_X12_thrown (xl X) C.2.2.2.2.2.2.2.1 N hw.2) ⟨Nat.le_of_ble_eq_true rfl, Nat.le_of_ble_eq_true rfl, (by show c + 3 + 0 ≤ 603072; omega), (by show sl + 18 + 0 ≤ 7207018; omega)⟩ ⟨rfl, rfl⟩ hw.1 dL_law_2146 rfl (Nat.le_of_ble_eq_true rfl) rfl (fun v305 hw => ?_)
    refine go_iload C dL_law_2149 1 rfl ?_
    refine go_icmp_eq C 2156 dL_law_2151 (by decide) hw (fun hw => ?_) (fun hw => ?_)
    · refine go_iload C dL_law_2156 1 rfl ?_
      refine jn_elim (P := fun j => j  → Go G X room_1 9 (c + rmL_ban.cells) (sl + rmL_ban.slots) (lw_Z below #[Value.ref b] s) h304 2173 [(0, rV (some b)), (1, rV (some a1)), (2, rV (some a4)), (3, rV (some a7)), (4, rV (some a9)), (5, iV x12)] []) hw (fun  hw => ?_) (fun j2173 hj2173 hw => ?_)
      · refine go_goto C 2663 dL_law_2173 (by decide) ?_
        refine go_iinc C (x12 + 6) [(5, iV (x12 + 6)), (0, rV (some b)), (1, rV (some a1)), (2, rV (some a4)), (3, rV (some a7)), (4, rV (some a9))] dL_law_2663 5 rfl (by rw [kc_i6]) (Nat.le_of_ble_eq_true rfl) rfl ?_
        refine go_goto C 28 dL_law_2666 (by decide) ?_
        refine go_sub [1, 2, 3, 4, 5, 0] rfl ?_
        exact hj28 _ _ hw (kk + 1) _ _ (by rw [exi]; exact nI6 kk) (by omega) (by show c + 3 ≤ _; omega) (by show sl + 18 ≤ _; omega)
      refine go_if_ne C 2173 dL_law_2158 (by decide) hw (fun hw => ?_) (fun hw => ?_)
      · refine go_sub [2, 3, 4, 5, 6, 7] rfl ?_
        exact hj2173  hw
      refine go_aload_n C dL_law_2161 5 rfl ?_
      refine go_iconst C 0 dL_law_2162 kc_i0 ?_
      refine go_laload C dL_law_2163 hw (fun v306 hw => ?_)
      refine go_iload C dL_law_2164 0 rfl ?_
      refine go_i2l C dL_law_2166 ?_
      refine go_lcmp C dL_law_2167 ?_
      refine go_if_eq C 2173 dL_law_2168 (by decide) hw (fun hw => ?_) (fun hw => ?_)
      · refine go_sub [2, 3, 4, 5, 6, 7] rfl ?_
        exact hj2173  hw
      refine go_iconst C 0 dL_law_2171 kc_i0 ?_
      exact False.elim hw
    refine go_iconst C 0 dL_law_2154 kc_i0 ?_
    exact False.elim hw
  replace hw := hw.2 n28
  by_cases n29 : (v13 &&& 63) = (29 : Int32)
  · refine go_tswIn C 29 n29 (by decide) (by decide) dL_law_45 (off := 2131) (tgt := 2176) (by rfl) (by decide) ?_
    replace hw := hw.1 n29
    refine go_aload_n C dL_law_2176 1 rfl ?_
    refine go_aload_n C dL_law_2177 0 rfl ?_
    refine go_iload C dL_law_2178 5 rfl ?_
    refine go_iconst C 1 dL_law_2180 kc_i1 ?_
    refine go_iadd C dL_law_2181 ?_
    refine go_sld C S dL_law_2182 hw (fun v307 hw => ?_)
    refine go_aload_n C dL_law_2183 3 rfl ?_
    refine go_callSH_i C [rV (some a1), iV v307, rV (some a7)] vL_round tw6_213 (m_L_round (xl X) C.2.2.2.2.2.2.2.1 N hw) ⟨Nat.le_of_ble_eq_true rfl, Nat.le_of_ble_eq_true rfl, (by show c + 2 ≤ 603072; omega), (by show sl + 12 ≤ 7207018; omega)⟩ dL_law_2184 rfl (Nat.le_of_ble_eq_true rfl) rfl (fun v308 h309 hw => ?_)
    refine go_istore C [(6, iV v308), (0, rV (some b)), (1, rV (some a1)), (2, rV (some a4)), (3, rV (some a7)), (4, rV (some a9)), (5, iV x12)] dL_law_2187 (Nat.le_of_ble_eq_true rfl) rfl ?_
    refine go_aload_n C dL_law_2189 3 rfl ?_
    refine go_aload_n C dL_law_2190 1 rfl ?_
    refine go_iload C dL_law_2191 6 rfl ?_
    refine go_iconst C 1 dL_law_2193 kc_i1 ?_
    refine go_iadd C dL_law_2194 ?_
    refine go_sld C S dL_law_2195 hw (fun v310 hw => ?_)
    refine go_c0V_i C [iV v310] vX12_round tw9_93 (ci := 12) rfl (m_X12_round (xl X) C.2.2.2.2.2.2.2.1 N hw.2) ⟨Nat.le_of_ble_eq_true rfl, Nat.le_of_ble_eq_true rfl, (by show c + 2 + 0 ≤ 603072; omega), (by show sl + 12 + 0 ≤ 7207018; omega)⟩ ⟨rfl, rfl⟩ hw.1 dL_law_2196 rfl (Nat.le_of_ble_eq_true rfl) rfl (fun v311 h312 hw => ?_)
    refine go_istore C [(7, iV v311), (6, iV v308), (0, rV (some b)), (1, rV (some a1)), (2, rV (some a4)), (3, rV (some a7)), (4, rV (some a9)), (5, iV x12)] dL_law_2199 (Nat.le_of_ble_eq_true rfl) rfl ?_
    refine go_aload_n C dL_law_2201 4 rfl ?_
    refine go_pV_i C [] vX12_thrown tw8_12 (ci := 12) rfl (m_X12_thrown (xl X) C.2.2.2.2.2.2.2.1 N hw.2) ⟨Nat.le_of_ble_eq_true rfl, Nat.le_of_ble_eq_true rfl, (by show c + 2 + 0 ≤ 603072; omega), (by show sl + 12 + 0 ≤ 7207018; omega)⟩ ⟨rfl, rfl⟩ hw.1 dL_law_2202 rfl (Nat.le_of_ble_eq_true rfl) rfl (fun v313 hw => ?_)
    refine go_iload C dL_law_2205 1 rfl ?_
    refine go_icmp_eq C 2212 dL_law_2207 (by decide) hw (fun hw => ?_) (fun hw => ?_)
    · refine go_iload C dL_law_2212 1 rfl ?_
      refine jn_elim (P := fun j => j  → Go G X room_1 9 (c + rmL_round.cells) (sl + rmL_round.slots) (lw_Z below #[Value.ref b] s) h312 2229 [(0, rV (some b)), (1, rV (some a1)), (2, rV (some a4)), (3, rV (some a7)), (4, rV (some a9)), (5, iV x12)] []) hw (fun  hw => ?_) (fun j2229 hj2229 hw => ?_)
      · refine go_goto C 2663 dL_law_2229 (by decide) ?_
        refine go_iinc C (x12 + 6) [(5, iV (x12 + 6)), (0, rV (some b)), (1, rV (some a1)), (2, rV (some a4)), (3, rV (some a7)), (4, rV (some a9))] dL_law_2663 5 rfl (by rw [kc_i6]) (Nat.le_of_ble_eq_true rfl) rfl ?_
        refine go_goto C 28 dL_law_2666 (by decide) ?_
        refine go_sub [1, 2, 3, 4, 5, 0] rfl ?_
        exact hj28 _ _ hw (kk + 1) _ _ (by rw [exi]; exact nI6 kk) (by omega) (by show c + 2 ≤ _; omega) (by show sl + 12 ≤ _; omega)
      refine go_if_ne C 2229 dL_law_2214 (by decide) hw (fun hw => ?_) (fun hw => ?_)
      · refine go_sub [2, 3, 4, 5, 6, 7] rfl ?_
        exact hj2229  hw
      refine go_aload_n C dL_law_2217 5 rfl ?_
      refine go_iconst C 0 dL_law_2218 kc_i0 ?_
      refine go_laload C dL_law_2219 hw (fun v314 hw => ?_)
      refine go_iload C dL_law_2220 0 rfl ?_
      refine go_i2l C dL_law_2222 ?_
      refine go_lcmp C dL_law_2223 ?_
      refine go_if_eq C 2229 dL_law_2224 (by decide) hw (fun hw => ?_) (fun hw => ?_)
      · refine go_sub [2, 3, 4, 5, 6, 7] rfl ?_
        exact hj2229  hw
      refine go_iconst C 0 dL_law_2227 kc_i0 ?_
      exact False.elim hw
    refine go_iconst C 0 dL_law_2210 kc_i0 ?_
    exact False.elim hw
  replace hw := hw.2 n29
  by_cases n30 : (v13 &&& 63) = (30 : Int32)
  · refine go_tswIn C 30 n30 (by decide) (by decide) dL_law_45 (off := 2187) (tgt := 2232) (by rfl) (by decide) ?_
    replace hw := hw.1 n30
    refine go_aload_n C dL_law_2232 1 rfl ?_
    refine go_aload_n C dL_law_2233 0 rfl ?_
    refine go_iload C dL_law_2234 5 rfl ?_
    refine go_iconst C 1 dL_law_2236 kc_i1 ?_
    refine go_iadd C dL_law_2237 ?_
    refine go_sld C S dL_law_2238 hw (fun v315 hw => ?_)
    refine go_aload_n C dL_law_2239 3 rfl ?_
    refine go_callSH_i C [rV (some a1), iV v315, rV (some a7)] vL_appeal tw6_237 (m_L_appeal (xl X) C.2.2.2.2.2.2.2.1 N hw) ⟨Nat.le_of_ble_eq_true rfl, Nat.le_of_ble_eq_true rfl, (by show c + 2 ≤ 603072; omega), (by show sl + 12 ≤ 7207018; omega)⟩ dL_law_2240 rfl (Nat.le_of_ble_eq_true rfl) rfl (fun v316 h317 hw => ?_)
    refine go_istore C [(6, iV v316), (0, rV (some b)), (1, rV (some a1)), (2, rV (some a4)), (3, rV (some a7)), (4, rV (some a9)), (5, iV x12)] dL_law_2243 (Nat.le_of_ble_eq_true rfl) rfl ?_
    refine go_aload_n C dL_law_2245 3 rfl ?_
    refine go_aload_n C dL_law_2246 1 rfl ?_
    refine go_iload C dL_law_2247 6 rfl ?_
    refine go_iconst C 1 dL_law_2249 kc_i1 ?_
    refine go_iadd C dL_law_2250 ?_
    refine go_sld C S dL_law_2251 hw (fun v318 hw => ?_)
    refine go_c0V_i C [iV v318] vX12_appeal tw9_105 (ci := 12) rfl (m_X12_appeal (xl X) C.2.2.2.2.2.2.2.1 N hw.2) ⟨Nat.le_of_ble_eq_true rfl, Nat.le_of_ble_eq_true rfl, (by show c + 2 + 0 ≤ 603072; omega), (by show sl + 12 + 0 ≤ 7207018; omega)⟩ ⟨rfl, rfl⟩ hw.1 dL_law_2252 rfl (Nat.le_of_ble_eq_true rfl) rfl (fun v319 h320 hw => ?_)
    refine go_istore C [(7, iV v319), (6, iV v316), (0, rV (some b)), (1, rV (some a1)), (2, rV (some a4)), (3, rV (some a7)), (4, rV (some a9)), (5, iV x12)] dL_law_2255 (Nat.le_of_ble_eq_true rfl) rfl ?_
    refine go_aload_n C dL_law_2257 4 rfl ?_
    refine go_pV_i C [] vX12_thrown tw8_12 (ci := 12) rfl (m_X12_thrown (xl X) C.2.2.2.2.2.2.2.1 N hw.2) ⟨Nat.le_of_ble_eq_true rfl, Nat.le_of_ble_eq_true rfl, (by show c + 2 + 0 ≤ 603072; omega), (by show sl + 12 + 0 ≤ 7207018; omega)⟩ ⟨rfl, rfl⟩ hw.1 dL_law_2258 rfl (Nat.le_of_ble_eq_true rfl) rfl (fun v321 hw => ?_)
    refine go_iload C dL_law_2261 1 rfl ?_
    refine go_icmp_eq C 2268 dL_law_2263 (by decide) hw (fun hw => ?_) (fun hw => ?_)
    · refine go_iload C dL_law_2268 1 rfl ?_
      refine jn_elim (P := fun j => j  → Go G X room_1 9 (c + rmL_appeal.cells) (sl + rmL_appeal.slots) (lw_Z below #[Value.ref b] s) h320 2285 [(0, rV (some b)), (1, rV (some a1)), (2, rV (some a4)), (3, rV (some a7)), (4, rV (some a9)), (5, iV x12)] []) hw (fun  hw => ?_) (fun j2285 hj2285 hw => ?_)
      · refine go_goto C 2663 dL_law_2285 (by decide) ?_
        refine go_iinc C (x12 + 6) [(5, iV (x12 + 6)), (0, rV (some b)), (1, rV (some a1)), (2, rV (some a4)), (3, rV (some a7)), (4, rV (some a9))] dL_law_2663 5 rfl (by rw [kc_i6]) (Nat.le_of_ble_eq_true rfl) rfl ?_
        refine go_goto C 28 dL_law_2666 (by decide) ?_
        refine go_sub [1, 2, 3, 4, 5, 0] rfl ?_
        exact hj28 _ _ hw (kk + 1) _ _ (by rw [exi]; exact nI6 kk) (by omega) (by show c + 2 ≤ _; omega) (by show sl + 12 ≤ _; omega)
      refine go_if_ne C 2285 dL_law_2270 (by decide) hw (fun hw => ?_) (fun hw => ?_)
      · refine go_sub [2, 3, 4, 5, 6, 7] rfl ?_
        exact hj2285  hw
      refine go_aload_n C dL_law_2273 5 rfl ?_
      refine go_iconst C 0 dL_law_2274 kc_i0 ?_
      refine go_laload C dL_law_2275 hw (fun v322 hw => ?_)
      refine go_iload C dL_law_2276 0 rfl ?_
      refine go_i2l C dL_law_2278 ?_
      refine go_lcmp C dL_law_2279 ?_
      refine go_if_eq C 2285 dL_law_2280 (by decide) hw (fun hw => ?_) (fun hw => ?_)
      · refine go_sub [2, 3, 4, 5, 6, 7] rfl ?_
        exact hj2285  hw
      refine go_iconst C 0 dL_law_2283 kc_i0 ?_
      exact False.elim hw
    refine go_iconst C 0 dL_law_2266 kc_i0 ?_
    exact False.elim hw
  replace hw := hw.2 n30
  by_cases n31 : (v13 &&& 63) = (31 : Int32)
  · refine go_tswIn C 31 n31 (by decide) (by decide) dL_law_45 (off := 2243) (tgt := 2288) (by rfl) (by decide) ?_
    replace hw := hw.1 n31
    refine go_aload_n C dL_law_2288 1 rfl ?_
    refine go_aload_n C dL_law_2289 0 rfl ?_
    refine go_iload C dL_law_2290 5 rfl ?_
    refine go_iconst C 1 dL_law_2292 kc_i1 ?_
    refine go_iadd C dL_law_2293 ?_
    refine go_sld C S dL_law_2294 hw (fun v323 hw => ?_)
    refine go_aload_n C dL_law_2295 3 rfl ?_
    refine go_callSH_i C [rV (some a1), iV v323, rV (some a7)] vL_coins tw7_14 (m_L_coins (xl X) C.2.2.2.2.2.2.2.1 N hw) ⟨Nat.le_of_ble_eq_true rfl, Nat.le_of_ble_eq_true rfl, (by show c + 1 ≤ 603072; omega), (by show sl + 6 ≤ 7207018; omega)⟩ dL_law_2296 rfl (Nat.le_of_ble_eq_true rfl) rfl (fun v324 h325 hw => ?_)
    refine go_istore C [(6, iV v324), (0, rV (some b)), (1, rV (some a1)), (2, rV (some a4)), (3, rV (some a7)), (4, rV (some a9)), (5, iV x12)] dL_law_2299 (Nat.le_of_ble_eq_true rfl) rfl ?_
    refine go_aload_n C dL_law_2301 3 rfl ?_
    refine go_aload_n C dL_law_2302 1 rfl ?_
    refine go_iload C dL_law_2303 6 rfl ?_
    refine go_iconst C 1 dL_law_2305 kc_i1 ?_
    refine go_iadd C dL_law_2306 ?_
    refine go_sld C S dL_law_2307 hw (fun v326 hw => ?_)
    refine go_c0V_i C [iV v326] vX12_coins tw9_109 (ci := 12) rfl (m_X12_coins (xl X) C.2.2.2.2.2.2.2.1 N hw.2) ⟨Nat.le_of_ble_eq_true rfl, Nat.le_of_ble_eq_true rfl, (by show c + 1 + 0 ≤ 603072; omega), (by show sl + 6 + 0 ≤ 7207018; omega)⟩ ⟨rfl, rfl⟩ hw.1 dL_law_2308 rfl (Nat.le_of_ble_eq_true rfl) rfl (fun v327 h328 hw => ?_)
    refine go_istore C [(7, iV v327), (6, iV v324), (0, rV (some b)), (1, rV (some a1)), (2, rV (some a4)), (3, rV (some a7)), (4, rV (some a9)), (5, iV x12)] dL_law_2311 (Nat.le_of_ble_eq_true rfl) rfl ?_
    refine go_aload_n C dL_law_2313 4 rfl ?_
    refine go_pV_i C [] vX12_thrown tw8_12 (ci := 12) rfl (m_X12_thrown (xl X) C.2.2.2.2.2.2.2.1 N hw.2) ⟨Nat.le_of_ble_eq_true rfl, Nat.le_of_ble_eq_true rfl, (by show c + 1 + 0 ≤ 603072; omega), (by show sl + 6 + 0 ≤ 7207018; omega)⟩ ⟨rfl, rfl⟩ hw.1 dL_law_2314 rfl (Nat.le_of_ble_eq_true rfl) rfl (fun v329 hw => ?_)
    refine go_iload C dL_law_2317 1 rfl ?_
    refine go_icmp_eq C 2324 dL_law_2319 (by decide) hw (fun hw => ?_) (fun hw => ?_)
    · refine go_iload C dL_law_2324 1 rfl ?_
      refine jn_elim (P := fun j => j  → Go G X room_1 9 (c + rmL_coins.cells) (sl + rmL_coins.slots) (lw_Z below #[Value.ref b] s) h328 2341 [(0, rV (some b)), (1, rV (some a1)), (2, rV (some a4)), (3, rV (some a7)), (4, rV (some a9)), (5, iV x12)] []) hw (fun  hw => ?_) (fun j2341 hj2341 hw => ?_)
      · refine go_goto C 2663 dL_law_2341 (by decide) ?_
        refine go_iinc C (x12 + 6) [(5, iV (x12 + 6)), (0, rV (some b)), (1, rV (some a1)), (2, rV (some a4)), (3, rV (some a7)), (4, rV (some a9))] dL_law_2663 5 rfl (by rw [kc_i6]) (Nat.le_of_ble_eq_true rfl) rfl ?_
        refine go_goto C 28 dL_law_2666 (by decide) ?_
        refine go_sub [1, 2, 3, 4, 5, 0] rfl ?_
        exact hj28 _ _ hw (kk + 1) _ _ (by rw [exi]; exact nI6 kk) (by omega) (by show c + 1 ≤ _; omega) (by show sl + 6 ≤ _; omega)
      refine go_if_ne C 2341 dL_law_2326 (by decide) hw (fun hw => ?_) (fun hw => ?_)
      · refine go_sub [2, 3, 4, 5, 6, 7] rfl ?_
        exact hj2341  hw
      refine go_aload_n C dL_law_2329 5 rfl ?_
      refine go_iconst C 0 dL_law_2330 kc_i0 ?_
      refine go_laload C dL_law_2331 hw (fun v330 hw => ?_)
      refine go_iload C dL_law_2332 0 rfl ?_
      refine go_i2l C dL_law_2334 ?_
      refine go_lcmp C dL_law_2335 ?_
      refine go_if_eq C 2341 dL_law_2336 (by decide) hw (fun hw => ?_) (fun hw => ?_)
      · refine go_sub [2, 3, 4, 5, 6, 7] rfl ?_
        exact hj2341  hw
      refine go_iconst C 0 dL_law_2339 kc_i0 ?_
      exact False.elim hw
    refine go_iconst C 0 dL_law_2322 kc_i0 ?_
    exact False.elim hw
  replace hw := hw.2 n31
  by_cases n32 : (v13 &&& 63) = (32 : Int32)
  · refine go_tswIn C 32 n32 (by decide) (by decide) dL_law_45 (off := 2299) (tgt := 2344) (by rfl) (by decide) ?_
    replace hw := hw.1 n32
    refine go_aload_n C dL_law_2344 1 rfl ?_
    refine go_aload_n C dL_law_2345 0 rfl ?_
    refine go_iload C dL_law_2346 5 rfl ?_
    refine go_iconst C 1 dL_law_2348 kc_i1 ?_
    refine go_iadd C dL_law_2349 ?_
    refine go_sld C S dL_law_2350 hw (fun v331 hw => ?_)
    refine go_aload_n C dL_law_2351 0 rfl ?_
    refine go_iload C dL_law_2352 5 rfl ?_
    refine go_iconst C 2 dL_law_2354 kc_i2 ?_
    refine go_iadd C dL_law_2355 ?_
    refine go_sld C S dL_law_2356 hw (fun v332 hw => ?_)
    refine go_aload_n C dL_law_2357 3 rfl ?_
    refine go_callSH_i C [rV (some a1), iV v331, iV v332, rV (some a7)] vL_misses tw7_21 (m_L_misses (xl X) C.2.2.2.2.2.2.2.1 N hw) ⟨Nat.le_of_ble_eq_true rfl, Nat.le_of_ble_eq_true rfl, (by show c + 2 ≤ 603072; omega), (by show sl + 12 ≤ 7207018; omega)⟩ dL_law_2358 rfl (Nat.le_of_ble_eq_true rfl) rfl (fun v333 h334 hw => ?_)
    refine go_istore C [(6, iV v333), (0, rV (some b)), (1, rV (some a1)), (2, rV (some a4)), (3, rV (some a7)), (4, rV (some a9)), (5, iV x12)] dL_law_2361 (Nat.le_of_ble_eq_true rfl) rfl ?_
    refine go_aload_n C dL_law_2363 3 rfl ?_
    refine go_aload_n C dL_law_2364 1 rfl ?_
    refine go_iload C dL_law_2365 6 rfl ?_
    refine go_iconst C 1 dL_law_2367 kc_i1 ?_
    refine go_iadd C dL_law_2368 ?_
    refine go_sld C S dL_law_2369 hw (fun v335 hw => ?_)
    refine go_aload_n C dL_law_2370 1 rfl ?_
    refine go_iload C dL_law_2371 6 rfl ?_
    refine go_iconst C 2 dL_law_2373 kc_i2 ?_
    refine go_iadd C dL_law_2374 ?_
    refine go_sld C S dL_law_2375 hw (fun v336 hw => ?_)
    refine go_c0V_i C [iV v335, iV v336] vX12_misses tw9_113 (ci := 12) rfl (m_X12_misses (xl X) C.2.2.2.2.2.2.2.1 N hw.2) ⟨Nat.le_of_ble_eq_true rfl, Nat.le_of_ble_eq_true rfl, (by show c + 2 + 0 ≤ 603072; omega), (by show sl + 12 + 0 ≤ 7207018; omega)⟩ ⟨rfl, rfl⟩ hw.1 dL_law_2376 rfl (Nat.le_of_ble_eq_true rfl) rfl (fun v337 h338 hw => ?_)
    refine go_istore C [(7, iV v337), (6, iV v333), (0, rV (some b)), (1, rV (some a1)), (2, rV (some a4)), (3, rV (some a7)), (4, rV (some a9)), (5, iV x12)] dL_law_2379 (Nat.le_of_ble_eq_true rfl) rfl ?_
    refine go_aload_n C dL_law_2381 4 rfl ?_
    refine go_pV_i C [] vX12_thrown tw8_12 (ci := 12) rfl (m_X12_thrown (xl X) C.2.2.2.2.2.2.2.1 N hw.2) ⟨Nat.le_of_ble_eq_true rfl, Nat.le_of_ble_eq_true rfl, (by show c + 2 + 0 ≤ 603072; omega), (by show sl + 12 + 0 ≤ 7207018; omega)⟩ ⟨rfl, rfl⟩ hw.1 dL_law_2382 rfl (Nat.le_of_ble_eq_true rfl) rfl (fun v339 hw => ?_)
    refine go_iload C dL_law_2385 1 rfl ?_
    refine go_icmp_eq C 2392 dL_law_2387 (by decide) hw (fun hw => ?_) (fun hw => ?_)
    · refine go_iload C dL_law_2392 1 rfl ?_
      refine jn_elim (P := fun j => j  → Go G X room_1 9 (c + rmL_misses.cells) (sl + rmL_misses.slots) (lw_Z below #[Value.ref b] s) h338 2409 [(0, rV (some b)), (1, rV (some a1)), (2, rV (some a4)), (3, rV (some a7)), (4, rV (some a9)), (5, iV x12)] []) hw (fun  hw => ?_) (fun j2409 hj2409 hw => ?_)
      · refine go_goto C 2663 dL_law_2409 (by decide) ?_
        refine go_iinc C (x12 + 6) [(5, iV (x12 + 6)), (0, rV (some b)), (1, rV (some a1)), (2, rV (some a4)), (3, rV (some a7)), (4, rV (some a9))] dL_law_2663 5 rfl (by rw [kc_i6]) (Nat.le_of_ble_eq_true rfl) rfl ?_
        refine go_goto C 28 dL_law_2666 (by decide) ?_
        refine go_sub [1, 2, 3, 4, 5, 0] rfl ?_
        exact hj28 _ _ hw (kk + 1) _ _ (by rw [exi]; exact nI6 kk) (by omega) (by show c + 2 ≤ _; omega) (by show sl + 12 ≤ _; omega)
      refine go_if_ne C 2409 dL_law_2394 (by decide) hw (fun hw => ?_) (fun hw => ?_)
      · refine go_sub [2, 3, 4, 5, 6, 7] rfl ?_
        exact hj2409  hw
      refine go_aload_n C dL_law_2397 5 rfl ?_
      refine go_iconst C 0 dL_law_2398 kc_i0 ?_
      refine go_laload C dL_law_2399 hw (fun v340 hw => ?_)
      refine go_iload C dL_law_2400 0 rfl ?_
      refine go_i2l C dL_law_2402 ?_
      refine go_lcmp C dL_law_2403 ?_
      refine go_if_eq C 2409 dL_law_2404 (by decide) hw (fun hw => ?_) (fun hw => ?_)
      · refine go_sub [2, 3, 4, 5, 6, 7] rfl ?_
        exact hj2409  hw
      refine go_iconst C 0 dL_law_2407 kc_i0 ?_
      exact False.elim hw
    refine go_iconst C 0 dL_law_2390 kc_i0 ?_
    exact False.elim hw
  replace hw := hw.2 n32
  by_cases n33 : (v13 &&& 63) = (33 : Int32)
  · refine go_tswIn C 33 n33 (by decide) (by decide) dL_law_45 (off := 2367) (tgt := 2412) (by rfl) (by decide) ?_
    replace hw := hw.1 n33
    refine go_aload_n C dL_law_2412 1 rfl ?_
    refine go_aload_n C dL_law_2413 0 rfl ?_
    refine go_iload C dL_law_2414 5 rfl ?_
    refine go_iconst C 1 dL_law_2416 kc_i1 ?_
    refine go_iadd C dL_law_2417 ?_
    refine go_sld C S dL_law_2418 hw (fun v341 hw => ?_)
    refine go_aload_n C dL_law_2419 3 rfl ?_
    refine go_callSH_i C [rV (some a1), iV v341, rV (some a7)] vL_total tw7_33 (m_L_total (xl X) C.2.2.2.2.2.2.2.1 N hw) ⟨Nat.le_of_ble_eq_true rfl, Nat.le_of_ble_eq_true rfl, (by show c + 1 ≤ 603072; omega), (by show sl + 6 ≤ 7207018; omega)⟩ dL_law_2420 rfl (Nat.le_of_ble_eq_true rfl) rfl (fun v342 h343 hw => ?_)
    refine go_istore C [(6, iV v342), (0, rV (some b)), (1, rV (some a1)), (2, rV (some a4)), (3, rV (some a7)), (4, rV (some a9)), (5, iV x12)] dL_law_2423 (Nat.le_of_ble_eq_true rfl) rfl ?_
    refine go_aload_n C dL_law_2425 3 rfl ?_
    refine go_aload_n C dL_law_2426 1 rfl ?_
    refine go_iload C dL_law_2427 6 rfl ?_
    refine go_iconst C 1 dL_law_2429 kc_i1 ?_
    refine go_iadd C dL_law_2430 ?_
    refine go_sld C S dL_law_2431 hw (fun v344 hw => ?_)
    refine go_c0V_i C [iV v344] vX12_total tw9_117 (ci := 12) rfl (m_X12_total (xl X) C.2.2.2.2.2.2.2.1 N hw.2) ⟨Nat.le_of_ble_eq_true rfl, Nat.le_of_ble_eq_true rfl, (by show c + 1 + 0 ≤ 603072; omega), (by show sl + 6 + 0 ≤ 7207018; omega)⟩ ⟨rfl, rfl⟩ hw.1 dL_law_2432 rfl (Nat.le_of_ble_eq_true rfl) rfl (fun v345 h346 hw => ?_)
    refine go_istore C [(7, iV v345), (6, iV v342), (0, rV (some b)), (1, rV (some a1)), (2, rV (some a4)), (3, rV (some a7)), (4, rV (some a9)), (5, iV x12)] dL_law_2435 (Nat.le_of_ble_eq_true rfl) rfl ?_
    refine go_aload_n C dL_law_2437 4 rfl ?_
    refine go_pV_i C [] vX12_thrown tw8_12 (ci := 12) rfl (m_X12_thrown (xl X) C.2.2.2.2.2.2.2.1 N hw.2) ⟨Nat.le_of_ble_eq_true rfl, Nat.le_of_ble_eq_true rfl, (by show c + 1 + 0 ≤ 603072; omega), (by show sl + 6 + 0 ≤ 7207018; omega)⟩ ⟨rfl, rfl⟩ hw.1 dL_law_2438 rfl (Nat.le_of_ble_eq_true rfl) rfl (fun v347 hw => ?_)
    refine go_iload C dL_law_2441 1 rfl ?_
    refine go_icmp_eq C 2448 dL_law_2443 (by decide) hw (fun hw => ?_) (fun hw => ?_)
    · refine go_iload C dL_law_2448 1 rfl ?_
      refine jn_elim (P := fun j => j  → Go G X room_1 9 (c + rmL_total.cells) (sl + rmL_total.slots) (lw_Z below #[Value.ref b] s) h346 2465 [(0, rV (some b)), (1, rV (some a1)), (2, rV (some a4)), (3, rV (some a7)), (4, rV (some a9)), (5, iV x12)] []) hw (fun  hw => ?_) (fun j2465 hj2465 hw => ?_)
      · refine go_goto C 2663 dL_law_2465 (by decide) ?_
        refine go_iinc C (x12 + 6) [(5, iV (x12 + 6)), (0, rV (some b)), (1, rV (some a1)), (2, rV (some a4)), (3, rV (some a7)), (4, rV (some a9))] dL_law_2663 5 rfl (by rw [kc_i6]) (Nat.le_of_ble_eq_true rfl) rfl ?_
        refine go_goto C 28 dL_law_2666 (by decide) ?_
        refine go_sub [1, 2, 3, 4, 5, 0] rfl ?_
        exact hj28 _ _ hw (kk + 1) _ _ (by rw [exi]; exact nI6 kk) (by omega) (by show c + 1 ≤ _; omega) (by show sl + 6 ≤ _; omega)
      refine go_if_ne C 2465 dL_law_2450 (by decide) hw (fun hw => ?_) (fun hw => ?_)
      · refine go_sub [2, 3, 4, 5, 6, 7] rfl ?_
        exact hj2465  hw
      refine go_aload_n C dL_law_2453 5 rfl ?_
      refine go_iconst C 0 dL_law_2454 kc_i0 ?_
      refine go_laload C dL_law_2455 hw (fun v348 hw => ?_)
      refine go_iload C dL_law_2456 0 rfl ?_
      refine go_i2l C dL_law_2458 ?_
      refine go_lcmp C dL_law_2459 ?_
      refine go_if_eq C 2465 dL_law_2460 (by decide) hw (fun hw => ?_) (fun hw => ?_)
      · refine go_sub [2, 3, 4, 5, 6, 7] rfl ?_
        exact hj2465  hw
      refine go_iconst C 0 dL_law_2463 kc_i0 ?_
      exact False.elim hw
    refine go_iconst C 0 dL_law_2446 kc_i0 ?_
    exact False.elim hw
  replace hw := hw.2 n33
  by_cases n34 : (v13 &&& 63) = (34 : Int32)
  · refine go_tswIn C 34 n34 (by decide) (by decide) dL_law_45 (off := 2423) (tgt := 2468) (by rfl) (by decide) ?_
    replace hw := hw.1 n34
    refine go_aload_n C dL_law_2468 1 rfl ?_
    refine go_pV_i C [] vX11_rounds tw2_35 (ci := 11) rfl (m_X11_rounds (xl X) C.2.2.2.2.2.2.2.1 N hw.2) ⟨Nat.le_of_ble_eq_true rfl, Nat.le_of_ble_eq_true rfl, (by show c + 0 ≤ 603072; omega), (by show sl + 0 ≤ 7207018; omega)⟩ ⟨rfl, rfl⟩ hw.1 dL_law_2469 rfl (Nat.le_of_ble_eq_true rfl) rfl (fun v349 hw => ?_)
    refine go_aload_n C dL_law_2472 2 rfl ?_
    refine go_c0V_i C [] vX12_rounds tw9_121 (ci := 12) rfl (m_X12_rounds (xl X) C.2.2.2.2.2.2.2.1 N hw.2) ⟨Nat.le_of_ble_eq_true rfl, Nat.le_of_ble_eq_true rfl, (by show c + 0 ≤ 603072; omega), (by show sl + 0 ≤ 7207018; omega)⟩ ⟨rfl, rfl⟩ hw.1 dL_law_2473 rfl (Nat.le_of_ble_eq_true rfl) rfl (fun v350 h351 hw => ?_)
    refine go_icmp_eq C 2663 dL_law_2476 (by decide) hw (fun hw => ?_) (fun hw => ?_)
    · refine go_iinc C (x12 + 6) [(5, iV (x12 + 6)), (0, rV (some b)), (1, rV (some a1)), (2, rV (some a4)), (3, rV (some a7)), (4, rV (some a9))] dL_law_2663 5 rfl (by rw [kc_i6]) (Nat.le_of_ble_eq_true rfl) rfl ?_
      refine go_goto C 28 dL_law_2666 (by decide) ?_
      refine go_sub [1, 2, 3, 4, 5, 0] rfl ?_
      exact hj28 _ _ hw (kk + 1) _ _ (by rw [exi]; exact nI6 kk) (by omega) (by show c ≤ _; omega) (by show sl ≤ _; omega)
    refine go_iconst C 0 dL_law_2479 kc_i0 ?_
    exact False.elim hw
  replace hw := hw.2 n34
  by_cases n35 : (v13 &&& 63) = (35 : Int32)
  · refine go_tswIn C 35 n35 (by decide) (by decide) dL_law_45 (off := 2436) (tgt := 2481) (by rfl) (by decide) ?_
    replace hw := hw.1 n35
    refine go_aload_n C dL_law_2481 1 rfl ?_
    refine go_pV_l C [] vX11_print tw2_43 (ci := 11) rfl (m_X11_print (xl X) C.2.2.2.2.2.2.2.1 N hw.2) ⟨Nat.le_of_ble_eq_true rfl, Nat.le_of_ble_eq_true rfl, (by show c + 0 ≤ 603072; omega), (by show sl + 0 ≤ 7207018; omega)⟩ ⟨rfl, rfl⟩ hw.1 dL_law_2482 rfl (Nat.le_of_ble_eq_true rfl) rfl (fun v352 hw => ?_)
    refine go_aload_n C dL_law_2485 2 rfl ?_
    refine go_c0V_l C [] vX12_print tw9_125 (ci := 12) rfl (m_X12_print (xl X) C.2.2.2.2.2.2.2.1 N hw.2) ⟨Nat.le_of_ble_eq_true rfl, Nat.le_of_ble_eq_true rfl, (by show c + 0 ≤ 603072; omega), (by show sl + 0 ≤ 7207018; omega)⟩ ⟨rfl, rfl⟩ hw.1 dL_law_2486 rfl (Nat.le_of_ble_eq_true rfl) rfl (fun v353 h354 hw => ?_)
    refine go_lcmp C dL_law_2489 ?_
    refine go_if_eq C 2663 dL_law_2490 (by decide) hw (fun hw => ?_) (fun hw => ?_)
    · refine go_iinc C (x12 + 6) [(5, iV (x12 + 6)), (0, rV (some b)), (1, rV (some a1)), (2, rV (some a4)), (3, rV (some a7)), (4, rV (some a9))] dL_law_2663 5 rfl (by rw [kc_i6]) (Nat.le_of_ble_eq_true rfl) rfl ?_
      refine go_goto C 28 dL_law_2666 (by decide) ?_
      refine go_sub [1, 2, 3, 4, 5, 0] rfl ?_
      exact hj28 _ _ hw (kk + 1) _ _ (by rw [exi]; exact nI6 kk) (by omega) (by show c ≤ _; omega) (by show sl ≤ _; omega)
    refine go_iconst C 0 dL_law_2493 kc_i0 ?_
    exact False.elim hw
  replace hw := hw.2 n35
  by_cases n36 : (v13 &&& 63) = (36 : Int32)
  · refine go_tswIn C 36 n36 (by decide) (by decide) dL_law_45 (off := 2450) (tgt := 2495) (by rfl) (by decide) ?_
    replace hw := hw.1 n36
    refine go_aload_n C dL_law_2495 1 rfl ?_
    refine go_aload_n C dL_law_2496 0 rfl ?_
    refine go_iload C dL_law_2497 5 rfl ?_
    refine go_iconst C 1 dL_law_2499 kc_i1 ?_
    refine go_iadd C dL_law_2500 ?_
    refine go_sld C S dL_law_2501 hw (fun v355 hw => ?_)
    refine go_aload_n C dL_law_2502 0 rfl ?_
    refine go_iload C dL_law_2503 5 rfl ?_
    refine go_iconst C 2 dL_law_2505 kc_i2 ?_
    refine go_iadd C dL_law_2506 ?_
    refine go_sld C S dL_law_2507 hw (fun v356 hw => ?_)
    refine go_aload C dL_law_2508 4 rfl ?_
    refine go_callSH_i C [rV (some a1), iV v355, iV v356, rV (some a9)] vL_hitShare tw7_45 (m_L_hitShare (xl X) C.2.2.2.2.2.2.2.1 N hw) ⟨Nat.le_of_ble_eq_true rfl, Nat.le_of_ble_eq_true rfl, (by show c + 4 ≤ 603072; omega), (by show sl + 24 ≤ 7207018; omega)⟩ dL_law_2510 rfl (Nat.le_of_ble_eq_true rfl) rfl (fun v357 h358 hw => ?_)
    refine go_istore C [(6, iV v357), (0, rV (some b)), (1, rV (some a1)), (2, rV (some a4)), (3, rV (some a7)), (4, rV (some a9)), (5, iV x12)] dL_law_2513 (Nat.le_of_ble_eq_true rfl) rfl ?_
    refine go_aload_n C dL_law_2515 3 rfl ?_
    refine go_aload_n C dL_law_2516 1 rfl ?_
    refine go_iload C dL_law_2517 6 rfl ?_
    refine go_iconst C 1 dL_law_2519 kc_i1 ?_
    refine go_iadd C dL_law_2520 ?_
    refine go_sld C S dL_law_2521 hw (fun v359 hw => ?_)
    refine go_aload_n C dL_law_2522 1 rfl ?_
    refine go_iload C dL_law_2523 6 rfl ?_
    refine go_iconst C 2 dL_law_2525 kc_i2 ?_
    refine go_iadd C dL_law_2526 ?_
    refine go_sld C S dL_law_2527 hw (fun v360 hw => ?_)
    refine go_c0V_f C [iV v359, iV v360] vX12_hitShare tw9_131 (ci := 12) rfl (m_X12_hitShare (xl X) C.2.2.2.2.2.2.2.1 N hw.2) ⟨Nat.le_of_ble_eq_true rfl, Nat.le_of_ble_eq_true rfl, (by show c + 4 + 0 ≤ 603072; omega), (by show sl + 24 + 0 ≤ 7207018; omega)⟩ ⟨rfl, rfl⟩ hw.1 dL_law_2528 rfl (Nat.le_of_ble_eq_true rfl) rfl (fun v361 h362 hw => ?_)
    refine go_fstore C [(7, fV v361), (6, iV v357), (0, rV (some b)), (1, rV (some a1)), (2, rV (some a4)), (3, rV (some a7)), (4, rV (some a9)), (5, iV x12)] dL_law_2531 (Nat.le_of_ble_eq_true rfl) rfl ?_
    refine go_aload_n C dL_law_2533 4 rfl ?_
    refine go_pV_i C [] vX12_thrown tw8_12 (ci := 12) rfl (m_X12_thrown (xl X) C.2.2.2.2.2.2.2.1 N hw.2) ⟨Nat.le_of_ble_eq_true rfl, Nat.le_of_ble_eq_true rfl, (by show c + 4 + 0 ≤ 603072; omega), (by show sl + 24 + 0 ≤ 7207018; omega)⟩ ⟨rfl, rfl⟩ hw.1 dL_law_2534 rfl (Nat.le_of_ble_eq_true rfl) rfl (fun v363 hw => ?_)
    refine go_iload C dL_law_2537 1 rfl ?_
    refine go_icmp_eq C 2544 dL_law_2539 (by decide) hw (fun hw => ?_) (fun hw => ?_)
    · refine go_iload C dL_law_2544 1 rfl ?_
      refine jn_elim (P := fun j => j  → Go G X room_1 9 (c + rmL_hitShare.cells) (sl + rmL_hitShare.slots) (lw_Z below #[Value.ref b] s) h362 2582 [(0, rV (some b)), (1, rV (some a1)), (2, rV (some a4)), (3, rV (some a7)), (4, rV (some a9)), (5, iV x12)] []) hw (fun  hw => ?_) (fun j2582 hj2582 hw => ?_)
      · refine go_goto C 2663 dL_law_2582 (by decide) ?_
        refine go_iinc C (x12 + 6) [(5, iV (x12 + 6)), (0, rV (some b)), (1, rV (some a1)), (2, rV (some a4)), (3, rV (some a7)), (4, rV (some a9))] dL_law_2663 5 rfl (by rw [kc_i6]) (Nat.le_of_ble_eq_true rfl) rfl ?_
        refine go_goto C 28 dL_law_2666 (by decide) ?_
        refine go_sub [1, 2, 3, 4, 5, 0] rfl ?_
        exact hj28 _ _ hw (kk + 1) _ _ (by rw [exi]; exact nI6 kk) (by omega) (by show c + 4 ≤ _; omega) (by show sl + 24 ≤ _; omega)
      refine go_if_ne C 2582 dL_law_2546 (by decide) hw (fun hw => ?_) (fun hw => ?_)
      · refine go_sub [2, 3, 4, 5, 6, 7] rfl ?_
        exact hj2582  hw
      refine go_aload C dL_law_2549 6 rfl ?_
      refine go_iconst C 0 dL_law_2551 kc_i0 ?_
      refine go_daload C dL_law_2552 hw (fun v364 hw => ?_)
      refine go_fload C dL_law_2553 0 rfl ?_
      refine go_f2d C dL_law_2555 hw (fun hw => ?_)
      refine go_dcmp C dL_law_2556 ?_
      refine go_if_eq C 2582 dL_law_2557 (by decide) hw (fun hw => ?_) (fun hw => ?_)
      · refine go_sub [2, 3, 4, 5, 6, 7] rfl ?_
        exact hj2582  hw
      refine go_aload C dL_law_2560 6 rfl ?_
      refine go_iconst C 0 dL_law_2562 kc_i0 ?_
      refine go_daload C dL_law_2563 hw (fun v365 hw => ?_)
      refine go_aload C dL_law_2564 6 rfl ?_
      refine go_iconst C 0 dL_law_2566 kc_i0 ?_
      refine go_daload C dL_law_2567 hw (fun v366 hw => ?_)
      refine go_dcmp C dL_law_2568 ?_
      refine go_if_eq C 2580 dL_law_2569 (by decide) hw (fun hw => ?_) (fun hw => ?_)
      · refine go_iconst C 0 dL_law_2580 kc_i0 ?_
        exact False.elim hw
      refine go_fload C dL_law_2572 0 rfl ?_
      refine go_fload C dL_law_2574 0 rfl ?_
      refine go_fcmp C dL_law_2576 ?_
      refine go_if_ne C 2582 dL_law_2577 (by decide) hw (fun hw => ?_) (fun hw => ?_)
      · refine go_sub [2, 3, 4, 5, 6, 7] rfl ?_
        exact hj2582  hw
      refine go_iconst C 0 dL_law_2580 kc_i0 ?_
      exact False.elim hw
    refine go_iconst C 0 dL_law_2542 kc_i0 ?_
    exact False.elim hw
  replace hw := hw.2 n36
  by_cases n37 : (v13 &&& 63) = (37 : Int32)
  · refine go_tswIn C 37 n37 (by decide) (by decide) dL_law_45 (off := 2540) (tgt := 2585) (by rfl) (by decide) ?_
    replace hw := hw.1 n37
    refine go_aload_n C dL_law_2585 1 rfl ?_
    refine go_aload C dL_law_2586 4 rfl ?_
    refine go_callSH_i C [rV (some a1), rV (some a9)] vL_meanMisses tw7_69 (m_L_meanMisses (xl X) C.2.2.2.2.2.2.2.1 N hw) ⟨Nat.le_of_ble_eq_true rfl, Nat.le_of_ble_eq_true rfl, (by show c + 1 ≤ 603072; omega), (by show sl + 6 ≤ 7207018; omega)⟩ dL_law_2588 rfl (Nat.le_of_ble_eq_true rfl) rfl (fun v367 h368 hw => ?_)
    refine go_istore C [(6, iV v367), (0, rV (some b)), (1, rV (some a1)), (2, rV (some a4)), (3, rV (some a7)), (4, rV (some a9)), (5, iV x12)] dL_law_2591 (Nat.le_of_ble_eq_true rfl) rfl ?_
    refine go_aload_n C dL_law_2593 3 rfl ?_
    refine go_c0V_d C [] vX12_meanMisses tw9_135 (ci := 12) rfl (m_X12_meanMisses (xl X) C.2.2.2.2.2.2.2.1 N hw.2) ⟨Nat.le_of_ble_eq_true rfl, Nat.le_of_ble_eq_true rfl, (by show c + 1 + 0 ≤ 603072; omega), (by show sl + 6 + 0 ≤ 7207018; omega)⟩ ⟨rfl, rfl⟩ hw.1 dL_law_2594 rfl (Nat.le_of_ble_eq_true rfl) rfl (fun v369 h370 hw => ?_)
    refine go_dstore C [(7, dV v369), (6, iV v367), (0, rV (some b)), (1, rV (some a1)), (2, rV (some a4)), (3, rV (some a7)), (4, rV (some a9)), (5, iV x12)] dL_law_2597 (Nat.le_of_ble_eq_true rfl) rfl ?_
    refine go_aload_n C dL_law_2599 4 rfl ?_
    refine go_pV_i C [] vX12_thrown tw8_12 (ci := 12) rfl (m_X12_thrown (xl X) C.2.2.2.2.2.2.2.1 N hw.2) ⟨Nat.le_of_ble_eq_true rfl, Nat.le_of_ble_eq_true rfl, (by show c + 1 + 0 ≤ 603072; omega), (by show sl + 6 + 0 ≤ 7207018; omega)⟩ ⟨rfl, rfl⟩ hw.1 dL_law_2600 rfl (Nat.le_of_ble_eq_true rfl) rfl (fun v371 hw => ?_)
    refine go_iload C dL_law_2603 1 rfl ?_
    refine go_icmp_eq C 2610 dL_law_2605 (by decide) hw (fun hw => ?_) (fun hw => ?_)
    · refine go_iload C dL_law_2610 1 rfl ?_
      refine jn_elim (P := fun j => j  → Go G X room_1 9 (c + rmL_meanMisses.cells) (sl + rmL_meanMisses.slots) (lw_Z below #[Value.ref b] s) h370 2647 [(0, rV (some b)), (1, rV (some a1)), (2, rV (some a4)), (3, rV (some a7)), (4, rV (some a9)), (5, iV x12)] []) hw (fun  hw => ?_) (fun j2647 hj2647 hw => ?_)
      · refine go_goto C 2663 dL_law_2647 (by decide) ?_
        refine go_iinc C (x12 + 6) [(5, iV (x12 + 6)), (0, rV (some b)), (1, rV (some a1)), (2, rV (some a4)), (3, rV (some a7)), (4, rV (some a9))] dL_law_2663 5 rfl (by rw [kc_i6]) (Nat.le_of_ble_eq_true rfl) rfl ?_
        refine go_goto C 28 dL_law_2666 (by decide) ?_
        refine go_sub [1, 2, 3, 4, 5, 0] rfl ?_
        exact hj28 _ _ hw (kk + 1) _ _ (by rw [exi]; exact nI6 kk) (by omega) (by show c + 1 ≤ _; omega) (by show sl + 6 ≤ _; omega)
      refine go_if_ne C 2647 dL_law_2612 (by decide) hw (fun hw => ?_) (fun hw => ?_)
      · refine go_sub [2, 3, 4, 5, 6, 7] rfl ?_
        exact hj2647  hw
      refine go_aload C dL_law_2615 6 rfl ?_
      refine go_iconst C 0 dL_law_2617 kc_i0 ?_
      refine go_daload C dL_law_2618 hw (fun v372 hw => ?_)
      refine go_dload C dL_law_2619 0 rfl ?_
      refine go_dcmp C dL_law_2621 ?_
      refine go_if_eq C 2647 dL_law_2622 (by decide) hw (fun hw => ?_) (fun hw => ?_)
      · refine go_sub [2, 3, 4, 5, 6, 7] rfl ?_
        exact hj2647  hw
      refine go_aload C dL_law_2625 6 rfl ?_
      refine go_iconst C 0 dL_law_2627 kc_i0 ?_
      refine go_daload C dL_law_2628 hw (fun v373 hw => ?_)
      refine go_aload C dL_law_2629 6 rfl ?_
      refine go_iconst C 0 dL_law_2631 kc_i0 ?_
      refine go_daload C dL_law_2632 hw (fun v374 hw => ?_)
      refine go_dcmp C dL_law_2633 ?_
      refine go_if_eq C 2645 dL_law_2634 (by decide) hw (fun hw => ?_) (fun hw => ?_)
      · refine go_iconst C 0 dL_law_2645 kc_i0 ?_
        exact False.elim hw
      refine go_dload C dL_law_2637 0 rfl ?_
      refine go_dload C dL_law_2639 0 rfl ?_
      refine go_dcmp C dL_law_2641 ?_
      refine go_if_ne C 2647 dL_law_2642 (by decide) hw (fun hw => ?_) (fun hw => ?_)
      · refine go_sub [2, 3, 4, 5, 6, 7] rfl ?_
        exact hj2647  hw
      refine go_iconst C 0 dL_law_2645 kc_i0 ?_
      exact False.elim hw
    refine go_iconst C 0 dL_law_2608 kc_i0 ?_
    exact False.elim hw
  replace hw := hw.2 n37
  by_cases n38 : (v13 &&& 63) = (38 : Int32)
  · refine go_tswIn C 38 n38 (by decide) (by decide) dL_law_45 (off := 2605) (tgt := 2650) (by rfl) (by decide) ?_
    replace hw := hw.1 n38
    refine go_aload_n C dL_law_2650 1 rfl ?_
    refine go_c0V_i C [] vX11_isSound tw2_66 (ci := 11) rfl (m_X11_isSound (xl X) C.2.2.2.2.2.2.2.1 N hw.2) ⟨Nat.le_of_ble_eq_true rfl, Nat.le_of_ble_eq_true rfl, (by show c + 0 ≤ 603072; omega), (by show sl + 0 ≤ 7207018; omega)⟩ ⟨rfl, rfl⟩ hw.1 dL_law_2651 rfl (Nat.le_of_ble_eq_true rfl) rfl (fun v375 h376 hw => ?_)
    refine go_aload_n C dL_law_2654 2 rfl ?_
    refine go_c0V_i C [] vX12_isSound tw9_139 (ci := 12) rfl (m_X12_isSound (xl X) C.2.2.2.2.2.2.2.1 N hw.2) ⟨Nat.le_of_ble_eq_true rfl, Nat.le_of_ble_eq_true rfl, (by show c + 0 ≤ 603072; omega), (by show sl + 0 ≤ 7207018; omega)⟩ ⟨rfl, rfl⟩ hw.1 dL_law_2655 rfl (Nat.le_of_ble_eq_true rfl) rfl (fun v377 h378 hw => ?_)
    refine go_icmp_eq C 2663 dL_law_2658 (by decide) hw (fun hw => ?_) (fun hw => ?_)
    · refine go_iinc C (x12 + 6) [(5, iV (x12 + 6)), (0, rV (some b)), (1, rV (some a1)), (2, rV (some a4)), (3, rV (some a7)), (4, rV (some a9))] dL_law_2663 5 rfl (by rw [kc_i6]) (Nat.le_of_ble_eq_true rfl) rfl ?_
      refine go_goto C 28 dL_law_2666 (by decide) ?_
      refine go_sub [1, 2, 3, 4, 5, 0] rfl ?_
      exact hj28 _ _ hw (kk + 1) _ _ (by rw [exi]; exact nI6 kk) (by omega) (by show c ≤ _; omega) (by show sl ≤ _; omega)
    refine go_iconst C 0 dL_law_2661 kc_i0 ?_
    exact False.elim hw
  replace hw := hw.2 n38
  refine go_tswOut C 39 (by decide) (by decide) (fun q9 hq9 => ?_) dL_law_45 (tgt := 2663) (by decide) ?_
  · match q9, hq9 with
    | 0, _ => exact n0
    | 1, _ => exact n1
    | 2, _ => exact n2
    | 3, _ => exact n3
    | 4, _ => exact n4
    | 5, _ => exact n5
    | 6, _ => exact n6
    | 7, _ => exact n7
    | 8, _ => exact n8
    | 9, _ => exact n9
    | 10, _ => exact n10
    | 11, _ => exact n11
    | 12, _ => exact n12
    | 13, _ => exact n13
    | 14, _ => exact n14
    | 15, _ => exact n15
    | 16, _ => exact n16
    | 17, _ => exact n17
    | 18, _ => exact n18
    | 19, _ => exact n19
    | 20, _ => exact n20
    | 21, _ => exact n21
    | 22, _ => exact n22
    | 23, _ => exact n23
    | 24, _ => exact n24
    | 25, _ => exact n25
    | 26, _ => exact n26
    | 27, _ => exact n27
    | 28, _ => exact n28
    | 29, _ => exact n29
    | 30, _ => exact n30
    | 31, _ => exact n31
    | 32, _ => exact n32
    | 33, _ => exact n33
    | 34, _ => exact n34
    | 35, _ => exact n35
    | 36, _ => exact n36
    | 37, _ => exact n37
    | 38, _ => exact n38
    | q9 + 39, hq9 => exact absurd hq9 (by omega)
  refine go_iinc C (x12 + 6) [(5, iV (x12 + 6)), (0, rV (some b)), (1, rV (some a1)), (2, rV (some a4)), (3, rV (some a7)), (4, rV (some a9))] dL_law_2663 5 rfl (by rw [kc_i6]) (Nat.le_of_ble_eq_true rfl) rfl ?_
  refine go_goto C 28 dL_law_2666 (by decide) ?_
  refine go_sub [1, 2, 3, 4, 5, 0] rfl ?_
  exact hj28 _ _ hw (kk + 1) _ _ (by rw [exi]; exact nI6 kk) (by omega) (by show c ≤ _; omega) (by show sl ≤ _; omega)
