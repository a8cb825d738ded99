section ZLAW
def z_law (N Ln : Nat) (xs9 : Nat → Int32) (h0 : St) : Prop :=
  fx2 (fun (w28 : Int32 → St → Prop) (x12 : Int32) (h11 : St) =>
    br (((Int32.ofNat Ln) - 6) < x12) (
      True) (
      aS Ln xs9 x12 fun v13 =>
      br ((v13 &&& 63) = (0 : Int32)) (
        aS Ln xs9 (x12 + 1) fun v14 =>
        z_L_table N (some 0) v14 h11 fun v15 h16 =>
        aS Ln xs9 (x12 + 1) fun v17 =>
        z_X12_table N 0 v17 h16 fun v18 h19 =>
        z_X12_thrown N 0 h19 fun v20 =>
        br (v20 = v15) (
          jn (
            w28 (x12 + 6) h19) (fun j269 =>
            br (v15 = 0) (
              wI 1 (0 : Int32) <|
              br ((lg_cmp (sL_ h19 13 0 0 ((0 : Int32)).toNatClampNeg) ((v18 : Int32).toInt64)) = 0) (
                j269) (
                False)) (
              j269))) (
          False)) (
        br ((v13 &&& 63) = (1 : Int32)) (
          aS Ln xs9 (x12 + 1) fun v22 =>
          aS Ln xs9 (x12 + 2) fun v23 =>
          aS Ln xs9 (x12 + 3) fun v24 =>
          aS Ln xs9 (x12 + 4) fun v25 =>
          z_L_bound N (some 0) v22 v23 v24 v25 h11 fun v26 h27 =>
          aS Ln xs9 (x12 + 1) fun v28 =>
          aS Ln xs9 (x12 + 2) fun v29 =>
          aS Ln xs9 (x12 + 3) fun v30 =>
          aS Ln xs9 (x12 + 4) fun v31 =>
          z_X12_bound N 0 v28 v29 v30 v31 h27 fun v32 h33 =>
          z_X12_thrown N 0 h33 fun v34 =>
          br (v34 = v26) (
            jn (
              w28 (x12 + 6) h33) (fun j361 =>
              br (v26 = 0) (
                wI 1 (0 : Int32) <|
                br ((lg_cmp (sL_ h33 13 0 0 ((0 : Int32)).toNatClampNeg) ((v32 : Int32).toInt64)) = 0) (
                  j361) (
                  False)) (
                j361))) (
            False)) (
          br ((v13 &&& 63) = (2 : Int32)) (
            aS Ln xs9 (x12 + 1) fun v36 =>
            aS Ln xs9 (x12 + 2) fun v37 =>
            aS Ln xs9 (x12 + 3) fun v38 =>
            aS Ln xs9 (x12 + 4) fun v39 =>
            z_L_insert N (some 0) v36 v37 v38 v39 h11 fun v40 h41 =>
            aS Ln xs9 (x12 + 1) fun v42 =>
            aS Ln xs9 (x12 + 2) fun v43 =>
            aS Ln xs9 (x12 + 3) fun v44 =>
            aS Ln xs9 (x12 + 4) fun v45 =>
            z_X12_insert N 0 v42 v43 v44 v45 h41 fun v46 h47 =>
            z_X12_thrown N 0 h47 fun v48 =>
            br (v48 = v40) (
              jn (
                w28 (x12 + 6) h47) (fun j453 =>
                br (v40 = 0) (
                  wI 1 (0 : Int32) <|
                  br ((lg_cmp (sL_ h47 13 0 0 ((0 : Int32)).toNatClampNeg) ((v46 : Int32).toInt64)) = 0) (
                    j453) (
                    False)) (
                  j453))) (
              False)) (
            br ((v13 &&& 63) = (3 : Int32)) (
              aS Ln xs9 (x12 + 1) fun v50 =>
              aS Ln xs9 (x12 + 2) fun v51 =>
              z_L_remove N (some 0) v50 v51 h11 fun v52 h53 =>
              aS Ln xs9 (x12 + 1) fun v54 =>
              aS Ln xs9 (x12 + 2) fun v55 =>
              z_X12_remove N 0 v54 v55 h53 fun v56 h57 =>
              z_X12_thrown N 0 h57 fun v58 =>
              br (v58 = v52) (
                jn (
                  w28 (x12 + 6) h57) (fun j521 =>
                  br (v52 = 0) (
                    wI 1 (0 : Int32) <|
                    br ((lg_cmp (sL_ h57 13 0 0 ((0 : Int32)).toNatClampNeg) ((v56 : Int32).toInt64)) = 0) (
                      j521) (
                      False)) (
                    j521))) (
                False)) (
              br ((v13 &&& 63) = (4 : Int32)) (
                aS Ln xs9 (x12 + 1) fun v60 =>
                z_L_count N (some 0) v60 h11 fun v61 h62 =>
                aS Ln xs9 (x12 + 1) fun v63 =>
                z_X12_count N 0 v63 h62 fun v64 h65 =>
                z_X12_thrown N 0 h65 fun v66 =>
                br (v66 = v61) (
                  jn (
                    w28 (x12 + 6) h65) (fun j577 =>
                    br (v61 = 0) (
                      wI 1 (0 : Int32) <|
                      br ((lg_cmp (sL_ h65 13 0 0 ((0 : Int32)).toNatClampNeg) ((v64 : Int32).toInt64)) = 0) (
                        j577) (
                        False)) (
                      j577))) (
                  False)) (
                br ((v13 &&& 63) = (5 : Int32)) (
                  aS Ln xs9 (x12 + 1) fun v68 =>
                  aS Ln xs9 (x12 + 2) fun v69 =>
                  z_L_index N (some 0) v68 v69 h11 fun v70 h71 =>
                  aS Ln xs9 (x12 + 1) fun v72 =>
                  aS Ln xs9 (x12 + 2) fun v73 =>
                  z_X12_index N 0 v72 v73 h71 fun v74 h75 =>
                  z_X12_thrown N 0 h75 fun v76 =>
                  br (v76 = v70) (
                    jn (
                      w28 (x12 + 6) h75) (fun j645 =>
                      br (v70 = 0) (
                        wI 1 (0 : Int32) <|
                        br ((lg_cmp (sL_ h75 13 0 0 ((0 : Int32)).toNatClampNeg) ((v74 : Int32).toInt64)) = 0) (
                          j645) (
                          False)) (
                        j645))) (
                    False)) (
                  br ((v13 &&& 63) = (6 : Int32)) (
                    aS Ln xs9 (x12 + 1) fun v78 =>
                    z_L_frames N (some 0) v78 h11 fun v79 h80 =>
                    aS Ln xs9 (x12 + 1) fun v81 =>
                    z_X12_frames N 0 v81 h80 fun v82 h83 =>
                    z_X12_thrown N 0 h83 fun v84 =>
                    br (v84 = v79) (
                      jn (
                        w28 (x12 + 6) h83) (fun j701 =>
                        br (v79 = 0) (
                          wI 1 (0 : Int32) <|
                          br ((lg_cmp (sL_ h83 13 0 0 ((0 : Int32)).toNatClampNeg) ((v82 : Int32).toInt64)) = 0) (
                            j701) (
                            False)) (
                          j701))) (
                      False)) (
                    br ((v13 &&& 63) = (7 : Int32)) (
                      aS Ln xs9 (x12 + 1) fun v86 =>
                      z_L_pages N (some 0) v86 h11 fun v87 h88 =>
                      aS Ln xs9 (x12 + 1) fun v89 =>
                      z_X12_pages N 0 v89 h88 fun v90 h91 =>
                      z_X12_thrown N 0 h91 fun v92 =>
                      br (v92 = v87) (
                        jn (
                          w28 (x12 + 6) h91) (fun j757 =>
                          br (v87 = 0) (
                            wI 1 (0 : Int32) <|
                            br ((lg_cmp (sL_ h91 13 0 0 ((0 : Int32)).toNatClampNeg) ((v90 : Int32).toInt64)) = 0) (
                              j757) (
                              False)) (
                            j757))) (
                        False)) (
                      br ((v13 &&& 63) = (8 : Int32)) (
                        aS Ln xs9 (x12 + 1) fun v94 =>
                        aS Ln xs9 (x12 + 2) fun v95 =>
                        aS Ln xs9 (x12 + 3) fun v96 =>
                        z_L_value N (some 0) v94 v95 v96 h11 fun v97 h98 =>
                        aS Ln xs9 (x12 + 1) fun v99 =>
                        aS Ln xs9 (x12 + 2) fun v100 =>
                        aS Ln xs9 (x12 + 3) fun v101 =>
                        z_X12_value N 0 v99 v100 v101 h98 fun v102 h103 =>
                        z_X12_thrown N 0 h103 fun v104 =>
                        br (v104 = v97) (
                          jn (
                            w28 (x12 + 6) h103) (fun j837 =>
                            br (v97 = 0) (
                              wI 1 (0 : Int32) <|
                              br ((lg_cmp (sL_ h103 13 0 0 ((0 : Int32)).toNatClampNeg) ((v102 : Int32).toInt64)) = 0) (
                                j837) (
                                False)) (
                              j837))) (
                          False)) (
                        br ((v13 &&& 63) = (9 : Int32)) (
                          aS Ln xs9 (x12 + 1) fun v106 =>
                          z_L_entries N (some 0) v106 h11 fun v107 h108 =>
                          aS Ln xs9 (x12 + 1) fun v109 =>
                          z_X12_entries N 0 v109 h108 fun v110 h111 =>
                          z_X12_thrown N 0 h111 fun v112 =>
                          br (v112 = v107) (
                            jn (
                              w28 (x12 + 6) h111) (fun j893 =>
                              br (v107 = 0) (
                                wI 1 (0 : Int32) <|
                                br ((lg_cmp (sL_ h111 13 0 0 ((0 : Int32)).toNatClampNeg) ((v110 : Int32).toInt64)) = 0) (
                                  j893) (
                                  False)) (
                                j893))) (
                            False)) (
                          br ((v13 &&& 63) = (10 : Int32)) (
                            aS Ln xs9 (x12 + 1) fun v114 =>
                            aS Ln xs9 (x12 + 2) fun v115 =>
                            z_L_entryAt N (some 0) v114 v115 h11 fun v116 h117 =>
                            aS Ln xs9 (x12 + 1) fun v118 =>
                            aS Ln xs9 (x12 + 2) fun v119 =>
                            z_X12_entryAt N 0 v118 v119 h117 fun v120 h121 =>
                            z_X12_thrown N 0 h121 fun v122 =>
                            br (v122 = v116) (
                              jn (
                                w28 (x12 + 6) h121) (fun j961 =>
                                br (v116 = 0) (
                                  wI 1 (0 : Int32) <|
                                  br ((lg_cmp (sL_ h121 13 0 0 ((0 : Int32)).toNatClampNeg) ((v120 : Int32).toInt64)) = 0) (
                                    j961) (
                                    False)) (
                                  j961))) (
                              False)) (
                            br ((v13 &&& 63) = (11 : Int32)) (
                              aS Ln xs9 (x12 + 1) fun v124 =>
                              aS Ln xs9 (x12 + 2) fun v125 =>
                              aS Ln xs9 (x12 + 3) fun v126 =>
                              z_L_counted N (some 0) v124 v125 (((v126 : Int32).toUInt32 % 65536).toInt32) h11 fun v127 h128 =>
                              aS Ln xs9 (x12 + 1) fun v129 =>
                              aS Ln xs9 (x12 + 2) fun v130 =>
                              aS Ln xs9 (x12 + 3) fun v131 =>
                              z_X12_counted N 0 v129 v130 (((v131 : Int32).toUInt32 % 65536).toInt32) h128 fun v132 h133 =>
                              z_X12_thrown N 0 h133 fun v134 =>
                              br (v134 = v127) (
                                jn (
                                  w28 (x12 + 6) h133) (fun j1043 =>
                                  br (v127 = 0) (
                                    wI 1 (0 : Int32) <|
                                    br ((lg_cmp (sL_ h133 13 0 0 ((0 : Int32)).toNatClampNeg) ((v132 : Int32).toInt64)) = 0) (
                                      j1043) (
                                      False)) (
                                    j1043))) (
                                False)) (
                              br ((v13 &&& 63) = (12 : Int32)) (
                                z_X11_cached N 0 h11 fun v136 =>
                                z_X12_cached N 0 h11 fun v137 h138 =>
                                br (v136 = v137) (
                                  w28 (x12 + 6) h138) (
                                  False)) (
                                br ((v13 &&& 63) = (13 : Int32)) (
                                  aS Ln xs9 (x12 + 1) fun v139 =>
                                  z_L_cachedAt N (some 0) v139 h11 fun v140 h141 =>
                                  aS Ln xs9 (x12 + 1) fun v142 =>
                                  z_X12_cachedAt N 0 v142 h141 fun v143 h144 =>
                                  z_X12_thrown N 0 h144 fun v145 =>
                                  br (v145 = v140) (
                                    jn (
                                      w28 (x12 + 6) h144) (fun j1112 =>
                                      br (v140 = 0) (
                                        wI 1 (0 : Int32) <|
                                        br ((lg_cmp (sL_ h144 13 0 0 ((0 : Int32)).toNatClampNeg) ((v143 : Int32).toInt64)) = 0) (
                                          j1112) (
                                          False)) (
                                        j1112))) (
                                    False)) (
                                  br ((v13 &&& 63) = (14 : Int32)) (
                                    z_X11_flush N 0 h11 fun v147 h148 =>
                                    z_X12_flush N 0 h148 fun v149 h150 =>
                                    br (v147 = v149) (
                                      w28 (x12 + 6) h150) (
                                      False)) (
                                    br ((v13 &&& 63) = (15 : Int32)) (
                                      z_L_query N (some 0) h11 fun v151 h152 =>
                                      z_X12_query N 0 h152 fun v153 h154 =>
                                      z_X12_thrown N 0 h154 fun v155 =>
                                      br (v155 = v151) (
                                        jn (
                                          w28 (x12 + 6) h154) (fun j1169 =>
                                          br (v151 = 0) (
                                            wI 1 (0 : Int32) <|
                                            br ((lg_cmp (sL_ h154 13 0 0 ((0 : Int32)).toNatClampNeg) ((v153 : Int32).toInt64)) = 0) (
                                              j1169) (
                                              False)) (
                                            j1169))) (
                                        False)) (
                                      br ((v13 &&& 63) = (16 : Int32)) (
                                        aS Ln xs9 (x12 + 1) fun v157 =>
                                        aS Ln xs9 (x12 + 2) fun v158 =>
                                        z_L_from N (some 0) v157 v158 h11 fun v159 h160 =>
                                        aS Ln xs9 (x12 + 1) fun v161 =>
                                        aS Ln xs9 (x12 + 2) fun v162 =>
                                        z_X12_from N 0 v161 v162 h160 fun v163 h164 =>
                                        z_X12_thrown N 0 h164 fun v165 =>
                                        br (v165 = v159) (
                                          jn (
                                            w28 (x12 + 6) h164) (fun j1237 =>
                                            br (v159 = 0) (
                                              wI 1 (0 : Int32) <|
                                              br ((lg_cmp (sL_ h164 13 0 0 ((0 : Int32)).toNatClampNeg) ((v163 : Int32).toInt64)) = 0) (
                                                j1237) (
                                                False)) (
                                              j1237))) (
                                          False)) (
                                        br ((v13 &&& 63) = (17 : Int32)) (
                                          aS Ln xs9 (x12 + 1) fun v167 =>
                                          aS Ln xs9 (x12 + 2) fun v168 =>
                                          aS Ln xs9 (x12 + 3) fun v169 =>
                                          aS Ln xs9 (x12 + 4) fun v170 =>
                                          aS Ln xs9 (x12 + 5) fun v171 =>
                                          z_L_where N (some 0) v167 v168 v169 (((v170 : Int32).toUInt32 % 65536).toInt32) v171 h11 fun v172 h173 =>
                                          aS Ln xs9 (x12 + 1) fun v174 =>
                                          aS Ln xs9 (x12 + 2) fun v175 =>
                                          aS Ln xs9 (x12 + 3) fun v176 =>
                                          aS Ln xs9 (x12 + 4) fun v177 =>
                                          aS Ln xs9 (x12 + 5) fun v178 =>
                                          z_X12_where N 0 v174 v175 v176 (((v177 : Int32).toUInt32 % 65536).toInt32) v178 h173 fun v179 h180 =>
                                          z_X12_thrown N 0 h180 fun v181 =>
                                          br (v181 = v172) (
                                            jn (
                                              w28 (x12 + 6) h180) (fun j1343 =>
                                              br (v172 = 0) (
                                                wI 1 (0 : Int32) <|
                                                br ((lg_cmp (sL_ h180 13 0 0 ((0 : Int32)).toNatClampNeg) ((v179 : Int32).toInt64)) = 0) (
                                                  j1343) (
                                                  False)) (
                                                j1343))) (
                                            False)) (
                                          br ((v13 &&& 63) = (18 : Int32)) (
                                            aS Ln xs9 (x12 + 1) fun v183 =>
                                            aS Ln xs9 (x12 + 2) fun v184 =>
                                            aS Ln xs9 (x12 + 3) fun v185 =>
                                            aS Ln xs9 (x12 + 4) fun v186 =>
                                            aS Ln xs9 (x12 + 5) fun v187 =>
                                            z_L_join N (some 0) v183 v184 v185 v186 v187 h11 fun v188 h189 =>
                                            aS Ln xs9 (x12 + 1) fun v190 =>
                                            aS Ln xs9 (x12 + 2) fun v191 =>
                                            aS Ln xs9 (x12 + 3) fun v192 =>
                                            aS Ln xs9 (x12 + 4) fun v193 =>
                                            aS Ln xs9 (x12 + 5) fun v194 =>
                                            z_X12_join N 0 v190 v191 v192 v193 v194 h189 fun v195 h196 =>
                                            z_X12_thrown N 0 h196 fun v197 =>
                                            br (v197 = v188) (
                                              jn (
                                                w28 (x12 + 6) h196) (fun j1447 =>
                                                br (v188 = 0) (
                                                  wI 1 (0 : Int32) <|
                                                  br ((lg_cmp (sL_ h196 13 0 0 ((0 : Int32)).toNatClampNeg) ((v195 : Int32).toInt64)) = 0) (
                                                    j1447) (
                                                    False)) (
                                                  j1447))) (
                                              False)) (
                                            br ((v13 &&& 63) = (19 : Int32)) (
                                              aS Ln xs9 (x12 + 1) fun v199 =>
                                              z_L_answers N (some 0) v199 h11 fun v200 h201 =>
                                              aS Ln xs9 (x12 + 1) fun v202 =>
                                              z_X12_answers N 0 v202 h201 fun v203 h204 =>
                                              z_X12_thrown N 0 h204 fun v205 =>
                                              br (v205 = v200) (
                                                jn (
                                                  w28 (x12 + 6) h204) (fun j1503 =>
                                                  br (v200 = 0) (
                                                    wI 1 (0 : Int32) <|
                                                    br ((lg_cmp (sL_ h204 13 0 0 ((0 : Int32)).toNatClampNeg) ((v203 : Int32).toInt64)) = 0) (
                                                      j1503) (
                                                      False)) (
                                                    j1503))) (
                                                False)) (
                                              br ((v13 &&& 63) = (20 : Int32)) (
                                                aS Ln xs9 (x12 + 1) fun v207 =>
                                                aS Ln xs9 (x12 + 2) fun v208 =>
                                                aS Ln xs9 (x12 + 3) fun v209 =>
                                                z_L_answerAt N (some 0) v207 v208 v209 h11 fun v210 h211 =>
                                                aS Ln xs9 (x12 + 1) fun v212 =>
                                                aS Ln xs9 (x12 + 2) fun v213 =>
                                                aS Ln xs9 (x12 + 3) fun v214 =>
                                                z_X12_answerAt N 0 v212 v213 v214 h211 fun v215 h216 =>
                                                z_X12_thrown N 0 h216 fun v217 =>
                                                br (v217 = v210) (
                                                  jn (
                                                    w28 (x12 + 6) h216) (fun j1583 =>
                                                    br (v210 = 0) (
                                                      wI 1 (0 : Int32) <|
                                                      br ((lg_cmp (sL_ h216 13 0 0 ((0 : Int32)).toNatClampNeg) ((v215 : Int32).toInt64)) = 0) (
                                                        j1583) (
                                                        False)) (
                                                      j1583))) (
                                                  False)) (
                                                br ((v13 &&& 63) = (21 : Int32)) (
                                                  aS Ln xs9 (x12 + 1) fun v219 =>
                                                  aS Ln xs9 (x12 + 2) fun v220 =>
                                                  aS Ln xs9 (x12 + 3) fun v221 =>
                                                  z_L_sum N (some 0) v219 v220 v221 h11 fun v222 h223 =>
                                                  aS Ln xs9 (x12 + 1) fun v224 =>
                                                  aS Ln xs9 (x12 + 2) fun v225 =>
                                                  aS Ln xs9 (x12 + 3) fun v226 =>
                                                  z_X12_sum N 0 v224 v225 v226 h223 fun v227 h228 =>
                                                  z_X12_thrown N 0 h228 fun v229 =>
                                                  br (v229 = v222) (
                                                    jn (
                                                      w28 (x12 + 6) h228) (fun j1662 =>
                                                      br (v222 = 0) (
                                                        wI 1 (0 : Int32) <|
                                                        br ((lg_cmp (sL_ h228 13 0 0 ((0 : Int32)).toNatClampNeg) v227) = 0) (
                                                          j1662) (
                                                          False)) (
                                                        j1662))) (
                                                    False)) (
                                                  br ((v13 &&& 63) = (22 : Int32)) (
                                                    aS Ln xs9 (x12 + 1) fun v231 =>
                                                    aS Ln xs9 (x12 + 2) fun v232 =>
                                                    aS Ln xs9 (x12 + 3) fun v233 =>
                                                    z_L_planned N (some 0) v231 v232 v233 h11 fun v234 h235 =>
                                                    aS Ln xs9 (x12 + 1) fun v236 =>
                                                    aS Ln xs9 (x12 + 2) fun v237 =>
                                                    aS Ln xs9 (x12 + 3) fun v238 =>
                                                    z_X12_planned N 0 v236 v237 v238 h235 fun v239 h240 =>
                                                    z_X12_thrown N 0 h240 fun v241 =>
                                                    br (v241 = v234) (
                                                      jn (
                                                        w28 (x12 + 6) h240) (fun j1742 =>
                                                        br (v234 = 0) (
                                                          wI 1 (0 : Int32) <|
                                                          br ((lg_cmp (sL_ h240 13 0 0 ((0 : Int32)).toNatClampNeg) ((v239 : Int32).toInt64)) = 0) (
                                                            j1742) (
                                                            False)) (
                                                          j1742))) (
                                                      False)) (
                                                    br ((v13 &&& 63) = (23 : Int32)) (
                                                      aS Ln xs9 (x12 + 1) fun v243 =>
                                                      aS Ln xs9 (x12 + 2) fun v244 =>
                                                      aS Ln xs9 (x12 + 3) fun v245 =>
                                                      z_L_way N (some 0) v243 v244 v245 h11 fun v246 h247 =>
                                                      aS Ln xs9 (x12 + 1) fun v248 =>
                                                      aS Ln xs9 (x12 + 2) fun v249 =>
                                                      aS Ln xs9 (x12 + 3) fun v250 =>
                                                      z_X12_way N 0 v248 v249 v250 h247 fun v251 h252 =>
                                                      z_X12_thrown N 0 h252 fun v253 =>
                                                      br (v253 = v246) (
                                                        jn (
                                                          w28 (x12 + 6) h252) (fun j1822 =>
                                                          br (v246 = 0) (
                                                            wI 1 (0 : Int32) <|
                                                            br ((lg_cmp (sL_ h252 13 0 0 ((0 : Int32)).toNatClampNeg) ((v251 : Int32).toInt64)) = 0) (
                                                              j1822) (
                                                              False)) (
                                                            j1822))) (
                                                        False)) (
                                                      br ((v13 &&& 63) = (24 : Int32)) (
                                                        aS Ln xs9 (x12 + 1) fun v255 =>
                                                        aS Ln xs9 (x12 + 2) fun v256 =>
                                                        aS Ln xs9 (x12 + 3) fun v257 =>
                                                        z_L_usedIndex N (some 0) v255 v256 v257 h11 fun v258 h259 =>
                                                        aS Ln xs9 (x12 + 1) fun v260 =>
                                                        aS Ln xs9 (x12 + 2) fun v261 =>
                                                        aS Ln xs9 (x12 + 3) fun v262 =>
                                                        z_X12_usedIndex N 0 v260 v261 v262 h259 fun v263 h264 =>
                                                        z_X12_thrown N 0 h264 fun v265 =>
                                                        br (v265 = v258) (
                                                          jn (
                                                            w28 (x12 + 6) h264) (fun j1902 =>
                                                            br (v258 = 0) (
                                                              wI 1 (0 : Int32) <|
                                                              br ((lg_cmp (sL_ h264 13 0 0 ((0 : Int32)).toNatClampNeg) ((v263 : Int32).toInt64)) = 0) (
                                                                j1902) (
                                                                False)) (
                                                              j1902))) (
                                                          False)) (
                                                        br ((v13 &&& 63) = (25 : Int32)) (
                                                          aS Ln xs9 (x12 + 1) fun v267 =>
                                                          aS Ln xs9 (x12 + 2) fun v268 =>
                                                          z_L_estimate N (some 0) v267 v268 h11 fun v269 h270 =>
                                                          aS Ln xs9 (x12 + 1) fun v271 =>
                                                          aS Ln xs9 (x12 + 2) fun v272 =>
                                                          z_X12_estimate N 0 v271 v272 h270 fun v273 h274 =>
                                                          z_X12_thrown N 0 h274 fun v275 =>
                                                          br (v275 = v269) (
                                                            jn (
                                                              w28 (x12 + 6) h274) (fun j1969 =>
                                                              br (v269 = 0) (
                                                                wI 1 (0 : Int32) <|
                                                                br ((lg_cmp (sL_ h274 13 0 0 ((0 : Int32)).toNatClampNeg) v273) = 0) (
                                                                  j1969) (
                                                                  False)) (
                                                                j1969))) (
                                                            False)) (
                                                          br ((v13 &&& 63) = (26 : Int32)) (
                                                            aS Ln xs9 (x12 + 1) fun v277 =>
                                                            aS Ln xs9 (x12 + 2) fun v278 =>
                                                            z_L_cold N (some 0) v277 v278 h11 fun v279 h280 =>
                                                            aS Ln xs9 (x12 + 1) fun v281 =>
                                                            aS Ln xs9 (x12 + 2) fun v282 =>
                                                            z_X12_cold N 0 v281 v282 h280 fun v283 h284 =>
                                                            z_X12_thrown N 0 h284 fun v285 =>
                                                            br (v285 = v279) (
                                                              jn (
                                                                w28 (x12 + 6) h284) (fun j2037 =>
                                                                br (v279 = 0) (
                                                                  wI 1 (0 : Int32) <|
                                                                  br ((lg_cmp (sL_ h284 13 0 0 ((0 : Int32)).toNatClampNeg) ((v283 : Int32).toInt64)) = 0) (
                                                                    j2037) (
                                                                    False)) (
                                                                  j2037))) (
                                                              False)) (
                                                            br ((v13 &&& 63) = (27 : Int32)) (
                                                              aS Ln xs9 (x12 + 1) fun v287 =>
                                                              aS Ln xs9 (x12 + 2) fun v288 =>
                                                              z_L_reads N (some 0) v287 v288 h11 fun v289 h290 =>
                                                              aS Ln xs9 (x12 + 1) fun v291 =>
                                                              aS Ln xs9 (x12 + 2) fun v292 =>
                                                              z_X12_reads N 0 v291 v292 h290 fun v293 h294 =>
                                                              z_X12_thrown N 0 h294 fun v295 =>
                                                              br (v295 = v289) (
                                                                jn (
                                                                  w28 (x12 + 6) h294) (fun j2105 =>
                                                                  br (v289 = 0) (
                                                                    wI 1 (0 : Int32) <|
                                                                    br ((lg_cmp (sL_ h294 13 0 0 ((0 : Int32)).toNatClampNeg) ((v293 : Int32).toInt64)) = 0) (
                                                                      j2105) (
                                                                      False)) (
                                                                    j2105))) (
                                                                False)) (
                                                              br ((v13 &&& 63) = (28 : Int32)) (
                                                                aS Ln xs9 (x12 + 1) fun v297 =>
                                                                aS Ln xs9 (x12 + 2) fun v298 =>
                                                                z_L_ban N (some 0) v297 v298 h11 fun v299 h300 =>
                                                                aS Ln xs9 (x12 + 1) fun v301 =>
                                                                aS Ln xs9 (x12 + 2) fun v302 =>
                                                                z_X12_ban N 0 v301 v302 h300 fun v303 h304 =>
                                                                z_X12_thrown N 0 h304 fun v305 =>
                                                                br (v305 = v299) (
                                                                  jn (
                                                                    w28 (x12 + 6) h304) (fun j2173 =>
                                                                    br (v299 = 0) (
                                                                      wI 1 (0 : Int32) <|
                                                                      br ((lg_cmp (sL_ h304 13 0 0 ((0 : Int32)).toNatClampNeg) ((v303 : Int32).toInt64)) = 0) (
                                                                        j2173) (
                                                                        False)) (
                                                                      j2173))) (
                                                                  False)) (
                                                                br ((v13 &&& 63) = (29 : Int32)) (
                                                                  aS Ln xs9 (x12 + 1) fun v307 =>
                                                                  z_L_round N (some 0) v307 h11 fun v308 h309 =>
                                                                  aS Ln xs9 (x12 + 1) fun v310 =>
                                                                  z_X12_round N 0 v310 h309 fun v311 h312 =>
                                                                  z_X12_thrown N 0 h312 fun v313 =>
                                                                  br (v313 = v308) (
                                                                    jn (
                                                                      w28 (x12 + 6) h312) (fun j2229 =>
                                                                      br (v308 = 0) (
                                                                        wI 1 (0 : Int32) <|
                                                                        br ((lg_cmp (sL_ h312 13 0 0 ((0 : Int32)).toNatClampNeg) ((v311 : Int32).toInt64)) = 0) (
                                                                          j2229) (
                                                                          False)) (
                                                                        j2229))) (
                                                                    False)) (
                                                                  br ((v13 &&& 63) = (30 : Int32)) (
                                                                    aS Ln xs9 (x12 + 1) fun v315 =>
                                                                    z_L_appeal N (some 0) v315 h11 fun v316 h317 =>
                                                                    aS Ln xs9 (x12 + 1) fun v318 =>
                                                                    z_X12_appeal N 0 v318 h317 fun v319 h320 =>
                                                                    z_X12_thrown N 0 h320 fun v321 =>
                                                                    br (v321 = v316) (
                                                                      jn (
                                                                        w28 (x12 + 6) h320) (fun j2285 =>
                                                                        br (v316 = 0) (
                                                                          wI 1 (0 : Int32) <|
                                                                          br ((lg_cmp (sL_ h320 13 0 0 ((0 : Int32)).toNatClampNeg) ((v319 : Int32).toInt64)) = 0) (
                                                                            j2285) (
                                                                            False)) (
                                                                          j2285))) (
                                                                      False)) (
                                                                    br ((v13 &&& 63) = (31 : Int32)) (
                                                                      aS Ln xs9 (x12 + 1) fun v323 =>
                                                                      z_L_coins N (some 0) v323 h11 fun v324 h325 =>
                                                                      aS Ln xs9 (x12 + 1) fun v326 =>
                                                                      z_X12_coins N 0 v326 h325 fun v327 h328 =>
                                                                      z_X12_thrown N 0 h328 fun v329 =>
                                                                      br (v329 = v324) (
                                                                        jn (
                                                                          w28 (x12 + 6) h328) (fun j2341 =>
                                                                          br (v324 = 0) (
                                                                            wI 1 (0 : Int32) <|
                                                                            br ((lg_cmp (sL_ h328 13 0 0 ((0 : Int32)).toNatClampNeg) ((v327 : Int32).toInt64)) = 0) (
                                                                              j2341) (
                                                                              False)) (
                                                                            j2341))) (
                                                                        False)) (
                                                                      br ((v13 &&& 63) = (32 : Int32)) (
                                                                        aS Ln xs9 (x12 + 1) fun v331 =>
                                                                        aS Ln xs9 (x12 + 2) fun v332 =>
                                                                        z_L_misses N (some 0) v331 v332 h11 fun v333 h334 =>
                                                                        aS Ln xs9 (x12 + 1) fun v335 =>
                                                                        aS Ln xs9 (x12 + 2) fun v336 =>
                                                                        z_X12_misses N 0 v335 v336 h334 fun v337 h338 =>
                                                                        z_X12_thrown N 0 h338 fun v339 =>
                                                                        br (v339 = v333) (
                                                                          jn (
                                                                            w28 (x12 + 6) h338) (fun j2409 =>
                                                                            br (v333 = 0) (
                                                                              wI 1 (0 : Int32) <|
                                                                              br ((lg_cmp (sL_ h338 13 0 0 ((0 : Int32)).toNatClampNeg) ((v337 : Int32).toInt64)) = 0) (
                                                                                j2409) (
                                                                                False)) (
                                                                              j2409))) (
                                                                          False)) (
                                                                        br ((v13 &&& 63) = (33 : Int32)) (
                                                                          aS Ln xs9 (x12 + 1) fun v341 =>
                                                                          z_L_total N (some 0) v341 h11 fun v342 h343 =>
                                                                          aS Ln xs9 (x12 + 1) fun v344 =>
                                                                          z_X12_total N 0 v344 h343 fun v345 h346 =>
                                                                          z_X12_thrown N 0 h346 fun v347 =>
                                                                          br (v347 = v342) (
                                                                            jn (
                                                                              w28 (x12 + 6) h346) (fun j2465 =>
                                                                              br (v342 = 0) (
                                                                                wI 1 (0 : Int32) <|
                                                                                br ((lg_cmp (sL_ h346 13 0 0 ((0 : Int32)).toNatClampNeg) ((v345 : Int32).toInt64)) = 0) (
                                                                                  j2465) (
                                                                                  False)) (
                                                                                j2465))) (
                                                                            False)) (
                                                                          br ((v13 &&& 63) = (34 : Int32)) (
                                                                            z_X11_rounds N 0 h11 fun v349 =>
                                                                            z_X12_rounds N 0 h11 fun v350 h351 =>
                                                                            br (v349 = v350) (
                                                                              w28 (x12 + 6) h351) (
                                                                              False)) (
                                                                            br ((v13 &&& 63) = (35 : Int32)) (
                                                                              z_X11_print N 0 h11 fun v352 =>
                                                                              z_X12_print N 0 h11 fun v353 h354 =>
                                                                              br ((lg_cmp v352 v353) = 0) (
                                                                                w28 (x12 + 6) h354) (
                                                                                False)) (
                                                                              br ((v13 &&& 63) = (36 : Int32)) (
                                                                                aS Ln xs9 (x12 + 1) fun v355 =>
                                                                                aS Ln xs9 (x12 + 2) fun v356 =>
                                                                                z_L_hitShare N (some 0) v355 v356 h11 fun v357 h358 =>
                                                                                aS Ln xs9 (x12 + 1) fun v359 =>
                                                                                aS Ln xs9 (x12 + 2) fun v360 =>
                                                                                z_X12_hitShare N 0 v359 v360 h358 fun v361 h362 =>
                                                                                z_X12_thrown N 0 h362 fun v363 =>
                                                                                br (v363 = v357) (
                                                                                  jn (
                                                                                    w28 (x12 + 6) h362) (fun j2582 =>
                                                                                    br (v357 = 0) (
                                                                                      wI 1 (0 : Int32) <|
                                                                                      ok (vf_n64 (FP.f2d v361)) <|
                                                                                      br ((Op.cmpValue (FP.dcmp (sD_ h362 ((0 : Int32)).toNatClampNeg) (FP.f2d v361)) CmpOp.l) = 0) (
                                                                                        j2582) (
                                                                                        wI 1 (0 : Int32) <|
                                                                                        wI 1 (0 : Int32) <|
                                                                                        br ((Op.cmpValue (FP.dcmp (sD_ h362 ((0 : Int32)).toNatClampNeg) (sD_ h362 ((0 : Int32)).toNatClampNeg)) CmpOp.l) = 0) (
                                                                                          False) (
                                                                                          br ((Op.cmpValue (FP.fcmp v361 v361) CmpOp.l) = 0) (
                                                                                            False) (
                                                                                            j2582)))) (
                                                                                      j2582))) (
                                                                                  False)) (
                                                                                br ((v13 &&& 63) = (37 : Int32)) (
                                                                                  z_L_meanMisses N (some 0) h11 fun v367 h368 =>
                                                                                  z_X12_meanMisses N 0 h368 fun v369 h370 =>
                                                                                  z_X12_thrown N 0 h370 fun v371 =>
                                                                                  br (v371 = v367) (
                                                                                    jn (
                                                                                      w28 (x12 + 6) h370) (fun j2647 =>
                                                                                      br (v367 = 0) (
                                                                                        wI 1 (0 : Int32) <|
                                                                                        br ((Op.cmpValue (FP.dcmp (sD_ h370 ((0 : Int32)).toNatClampNeg) v369) CmpOp.l) = 0) (
                                                                                          j2647) (
                                                                                          wI 1 (0 : Int32) <|
                                                                                          wI 1 (0 : Int32) <|
                                                                                          br ((Op.cmpValue (FP.dcmp (sD_ h370 ((0 : Int32)).toNatClampNeg) (sD_ h370 ((0 : Int32)).toNatClampNeg)) CmpOp.l) = 0) (
                                                                                            False) (
                                                                                            br ((Op.cmpValue (FP.dcmp v369 v369) CmpOp.l) = 0) (
                                                                                              False) (
                                                                                              j2647)))) (
                                                                                        j2647))) (
                                                                                    False)) (
                                                                                  br ((v13 &&& 63) = (38 : Int32)) (
                                                                                    z_X11_isSound N 0 h11 fun v375 h376 =>
                                                                                    z_X12_isSound N 0 h376 fun v377 h378 =>
                                                                                    br (v375 = v377) (
                                                                                      w28 (x12 + 6) h378) (
                                                                                      False)) (
                                                                                    w28 (x12 + 6) h11))))))))))))))))))))))))))))))))))))))))) N 0 h0
set_option maxHeartbeats 8000000 in
set_option maxRecDepth 20000 in
theorem y_law {N Ln : Nat} {xs9 : Nat → Int32} {b : Nat} (hw : z_law N Ln xs9 σ1) : w_law N Ln xs9 b (fun _ => none) := by
  unfold w_law
  unfold z_law at hw
  refine y_start (fun ad h W => ?_)
  generalize ea1 : ad 11 0 0 = a1
  generalize ea4 : ad 12 0 0 = a4
  generalize ea7 : ad 13 0 1 = a7
  generalize ea9 : ad 14 0 1 = a9
  refine l_fx2 (fun (r : Int32 → Hp → Prop) (r9 : Int32 → St → Prop) => ∀ (x0 : Int32), ∀ (ad : Nat → Nat → Nat → Nat) (V : Nat → Nat) (h9 : Hp) (s9 : St), Wf ad h9 V s9 → a1 = ad 11 0 0 → a4 = ad 12 0 0 → a7 = ad 13 0 1 → a9 = ad 14 0 1 → 0 < V 11 → 0 < V 12 → 0 < V 13 → 0 < V 14 → V 14 ≤ 1 → r9 x0 s9 → r x0 h9) (fun _ _ _ _ _ _ _ _ _ _ _ _ _ _ _ h9_ => h9_.elim) ?_ N _ _ _ _ _ W ea1.symm ea4.symm ea7.symm ea9.symm (by decide) (by decide) (by decide) (by decide) (by decide) hw
  clear ea1 ea4 ea7 ea9 hw W h ad
  intro w_ w9_ hv x0_ ad V h s0_ W ea1 ea4 ea7 ea9 la1 la4 la7 la9 hv14 hw
  refine l_br hw (fun _ hw => ?_) (fun _ hw => ?_)
  ·
    trivial
  ·
    refine l_aS hw (fun v1_ hw => ?_)
    refine l_br hw (fun _ hw => ?_) (fun _ hw => ?_)
    ·
      refine l_aS hw (fun v2_ hw => ?_)
      refine y_L_table W hw (fun v3_ ad7_ V8_ h5_ s6_ W4_ E9_ hw => ?_) (some_ep ea1) (lv_some la1) (congrArg some ea7) la7
      refine l_aS hw (fun v10_ hw => ?_)
      refine l_cv W4_ (ext_o E9_ ea4 la4 rfl) (ext_l E9_ la4) rfl ?_
      refine y_X12_table W4_ hw (fun v11_ h13_ s14_ W12_ hw => ?_) (ext_o E9_ ea4 la4 rfl) (ext_l E9_ la4)
      refine l_cv W12_ (ext_o E9_ ea4 la4 rfl) (ext_l E9_ la4) rfl ?_
      refine y_X12_thrown W12_ hw (fun v15_ hw => ?_) (ext_o E9_ ea4 la4 rfl) (ext_l E9_ la4)
      refine l_br hw (fun _ hw => ?_) (fun _ hw => ?_)
      ·
        refine l_jn (fun (r : Prop) (r9 : Prop) =>  r9  → r ) hw ?_ (fun j16_ j17_ hj18_ hw => ?_)
        ·
          intro hw
          exact hv _ _ _ _ _ W12_ (ext_o E9_ ea1 la1 rfl) (ext_o E9_ ea4 la4 rfl) (ext_o E9_ ea7 la7 rfl) (ext_o E9_ ea9 la9 rfl) (ext_l E9_ la1) (ext_l E9_ la4) (ext_l E9_ la7) (ext_l E9_ la9) (by rw [E9_.2.2 14 (by omega)]; exact hv14) hw
        ·
          refine l_br hw (fun _ hw => ?_) (fun _ hw => ?_)
          ·
            refine l_aL W12_ (f := 0) (ext_o E9_ ea7 la7 rfl) (ext_l E9_ la7) rfl hw (fun hw => ?_)
            refine l_br hw (fun _ hw => ?_) (fun _ hw => ?_)
            ·
              exact hj18_ hw
            ·
              exact hw.elim
          ·
            exact hj18_ hw
      ·
        exact hw.elim
    ·
      refine l_br hw (fun _ hw => ?_) (fun _ hw => ?_)
      ·
        refine l_aS hw (fun v19_ hw => ?_)
        refine l_aS hw (fun v20_ hw => ?_)
        refine l_aS hw (fun v21_ hw => ?_)
        refine l_aS hw (fun v22_ hw => ?_)
        refine y_L_bound W hw (fun v23_ h25_ s26_ W24_ hw => ?_) (some_ep ea1) (lv_some la1) (congrArg some ea7) la7
        refine l_aS hw (fun v27_ hw => ?_)
        refine l_aS hw (fun v28_ hw => ?_)
        refine l_aS hw (fun v29_ hw => ?_)
        refine l_aS hw (fun v30_ hw => ?_)
        refine l_cv W24_ ea4 la4 rfl ?_
        refine y_X12_bound W24_ hw (fun v31_ h33_ s34_ W32_ hw => ?_) ea4 la4
        refine l_cv W32_ ea4 la4 rfl ?_
        refine y_X12_thrown W32_ hw (fun v35_ hw => ?_) ea4 la4
        refine l_br hw (fun _ hw => ?_) (fun _ hw => ?_)
        ·
          refine l_jn (fun (r : Prop) (r9 : Prop) =>  r9  → r ) hw ?_ (fun j36_ j37_ hj38_ hw => ?_)
          ·
            intro hw
            exact hv _ _ _ _ _ W32_ ea1 ea4 ea7 ea9 la1 la4 la7 la9 hv14 hw
          ·
            refine l_br hw (fun _ hw => ?_) (fun _ hw => ?_)
            ·
              refine l_aL W32_ (f := 0) ea7 la7 rfl hw (fun hw => ?_)
              refine l_br hw (fun _ hw => ?_) (fun _ hw => ?_)
              ·
                exact hj38_ hw
              ·
                exact hw.elim
            ·
              exact hj38_ hw
        ·
          exact hw.elim
      ·
        refine l_br hw (fun _ hw => ?_) (fun _ hw => ?_)
        ·
          refine l_aS hw (fun v39_ hw => ?_)
          refine l_aS hw (fun v40_ hw => ?_)
          refine l_aS hw (fun v41_ hw => ?_)
          refine l_aS hw (fun v42_ hw => ?_)
          refine y_L_insert W hw (fun v43_ h45_ s46_ W44_ hw => ?_) (some_ep ea1) (lv_some la1) (congrArg some ea7) la7
          refine l_aS hw (fun v47_ hw => ?_)
          refine l_aS hw (fun v48_ hw => ?_)
          refine l_aS hw (fun v49_ hw => ?_)
          refine l_aS hw (fun v50_ hw => ?_)
          refine l_cv W44_ ea4 la4 rfl ?_
          refine y_X12_insert W44_ hw (fun v51_ h53_ s54_ W52_ hw => ?_) ea4 la4
          refine l_cv W52_ ea4 la4 rfl ?_
          refine y_X12_thrown W52_ hw (fun v55_ hw => ?_) ea4 la4
          refine l_br hw (fun _ hw => ?_) (fun _ hw => ?_)
          ·
            refine l_jn (fun (r : Prop) (r9 : Prop) =>  r9  → r ) hw ?_ (fun j56_ j57_ hj58_ hw => ?_)
            ·
              intro hw
              exact hv _ _ _ _ _ W52_ ea1 ea4 ea7 ea9 la1 la4 la7 la9 hv14 hw
            ·
              refine l_br hw (fun _ hw => ?_) (fun _ hw => ?_)
              ·
                refine l_aL W52_ (f := 0) ea7 la7 rfl hw (fun hw => ?_)
                refine l_br hw (fun _ hw => ?_) (fun _ hw => ?_)
                ·
                  exact hj58_ hw
                ·
                  exact hw.elim
              ·
                exact hj58_ hw
          ·
            exact hw.elim
        ·
          refine l_br hw (fun _ hw => ?_) (fun _ hw => ?_)
          ·
            refine l_aS hw (fun v59_ hw => ?_)
            refine l_aS hw (fun v60_ hw => ?_)
            refine y_L_remove W hw (fun v61_ h63_ s64_ W62_ hw => ?_) (some_ep ea1) (lv_some la1) (congrArg some ea7) la7
            refine l_aS hw (fun v65_ hw => ?_)
            refine l_aS hw (fun v66_ hw => ?_)
            refine l_cv W62_ ea4 la4 rfl ?_
            refine y_X12_remove W62_ hw (fun v67_ h69_ s70_ W68_ hw => ?_) ea4 la4
            refine l_cv W68_ ea4 la4 rfl ?_
            refine y_X12_thrown W68_ hw (fun v71_ hw => ?_) ea4 la4
            refine l_br hw (fun _ hw => ?_) (fun _ hw => ?_)
            ·
              refine l_jn (fun (r : Prop) (r9 : Prop) =>  r9  → r ) hw ?_ (fun j72_ j73_ hj74_ hw => ?_)
              ·
                intro hw
                exact hv _ _ _ _ _ W68_ ea1 ea4 ea7 ea9 la1 la4 la7 la9 hv14 hw
              ·
                refine l_br hw (fun _ hw => ?_) (fun _ hw => ?_)
                ·
                  refine l_aL W68_ (f := 0) ea7 la7 rfl hw (fun hw => ?_)
                  refine l_br hw (fun _ hw => ?_) (fun _ hw => ?_)
                  ·
                    exact hj74_ hw
                  ·
                    exact hw.elim
                ·
                  exact hj74_ hw
            ·
              exact hw.elim
          ·
            refine l_br hw (fun _ hw => ?_) (fun _ hw => ?_)
            ·
              refine l_aS hw (fun v75_ hw => ?_)
              refine y_L_count W hw (fun v76_ h78_ s79_ W77_ hw => ?_) (some_ep ea1) (lv_some la1) (congrArg some ea7) la7
              refine l_aS hw (fun v80_ hw => ?_)
              refine l_cv W77_ ea4 la4 rfl ?_
              refine y_X12_count W77_ hw (fun v81_ h83_ s84_ W82_ hw => ?_) ea4 la4
              refine l_cv W82_ ea4 la4 rfl ?_
              refine y_X12_thrown W82_ hw (fun v85_ hw => ?_) ea4 la4
              refine l_br hw (fun _ hw => ?_) (fun _ hw => ?_)
              ·
                refine l_jn (fun (r : Prop) (r9 : Prop) =>  r9  → r ) hw ?_ (fun j86_ j87_ hj88_ hw => ?_)
                ·
                  intro hw
                  exact hv _ _ _ _ _ W82_ ea1 ea4 ea7 ea9 la1 la4 la7 la9 hv14 hw
                ·
                  refine l_br hw (fun _ hw => ?_) (fun _ hw => ?_)
                  ·
                    refine l_aL W82_ (f := 0) ea7 la7 rfl hw (fun hw => ?_)
                    refine l_br hw (fun _ hw => ?_) (fun _ hw => ?_)
                    ·
                      exact hj88_ hw
                    ·
                      exact hw.elim
                  ·
                    exact hj88_ hw
              ·
                exact hw.elim
            ·
              refine l_br hw (fun _ hw => ?_) (fun _ hw => ?_)
              ·
                refine l_aS hw (fun v89_ hw => ?_)
                refine l_aS hw (fun v90_ hw => ?_)
                refine y_L_index W hw (fun v91_ ad95_ V96_ h93_ s94_ W92_ E97_ hw => ?_) (some_ep ea1) (lv_some la1) (congrArg some ea7) la7
                refine l_aS hw (fun v98_ hw => ?_)
                refine l_aS hw (fun v99_ hw => ?_)
                refine l_cv W92_ (ext_o E97_ ea4 la4 rfl) (ext_l E97_ la4) rfl ?_
                refine y_X12_index W92_ hw (fun v100_ h102_ s103_ W101_ hw => ?_) (ext_o E97_ ea4 la4 rfl) (ext_l E97_ la4)
                refine l_cv W101_ (ext_o E97_ ea4 la4 rfl) (ext_l E97_ la4) rfl ?_
                refine y_X12_thrown W101_ hw (fun v104_ hw => ?_) (ext_o E97_ ea4 la4 rfl) (ext_l E97_ la4)
                refine l_br hw (fun _ hw => ?_) (fun _ hw => ?_)
                ·
                  refine l_jn (fun (r : Prop) (r9 : Prop) =>  r9  → r ) hw ?_ (fun j105_ j106_ hj107_ hw => ?_)
                  ·
                    intro hw
                    exact hv _ _ _ _ _ W101_ (ext_o E97_ ea1 la1 rfl) (ext_o E97_ ea4 la4 rfl) (ext_o E97_ ea7 la7 rfl) (ext_o E97_ ea9 la9 rfl) (ext_l E97_ la1) (ext_l E97_ la4) (ext_l E97_ la7) (ext_l E97_ la9) (by rw [E97_.2.2 14 (by omega)]; exact hv14) hw
                  ·
                    refine l_br hw (fun _ hw => ?_) (fun _ hw => ?_)
                    ·
                      refine l_aL W101_ (f := 0) (ext_o E97_ ea7 la7 rfl) (ext_l E97_ la7) rfl hw (fun hw => ?_)
                      refine l_br hw (fun _ hw => ?_) (fun _ hw => ?_)
                      ·
                        exact hj107_ hw
                      ·
                        exact hw.elim
                    ·
                      exact hj107_ hw
                ·
                  exact hw.elim
              ·
                refine l_br hw (fun _ hw => ?_) (fun _ hw => ?_)
                ·
                  refine l_aS hw (fun v108_ hw => ?_)
                  refine y_L_frames W hw (fun v109_ h111_ s112_ W110_ hw => ?_) (some_ep ea1) (lv_some la1) (congrArg some ea7) la7
                  refine l_aS hw (fun v113_ hw => ?_)
                  refine l_cv W110_ ea4 la4 rfl ?_
                  refine y_X12_frames W110_ hw (fun v114_ h116_ s117_ W115_ hw => ?_) ea4 la4
                  refine l_cv W115_ ea4 la4 rfl ?_
                  refine y_X12_thrown W115_ hw (fun v118_ hw => ?_) ea4 la4
                  refine l_br hw (fun _ hw => ?_) (fun _ hw => ?_)
                  ·
                    refine l_jn (fun (r : Prop) (r9 : Prop) =>  r9  → r ) hw ?_ (fun j119_ j120_ hj121_ hw => ?_)
                    ·
                      intro hw
                      exact hv _ _ _ _ _ W115_ ea1 ea4 ea7 ea9 la1 la4 la7 la9 hv14 hw
                    ·
                      refine l_br hw (fun _ hw => ?_) (fun _ hw => ?_)
                      ·
                        refine l_aL W115_ (f := 0) ea7 la7 rfl hw (fun hw => ?_)
                        refine l_br hw (fun _ hw => ?_) (fun _ hw => ?_)
                        ·
                          exact hj121_ hw
                        ·
                          exact hw.elim
                      ·
                        exact hj121_ hw
                  ·
                    exact hw.elim
                ·
                  refine l_br hw (fun _ hw => ?_) (fun _ hw => ?_)
                  ·
                    refine l_aS hw (fun v122_ hw => ?_)
                    refine y_L_pages W hw (fun v123_ h125_ s126_ W124_ hw => ?_) (some_ep ea1) (lv_some la1) (congrArg some ea7) la7
                    refine l_aS hw (fun v127_ hw => ?_)
                    refine l_cv W124_ ea4 la4 rfl ?_
                    refine y_X12_pages W124_ hw (fun v128_ h130_ s131_ W129_ hw => ?_) ea4 la4
                    refine l_cv W129_ ea4 la4 rfl ?_
                    refine y_X12_thrown W129_ hw (fun v132_ hw => ?_) ea4 la4
                    refine l_br hw (fun _ hw => ?_) (fun _ hw => ?_)
                    ·
                      refine l_jn (fun (r : Prop) (r9 : Prop) =>  r9  → r ) hw ?_ (fun j133_ j134_ hj135_ hw => ?_)
                      ·
                        intro hw
                        exact hv _ _ _ _ _ W129_ ea1 ea4 ea7 ea9 la1 la4 la7 la9 hv14 hw
                      ·
                        refine l_br hw (fun _ hw => ?_) (fun _ hw => ?_)
                        ·
                          refine l_aL W129_ (f := 0) ea7 la7 rfl hw (fun hw => ?_)
                          refine l_br hw (fun _ hw => ?_) (fun _ hw => ?_)
                          ·
                            exact hj135_ hw
                          ·
                            exact hw.elim
                        ·
                          exact hj135_ hw
                    ·
                      exact hw.elim
                  ·
                    refine l_br hw (fun _ hw => ?_) (fun _ hw => ?_)
                    ·
                      refine l_aS hw (fun v136_ hw => ?_)
                      refine l_aS hw (fun v137_ hw => ?_)
                      refine l_aS hw (fun v138_ hw => ?_)
                      refine y_L_value W hw (fun v139_ h141_ s142_ W140_ hw => ?_) (some_ep ea1) (lv_some la1) (congrArg some ea7) la7
                      refine l_aS hw (fun v143_ hw => ?_)
                      refine l_aS hw (fun v144_ hw => ?_)
                      refine l_aS hw (fun v145_ hw => ?_)
                      refine l_cv W140_ ea4 la4 rfl ?_
                      refine y_X12_value W140_ hw (fun v146_ h148_ s149_ W147_ hw => ?_) ea4 la4
                      refine l_cv W147_ ea4 la4 rfl ?_
                      refine y_X12_thrown W147_ hw (fun v150_ hw => ?_) ea4 la4
                      refine l_br hw (fun _ hw => ?_) (fun _ hw => ?_)
                      ·
                        refine l_jn (fun (r : Prop) (r9 : Prop) =>  r9  → r ) hw ?_ (fun j151_ j152_ hj153_ hw => ?_)
                        ·
                          intro hw
                          exact hv _ _ _ _ _ W147_ ea1 ea4 ea7 ea9 la1 la4 la7 la9 hv14 hw
                        ·
                          refine l_br hw (fun _ hw => ?_) (fun _ hw => ?_)
                          ·
                            refine l_aL W147_ (f := 0) ea7 la7 rfl hw (fun hw => ?_)
                            refine l_br hw (fun _ hw => ?_) (fun _ hw => ?_)
                            ·
                              exact hj153_ hw
                            ·
                              exact hw.elim
                          ·
                            exact hj153_ hw
                      ·
                        exact hw.elim
                    ·
                      refine l_br hw (fun _ hw => ?_) (fun _ hw => ?_)
                      ·
                        refine l_aS hw (fun v154_ hw => ?_)
                        refine y_L_entries W hw (fun v155_ h157_ s158_ W156_ hw => ?_) (some_ep ea1) (lv_some la1) (congrArg some ea7) la7
                        refine l_aS hw (fun v159_ hw => ?_)
                        refine l_cv W156_ ea4 la4 rfl ?_
                        refine y_X12_entries W156_ hw (fun v160_ h162_ s163_ W161_ hw => ?_) ea4 la4
                        refine l_cv W161_ ea4 la4 rfl ?_
                        refine y_X12_thrown W161_ hw (fun v164_ hw => ?_) ea4 la4
                        refine l_br hw (fun _ hw => ?_) (fun _ hw => ?_)
                        ·
                          refine l_jn (fun (r : Prop) (r9 : Prop) =>  r9  → r ) hw ?_ (fun j165_ j166_ hj167_ hw => ?_)
                          ·
                            intro hw
                            exact hv _ _ _ _ _ W161_ ea1 ea4 ea7 ea9 la1 la4 la7 la9 hv14 hw
                          ·
                            refine l_br hw (fun _ hw => ?_) (fun _ hw => ?_)
                            ·
                              refine l_aL W161_ (f := 0) ea7 la7 rfl hw (fun hw => ?_)
                              refine l_br hw (fun _ hw => ?_) (fun _ hw => ?_)
                              ·
                                exact hj167_ hw
                              ·
                                exact hw.elim
                            ·
                              exact hj167_ hw
                        ·
                          exact hw.elim
                      ·
                        refine l_br hw (fun _ hw => ?_) (fun _ hw => ?_)
                        ·
                          refine l_aS hw (fun v168_ hw => ?_)
                          refine l_aS hw (fun v169_ hw => ?_)
                          refine y_L_entryAt W hw (fun v170_ h172_ s173_ W171_ hw => ?_) (some_ep ea1) (lv_some la1) (congrArg some ea7) la7
                          refine l_aS hw (fun v174_ hw => ?_)
                          refine l_aS hw (fun v175_ hw => ?_)
                          refine l_cv W171_ ea4 la4 rfl ?_
                          refine y_X12_entryAt W171_ hw (fun v176_ h178_ s179_ W177_ hw => ?_) ea4 la4
                          refine l_cv W177_ ea4 la4 rfl ?_
                          refine y_X12_thrown W177_ hw (fun v180_ hw => ?_) ea4 la4
                          refine l_br hw (fun _ hw => ?_) (fun _ hw => ?_)
                          ·
                            refine l_jn (fun (r : Prop) (r9 : Prop) =>  r9  → r ) hw ?_ (fun j181_ j182_ hj183_ hw => ?_)
                            ·
                              intro hw
                              exact hv _ _ _ _ _ W177_ ea1 ea4 ea7 ea9 la1 la4 la7 la9 hv14 hw
                            ·
                              refine l_br hw (fun _ hw => ?_) (fun _ hw => ?_)
                              ·
                                refine l_aL W177_ (f := 0) ea7 la7 rfl hw (fun hw => ?_)
                                refine l_br hw (fun _ hw => ?_) (fun _ hw => ?_)
                                ·
                                  exact hj183_ hw
                                ·
                                  exact hw.elim
                              ·
                                exact hj183_ hw
                          ·
                            exact hw.elim
                        ·
                          refine l_br hw (fun _ hw => ?_) (fun _ hw => ?_)
                          ·
                            refine l_aS hw (fun v184_ hw => ?_)
                            refine l_aS hw (fun v185_ hw => ?_)
                            refine l_aS hw (fun v186_ hw => ?_)
                            refine y_L_counted W hw (fun v187_ h189_ s190_ W188_ hw => ?_) (some_ep ea1) (lv_some la1) (congrArg some ea7) la7
                            refine l_aS hw (fun v191_ hw => ?_)
                            refine l_aS hw (fun v192_ hw => ?_)
                            refine l_aS hw (fun v193_ hw => ?_)
                            refine l_cv W188_ ea4 la4 rfl ?_
                            refine y_X12_counted W188_ hw (fun v194_ h196_ s197_ W195_ hw => ?_) ea4 la4
                            refine l_cv W195_ ea4 la4 rfl ?_
                            refine y_X12_thrown W195_ hw (fun v198_ hw => ?_) ea4 la4
                            refine l_br hw (fun _ hw => ?_) (fun _ hw => ?_)
                            ·
                              refine l_jn (fun (r : Prop) (r9 : Prop) =>  r9  → r ) hw ?_ (fun j199_ j200_ hj201_ hw => ?_)
                              ·
                                intro hw
                                exact hv _ _ _ _ _ W195_ ea1 ea4 ea7 ea9 la1 la4 la7 la9 hv14 hw
                              ·
                                refine l_br hw (fun _ hw => ?_) (fun _ hw => ?_)
                                ·
                                  refine l_aL W195_ (f := 0) ea7 la7 rfl hw (fun hw => ?_)
                                  refine l_br hw (fun _ hw => ?_) (fun _ hw => ?_)
                                  ·
                                    exact hj201_ hw
                                  ·
                                    exact hw.elim
                                ·
                                  exact hj201_ hw
                            ·
                              exact hw.elim
                          ·
                            refine l_br hw (fun _ hw => ?_) (fun _ hw => ?_)
                            ·
                              refine l_cv W ea1 la1 rfl ?_
                              refine y_X11_cached W hw (fun v202_ hw => ?_) ea1 la1
                              refine l_cv W ea4 la4 rfl ?_
                              refine y_X12_cached W hw (fun v203_ h205_ s206_ W204_ hw => ?_) ea4 la4
                              refine l_br hw (fun _ hw => ?_) (fun _ hw => ?_)
                              ·
                                exact hv _ _ _ _ _ W204_ ea1 ea4 ea7 ea9 la1 la4 la7 la9 hv14 hw
                              ·
                                exact hw.elim
                            ·
                              refine l_br hw (fun _ hw => ?_) (fun _ hw => ?_)
                              ·
                                refine l_aS hw (fun v207_ hw => ?_)
                                refine y_L_cachedAt W hw (fun v208_ h210_ s211_ W209_ hw => ?_) (some_ep ea1) (lv_some la1) (congrArg some ea7) la7
                                refine l_aS hw (fun v212_ hw => ?_)
                                refine l_cv W209_ ea4 la4 rfl ?_
                                refine y_X12_cachedAt W209_ hw (fun v213_ h215_ s216_ W214_ hw => ?_) ea4 la4
                                refine l_cv W214_ ea4 la4 rfl ?_
                                refine y_X12_thrown W214_ hw (fun v217_ hw => ?_) ea4 la4
                                refine l_br hw (fun _ hw => ?_) (fun _ hw => ?_)
                                ·
                                  refine l_jn (fun (r : Prop) (r9 : Prop) =>  r9  → r ) hw ?_ (fun j218_ j219_ hj220_ hw => ?_)
                                  ·
                                    intro hw
                                    exact hv _ _ _ _ _ W214_ ea1 ea4 ea7 ea9 la1 la4 la7 la9 hv14 hw
                                  ·
                                    refine l_br hw (fun _ hw => ?_) (fun _ hw => ?_)
                                    ·
                                      refine l_aL W214_ (f := 0) ea7 la7 rfl hw (fun hw => ?_)
                                      refine l_br hw (fun _ hw => ?_) (fun _ hw => ?_)
                                      ·
                                        exact hj220_ hw
                                      ·
                                        exact hw.elim
                                    ·
                                      exact hj220_ hw
                                ·
                                  exact hw.elim
                              ·
                                refine l_br hw (fun _ hw => ?_) (fun _ hw => ?_)
                                ·
                                  refine l_cv W ea1 la1 rfl ?_
                                  refine y_X11_flush W hw (fun v221_ h223_ s224_ W222_ hw => ?_) ea1 la1
                                  refine l_cv W222_ ea4 la4 rfl ?_
                                  refine y_X12_flush W222_ hw (fun v225_ h227_ s228_ W226_ hw => ?_) ea4 la4
                                  refine l_br hw (fun _ hw => ?_) (fun _ hw => ?_)
                                  ·
                                    exact hv _ _ _ _ _ W226_ ea1 ea4 ea7 ea9 la1 la4 la7 la9 hv14 hw
                                  ·
                                    exact hw.elim
                                ·
                                  refine l_br hw (fun _ hw => ?_) (fun _ hw => ?_)
                                  ·
                                    refine y_L_query W hw (fun v229_ ad233_ V234_ h231_ s232_ W230_ E235_ hw => ?_) (some_ep ea1) (lv_some la1) (congrArg some ea7) la7
                                    refine l_cv W230_ (ext_o E235_ ea4 la4 rfl) (ext_l E235_ la4) rfl ?_
                                    refine y_X12_query W230_ hw (fun v236_ h238_ s239_ W237_ hw => ?_) (ext_o E235_ ea4 la4 rfl) (ext_l E235_ la4)
                                    refine l_cv W237_ (ext_o E235_ ea4 la4 rfl) (ext_l E235_ la4) rfl ?_
                                    refine y_X12_thrown W237_ hw (fun v240_ hw => ?_) (ext_o E235_ ea4 la4 rfl) (ext_l E235_ la4)
                                    refine l_br hw (fun _ hw => ?_) (fun _ hw => ?_)
                                    ·
                                      refine l_jn (fun (r : Prop) (r9 : Prop) =>  r9  → r ) hw ?_ (fun j241_ j242_ hj243_ hw => ?_)
                                      ·
                                        intro hw
                                        exact hv _ _ _ _ _ W237_ (ext_o E235_ ea1 la1 rfl) (ext_o E235_ ea4 la4 rfl) (ext_o E235_ ea7 la7 rfl) (ext_o E235_ ea9 la9 rfl) (ext_l E235_ la1) (ext_l E235_ la4) (ext_l E235_ la7) (ext_l E235_ la9) (by rw [E235_.2.2 14 (by omega)]; exact hv14) hw
                                      ·
                                        refine l_br hw (fun _ hw => ?_) (fun _ hw => ?_)
                                        ·
                                          refine l_aL W237_ (f := 0) (ext_o E235_ ea7 la7 rfl) (ext_l E235_ la7) rfl hw (fun hw => ?_)
                                          refine l_br hw (fun _ hw => ?_) (fun _ hw => ?_)
                                          ·
                                            exact hj243_ hw
                                          ·
                                            exact hw.elim
                                        ·
                                          exact hj243_ hw
                                    ·
                                      exact hw.elim
                                  ·
                                    refine l_br hw (fun _ hw => ?_) (fun _ hw => ?_)
                                    ·
                                      refine l_aS hw (fun v244_ hw => ?_)
                                      refine l_aS hw (fun v245_ hw => ?_)
                                      refine y_L_from W hw (fun v246_ h248_ s249_ W247_ hw => ?_) (some_ep ea1) (lv_some la1) (congrArg some ea7) la7
                                      refine l_aS hw (fun v250_ hw => ?_)
                                      refine l_aS hw (fun v251_ hw => ?_)
                                      refine l_cv W247_ ea4 la4 rfl ?_
                                      refine y_X12_from W247_ hw (fun v252_ h254_ s255_ W253_ hw => ?_) ea4 la4
                                      refine l_cv W253_ ea4 la4 rfl ?_
                                      refine y_X12_thrown W253_ hw (fun v256_ hw => ?_) ea4 la4
                                      refine l_br hw (fun _ hw => ?_) (fun _ hw => ?_)
                                      ·
                                        refine l_jn (fun (r : Prop) (r9 : Prop) =>  r9  → r ) hw ?_ (fun j257_ j258_ hj259_ hw => ?_)
                                        ·
                                          intro hw
                                          exact hv _ _ _ _ _ W253_ ea1 ea4 ea7 ea9 la1 la4 la7 la9 hv14 hw
                                        ·
                                          refine l_br hw (fun _ hw => ?_) (fun _ hw => ?_)
                                          ·
                                            refine l_aL W253_ (f := 0) ea7 la7 rfl hw (fun hw => ?_)
                                            refine l_br hw (fun _ hw => ?_) (fun _ hw => ?_)
                                            ·
                                              exact hj259_ hw
                                            ·
                                              exact hw.elim
                                          ·
                                            exact hj259_ hw
                                      ·
                                        exact hw.elim
                                    ·
                                      refine l_br hw (fun _ hw => ?_) (fun _ hw => ?_)
                                      ·
                                        refine l_aS hw (fun v260_ hw => ?_)
                                        refine l_aS hw (fun v261_ hw => ?_)
                                        refine l_aS hw (fun v262_ hw => ?_)
                                        refine l_aS hw (fun v263_ hw => ?_)
                                        refine l_aS hw (fun v264_ hw => ?_)
                                        refine y_L_where W hw (fun v265_ ad269_ V270_ h267_ s268_ W266_ E271_ hw => ?_) (some_ep ea1) (lv_some la1) (congrArg some ea7) la7
                                        refine l_aS hw (fun v272_ hw => ?_)
                                        refine l_aS hw (fun v273_ hw => ?_)
                                        refine l_aS hw (fun v274_ hw => ?_)
                                        refine l_aS hw (fun v275_ hw => ?_)
                                        refine l_aS hw (fun v276_ hw => ?_)
                                        refine l_cv W266_ (ext_o E271_ ea4 la4 rfl) (ext_l E271_ la4) rfl ?_
                                        refine y_X12_where W266_ hw (fun v277_ h279_ s280_ W278_ hw => ?_) (ext_o E271_ ea4 la4 rfl) (ext_l E271_ la4)
                                        refine l_cv W278_ (ext_o E271_ ea4 la4 rfl) (ext_l E271_ la4) rfl ?_
                                        refine y_X12_thrown W278_ hw (fun v281_ hw => ?_) (ext_o E271_ ea4 la4 rfl) (ext_l E271_ la4)
                                        refine l_br hw (fun _ hw => ?_) (fun _ hw => ?_)
                                        ·
                                          refine l_jn (fun (r : Prop) (r9 : Prop) =>  r9  → r ) hw ?_ (fun j282_ j283_ hj284_ hw => ?_)
                                          ·
                                            intro hw
                                            exact hv _ _ _ _ _ W278_ (ext_o E271_ ea1 la1 rfl) (ext_o E271_ ea4 la4 rfl) (ext_o E271_ ea7 la7 rfl) (ext_o E271_ ea9 la9 rfl) (ext_l E271_ la1) (ext_l E271_ la4) (ext_l E271_ la7) (ext_l E271_ la9) (by rw [E271_.2.2 14 (by omega)]; exact hv14) hw
                                          ·
                                            refine l_br hw (fun _ hw => ?_) (fun _ hw => ?_)
                                            ·
                                              refine l_aL W278_ (f := 0) (ext_o E271_ ea7 la7 rfl) (ext_l E271_ la7) rfl hw (fun hw => ?_)
                                              refine l_br hw (fun _ hw => ?_) (fun _ hw => ?_)
                                              ·
                                                exact hj284_ hw
                                              ·
                                                exact hw.elim
                                            ·
                                              exact hj284_ hw
                                        ·
                                          exact hw.elim
                                      ·
                                        refine l_br hw (fun _ hw => ?_) (fun _ hw => ?_)
                                        ·
                                          refine l_aS hw (fun v285_ hw => ?_)
                                          refine l_aS hw (fun v286_ hw => ?_)
                                          refine l_aS hw (fun v287_ hw => ?_)
                                          refine l_aS hw (fun v288_ hw => ?_)
                                          refine l_aS hw (fun v289_ hw => ?_)
                                          refine y_L_join W hw (fun v290_ ad294_ V295_ h292_ s293_ W291_ E296_ hw => ?_) (some_ep ea1) (lv_some la1) (congrArg some ea7) la7
                                          refine l_aS hw (fun v297_ hw => ?_)
                                          refine l_aS hw (fun v298_ hw => ?_)
                                          refine l_aS hw (fun v299_ hw => ?_)
                                          refine l_aS hw (fun v300_ hw => ?_)
                                          refine l_aS hw (fun v301_ hw => ?_)
                                          refine l_cv W291_ (ext_o E296_ ea4 la4 rfl) (ext_l E296_ la4) rfl ?_
                                          refine y_X12_join W291_ hw (fun v302_ h304_ s305_ W303_ hw => ?_) (ext_o E296_ ea4 la4 rfl) (ext_l E296_ la4)
                                          refine l_cv W303_ (ext_o E296_ ea4 la4 rfl) (ext_l E296_ la4) rfl ?_
                                          refine y_X12_thrown W303_ hw (fun v306_ hw => ?_) (ext_o E296_ ea4 la4 rfl) (ext_l E296_ la4)
                                          refine l_br hw (fun _ hw => ?_) (fun _ hw => ?_)
                                          ·
                                            refine l_jn (fun (r : Prop) (r9 : Prop) =>  r9  → r ) hw ?_ (fun j307_ j308_ hj309_ hw => ?_)
                                            ·
                                              intro hw
                                              exact hv _ _ _ _ _ W303_ (ext_o E296_ ea1 la1 rfl) (ext_o E296_ ea4 la4 rfl) (ext_o E296_ ea7 la7 rfl) (ext_o E296_ ea9 la9 rfl) (ext_l E296_ la1) (ext_l E296_ la4) (ext_l E296_ la7) (ext_l E296_ la9) (by rw [E296_.2.2 14 (by omega)]; exact hv14) hw
                                            ·
                                              refine l_br hw (fun _ hw => ?_) (fun _ hw => ?_)
                                              ·
                                                refine l_aL W303_ (f := 0) (ext_o E296_ ea7 la7 rfl) (ext_l E296_ la7) rfl hw (fun hw => ?_)
                                                refine l_br hw (fun _ hw => ?_) (fun _ hw => ?_)
                                                ·
                                                  exact hj309_ hw
                                                ·
                                                  exact hw.elim
                                              ·
                                                exact hj309_ hw
                                          ·
                                            exact hw.elim
                                        ·
                                          refine l_br hw (fun _ hw => ?_) (fun _ hw => ?_)
                                          ·
                                            refine l_aS hw (fun v310_ hw => ?_)
                                            refine y_L_answers W hw (fun v311_ h313_ s314_ W312_ hw => ?_) (some_ep ea1) (lv_some la1) (congrArg some ea7) la7
                                            refine l_aS hw (fun v315_ hw => ?_)
                                            refine l_cv W312_ ea4 la4 rfl ?_
                                            refine y_X12_answers W312_ hw (fun v316_ h318_ s319_ W317_ hw => ?_) ea4 la4
                                            refine l_cv W317_ ea4 la4 rfl ?_
                                            refine y_X12_thrown W317_ hw (fun v320_ hw => ?_) ea4 la4
                                            refine l_br hw (fun _ hw => ?_) (fun _ hw => ?_)
                                            ·
                                              refine l_jn (fun (r : Prop) (r9 : Prop) =>  r9  → r ) hw ?_ (fun j321_ j322_ hj323_ hw => ?_)
                                              ·
                                                intro hw
                                                exact hv _ _ _ _ _ W317_ ea1 ea4 ea7 ea9 la1 la4 la7 la9 hv14 hw
                                              ·
                                                refine l_br hw (fun _ hw => ?_) (fun _ hw => ?_)
                                                ·
                                                  refine l_aL W317_ (f := 0) ea7 la7 rfl hw (fun hw => ?_)
                                                  refine l_br hw (fun _ hw => ?_) (fun _ hw => ?_)
                                                  ·
                                                    exact hj323_ hw
                                                  ·
                                                    exact hw.elim
                                                ·
                                                  exact hj323_ hw
                                            ·
                                              exact hw.elim
                                          ·
                                            refine l_br hw (fun _ hw => ?_) (fun _ hw => ?_)
                                            ·
                                              refine l_aS hw (fun v324_ hw => ?_)
                                              refine l_aS hw (fun v325_ hw => ?_)
                                              refine l_aS hw (fun v326_ hw => ?_)
                                              refine y_L_answerAt W hw (fun v327_ h329_ s330_ W328_ hw => ?_) (some_ep ea1) (lv_some la1) (congrArg some ea7) la7
                                              refine l_aS hw (fun v331_ hw => ?_)
                                              refine l_aS hw (fun v332_ hw => ?_)
                                              refine l_aS hw (fun v333_ hw => ?_)
                                              refine l_cv W328_ ea4 la4 rfl ?_
                                              refine y_X12_answerAt W328_ hw (fun v334_ h336_ s337_ W335_ hw => ?_) ea4 la4
                                              refine l_cv W335_ ea4 la4 rfl ?_
                                              refine y_X12_thrown W335_ hw (fun v338_ hw => ?_) ea4 la4
                                              refine l_br hw (fun _ hw => ?_) (fun _ hw => ?_)
                                              ·
                                                refine l_jn (fun (r : Prop) (r9 : Prop) =>  r9  → r ) hw ?_ (fun j339_ j340_ hj341_ hw => ?_)
                                                ·
                                                  intro hw
                                                  exact hv _ _ _ _ _ W335_ ea1 ea4 ea7 ea9 la1 la4 la7 la9 hv14 hw
                                                ·
                                                  refine l_br hw (fun _ hw => ?_) (fun _ hw => ?_)
                                                  ·
                                                    refine l_aL W335_ (f := 0) ea7 la7 rfl hw (fun hw => ?_)
                                                    refine l_br hw (fun _ hw => ?_) (fun _ hw => ?_)
                                                    ·
                                                      exact hj341_ hw
                                                    ·
                                                      exact hw.elim
                                                  ·
                                                    exact hj341_ hw
                                              ·
                                                exact hw.elim
                                            ·
                                              refine l_br hw (fun _ hw => ?_) (fun _ hw => ?_)
                                              ·
                                                refine l_aS hw (fun v342_ hw => ?_)
                                                refine l_aS hw (fun v343_ hw => ?_)
                                                refine l_aS hw (fun v344_ hw => ?_)
                                                refine y_L_sum W hw (fun v345_ h347_ s348_ W346_ hw => ?_) (some_ep ea1) (lv_some la1) (congrArg some ea7) la7
                                                refine l_aS hw (fun v349_ hw => ?_)
                                                refine l_aS hw (fun v350_ hw => ?_)
                                                refine l_aS hw (fun v351_ hw => ?_)
                                                refine l_cv W346_ ea4 la4 rfl ?_
                                                refine y_X12_sum W346_ hw (fun v352_ h354_ s355_ W353_ hw => ?_) ea4 la4
                                                refine l_cv W353_ ea4 la4 rfl ?_
                                                refine y_X12_thrown W353_ hw (fun v356_ hw => ?_) ea4 la4
                                                refine l_br hw (fun _ hw => ?_) (fun _ hw => ?_)
                                                ·
                                                  refine l_jn (fun (r : Prop) (r9 : Prop) =>  r9  → r ) hw ?_ (fun j357_ j358_ hj359_ hw => ?_)
                                                  ·
                                                    intro hw
                                                    exact hv _ _ _ _ _ W353_ ea1 ea4 ea7 ea9 la1 la4 la7 la9 hv14 hw
                                                  ·
                                                    refine l_br hw (fun _ hw => ?_) (fun _ hw => ?_)
                                                    ·
                                                      refine l_aL W353_ (f := 0) ea7 la7 rfl hw (fun hw => ?_)
                                                      refine l_br hw (fun _ hw => ?_) (fun _ hw => ?_)
                                                      ·
                                                        exact hj359_ hw
                                                      ·
                                                        exact hw.elim
                                                    ·
                                                      exact hj359_ hw
                                                ·
                                                  exact hw.elim
                                              ·
                                                refine l_br hw (fun _ hw => ?_) (fun _ hw => ?_)
                                                ·
                                                  refine l_aS hw (fun v360_ hw => ?_)
                                                  refine l_aS hw (fun v361_ hw => ?_)
                                                  refine l_aS hw (fun v362_ hw => ?_)
                                                  refine y_L_planned W hw (fun v363_ h365_ s366_ W364_ hw => ?_) (some_ep ea1) (lv_some la1) (congrArg some ea7) la7
                                                  refine l_aS hw (fun v367_ hw => ?_)
                                                  refine l_aS hw (fun v368_ hw => ?_)
                                                  refine l_aS hw (fun v369_ hw => ?_)
                                                  refine l_cv W364_ ea4 la4 rfl ?_
                                                  refine y_X12_planned W364_ hw (fun v370_ h372_ s373_ W371_ hw => ?_) ea4 la4
                                                  refine l_cv W371_ ea4 la4 rfl ?_
                                                  refine y_X12_thrown W371_ hw (fun v374_ hw => ?_) ea4 la4
                                                  refine l_br hw (fun _ hw => ?_) (fun _ hw => ?_)
                                                  ·
                                                    refine l_jn (fun (r : Prop) (r9 : Prop) =>  r9  → r ) hw ?_ (fun j375_ j376_ hj377_ hw => ?_)
                                                    ·
                                                      intro hw
                                                      exact hv _ _ _ _ _ W371_ ea1 ea4 ea7 ea9 la1 la4 la7 la9 hv14 hw
                                                    ·
                                                      refine l_br hw (fun _ hw => ?_) (fun _ hw => ?_)
                                                      ·
                                                        refine l_aL W371_ (f := 0) ea7 la7 rfl hw (fun hw => ?_)
                                                        refine l_br hw (fun _ hw => ?_) (fun _ hw => ?_)
                                                        ·
                                                          exact hj377_ hw
                                                        ·
                                                          exact hw.elim
                                                      ·
                                                        exact hj377_ hw
                                                  ·
                                                    exact hw.elim
                                                ·
                                                  refine l_br hw (fun _ hw => ?_) (fun _ hw => ?_)
                                                  ·
                                                    refine l_aS hw (fun v378_ hw => ?_)
                                                    refine l_aS hw (fun v379_ hw => ?_)
                                                    refine l_aS hw (fun v380_ hw => ?_)
                                                    refine y_L_way W hw (fun v381_ h383_ s384_ W382_ hw => ?_) (some_ep ea1) (lv_some la1) (congrArg some ea7) la7
                                                    refine l_aS hw (fun v385_ hw => ?_)
                                                    refine l_aS hw (fun v386_ hw => ?_)
                                                    refine l_aS hw (fun v387_ hw => ?_)
                                                    refine l_cv W382_ ea4 la4 rfl ?_
                                                    refine y_X12_way W382_ hw (fun v388_ h390_ s391_ W389_ hw => ?_) ea4 la4
                                                    refine l_cv W389_ ea4 la4 rfl ?_
                                                    refine y_X12_thrown W389_ hw (fun v392_ hw => ?_) ea4 la4
                                                    refine l_br hw (fun _ hw => ?_) (fun _ hw => ?_)
                                                    ·
                                                      refine l_jn (fun (r : Prop) (r9 : Prop) =>  r9  → r ) hw ?_ (fun j393_ j394_ hj395_ hw => ?_)
                                                      ·
                                                        intro hw
                                                        exact hv _ _ _ _ _ W389_ ea1 ea4 ea7 ea9 la1 la4 la7 la9 hv14 hw
                                                      ·
                                                        refine l_br hw (fun _ hw => ?_) (fun _ hw => ?_)
                                                        ·
                                                          refine l_aL W389_ (f := 0) ea7 la7 rfl hw (fun hw => ?_)
                                                          refine l_br hw (fun _ hw => ?_) (fun _ hw => ?_)
                                                          ·
                                                            exact hj395_ hw
                                                          ·
                                                            exact hw.elim
                                                        ·
                                                          exact hj395_ hw
                                                    ·
                                                      exact hw.elim
                                                  ·
                                                    refine l_br hw (fun _ hw => ?_) (fun _ hw => ?_)
                                                    ·
                                                      refine l_aS hw (fun v396_ hw => ?_)
                                                      refine l_aS hw (fun v397_ hw => ?_)
                                                      refine l_aS hw (fun v398_ hw => ?_)
                                                      refine y_L_usedIndex W hw (fun v399_ h401_ s402_ W400_ hw => ?_) (some_ep ea1) (lv_some la1) (congrArg some ea7) la7
                                                      refine l_aS hw (fun v403_ hw => ?_)
                                                      refine l_aS hw (fun v404_ hw => ?_)
                                                      refine l_aS hw (fun v405_ hw => ?_)
                                                      refine l_cv W400_ ea4 la4 rfl ?_
                                                      refine y_X12_usedIndex W400_ hw (fun v406_ h408_ s409_ W407_ hw => ?_) ea4 la4
                                                      refine l_cv W407_ ea4 la4 rfl ?_
                                                      refine y_X12_thrown W407_ hw (fun v410_ hw => ?_) ea4 la4
                                                      refine l_br hw (fun _ hw => ?_) (fun _ hw => ?_)
                                                      ·
                                                        refine l_jn (fun (r : Prop) (r9 : Prop) =>  r9  → r ) hw ?_ (fun j411_ j412_ hj413_ hw => ?_)
                                                        ·
                                                          intro hw
                                                          exact hv _ _ _ _ _ W407_ ea1 ea4 ea7 ea9 la1 la4 la7 la9 hv14 hw
                                                        ·
                                                          refine l_br hw (fun _ hw => ?_) (fun _ hw => ?_)
                                                          ·
                                                            refine l_aL W407_ (f := 0) ea7 la7 rfl hw (fun hw => ?_)
                                                            refine l_br hw (fun _ hw => ?_) (fun _ hw => ?_)
                                                            ·
                                                              exact hj413_ hw
                                                            ·
                                                              exact hw.elim
                                                          ·
                                                            exact hj413_ hw
                                                      ·
                                                        exact hw.elim
                                                    ·
                                                      refine l_br hw (fun _ hw => ?_) (fun _ hw => ?_)
                                                      ·
                                                        refine l_aS hw (fun v414_ hw => ?_)
                                                        refine l_aS hw (fun v415_ hw => ?_)
                                                        refine y_L_estimate W hw (fun v416_ h418_ s419_ W417_ hw => ?_) (some_ep ea1) (lv_some la1) (congrArg some ea7) la7
                                                        refine l_aS hw (fun v420_ hw => ?_)
                                                        refine l_aS hw (fun v421_ hw => ?_)
                                                        refine l_cv W417_ ea4 la4 rfl ?_
                                                        refine y_X12_estimate W417_ hw (fun v422_ h424_ s425_ W423_ hw => ?_) ea4 la4
                                                        refine l_cv W423_ ea4 la4 rfl ?_
                                                        refine y_X12_thrown W423_ hw (fun v426_ hw => ?_) ea4 la4
                                                        refine l_br hw (fun _ hw => ?_) (fun _ hw => ?_)
                                                        ·
                                                          refine l_jn (fun (r : Prop) (r9 : Prop) =>  r9  → r ) hw ?_ (fun j427_ j428_ hj429_ hw => ?_)
                                                          ·
                                                            intro hw
                                                            exact hv _ _ _ _ _ W423_ ea1 ea4 ea7 ea9 la1 la4 la7 la9 hv14 hw
                                                          ·
                                                            refine l_br hw (fun _ hw => ?_) (fun _ hw => ?_)
                                                            ·
                                                              refine l_aL W423_ (f := 0) ea7 la7 rfl hw (fun hw => ?_)
                                                              refine l_br hw (fun _ hw => ?_) (fun _ hw => ?_)
                                                              ·
                                                                exact hj429_ hw
                                                              ·
                                                                exact hw.elim
                                                            ·
                                                              exact hj429_ hw
                                                        ·
                                                          exact hw.elim
                                                      ·
                                                        refine l_br hw (fun _ hw => ?_) (fun _ hw => ?_)
                                                        ·
                                                          refine l_aS hw (fun v430_ hw => ?_)
                                                          refine l_aS hw (fun v431_ hw => ?_)
                                                          refine y_L_cold W hw (fun v432_ h434_ s435_ W433_ hw => ?_) (some_ep ea1) (lv_some la1) (congrArg some ea7) la7
                                                          refine l_aS hw (fun v436_ hw => ?_)
                                                          refine l_aS hw (fun v437_ hw => ?_)
                                                          refine l_cv W433_ ea4 la4 rfl ?_
                                                          refine y_X12_cold W433_ hw (fun v438_ h440_ s441_ W439_ hw => ?_) ea4 la4
                                                          refine l_cv W439_ ea4 la4 rfl ?_
                                                          refine y_X12_thrown W439_ hw (fun v442_ hw => ?_) ea4 la4
                                                          refine l_br hw (fun _ hw => ?_) (fun _ hw => ?_)
                                                          ·
                                                            refine l_jn (fun (r : Prop) (r9 : Prop) =>  r9  → r ) hw ?_ (fun j443_ j444_ hj445_ hw => ?_)
                                                            ·
                                                              intro hw
                                                              exact hv _ _ _ _ _ W439_ ea1 ea4 ea7 ea9 la1 la4 la7 la9 hv14 hw
                                                            ·
                                                              refine l_br hw (fun _ hw => ?_) (fun _ hw => ?_)
                                                              ·
                                                                refine l_aL W439_ (f := 0) ea7 la7 rfl hw (fun hw => ?_)
                                                                refine l_br hw (fun _ hw => ?_) (fun _ hw => ?_)
                                                                ·
                                                                  exact hj445_ hw
                                                                ·
                                                                  exact hw.elim
                                                              ·
                                                                exact hj445_ hw
                                                          ·
                                                            exact hw.elim
                                                        ·
                                                          refine l_br hw (fun _ hw => ?_) (fun _ hw => ?_)
                                                          ·
                                                            refine l_aS hw (fun v446_ hw => ?_)
                                                            refine l_aS hw (fun v447_ hw => ?_)
                                                            refine y_L_reads W hw (fun v448_ h450_ s451_ W449_ hw => ?_) (some_ep ea1) (lv_some la1) (congrArg some ea7) la7
                                                            refine l_aS hw (fun v452_ hw => ?_)
                                                            refine l_aS hw (fun v453_ hw => ?_)
                                                            refine l_cv W449_ ea4 la4 rfl ?_
                                                            refine y_X12_reads W449_ hw (fun v454_ h456_ s457_ W455_ hw => ?_) ea4 la4
                                                            refine l_cv W455_ ea4 la4 rfl ?_
                                                            refine y_X12_thrown W455_ hw (fun v458_ hw => ?_) ea4 la4
                                                            refine l_br hw (fun _ hw => ?_) (fun _ hw => ?_)
                                                            ·
                                                              refine l_jn (fun (r : Prop) (r9 : Prop) =>  r9  → r ) hw ?_ (fun j459_ j460_ hj461_ hw => ?_)
                                                              ·
                                                                intro hw
                                                                exact hv _ _ _ _ _ W455_ ea1 ea4 ea7 ea9 la1 la4 la7 la9 hv14 hw
                                                              ·
                                                                refine l_br hw (fun _ hw => ?_) (fun _ hw => ?_)
                                                                ·
                                                                  refine l_aL W455_ (f := 0) ea7 la7 rfl hw (fun hw => ?_)
                                                                  refine l_br hw (fun _ hw => ?_) (fun _ hw => ?_)
                                                                  ·
                                                                    exact hj461_ hw
                                                                  ·
                                                                    exact hw.elim
                                                                ·
                                                                  exact hj461_ hw
                                                            ·
                                                              exact hw.elim
                                                          ·
                                                            refine l_br hw (fun _ hw => ?_) (fun _ hw => ?_)
                                                            ·
                                                              refine l_aS hw (fun v462_ hw => ?_)
                                                              refine l_aS hw (fun v463_ hw => ?_)
                                                              refine y_L_ban W hw (fun v464_ h466_ s467_ W465_ hw => ?_) (some_ep ea1) (lv_some la1) (congrArg some ea7) la7
                                                              refine l_aS hw (fun v468_ hw => ?_)
                                                              refine l_aS hw (fun v469_ hw => ?_)
                                                              refine l_cv W465_ ea4 la4 rfl ?_
                                                              refine y_X12_ban W465_ hw (fun v470_ h472_ s473_ W471_ hw => ?_) ea4 la4
                                                              refine l_cv W471_ ea4 la4 rfl ?_
                                                              refine y_X12_thrown W471_ hw (fun v474_ hw => ?_) ea4 la4
                                                              refine l_br hw (fun _ hw => ?_) (fun _ hw => ?_)
                                                              ·
                                                                refine l_jn (fun (r : Prop) (r9 : Prop) =>  r9  → r ) hw ?_ (fun j475_ j476_ hj477_ hw => ?_)
                                                                ·
                                                                  intro hw
                                                                  exact hv _ _ _ _ _ W471_ ea1 ea4 ea7 ea9 la1 la4 la7 la9 hv14 hw
                                                                ·
                                                                  refine l_br hw (fun _ hw => ?_) (fun _ hw => ?_)
                                                                  ·
                                                                    refine l_aL W471_ (f := 0) ea7 la7 rfl hw (fun hw => ?_)
                                                                    refine l_br hw (fun _ hw => ?_) (fun _ hw => ?_)
                                                                    ·
                                                                      exact hj477_ hw
                                                                    ·
                                                                      exact hw.elim
                                                                  ·
                                                                    exact hj477_ hw
                                                              ·
                                                                exact hw.elim
                                                            ·
                                                              refine l_br hw (fun _ hw => ?_) (fun _ hw => ?_)
                                                              ·
                                                                refine l_aS hw (fun v478_ hw => ?_)
                                                                refine y_L_round W hw (fun v479_ h481_ s482_ W480_ hw => ?_) (some_ep ea1) (lv_some la1) (congrArg some ea7) la7
                                                                refine l_aS hw (fun v483_ hw => ?_)
                                                                refine l_cv W480_ ea4 la4 rfl ?_
                                                                refine y_X12_round W480_ hw (fun v484_ h486_ s487_ W485_ hw => ?_) ea4 la4
                                                                refine l_cv W485_ ea4 la4 rfl ?_
                                                                refine y_X12_thrown W485_ hw (fun v488_ hw => ?_) ea4 la4
                                                                refine l_br hw (fun _ hw => ?_) (fun _ hw => ?_)
                                                                ·
                                                                  refine l_jn (fun (r : Prop) (r9 : Prop) =>  r9  → r ) hw ?_ (fun j489_ j490_ hj491_ hw => ?_)
                                                                  ·
                                                                    intro hw
                                                                    exact hv _ _ _ _ _ W485_ ea1 ea4 ea7 ea9 la1 la4 la7 la9 hv14 hw
                                                                  ·
                                                                    refine l_br hw (fun _ hw => ?_) (fun _ hw => ?_)
                                                                    ·
                                                                      refine l_aL W485_ (f := 0) ea7 la7 rfl hw (fun hw => ?_)
                                                                      refine l_br hw (fun _ hw => ?_) (fun _ hw => ?_)
                                                                      ·
                                                                        exact hj491_ hw
                                                                      ·
                                                                        exact hw.elim
                                                                    ·
                                                                      exact hj491_ hw
                                                                ·
                                                                  exact hw.elim
                                                              ·
                                                                refine l_br hw (fun _ hw => ?_) (fun _ hw => ?_)
                                                                ·
                                                                  refine l_aS hw (fun v492_ hw => ?_)
                                                                  refine y_L_appeal W hw (fun v493_ h495_ s496_ W494_ hw => ?_) (some_ep ea1) (lv_some la1) (congrArg some ea7) la7
                                                                  refine l_aS hw (fun v497_ hw => ?_)
                                                                  refine l_cv W494_ ea4 la4 rfl ?_
                                                                  refine y_X12_appeal W494_ hw (fun v498_ h500_ s501_ W499_ hw => ?_) ea4 la4
                                                                  refine l_cv W499_ ea4 la4 rfl ?_
                                                                  refine y_X12_thrown W499_ hw (fun v502_ hw => ?_) ea4 la4
                                                                  refine l_br hw (fun _ hw => ?_) (fun _ hw => ?_)
                                                                  ·
                                                                    refine l_jn (fun (r : Prop) (r9 : Prop) =>  r9  → r ) hw ?_ (fun j503_ j504_ hj505_ hw => ?_)
                                                                    ·
                                                                      intro hw
                                                                      exact hv _ _ _ _ _ W499_ ea1 ea4 ea7 ea9 la1 la4 la7 la9 hv14 hw
                                                                    ·
                                                                      refine l_br hw (fun _ hw => ?_) (fun _ hw => ?_)
                                                                      ·
                                                                        refine l_aL W499_ (f := 0) ea7 la7 rfl hw (fun hw => ?_)
                                                                        refine l_br hw (fun _ hw => ?_) (fun _ hw => ?_)
                                                                        ·
                                                                          exact hj505_ hw
                                                                        ·
                                                                          exact hw.elim
                                                                      ·
                                                                        exact hj505_ hw
                                                                  ·
                                                                    exact hw.elim
                                                                ·
                                                                  refine l_br hw (fun _ hw => ?_) (fun _ hw => ?_)
                                                                  ·
                                                                    refine l_aS hw (fun v506_ hw => ?_)
                                                                    refine y_L_coins W hw (fun v507_ h509_ s510_ W508_ hw => ?_) (some_ep ea1) (lv_some la1) (congrArg some ea7) la7
                                                                    refine l_aS hw (fun v511_ hw => ?_)
                                                                    refine l_cv W508_ ea4 la4 rfl ?_
                                                                    refine y_X12_coins W508_ hw (fun v512_ h514_ s515_ W513_ hw => ?_) ea4 la4
                                                                    refine l_cv W513_ ea4 la4 rfl ?_
                                                                    refine y_X12_thrown W513_ hw (fun v516_ hw => ?_) ea4 la4
                                                                    refine l_br hw (fun _ hw => ?_) (fun _ hw => ?_)
                                                                    ·
                                                                      refine l_jn (fun (r : Prop) (r9 : Prop) =>  r9  → r ) hw ?_ (fun j517_ j518_ hj519_ hw => ?_)
                                                                      ·
                                                                        intro hw
                                                                        exact hv _ _ _ _ _ W513_ ea1 ea4 ea7 ea9 la1 la4 la7 la9 hv14 hw
                                                                      ·
                                                                        refine l_br hw (fun _ hw => ?_) (fun _ hw => ?_)
                                                                        ·
                                                                          refine l_aL W513_ (f := 0) ea7 la7 rfl hw (fun hw => ?_)
                                                                          refine l_br hw (fun _ hw => ?_) (fun _ hw => ?_)
                                                                          ·
                                                                            exact hj519_ hw
                                                                          ·
                                                                            exact hw.elim
                                                                        ·
                                                                          exact hj519_ hw
                                                                    ·
                                                                      exact hw.elim
                                                                  ·
                                                                    refine l_br hw (fun _ hw => ?_) (fun _ hw => ?_)
                                                                    ·
                                                                      refine l_aS hw (fun v520_ hw => ?_)
                                                                      refine l_aS hw (fun v521_ hw => ?_)
                                                                      refine y_L_misses W hw (fun v522_ h524_ s525_ W523_ hw => ?_) (some_ep ea1) (lv_some la1) (congrArg some ea7) la7
                                                                      refine l_aS hw (fun v526_ hw => ?_)
                                                                      refine l_aS hw (fun v527_ hw => ?_)
                                                                      refine l_cv W523_ ea4 la4 rfl ?_
                                                                      refine y_X12_misses W523_ hw (fun v528_ h530_ s531_ W529_ hw => ?_) ea4 la4
                                                                      refine l_cv W529_ ea4 la4 rfl ?_
                                                                      refine y_X12_thrown W529_ hw (fun v532_ hw => ?_) ea4 la4
                                                                      refine l_br hw (fun _ hw => ?_) (fun _ hw => ?_)
                                                                      ·
                                                                        refine l_jn (fun (r : Prop) (r9 : Prop) =>  r9  → r ) hw ?_ (fun j533_ j534_ hj535_ hw => ?_)
                                                                        ·
                                                                          intro hw
                                                                          exact hv _ _ _ _ _ W529_ ea1 ea4 ea7 ea9 la1 la4 la7 la9 hv14 hw
                                                                        ·
                                                                          refine l_br hw (fun _ hw => ?_) (fun _ hw => ?_)
                                                                          ·
                                                                            refine l_aL W529_ (f := 0) ea7 la7 rfl hw (fun hw => ?_)
                                                                            refine l_br hw (fun _ hw => ?_) (fun _ hw => ?_)
                                                                            ·
                                                                              exact hj535_ hw
                                                                            ·
                                                                              exact hw.elim
                                                                          ·
                                                                            exact hj535_ hw
                                                                      ·
                                                                        exact hw.elim
                                                                    ·
                                                                      refine l_br hw (fun _ hw => ?_) (fun _ hw => ?_)
                                                                      ·
                                                                        refine l_aS hw (fun v536_ hw => ?_)
                                                                        refine y_L_total W hw (fun v537_ h539_ s540_ W538_ hw => ?_) (some_ep ea1) (lv_some la1) (congrArg some ea7) la7
                                                                        refine l_aS hw (fun v541_ hw => ?_)
                                                                        refine l_cv W538_ ea4 la4 rfl ?_
                                                                        refine y_X12_total W538_ hw (fun v542_ h544_ s545_ W543_ hw => ?_) ea4 la4
                                                                        refine l_cv W543_ ea4 la4 rfl ?_
                                                                        refine y_X12_thrown W543_ hw (fun v546_ hw => ?_) ea4 la4
                                                                        refine l_br hw (fun _ hw => ?_) (fun _ hw => ?_)
                                                                        ·
                                                                          refine l_jn (fun (r : Prop) (r9 : Prop) =>  r9  → r ) hw ?_ (fun j547_ j548_ hj549_ hw => ?_)
                                                                          ·
                                                                            intro hw
                                                                            exact hv _ _ _ _ _ W543_ ea1 ea4 ea7 ea9 la1 la4 la7 la9 hv14 hw
                                                                          ·
                                                                            refine l_br hw (fun _ hw => ?_) (fun _ hw => ?_)
                                                                            ·
                                                                              refine l_aL W543_ (f := 0) ea7 la7 rfl hw (fun hw => ?_)
                                                                              refine l_br hw (fun _ hw => ?_) (fun _ hw => ?_)
                                                                              ·
                                                                                exact hj549_ hw
                                                                              ·
                                                                                exact hw.elim
                                                                            ·
                                                                              exact hj549_ hw
                                                                        ·
                                                                          exact hw.elim
                                                                      ·
                                                                        refine l_br hw (fun _ hw => ?_) (fun _ hw => ?_)
                                                                        ·
                                                                          refine l_cv W ea1 la1 rfl ?_
                                                                          refine y_X11_rounds W hw (fun v550_ hw => ?_) ea1 la1
                                                                          refine l_cv W ea4 la4 rfl ?_
                                                                          refine y_X12_rounds W hw (fun v551_ h553_ s554_ W552_ hw => ?_) ea4 la4
                                                                          refine l_br hw (fun _ hw => ?_) (fun _ hw => ?_)
                                                                          ·
                                                                            exact hv _ _ _ _ _ W552_ ea1 ea4 ea7 ea9 la1 la4 la7 la9 hv14 hw
                                                                          ·
                                                                            exact hw.elim
                                                                        ·
                                                                          refine l_br hw (fun _ hw => ?_) (fun _ hw => ?_)
                                                                          ·
                                                                            refine l_cv W ea1 la1 rfl ?_
                                                                            refine y_X11_print W hw (fun v555_ hw => ?_) ea1 la1
                                                                            refine l_cv W ea4 la4 rfl ?_
                                                                            refine y_X12_print W hw (fun v556_ h558_ s559_ W557_ hw => ?_) ea4 la4
                                                                            refine l_br hw (fun _ hw => ?_) (fun _ hw => ?_)
                                                                            ·
                                                                              exact hv _ _ _ _ _ W557_ ea1 ea4 ea7 ea9 la1 la4 la7 la9 hv14 hw
                                                                            ·
                                                                              exact hw.elim
                                                                          ·
                                                                            refine l_br hw (fun _ hw => ?_) (fun _ hw => ?_)
                                                                            ·
                                                                              refine l_aS hw (fun v560_ hw => ?_)
                                                                              refine l_aS hw (fun v561_ hw => ?_)
                                                                              refine y_L_hitShare W hw (fun v562_ h564_ s565_ W563_ hw => ?_) (some_ep ea1) (lv_some la1) (congrArg some ea9) la9 hv14
                                                                              refine l_aS hw (fun v566_ hw => ?_)
                                                                              refine l_aS hw (fun v567_ hw => ?_)
                                                                              refine l_cv W563_ ea4 la4 rfl ?_
                                                                              refine y_X12_hitShare W563_ hw (fun v568_ h570_ s571_ W569_ hw => ?_) ea4 la4
                                                                              refine l_cv W569_ ea4 la4 rfl ?_
                                                                              refine y_X12_thrown W569_ hw (fun v572_ hw => ?_) ea4 la4
                                                                              refine l_br hw (fun _ hw => ?_) (fun _ hw => ?_)
                                                                              ·
                                                                                refine l_jn (fun (r : Prop) (r9 : Prop) =>  r9  → r ) hw ?_ (fun j573_ j574_ hj575_ hw => ?_)
                                                                                ·
                                                                                  intro hw
                                                                                  exact hv _ _ _ _ _ W569_ ea1 ea4 ea7 ea9 la1 la4 la7 la9 hv14 hw
                                                                                ·
                                                                                  refine l_br hw (fun _ hw => ?_) (fun _ hw => ?_)
                                                                                  ·
                                                                                    refine l_aD W569_ (f := 0) ea9 la9 rfl hw (fun hw => ?_)
                                                                                    refine l_ok hw (fun _ hw => ?_)
                                                                                    refine l_br hw (fun _ hw => ?_) (fun _ hw => ?_)
                                                                                    ·
                                                                                      exact hj575_ hw
                                                                                    ·
                                                                                      refine l_aD W569_ (f := 0) ea9 la9 rfl hw (fun hw => ?_)
                                                                                      refine l_aD W569_ (f := 0) ea9 la9 rfl hw (fun hw => ?_)
                                                                                      refine l_br hw (fun _ hw => ?_) (fun _ hw => ?_)
                                                                                      ·
                                                                                        exact hw.elim
                                                                                      ·
                                                                                        refine l_br hw (fun _ hw => ?_) (fun _ hw => ?_)
                                                                                        ·
                                                                                          exact hw.elim
                                                                                        ·
                                                                                          exact hj575_ hw
                                                                                  ·
                                                                                    exact hj575_ hw
                                                                              ·
                                                                                exact hw.elim
                                                                            ·
                                                                              refine l_br hw (fun _ hw => ?_) (fun _ hw => ?_)
                                                                              ·
                                                                                refine y_L_meanMisses W hw (fun v576_ h578_ s579_ W577_ hw => ?_) (some_ep ea1) (lv_some la1) (congrArg some ea9) la9 hv14
                                                                                refine l_cv W577_ ea4 la4 rfl ?_
                                                                                refine y_X12_meanMisses W577_ hw (fun v580_ h582_ s583_ W581_ hw => ?_) ea4 la4
                                                                                refine l_cv W581_ ea4 la4 rfl ?_
                                                                                refine y_X12_thrown W581_ hw (fun v584_ hw => ?_) ea4 la4
                                                                                refine l_br hw (fun _ hw => ?_) (fun _ hw => ?_)
                                                                                ·
                                                                                  refine l_jn (fun (r : Prop) (r9 : Prop) =>  r9  → r ) hw ?_ (fun j585_ j586_ hj587_ hw => ?_)
                                                                                  ·
                                                                                    intro hw
                                                                                    exact hv _ _ _ _ _ W581_ ea1 ea4 ea7 ea9 la1 la4 la7 la9 hv14 hw
                                                                                  ·
                                                                                    refine l_br hw (fun _ hw => ?_) (fun _ hw => ?_)
                                                                                    ·
                                                                                      refine l_aD W581_ (f := 0) ea9 la9 rfl hw (fun hw => ?_)
                                                                                      refine l_br hw (fun _ hw => ?_) (fun _ hw => ?_)
                                                                                      ·
                                                                                        exact hj587_ hw
                                                                                      ·
                                                                                        refine l_aD W581_ (f := 0) ea9 la9 rfl hw (fun hw => ?_)
                                                                                        refine l_aD W581_ (f := 0) ea9 la9 rfl hw (fun hw => ?_)
                                                                                        refine l_br hw (fun _ hw => ?_) (fun _ hw => ?_)
                                                                                        ·
                                                                                          exact hw.elim
                                                                                        ·
                                                                                          refine l_br hw (fun _ hw => ?_) (fun _ hw => ?_)
                                                                                          ·
                                                                                            exact hw.elim
                                                                                          ·
                                                                                            exact hj587_ hw
                                                                                    ·
                                                                                      exact hj587_ hw
                                                                                ·
                                                                                  exact hw.elim
                                                                              ·
                                                                                refine l_br hw (fun _ hw => ?_) (fun _ hw => ?_)
                                                                                ·
                                                                                  refine l_cv W ea1 la1 rfl ?_
                                                                                  refine y_X11_isSound W hw (fun v588_ h590_ s591_ W589_ hw => ?_) ea1 la1
                                                                                  refine l_cv W589_ ea4 la4 rfl ?_
                                                                                  refine y_X12_isSound W589_ hw (fun v592_ h594_ s595_ W593_ hw => ?_) ea4 la4
                                                                                  refine l_br hw (fun _ hw => ?_) (fun _ hw => ?_)
                                                                                  ·
                                                                                    exact hv _ _ _ _ _ W593_ ea1 ea4 ea7 ea9 la1 la4 la7 la9 hv14 hw
                                                                                  ·
                                                                                    exact hw.elim
                                                                                ·
                                                                                  exact hv _ _ _ _ _ W ea1 ea4 ea7 ea9 la1 la4 la7 la9 hv14 hw
end ZLAW
