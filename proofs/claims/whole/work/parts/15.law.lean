def L_law_L18 (xs : Nat → Int32) (L : Nat) : Nat → Int32 → Sta → Option (Int32 × Sta)
  | 0, _, _ => none
  | n + 1, y3, s0 => if ((Int32.ofNat L) - (5 : Int32)) < y3 then (some ((1 : Int32), s0)) else (aX xs L y3 (fun v1 => tsw' (v1 &&& (63 : Int32)) [(0, cA (X11_valley  s0) (fun q2 s3 => cA (X12_valley  s3) (fun q4 s5 => if q2 = q4 then (L_law_L18 xs L n (y3 + (5 : Int32)) s5) else (some (0, s5))))), (1, aX xs L (y3 + (1 : Int32)) (fun v6 => aX xs L (y3 + (2 : Int32)) (fun v7 => aX xs L (y3 + (3 : Int32)) (fun v8 => cA (X11_prize v6 v7 v8 s0) (fun q9 s10 => aX xs L (y3 + (1 : Int32)) (fun v11 => aX xs L (y3 + (2 : Int32)) (fun v12 => aX xs L (y3 + (3 : Int32)) (fun v13 => cA (X12_prize v11 v12 v13 s10) (fun q14 s15 => if q9 = q14 then (L_law_L18 xs L n (y3 + (5 : Int32)) s15) else (some (0, s15))))))))))), (2, aX xs L (y3 + (1 : Int32)) (fun v16 => aX xs L (y3 + (2 : Int32)) (fun v17 => aX xs L (y3 + (3 : Int32)) (fun v18 => aX xs L (y3 + (4 : Int32)) (fun v19 => cA (X11_one v16 v17 v18 v19 s0) (fun q20 s21 => aX xs L (y3 + (1 : Int32)) (fun v22 => aX xs L (y3 + (2 : Int32)) (fun v23 => aX xs L (y3 + (3 : Int32)) (fun v24 => aX xs L (y3 + (4 : Int32)) (fun v25 => cA (X12_one v22 v23 v24 v25 s21) (fun q26 s27 => if q20 = q26 then (L_law_L18 xs L n (y3 + (5 : Int32)) s27) else (some (0, s27))))))))))))), (3, aX xs L (y3 + (1 : Int32)) (fun v28 => cA (X11_type v28 s0) (fun q29 s30 => aX xs L (y3 + (1 : Int32)) (fun v31 => cA (X12_type v31 s30) (fun q32 s33 => if q29 = q32 then (L_law_L18 xs L n (y3 + (5 : Int32)) s33) else (some (0, s33))))))), (4, cA (X11_clear  s0) (fun q34 s35 => cA (X12_clear  s35) (fun q36 s37 => if q34 = q36 then (L_law_L18 xs L n (y3 + (5 : Int32)) s37) else (some (0, s37))))), (5, cA (X11_read  s0) (fun q38 s39 => cA (X12_read  s39) (fun q40 s41 => if q38 = q40 then (L_law_L18 xs L n (y3 + (5 : Int32)) s41) else (some (0, s41))))), (6, cA (X11_year  s0) (fun q42 s43 => cA (X12_year  s43) (fun q44 s45 => if q42 = q44 then (L_law_L18 xs L n (y3 + (5 : Int32)) s45) else (some (0, s45))))), (7, cA (X11_undo  s0) (fun q46 s47 => cA (X12_undo  s47) (fun q48 s49 => if q46 = q48 then (L_law_L18 xs L n (y3 + (5 : Int32)) s49) else (some (0, s49))))), (8, aX xs L (y3 + (1 : Int32)) (fun v50 => aX xs L (y3 + (2 : Int32)) (fun v51 => cA (X11_of v50 v51 s0) (fun q52 s53 => aX xs L (y3 + (1 : Int32)) (fun v54 => aX xs L (y3 + (2 : Int32)) (fun v55 => cA (X12_of v54 v55 s53) (fun q56 s57 => if q52 = q56 then (L_law_L18 xs L n (y3 + (5 : Int32)) s57) else (some (0, s57))))))))), (9, aX xs L (y3 + (1 : Int32)) (fun v58 => aX xs L (y3 + (2 : Int32)) (fun v59 => cA (X11_about v58 v59 s0) (fun q60 s61 => aX xs L (y3 + (1 : Int32)) (fun v62 => aX xs L (y3 + (2 : Int32)) (fun v63 => cA (X12_about v62 v63 s61) (fun q64 s65 => if q60 = q64 then (L_law_L18 xs L n (y3 + (5 : Int32)) s65) else (some (0, s65))))))))), (10, aX xs L (y3 + (1 : Int32)) (fun v66 => aX xs L (y3 + (2 : Int32)) (fun v67 => aX xs L (y3 + (3 : Int32)) (fun v68 => cA (X11_good v66 v67 v68 s0) (fun q69 s70 => aX xs L (y3 + (1 : Int32)) (fun v71 => aX xs L (y3 + (2 : Int32)) (fun v72 => aX xs L (y3 + (3 : Int32)) (fun v73 => cA (X12_good v71 v72 v73 s70) (fun q74 s75 => if q69 = q74 then (L_law_L18 xs L n (y3 + (5 : Int32)) s75) else (some (0, s75))))))))))), (11, aX xs L (y3 + (1 : Int32)) (fun v76 => cA (X11_enter v76 s0) (fun q77 s78 => aX xs L (y3 + (1 : Int32)) (fun v79 => cA (X12_enter v79 s78) (fun q80 s81 => if q77 = q80 then (L_law_L18 xs L n (y3 + (5 : Int32)) s81) else (some (0, s81))))))), (12, aX xs L (y3 + (1 : Int32)) (fun v82 => aX xs L (y3 + (2 : Int32)) (fun v83 => cA (X11_winner v82 v83 s0) (fun q84 s85 => aX xs L (y3 + (1 : Int32)) (fun v86 => aX xs L (y3 + (2 : Int32)) (fun v87 => cA (X12_winner v86 v87 s85) (fun q88 s89 => if q84 = q88 then (L_law_L18 xs L n (y3 + (5 : Int32)) s89) else (some (0, s89))))))))), (13, aX xs L (y3 + (1 : Int32)) (fun v90 => aX xs L (y3 + (2 : Int32)) (fun v91 => cA (X11_end v90 v91 s0) (fun q92 s93 => aX xs L (y3 + (1 : Int32)) (fun v94 => aX xs L (y3 + (2 : Int32)) (fun v95 => cA (X12_end v94 v95 s93) (fun q96 s97 => if q92 = q96 then (L_law_L18 xs L n (y3 + (5 : Int32)) s97) else (some (0, s97))))))))), (14, cA (X11_left  s0) (fun q98 s99 => cA (X12_left  s99) (fun q100 s101 => if q98 = q100 then (L_law_L18 xs L n (y3 + (5 : Int32)) s101) else (some (0, s101))))), (15, aX xs L (y3 + (1 : Int32)) (fun v102 => aX xs L (y3 + (2 : Int32)) (fun v103 => cA (X11_best v102 v103 s0) (fun q104 s105 => aX xs L (y3 + (1 : Int32)) (fun v106 => aX xs L (y3 + (2 : Int32)) (fun v107 => cA (X12_best v106 v107 s105) (fun q108 s109 => if q104 = q108 then (L_law_L18 xs L n (y3 + (5 : Int32)) s109) else (some (0, s109))))))))), (16, aX xs L (y3 + (1 : Int32)) (fun v110 => aX xs L (y3 + (2 : Int32)) (fun v111 => aX xs L (y3 + (3 : Int32)) (fun v112 => cA (X11_rivals v110 v111 v112 s0) (fun q113 s114 => aX xs L (y3 + (1 : Int32)) (fun v115 => aX xs L (y3 + (2 : Int32)) (fun v116 => aX xs L (y3 + (3 : Int32)) (fun v117 => cA (X12_rivals v115 v116 v117 s114) (fun q118 s119 => if q113 = q118 then (L_law_L18 xs L n (y3 + (5 : Int32)) s119) else (some (0, s119))))))))))), (17, aX xs L (y3 + (1 : Int32)) (fun v120 => cA (X11_handicap v120 s0) (fun q121 s122 => aX xs L (y3 + (1 : Int32)) (fun v123 => cA (X12_handicap v123 s122) (fun q124 s125 => if q121 = q124 then (L_law_L18 xs L n (y3 + (5 : Int32)) s125) else (some (0, s125))))))), (18, aX xs L (y3 + (1 : Int32)) (fun v126 => cA (X11_order v126 s0) (fun q127 s128 => aX xs L (y3 + (1 : Int32)) (fun v129 => cA (X12_order v129 s128) (fun q130 s131 => if q127 = q130 then (L_law_L18 xs L n (y3 + (5 : Int32)) s131) else (some (0, s131))))))), (19, aX xs L (y3 + (1 : Int32)) (fun v132 => aX xs L (y3 + (2 : Int32)) (fun v133 => aX xs L (y3 + (3 : Int32)) (fun v134 => aX xs L (y3 + (4 : Int32)) (fun v135 => cA (X11_note v132 v133 v134 v135 s0) (fun q136 s137 => aX xs L (y3 + (1 : Int32)) (fun v138 => aX xs L (y3 + (2 : Int32)) (fun v139 => aX xs L (y3 + (3 : Int32)) (fun v140 => aX xs L (y3 + (4 : Int32)) (fun v141 => cA (X12_note v138 v139 v140 v141 s137) (fun q142 s143 => if q136 = q142 then (L_law_L18 xs L n (y3 + (5 : Int32)) s143) else (some (0, s143))))))))))))), (20, aX xs L (y3 + (1 : Int32)) (fun v144 => aX xs L (y3 + (2 : Int32)) (fun v145 => aX xs L (y3 + (3 : Int32)) (fun v146 => aX xs L (y3 + (4 : Int32)) (fun v147 => cA (X11_beaten v144 v145 v146 v147 s0) (fun q148 s149 => aX xs L (y3 + (1 : Int32)) (fun v150 => aX xs L (y3 + (2 : Int32)) (fun v151 => aX xs L (y3 + (3 : Int32)) (fun v152 => aX xs L (y3 + (4 : Int32)) (fun v153 => cA (X12_beaten v150 v151 v152 v153 s149) (fun q154 s155 => if q148 = q154 then (L_law_L18 xs L n (y3 + (5 : Int32)) s155) else (some (0, s155))))))))))))), (21, aX xs L (y3 + (1 : Int32)) (fun v156 => cA (X11_forget v156 s0) (fun q157 s158 => aX xs L (y3 + (1 : Int32)) (fun v159 => cA (X12_forget v159 s158) (fun q160 s161 => if q157 = q160 then (L_law_L18 xs L n (y3 + (5 : Int32)) s161) else (some (0, s161))))))), (22, aX xs L (y3 + (1 : Int32)) (fun v162 => cA (X11_is v162 s0) (fun q163 s164 => aX xs L (y3 + (1 : Int32)) (fun v165 => cA (X12_is v165 s164) (fun q166 s167 => if q163 = q166 then (L_law_L18 xs L n (y3 + (5 : Int32)) s167) else (some (0, s167))))))), (23, aX xs L (y3 + (1 : Int32)) (fun v168 => cA (X11_offer v168 s0) (fun q169 s170 => aX xs L (y3 + (1 : Int32)) (fun v171 => cA (X12_offer v171 s170) (fun q172 s173 => if q169 = q172 then (L_law_L18 xs L n (y3 + (5 : Int32)) s173) else (some (0, s173))))))), (24, aX xs L (y3 + (1 : Int32)) (fun v174 => aX xs L (y3 + (2 : Int32)) (fun v175 => cA (X11_may v174 v175 s0) (fun q176 s177 => aX xs L (y3 + (1 : Int32)) (fun v178 => aX xs L (y3 + (2 : Int32)) (fun v179 => cA (X12_may v178 v179 s177) (fun q180 s181 => if q176 = q180 then (L_law_L18 xs L n (y3 + (5 : Int32)) s181) else (some (0, s181))))))))), (25, cA (X11_clash  s0) (fun q182 s183 => cA (X12_clash  s183) (fun q184 s185 => if q182 = q184 then (L_law_L18 xs L n (y3 + (5 : Int32)) s185) else (some (0, s185))))), (26, aX xs L (y3 + (1 : Int32)) (fun v186 => aX xs L (y3 + (2 : Int32)) (fun v187 => cA (X11_odds v186 v187 s0) (fun q188 s189 => aX xs L (y3 + (1 : Int32)) (fun v190 => aX xs L (y3 + (2 : Int32)) (fun v191 => cA (X12_odds v190 v191 s189) (fun q192 s193 => if q188 = q192 then (L_law_L18 xs L n (y3 + (5 : Int32)) s193) else (some (0, s193))))))))), (27, aX xs L (y3 + (1 : Int32)) (fun v194 => aX xs L (y3 + (2 : Int32)) (fun v195 => cA (X11_valleys v194 v195 s0) (fun q196 s197 => aX xs L (y3 + (1 : Int32)) (fun v198 => aX xs L (y3 + (2 : Int32)) (fun v199 => cA (X12_valleys v198 v199 s197) (fun q200 s201 => if q196 = q200 then (L_law_L18 xs L n (y3 + (5 : Int32)) s201) else (some (0, s201))))))))), (28, aX xs L (y3 + (1 : Int32)) (fun v202 => cA (X11_part v202 s0) (fun q203 s204 => aX xs L (y3 + (1 : Int32)) (fun v205 => cA (X12_part v205 s204) (fun q206 s207 => if (lg_cmp q203 q206) = 0 then (L_law_L18 xs L n (y3 + (5 : Int32)) s207) else (some (0, s207))))))), (29, aX xs L (y3 + (1 : Int32)) (fun v208 => cA (X11_image v208 s0) (fun q209 s210 => aX xs L (y3 + (1 : Int32)) (fun v211 => cA (X12_image v211 s210) (fun q212 s213 => if q209 = q212 then (L_law_L18 xs L n (y3 + (5 : Int32)) s213) else (some (0, s213))))))), (30, aX xs L (y3 + (1 : Int32)) (fun v214 => cA (X11_from v214 s0) (fun q215 s216 => aX xs L (y3 + (1 : Int32)) (fun v217 => cA (X12_from v217 s216) (fun q218 s219 => if q215 = q218 then (L_law_L18 xs L n (y3 + (5 : Int32)) s219) else (some (0, s219))))))), (31, aX xs L (y3 + (1 : Int32)) (fun v220 => cA (X11_status v220 s0) (fun q221 s222 => aX xs L (y3 + (1 : Int32)) (fun v223 => cA (X12_status v223 s222) (fun q224 s225 => if q221 = q224 then (L_law_L18 xs L n (y3 + (5 : Int32)) s225) else (some (0, s225))))))), (32, aX xs L (y3 + (1 : Int32)) (fun v226 => cA (X11_count v226 s0) (fun q227 s228 => aX xs L (y3 + (1 : Int32)) (fun v229 => cA (X12_count v229 s228) (fun q230 s231 => if q227 = q230 then (L_law_L18 xs L n (y3 + (5 : Int32)) s231) else (some (0, s231))))))), (33, cA (X11_digest  s0) (fun q232 s233 => cA (X12_digest  s233) (fun q234 s235 => if (lg_cmp q232 q234) = 0 then (L_law_L18 xs L n (y3 + (5 : Int32)) s235) else (some (0, s235)))))] (L_law_L18 xs L n (y3 + (5 : Int32)) s0)))
set_option maxRecDepth 100000 in
set_option maxHeartbeats 8000000 in
theorem sl_law_L18 {M : Mco} {w : Wco} {c0 : Cond} {bs L : Nat} {xs : Nat → Int32} {Q : State → Prop} (C : Cl M w code 4 "NobodyTwiceLaw" c0 room_1 bs L xs) (G : GW w) (hfin : ∀ (lv : List (Nat × Value)) (s0 : Sta) (x : Unit), Sl M w 4 Q 1125 lv [.int 1] s0 (some (1, s0))) : ∀ (n : Nat) (y3 : Int32) (s0 : Sta), Sl M w 4 Q 18 [(3, .int y3), (2, .ref (wad w 82)), (1, .ref (wad w 0)), (0, .ref bs)] [] s0 (L_law_L18 xs L n y3 s0) := by
  intro n
  induction n with
  | zero => intros; exact sl_none
  | succ n ih =>
    intro y3 s0
    rw [L_law_L18.eq_2]
    refine sl_iload_n C 0 dL_law_18 rfl ?_
    refine sl_aload_n C 3 dL_law_19 rfl ?_
    refine sl_slen C dL_law_20 ?_
    refine sl_iconst C (5 : Int32) dL_law_21 ic_5 ?_
    refine sl_isub C dL_law_22 ?_
    refine sl_icmp_gt C 1124 dL_law_23 (by decide) ?_ ?_
    · refine sl_iconst C (1 : Int32) dL_law_1124 ic_1 ?_
      exact hfin _ _ ()
    · refine sl_aload_n C 3 dL_law_26 rfl ?_
      refine sl_iload_n C 0 dL_law_27 rfl ?_
      refine sl_sald C dL_law_28 (fun v1 => ?_)
      refine sl_bipush C (63 : Int32) dL_law_29 bp_63 ?_
      refine sl_iand C dL_law_31 ?_
      refine sl_table C 1118 dL_law_32 rfl (by decide) ⟨⟨(show (0 : Int32).toInt = ((0 : Nat) : Int) from by decide), 152, 184, rfl, by decide, ?_⟩, ⟨⟨(show (1 : Int32).toInt = ((1 : Nat) : Int) from by decide), 165, 197, rfl, by decide, ?_⟩, ⟨⟨(show (2 : Int32).toInt = ((2 : Nat) : Int) from by decide), 208, 240, rfl, by decide, ?_⟩, ⟨⟨(show (3 : Int32).toInt = ((3 : Nat) : Int) from by decide), 261, 293, rfl, by decide, ?_⟩, ⟨⟨(show (4 : Int32).toInt = ((4 : Nat) : Int) from by decide), 284, 316, rfl, by decide, ?_⟩, ⟨⟨(show (5 : Int32).toInt = ((5 : Nat) : Int) from by decide), 297, 329, rfl, by decide, ?_⟩, ⟨⟨(show (6 : Int32).toInt = ((6 : Nat) : Int) from by decide), 310, 342, rfl, by decide, ?_⟩, ⟨⟨(show (7 : Int32).toInt = ((7 : Nat) : Int) from by decide), 323, 355, rfl, by decide, ?_⟩, ⟨⟨(show (8 : Int32).toInt = ((8 : Nat) : Int) from by decide), 336, 368, rfl, by decide, ?_⟩, ⟨⟨(show (9 : Int32).toInt = ((9 : Nat) : Int) from by decide), 369, 401, rfl, by decide, ?_⟩, ⟨⟨(show (10 : Int32).toInt = ((10 : Nat) : Int) from by decide), 402, 434, rfl, by decide, ?_⟩, ⟨⟨(show (11 : Int32).toInt = ((11 : Nat) : Int) from by decide), 445, 477, rfl, by decide, ?_⟩, ⟨⟨(show (12 : Int32).toInt = ((12 : Nat) : Int) from by decide), 468, 500, rfl, by decide, ?_⟩, ⟨⟨(show (13 : Int32).toInt = ((13 : Nat) : Int) from by decide), 501, 533, rfl, by decide, ?_⟩, ⟨⟨(show (14 : Int32).toInt = ((14 : Nat) : Int) from by decide), 534, 566, rfl, by decide, ?_⟩, ⟨⟨(show (15 : Int32).toInt = ((15 : Nat) : Int) from by decide), 547, 579, rfl, by decide, ?_⟩, ⟨⟨(show (16 : Int32).toInt = ((16 : Nat) : Int) from by decide), 580, 612, rfl, by decide, ?_⟩, ⟨⟨(show (17 : Int32).toInt = ((17 : Nat) : Int) from by decide), 623, 655, rfl, by decide, ?_⟩, ⟨⟨(show (18 : Int32).toInt = ((18 : Nat) : Int) from by decide), 646, 678, rfl, by decide, ?_⟩, ⟨⟨(show (19 : Int32).toInt = ((19 : Nat) : Int) from by decide), 669, 701, rfl, by decide, ?_⟩, ⟨⟨(show (20 : Int32).toInt = ((20 : Nat) : Int) from by decide), 722, 754, rfl, by decide, ?_⟩, ⟨⟨(show (21 : Int32).toInt = ((21 : Nat) : Int) from by decide), 775, 807, rfl, by decide, ?_⟩, ⟨⟨(show (22 : Int32).toInt = ((22 : Nat) : Int) from by decide), 798, 830, rfl, by decide, ?_⟩, ⟨⟨(show (23 : Int32).toInt = ((23 : Nat) : Int) from by decide), 821, 853, rfl, by decide, ?_⟩, ⟨⟨(show (24 : Int32).toInt = ((24 : Nat) : Int) from by decide), 844, 876, rfl, by decide, ?_⟩, ⟨⟨(show (25 : Int32).toInt = ((25 : Nat) : Int) from by decide), 877, 909, rfl, by decide, ?_⟩, ⟨⟨(show (26 : Int32).toInt = ((26 : Nat) : Int) from by decide), 890, 922, rfl, by decide, ?_⟩, ⟨⟨(show (27 : Int32).toInt = ((27 : Nat) : Int) from by decide), 923, 955, rfl, by decide, ?_⟩, ⟨⟨(show (28 : Int32).toInt = ((28 : Nat) : Int) from by decide), 956, 988, rfl, by decide, ?_⟩, ⟨⟨(show (29 : Int32).toInt = ((29 : Nat) : Int) from by decide), 980, 1012, rfl, by decide, ?_⟩, ⟨⟨(show (30 : Int32).toInt = ((30 : Nat) : Int) from by decide), 1003, 1035, rfl, by decide, ?_⟩, ⟨⟨(show (31 : Int32).toInt = ((31 : Nat) : Int) from by decide), 1026, 1058, rfl, by decide, ?_⟩, ⟨⟨(show (32 : Int32).toInt = ((32 : Nat) : Int) from by decide), 1049, 1081, rfl, by decide, ?_⟩, ⟨⟨(show (33 : Int32).toInt = ((33 : Nat) : Int) from by decide), 1072, 1104, rfl, by decide, ?_⟩, trivial⟩⟩⟩⟩⟩⟩⟩⟩⟩⟩⟩⟩⟩⟩⟩⟩⟩⟩⟩⟩⟩⟩⟩⟩⟩⟩⟩⟩⟩⟩⟩⟩⟩⟩ ?_
      · dsimp only
        refine sl_aload_n C 2 dL_law_184 rfl ?_
        refine sl_callVI C (R := RX11) (T := TX11) (N := 12) [] (G_N G) rfl (fun qq ss hh => ct_X11_valley G s0 qq ss hh) kw_337 kw_338 kw_339 kw_51 kw_340 dL_law_185 rfl dd_X11_valley ⟨rfl, rfl⟩ ⟨by decide, by decide⟩ (Nat.le_of_ble_eq_true rfl) ⟨by decide, by decide⟩ _ rfl (fun q2 s3 => ?_)
        refine sl_aload_n C 1 dL_law_188 rfl ?_
        refine sl_callVI C (R := RX12) (T := TX12) (N := 21) [] (G_M G) rfl (fun qq ss hh => ct_X12_valley G s3 qq ss hh) kw_928 kw_929 kw_930 kw_64 kw_931 dL_law_189 rfl dd_X12_valley ⟨rfl, rfl⟩ ⟨by decide, by decide⟩ (Nat.le_of_ble_eq_true rfl) ⟨by decide, by decide⟩ _ rfl (fun q4 s5 => ?_)
        refine sl_icmp_eq C 1118 dL_law_192 (by decide) ?_ ?_
        · refine sl_iinc C 0 (y3 + (5 : Int32)) [(3, .int (y3 + (5 : Int32))), (2, .ref (wad w 82)), (1, .ref (wad w 0)), (0, .ref bs)] dL_law_1118 rfl (ii_5 _) (by decide) rfl ?_
          refine sl_goto C 18 dL_law_1121 (by decide) ?_
          exact sl_sub [0, 1, 2, 3] rfl (ih (y3 + (5 : Int32)) s5)
        · refine sl_iconst C (0 : Int32) dL_law_195 ic_0 ?_
          exact sl_ret0
      · dsimp only
        refine sl_aload_n C 2 dL_law_197 rfl ?_
        refine sl_aload_n C 3 dL_law_198 rfl ?_
        refine sl_iload_n C 0 dL_law_199 rfl ?_
        refine sl_iconst C (1 : Int32) dL_law_200 ic_1 ?_
        refine sl_iadd C dL_law_201 ?_
        refine sl_sald C dL_law_202 (fun v6 => ?_)
        refine sl_aload_n C 3 dL_law_203 rfl ?_
        refine sl_iload_n C 0 dL_law_204 rfl ?_
        refine sl_iconst C (2 : Int32) dL_law_205 ic_2 ?_
        refine sl_iadd C dL_law_206 ?_
        refine sl_sald C dL_law_207 (fun v7 => ?_)
        refine sl_aload_n C 3 dL_law_208 rfl ?_
        refine sl_iload_n C 0 dL_law_209 rfl ?_
        refine sl_iconst C (3 : Int32) dL_law_210 ic_3 ?_
        refine sl_iadd C dL_law_211 ?_
        refine sl_sald C dL_law_212 (fun v8 => ?_)
        refine sl_callVI C (R := RX11) (T := TX11) (N := 12) [.int v6, .int v7, .int v8] (G_N G) rfl (fun qq ss hh => ct_X11_prize G v6 v7 v8 s0 qq ss hh) kw_342 kw_343 kw_344 kw_51 kw_345 dL_law_213 rfl dd_X11_prize ⟨rfl, rfl⟩ ⟨by decide, by decide⟩ (Nat.le_of_ble_eq_true rfl) ⟨by decide, by decide⟩ _ rfl (fun q9 s10 => ?_)
        refine sl_aload_n C 1 dL_law_216 rfl ?_
        refine sl_aload_n C 3 dL_law_217 rfl ?_
        refine sl_iload_n C 0 dL_law_218 rfl ?_
        refine sl_iconst C (1 : Int32) dL_law_219 ic_1 ?_
        refine sl_iadd C dL_law_220 ?_
        refine sl_sald C dL_law_221 (fun v11 => ?_)
        refine sl_aload_n C 3 dL_law_222 rfl ?_
        refine sl_iload_n C 0 dL_law_223 rfl ?_
        refine sl_iconst C (2 : Int32) dL_law_224 ic_2 ?_
        refine sl_iadd C dL_law_225 ?_
        refine sl_sald C dL_law_226 (fun v12 => ?_)
        refine sl_aload_n C 3 dL_law_227 rfl ?_
        refine sl_iload_n C 0 dL_law_228 rfl ?_
        refine sl_iconst C (3 : Int32) dL_law_229 ic_3 ?_
        refine sl_iadd C dL_law_230 ?_
        refine sl_sald C dL_law_231 (fun v13 => ?_)
        refine sl_callVI C (R := RX12) (T := TX12) (N := 21) [.int v11, .int v12, .int v13] (G_M G) rfl (fun qq ss hh => ct_X12_prize G v11 v12 v13 s10 qq ss hh) kw_936 kw_937 kw_938 kw_64 kw_939 dL_law_232 rfl dd_X12_prize ⟨rfl, rfl⟩ ⟨by decide, by decide⟩ (Nat.le_of_ble_eq_true rfl) ⟨by decide, by decide⟩ _ rfl (fun q14 s15 => ?_)
        refine sl_icmp_eq C 1118 dL_law_235 (by decide) ?_ ?_
        · refine sl_iinc C 0 (y3 + (5 : Int32)) [(3, .int (y3 + (5 : Int32))), (2, .ref (wad w 82)), (1, .ref (wad w 0)), (0, .ref bs)] dL_law_1118 rfl (ii_5 _) (by decide) rfl ?_
          refine sl_goto C 18 dL_law_1121 (by decide) ?_
          exact sl_sub [0, 1, 2, 3] rfl (ih (y3 + (5 : Int32)) s15)
        · refine sl_iconst C (0 : Int32) dL_law_238 ic_0 ?_
          exact sl_ret0
      · dsimp only
        refine sl_aload_n C 2 dL_law_240 rfl ?_
        refine sl_aload_n C 3 dL_law_241 rfl ?_
        refine sl_iload_n C 0 dL_law_242 rfl ?_
        refine sl_iconst C (1 : Int32) dL_law_243 ic_1 ?_
        refine sl_iadd C dL_law_244 ?_
        refine sl_sald C dL_law_245 (fun v16 => ?_)
        refine sl_aload_n C 3 dL_law_246 rfl ?_
        refine sl_iload_n C 0 dL_law_247 rfl ?_
        refine sl_iconst C (2 : Int32) dL_law_248 ic_2 ?_
        refine sl_iadd C dL_law_249 ?_
        refine sl_sald C dL_law_250 (fun v17 => ?_)
        refine sl_aload_n C 3 dL_law_251 rfl ?_
        refine sl_iload_n C 0 dL_law_252 rfl ?_
        refine sl_iconst C (3 : Int32) dL_law_253 ic_3 ?_
        refine sl_iadd C dL_law_254 ?_
        refine sl_sald C dL_law_255 (fun v18 => ?_)
        refine sl_aload_n C 3 dL_law_256 rfl ?_
        refine sl_iload_n C 0 dL_law_257 rfl ?_
        refine sl_iconst C (4 : Int32) dL_law_258 ic_4 ?_
        refine sl_iadd C dL_law_259 ?_
        refine sl_sald C dL_law_260 (fun v19 => ?_)
        refine sl_callVI C (R := RX11) (T := TX11) (N := 12) [.int v16, .int v17, .int v18, .int v19] (G_N G) rfl (fun qq ss hh => ct_X11_one G v16 v17 v18 v19 s0 qq ss hh) kw_357 kw_358 kw_359 kw_51 kw_360 dL_law_261 rfl dd_X11_one ⟨rfl, rfl⟩ ⟨by decide, by decide⟩ (Nat.le_of_ble_eq_true rfl) ⟨by decide, by decide⟩ _ rfl (fun q20 s21 => ?_)
        refine sl_aload_n C 1 dL_law_264 rfl ?_
        refine sl_aload_n C 3 dL_law_265 rfl ?_
        refine sl_iload_n C 0 dL_law_266 rfl ?_
        refine sl_iconst C (1 : Int32) dL_law_267 ic_1 ?_
        refine sl_iadd C dL_law_268 ?_
        refine sl_sald C dL_law_269 (fun v22 => ?_)
        refine sl_aload_n C 3 dL_law_270 rfl ?_
        refine sl_iload_n C 0 dL_law_271 rfl ?_
        refine sl_iconst C (2 : Int32) dL_law_272 ic_2 ?_
        refine sl_iadd C dL_law_273 ?_
        refine sl_sald C dL_law_274 (fun v23 => ?_)
        refine sl_aload_n C 3 dL_law_275 rfl ?_
        refine sl_iload_n C 0 dL_law_276 rfl ?_
        refine sl_iconst C (3 : Int32) dL_law_277 ic_3 ?_
        refine sl_iadd C dL_law_278 ?_
        refine sl_sald C dL_law_279 (fun v24 => ?_)
        refine sl_aload_n C 3 dL_law_280 rfl ?_
        refine sl_iload_n C 0 dL_law_281 rfl ?_
        refine sl_iconst C (4 : Int32) dL_law_282 ic_4 ?_
        refine sl_iadd C dL_law_283 ?_
        refine sl_sald C dL_law_284 (fun v25 => ?_)
        refine sl_callVI C (R := RX12) (T := TX12) (N := 21) [.int v22, .int v23, .int v24, .int v25] (G_M G) rfl (fun qq ss hh => ct_X12_one G v22 v23 v24 v25 s21 qq ss hh) kw_956 kw_957 kw_958 kw_64 kw_959 dL_law_285 rfl dd_X12_one ⟨rfl, rfl⟩ ⟨by decide, by decide⟩ (Nat.le_of_ble_eq_true rfl) ⟨by decide, by decide⟩ _ rfl (fun q26 s27 => ?_)
        refine sl_icmp_eq C 1118 dL_law_288 (by decide) ?_ ?_
        · refine sl_iinc C 0 (y3 + (5 : Int32)) [(3, .int (y3 + (5 : Int32))), (2, .ref (wad w 82)), (1, .ref (wad w 0)), (0, .ref bs)] dL_law_1118 rfl (ii_5 _) (by decide) rfl ?_
          refine sl_goto C 18 dL_law_1121 (by decide) ?_
          exact sl_sub [0, 1, 2, 3] rfl (ih (y3 + (5 : Int32)) s27)
        · refine sl_iconst C (0 : Int32) dL_law_291 ic_0 ?_
          exact sl_ret0
      · dsimp only
        refine sl_aload_n C 2 dL_law_293 rfl ?_
        refine sl_aload_n C 3 dL_law_294 rfl ?_
        refine sl_iload_n C 0 dL_law_295 rfl ?_
        refine sl_iconst C (1 : Int32) dL_law_296 ic_1 ?_
        refine sl_iadd C dL_law_297 ?_
        refine sl_sald C dL_law_298 (fun v28 => ?_)
        refine sl_callVI C (R := RX11) (T := TX11) (N := 12) [.int v28] (G_N G) rfl (fun qq ss hh => ct_X11_type G v28 s0 qq ss hh) kw_372 kw_373 kw_374 kw_51 kw_375 dL_law_299 rfl dd_X11_type ⟨rfl, rfl⟩ ⟨by decide, by decide⟩ (Nat.le_of_ble_eq_true rfl) ⟨by decide, by decide⟩ _ rfl (fun q29 s30 => ?_)
        refine sl_aload_n C 1 dL_law_302 rfl ?_
        refine sl_aload_n C 3 dL_law_303 rfl ?_
        refine sl_iload_n C 0 dL_law_304 rfl ?_
        refine sl_iconst C (1 : Int32) dL_law_305 ic_1 ?_
        refine sl_iadd C dL_law_306 ?_
        refine sl_sald C dL_law_307 (fun v31 => ?_)
        refine sl_callVI C (R := RX12) (T := TX12) (N := 21) [.int v31] (G_M G) rfl (fun qq ss hh => ct_X12_type G v31 s30 qq ss hh) kw_1158 kw_1159 kw_1160 kw_64 kw_1161 dL_law_308 rfl dd_X12_type ⟨rfl, rfl⟩ ⟨by decide, by decide⟩ (Nat.le_of_ble_eq_true rfl) ⟨by decide, by decide⟩ _ rfl (fun q32 s33 => ?_)
        refine sl_icmp_eq C 1118 dL_law_311 (by decide) ?_ ?_
        · refine sl_iinc C 0 (y3 + (5 : Int32)) [(3, .int (y3 + (5 : Int32))), (2, .ref (wad w 82)), (1, .ref (wad w 0)), (0, .ref bs)] dL_law_1118 rfl (ii_5 _) (by decide) rfl ?_
          refine sl_goto C 18 dL_law_1121 (by decide) ?_
          exact sl_sub [0, 1, 2, 3] rfl (ih (y3 + (5 : Int32)) s33)
        · refine sl_iconst C (0 : Int32) dL_law_314 ic_0 ?_
          exact sl_ret0
      · dsimp only
        refine sl_aload_n C 2 dL_law_316 rfl ?_
        refine sl_callVI C (R := RX11) (T := TX11) (N := 12) [] (G_N G) rfl (fun qq ss hh => ct_X11_clear G s0 qq ss hh) kw_380 kw_381 kw_382 kw_51 kw_383 dL_law_317 rfl dd_X11_clear ⟨rfl, rfl⟩ ⟨by decide, by decide⟩ (Nat.le_of_ble_eq_true rfl) ⟨by decide, by decide⟩ _ rfl (fun q34 s35 => ?_)
        refine sl_aload_n C 1 dL_law_320 rfl ?_
        refine sl_callVI C (R := RX12) (T := TX12) (N := 21) [] (G_M G) rfl (fun qq ss hh => ct_X12_clear G s35 qq ss hh) kw_1163 kw_1164 kw_1165 kw_64 kw_1166 dL_law_321 rfl dd_X12_clear ⟨rfl, rfl⟩ ⟨by decide, by decide⟩ (Nat.le_of_ble_eq_true rfl) ⟨by decide, by decide⟩ _ rfl (fun q36 s37 => ?_)
        refine sl_icmp_eq C 1118 dL_law_324 (by decide) ?_ ?_
        · refine sl_iinc C 0 (y3 + (5 : Int32)) [(3, .int (y3 + (5 : Int32))), (2, .ref (wad w 82)), (1, .ref (wad w 0)), (0, .ref bs)] dL_law_1118 rfl (ii_5 _) (by decide) rfl ?_
          refine sl_goto C 18 dL_law_1121 (by decide) ?_
          exact sl_sub [0, 1, 2, 3] rfl (ih (y3 + (5 : Int32)) s37)
        · refine sl_iconst C (0 : Int32) dL_law_327 ic_0 ?_
          exact sl_ret0
      · dsimp only
        refine sl_aload_n C 2 dL_law_329 rfl ?_
        refine sl_callVI C (R := RX11) (T := TX11) (N := 12) [] (G_N G) rfl (fun qq ss hh => ct_X11_read G s0 qq ss hh) kw_384 kw_385 kw_386 kw_51 kw_387 dL_law_330 rfl dd_X11_read ⟨rfl, rfl⟩ ⟨by decide, by decide⟩ (Nat.le_of_ble_eq_true rfl) ⟨by decide, by decide⟩ _ rfl (fun q38 s39 => ?_)
        refine sl_aload_n C 1 dL_law_333 rfl ?_
        refine sl_callVI C (R := RX12) (T := TX12) (N := 21) [] (G_M G) rfl (fun qq ss hh => ct_X12_read G s39 qq ss hh) kw_1167 kw_1168 kw_1169 kw_64 kw_1170 dL_law_334 rfl dd_X12_read ⟨rfl, rfl⟩ ⟨by decide, by decide⟩ (Nat.le_of_ble_eq_true rfl) ⟨by decide, by decide⟩ _ rfl (fun q40 s41 => ?_)
        refine sl_icmp_eq C 1118 dL_law_337 (by decide) ?_ ?_
        · refine sl_iinc C 0 (y3 + (5 : Int32)) [(3, .int (y3 + (5 : Int32))), (2, .ref (wad w 82)), (1, .ref (wad w 0)), (0, .ref bs)] dL_law_1118 rfl (ii_5 _) (by decide) rfl ?_
          refine sl_goto C 18 dL_law_1121 (by decide) ?_
          exact sl_sub [0, 1, 2, 3] rfl (ih (y3 + (5 : Int32)) s41)
        · refine sl_iconst C (0 : Int32) dL_law_340 ic_0 ?_
          exact sl_ret0
      · dsimp only
        refine sl_aload_n C 2 dL_law_342 rfl ?_
        refine sl_callVI C (R := RX11) (T := TX11) (N := 12) [] (G_N G) rfl (fun qq ss hh => ct_X11_year G s0 qq ss hh) kw_498 kw_499 kw_500 kw_51 kw_501 dL_law_343 rfl dd_X11_year ⟨rfl, rfl⟩ ⟨by decide, by decide⟩ (Nat.le_of_ble_eq_true rfl) ⟨by decide, by decide⟩ _ rfl (fun q42 s43 => ?_)
        refine sl_aload_n C 1 dL_law_346 rfl ?_
        refine sl_callVI C (R := RX12) (T := TX12) (N := 21) [] (G_M G) rfl (fun qq ss hh => ct_X12_year G s43 qq ss hh) kw_969 kw_970 kw_971 kw_64 kw_972 dL_law_347 rfl dd_X12_year ⟨rfl, rfl⟩ ⟨by decide, by decide⟩ (Nat.le_of_ble_eq_true rfl) ⟨by decide, by decide⟩ _ rfl (fun q44 s45 => ?_)
        refine sl_icmp_eq C 1118 dL_law_350 (by decide) ?_ ?_
        · refine sl_iinc C 0 (y3 + (5 : Int32)) [(3, .int (y3 + (5 : Int32))), (2, .ref (wad w 82)), (1, .ref (wad w 0)), (0, .ref bs)] dL_law_1118 rfl (ii_5 _) (by decide) rfl ?_
          refine sl_goto C 18 dL_law_1121 (by decide) ?_
          exact sl_sub [0, 1, 2, 3] rfl (ih (y3 + (5 : Int32)) s45)
        · refine sl_iconst C (0 : Int32) dL_law_353 ic_0 ?_
          exact sl_ret0
      · dsimp only
        refine sl_aload_n C 2 dL_law_355 rfl ?_
        refine sl_callVI C (R := RX11) (T := TX11) (N := 12) [] (G_N G) rfl (fun qq ss hh => ct_X11_undo G s0 qq ss hh) kw_582 kw_583 kw_584 kw_51 kw_585 dL_law_356 rfl dd_X11_undo ⟨rfl, rfl⟩ ⟨by decide, by decide⟩ (Nat.le_of_ble_eq_true rfl) ⟨by decide, by decide⟩ _ rfl (fun q46 s47 => ?_)
        refine sl_aload_n C 1 dL_law_359 rfl ?_
        refine sl_callVI C (R := RX12) (T := TX12) (N := 21) [] (G_M G) rfl (fun qq ss hh => ct_X12_undo G s47 qq ss hh) kw_1021 kw_1022 kw_1023 kw_64 kw_1024 dL_law_360 rfl dd_X12_undo ⟨rfl, rfl⟩ ⟨by decide, by decide⟩ (Nat.le_of_ble_eq_true rfl) ⟨by decide, by decide⟩ _ rfl (fun q48 s49 => ?_)
        refine sl_icmp_eq C 1118 dL_law_363 (by decide) ?_ ?_
        · refine sl_iinc C 0 (y3 + (5 : Int32)) [(3, .int (y3 + (5 : Int32))), (2, .ref (wad w 82)), (1, .ref (wad w 0)), (0, .ref bs)] dL_law_1118 rfl (ii_5 _) (by decide) rfl ?_
          refine sl_goto C 18 dL_law_1121 (by decide) ?_
          exact sl_sub [0, 1, 2, 3] rfl (ih (y3 + (5 : Int32)) s49)
        · refine sl_iconst C (0 : Int32) dL_law_366 ic_0 ?_
          exact sl_ret0
      · dsimp only
        refine sl_aload_n C 2 dL_law_368 rfl ?_
        refine sl_aload_n C 3 dL_law_369 rfl ?_
        refine sl_iload_n C 0 dL_law_370 rfl ?_
        refine sl_iconst C (1 : Int32) dL_law_371 ic_1 ?_
        refine sl_iadd C dL_law_372 ?_
        refine sl_sald C dL_law_373 (fun v50 => ?_)
        refine sl_aload_n C 3 dL_law_374 rfl ?_
        refine sl_iload_n C 0 dL_law_375 rfl ?_
        refine sl_iconst C (2 : Int32) dL_law_376 ic_2 ?_
        refine sl_iadd C dL_law_377 ?_
        refine sl_sald C dL_law_378 (fun v51 => ?_)
        refine sl_callVI C (R := RX11) (T := TX11) (N := 12) [.int v50, .int v51] (G_N G) rfl (fun qq ss hh => ct_X11_of G v50 v51 s0 qq ss hh) kw_590 kw_591 kw_592 kw_51 kw_593 dL_law_379 rfl dd_X11_of ⟨rfl, rfl⟩ ⟨by decide, by decide⟩ (Nat.le_of_ble_eq_true rfl) ⟨by decide, by decide⟩ _ rfl (fun q52 s53 => ?_)
        refine sl_aload_n C 1 dL_law_382 rfl ?_
        refine sl_aload_n C 3 dL_law_383 rfl ?_
        refine sl_iload_n C 0 dL_law_384 rfl ?_
        refine sl_iconst C (1 : Int32) dL_law_385 ic_1 ?_
        refine sl_iadd C dL_law_386 ?_
        refine sl_sald C dL_law_387 (fun v54 => ?_)
        refine sl_aload_n C 3 dL_law_388 rfl ?_
        refine sl_iload_n C 0 dL_law_389 rfl ?_
        refine sl_iconst C (2 : Int32) dL_law_390 ic_2 ?_
        refine sl_iadd C dL_law_391 ?_
        refine sl_sald C dL_law_392 (fun v55 => ?_)
        refine sl_callVI C (R := RX12) (T := TX12) (N := 21) [.int v54, .int v55] (G_M G) rfl (fun qq ss hh => ct_X12_of G v54 v55 s53 qq ss hh) kw_1025 kw_1026 kw_1027 kw_64 kw_1028 dL_law_393 rfl dd_X12_of ⟨rfl, rfl⟩ ⟨by decide, by decide⟩ (Nat.le_of_ble_eq_true rfl) ⟨by decide, by decide⟩ _ rfl (fun q56 s57 => ?_)
        refine sl_icmp_eq C 1118 dL_law_396 (by decide) ?_ ?_
        · refine sl_iinc C 0 (y3 + (5 : Int32)) [(3, .int (y3 + (5 : Int32))), (2, .ref (wad w 82)), (1, .ref (wad w 0)), (0, .ref bs)] dL_law_1118 rfl (ii_5 _) (by decide) rfl ?_
          refine sl_goto C 18 dL_law_1121 (by decide) ?_
          exact sl_sub [0, 1, 2, 3] rfl (ih (y3 + (5 : Int32)) s57)
        · refine sl_iconst C (0 : Int32) dL_law_399 ic_0 ?_
          exact sl_ret0
      · dsimp only
        refine sl_aload_n C 2 dL_law_401 rfl ?_
        refine sl_aload_n C 3 dL_law_402 rfl ?_
        refine sl_iload_n C 0 dL_law_403 rfl ?_
        refine sl_iconst C (1 : Int32) dL_law_404 ic_1 ?_
        refine sl_iadd C dL_law_405 ?_
        refine sl_sald C dL_law_406 (fun v58 => ?_)
        refine sl_aload_n C 3 dL_law_407 rfl ?_
        refine sl_iload_n C 0 dL_law_408 rfl ?_
        refine sl_iconst C (2 : Int32) dL_law_409 ic_2 ?_
        refine sl_iadd C dL_law_410 ?_
        refine sl_sald C dL_law_411 (fun v59 => ?_)
        refine sl_callVI C (R := RX11) (T := TX11) (N := 12) [.int v58, .int v59] (G_N G) rfl (fun qq ss hh => ct_X11_about G v58 v59 s0 qq ss hh) kw_599 kw_600 kw_601 kw_51 kw_602 dL_law_412 rfl dd_X11_about ⟨rfl, rfl⟩ ⟨by decide, by decide⟩ (Nat.le_of_ble_eq_true rfl) ⟨by decide, by decide⟩ _ rfl (fun q60 s61 => ?_)
        refine sl_aload_n C 1 dL_law_415 rfl ?_
        refine sl_aload_n C 3 dL_law_416 rfl ?_
        refine sl_iload_n C 0 dL_law_417 rfl ?_
        refine sl_iconst C (1 : Int32) dL_law_418 ic_1 ?_
        refine sl_iadd C dL_law_419 ?_
        refine sl_sald C dL_law_420 (fun v62 => ?_)
        refine sl_aload_n C 3 dL_law_421 rfl ?_
        refine sl_iload_n C 0 dL_law_422 rfl ?_
        refine sl_iconst C (2 : Int32) dL_law_423 ic_2 ?_
        refine sl_iadd C dL_law_424 ?_
        refine sl_sald C dL_law_425 (fun v63 => ?_)
        refine sl_callVI C (R := RX12) (T := TX12) (N := 21) [.int v62, .int v63] (G_M G) rfl (fun qq ss hh => ct_X12_about G v62 v63 s61 qq ss hh) kw_1034 kw_1035 kw_1036 kw_64 kw_1037 dL_law_426 rfl dd_X12_about ⟨rfl, rfl⟩ ⟨by decide, by decide⟩ (Nat.le_of_ble_eq_true rfl) ⟨by decide, by decide⟩ _ rfl (fun q64 s65 => ?_)
        refine sl_icmp_eq C 1118 dL_law_429 (by decide) ?_ ?_
        · refine sl_iinc C 0 (y3 + (5 : Int32)) [(3, .int (y3 + (5 : Int32))), (2, .ref (wad w 82)), (1, .ref (wad w 0)), (0, .ref bs)] dL_law_1118 rfl (ii_5 _) (by decide) rfl ?_
          refine sl_goto C 18 dL_law_1121 (by decide) ?_
          exact sl_sub [0, 1, 2, 3] rfl (ih (y3 + (5 : Int32)) s65)
        · refine sl_iconst C (0 : Int32) dL_law_432 ic_0 ?_
          exact sl_ret0
      · dsimp only
        refine sl_aload_n C 2 dL_law_434 rfl ?_
        refine sl_aload_n C 3 dL_law_435 rfl ?_
        refine sl_iload_n C 0 dL_law_436 rfl ?_
        refine sl_iconst C (1 : Int32) dL_law_437 ic_1 ?_
        refine sl_iadd C dL_law_438 ?_
        refine sl_sald C dL_law_439 (fun v66 => ?_)
        refine sl_aload_n C 3 dL_law_440 rfl ?_
        refine sl_iload_n C 0 dL_law_441 rfl ?_
        refine sl_iconst C (2 : Int32) dL_law_442 ic_2 ?_
        refine sl_iadd C dL_law_443 ?_
        refine sl_sald C dL_law_444 (fun v67 => ?_)
        refine sl_aload_n C 3 dL_law_445 rfl ?_
        refine sl_iload_n C 0 dL_law_446 rfl ?_
        refine sl_iconst C (3 : Int32) dL_law_447 ic_3 ?_
        refine sl_iadd C dL_law_448 ?_
        refine sl_sald C dL_law_449 (fun v68 => ?_)
        refine sl_callVI C (R := RX11) (T := TX11) (N := 12) [.int v66, .int v67, .int v68] (G_N G) rfl (fun qq ss hh => ct_X11_good G v66 v67 v68 s0 qq ss hh) kw_603 kw_604 kw_605 kw_51 kw_606 dL_law_450 rfl dd_X11_good ⟨rfl, rfl⟩ ⟨by decide, by decide⟩ (Nat.le_of_ble_eq_true rfl) ⟨by decide, by decide⟩ _ rfl (fun q69 s70 => ?_)
        refine sl_aload_n C 1 dL_law_453 rfl ?_
        refine sl_aload_n C 3 dL_law_454 rfl ?_
        refine sl_iload_n C 0 dL_law_455 rfl ?_
        refine sl_iconst C (1 : Int32) dL_law_456 ic_1 ?_
        refine sl_iadd C dL_law_457 ?_
        refine sl_sald C dL_law_458 (fun v71 => ?_)
        refine sl_aload_n C 3 dL_law_459 rfl ?_
        refine sl_iload_n C 0 dL_law_460 rfl ?_
        refine sl_iconst C (2 : Int32) dL_law_461 ic_2 ?_
        refine sl_iadd C dL_law_462 ?_
        refine sl_sald C dL_law_463 (fun v72 => ?_)
        refine sl_aload_n C 3 dL_law_464 rfl ?_
        refine sl_iload_n C 0 dL_law_465 rfl ?_
        refine sl_iconst C (3 : Int32) dL_law_466 ic_3 ?_
        refine sl_iadd C dL_law_467 ?_
        refine sl_sald C dL_law_468 (fun v73 => ?_)
        refine sl_callVI C (R := RX12) (T := TX12) (N := 21) [.int v71, .int v72, .int v73] (G_M G) rfl (fun qq ss hh => ct_X12_good G v71 v72 v73 s70 qq ss hh) kw_1038 kw_1039 kw_1040 kw_64 kw_1041 dL_law_469 rfl dd_X12_good ⟨rfl, rfl⟩ ⟨by decide, by decide⟩ (Nat.le_of_ble_eq_true rfl) ⟨by decide, by decide⟩ _ rfl (fun q74 s75 => ?_)
        refine sl_icmp_eq C 1118 dL_law_472 (by decide) ?_ ?_
        · refine sl_iinc C 0 (y3 + (5 : Int32)) [(3, .int (y3 + (5 : Int32))), (2, .ref (wad w 82)), (1, .ref (wad w 0)), (0, .ref bs)] dL_law_1118 rfl (ii_5 _) (by decide) rfl ?_
          refine sl_goto C 18 dL_law_1121 (by decide) ?_
          exact sl_sub [0, 1, 2, 3] rfl (ih (y3 + (5 : Int32)) s75)
        · refine sl_iconst C (0 : Int32) dL_law_475 ic_0 ?_
          exact sl_ret0
      · dsimp only
        refine sl_aload_n C 2 dL_law_477 rfl ?_
        refine sl_aload_n C 3 dL_law_478 rfl ?_
        refine sl_iload_n C 0 dL_law_479 rfl ?_
        refine sl_iconst C (1 : Int32) dL_law_480 ic_1 ?_
        refine sl_iadd C dL_law_481 ?_
        refine sl_sald C dL_law_482 (fun v76 => ?_)
        refine sl_callVI C (R := RX11) (T := TX11) (N := 12) [.int v76] (G_N G) rfl (fun qq ss hh => ct_X11_enter G v76 s0 qq ss hh) kw_611 kw_612 kw_613 kw_51 kw_614 dL_law_483 rfl dd_X11_enter ⟨rfl, rfl⟩ ⟨by decide, by decide⟩ (Nat.le_of_ble_eq_true rfl) ⟨by decide, by decide⟩ _ rfl (fun q77 s78 => ?_)
        refine sl_aload_n C 1 dL_law_486 rfl ?_
        refine sl_aload_n C 3 dL_law_487 rfl ?_
        refine sl_iload_n C 0 dL_law_488 rfl ?_
        refine sl_iconst C (1 : Int32) dL_law_489 ic_1 ?_
        refine sl_iadd C dL_law_490 ?_
        refine sl_sald C dL_law_491 (fun v79 => ?_)
        refine sl_callVI C (R := RX12) (T := TX12) (N := 21) [.int v79] (G_M G) rfl (fun qq ss hh => ct_X12_enter G v79 s78 qq ss hh) kw_1042 kw_1043 kw_1044 kw_64 kw_1045 dL_law_492 rfl dd_X12_enter ⟨rfl, rfl⟩ ⟨by decide, by decide⟩ (Nat.le_of_ble_eq_true rfl) ⟨by decide, by decide⟩ _ rfl (fun q80 s81 => ?_)
        refine sl_icmp_eq C 1118 dL_law_495 (by decide) ?_ ?_
        · refine sl_iinc C 0 (y3 + (5 : Int32)) [(3, .int (y3 + (5 : Int32))), (2, .ref (wad w 82)), (1, .ref (wad w 0)), (0, .ref bs)] dL_law_1118 rfl (ii_5 _) (by decide) rfl ?_
          refine sl_goto C 18 dL_law_1121 (by decide) ?_
          exact sl_sub [0, 1, 2, 3] rfl (ih (y3 + (5 : Int32)) s81)
        · refine sl_iconst C (0 : Int32) dL_law_498 ic_0 ?_
          exact sl_ret0
      · dsimp only
        refine sl_aload_n C 2 dL_law_500 rfl ?_
        refine sl_aload_n C 3 dL_law_501 rfl ?_
        refine sl_iload_n C 0 dL_law_502 rfl ?_
        refine sl_iconst C (1 : Int32) dL_law_503 ic_1 ?_
        refine sl_iadd C dL_law_504 ?_
        refine sl_sald C dL_law_505 (fun v82 => ?_)
        refine sl_aload_n C 3 dL_law_506 rfl ?_
        refine sl_iload_n C 0 dL_law_507 rfl ?_
        refine sl_iconst C (2 : Int32) dL_law_508 ic_2 ?_
        refine sl_iadd C dL_law_509 ?_
        refine sl_sald C dL_law_510 (fun v83 => ?_)
        refine sl_callVI C (R := RX11) (T := TX11) (N := 12) [.int v82, .int v83] (G_N G) rfl (fun qq ss hh => ct_X11_winner G v82 v83 s0 qq ss hh) kw_635 kw_636 kw_637 kw_51 kw_638 dL_law_511 rfl dd_X11_winner ⟨rfl, rfl⟩ ⟨by decide, by decide⟩ (Nat.le_of_ble_eq_true rfl) ⟨by decide, by decide⟩ _ rfl (fun q84 s85 => ?_)
        refine sl_aload_n C 1 dL_law_514 rfl ?_
        refine sl_aload_n C 3 dL_law_515 rfl ?_
        refine sl_iload_n C 0 dL_law_516 rfl ?_
        refine sl_iconst C (1 : Int32) dL_law_517 ic_1 ?_
        refine sl_iadd C dL_law_518 ?_
        refine sl_sald C dL_law_519 (fun v86 => ?_)
        refine sl_aload_n C 3 dL_law_520 rfl ?_
        refine sl_iload_n C 0 dL_law_521 rfl ?_
        refine sl_iconst C (2 : Int32) dL_law_522 ic_2 ?_
        refine sl_iadd C dL_law_523 ?_
        refine sl_sald C dL_law_524 (fun v87 => ?_)
        refine sl_callVI C (R := RX12) (T := TX12) (N := 21) [.int v86, .int v87] (G_M G) rfl (fun qq ss hh => ct_X12_winner G v86 v87 s85 qq ss hh) kw_1054 kw_1055 kw_1056 kw_64 kw_1057 dL_law_525 rfl dd_X12_winner ⟨rfl, rfl⟩ ⟨by decide, by decide⟩ (Nat.le_of_ble_eq_true rfl) ⟨by decide, by decide⟩ _ rfl (fun q88 s89 => ?_)
        refine sl_icmp_eq C 1118 dL_law_528 (by decide) ?_ ?_
        · refine sl_iinc C 0 (y3 + (5 : Int32)) [(3, .int (y3 + (5 : Int32))), (2, .ref (wad w 82)), (1, .ref (wad w 0)), (0, .ref bs)] dL_law_1118 rfl (ii_5 _) (by decide) rfl ?_
          refine sl_goto C 18 dL_law_1121 (by decide) ?_
          exact sl_sub [0, 1, 2, 3] rfl (ih (y3 + (5 : Int32)) s89)
        · refine sl_iconst C (0 : Int32) dL_law_531 ic_0 ?_
          exact sl_ret0
      · dsimp only
        refine sl_aload_n C 2 dL_law_533 rfl ?_
        refine sl_aload_n C 3 dL_law_534 rfl ?_
        refine sl_iload_n C 0 dL_law_535 rfl ?_
        refine sl_iconst C (1 : Int32) dL_law_536 ic_1 ?_
        refine sl_iadd C dL_law_537 ?_
        refine sl_sald C dL_law_538 (fun v90 => ?_)
        refine sl_aload_n C 3 dL_law_539 rfl ?_
        refine sl_iload_n C 0 dL_law_540 rfl ?_
        refine sl_iconst C (2 : Int32) dL_law_541 ic_2 ?_
        refine sl_iadd C dL_law_542 ?_
        refine sl_sald C dL_law_543 (fun v91 => ?_)
        refine sl_callVI C (R := RX11) (T := TX11) (N := 12) [.int v90, .int v91] (G_N G) rfl (fun qq ss hh => ct_X11_end G v90 v91 s0 qq ss hh) kw_639 kw_640 kw_641 kw_51 kw_642 dL_law_544 rfl dd_X11_end ⟨rfl, rfl⟩ ⟨by decide, by decide⟩ (Nat.le_of_ble_eq_true rfl) ⟨by decide, by decide⟩ _ rfl (fun q92 s93 => ?_)
        refine sl_aload_n C 1 dL_law_547 rfl ?_
        refine sl_aload_n C 3 dL_law_548 rfl ?_
        refine sl_iload_n C 0 dL_law_549 rfl ?_
        refine sl_iconst C (1 : Int32) dL_law_550 ic_1 ?_
        refine sl_iadd C dL_law_551 ?_
        refine sl_sald C dL_law_552 (fun v94 => ?_)
        refine sl_aload_n C 3 dL_law_553 rfl ?_
        refine sl_iload_n C 0 dL_law_554 rfl ?_
        refine sl_iconst C (2 : Int32) dL_law_555 ic_2 ?_
        refine sl_iadd C dL_law_556 ?_
        refine sl_sald C dL_law_557 (fun v95 => ?_)
        refine sl_callVI C (R := RX12) (T := TX12) (N := 21) [.int v94, .int v95] (G_M G) rfl (fun qq ss hh => ct_X12_end G v94 v95 s93 qq ss hh) kw_1058 kw_1059 kw_1060 kw_64 kw_1061 dL_law_558 rfl dd_X12_end ⟨rfl, rfl⟩ ⟨by decide, by decide⟩ (Nat.le_of_ble_eq_true rfl) ⟨by decide, by decide⟩ _ rfl (fun q96 s97 => ?_)
        refine sl_icmp_eq C 1118 dL_law_561 (by decide) ?_ ?_
        · refine sl_iinc C 0 (y3 + (5 : Int32)) [(3, .int (y3 + (5 : Int32))), (2, .ref (wad w 82)), (1, .ref (wad w 0)), (0, .ref bs)] dL_law_1118 rfl (ii_5 _) (by decide) rfl ?_
          refine sl_goto C 18 dL_law_1121 (by decide) ?_
          exact sl_sub [0, 1, 2, 3] rfl (ih (y3 + (5 : Int32)) s97)
        · refine sl_iconst C (0 : Int32) dL_law_564 ic_0 ?_
          exact sl_ret0
      · dsimp only
        refine sl_aload_n C 2 dL_law_566 rfl ?_
        refine sl_callVI C (R := RX11) (T := TX11) (N := 12) [] (G_N G) rfl (fun qq ss hh => ct_X11_left G s0 qq ss hh) kw_653 kw_654 kw_655 kw_51 kw_656 dL_law_567 rfl dd_X11_left ⟨rfl, rfl⟩ ⟨by decide, by decide⟩ (Nat.le_of_ble_eq_true rfl) ⟨by decide, by decide⟩ _ rfl (fun q98 s99 => ?_)
        refine sl_aload_n C 1 dL_law_570 rfl ?_
        refine sl_callVI C (R := RX12) (T := TX12) (N := 21) [] (G_M G) rfl (fun qq ss hh => ct_X12_left G s99 qq ss hh) kw_1069 kw_1070 kw_1071 kw_64 kw_1072 dL_law_571 rfl dd_X12_left ⟨rfl, rfl⟩ ⟨by decide, by decide⟩ (Nat.le_of_ble_eq_true rfl) ⟨by decide, by decide⟩ _ rfl (fun q100 s101 => ?_)
        refine sl_icmp_eq C 1118 dL_law_574 (by decide) ?_ ?_
        · refine sl_iinc C 0 (y3 + (5 : Int32)) [(3, .int (y3 + (5 : Int32))), (2, .ref (wad w 82)), (1, .ref (wad w 0)), (0, .ref bs)] dL_law_1118 rfl (ii_5 _) (by decide) rfl ?_
          refine sl_goto C 18 dL_law_1121 (by decide) ?_
          exact sl_sub [0, 1, 2, 3] rfl (ih (y3 + (5 : Int32)) s101)
        · refine sl_iconst C (0 : Int32) dL_law_577 ic_0 ?_
          exact sl_ret0
      · dsimp only
        refine sl_aload_n C 2 dL_law_579 rfl ?_
        refine sl_aload_n C 3 dL_law_580 rfl ?_
        refine sl_iload_n C 0 dL_law_581 rfl ?_
        refine sl_iconst C (1 : Int32) dL_law_582 ic_1 ?_
        refine sl_iadd C dL_law_583 ?_
        refine sl_sald C dL_law_584 (fun v102 => ?_)
        refine sl_aload_n C 3 dL_law_585 rfl ?_
        refine sl_iload_n C 0 dL_law_586 rfl ?_
        refine sl_iconst C (2 : Int32) dL_law_587 ic_2 ?_
        refine sl_iadd C dL_law_588 ?_
        refine sl_sald C dL_law_589 (fun v103 => ?_)
        refine sl_callVI C (R := RX11) (T := TX11) (N := 12) [.int v102, .int v103] (G_N G) rfl (fun qq ss hh => ct_X11_best G v102 v103 s0 qq ss hh) kw_661 kw_662 kw_663 kw_51 kw_664 dL_law_590 rfl dd_X11_best ⟨rfl, rfl⟩ ⟨by decide, by decide⟩ (Nat.le_of_ble_eq_true rfl) ⟨by decide, by decide⟩ _ rfl (fun q104 s105 => ?_)
        refine sl_aload_n C 1 dL_law_593 rfl ?_
        refine sl_aload_n C 3 dL_law_594 rfl ?_
        refine sl_iload_n C 0 dL_law_595 rfl ?_
        refine sl_iconst C (1 : Int32) dL_law_596 ic_1 ?_
        refine sl_iadd C dL_law_597 ?_
        refine sl_sald C dL_law_598 (fun v106 => ?_)
        refine sl_aload_n C 3 dL_law_599 rfl ?_
        refine sl_iload_n C 0 dL_law_600 rfl ?_
        refine sl_iconst C (2 : Int32) dL_law_601 ic_2 ?_
        refine sl_iadd C dL_law_602 ?_
        refine sl_sald C dL_law_603 (fun v107 => ?_)
        refine sl_callVI C (R := RX12) (T := TX12) (N := 21) [.int v106, .int v107] (G_M G) rfl (fun qq ss hh => ct_X12_best G v106 v107 s105 qq ss hh) kw_1073 kw_1074 kw_1075 kw_64 kw_1076 dL_law_604 rfl dd_X12_best ⟨rfl, rfl⟩ ⟨by decide, by decide⟩ (Nat.le_of_ble_eq_true rfl) ⟨by decide, by decide⟩ _ rfl (fun q108 s109 => ?_)
        refine sl_icmp_eq C 1118 dL_law_607 (by decide) ?_ ?_
        · refine sl_iinc C 0 (y3 + (5 : Int32)) [(3, .int (y3 + (5 : Int32))), (2, .ref (wad w 82)), (1, .ref (wad w 0)), (0, .ref bs)] dL_law_1118 rfl (ii_5 _) (by decide) rfl ?_
          refine sl_goto C 18 dL_law_1121 (by decide) ?_
          exact sl_sub [0, 1, 2, 3] rfl (ih (y3 + (5 : Int32)) s109)
        · refine sl_iconst C (0 : Int32) dL_law_610 ic_0 ?_
          exact sl_ret0
      · dsimp only
        refine sl_aload_n C 2 dL_law_612 rfl ?_
        refine sl_aload_n C 3 dL_law_613 rfl ?_
        refine sl_iload_n C 0 dL_law_614 rfl ?_
        refine sl_iconst C (1 : Int32) dL_law_615 ic_1 ?_
        refine sl_iadd C dL_law_616 ?_
        refine sl_sald C dL_law_617 (fun v110 => ?_)
        refine sl_aload_n C 3 dL_law_618 rfl ?_
        refine sl_iload_n C 0 dL_law_619 rfl ?_
        refine sl_iconst C (2 : Int32) dL_law_620 ic_2 ?_
        refine sl_iadd C dL_law_621 ?_
        refine sl_sald C dL_law_622 (fun v111 => ?_)
        refine sl_aload_n C 3 dL_law_623 rfl ?_
        refine sl_iload_n C 0 dL_law_624 rfl ?_
        refine sl_iconst C (3 : Int32) dL_law_625 ic_3 ?_
        refine sl_iadd C dL_law_626 ?_
        refine sl_sald C dL_law_627 (fun v112 => ?_)
        refine sl_callVI C (R := RX11) (T := TX11) (N := 12) [.int v110, .int v111, .int v112] (G_N G) rfl (fun qq ss hh => ct_X11_rivals G v110 v111 v112 s0 qq ss hh) kw_674 kw_675 kw_676 kw_51 kw_677 dL_law_628 rfl dd_X11_rivals ⟨rfl, rfl⟩ ⟨by decide, by decide⟩ (Nat.le_of_ble_eq_true rfl) ⟨by decide, by decide⟩ _ rfl (fun q113 s114 => ?_)
        refine sl_aload_n C 1 dL_law_631 rfl ?_
        refine sl_aload_n C 3 dL_law_632 rfl ?_
        refine sl_iload_n C 0 dL_law_633 rfl ?_
        refine sl_iconst C (1 : Int32) dL_law_634 ic_1 ?_
        refine sl_iadd C dL_law_635 ?_
        refine sl_sald C dL_law_636 (fun v115 => ?_)
        refine sl_aload_n C 3 dL_law_637 rfl ?_
        refine sl_iload_n C 0 dL_law_638 rfl ?_
        refine sl_iconst C (2 : Int32) dL_law_639 ic_2 ?_
        refine sl_iadd C dL_law_640 ?_
        refine sl_sald C dL_law_641 (fun v116 => ?_)
        refine sl_aload_n C 3 dL_law_642 rfl ?_
        refine sl_iload_n C 0 dL_law_643 rfl ?_
        refine sl_iconst C (3 : Int32) dL_law_644 ic_3 ?_
        refine sl_iadd C dL_law_645 ?_
        refine sl_sald C dL_law_646 (fun v117 => ?_)
        refine sl_callVI C (R := RX12) (T := TX12) (N := 21) [.int v115, .int v116, .int v117] (G_M G) rfl (fun qq ss hh => ct_X12_rivals G v115 v116 v117 s114 qq ss hh) kw_1081 kw_1082 kw_1083 kw_64 kw_1084 dL_law_647 rfl dd_X12_rivals ⟨rfl, rfl⟩ ⟨by decide, by decide⟩ (Nat.le_of_ble_eq_true rfl) ⟨by decide, by decide⟩ _ rfl (fun q118 s119 => ?_)
        refine sl_icmp_eq C 1118 dL_law_650 (by decide) ?_ ?_
        · refine sl_iinc C 0 (y3 + (5 : Int32)) [(3, .int (y3 + (5 : Int32))), (2, .ref (wad w 82)), (1, .ref (wad w 0)), (0, .ref bs)] dL_law_1118 rfl (ii_5 _) (by decide) rfl ?_
          refine sl_goto C 18 dL_law_1121 (by decide) ?_
          exact sl_sub [0, 1, 2, 3] rfl (ih (y3 + (5 : Int32)) s119)
        · refine sl_iconst C (0 : Int32) dL_law_653 ic_0 ?_
          exact sl_ret0
      · dsimp only
        refine sl_aload_n C 2 dL_law_655 rfl ?_
        refine sl_aload_n C 3 dL_law_656 rfl ?_
        refine sl_iload_n C 0 dL_law_657 rfl ?_
        refine sl_iconst C (1 : Int32) dL_law_658 ic_1 ?_
        refine sl_iadd C dL_law_659 ?_
        refine sl_sald C dL_law_660 (fun v120 => ?_)
        refine sl_callVI C (R := RX11) (T := TX11) (N := 12) [.int v120] (G_N G) rfl (fun qq ss hh => ct_X11_handicap G v120 s0 qq ss hh) kw_691 kw_692 kw_693 kw_51 kw_694 dL_law_661 rfl dd_X11_handicap ⟨rfl, rfl⟩ ⟨by decide, by decide⟩ (Nat.le_of_ble_eq_true rfl) ⟨by decide, by decide⟩ _ rfl (fun q121 s122 => ?_)
        refine sl_aload_n C 1 dL_law_664 rfl ?_
        refine sl_aload_n C 3 dL_law_665 rfl ?_
        refine sl_iload_n C 0 dL_law_666 rfl ?_
        refine sl_iconst C (1 : Int32) dL_law_667 ic_1 ?_
        refine sl_iadd C dL_law_668 ?_
        refine sl_sald C dL_law_669 (fun v123 => ?_)
        refine sl_callVI C (R := RX12) (T := TX12) (N := 21) [.int v123] (G_M G) rfl (fun qq ss hh => ct_X12_handicap G v123 s122 qq ss hh) kw_1089 kw_1090 kw_1091 kw_64 kw_1092 dL_law_670 rfl dd_X12_handicap ⟨rfl, rfl⟩ ⟨by decide, by decide⟩ (Nat.le_of_ble_eq_true rfl) ⟨by decide, by decide⟩ _ rfl (fun q124 s125 => ?_)
        refine sl_icmp_eq C 1118 dL_law_673 (by decide) ?_ ?_
        · refine sl_iinc C 0 (y3 + (5 : Int32)) [(3, .int (y3 + (5 : Int32))), (2, .ref (wad w 82)), (1, .ref (wad w 0)), (0, .ref bs)] dL_law_1118 rfl (ii_5 _) (by decide) rfl ?_
          refine sl_goto C 18 dL_law_1121 (by decide) ?_
          exact sl_sub [0, 1, 2, 3] rfl (ih (y3 + (5 : Int32)) s125)
        · refine sl_iconst C (0 : Int32) dL_law_676 ic_0 ?_
          exact sl_ret0
      · dsimp only
        refine sl_aload_n C 2 dL_law_678 rfl ?_
        refine sl_aload_n C 3 dL_law_679 rfl ?_
        refine sl_iload_n C 0 dL_law_680 rfl ?_
        refine sl_iconst C (1 : Int32) dL_law_681 ic_1 ?_
        refine sl_iadd C dL_law_682 ?_
        refine sl_sald C dL_law_683 (fun v126 => ?_)
        refine sl_callVI C (R := RX11) (T := TX11) (N := 12) [.int v126] (G_N G) rfl (fun qq ss hh => ct_X11_order G v126 s0 qq ss hh) kw_701 kw_702 kw_703 kw_51 kw_704 dL_law_684 rfl dd_X11_order ⟨rfl, rfl⟩ ⟨by decide, by decide⟩ (Nat.le_of_ble_eq_true rfl) ⟨by decide, by decide⟩ _ rfl (fun q127 s128 => ?_)
        refine sl_aload_n C 1 dL_law_687 rfl ?_
        refine sl_aload_n C 3 dL_law_688 rfl ?_
        refine sl_iload_n C 0 dL_law_689 rfl ?_
        refine sl_iconst C (1 : Int32) dL_law_690 ic_1 ?_
        refine sl_iadd C dL_law_691 ?_
        refine sl_sald C dL_law_692 (fun v129 => ?_)
        refine sl_callVI C (R := RX12) (T := TX12) (N := 21) [.int v129] (G_M G) rfl (fun qq ss hh => ct_X12_order G v129 s128 qq ss hh) kw_1093 kw_1094 kw_1095 kw_64 kw_1096 dL_law_693 rfl dd_X12_order ⟨rfl, rfl⟩ ⟨by decide, by decide⟩ (Nat.le_of_ble_eq_true rfl) ⟨by decide, by decide⟩ _ rfl (fun q130 s131 => ?_)
        refine sl_icmp_eq C 1118 dL_law_696 (by decide) ?_ ?_
        · refine sl_iinc C 0 (y3 + (5 : Int32)) [(3, .int (y3 + (5 : Int32))), (2, .ref (wad w 82)), (1, .ref (wad w 0)), (0, .ref bs)] dL_law_1118 rfl (ii_5 _) (by decide) rfl ?_
          refine sl_goto C 18 dL_law_1121 (by decide) ?_
          exact sl_sub [0, 1, 2, 3] rfl (ih (y3 + (5 : Int32)) s131)
        · refine sl_iconst C (0 : Int32) dL_law_699 ic_0 ?_
          exact sl_ret0
      · dsimp only
        refine sl_aload_n C 2 dL_law_701 rfl ?_
        refine sl_aload_n C 3 dL_law_702 rfl ?_
        refine sl_iload_n C 0 dL_law_703 rfl ?_
        refine sl_iconst C (1 : Int32) dL_law_704 ic_1 ?_
        refine sl_iadd C dL_law_705 ?_
        refine sl_sald C dL_law_706 (fun v132 => ?_)
        refine sl_aload_n C 3 dL_law_707 rfl ?_
        refine sl_iload_n C 0 dL_law_708 rfl ?_
        refine sl_iconst C (2 : Int32) dL_law_709 ic_2 ?_
        refine sl_iadd C dL_law_710 ?_
        refine sl_sald C dL_law_711 (fun v133 => ?_)
        refine sl_aload_n C 3 dL_law_712 rfl ?_
        refine sl_iload_n C 0 dL_law_713 rfl ?_
        refine sl_iconst C (3 : Int32) dL_law_714 ic_3 ?_
        refine sl_iadd C dL_law_715 ?_
        refine sl_sald C dL_law_716 (fun v134 => ?_)
        refine sl_aload_n C 3 dL_law_717 rfl ?_
        refine sl_iload_n C 0 dL_law_718 rfl ?_
        refine sl_iconst C (4 : Int32) dL_law_719 ic_4 ?_
        refine sl_iadd C dL_law_720 ?_
        refine sl_sald C dL_law_721 (fun v135 => ?_)
        refine sl_callVI C (R := RX11) (T := TX11) (N := 12) [.int v132, .int v133, .int v134, .int v135] (G_N G) rfl (fun qq ss hh => ct_X11_note G v132 v133 v134 v135 s0 qq ss hh) kw_715 kw_716 kw_717 kw_51 kw_718 dL_law_722 rfl dd_X11_note ⟨rfl, rfl⟩ ⟨by decide, by decide⟩ (Nat.le_of_ble_eq_true rfl) ⟨by decide, by decide⟩ _ rfl (fun q136 s137 => ?_)
        refine sl_aload_n C 1 dL_law_725 rfl ?_
        refine sl_aload_n C 3 dL_law_726 rfl ?_
        refine sl_iload_n C 0 dL_law_727 rfl ?_
        refine sl_iconst C (1 : Int32) dL_law_728 ic_1 ?_
        refine sl_iadd C dL_law_729 ?_
        refine sl_sald C dL_law_730 (fun v138 => ?_)
        refine sl_aload_n C 3 dL_law_731 rfl ?_
        refine sl_iload_n C 0 dL_law_732 rfl ?_
        refine sl_iconst C (2 : Int32) dL_law_733 ic_2 ?_
        refine sl_iadd C dL_law_734 ?_
        refine sl_sald C dL_law_735 (fun v139 => ?_)
        refine sl_aload_n C 3 dL_law_736 rfl ?_
        refine sl_iload_n C 0 dL_law_737 rfl ?_
        refine sl_iconst C (3 : Int32) dL_law_738 ic_3 ?_
        refine sl_iadd C dL_law_739 ?_
        refine sl_sald C dL_law_740 (fun v140 => ?_)
        refine sl_aload_n C 3 dL_law_741 rfl ?_
        refine sl_iload_n C 0 dL_law_742 rfl ?_
        refine sl_iconst C (4 : Int32) dL_law_743 ic_4 ?_
        refine sl_iadd C dL_law_744 ?_
        refine sl_sald C dL_law_745 (fun v141 => ?_)
        refine sl_callVI C (R := RX12) (T := TX12) (N := 21) [.int v138, .int v139, .int v140, .int v141] (G_M G) rfl (fun qq ss hh => ct_X12_note G v138 v139 v140 v141 s137 qq ss hh) kw_1097 kw_1098 kw_1099 kw_64 kw_1100 dL_law_746 rfl dd_X12_note ⟨rfl, rfl⟩ ⟨by decide, by decide⟩ (Nat.le_of_ble_eq_true rfl) ⟨by decide, by decide⟩ _ rfl (fun q142 s143 => ?_)
        refine sl_icmp_eq C 1118 dL_law_749 (by decide) ?_ ?_
        · refine sl_iinc C 0 (y3 + (5 : Int32)) [(3, .int (y3 + (5 : Int32))), (2, .ref (wad w 82)), (1, .ref (wad w 0)), (0, .ref bs)] dL_law_1118 rfl (ii_5 _) (by decide) rfl ?_
          refine sl_goto C 18 dL_law_1121 (by decide) ?_
          exact sl_sub [0, 1, 2, 3] rfl (ih (y3 + (5 : Int32)) s143)
        · refine sl_iconst C (0 : Int32) dL_law_752 ic_0 ?_
          exact sl_ret0
      · dsimp only
        refine sl_aload_n C 2 dL_law_754 rfl ?_
        refine sl_aload_n C 3 dL_law_755 rfl ?_
        refine sl_iload_n C 0 dL_law_756 rfl ?_
        refine sl_iconst C (1 : Int32) dL_law_757 ic_1 ?_
        refine sl_iadd C dL_law_758 ?_
        refine sl_sald C dL_law_759 (fun v144 => ?_)
        refine sl_aload_n C 3 dL_law_760 rfl ?_
        refine sl_iload_n C 0 dL_law_761 rfl ?_
        refine sl_iconst C (2 : Int32) dL_law_762 ic_2 ?_
        refine sl_iadd C dL_law_763 ?_
        refine sl_sald C dL_law_764 (fun v145 => ?_)
        refine sl_aload_n C 3 dL_law_765 rfl ?_
        refine sl_iload_n C 0 dL_law_766 rfl ?_
        refine sl_iconst C (3 : Int32) dL_law_767 ic_3 ?_
        refine sl_iadd C dL_law_768 ?_
        refine sl_sald C dL_law_769 (fun v146 => ?_)
        refine sl_aload_n C 3 dL_law_770 rfl ?_
        refine sl_iload_n C 0 dL_law_771 rfl ?_
        refine sl_iconst C (4 : Int32) dL_law_772 ic_4 ?_
        refine sl_iadd C dL_law_773 ?_
        refine sl_sald C dL_law_774 (fun v147 => ?_)
        refine sl_callVI C (R := RX11) (T := TX11) (N := 12) [.int v144, .int v145, .int v146, .int v147] (G_N G) rfl (fun qq ss hh => ct_X11_beaten G v144 v145 v146 v147 s0 qq ss hh) kw_723 kw_724 kw_725 kw_51 kw_726 dL_law_775 rfl dd_X11_beaten ⟨rfl, rfl⟩ ⟨by decide, by decide⟩ (Nat.le_of_ble_eq_true rfl) ⟨by decide, by decide⟩ _ rfl (fun q148 s149 => ?_)
        refine sl_aload_n C 1 dL_law_778 rfl ?_
        refine sl_aload_n C 3 dL_law_779 rfl ?_
        refine sl_iload_n C 0 dL_law_780 rfl ?_
        refine sl_iconst C (1 : Int32) dL_law_781 ic_1 ?_
        refine sl_iadd C dL_law_782 ?_
        refine sl_sald C dL_law_783 (fun v150 => ?_)
        refine sl_aload_n C 3 dL_law_784 rfl ?_
        refine sl_iload_n C 0 dL_law_785 rfl ?_
        refine sl_iconst C (2 : Int32) dL_law_786 ic_2 ?_
        refine sl_iadd C dL_law_787 ?_
        refine sl_sald C dL_law_788 (fun v151 => ?_)
        refine sl_aload_n C 3 dL_law_789 rfl ?_
        refine sl_iload_n C 0 dL_law_790 rfl ?_
        refine sl_iconst C (3 : Int32) dL_law_791 ic_3 ?_
        refine sl_iadd C dL_law_792 ?_
        refine sl_sald C dL_law_793 (fun v152 => ?_)
        refine sl_aload_n C 3 dL_law_794 rfl ?_
        refine sl_iload_n C 0 dL_law_795 rfl ?_
        refine sl_iconst C (4 : Int32) dL_law_796 ic_4 ?_
        refine sl_iadd C dL_law_797 ?_
        refine sl_sald C dL_law_798 (fun v153 => ?_)
        refine sl_callVI C (R := RX12) (T := TX12) (N := 21) [.int v150, .int v151, .int v152, .int v153] (G_M G) rfl (fun qq ss hh => ct_X12_beaten G v150 v151 v152 v153 s149 qq ss hh) kw_1101 kw_1102 kw_1103 kw_64 kw_1104 dL_law_799 rfl dd_X12_beaten ⟨rfl, rfl⟩ ⟨by decide, by decide⟩ (Nat.le_of_ble_eq_true rfl) ⟨by decide, by decide⟩ _ rfl (fun q154 s155 => ?_)
        refine sl_icmp_eq C 1118 dL_law_802 (by decide) ?_ ?_
        · refine sl_iinc C 0 (y3 + (5 : Int32)) [(3, .int (y3 + (5 : Int32))), (2, .ref (wad w 82)), (1, .ref (wad w 0)), (0, .ref bs)] dL_law_1118 rfl (ii_5 _) (by decide) rfl ?_
          refine sl_goto C 18 dL_law_1121 (by decide) ?_
          exact sl_sub [0, 1, 2, 3] rfl (ih (y3 + (5 : Int32)) s155)
        · refine sl_iconst C (0 : Int32) dL_law_805 ic_0 ?_
          exact sl_ret0
      · dsimp only
        refine sl_aload_n C 2 dL_law_807 rfl ?_
        refine sl_aload_n C 3 dL_law_808 rfl ?_
        refine sl_iload_n C 0 dL_law_809 rfl ?_
        refine sl_iconst C (1 : Int32) dL_law_810 ic_1 ?_
        refine sl_iadd C dL_law_811 ?_
        refine sl_sald C dL_law_812 (fun v156 => ?_)
        refine sl_callVI C (R := RX11) (T := TX11) (N := 12) [.int v156] (G_N G) rfl (fun qq ss hh => ct_X11_forget G v156 s0 qq ss hh) kw_727 kw_728 kw_729 kw_51 kw_730 dL_law_813 rfl dd_X11_forget ⟨rfl, rfl⟩ ⟨by decide, by decide⟩ (Nat.le_of_ble_eq_true rfl) ⟨by decide, by decide⟩ _ rfl (fun q157 s158 => ?_)
        refine sl_aload_n C 1 dL_law_816 rfl ?_
        refine sl_aload_n C 3 dL_law_817 rfl ?_
        refine sl_iload_n C 0 dL_law_818 rfl ?_
        refine sl_iconst C (1 : Int32) dL_law_819 ic_1 ?_
        refine sl_iadd C dL_law_820 ?_
        refine sl_sald C dL_law_821 (fun v159 => ?_)
        refine sl_callVI C (R := RX12) (T := TX12) (N := 21) [.int v159] (G_M G) rfl (fun qq ss hh => ct_X12_forget G v159 s158 qq ss hh) kw_1105 kw_1106 kw_1107 kw_64 kw_1108 dL_law_822 rfl dd_X12_forget ⟨rfl, rfl⟩ ⟨by decide, by decide⟩ (Nat.le_of_ble_eq_true rfl) ⟨by decide, by decide⟩ _ rfl (fun q160 s161 => ?_)
        refine sl_icmp_eq C 1118 dL_law_825 (by decide) ?_ ?_
        · refine sl_iinc C 0 (y3 + (5 : Int32)) [(3, .int (y3 + (5 : Int32))), (2, .ref (wad w 82)), (1, .ref (wad w 0)), (0, .ref bs)] dL_law_1118 rfl (ii_5 _) (by decide) rfl ?_
          refine sl_goto C 18 dL_law_1121 (by decide) ?_
          exact sl_sub [0, 1, 2, 3] rfl (ih (y3 + (5 : Int32)) s161)
        · refine sl_iconst C (0 : Int32) dL_law_828 ic_0 ?_
          exact sl_ret0
      · dsimp only
        refine sl_aload_n C 2 dL_law_830 rfl ?_
        refine sl_aload_n C 3 dL_law_831 rfl ?_
        refine sl_iload_n C 0 dL_law_832 rfl ?_
        refine sl_iconst C (1 : Int32) dL_law_833 ic_1 ?_
        refine sl_iadd C dL_law_834 ?_
        refine sl_sald C dL_law_835 (fun v162 => ?_)
        refine sl_callVI C (R := RX11) (T := TX11) (N := 12) [.int v162] (G_N G) rfl (fun qq ss hh => ct_X11_is G v162 s0 qq ss hh) kw_731 kw_732 kw_733 kw_51 kw_734 dL_law_836 rfl dd_X11_is ⟨rfl, rfl⟩ ⟨by decide, by decide⟩ (Nat.le_of_ble_eq_true rfl) ⟨by decide, by decide⟩ _ rfl (fun q163 s164 => ?_)
        refine sl_aload_n C 1 dL_law_839 rfl ?_
        refine sl_aload_n C 3 dL_law_840 rfl ?_
        refine sl_iload_n C 0 dL_law_841 rfl ?_
        refine sl_iconst C (1 : Int32) dL_law_842 ic_1 ?_
        refine sl_iadd C dL_law_843 ?_
        refine sl_sald C dL_law_844 (fun v165 => ?_)
        refine sl_callVI C (R := RX12) (T := TX12) (N := 21) [.int v165] (G_M G) rfl (fun qq ss hh => ct_X12_is G v165 s164 qq ss hh) kw_1109 kw_1110 kw_1111 kw_64 kw_1112 dL_law_845 rfl dd_X12_is ⟨rfl, rfl⟩ ⟨by decide, by decide⟩ (Nat.le_of_ble_eq_true rfl) ⟨by decide, by decide⟩ _ rfl (fun q166 s167 => ?_)
        refine sl_icmp_eq C 1118 dL_law_848 (by decide) ?_ ?_
        · refine sl_iinc C 0 (y3 + (5 : Int32)) [(3, .int (y3 + (5 : Int32))), (2, .ref (wad w 82)), (1, .ref (wad w 0)), (0, .ref bs)] dL_law_1118 rfl (ii_5 _) (by decide) rfl ?_
          refine sl_goto C 18 dL_law_1121 (by decide) ?_
          exact sl_sub [0, 1, 2, 3] rfl (ih (y3 + (5 : Int32)) s167)
        · refine sl_iconst C (0 : Int32) dL_law_851 ic_0 ?_
          exact sl_ret0
      · dsimp only
        refine sl_aload_n C 2 dL_law_853 rfl ?_
        refine sl_aload_n C 3 dL_law_854 rfl ?_
        refine sl_iload_n C 0 dL_law_855 rfl ?_
        refine sl_iconst C (1 : Int32) dL_law_856 ic_1 ?_
        refine sl_iadd C dL_law_857 ?_
        refine sl_sald C dL_law_858 (fun v168 => ?_)
        refine sl_callVI C (R := RX11) (T := TX11) (N := 12) [.int v168] (G_N G) rfl (fun qq ss hh => ct_X11_offer G v168 s0 qq ss hh) kw_747 kw_748 kw_749 kw_51 kw_750 dL_law_859 rfl dd_X11_offer ⟨rfl, rfl⟩ ⟨by decide, by decide⟩ (Nat.le_of_ble_eq_true rfl) ⟨by decide, by decide⟩ _ rfl (fun q169 s170 => ?_)
        refine sl_aload_n C 1 dL_law_862 rfl ?_
        refine sl_aload_n C 3 dL_law_863 rfl ?_
        refine sl_iload_n C 0 dL_law_864 rfl ?_
        refine sl_iconst C (1 : Int32) dL_law_865 ic_1 ?_
        refine sl_iadd C dL_law_866 ?_
        refine sl_sald C dL_law_867 (fun v171 => ?_)
        refine sl_callVI C (R := RX12) (T := TX12) (N := 21) [.int v171] (G_M G) rfl (fun qq ss hh => ct_X12_offer G v171 s170 qq ss hh) kw_1117 kw_1118 kw_1119 kw_64 kw_1120 dL_law_868 rfl dd_X12_offer ⟨rfl, rfl⟩ ⟨by decide, by decide⟩ (Nat.le_of_ble_eq_true rfl) ⟨by decide, by decide⟩ _ rfl (fun q172 s173 => ?_)
        refine sl_icmp_eq C 1118 dL_law_871 (by decide) ?_ ?_
        · refine sl_iinc C 0 (y3 + (5 : Int32)) [(3, .int (y3 + (5 : Int32))), (2, .ref (wad w 82)), (1, .ref (wad w 0)), (0, .ref bs)] dL_law_1118 rfl (ii_5 _) (by decide) rfl ?_
          refine sl_goto C 18 dL_law_1121 (by decide) ?_
          exact sl_sub [0, 1, 2, 3] rfl (ih (y3 + (5 : Int32)) s173)
        · refine sl_iconst C (0 : Int32) dL_law_874 ic_0 ?_
          exact sl_ret0
      · dsimp only
        refine sl_aload_n C 2 dL_law_876 rfl ?_
        refine sl_aload_n C 3 dL_law_877 rfl ?_
        refine sl_iload_n C 0 dL_law_878 rfl ?_
        refine sl_iconst C (1 : Int32) dL_law_879 ic_1 ?_
        refine sl_iadd C dL_law_880 ?_
        refine sl_sald C dL_law_881 (fun v174 => ?_)
        refine sl_aload_n C 3 dL_law_882 rfl ?_
        refine sl_iload_n C 0 dL_law_883 rfl ?_
        refine sl_iconst C (2 : Int32) dL_law_884 ic_2 ?_
        refine sl_iadd C dL_law_885 ?_
        refine sl_sald C dL_law_886 (fun v175 => ?_)
        refine sl_callVI C (R := RX11) (T := TX11) (N := 12) [.int v174, .int v175] (G_N G) rfl (fun qq ss hh => ct_X11_may G v174 v175 s0 qq ss hh) kw_756 kw_757 kw_758 kw_51 kw_759 dL_law_887 rfl dd_X11_may ⟨rfl, rfl⟩ ⟨by decide, by decide⟩ (Nat.le_of_ble_eq_true rfl) ⟨by decide, by decide⟩ _ rfl (fun q176 s177 => ?_)
        refine sl_aload_n C 1 dL_law_890 rfl ?_
        refine sl_aload_n C 3 dL_law_891 rfl ?_
        refine sl_iload_n C 0 dL_law_892 rfl ?_
        refine sl_iconst C (1 : Int32) dL_law_893 ic_1 ?_
        refine sl_iadd C dL_law_894 ?_
        refine sl_sald C dL_law_895 (fun v178 => ?_)
        refine sl_aload_n C 3 dL_law_896 rfl ?_
        refine sl_iload_n C 0 dL_law_897 rfl ?_
        refine sl_iconst C (2 : Int32) dL_law_898 ic_2 ?_
        refine sl_iadd C dL_law_899 ?_
        refine sl_sald C dL_law_900 (fun v179 => ?_)
        refine sl_callVI C (R := RX12) (T := TX12) (N := 21) [.int v178, .int v179] (G_M G) rfl (fun qq ss hh => ct_X12_may G v178 v179 s177 qq ss hh) kw_1122 kw_1123 kw_1124 kw_64 kw_1125 dL_law_901 rfl dd_X12_may ⟨rfl, rfl⟩ ⟨by decide, by decide⟩ (Nat.le_of_ble_eq_true rfl) ⟨by decide, by decide⟩ _ rfl (fun q180 s181 => ?_)
        refine sl_icmp_eq C 1118 dL_law_904 (by decide) ?_ ?_
        · refine sl_iinc C 0 (y3 + (5 : Int32)) [(3, .int (y3 + (5 : Int32))), (2, .ref (wad w 82)), (1, .ref (wad w 0)), (0, .ref bs)] dL_law_1118 rfl (ii_5 _) (by decide) rfl ?_
          refine sl_goto C 18 dL_law_1121 (by decide) ?_
          exact sl_sub [0, 1, 2, 3] rfl (ih (y3 + (5 : Int32)) s181)
        · refine sl_iconst C (0 : Int32) dL_law_907 ic_0 ?_
          exact sl_ret0
      · dsimp only
        refine sl_aload_n C 2 dL_law_909 rfl ?_
        refine sl_callVI C (R := RX11) (T := TX11) (N := 12) [] (G_N G) rfl (fun qq ss hh => ct_X11_clash G s0 qq ss hh) kw_768 kw_769 kw_770 kw_51 kw_771 dL_law_910 rfl dd_X11_clash ⟨rfl, rfl⟩ ⟨by decide, by decide⟩ (Nat.le_of_ble_eq_true rfl) ⟨by decide, by decide⟩ _ rfl (fun q182 s183 => ?_)
        refine sl_aload_n C 1 dL_law_913 rfl ?_
        refine sl_callVI C (R := RX12) (T := TX12) (N := 21) [] (G_M G) rfl (fun qq ss hh => ct_X12_clash G s183 qq ss hh) kw_1134 kw_1135 kw_1136 kw_64 kw_1137 dL_law_914 rfl dd_X12_clash ⟨rfl, rfl⟩ ⟨by decide, by decide⟩ (Nat.le_of_ble_eq_true rfl) ⟨by decide, by decide⟩ _ rfl (fun q184 s185 => ?_)
        refine sl_icmp_eq C 1118 dL_law_917 (by decide) ?_ ?_
        · refine sl_iinc C 0 (y3 + (5 : Int32)) [(3, .int (y3 + (5 : Int32))), (2, .ref (wad w 82)), (1, .ref (wad w 0)), (0, .ref bs)] dL_law_1118 rfl (ii_5 _) (by decide) rfl ?_
          refine sl_goto C 18 dL_law_1121 (by decide) ?_
          exact sl_sub [0, 1, 2, 3] rfl (ih (y3 + (5 : Int32)) s185)
        · refine sl_iconst C (0 : Int32) dL_law_920 ic_0 ?_
          exact sl_ret0
      · dsimp only
        refine sl_aload_n C 2 dL_law_922 rfl ?_
        refine sl_aload_n C 3 dL_law_923 rfl ?_
        refine sl_iload_n C 0 dL_law_924 rfl ?_
        refine sl_iconst C (1 : Int32) dL_law_925 ic_1 ?_
        refine sl_iadd C dL_law_926 ?_
        refine sl_sald C dL_law_927 (fun v186 => ?_)
        refine sl_aload_n C 3 dL_law_928 rfl ?_
        refine sl_iload_n C 0 dL_law_929 rfl ?_
        refine sl_iconst C (2 : Int32) dL_law_930 ic_2 ?_
        refine sl_iadd C dL_law_931 ?_
        refine sl_sald C dL_law_932 (fun v187 => ?_)
        refine sl_callVI C (R := RX11) (T := TX11) (N := 12) [.int v186, .int v187] (G_N G) rfl (fun qq ss hh => ct_X11_odds G v186 v187 s0 qq ss hh) kw_776 kw_777 kw_778 kw_51 kw_779 dL_law_933 rfl dd_X11_odds ⟨rfl, rfl⟩ ⟨by decide, by decide⟩ (Nat.le_of_ble_eq_true rfl) ⟨by decide, by decide⟩ _ rfl (fun q188 s189 => ?_)
        refine sl_aload_n C 1 dL_law_936 rfl ?_
        refine sl_aload_n C 3 dL_law_937 rfl ?_
        refine sl_iload_n C 0 dL_law_938 rfl ?_
        refine sl_iconst C (1 : Int32) dL_law_939 ic_1 ?_
        refine sl_iadd C dL_law_940 ?_
        refine sl_sald C dL_law_941 (fun v190 => ?_)
        refine sl_aload_n C 3 dL_law_942 rfl ?_
        refine sl_iload_n C 0 dL_law_943 rfl ?_
        refine sl_iconst C (2 : Int32) dL_law_944 ic_2 ?_
        refine sl_iadd C dL_law_945 ?_
        refine sl_sald C dL_law_946 (fun v191 => ?_)
        refine sl_callVI C (R := RX12) (T := TX12) (N := 21) [.int v190, .int v191] (G_M G) rfl (fun qq ss hh => ct_X12_odds G v190 v191 s189 qq ss hh) kw_1138 kw_1139 kw_1140 kw_64 kw_1141 dL_law_947 rfl dd_X12_odds ⟨rfl, rfl⟩ ⟨by decide, by decide⟩ (Nat.le_of_ble_eq_true rfl) ⟨by decide, by decide⟩ _ rfl (fun q192 s193 => ?_)
        refine sl_icmp_eq C 1118 dL_law_950 (by decide) ?_ ?_
        · refine sl_iinc C 0 (y3 + (5 : Int32)) [(3, .int (y3 + (5 : Int32))), (2, .ref (wad w 82)), (1, .ref (wad w 0)), (0, .ref bs)] dL_law_1118 rfl (ii_5 _) (by decide) rfl ?_
          refine sl_goto C 18 dL_law_1121 (by decide) ?_
          exact sl_sub [0, 1, 2, 3] rfl (ih (y3 + (5 : Int32)) s193)
        · refine sl_iconst C (0 : Int32) dL_law_953 ic_0 ?_
          exact sl_ret0
      · dsimp only
        refine sl_aload_n C 2 dL_law_955 rfl ?_
        refine sl_aload_n C 3 dL_law_956 rfl ?_
        refine sl_iload_n C 0 dL_law_957 rfl ?_
        refine sl_iconst C (1 : Int32) dL_law_958 ic_1 ?_
        refine sl_iadd C dL_law_959 ?_
        refine sl_sald C dL_law_960 (fun v194 => ?_)
        refine sl_aload_n C 3 dL_law_961 rfl ?_
        refine sl_iload_n C 0 dL_law_962 rfl ?_
        refine sl_iconst C (2 : Int32) dL_law_963 ic_2 ?_
        refine sl_iadd C dL_law_964 ?_
        refine sl_sald C dL_law_965 (fun v195 => ?_)
        refine sl_callVI C (R := RX11) (T := TX11) (N := 12) [.int v194, .int v195] (G_N G) rfl (fun qq ss hh => ct_X11_valleys G v194 v195 s0 qq ss hh) kw_789 kw_790 kw_791 kw_51 kw_792 dL_law_966 rfl dd_X11_valleys ⟨rfl, rfl⟩ ⟨by decide, by decide⟩ (Nat.le_of_ble_eq_true rfl) ⟨by decide, by decide⟩ _ rfl (fun q196 s197 => ?_)
        refine sl_aload_n C 1 dL_law_969 rfl ?_
        refine sl_aload_n C 3 dL_law_970 rfl ?_
        refine sl_iload_n C 0 dL_law_971 rfl ?_
        refine sl_iconst C (1 : Int32) dL_law_972 ic_1 ?_
        refine sl_iadd C dL_law_973 ?_
        refine sl_sald C dL_law_974 (fun v198 => ?_)
        refine sl_aload_n C 3 dL_law_975 rfl ?_
        refine sl_iload_n C 0 dL_law_976 rfl ?_
        refine sl_iconst C (2 : Int32) dL_law_977 ic_2 ?_
        refine sl_iadd C dL_law_978 ?_
        refine sl_sald C dL_law_979 (fun v199 => ?_)
        refine sl_callVI C (R := RX12) (T := TX12) (N := 21) [.int v198, .int v199] (G_M G) rfl (fun qq ss hh => ct_X12_valleys G v198 v199 s197 qq ss hh) kw_1146 kw_1147 kw_1148 kw_64 kw_1149 dL_law_980 rfl dd_X12_valleys ⟨rfl, rfl⟩ ⟨by decide, by decide⟩ (Nat.le_of_ble_eq_true rfl) ⟨by decide, by decide⟩ _ rfl (fun q200 s201 => ?_)
        refine sl_icmp_eq C 1118 dL_law_983 (by decide) ?_ ?_
        · refine sl_iinc C 0 (y3 + (5 : Int32)) [(3, .int (y3 + (5 : Int32))), (2, .ref (wad w 82)), (1, .ref (wad w 0)), (0, .ref bs)] dL_law_1118 rfl (ii_5 _) (by decide) rfl ?_
          refine sl_goto C 18 dL_law_1121 (by decide) ?_
          exact sl_sub [0, 1, 2, 3] rfl (ih (y3 + (5 : Int32)) s201)
        · refine sl_iconst C (0 : Int32) dL_law_986 ic_0 ?_
          exact sl_ret0
      · dsimp only
        refine sl_aload_n C 2 dL_law_988 rfl ?_
        refine sl_aload_n C 3 dL_law_989 rfl ?_
        refine sl_iload_n C 0 dL_law_990 rfl ?_
        refine sl_iconst C (1 : Int32) dL_law_991 ic_1 ?_
        refine sl_iadd C dL_law_992 ?_
        refine sl_sald C dL_law_993 (fun v202 => ?_)
        refine sl_callVL C (R := RX11) (T := TX11) (N := 12) [.int v202] (G_N G) rfl (fun qq ss hh => ct_X11_part G v202 s0 qq ss hh) kw_806 kw_807 kw_808 kw_51 kw_809 dL_law_994 rfl dd_X11_part ⟨rfl, rfl⟩ ⟨by decide, by decide⟩ (Nat.le_of_ble_eq_true rfl) ⟨by decide, by decide⟩ _ rfl (fun q203 s204 => ?_)
        refine sl_aload_n C 1 dL_law_997 rfl ?_
        refine sl_aload_n C 3 dL_law_998 rfl ?_
        refine sl_iload_n C 0 dL_law_999 rfl ?_
        refine sl_iconst C (1 : Int32) dL_law_1000 ic_1 ?_
        refine sl_iadd C dL_law_1001 ?_
        refine sl_sald C dL_law_1002 (fun v205 => ?_)
        refine sl_callVL C (R := RX12) (T := TX12) (N := 21) [.int v205] (G_M G) rfl (fun qq ss hh => ct_X12_part G v205 s204 qq ss hh) kw_1209 kw_1210 kw_1211 kw_64 kw_1212 dL_law_1003 rfl dd_X12_part ⟨rfl, rfl⟩ ⟨by decide, by decide⟩ (Nat.le_of_ble_eq_true rfl) ⟨by decide, by decide⟩ _ rfl (fun q206 s207 => ?_)
        refine sl_lcmp C dL_law_1006 ?_
        refine sl_if_eq C 1118 dL_law_1007 (by decide) ?_ ?_
        · refine sl_iinc C 0 (y3 + (5 : Int32)) [(3, .int (y3 + (5 : Int32))), (2, .ref (wad w 82)), (1, .ref (wad w 0)), (0, .ref bs)] dL_law_1118 rfl (ii_5 _) (by decide) rfl ?_
          refine sl_goto C 18 dL_law_1121 (by decide) ?_
          exact sl_sub [0, 1, 2, 3] rfl (ih (y3 + (5 : Int32)) s207)
        · refine sl_iconst C (0 : Int32) dL_law_1010 ic_0 ?_
          exact sl_ret0
      · dsimp only
        refine sl_aload_n C 2 dL_law_1012 rfl ?_
        refine sl_aload_n C 3 dL_law_1013 rfl ?_
        refine sl_iload_n C 0 dL_law_1014 rfl ?_
        refine sl_iconst C (1 : Int32) dL_law_1015 ic_1 ?_
        refine sl_iadd C dL_law_1016 ?_
        refine sl_sald C dL_law_1017 (fun v208 => ?_)
        refine sl_callVI C (R := RX11) (T := TX11) (N := 12) [.int v208] (G_N G) rfl (fun qq ss hh => ct_X11_image G v208 s0 qq ss hh) kw_810 kw_811 kw_812 kw_51 kw_813 dL_law_1018 rfl dd_X11_image ⟨rfl, rfl⟩ ⟨by decide, by decide⟩ (Nat.le_of_ble_eq_true rfl) ⟨by decide, by decide⟩ _ rfl (fun q209 s210 => ?_)
        refine sl_aload_n C 1 dL_law_1021 rfl ?_
        refine sl_aload_n C 3 dL_law_1022 rfl ?_
        refine sl_iload_n C 0 dL_law_1023 rfl ?_
        refine sl_iconst C (1 : Int32) dL_law_1024 ic_1 ?_
        refine sl_iadd C dL_law_1025 ?_
        refine sl_sald C dL_law_1026 (fun v211 => ?_)
        refine sl_callVI C (R := RX12) (T := TX12) (N := 21) [.int v211] (G_M G) rfl (fun qq ss hh => ct_X12_image G v211 s210 qq ss hh) kw_1213 kw_1214 kw_1215 kw_64 kw_1216 dL_law_1027 rfl dd_X12_image ⟨rfl, rfl⟩ ⟨by decide, by decide⟩ (Nat.le_of_ble_eq_true rfl) ⟨by decide, by decide⟩ _ rfl (fun q212 s213 => ?_)
        refine sl_icmp_eq C 1118 dL_law_1030 (by decide) ?_ ?_
        · refine sl_iinc C 0 (y3 + (5 : Int32)) [(3, .int (y3 + (5 : Int32))), (2, .ref (wad w 82)), (1, .ref (wad w 0)), (0, .ref bs)] dL_law_1118 rfl (ii_5 _) (by decide) rfl ?_
          refine sl_goto C 18 dL_law_1121 (by decide) ?_
          exact sl_sub [0, 1, 2, 3] rfl (ih (y3 + (5 : Int32)) s213)
        · refine sl_iconst C (0 : Int32) dL_law_1033 ic_0 ?_
          exact sl_ret0
      · dsimp only
        refine sl_aload_n C 2 dL_law_1035 rfl ?_
        refine sl_aload_n C 3 dL_law_1036 rfl ?_
        refine sl_iload_n C 0 dL_law_1037 rfl ?_
        refine sl_iconst C (1 : Int32) dL_law_1038 ic_1 ?_
        refine sl_iadd C dL_law_1039 ?_
        refine sl_sald C dL_law_1040 (fun v214 => ?_)
        refine sl_callVI C (R := RX11) (T := TX11) (N := 12) [.int v214] (G_N G) rfl (fun qq ss hh => ct_X11_from G v214 s0 qq ss hh) kw_814 kw_815 kw_816 kw_51 kw_817 dL_law_1041 rfl dd_X11_from ⟨rfl, rfl⟩ ⟨by decide, by decide⟩ (Nat.le_of_ble_eq_true rfl) ⟨by decide, by decide⟩ _ rfl (fun q215 s216 => ?_)
        refine sl_aload_n C 1 dL_law_1044 rfl ?_
        refine sl_aload_n C 3 dL_law_1045 rfl ?_
        refine sl_iload_n C 0 dL_law_1046 rfl ?_
        refine sl_iconst C (1 : Int32) dL_law_1047 ic_1 ?_
        refine sl_iadd C dL_law_1048 ?_
        refine sl_sald C dL_law_1049 (fun v217 => ?_)
        refine sl_callVI C (R := RX12) (T := TX12) (N := 21) [.int v217] (G_M G) rfl (fun qq ss hh => ct_X12_from G v217 s216 qq ss hh) kw_1217 kw_1218 kw_1219 kw_64 kw_1220 dL_law_1050 rfl dd_X12_from ⟨rfl, rfl⟩ ⟨by decide, by decide⟩ (Nat.le_of_ble_eq_true rfl) ⟨by decide, by decide⟩ _ rfl (fun q218 s219 => ?_)
        refine sl_icmp_eq C 1118 dL_law_1053 (by decide) ?_ ?_
        · refine sl_iinc C 0 (y3 + (5 : Int32)) [(3, .int (y3 + (5 : Int32))), (2, .ref (wad w 82)), (1, .ref (wad w 0)), (0, .ref bs)] dL_law_1118 rfl (ii_5 _) (by decide) rfl ?_
          refine sl_goto C 18 dL_law_1121 (by decide) ?_
          exact sl_sub [0, 1, 2, 3] rfl (ih (y3 + (5 : Int32)) s219)
        · refine sl_iconst C (0 : Int32) dL_law_1056 ic_0 ?_
          exact sl_ret0
      · dsimp only
        refine sl_aload_n C 2 dL_law_1058 rfl ?_
        refine sl_aload_n C 3 dL_law_1059 rfl ?_
        refine sl_iload_n C 0 dL_law_1060 rfl ?_
        refine sl_iconst C (1 : Int32) dL_law_1061 ic_1 ?_
        refine sl_iadd C dL_law_1062 ?_
        refine sl_sald C dL_law_1063 (fun v220 => ?_)
        refine sl_callVI C (R := RX11) (T := TX11) (N := 12) [.int v220] (G_N G) rfl (fun qq ss hh => ct_X11_status G v220 s0 qq ss hh) kw_818 kw_819 kw_820 kw_51 kw_821 dL_law_1064 rfl dd_X11_status ⟨rfl, rfl⟩ ⟨by decide, by decide⟩ (Nat.le_of_ble_eq_true rfl) ⟨by decide, by decide⟩ _ rfl (fun q221 s222 => ?_)
        refine sl_aload_n C 1 dL_law_1067 rfl ?_
        refine sl_aload_n C 3 dL_law_1068 rfl ?_
        refine sl_iload_n C 0 dL_law_1069 rfl ?_
        refine sl_iconst C (1 : Int32) dL_law_1070 ic_1 ?_
        refine sl_iadd C dL_law_1071 ?_
        refine sl_sald C dL_law_1072 (fun v223 => ?_)
        refine sl_callVI C (R := RX12) (T := TX12) (N := 21) [.int v223] (G_M G) rfl (fun qq ss hh => ct_X12_status G v223 s222 qq ss hh) kw_1221 kw_1222 kw_1223 kw_64 kw_1224 dL_law_1073 rfl dd_X12_status ⟨rfl, rfl⟩ ⟨by decide, by decide⟩ (Nat.le_of_ble_eq_true rfl) ⟨by decide, by decide⟩ _ rfl (fun q224 s225 => ?_)
        refine sl_icmp_eq C 1118 dL_law_1076 (by decide) ?_ ?_
        · refine sl_iinc C 0 (y3 + (5 : Int32)) [(3, .int (y3 + (5 : Int32))), (2, .ref (wad w 82)), (1, .ref (wad w 0)), (0, .ref bs)] dL_law_1118 rfl (ii_5 _) (by decide) rfl ?_
          refine sl_goto C 18 dL_law_1121 (by decide) ?_
          exact sl_sub [0, 1, 2, 3] rfl (ih (y3 + (5 : Int32)) s225)
        · refine sl_iconst C (0 : Int32) dL_law_1079 ic_0 ?_
          exact sl_ret0
      · dsimp only
        refine sl_aload_n C 2 dL_law_1081 rfl ?_
        refine sl_aload_n C 3 dL_law_1082 rfl ?_
        refine sl_iload_n C 0 dL_law_1083 rfl ?_
        refine sl_iconst C (1 : Int32) dL_law_1084 ic_1 ?_
        refine sl_iadd C dL_law_1085 ?_
        refine sl_sald C dL_law_1086 (fun v226 => ?_)
        refine sl_callVI C (R := RX11) (T := TX11) (N := 12) [.int v226] (G_N G) rfl (fun qq ss hh => ct_X11_count G v226 s0 qq ss hh) kw_822 kw_823 kw_824 kw_51 kw_825 dL_law_1087 rfl dd_X11_count ⟨rfl, rfl⟩ ⟨by decide, by decide⟩ (Nat.le_of_ble_eq_true rfl) ⟨by decide, by decide⟩ _ rfl (fun q227 s228 => ?_)
        refine sl_aload_n C 1 dL_law_1090 rfl ?_
        refine sl_aload_n C 3 dL_law_1091 rfl ?_
        refine sl_iload_n C 0 dL_law_1092 rfl ?_
        refine sl_iconst C (1 : Int32) dL_law_1093 ic_1 ?_
        refine sl_iadd C dL_law_1094 ?_
        refine sl_sald C dL_law_1095 (fun v229 => ?_)
        refine sl_callVI C (R := RX12) (T := TX12) (N := 21) [.int v229] (G_M G) rfl (fun qq ss hh => ct_X12_count G v229 s228 qq ss hh) kw_1225 kw_1226 kw_1227 kw_64 kw_1228 dL_law_1096 rfl dd_X12_count ⟨rfl, rfl⟩ ⟨by decide, by decide⟩ (Nat.le_of_ble_eq_true rfl) ⟨by decide, by decide⟩ _ rfl (fun q230 s231 => ?_)
        refine sl_icmp_eq C 1118 dL_law_1099 (by decide) ?_ ?_
        · refine sl_iinc C 0 (y3 + (5 : Int32)) [(3, .int (y3 + (5 : Int32))), (2, .ref (wad w 82)), (1, .ref (wad w 0)), (0, .ref bs)] dL_law_1118 rfl (ii_5 _) (by decide) rfl ?_
          refine sl_goto C 18 dL_law_1121 (by decide) ?_
          exact sl_sub [0, 1, 2, 3] rfl (ih (y3 + (5 : Int32)) s231)
        · refine sl_iconst C (0 : Int32) dL_law_1102 ic_0 ?_
          exact sl_ret0
      · dsimp only
        refine sl_aload_n C 2 dL_law_1104 rfl ?_
        refine sl_callVL C (R := RX11) (T := TX11) (N := 12) [] (G_N G) rfl (fun qq ss hh => ct_X11_digest G s0 qq ss hh) kw_839 kw_840 kw_841 kw_51 kw_842 dL_law_1105 rfl dd_X11_digest ⟨rfl, rfl⟩ ⟨by decide, by decide⟩ (Nat.le_of_ble_eq_true rfl) ⟨by decide, by decide⟩ _ rfl (fun q232 s233 => ?_)
        refine sl_aload_n C 1 dL_law_1108 rfl ?_
        refine sl_callVL C (R := RX12) (T := TX12) (N := 21) [] (G_M G) rfl (fun qq ss hh => ct_X12_digest G s233 qq ss hh) kw_1241 kw_1242 kw_1243 kw_64 kw_1244 dL_law_1109 rfl dd_X12_digest ⟨rfl, rfl⟩ ⟨by decide, by decide⟩ (Nat.le_of_ble_eq_true rfl) ⟨by decide, by decide⟩ _ rfl (fun q234 s235 => ?_)
        refine sl_lcmp C dL_law_1112 ?_
        refine sl_if_eq C 1118 dL_law_1113 (by decide) ?_ ?_
        · refine sl_iinc C 0 (y3 + (5 : Int32)) [(3, .int (y3 + (5 : Int32))), (2, .ref (wad w 82)), (1, .ref (wad w 0)), (0, .ref bs)] dL_law_1118 rfl (ii_5 _) (by decide) rfl ?_
          refine sl_goto C 18 dL_law_1121 (by decide) ?_
          exact sl_sub [0, 1, 2, 3] rfl (ih (y3 + (5 : Int32)) s235)
        · refine sl_iconst C (0 : Int32) dL_law_1116 ic_0 ?_
          exact sl_ret0
      · refine sl_iinc C 0 (y3 + (5 : Int32)) [(3, .int (y3 + (5 : Int32))), (2, .ref (wad w 82)), (1, .ref (wad w 0)), (0, .ref bs)] dL_law_1118 rfl (ii_5 _) (by decide) rfl ?_
        refine sl_goto C 18 dL_law_1121 (by decide) ?_
        exact sl_sub [0, 1, 2, 3] rfl (ih (y3 + (5 : Int32)) s0)
