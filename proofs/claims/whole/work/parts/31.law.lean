def fL_law_18 (xs : Nat → Int32) (L : Nat) : Nat → Mem → Int32 → Option (Int32 × Mem)
  | 0, _, _ => none
  | fu + 1, σ, x3 =>
    if x3 ≤ ((Int32.ofNat L) - (3 : Int32)) then (d_ab x3 L <| d_lt ((xs x3.toNatClampNeg) &&& (63 : Int32)) fun v3 => if v3 = (0 : Int32) then (d_ab (x3 + (1 : Int32)) L <| d_bd (fX10_feed σ (xs (x3 + (1 : Int32)).toNatClampNeg)) fun q6 => d_ab (x3 + (1 : Int32)) L <| d_bd (fX11_feed (q6.2 11 0) (xs (x3 + (1 : Int32)).toNatClampNeg)) fun q8 => d_lt (upM q6.2 11 0 q8.2) fun m9 => if q6.1 = q8.1 then (d_lt (x3 + (3 : Int32)) fun v11 => fL_law_18 xs L fu m9 v11) else (some ((0 : Int32), m9))) else (if v3 = (1 : Int32) then (d_bd (fX10_street σ) fun q13 => d_bd (fX11_street (q13.2 11 0)) fun q14 => d_lt (upM q13.2 11 0 q14.2) fun m15 => if q13.1 = q14.1 then (d_lt (x3 + (3 : Int32)) fun v17 => fL_law_18 xs L fu m15 v17) else (some ((0 : Int32), m15))) else (if v3 = (2 : Int32) then (d_bd (fX10_fault σ) fun q19 => d_bd (fX11_fault (σ 11 0)) fun q20 => if q19 = q20 then (d_lt (x3 + (3 : Int32)) fun v22 => fL_law_18 xs L fu σ v22) else (some ((0 : Int32), σ))) else (if v3 = (3 : Int32) then (d_ab (x3 + (1 : Int32)) L <| d_bd (fX10_told σ (xs (x3 + (1 : Int32)).toNatClampNeg)) fun q25 => d_ab (x3 + (1 : Int32)) L <| d_bd (fX11_told (σ 11 0) (xs (x3 + (1 : Int32)).toNatClampNeg)) fun q27 => if q25 = q27 then (d_lt (x3 + (3 : Int32)) fun v29 => fL_law_18 xs L fu σ v29) else (some ((0 : Int32), σ))) else (if v3 = (4 : Int32) then (d_ab (x3 + (1 : Int32)) L <| d_ab (x3 + (2 : Int32)) L <| d_bd (fX10_fob σ (xs (x3 + (1 : Int32)).toNatClampNeg) (xs (x3 + (2 : Int32)).toNatClampNeg)) fun q33 => d_ab (x3 + (1 : Int32)) L <| d_ab (x3 + (2 : Int32)) L <| d_bd (fX11_fob (q33.2 11 0) (xs (x3 + (1 : Int32)).toNatClampNeg) (xs (x3 + (2 : Int32)).toNatClampNeg)) fun q36 => d_lt (upM q33.2 11 0 q36.2) fun m37 => if q33.1 = q36.1 then (d_lt (x3 + (3 : Int32)) fun v39 => fL_law_18 xs L fu m37 v39) else (some ((0 : Int32), m37))) else (if v3 = (5 : Int32) then (d_ab (x3 + (1 : Int32)) L <| d_ab (x3 + (2 : Int32)) L <| d_bd (fX10_gate σ (xs (x3 + (1 : Int32)).toNatClampNeg) (xs (x3 + (2 : Int32)).toNatClampNeg)) fun q43 => d_ab (x3 + (1 : Int32)) L <| d_ab (x3 + (2 : Int32)) L <| d_bd (fX11_gate (q43.2 11 0) (xs (x3 + (1 : Int32)).toNatClampNeg) (xs (x3 + (2 : Int32)).toNatClampNeg)) fun q46 => d_lt (upM q43.2 11 0 q46.2) fun m47 => if q43.1 = q46.1 then (d_lt (x3 + (3 : Int32)) fun v49 => fL_law_18 xs L fu m47 v49) else (some ((0 : Int32), m47))) else (if v3 = (6 : Int32) then (d_ab (x3 + (1 : Int32)) L <| d_ab (x3 + (2 : Int32)) L <| d_bd (fX10_last σ (xs (x3 + (1 : Int32)).toNatClampNeg) (xs (x3 + (2 : Int32)).toNatClampNeg)) fun q53 => d_ab (x3 + (1 : Int32)) L <| d_ab (x3 + (2 : Int32)) L <| d_bd (fX11_last (σ 11 0) (xs (x3 + (1 : Int32)).toNatClampNeg) (xs (x3 + (2 : Int32)).toNatClampNeg)) fun q56 => if q53 = q56 then (d_lt (x3 + (3 : Int32)) fun v58 => fL_law_18 xs L fu σ v58) else (some ((0 : Int32), σ))) else (if v3 = (7 : Int32) then (d_ab (x3 + (1 : Int32)) L <| d_bd (fX10_kept σ (xs (x3 + (1 : Int32)).toNatClampNeg)) fun q61 => d_ab (x3 + (1 : Int32)) L <| d_bd (fX11_kept (σ 11 0) (xs (x3 + (1 : Int32)).toNatClampNeg)) fun q63 => if q61 = q63 then (d_lt (x3 + (3 : Int32)) fun v65 => fL_law_18 xs L fu σ v65) else (some ((0 : Int32), σ))) else (if v3 = (8 : Int32) then (d_ab (x3 + (1 : Int32)) L <| d_ab (x3 + (2 : Int32)) L <| d_bd (fX10_code σ (xs (x3 + (1 : Int32)).toNatClampNeg) (xs (x3 + (2 : Int32)).toNatClampNeg)) fun q69 => d_ab (x3 + (1 : Int32)) L <| d_ab (x3 + (2 : Int32)) L <| d_bd (fX11_code (xs (x3 + (1 : Int32)).toNatClampNeg) (xs (x3 + (2 : Int32)).toNatClampNeg)) fun q72 => if q69 = q72 then (d_lt (x3 + (3 : Int32)) fun v74 => fL_law_18 xs L fu σ v74) else (some ((0 : Int32), σ))) else (if v3 = (9 : Int32) then (d_ab (x3 + (1 : Int32)) L <| d_bd (fX10_press σ (xs (x3 + (1 : Int32)).toNatClampNeg)) fun q77 => d_ab (x3 + (1 : Int32)) L <| d_bd (fX11_press (q77.2 11 0) (xs (x3 + (1 : Int32)).toNatClampNeg)) fun q79 => d_lt (upM q77.2 11 0 q79.2) fun m80 => if q77.1 = q79.1 then (d_lt (x3 + (3 : Int32)) fun v82 => fL_law_18 xs L fu m80 v82) else (some ((0 : Int32), m80))) else (if v3 = (10 : Int32) then (d_ab (x3 + (1 : Int32)) L <| d_ab (x3 + (2 : Int32)) L <| d_bd (fX10_step σ (xs (x3 + (1 : Int32)).toNatClampNeg) (xs (x3 + (2 : Int32)).toNatClampNeg)) fun q86 => d_ab (x3 + (1 : Int32)) L <| d_ab (x3 + (2 : Int32)) L <| d_bd (fX11_step (q86.2 11 0) (xs (x3 + (1 : Int32)).toNatClampNeg) (xs (x3 + (2 : Int32)).toNatClampNeg)) fun q89 => d_lt (upM q86.2 11 0 q89.2) fun m90 => if q86.1 = q89.1 then (d_lt (x3 + (3 : Int32)) fun v92 => fL_law_18 xs L fu m90 v92) else (some ((0 : Int32), m90))) else (if v3 = (11 : Int32) then (d_ab (x3 + (1 : Int32)) L <| d_bd (fX10_earTo σ (xs (x3 + (1 : Int32)).toNatClampNeg)) fun q95 => d_ab (x3 + (1 : Int32)) L <| d_bd (fX11_earTo (q95.2 11 0) (xs (x3 + (1 : Int32)).toNatClampNeg)) fun q97 => d_lt (upM q95.2 11 0 q97.2) fun m98 => if q95.1 = q97.1 then (d_lt (x3 + (3 : Int32)) fun v100 => fL_law_18 xs L fu m98 v100) else (some ((0 : Int32), m98))) else (if v3 = (12 : Int32) then (d_ab (x3 + (1 : Int32)) L <| d_ab (x3 + (2 : Int32)) L <| d_lt (if (xs (x3 + (2 : Int32)).toNatClampNeg) = 0 then (0 : Int32) else (1 : Int32)) fun v104 => d_bd (fX10_noise σ (xs (x3 + (1 : Int32)).toNatClampNeg) v104) fun q106 => d_ab (x3 + (1 : Int32)) L <| d_ab (x3 + (2 : Int32)) L <| d_lt (if (xs (x3 + (2 : Int32)).toNatClampNeg) = 0 then (0 : Int32) else (1 : Int32)) fun v109 => d_bd (fX11_noise (q106.2 11 0) (xs (x3 + (1 : Int32)).toNatClampNeg) v109) fun q111 => d_lt (upM q106.2 11 0 q111.2) fun m112 => if q106.1 = q111.1 then (d_lt (x3 + (3 : Int32)) fun v114 => fL_law_18 xs L fu m112 v114) else (some ((0 : Int32), m112))) else (if v3 = (13 : Int32) then (d_ab (x3 + (1 : Int32)) L <| d_ab (x3 + (2 : Int32)) L <| d_bd (fX10_teach σ (xs (x3 + (1 : Int32)).toNatClampNeg) (xs (x3 + (2 : Int32)).toNatClampNeg)) fun q118 => d_ab (x3 + (1 : Int32)) L <| d_ab (x3 + (2 : Int32)) L <| d_bd (fX11_teach (q118.2 11 0) (xs (x3 + (1 : Int32)).toNatClampNeg) (xs (x3 + (2 : Int32)).toNatClampNeg)) fun q121 => d_lt (upM q118.2 11 0 q121.2) fun m122 => if q118.1 = q121.1 then (d_lt (x3 + (3 : Int32)) fun v124 => fL_law_18 xs L fu m122 v124) else (some ((0 : Int32), m122))) else (if v3 = (14 : Int32) then (d_ab (x3 + (1 : Int32)) L <| d_bd (fX10_again σ (xs (x3 + (1 : Int32)).toNatClampNeg)) fun q127 => d_ab (x3 + (1 : Int32)) L <| d_bd (fX11_again (q127.2 11 0) (xs (x3 + (1 : Int32)).toNatClampNeg)) fun q129 => d_lt (upM q127.2 11 0 q129.2) fun m130 => if q127.1 = q129.1 then (d_lt (x3 + (3 : Int32)) fun v132 => fL_law_18 xs L fu m130 v132) else (some ((0 : Int32), m130))) else (if v3 = (15 : Int32) then (d_ab (x3 + (1 : Int32)) L <| d_bd (fX10_fill σ (xs (x3 + (1 : Int32)).toNatClampNeg)) fun q135 => d_ab (x3 + (1 : Int32)) L <| d_bd (fX11_fill (q135.2 11 0) (xs (x3 + (1 : Int32)).toNatClampNeg)) fun q137 => d_lt (upM q135.2 11 0 q137.2) fun m138 => if q135.1 = q137.1 then (d_lt (x3 + (3 : Int32)) fun v140 => fL_law_18 xs L fu m138 v140) else (some ((0 : Int32), m138))) else (if v3 = (16 : Int32) then (d_ab (x3 + (1 : Int32)) L <| d_bd (fX10_drift σ (xs (x3 + (1 : Int32)).toNatClampNeg)) fun q143 => d_ab (x3 + (1 : Int32)) L <| d_bd (fX11_drift (q143.2 11 0) (xs (x3 + (1 : Int32)).toNatClampNeg)) fun q145 => d_lt (upM q143.2 11 0 q145.2) fun m146 => if q143.1 = q145.1 then (d_lt (x3 + (3 : Int32)) fun v148 => fL_law_18 xs L fu m146 v148) else (some ((0 : Int32), m146))) else (if v3 = (17 : Int32) then (d_bd (fX10_undo σ) fun q150 => d_bd (fX11_undo (q150.2 11 0)) fun q151 => d_lt (upM q150.2 11 0 q151.2) fun m152 => if q150.1 = q151.1 then (d_lt (x3 + (3 : Int32)) fun v154 => fL_law_18 xs L fu m152 v154) else (some ((0 : Int32), m152))) else (if v3 = (18 : Int32) then (d_ab (x3 + (1 : Int32)) L <| d_ab (x3 + (2 : Int32)) L <| d_bd (fX10_wouldOpen σ (xs (x3 + (1 : Int32)).toNatClampNeg) (xs (x3 + (2 : Int32)).toNatClampNeg)) fun q158 => d_ab (x3 + (1 : Int32)) L <| d_ab (x3 + (2 : Int32)) L <| d_bd (fX11_wouldOpen (q158.2 11 0) (xs (x3 + (1 : Int32)).toNatClampNeg) (xs (x3 + (2 : Int32)).toNatClampNeg)) fun q161 => d_lt (upM q158.2 11 0 q161.2) fun m162 => if q158.1 = q161.1 then (d_lt (x3 + (3 : Int32)) fun v164 => fL_law_18 xs L fu m162 v164) else (some ((0 : Int32), m162))) else (if v3 = (19 : Int32) then (d_ab (x3 + (1 : Int32)) L <| d_ab (x3 + (2 : Int32)) L <| d_bd (fX10_ahead σ (xs (x3 + (1 : Int32)).toNatClampNeg) (xs (x3 + (2 : Int32)).toNatClampNeg)) fun q168 => d_ab (x3 + (1 : Int32)) L <| d_ab (x3 + (2 : Int32)) L <| d_bd (fX11_ahead (σ 11 0) (xs (x3 + (1 : Int32)).toNatClampNeg) (xs (x3 + (2 : Int32)).toNatClampNeg)) fun q171 => if q168 = q171 then (d_lt (x3 + (3 : Int32)) fun v173 => fL_law_18 xs L fu σ v173) else (some ((0 : Int32), σ))) else (if v3 = (20 : Int32) then (d_ab (x3 + (1 : Int32)) L <| d_ab (x3 + (2 : Int32)) L <| d_bd (fX10_locked σ (xs (x3 + (1 : Int32)).toNatClampNeg) (xs (x3 + (2 : Int32)).toNatClampNeg)) fun q177 => d_ab (x3 + (1 : Int32)) L <| d_ab (x3 + (2 : Int32)) L <| d_bd (fX11_locked (q177.2 11 0) (xs (x3 + (1 : Int32)).toNatClampNeg) (xs (x3 + (2 : Int32)).toNatClampNeg)) fun q180 => d_lt (upM q177.2 11 0 q180.2) fun m181 => if q177.1 = q180.1 then (d_lt (x3 + (3 : Int32)) fun v183 => fL_law_18 xs L fu m181 v183) else (some ((0 : Int32), m181))) else (if v3 = (21 : Int32) then (d_ab (x3 + (1 : Int32)) L <| d_ab (x3 + (2 : Int32)) L <| d_bd (fX10_takes σ (xs (x3 + (1 : Int32)).toNatClampNeg) (xs (x3 + (2 : Int32)).toNatClampNeg)) fun q187 => d_ab (x3 + (1 : Int32)) L <| d_ab (x3 + (2 : Int32)) L <| d_bd (fX11_takes (q187.2 11 0) (xs (x3 + (1 : Int32)).toNatClampNeg) (xs (x3 + (2 : Int32)).toNatClampNeg)) fun q190 => d_lt (upM q187.2 11 0 q190.2) fun m191 => if q187.1 = q190.1 then (d_lt (x3 + (3 : Int32)) fun v193 => fL_law_18 xs L fu m191 v193) else (some ((0 : Int32), m191))) else (if v3 = (22 : Int32) then (d_ab (x3 + (1 : Int32)) L <| d_bd (fX10_row σ (xs (x3 + (1 : Int32)).toNatClampNeg)) fun q196 => d_ab (x3 + (1 : Int32)) L <| d_bd (fX11_row (q196.2 11 0) (xs (x3 + (1 : Int32)).toNatClampNeg)) fun q198 => d_lt (upM q196.2 11 0 q198.2) fun m199 => if q196.1 = q198.1 then (d_lt (x3 + (3 : Int32)) fun v201 => fL_law_18 xs L fu m199 v201) else (some ((0 : Int32), m199))) else (if v3 = (23 : Int32) then (d_ab (x3 + (1 : Int32)) L <| d_bd (fX10_who σ (xs (x3 + (1 : Int32)).toNatClampNeg)) fun q204 => d_ab (x3 + (1 : Int32)) L <| d_bd (fX11_who (σ 11 0) (xs (x3 + (1 : Int32)).toNatClampNeg)) fun q206 => if q204 = q206 then (d_lt (x3 + (3 : Int32)) fun v208 => fL_law_18 xs L fu σ v208) else (some ((0 : Int32), σ))) else (if v3 = (24 : Int32) then (d_ab (x3 + (1 : Int32)) L <| d_ab (x3 + (2 : Int32)) L <| d_bd (fX10_same σ (xs (x3 + (1 : Int32)).toNatClampNeg) (xs (x3 + (2 : Int32)).toNatClampNeg)) fun q212 => d_ab (x3 + (1 : Int32)) L <| d_ab (x3 + (2 : Int32)) L <| d_bd (fX11_same (σ 11 0) (xs (x3 + (1 : Int32)).toNatClampNeg) (xs (x3 + (2 : Int32)).toNatClampNeg)) fun q215 => if q212 = q215 then (d_lt (x3 + (3 : Int32)) fun v217 => fL_law_18 xs L fu σ v217) else (some ((0 : Int32), σ))) else (if v3 = (25 : Int32) then (d_ab (x3 + (1 : Int32)) L <| d_ab (x3 + (2 : Int32)) L <| d_bd (fX10_quiet σ (xs (x3 + (1 : Int32)).toNatClampNeg) (xs (x3 + (2 : Int32)).toNatClampNeg)) fun q221 => d_ab (x3 + (1 : Int32)) L <| d_ab (x3 + (2 : Int32)) L <| d_bd (fX11_quiet (xs (x3 + (1 : Int32)).toNatClampNeg) (xs (x3 + (2 : Int32)).toNatClampNeg)) fun q224 => if q221 = q224 then (d_lt (x3 + (3 : Int32)) fun v226 => fL_law_18 xs L fu σ v226) else (some ((0 : Int32), σ))) else (if v3 = (26 : Int32) then (d_ab (x3 + (1 : Int32)) L <| d_ab (x3 + (2 : Int32)) L <| d_bd (fX10_see σ (xs (x3 + (1 : Int32)).toNatClampNeg) (xs (x3 + (2 : Int32)).toNatClampNeg)) fun q230 => d_ab (x3 + (1 : Int32)) L <| d_ab (x3 + (2 : Int32)) L <| d_bd (fX11_see (q230.2 11 0) (xs (x3 + (1 : Int32)).toNatClampNeg) (xs (x3 + (2 : Int32)).toNatClampNeg)) fun q233 => d_lt (upM q230.2 11 0 q233.2) fun m234 => if q230.1 = q233.1 then (d_lt (x3 + (3 : Int32)) fun v236 => fL_law_18 xs L fu m234 v236) else (some ((0 : Int32), m234))) else (if v3 = (27 : Int32) then (d_ab (x3 + (1 : Int32)) L <| d_bd (fX10_secrets σ (xs (x3 + (1 : Int32)).toNatClampNeg)) fun q239 => d_ab (x3 + (1 : Int32)) L <| d_bd (fX11_secrets (σ 11 0) (xs (x3 + (1 : Int32)).toNatClampNeg)) fun q241 => if q239 = q241 then (d_lt (x3 + (3 : Int32)) fun v243 => fL_law_18 xs L fu σ v243) else (some ((0 : Int32), σ))) else (if v3 = (28 : Int32) then (d_bd (fX10_ask σ) fun q245 => d_bd (fX11_ask (q245.2 11 0)) fun q246 => d_lt (upM q245.2 11 0 q246.2) fun m247 => if q245.1 = q246.1 then (d_lt (x3 + (3 : Int32)) fun v249 => fL_law_18 xs L fu m247 v249) else (some ((0 : Int32), m247))) else (if v3 = (29 : Int32) then (d_ab (x3 + (1 : Int32)) L <| d_ab (x3 + (2 : Int32)) L <| d_bd (fX10_write σ (xs (x3 + (1 : Int32)).toNatClampNeg) (xs (x3 + (2 : Int32)).toNatClampNeg)) fun q253 => d_ab (x3 + (1 : Int32)) L <| d_ab (x3 + (2 : Int32)) L <| d_bd (fX11_write (q253.2 11 0) (xs (x3 + (1 : Int32)).toNatClampNeg) (xs (x3 + (2 : Int32)).toNatClampNeg)) fun q256 => d_lt (upM q253.2 11 0 q256.2) fun m257 => if q253.1 = q256.1 then (d_lt (x3 + (3 : Int32)) fun v259 => fL_law_18 xs L fu m257 v259) else (some ((0 : Int32), m257))) else (if v3 = (30 : Int32) then (d_bd (fX10_tear σ) fun q261 => d_bd (fX11_tear (q261.2 11 0)) fun q262 => d_lt (upM q261.2 11 0 q262.2) fun m263 => if q261.1 = q262.1 then (d_lt (x3 + (3 : Int32)) fun v265 => fL_law_18 xs L fu m263 v265) else (some ((0 : Int32), m263))) else (if v3 = (31 : Int32) then (d_bd (fX10_judge σ) fun q267 => d_bd (fX11_judge (σ 11 0)) fun q268 => if q267 = q268 then (d_lt (x3 + (3 : Int32)) fun v270 => fL_law_18 xs L fu σ v270) else (some ((0 : Int32), σ))) else (if v3 = (32 : Int32) then (d_ab (x3 + (1 : Int32)) L <| d_bd (fX10_seed σ (xs (x3 + (1 : Int32)).toNatClampNeg)) fun q273 => d_ab (x3 + (1 : Int32)) L <| d_bd (fX11_seed (q273.2 11 0) (xs (x3 + (1 : Int32)).toNatClampNeg)) fun q275 => d_lt (upM q273.2 11 0 q275.2) fun m276 => if q273.1 = q275.1 then (d_lt (x3 + (3 : Int32)) fun v278 => fL_law_18 xs L fu m276 v278) else (some ((0 : Int32), m276))) else (if v3 = (33 : Int32) then (d_ab (x3 + (1 : Int32)) L <| d_bd (fX10_keep σ (xs (x3 + (1 : Int32)).toNatClampNeg)) fun q281 => d_ab (x3 + (1 : Int32)) L <| d_bd (fX11_keep (q281.2 11 0) (xs (x3 + (1 : Int32)).toNatClampNeg)) fun q283 => d_lt (upM q281.2 11 0 q283.2) fun m284 => if q281.1 = q283.1 then (d_lt (x3 + (3 : Int32)) fun v286 => fL_law_18 xs L fu m284 v286) else (some ((0 : Int32), m284))) else (if v3 = (34 : Int32) then (d_ab (x3 + (1 : Int32)) L <| d_bd (fX10_goBack σ (xs (x3 + (1 : Int32)).toNatClampNeg)) fun q289 => d_ab (x3 + (1 : Int32)) L <| d_bd (fX11_goBack (q289.2 11 0) (xs (x3 + (1 : Int32)).toNatClampNeg)) fun q291 => d_lt (upM q289.2 11 0 q291.2) fun m292 => if q289.1 = q291.1 then (d_lt (x3 + (3 : Int32)) fun v294 => fL_law_18 xs L fu m292 v294) else (some ((0 : Int32), m292))) else (d_lt (x3 + (3 : Int32)) fun v295 => fL_law_18 xs L fu σ v295)))))))))))))))))))))))))))))))))))) else (some ((1 : Int32), σ))
set_option maxHeartbeats 4000000 in
set_option maxRecDepth 100000 in
theorem wL_law_18 (Y : Dy) (G : G0) (hL : In G) (hM : Im G) (b L : Nat) (xs : Nat → Int32) (X : Sx Y b L xs) (F : Fx Y G cL_law RL 800) (hY : Y.2.2.2.2.2.2.2.2.2.2.2.1 = 4) (r : Int32) (σ' : Mem) (hR : ∀ (pc : Nat) (lv : List (Nat × Value)), narrow .boolean (.int r) = .int r → decode cL_law pc = .ok (.ireturn, 1) → U Y G σ' pc lv [.int r]) :
    ∀ (fu : Nat) (σ : Mem) (x3 : Int32), fL_law_18 xs L fu σ x3 = some (r, σ') → U Y G σ 18 [(0, .ref b), (1, .ref (adr G (10, 0, 0))), (2, .ref (adr G (11, 0, 0))), (3, .int x3)] [] := by
  intro fu
  induction fu with
  | zero =>
    intro σ x3 h
    rw [fL_law_18] at h
    cases h
  | succ fu ih =>
    intro σ x3 h
    rw [fL_law_18] at h
    refine u_iload_n (pc := 18) F dL_law_18 3 rfl rfl ?_
    refine u_aload_n (pc := 19) F dL_law_19 0 rfl rfl ?_
    refine u_slen (pc := 20) F X dL_law_20 ?_
    refine u_iconst (v := 3) (pc := 21) F dL_law_21 (by decide) ?_
    refine u_isub (pc := 22) F dL_law_22 ?_
    refine u_icmp_gt (pc := 23) F 1105 dL_law_23 (by decide) (fun c1 => ?_) (fun c1 => ?_)
    · rw [if_neg c1] at h
      refine u_iconst (v := 1) (pc := 1105) F dL_law_1105 (by decide) ?_
      have h1 := Option.some.inj h
      obtain ⟨hj0, hr0⟩ := Prod.mk.inj h1
      subst hj0
      subst hr0
      exact hR _ _ rfl dL_law_1106
    · rw [if_pos c1] at h
      refine u_aload_n (pc := 26) F dL_law_26 0 rfl rfl ?_
      refine u_iload_n (pc := 27) F dL_law_27 3 rfl rfl ?_
      obtain ⟨b2, h⟩ := d_ab_some h
      refine u_sld (pc := 28) F X dL_law_28 b2 ?_
      refine u_bipush (v := 63) (pc := 29) F dL_law_29 (by decide) ?_
      refine u_iand (pc := 31) F dL_law_31 ?_
      obtain ⟨v3, hv3, h⟩ := d_lt_some h
      refine u_topi hv3 ?_
      by_cases e4 : v3 = (0 : Int32)
      · rw [if_pos e4] at h
        refine u_table (pc := 32) F dL_law_32 (off := 156) 188 (by rw [e4]; decide) (by rw [e4]; decide) (by rw [e4]; rfl) (by decide) ?_
        refine u_aload_n (pc := 188) F dL_law_188 1 rfl rfl ?_
        refine u_aload_n (pc := 189) F dL_law_189 0 rfl rfl ?_
        refine u_iload_n (pc := 190) F dL_law_190 3 rfl rfl ?_
        refine u_iconst (v := 1) (pc := 191) F dL_law_191 (by decide) ?_
        refine u_iadd (pc := 192) F dL_law_192 ?_
        obtain ⟨b5, h⟩ := d_ab_some h
        refine u_sld (pc := 193) F X dL_law_193 b5 ?_
        obtain ⟨q6, hq6, h⟩ := d_bd_some h
        refine u_calli (pc := 194) F (As := [.int (xs (x3 + (1 : Int32)).toNatClampNeg)]) (c_X10_feed G hL (xs (x3 + (1 : Int32)).toNatClampNeg) σ q6.1 q6.2 hq6) yv_X10_feed ml_L_13 (hL 10 0 0 (by decide) rfl) rfl (by decide) rfl rfl (Nat.le_of_ble_eq_true rfl) dL_law_194 ?_
        refine u_aload_n (pc := 197) F dL_law_197 2 rfl rfl ?_
        refine u_aload_n (pc := 198) F dL_law_198 0 rfl rfl ?_
        refine u_iload_n (pc := 199) F dL_law_199 3 rfl rfl ?_
        refine u_iconst (v := 1) (pc := 200) F dL_law_200 (by decide) ?_
        refine u_iadd (pc := 201) F dL_law_201 ?_
        obtain ⟨b7, h⟩ := d_ab_some h
        refine u_sld (pc := 202) F X dL_law_202 b7 ?_
        obtain ⟨q8, hq8, h⟩ := d_bd_some h
        refine u_calli (pc := 203) F (As := [.int (xs (x3 + (1 : Int32)).toNatClampNeg)]) (c_X11_feed G hM (xs (x3 + (1 : Int32)).toNatClampNeg) q6.2 (q6.2 11 0) (rfl) q8.1 q8.2 hq8) yv_X11_feed ml_L_17 (hM 11 0 0 (by decide) rfl) rfl (by decide) rfl rfl (Nat.le_of_ble_eq_true rfl) dL_law_203 ?_
        obtain ⟨m9, hm9, h⟩ := d_lt_some h
        refine u_mem hm9 ?_
        refine u_icmp_eq (pc := 206) F 1099 dL_law_206 (by decide) (fun c10 => ?_) (fun c10 => ?_)
        · rw [if_pos c10] at h
          obtain ⟨v11, hv11, h⟩ := d_lt_some h
          refine u_iinc (lv' := [(3, .int v11), (0, .ref b), (1, .ref (adr G (10, 0, 0))), (2, .ref (adr G (11, 0, 0)))]) (pc := 1099) F dL_law_1099 3 rfl hv11.symm hY (by decide) rfl ?_
          refine u_goto (pc := 1102) F 18 dL_law_1102 (by decide) ?_
          refine u_lv (lv' := [(0, .ref b), (1, .ref (adr G (10, 0, 0))), (2, .ref (adr G (11, 0, 0))), (3, .int v11)]) [1, 2, 3, 0] rfl ?_
          exact ih m9 v11 h
        · rw [if_neg c10] at h
          refine u_iconst (v := 0) (pc := 209) F dL_law_209 (by decide) ?_
          have h1 := Option.some.inj h
          obtain ⟨hj0, hr0⟩ := Prod.mk.inj h1
          subst hj0
          subst hr0
          exact hR _ _ rfl dL_law_210
      rw [if_neg e4] at h
      by_cases e12 : v3 = (1 : Int32)
      · rw [if_pos e12] at h
        refine u_table (pc := 32) F dL_law_32 (off := 179) 211 (by rw [e12]; decide) (by rw [e12]; decide) (by rw [e12]; rfl) (by decide) ?_
        refine u_aload_n (pc := 211) F dL_law_211 1 rfl rfl ?_
        obtain ⟨q13, hq13, h⟩ := d_bd_some h
        refine u_calli (pc := 212) F (As := []) (c_X10_street G hL σ q13.1 q13.2 hq13) yv_X10_street ml_L_18 (hL 10 0 0 (by decide) rfl) rfl (by decide) rfl rfl (Nat.le_of_ble_eq_true rfl) dL_law_212 ?_
        refine u_aload_n (pc := 215) F dL_law_215 2 rfl rfl ?_
        obtain ⟨q14, hq14, h⟩ := d_bd_some h
        refine u_calli (pc := 216) F (As := []) (c_X11_street G hM q13.2 (q13.2 11 0) (rfl) q14.1 q14.2 hq14) yv_X11_street ml_L_22 (hM 11 0 0 (by decide) rfl) rfl (by decide) rfl rfl (Nat.le_of_ble_eq_true rfl) dL_law_216 ?_
        obtain ⟨m15, hm15, h⟩ := d_lt_some h
        refine u_mem hm15 ?_
        refine u_icmp_eq (pc := 219) F 1099 dL_law_219 (by decide) (fun c16 => ?_) (fun c16 => ?_)
        · rw [if_pos c16] at h
          obtain ⟨v17, hv17, h⟩ := d_lt_some h
          refine u_iinc (lv' := [(3, .int v17), (0, .ref b), (1, .ref (adr G (10, 0, 0))), (2, .ref (adr G (11, 0, 0)))]) (pc := 1099) F dL_law_1099 3 rfl hv17.symm hY (by decide) rfl ?_
          refine u_goto (pc := 1102) F 18 dL_law_1102 (by decide) ?_
          refine u_lv (lv' := [(0, .ref b), (1, .ref (adr G (10, 0, 0))), (2, .ref (adr G (11, 0, 0))), (3, .int v17)]) [1, 2, 3, 0] rfl ?_
          exact ih m15 v17 h
        · rw [if_neg c16] at h
          refine u_iconst (v := 0) (pc := 222) F dL_law_222 (by decide) ?_
          have h1 := Option.some.inj h
          obtain ⟨hj0, hr0⟩ := Prod.mk.inj h1
          subst hj0
          subst hr0
          exact hR _ _ rfl dL_law_223
      rw [if_neg e12] at h
      by_cases e18 : v3 = (2 : Int32)
      · rw [if_pos e18] at h
        refine u_table (pc := 32) F dL_law_32 (off := 192) 224 (by rw [e18]; decide) (by rw [e18]; decide) (by rw [e18]; rfl) (by decide) ?_
        refine u_aload_n (pc := 224) F dL_law_224 1 rfl rfl ?_
        obtain ⟨q19, hq19, h⟩ := d_bd_some h
        refine u_calli (pc := 225) F (As := []) (c_X10_fault G hL σ q19 hq19) yv_X10_fault ml_L_23 (hL 10 0 0 (by decide) rfl) rfl (by decide) rfl rfl (Nat.le_of_ble_eq_true rfl) dL_law_225 ?_
        refine u_aload_n (pc := 228) F dL_law_228 2 rfl rfl ?_
        obtain ⟨q20, hq20, h⟩ := d_bd_some h
        refine u_calli (pc := 229) F (As := []) (c_X11_fault G hM σ (σ 11 0) (rfl) q20 hq20) yv_X11_fault ml_L_26 (hM 11 0 0 (by decide) rfl) rfl (by decide) rfl rfl (Nat.le_of_ble_eq_true rfl) dL_law_229 ?_
        refine u_icmp_eq (pc := 232) F 1099 dL_law_232 (by decide) (fun c21 => ?_) (fun c21 => ?_)
        · rw [if_pos c21] at h
          obtain ⟨v22, hv22, h⟩ := d_lt_some h
          refine u_iinc (lv' := [(3, .int v22), (0, .ref b), (1, .ref (adr G (10, 0, 0))), (2, .ref (adr G (11, 0, 0)))]) (pc := 1099) F dL_law_1099 3 rfl hv22.symm hY (by decide) rfl ?_
          refine u_goto (pc := 1102) F 18 dL_law_1102 (by decide) ?_
          refine u_lv (lv' := [(0, .ref b), (1, .ref (adr G (10, 0, 0))), (2, .ref (adr G (11, 0, 0))), (3, .int v22)]) [1, 2, 3, 0] rfl ?_
          exact ih σ v22 h
        · rw [if_neg c21] at h
          refine u_iconst (v := 0) (pc := 235) F dL_law_235 (by decide) ?_
          have h1 := Option.some.inj h
          obtain ⟨hj0, hr0⟩ := Prod.mk.inj h1
          subst hj0
          subst hr0
          exact hR _ _ rfl dL_law_236
      rw [if_neg e18] at h
      by_cases e23 : v3 = (3 : Int32)
      · rw [if_pos e23] at h
        refine u_table (pc := 32) F dL_law_32 (off := 205) 237 (by rw [e23]; decide) (by rw [e23]; decide) (by rw [e23]; rfl) (by decide) ?_
        refine u_aload_n (pc := 237) F dL_law_237 1 rfl rfl ?_
        refine u_aload_n (pc := 238) F dL_law_238 0 rfl rfl ?_
        refine u_iload_n (pc := 239) F dL_law_239 3 rfl rfl ?_
        refine u_iconst (v := 1) (pc := 240) F dL_law_240 (by decide) ?_
        refine u_iadd (pc := 241) F dL_law_241 ?_
        obtain ⟨b24, h⟩ := d_ab_some h
        refine u_sld (pc := 242) F X dL_law_242 b24 ?_
        obtain ⟨q25, hq25, h⟩ := d_bd_some h
        refine u_calli (pc := 243) F (As := [.int (xs (x3 + (1 : Int32)).toNatClampNeg)]) (c_X10_told G hL (xs (x3 + (1 : Int32)).toNatClampNeg) σ q25 hq25) yv_X10_told ml_L_27 (hL 10 0 0 (by decide) rfl) rfl (by decide) rfl rfl (Nat.le_of_ble_eq_true rfl) dL_law_243 ?_
        refine u_aload_n (pc := 246) F dL_law_246 2 rfl rfl ?_
        refine u_aload_n (pc := 247) F dL_law_247 0 rfl rfl ?_
        refine u_iload_n (pc := 248) F dL_law_248 3 rfl rfl ?_
        refine u_iconst (v := 1) (pc := 249) F dL_law_249 (by decide) ?_
        refine u_iadd (pc := 250) F dL_law_250 ?_
        obtain ⟨b26, h⟩ := d_ab_some h
        refine u_sld (pc := 251) F X dL_law_251 b26 ?_
        obtain ⟨q27, hq27, h⟩ := d_bd_some h
        refine u_calli (pc := 252) F (As := [.int (xs (x3 + (1 : Int32)).toNatClampNeg)]) (c_X11_told G hM (xs (x3 + (1 : Int32)).toNatClampNeg) σ (σ 11 0) (rfl) q27 hq27) yv_X11_told ml_L_30 (hM 11 0 0 (by decide) rfl) rfl (by decide) rfl rfl (Nat.le_of_ble_eq_true rfl) dL_law_252 ?_
        refine u_icmp_eq (pc := 255) F 1099 dL_law_255 (by decide) (fun c28 => ?_) (fun c28 => ?_)
        · rw [if_pos c28] at h
          obtain ⟨v29, hv29, h⟩ := d_lt_some h
          refine u_iinc (lv' := [(3, .int v29), (0, .ref b), (1, .ref (adr G (10, 0, 0))), (2, .ref (adr G (11, 0, 0)))]) (pc := 1099) F dL_law_1099 3 rfl hv29.symm hY (by decide) rfl ?_
          refine u_goto (pc := 1102) F 18 dL_law_1102 (by decide) ?_
          refine u_lv (lv' := [(0, .ref b), (1, .ref (adr G (10, 0, 0))), (2, .ref (adr G (11, 0, 0))), (3, .int v29)]) [1, 2, 3, 0] rfl ?_
          exact ih σ v29 h
        · rw [if_neg c28] at h
          refine u_iconst (v := 0) (pc := 258) F dL_law_258 (by decide) ?_
          have h1 := Option.some.inj h
          obtain ⟨hj0, hr0⟩ := Prod.mk.inj h1
          subst hj0
          subst hr0
          exact hR _ _ rfl dL_law_259
      rw [if_neg e23] at h
      by_cases e30 : v3 = (4 : Int32)
      · rw [if_pos e30] at h
        refine u_table (pc := 32) F dL_law_32 (off := 228) 260 (by rw [e30]; decide) (by rw [e30]; decide) (by rw [e30]; rfl) (by decide) ?_
        refine u_aload_n (pc := 260) F dL_law_260 1 rfl rfl ?_
        refine u_aload_n (pc := 261) F dL_law_261 0 rfl rfl ?_
        refine u_iload_n (pc := 262) F dL_law_262 3 rfl rfl ?_
        refine u_iconst (v := 1) (pc := 263) F dL_law_263 (by decide) ?_
        refine u_iadd (pc := 264) F dL_law_264 ?_
        obtain ⟨b31, h⟩ := d_ab_some h
        refine u_sld (pc := 265) F X dL_law_265 b31 ?_
        refine u_aload_n (pc := 266) F dL_law_266 0 rfl rfl ?_
        refine u_iload_n (pc := 267) F dL_law_267 3 rfl rfl ?_
        refine u_iconst (v := 2) (pc := 268) F dL_law_268 (by decide) ?_
        refine u_iadd (pc := 269) F dL_law_269 ?_
        obtain ⟨b32, h⟩ := d_ab_some h
        refine u_sld (pc := 270) F X dL_law_270 b32 ?_
        obtain ⟨q33, hq33, h⟩ := d_bd_some h
        refine u_calli (pc := 271) F (As := [.int (xs (x3 + (1 : Int32)).toNatClampNeg), .int (xs (x3 + (2 : Int32)).toNatClampNeg)]) (c_X10_fob G hL (xs (x3 + (1 : Int32)).toNatClampNeg) (xs (x3 + (2 : Int32)).toNatClampNeg) σ q33.1 q33.2 hq33) yv_X10_fob ml_L_31 (hL 10 0 0 (by decide) rfl) rfl (by decide) rfl rfl (Nat.le_of_ble_eq_true rfl) dL_law_271 ?_
        refine u_aload_n (pc := 274) F dL_law_274 2 rfl rfl ?_
        refine u_aload_n (pc := 275) F dL_law_275 0 rfl rfl ?_
        refine u_iload_n (pc := 276) F dL_law_276 3 rfl rfl ?_
        refine u_iconst (v := 1) (pc := 277) F dL_law_277 (by decide) ?_
        refine u_iadd (pc := 278) F dL_law_278 ?_
        obtain ⟨b34, h⟩ := d_ab_some h
        refine u_sld (pc := 279) F X dL_law_279 b34 ?_
        refine u_aload_n (pc := 280) F dL_law_280 0 rfl rfl ?_
        refine u_iload_n (pc := 281) F dL_law_281 3 rfl rfl ?_
        refine u_iconst (v := 2) (pc := 282) F dL_law_282 (by decide) ?_
        refine u_iadd (pc := 283) F dL_law_283 ?_
        obtain ⟨b35, h⟩ := d_ab_some h
        refine u_sld (pc := 284) F X dL_law_284 b35 ?_
        obtain ⟨q36, hq36, h⟩ := d_bd_some h
        refine u_calli (pc := 285) F (As := [.int (xs (x3 + (1 : Int32)).toNatClampNeg), .int (xs (x3 + (2 : Int32)).toNatClampNeg)]) (c_X11_fob G hM (xs (x3 + (1 : Int32)).toNatClampNeg) (xs (x3 + (2 : Int32)).toNatClampNeg) q33.2 (q33.2 11 0) (rfl) q36.1 q36.2 hq36) yv_X11_fob ml_L_35 (hM 11 0 0 (by decide) rfl) rfl (by decide) rfl rfl (Nat.le_of_ble_eq_true rfl) dL_law_285 ?_
        obtain ⟨m37, hm37, h⟩ := d_lt_some h
        refine u_mem hm37 ?_
        refine u_icmp_eq (pc := 288) F 1099 dL_law_288 (by decide) (fun c38 => ?_) (fun c38 => ?_)
        · rw [if_pos c38] at h
          obtain ⟨v39, hv39, h⟩ := d_lt_some h
          refine u_iinc (lv' := [(3, .int v39), (0, .ref b), (1, .ref (adr G (10, 0, 0))), (2, .ref (adr G (11, 0, 0)))]) (pc := 1099) F dL_law_1099 3 rfl hv39.symm hY (by decide) rfl ?_
          refine u_goto (pc := 1102) F 18 dL_law_1102 (by decide) ?_
          refine u_lv (lv' := [(0, .ref b), (1, .ref (adr G (10, 0, 0))), (2, .ref (adr G (11, 0, 0))), (3, .int v39)]) [1, 2, 3, 0] rfl ?_
          exact ih m37 v39 h
        · rw [if_neg c38] at h
          refine u_iconst (v := 0) (pc := 291) F dL_law_291 (by decide) ?_
          have h1 := Option.some.inj h
          obtain ⟨hj0, hr0⟩ := Prod.mk.inj h1
          subst hj0
          subst hr0
          exact hR _ _ rfl dL_law_292
      rw [if_neg e30] at h
      by_cases e40 : v3 = (5 : Int32)
      · rw [if_pos e40] at h
        refine u_table (pc := 32) F dL_law_32 (off := 261) 293 (by rw [e40]; decide) (by rw [e40]; decide) (by rw [e40]; rfl) (by decide) ?_
        refine u_aload_n (pc := 293) F dL_law_293 1 rfl rfl ?_
        refine u_aload_n (pc := 294) F dL_law_294 0 rfl rfl ?_
        refine u_iload_n (pc := 295) F dL_law_295 3 rfl rfl ?_
        refine u_iconst (v := 1) (pc := 296) F dL_law_296 (by decide) ?_
        refine u_iadd (pc := 297) F dL_law_297 ?_
        obtain ⟨b41, h⟩ := d_ab_some h
        refine u_sld (pc := 298) F X dL_law_298 b41 ?_
        refine u_aload_n (pc := 299) F dL_law_299 0 rfl rfl ?_
        refine u_iload_n (pc := 300) F dL_law_300 3 rfl rfl ?_
        refine u_iconst (v := 2) (pc := 301) F dL_law_301 (by decide) ?_
        refine u_iadd (pc := 302) F dL_law_302 ?_
        obtain ⟨b42, h⟩ := d_ab_some h
        refine u_sld (pc := 303) F X dL_law_303 b42 ?_
        obtain ⟨q43, hq43, h⟩ := d_bd_some h
        refine u_calli (pc := 304) F (As := [.int (xs (x3 + (1 : Int32)).toNatClampNeg), .int (xs (x3 + (2 : Int32)).toNatClampNeg)]) (c_X10_gate G hL (xs (x3 + (1 : Int32)).toNatClampNeg) (xs (x3 + (2 : Int32)).toNatClampNeg) σ q43.1 q43.2 hq43) yv_X10_gate ml_L_36 (hL 10 0 0 (by decide) rfl) rfl (by decide) rfl rfl (Nat.le_of_ble_eq_true rfl) dL_law_304 ?_
        refine u_aload_n (pc := 307) F dL_law_307 2 rfl rfl ?_
        refine u_aload_n (pc := 308) F dL_law_308 0 rfl rfl ?_
        refine u_iload_n (pc := 309) F dL_law_309 3 rfl rfl ?_
        refine u_iconst (v := 1) (pc := 310) F dL_law_310 (by decide) ?_
        refine u_iadd (pc := 311) F dL_law_311 ?_
        obtain ⟨b44, h⟩ := d_ab_some h
        refine u_sld (pc := 312) F X dL_law_312 b44 ?_
        refine u_aload_n (pc := 313) F dL_law_313 0 rfl rfl ?_
        refine u_iload_n (pc := 314) F dL_law_314 3 rfl rfl ?_
        refine u_iconst (v := 2) (pc := 315) F dL_law_315 (by decide) ?_
        refine u_iadd (pc := 316) F dL_law_316 ?_
        obtain ⟨b45, h⟩ := d_ab_some h
        refine u_sld (pc := 317) F X dL_law_317 b45 ?_
        obtain ⟨q46, hq46, h⟩ := d_bd_some h
        refine u_calli (pc := 318) F (As := [.int (xs (x3 + (1 : Int32)).toNatClampNeg), .int (xs (x3 + (2 : Int32)).toNatClampNeg)]) (c_X11_gate G hM (xs (x3 + (1 : Int32)).toNatClampNeg) (xs (x3 + (2 : Int32)).toNatClampNeg) q43.2 (q43.2 11 0) (rfl) q46.1 q46.2 hq46) yv_X11_gate ml_L_39 (hM 11 0 0 (by decide) rfl) rfl (by decide) rfl rfl (Nat.le_of_ble_eq_true rfl) dL_law_318 ?_
        obtain ⟨m47, hm47, h⟩ := d_lt_some h
        refine u_mem hm47 ?_
        refine u_icmp_eq (pc := 321) F 1099 dL_law_321 (by decide) (fun c48 => ?_) (fun c48 => ?_)
        · rw [if_pos c48] at h
          obtain ⟨v49, hv49, h⟩ := d_lt_some h
          refine u_iinc (lv' := [(3, .int v49), (0, .ref b), (1, .ref (adr G (10, 0, 0))), (2, .ref (adr G (11, 0, 0)))]) (pc := 1099) F dL_law_1099 3 rfl hv49.symm hY (by decide) rfl ?_
          refine u_goto (pc := 1102) F 18 dL_law_1102 (by decide) ?_
          refine u_lv (lv' := [(0, .ref b), (1, .ref (adr G (10, 0, 0))), (2, .ref (adr G (11, 0, 0))), (3, .int v49)]) [1, 2, 3, 0] rfl ?_
          exact ih m47 v49 h
        · rw [if_neg c48] at h
          refine u_iconst (v := 0) (pc := 324) F dL_law_324 (by decide) ?_
          have h1 := Option.some.inj h
          obtain ⟨hj0, hr0⟩ := Prod.mk.inj h1
          subst hj0
          subst hr0
          exact hR _ _ rfl dL_law_325
      rw [if_neg e40] at h
      by_cases e50 : v3 = (6 : Int32)
      · rw [if_pos e50] at h
        refine u_table (pc := 32) F dL_law_32 (off := 294) 326 (by rw [e50]; decide) (by rw [e50]; decide) (by rw [e50]; rfl) (by decide) ?_
        refine u_aload_n (pc := 326) F dL_law_326 1 rfl rfl ?_
        refine u_aload_n (pc := 327) F dL_law_327 0 rfl rfl ?_
        refine u_iload_n (pc := 328) F dL_law_328 3 rfl rfl ?_
        refine u_iconst (v := 1) (pc := 329) F dL_law_329 (by decide) ?_
        refine u_iadd (pc := 330) F dL_law_330 ?_
        obtain ⟨b51, h⟩ := d_ab_some h
        refine u_sld (pc := 331) F X dL_law_331 b51 ?_
        refine u_aload_n (pc := 332) F dL_law_332 0 rfl rfl ?_
        refine u_iload_n (pc := 333) F dL_law_333 3 rfl rfl ?_
        refine u_iconst (v := 2) (pc := 334) F dL_law_334 (by decide) ?_
        refine u_iadd (pc := 335) F dL_law_335 ?_
        obtain ⟨b52, h⟩ := d_ab_some h
        refine u_sld (pc := 336) F X dL_law_336 b52 ?_
        obtain ⟨q53, hq53, h⟩ := d_bd_some h
        refine u_calli (pc := 337) F (As := [.int (xs (x3 + (1 : Int32)).toNatClampNeg), .int (xs (x3 + (2 : Int32)).toNatClampNeg)]) (c_X10_last G hL (xs (x3 + (1 : Int32)).toNatClampNeg) (xs (x3 + (2 : Int32)).toNatClampNeg) σ q53 hq53) yv_X10_last ml_L_40 (hL 10 0 0 (by decide) rfl) rfl (by decide) rfl rfl (Nat.le_of_ble_eq_true rfl) dL_law_337 ?_
        refine u_aload_n (pc := 340) F dL_law_340 2 rfl rfl ?_
        refine u_aload_n (pc := 341) F dL_law_341 0 rfl rfl ?_
        refine u_iload_n (pc := 342) F dL_law_342 3 rfl rfl ?_
        refine u_iconst (v := 1) (pc := 343) F dL_law_343 (by decide) ?_
        refine u_iadd (pc := 344) F dL_law_344 ?_
        obtain ⟨b54, h⟩ := d_ab_some h
        refine u_sld (pc := 345) F X dL_law_345 b54 ?_
        refine u_aload_n (pc := 346) F dL_law_346 0 rfl rfl ?_
        refine u_iload_n (pc := 347) F dL_law_347 3 rfl rfl ?_
        refine u_iconst (v := 2) (pc := 348) F dL_law_348 (by decide) ?_
        refine u_iadd (pc := 349) F dL_law_349 ?_
        obtain ⟨b55, h⟩ := d_ab_some h
        refine u_sld (pc := 350) F X dL_law_350 b55 ?_
        obtain ⟨q56, hq56, h⟩ := d_bd_some h
        refine u_calli (pc := 351) F (As := [.int (xs (x3 + (1 : Int32)).toNatClampNeg), .int (xs (x3 + (2 : Int32)).toNatClampNeg)]) (c_X11_last G hM (xs (x3 + (1 : Int32)).toNatClampNeg) (xs (x3 + (2 : Int32)).toNatClampNeg) σ (σ 11 0) (rfl) q56 hq56) yv_X11_last ml_L_43 (hM 11 0 0 (by decide) rfl) rfl (by decide) rfl rfl (Nat.le_of_ble_eq_true rfl) dL_law_351 ?_
        refine u_icmp_eq (pc := 354) F 1099 dL_law_354 (by decide) (fun c57 => ?_) (fun c57 => ?_)
        · rw [if_pos c57] at h
          obtain ⟨v58, hv58, h⟩ := d_lt_some h
          refine u_iinc (lv' := [(3, .int v58), (0, .ref b), (1, .ref (adr G (10, 0, 0))), (2, .ref (adr G (11, 0, 0)))]) (pc := 1099) F dL_law_1099 3 rfl hv58.symm hY (by decide) rfl ?_
          refine u_goto (pc := 1102) F 18 dL_law_1102 (by decide) ?_
          refine u_lv (lv' := [(0, .ref b), (1, .ref (adr G (10, 0, 0))), (2, .ref (adr G (11, 0, 0))), (3, .int v58)]) [1, 2, 3, 0] rfl ?_
          exact ih σ v58 h
        · rw [if_neg c57] at h
          refine u_iconst (v := 0) (pc := 357) F dL_law_357 (by decide) ?_
          have h1 := Option.some.inj h
          obtain ⟨hj0, hr0⟩ := Prod.mk.inj h1
          subst hj0
          subst hr0
          exact hR _ _ rfl dL_law_358
      rw [if_neg e50] at h
      by_cases e59 : v3 = (7 : Int32)
      · rw [if_pos e59] at h
        refine u_table (pc := 32) F dL_law_32 (off := 327) 359 (by rw [e59]; decide) (by rw [e59]; decide) (by rw [e59]; rfl) (by decide) ?_
        refine u_aload_n (pc := 359) F dL_law_359 1 rfl rfl ?_
        refine u_aload_n (pc := 360) F dL_law_360 0 rfl rfl ?_
        refine u_iload_n (pc := 361) F dL_law_361 3 rfl rfl ?_
        refine u_iconst (v := 1) (pc := 362) F dL_law_362 (by decide) ?_
        refine u_iadd (pc := 363) F dL_law_363 ?_
        obtain ⟨b60, h⟩ := d_ab_some h
        refine u_sld (pc := 364) F X dL_law_364 b60 ?_
        obtain ⟨q61, hq61, h⟩ := d_bd_some h
        refine u_calli (pc := 365) F (As := [.int (xs (x3 + (1 : Int32)).toNatClampNeg)]) (c_X10_kept G hL (xs (x3 + (1 : Int32)).toNatClampNeg) σ q61 hq61) yv_X10_kept ml_L_44 (hL 10 0 0 (by decide) rfl) rfl (by decide) rfl rfl (Nat.le_of_ble_eq_true rfl) dL_law_365 ?_
        refine u_aload_n (pc := 368) F dL_law_368 2 rfl rfl ?_
        refine u_aload_n (pc := 369) F dL_law_369 0 rfl rfl ?_
        refine u_iload_n (pc := 370) F dL_law_370 3 rfl rfl ?_
        refine u_iconst (v := 1) (pc := 371) F dL_law_371 (by decide) ?_
        refine u_iadd (pc := 372) F dL_law_372 ?_
        obtain ⟨b62, h⟩ := d_ab_some h
        refine u_sld (pc := 373) F X dL_law_373 b62 ?_
        obtain ⟨q63, hq63, h⟩ := d_bd_some h
        refine u_calli (pc := 374) F (As := [.int (xs (x3 + (1 : Int32)).toNatClampNeg)]) (c_X11_kept G hM (xs (x3 + (1 : Int32)).toNatClampNeg) σ (σ 11 0) (rfl) q63 hq63) yv_X11_kept ml_L_47 (hM 11 0 0 (by decide) rfl) rfl (by decide) rfl rfl (Nat.le_of_ble_eq_true rfl) dL_law_374 ?_
        refine u_icmp_eq (pc := 377) F 1099 dL_law_377 (by decide) (fun c64 => ?_) (fun c64 => ?_)
        · rw [if_pos c64] at h
          obtain ⟨v65, hv65, h⟩ := d_lt_some h
          refine u_iinc (lv' := [(3, .int v65), (0, .ref b), (1, .ref (adr G (10, 0, 0))), (2, .ref (adr G (11, 0, 0)))]) (pc := 1099) F dL_law_1099 3 rfl hv65.symm hY (by decide) rfl ?_
          refine u_goto (pc := 1102) F 18 dL_law_1102 (by decide) ?_
          refine u_lv (lv' := [(0, .ref b), (1, .ref (adr G (10, 0, 0))), (2, .ref (adr G (11, 0, 0))), (3, .int v65)]) [1, 2, 3, 0] rfl ?_
          exact ih σ v65 h
        · rw [if_neg c64] at h
          refine u_iconst (v := 0) (pc := 380) F dL_law_380 (by decide) ?_
          have h1 := Option.some.inj h
          obtain ⟨hj0, hr0⟩ := Prod.mk.inj h1
          subst hj0
          subst hr0
          exact hR _ _ rfl dL_law_381
      rw [if_neg e59] at h
      by_cases e66 : v3 = (8 : Int32)
      · rw [if_pos e66] at h
        refine u_table (pc := 32) F dL_law_32 (off := 350) 382 (by rw [e66]; decide) (by rw [e66]; decide) (by rw [e66]; rfl) (by decide) ?_
        refine u_aload_n (pc := 382) F dL_law_382 1 rfl rfl ?_
        refine u_aload_n (pc := 383) F dL_law_383 0 rfl rfl ?_
        refine u_iload_n (pc := 384) F dL_law_384 3 rfl rfl ?_
        refine u_iconst (v := 1) (pc := 385) F dL_law_385 (by decide) ?_
        refine u_iadd (pc := 386) F dL_law_386 ?_
        obtain ⟨b67, h⟩ := d_ab_some h
        refine u_sld (pc := 387) F X dL_law_387 b67 ?_
        refine u_aload_n (pc := 388) F dL_law_388 0 rfl rfl ?_
        refine u_iload_n (pc := 389) F dL_law_389 3 rfl rfl ?_
        refine u_iconst (v := 2) (pc := 390) F dL_law_390 (by decide) ?_
        refine u_iadd (pc := 391) F dL_law_391 ?_
        obtain ⟨b68, h⟩ := d_ab_some h
        refine u_sld (pc := 392) F X dL_law_392 b68 ?_
        obtain ⟨q69, hq69, h⟩ := d_bd_some h
        refine u_calli (pc := 393) F (As := [.int (xs (x3 + (1 : Int32)).toNatClampNeg), .int (xs (x3 + (2 : Int32)).toNatClampNeg)]) (c_X10_code G hL (xs (x3 + (1 : Int32)).toNatClampNeg) (xs (x3 + (2 : Int32)).toNatClampNeg) σ q69 hq69) yv_X10_code ml_L_48 (hL 10 0 0 (by decide) rfl) rfl (by decide) rfl rfl (Nat.le_of_ble_eq_true rfl) dL_law_393 ?_
        refine u_aload_n (pc := 396) F dL_law_396 2 rfl rfl ?_
        refine u_aload_n (pc := 397) F dL_law_397 0 rfl rfl ?_
        refine u_iload_n (pc := 398) F dL_law_398 3 rfl rfl ?_
        refine u_iconst (v := 1) (pc := 399) F dL_law_399 (by decide) ?_
        refine u_iadd (pc := 400) F dL_law_400 ?_
        obtain ⟨b70, h⟩ := d_ab_some h
        refine u_sld (pc := 401) F X dL_law_401 b70 ?_
        refine u_aload_n (pc := 402) F dL_law_402 0 rfl rfl ?_
        refine u_iload_n (pc := 403) F dL_law_403 3 rfl rfl ?_
        refine u_iconst (v := 2) (pc := 404) F dL_law_404 (by decide) ?_
        refine u_iadd (pc := 405) F dL_law_405 ?_
        obtain ⟨b71, h⟩ := d_ab_some h
        refine u_sld (pc := 406) F X dL_law_406 b71 ?_
        obtain ⟨q72, hq72, h⟩ := d_bd_some h
        refine u_calli (pc := 407) F (As := [.int (xs (x3 + (1 : Int32)).toNatClampNeg), .int (xs (x3 + (2 : Int32)).toNatClampNeg)]) (c_X11_code G hM (xs (x3 + (1 : Int32)).toNatClampNeg) (xs (x3 + (2 : Int32)).toNatClampNeg) σ q72 hq72) yv_X11_code ml_L_51 (hM 11 0 0 (by decide) rfl) rfl (by decide) rfl rfl (Nat.le_of_ble_eq_true rfl) dL_law_407 ?_
        refine u_icmp_eq (pc := 410) F 1099 dL_law_410 (by decide) (fun c73 => ?_) (fun c73 => ?_)
        · rw [if_pos c73] at h
          obtain ⟨v74, hv74, h⟩ := d_lt_some h
          refine u_iinc (lv' := [(3, .int v74), (0, .ref b), (1, .ref (adr G (10, 0, 0))), (2, .ref (adr G (11, 0, 0)))]) (pc := 1099) F dL_law_1099 3 rfl hv74.symm hY (by decide) rfl ?_
          refine u_goto (pc := 1102) F 18 dL_law_1102 (by decide) ?_
          refine u_lv (lv' := [(0, .ref b), (1, .ref (adr G (10, 0, 0))), (2, .ref (adr G (11, 0, 0))), (3, .int v74)]) [1, 2, 3, 0] rfl ?_
          exact ih σ v74 h
        · rw [if_neg c73] at h
          refine u_iconst (v := 0) (pc := 413) F dL_law_413 (by decide) ?_
          have h1 := Option.some.inj h
          obtain ⟨hj0, hr0⟩ := Prod.mk.inj h1
          subst hj0
          subst hr0
          exact hR _ _ rfl dL_law_414
      rw [if_neg e66] at h
      by_cases e75 : v3 = (9 : Int32)
      · rw [if_pos e75] at h
        refine u_table (pc := 32) F dL_law_32 (off := 383) 415 (by rw [e75]; decide) (by rw [e75]; decide) (by rw [e75]; rfl) (by decide) ?_
        refine u_aload_n (pc := 415) F dL_law_415 1 rfl rfl ?_
        refine u_aload_n (pc := 416) F dL_law_416 0 rfl rfl ?_
        refine u_iload_n (pc := 417) F dL_law_417 3 rfl rfl ?_
        refine u_iconst (v := 1) (pc := 418) F dL_law_418 (by decide) ?_
        refine u_iadd (pc := 419) F dL_law_419 ?_
        obtain ⟨b76, h⟩ := d_ab_some h
        refine u_sld (pc := 420) F X dL_law_420 b76 ?_
        obtain ⟨q77, hq77, h⟩ := d_bd_some h
        refine u_calli (pc := 421) F (As := [.int (xs (x3 + (1 : Int32)).toNatClampNeg)]) (c_X10_press G hL (xs (x3 + (1 : Int32)).toNatClampNeg) σ q77.1 q77.2 hq77) yv_X10_press ml_L_52 (hL 10 0 0 (by decide) rfl) rfl (by decide) rfl rfl (Nat.le_of_ble_eq_true rfl) dL_law_421 ?_
        refine u_aload_n (pc := 424) F dL_law_424 2 rfl rfl ?_
        refine u_aload_n (pc := 425) F dL_law_425 0 rfl rfl ?_
        refine u_iload_n (pc := 426) F dL_law_426 3 rfl rfl ?_
        refine u_iconst (v := 1) (pc := 427) F dL_law_427 (by decide) ?_
        refine u_iadd (pc := 428) F dL_law_428 ?_
        obtain ⟨b78, h⟩ := d_ab_some h
        refine u_sld (pc := 429) F X dL_law_429 b78 ?_
        obtain ⟨q79, hq79, h⟩ := d_bd_some h
        refine u_calli (pc := 430) F (As := [.int (xs (x3 + (1 : Int32)).toNatClampNeg)]) (c_X11_press G hM (xs (x3 + (1 : Int32)).toNatClampNeg) q77.2 (q77.2 11 0) (rfl) q79.1 q79.2 hq79) yv_X11_press ml_L_55 (hM 11 0 0 (by decide) rfl) rfl (by decide) rfl rfl (Nat.le_of_ble_eq_true rfl) dL_law_430 ?_
        obtain ⟨m80, hm80, h⟩ := d_lt_some h
        refine u_mem hm80 ?_
        refine u_icmp_eq (pc := 433) F 1099 dL_law_433 (by decide) (fun c81 => ?_) (fun c81 => ?_)
        · rw [if_pos c81] at h
          obtain ⟨v82, hv82, h⟩ := d_lt_some h
          refine u_iinc (lv' := [(3, .int v82), (0, .ref b), (1, .ref (adr G (10, 0, 0))), (2, .ref (adr G (11, 0, 0)))]) (pc := 1099) F dL_law_1099 3 rfl hv82.symm hY (by decide) rfl ?_
          refine u_goto (pc := 1102) F 18 dL_law_1102 (by decide) ?_
          refine u_lv (lv' := [(0, .ref b), (1, .ref (adr G (10, 0, 0))), (2, .ref (adr G (11, 0, 0))), (3, .int v82)]) [1, 2, 3, 0] rfl ?_
          exact ih m80 v82 h
        · rw [if_neg c81] at h
          refine u_iconst (v := 0) (pc := 436) F dL_law_436 (by decide) ?_
          have h1 := Option.some.inj h
          obtain ⟨hj0, hr0⟩ := Prod.mk.inj h1
          subst hj0
          subst hr0
          exact hR _ _ rfl dL_law_437
      rw [if_neg e75] at h
      by_cases e83 : v3 = (10 : Int32)
      · rw [if_pos e83] at h
        refine u_table (pc := 32) F dL_law_32 (off := 406) 438 (by rw [e83]; decide) (by rw [e83]; decide) (by rw [e83]; rfl) (by decide) ?_
        refine u_aload_n (pc := 438) F dL_law_438 1 rfl rfl ?_
        refine u_aload_n (pc := 439) F dL_law_439 0 rfl rfl ?_
        refine u_iload_n (pc := 440) F dL_law_440 3 rfl rfl ?_
        refine u_iconst (v := 1) (pc := 441) F dL_law_441 (by decide) ?_
        refine u_iadd (pc := 442) F dL_law_442 ?_
        obtain ⟨b84, h⟩ := d_ab_some h
        refine u_sld (pc := 443) F X dL_law_443 b84 ?_
        refine u_aload_n (pc := 444) F dL_law_444 0 rfl rfl ?_
        refine u_iload_n (pc := 445) F dL_law_445 3 rfl rfl ?_
        refine u_iconst (v := 2) (pc := 446) F dL_law_446 (by decide) ?_
        refine u_iadd (pc := 447) F dL_law_447 ?_
        obtain ⟨b85, h⟩ := d_ab_some h
        refine u_sld (pc := 448) F X dL_law_448 b85 ?_
        obtain ⟨q86, hq86, h⟩ := d_bd_some h
        refine u_calli (pc := 449) F (As := [.int (xs (x3 + (1 : Int32)).toNatClampNeg), .int (xs (x3 + (2 : Int32)).toNatClampNeg)]) (c_X10_step G hL (xs (x3 + (1 : Int32)).toNatClampNeg) (xs (x3 + (2 : Int32)).toNatClampNeg) σ q86.1 q86.2 hq86) yv_X10_step ml_L_56 (hL 10 0 0 (by decide) rfl) rfl (by decide) rfl rfl (Nat.le_of_ble_eq_true rfl) dL_law_449 ?_
        refine u_aload_n (pc := 452) F dL_law_452 2 rfl rfl ?_
        refine u_aload_n (pc := 453) F dL_law_453 0 rfl rfl ?_
        refine u_iload_n (pc := 454) F dL_law_454 3 rfl rfl ?_
        refine u_iconst (v := 1) (pc := 455) F dL_law_455 (by decide) ?_
        refine u_iadd (pc := 456) F dL_law_456 ?_
        obtain ⟨b87, h⟩ := d_ab_some h
        refine u_sld (pc := 457) F X dL_law_457 b87 ?_
        refine u_aload_n (pc := 458) F dL_law_458 0 rfl rfl ?_
        refine u_iload_n (pc := 459) F dL_law_459 3 rfl rfl ?_
        refine u_iconst (v := 2) (pc := 460) F dL_law_460 (by decide) ?_
        refine u_iadd (pc := 461) F dL_law_461 ?_
        obtain ⟨b88, h⟩ := d_ab_some h
        refine u_sld (pc := 462) F X dL_law_462 b88 ?_
        obtain ⟨q89, hq89, h⟩ := d_bd_some h
        refine u_calli (pc := 463) F (As := [.int (xs (x3 + (1 : Int32)).toNatClampNeg), .int (xs (x3 + (2 : Int32)).toNatClampNeg)]) (c_X11_step G hM (xs (x3 + (1 : Int32)).toNatClampNeg) (xs (x3 + (2 : Int32)).toNatClampNeg) q86.2 (q86.2 11 0) (rfl) q89.1 q89.2 hq89) yv_X11_step ml_L_59 (hM 11 0 0 (by decide) rfl) rfl (by decide) rfl rfl (Nat.le_of_ble_eq_true rfl) dL_law_463 ?_
        obtain ⟨m90, hm90, h⟩ := d_lt_some h
        refine u_mem hm90 ?_
        refine u_icmp_eq (pc := 466) F 1099 dL_law_466 (by decide) (fun c91 => ?_) (fun c91 => ?_)
        · rw [if_pos c91] at h
          obtain ⟨v92, hv92, h⟩ := d_lt_some h
          refine u_iinc (lv' := [(3, .int v92), (0, .ref b), (1, .ref (adr G (10, 0, 0))), (2, .ref (adr G (11, 0, 0)))]) (pc := 1099) F dL_law_1099 3 rfl hv92.symm hY (by decide) rfl ?_
          refine u_goto (pc := 1102) F 18 dL_law_1102 (by decide) ?_
          refine u_lv (lv' := [(0, .ref b), (1, .ref (adr G (10, 0, 0))), (2, .ref (adr G (11, 0, 0))), (3, .int v92)]) [1, 2, 3, 0] rfl ?_
          exact ih m90 v92 h
        · rw [if_neg c91] at h
          refine u_iconst (v := 0) (pc := 469) F dL_law_469 (by decide) ?_
          have h1 := Option.some.inj h
          obtain ⟨hj0, hr0⟩ := Prod.mk.inj h1
          subst hj0
          subst hr0
          exact hR _ _ rfl dL_law_470
      rw [if_neg e83] at h
      by_cases e93 : v3 = (11 : Int32)
      · rw [if_pos e93] at h
        refine u_table (pc := 32) F dL_law_32 (off := 439) 471 (by rw [e93]; decide) (by rw [e93]; decide) (by rw [e93]; rfl) (by decide) ?_
        refine u_aload_n (pc := 471) F dL_law_471 1 rfl rfl ?_
        refine u_aload_n (pc := 472) F dL_law_472 0 rfl rfl ?_
        refine u_iload_n (pc := 473) F dL_law_473 3 rfl rfl ?_
        refine u_iconst (v := 1) (pc := 474) F dL_law_474 (by decide) ?_
        refine u_iadd (pc := 475) F dL_law_475 ?_
        obtain ⟨b94, h⟩ := d_ab_some h
        refine u_sld (pc := 476) F X dL_law_476 b94 ?_
        obtain ⟨q95, hq95, h⟩ := d_bd_some h
        refine u_calli (pc := 477) F (As := [.int (xs (x3 + (1 : Int32)).toNatClampNeg)]) (c_X10_earTo G hL (xs (x3 + (1 : Int32)).toNatClampNeg) σ q95.1 q95.2 hq95) yv_X10_earTo ml_L_60 (hL 10 0 0 (by decide) rfl) rfl (by decide) rfl rfl (Nat.le_of_ble_eq_true rfl) dL_law_477 ?_
        refine u_aload_n (pc := 480) F dL_law_480 2 rfl rfl ?_
        refine u_aload_n (pc := 481) F dL_law_481 0 rfl rfl ?_
        refine u_iload_n (pc := 482) F dL_law_482 3 rfl rfl ?_
        refine u_iconst (v := 1) (pc := 483) F dL_law_483 (by decide) ?_
        refine u_iadd (pc := 484) F dL_law_484 ?_
        obtain ⟨b96, h⟩ := d_ab_some h
        refine u_sld (pc := 485) F X dL_law_485 b96 ?_
        obtain ⟨q97, hq97, h⟩ := d_bd_some h
        refine u_calli (pc := 486) F (As := [.int (xs (x3 + (1 : Int32)).toNatClampNeg)]) (c_X11_earTo G hM (xs (x3 + (1 : Int32)).toNatClampNeg) q95.2 (q95.2 11 0) (rfl) q97.1 q97.2 hq97) yv_X11_earTo ml_L_63 (hM 11 0 0 (by decide) rfl) rfl (by decide) rfl rfl (Nat.le_of_ble_eq_true rfl) dL_law_486 ?_
        obtain ⟨m98, hm98, h⟩ := d_lt_some h
        refine u_mem hm98 ?_
        refine u_icmp_eq (pc := 489) F 1099 dL_law_489 (by decide) (fun c99 => ?_) (fun c99 => ?_)
        · rw [if_pos c99] at h
          obtain ⟨v100, hv100, h⟩ := d_lt_some h
          refine u_iinc (lv' := [(3, .int v100), (0, .ref b), (1, .ref (adr G (10, 0, 0))), (2, .ref (adr G (11, 0, 0)))]) (pc := 1099) F dL_law_1099 3 rfl hv100.symm hY (by decide) rfl ?_
          refine u_goto (pc := 1102) F 18 dL_law_1102 (by decide) ?_
          refine u_lv (lv' := [(0, .ref b), (1, .ref (adr G (10, 0, 0))), (2, .ref (adr G (11, 0, 0))), (3, .int v100)]) [1, 2, 3, 0] rfl ?_
          exact ih m98 v100 h
        · rw [if_neg c99] at h
          refine u_iconst (v := 0) (pc := 492) F dL_law_492 (by decide) ?_
          have h1 := Option.some.inj h
          obtain ⟨hj0, hr0⟩ := Prod.mk.inj h1
          subst hj0
          subst hr0
          exact hR _ _ rfl dL_law_493
      rw [if_neg e93] at h
      by_cases e101 : v3 = (12 : Int32)
      · rw [if_pos e101] at h
        refine u_table (pc := 32) F dL_law_32 (off := 462) 494 (by rw [e101]; decide) (by rw [e101]; decide) (by rw [e101]; rfl) (by decide) ?_
        refine u_aload_n (pc := 494) F dL_law_494 1 rfl rfl ?_
        refine u_aload_n (pc := 495) F dL_law_495 0 rfl rfl ?_
        refine u_iload_n (pc := 496) F dL_law_496 3 rfl rfl ?_
        refine u_iconst (v := 1) (pc := 497) F dL_law_497 (by decide) ?_
        refine u_iadd (pc := 498) F dL_law_498 ?_
        obtain ⟨b102, h⟩ := d_ab_some h
        refine u_sld (pc := 499) F X dL_law_499 b102 ?_
        refine u_aload_n (pc := 500) F dL_law_500 0 rfl rfl ?_
        refine u_iload_n (pc := 501) F dL_law_501 3 rfl rfl ?_
        refine u_iconst (v := 2) (pc := 502) F dL_law_502 (by decide) ?_
        refine u_iadd (pc := 503) F dL_law_503 ?_
        obtain ⟨b103, h⟩ := d_ab_some h
        refine u_sld (pc := 504) F X dL_law_504 b103 ?_
        obtain ⟨v104, hv104, h⟩ := d_lt_some h
        suffices hj : U Y G σ 513 [(0, .ref b), (1, .ref (adr G (10, 0, 0))), (2, .ref (adr G (11, 0, 0))), (3, .int x3)] [.int v104, .int (xs (x3 + (1 : Int32)).toNatClampNeg), .ref (adr G (10, 0, 0))] by
          refine u_if_eq (pc := 505) F 512 dL_law_505 (by decide) (fun c105 => ?_) (fun c105 => ?_)
          · rw [if_pos c105] at hv104
            refine u_iconst (v := 0) (pc := 512) F dL_law_512 (by decide) ?_
            exact u_topi hv104 hj
          · rw [if_neg c105] at hv104
            refine u_iconst (v := 1) (pc := 508) F dL_law_508 (by decide) ?_
            refine u_goto (pc := 509) F 513 dL_law_509 (by decide) ?_
            exact u_topi hv104 hj
        obtain ⟨q106, hq106, h⟩ := d_bd_some h
        refine u_calli (pc := 513) F (As := [.int (xs (x3 + (1 : Int32)).toNatClampNeg), .int v104]) (c_X10_noise G hL (xs (x3 + (1 : Int32)).toNatClampNeg) v104 σ q106.1 q106.2 hq106) yv_X10_noise ml_L_64 (hL 10 0 0 (by decide) rfl) rfl (by decide) rfl rfl (Nat.le_of_ble_eq_true rfl) dL_law_513 ?_
        refine u_aload_n (pc := 516) F dL_law_516 2 rfl rfl ?_
        refine u_aload_n (pc := 517) F dL_law_517 0 rfl rfl ?_
        refine u_iload_n (pc := 518) F dL_law_518 3 rfl rfl ?_
        refine u_iconst (v := 1) (pc := 519) F dL_law_519 (by decide) ?_
        refine u_iadd (pc := 520) F dL_law_520 ?_
        obtain ⟨b107, h⟩ := d_ab_some h
        refine u_sld (pc := 521) F X dL_law_521 b107 ?_
        refine u_aload_n (pc := 522) F dL_law_522 0 rfl rfl ?_
        refine u_iload_n (pc := 523) F dL_law_523 3 rfl rfl ?_
        refine u_iconst (v := 2) (pc := 524) F dL_law_524 (by decide) ?_
        refine u_iadd (pc := 525) F dL_law_525 ?_
        obtain ⟨b108, h⟩ := d_ab_some h
        refine u_sld (pc := 526) F X dL_law_526 b108 ?_
        obtain ⟨v109, hv109, h⟩ := d_lt_some h
        suffices hj : U Y G q106.2 535 [(0, .ref b), (1, .ref (adr G (10, 0, 0))), (2, .ref (adr G (11, 0, 0))), (3, .int x3)] [.int v109, .int (xs (x3 + (1 : Int32)).toNatClampNeg), .ref (adr G (11, 0, 0)), .int q106.1] by
          refine u_if_eq (pc := 527) F 534 dL_law_527 (by decide) (fun c110 => ?_) (fun c110 => ?_)
          · rw [if_pos c110] at hv109
            refine u_iconst (v := 0) (pc := 534) F dL_law_534 (by decide) ?_
            exact u_topi hv109 hj
          · rw [if_neg c110] at hv109
            refine u_iconst (v := 1) (pc := 530) F dL_law_530 (by decide) ?_
            refine u_goto (pc := 531) F 535 dL_law_531 (by decide) ?_
            exact u_topi hv109 hj
        obtain ⟨q111, hq111, h⟩ := d_bd_some h
        refine u_calli (pc := 535) F (As := [.int (xs (x3 + (1 : Int32)).toNatClampNeg), .int v109]) (c_X11_noise G hM (xs (x3 + (1 : Int32)).toNatClampNeg) v109 q106.2 (q106.2 11 0) (rfl) q111.1 q111.2 hq111) yv_X11_noise ml_L_68 (hM 11 0 0 (by decide) rfl) rfl (by decide) rfl rfl (Nat.le_of_ble_eq_true rfl) dL_law_535 ?_
        obtain ⟨m112, hm112, h⟩ := d_lt_some h
        refine u_mem hm112 ?_
        refine u_icmp_eq (pc := 538) F 1099 dL_law_538 (by decide) (fun c113 => ?_) (fun c113 => ?_)
        · rw [if_pos c113] at h
          obtain ⟨v114, hv114, h⟩ := d_lt_some h
          refine u_iinc (lv' := [(3, .int v114), (0, .ref b), (1, .ref (adr G (10, 0, 0))), (2, .ref (adr G (11, 0, 0)))]) (pc := 1099) F dL_law_1099 3 rfl hv114.symm hY (by decide) rfl ?_
          refine u_goto (pc := 1102) F 18 dL_law_1102 (by decide) ?_
          refine u_lv (lv' := [(0, .ref b), (1, .ref (adr G (10, 0, 0))), (2, .ref (adr G (11, 0, 0))), (3, .int v114)]) [1, 2, 3, 0] rfl ?_
          exact ih m112 v114 h
        · rw [if_neg c113] at h
          refine u_iconst (v := 0) (pc := 541) F dL_law_541 (by decide) ?_
          have h1 := Option.some.inj h
          obtain ⟨hj0, hr0⟩ := Prod.mk.inj h1
          subst hj0
          subst hr0
          exact hR _ _ rfl dL_law_542
      rw [if_neg e101] at h
      by_cases e115 : v3 = (13 : Int32)
      · rw [if_pos e115] at h
        refine u_table (pc := 32) F dL_law_32 (off := 511) 543 (by rw [e115]; decide) (by rw [e115]; decide) (by rw [e115]; rfl) (by decide) ?_
        refine u_aload_n (pc := 543) F dL_law_543 1 rfl rfl ?_
        refine u_aload_n (pc := 544) F dL_law_544 0 rfl rfl ?_
        refine u_iload_n (pc := 545) F dL_law_545 3 rfl rfl ?_
        refine u_iconst (v := 1) (pc := 546) F dL_law_546 (by decide) ?_
        refine u_iadd (pc := 547) F dL_law_547 ?_
        obtain ⟨b116, h⟩ := d_ab_some h
        refine u_sld (pc := 548) F X dL_law_548 b116 ?_
        refine u_aload_n (pc := 549) F dL_law_549 0 rfl rfl ?_
        refine u_iload_n (pc := 550) F dL_law_550 3 rfl rfl ?_
        refine u_iconst (v := 2) (pc := 551) F dL_law_551 (by decide) ?_
        refine u_iadd (pc := 552) F dL_law_552 ?_
        obtain ⟨b117, h⟩ := d_ab_some h
        refine u_sld (pc := 553) F X dL_law_553 b117 ?_
        obtain ⟨q118, hq118, h⟩ := d_bd_some h
        refine u_calli (pc := 554) F (As := [.int (xs (x3 + (1 : Int32)).toNatClampNeg), .int (xs (x3 + (2 : Int32)).toNatClampNeg)]) (c_X10_teach G hL (xs (x3 + (1 : Int32)).toNatClampNeg) (xs (x3 + (2 : Int32)).toNatClampNeg) σ q118.1 q118.2 hq118) yv_X10_teach ml_L_69 (hL 10 0 0 (by decide) rfl) rfl (by decide) rfl rfl (Nat.le_of_ble_eq_true rfl) dL_law_554 ?_
        refine u_aload_n (pc := 557) F dL_law_557 2 rfl rfl ?_
        refine u_aload_n (pc := 558) F dL_law_558 0 rfl rfl ?_
        refine u_iload_n (pc := 559) F dL_law_559 3 rfl rfl ?_
        refine u_iconst (v := 1) (pc := 560) F dL_law_560 (by decide) ?_
        refine u_iadd (pc := 561) F dL_law_561 ?_
        obtain ⟨b119, h⟩ := d_ab_some h
        refine u_sld (pc := 562) F X dL_law_562 b119 ?_
        refine u_aload_n (pc := 563) F dL_law_563 0 rfl rfl ?_
        refine u_iload_n (pc := 564) F dL_law_564 3 rfl rfl ?_
        refine u_iconst (v := 2) (pc := 565) F dL_law_565 (by decide) ?_
        refine u_iadd (pc := 566) F dL_law_566 ?_
        obtain ⟨b120, h⟩ := d_ab_some h
        refine u_sld (pc := 567) F X dL_law_567 b120 ?_
        obtain ⟨q121, hq121, h⟩ := d_bd_some h
        refine u_calli (pc := 568) F (As := [.int (xs (x3 + (1 : Int32)).toNatClampNeg), .int (xs (x3 + (2 : Int32)).toNatClampNeg)]) (c_X11_teach G hM (xs (x3 + (1 : Int32)).toNatClampNeg) (xs (x3 + (2 : Int32)).toNatClampNeg) q118.2 (q118.2 11 0) (rfl) q121.1 q121.2 hq121) yv_X11_teach ml_L_72 (hM 11 0 0 (by decide) rfl) rfl (by decide) rfl rfl (Nat.le_of_ble_eq_true rfl) dL_law_568 ?_
        obtain ⟨m122, hm122, h⟩ := d_lt_some h
        refine u_mem hm122 ?_
        refine u_icmp_eq (pc := 571) F 1099 dL_law_571 (by decide) (fun c123 => ?_) (fun c123 => ?_)
        · rw [if_pos c123] at h
          obtain ⟨v124, hv124, h⟩ := d_lt_some h
          refine u_iinc (lv' := [(3, .int v124), (0, .ref b), (1, .ref (adr G (10, 0, 0))), (2, .ref (adr G (11, 0, 0)))]) (pc := 1099) F dL_law_1099 3 rfl hv124.symm hY (by decide) rfl ?_
          refine u_goto (pc := 1102) F 18 dL_law_1102 (by decide) ?_
          refine u_lv (lv' := [(0, .ref b), (1, .ref (adr G (10, 0, 0))), (2, .ref (adr G (11, 0, 0))), (3, .int v124)]) [1, 2, 3, 0] rfl ?_
          exact ih m122 v124 h
        · rw [if_neg c123] at h
          refine u_iconst (v := 0) (pc := 574) F dL_law_574 (by decide) ?_
          have h1 := Option.some.inj h
          obtain ⟨hj0, hr0⟩ := Prod.mk.inj h1
          subst hj0
          subst hr0
          exact hR _ _ rfl dL_law_575
      rw [if_neg e115] at h
      by_cases e125 : v3 = (14 : Int32)
      · rw [if_pos e125] at h
        refine u_table (pc := 32) F dL_law_32 (off := 544) 576 (by rw [e125]; decide) (by rw [e125]; decide) (by rw [e125]; rfl) (by decide) ?_
        refine u_aload_n (pc := 576) F dL_law_576 1 rfl rfl ?_
        refine u_aload_n (pc := 577) F dL_law_577 0 rfl rfl ?_
        refine u_iload_n (pc := 578) F dL_law_578 3 rfl rfl ?_
        refine u_iconst (v := 1) (pc := 579) F dL_law_579 (by decide) ?_
        refine u_iadd (pc := 580) F dL_law_580 ?_
        obtain ⟨b126, h⟩ := d_ab_some h
        refine u_sld (pc := 581) F X dL_law_581 b126 ?_
        obtain ⟨q127, hq127, h⟩ := d_bd_some h
        refine u_calli (pc := 582) F (As := [.int (xs (x3 + (1 : Int32)).toNatClampNeg)]) (c_X10_again G hL (xs (x3 + (1 : Int32)).toNatClampNeg) σ q127.1 q127.2 hq127) yv_X10_again ml_L_73 (hL 10 0 0 (by decide) rfl) rfl (by decide) rfl rfl (Nat.le_of_ble_eq_true rfl) dL_law_582 ?_
        refine u_aload_n (pc := 585) F dL_law_585 2 rfl rfl ?_
        refine u_aload_n (pc := 586) F dL_law_586 0 rfl rfl ?_
        refine u_iload_n (pc := 587) F dL_law_587 3 rfl rfl ?_
        refine u_iconst (v := 1) (pc := 588) F dL_law_588 (by decide) ?_
        refine u_iadd (pc := 589) F dL_law_589 ?_
        obtain ⟨b128, h⟩ := d_ab_some h
        refine u_sld (pc := 590) F X dL_law_590 b128 ?_
        obtain ⟨q129, hq129, h⟩ := d_bd_some h
        refine u_calli (pc := 591) F (As := [.int (xs (x3 + (1 : Int32)).toNatClampNeg)]) (c_X11_again G hM (xs (x3 + (1 : Int32)).toNatClampNeg) q127.2 (q127.2 11 0) (rfl) q129.1 q129.2 hq129) yv_X11_again ml_L_76 (hM 11 0 0 (by decide) rfl) rfl (by decide) rfl rfl (Nat.le_of_ble_eq_true rfl) dL_law_591 ?_
        obtain ⟨m130, hm130, h⟩ := d_lt_some h
        refine u_mem hm130 ?_
        refine u_icmp_eq (pc := 594) F 1099 dL_law_594 (by decide) (fun c131 => ?_) (fun c131 => ?_)
        · rw [if_pos c131] at h
          obtain ⟨v132, hv132, h⟩ := d_lt_some h
          refine u_iinc (lv' := [(3, .int v132), (0, .ref b), (1, .ref (adr G (10, 0, 0))), (2, .ref (adr G (11, 0, 0)))]) (pc := 1099) F dL_law_1099 3 rfl hv132.symm hY (by decide) rfl ?_
          refine u_goto (pc := 1102) F 18 dL_law_1102 (by decide) ?_
          refine u_lv (lv' := [(0, .ref b), (1, .ref (adr G (10, 0, 0))), (2, .ref (adr G (11, 0, 0))), (3, .int v132)]) [1, 2, 3, 0] rfl ?_
          exact ih m130 v132 h
        · rw [if_neg c131] at h
          refine u_iconst (v := 0) (pc := 597) F dL_law_597 (by decide) ?_
          have h1 := Option.some.inj h
          obtain ⟨hj0, hr0⟩ := Prod.mk.inj h1
          subst hj0
          subst hr0
          exact hR _ _ rfl dL_law_598
      rw [if_neg e125] at h
      by_cases e133 : v3 = (15 : Int32)
      · rw [if_pos e133] at h
        refine u_table (pc := 32) F dL_law_32 (off := 567) 599 (by rw [e133]; decide) (by rw [e133]; decide) (by rw [e133]; rfl) (by decide) ?_
        refine u_aload_n (pc := 599) F dL_law_599 1 rfl rfl ?_
        refine u_aload_n (pc := 600) F dL_law_600 0 rfl rfl ?_
        refine u_iload_n (pc := 601) F dL_law_601 3 rfl rfl ?_
        refine u_iconst (v := 1) (pc := 602) F dL_law_602 (by decide) ?_
        refine u_iadd (pc := 603) F dL_law_603 ?_
        obtain ⟨b134, h⟩ := d_ab_some h
        refine u_sld (pc := 604) F X dL_law_604 b134 ?_
        obtain ⟨q135, hq135, h⟩ := d_bd_some h
        refine u_calli (pc := 605) F (As := [.int (xs (x3 + (1 : Int32)).toNatClampNeg)]) (c_X10_fill G hL (xs (x3 + (1 : Int32)).toNatClampNeg) σ q135.1 q135.2 hq135) yv_X10_fill ml_L_77 (hL 10 0 0 (by decide) rfl) rfl (by decide) rfl rfl (Nat.le_of_ble_eq_true rfl) dL_law_605 ?_
        refine u_aload_n (pc := 608) F dL_law_608 2 rfl rfl ?_
        refine u_aload_n (pc := 609) F dL_law_609 0 rfl rfl ?_
        refine u_iload_n (pc := 610) F dL_law_610 3 rfl rfl ?_
        refine u_iconst (v := 1) (pc := 611) F dL_law_611 (by decide) ?_
        refine u_iadd (pc := 612) F dL_law_612 ?_
        obtain ⟨b136, h⟩ := d_ab_some h
        refine u_sld (pc := 613) F X dL_law_613 b136 ?_
        obtain ⟨q137, hq137, h⟩ := d_bd_some h
        refine u_calli (pc := 614) F (As := [.int (xs (x3 + (1 : Int32)).toNatClampNeg)]) (c_X11_fill G hM (xs (x3 + (1 : Int32)).toNatClampNeg) q135.2 (q135.2 11 0) (rfl) q137.1 q137.2 hq137) yv_X11_fill ml_L_80 (hM 11 0 0 (by decide) rfl) rfl (by decide) rfl rfl (Nat.le_of_ble_eq_true rfl) dL_law_614 ?_
        obtain ⟨m138, hm138, h⟩ := d_lt_some h
        refine u_mem hm138 ?_
        refine u_icmp_eq (pc := 617) F 1099 dL_law_617 (by decide) (fun c139 => ?_) (fun c139 => ?_)
        · rw [if_pos c139] at h
          obtain ⟨v140, hv140, h⟩ := d_lt_some h
          refine u_iinc (lv' := [(3, .int v140), (0, .ref b), (1, .ref (adr G (10, 0, 0))), (2, .ref (adr G (11, 0, 0)))]) (pc := 1099) F dL_law_1099 3 rfl hv140.symm hY (by decide) rfl ?_
          refine u_goto (pc := 1102) F 18 dL_law_1102 (by decide) ?_
          refine u_lv (lv' := [(0, .ref b), (1, .ref (adr G (10, 0, 0))), (2, .ref (adr G (11, 0, 0))), (3, .int v140)]) [1, 2, 3, 0] rfl ?_
          exact ih m138 v140 h
        · rw [if_neg c139] at h
          refine u_iconst (v := 0) (pc := 620) F dL_law_620 (by decide) ?_
          have h1 := Option.some.inj h
          obtain ⟨hj0, hr0⟩ := Prod.mk.inj h1
          subst hj0
          subst hr0
          exact hR _ _ rfl dL_law_621
      rw [if_neg e133] at h
      by_cases e141 : v3 = (16 : Int32)
      · rw [if_pos e141] at h
        refine u_table (pc := 32) F dL_law_32 (off := 590) 622 (by rw [e141]; decide) (by rw [e141]; decide) (by rw [e141]; rfl) (by decide) ?_
        refine u_aload_n (pc := 622) F dL_law_622 1 rfl rfl ?_
        refine u_aload_n (pc := 623) F dL_law_623 0 rfl rfl ?_
        refine u_iload_n (pc := 624) F dL_law_624 3 rfl rfl ?_
        refine u_iconst (v := 1) (pc := 625) F dL_law_625 (by decide) ?_
        refine u_iadd (pc := 626) F dL_law_626 ?_
        obtain ⟨b142, h⟩ := d_ab_some h
        refine u_sld (pc := 627) F X dL_law_627 b142 ?_
        obtain ⟨q143, hq143, h⟩ := d_bd_some h
        refine u_calli (pc := 628) F (As := [.int (xs (x3 + (1 : Int32)).toNatClampNeg)]) (c_X10_drift G hL (xs (x3 + (1 : Int32)).toNatClampNeg) σ q143.1 q143.2 hq143) yv_X10_drift ml_L_81 (hL 10 0 0 (by decide) rfl) rfl (by decide) rfl rfl (Nat.le_of_ble_eq_true rfl) dL_law_628 ?_
        refine u_aload_n (pc := 631) F dL_law_631 2 rfl rfl ?_
        refine u_aload_n (pc := 632) F dL_law_632 0 rfl rfl ?_
        refine u_iload_n (pc := 633) F dL_law_633 3 rfl rfl ?_
        refine u_iconst (v := 1) (pc := 634) F dL_law_634 (by decide) ?_
        refine u_iadd (pc := 635) F dL_law_635 ?_
        obtain ⟨b144, h⟩ := d_ab_some h
        refine u_sld (pc := 636) F X dL_law_636 b144 ?_
        obtain ⟨q145, hq145, h⟩ := d_bd_some h
        refine u_calli (pc := 637) F (As := [.int (xs (x3 + (1 : Int32)).toNatClampNeg)]) (c_X11_drift G hM (xs (x3 + (1 : Int32)).toNatClampNeg) q143.2 (q143.2 11 0) (rfl) q145.1 q145.2 hq145) yv_X11_drift ml_L_84 (hM 11 0 0 (by decide) rfl) rfl (by decide) rfl rfl (Nat.le_of_ble_eq_true rfl) dL_law_637 ?_
        obtain ⟨m146, hm146, h⟩ := d_lt_some h
        refine u_mem hm146 ?_
        refine u_icmp_eq (pc := 640) F 1099 dL_law_640 (by decide) (fun c147 => ?_) (fun c147 => ?_)
        · rw [if_pos c147] at h
          obtain ⟨v148, hv148, h⟩ := d_lt_some h
          refine u_iinc (lv' := [(3, .int v148), (0, .ref b), (1, .ref (adr G (10, 0, 0))), (2, .ref (adr G (11, 0, 0)))]) (pc := 1099) F dL_law_1099 3 rfl hv148.symm hY (by decide) rfl ?_
          refine u_goto (pc := 1102) F 18 dL_law_1102 (by decide) ?_
          refine u_lv (lv' := [(0, .ref b), (1, .ref (adr G (10, 0, 0))), (2, .ref (adr G (11, 0, 0))), (3, .int v148)]) [1, 2, 3, 0] rfl ?_
          exact ih m146 v148 h
        · rw [if_neg c147] at h
          refine u_iconst (v := 0) (pc := 643) F dL_law_643 (by decide) ?_
          have h1 := Option.some.inj h
          obtain ⟨hj0, hr0⟩ := Prod.mk.inj h1
          subst hj0
          subst hr0
          exact hR _ _ rfl dL_law_644
      rw [if_neg e141] at h
      by_cases e149 : v3 = (17 : Int32)
      · rw [if_pos e149] at h
        refine u_table (pc := 32) F dL_law_32 (off := 613) 645 (by rw [e149]; decide) (by rw [e149]; decide) (by rw [e149]; rfl) (by decide) ?_
        refine u_aload_n (pc := 645) F dL_law_645 1 rfl rfl ?_
        obtain ⟨q150, hq150, h⟩ := d_bd_some h
        refine u_calli (pc := 646) F (As := []) (c_X10_undo G hL σ q150.1 q150.2 hq150) yv_X10_undo ml_L_85 (hL 10 0 0 (by decide) rfl) rfl (by decide) rfl rfl (Nat.le_of_ble_eq_true rfl) dL_law_646 ?_
        refine u_aload_n (pc := 649) F dL_law_649 2 rfl rfl ?_
        obtain ⟨q151, hq151, h⟩ := d_bd_some h
        refine u_calli (pc := 650) F (As := []) (c_X11_undo G hM q150.2 (q150.2 11 0) (rfl) q151.1 q151.2 hq151) yv_X11_undo ml_L_88 (hM 11 0 0 (by decide) rfl) rfl (by decide) rfl rfl (Nat.le_of_ble_eq_true rfl) dL_law_650 ?_
        obtain ⟨m152, hm152, h⟩ := d_lt_some h
        refine u_mem hm152 ?_
        refine u_icmp_eq (pc := 653) F 1099 dL_law_653 (by decide) (fun c153 => ?_) (fun c153 => ?_)
        · rw [if_pos c153] at h
          obtain ⟨v154, hv154, h⟩ := d_lt_some h
          refine u_iinc (lv' := [(3, .int v154), (0, .ref b), (1, .ref (adr G (10, 0, 0))), (2, .ref (adr G (11, 0, 0)))]) (pc := 1099) F dL_law_1099 3 rfl hv154.symm hY (by decide) rfl ?_
          refine u_goto (pc := 1102) F 18 dL_law_1102 (by decide) ?_
          refine u_lv (lv' := [(0, .ref b), (1, .ref (adr G (10, 0, 0))), (2, .ref (adr G (11, 0, 0))), (3, .int v154)]) [1, 2, 3, 0] rfl ?_
          exact ih m152 v154 h
        · rw [if_neg c153] at h
          refine u_iconst (v := 0) (pc := 656) F dL_law_656 (by decide) ?_
          have h1 := Option.some.inj h
          obtain ⟨hj0, hr0⟩ := Prod.mk.inj h1
          subst hj0
          subst hr0
          exact hR _ _ rfl dL_law_657
      rw [if_neg e149] at h
      by_cases e155 : v3 = (18 : Int32)
      · rw [if_pos e155] at h
        refine u_table (pc := 32) F dL_law_32 (off := 626) 658 (by rw [e155]; decide) (by rw [e155]; decide) (by rw [e155]; rfl) (by decide) ?_
        refine u_aload_n (pc := 658) F dL_law_658 1 rfl rfl ?_
        refine u_aload_n (pc := 659) F dL_law_659 0 rfl rfl ?_
        refine u_iload_n (pc := 660) F dL_law_660 3 rfl rfl ?_
        refine u_iconst (v := 1) (pc := 661) F dL_law_661 (by decide) ?_
        refine u_iadd (pc := 662) F dL_law_662 ?_
        obtain ⟨b156, h⟩ := d_ab_some h
        refine u_sld (pc := 663) F X dL_law_663 b156 ?_
        refine u_aload_n (pc := 664) F dL_law_664 0 rfl rfl ?_
        refine u_iload_n (pc := 665) F dL_law_665 3 rfl rfl ?_
        refine u_iconst (v := 2) (pc := 666) F dL_law_666 (by decide) ?_
        refine u_iadd (pc := 667) F dL_law_667 ?_
        obtain ⟨b157, h⟩ := d_ab_some h
        refine u_sld (pc := 668) F X dL_law_668 b157 ?_
        obtain ⟨q158, hq158, h⟩ := d_bd_some h
        refine u_calli (pc := 669) F (As := [.int (xs (x3 + (1 : Int32)).toNatClampNeg), .int (xs (x3 + (2 : Int32)).toNatClampNeg)]) (c_X10_wouldOpen G hL (xs (x3 + (1 : Int32)).toNatClampNeg) (xs (x3 + (2 : Int32)).toNatClampNeg) σ q158.1 q158.2 hq158) yv_X10_wouldOpen ml_L_89 (hL 10 0 0 (by decide) rfl) rfl (by decide) rfl rfl (Nat.le_of_ble_eq_true rfl) dL_law_669 ?_
        refine u_aload_n (pc := 672) F dL_law_672 2 rfl rfl ?_
        refine u_aload_n (pc := 673) F dL_law_673 0 rfl rfl ?_
        refine u_iload_n (pc := 674) F dL_law_674 3 rfl rfl ?_
        refine u_iconst (v := 1) (pc := 675) F dL_law_675 (by decide) ?_
        refine u_iadd (pc := 676) F dL_law_676 ?_
        obtain ⟨b159, h⟩ := d_ab_some h
        refine u_sld (pc := 677) F X dL_law_677 b159 ?_
        refine u_aload_n (pc := 678) F dL_law_678 0 rfl rfl ?_
        refine u_iload_n (pc := 679) F dL_law_679 3 rfl rfl ?_
        refine u_iconst (v := 2) (pc := 680) F dL_law_680 (by decide) ?_
        refine u_iadd (pc := 681) F dL_law_681 ?_
        obtain ⟨b160, h⟩ := d_ab_some h
        refine u_sld (pc := 682) F X dL_law_682 b160 ?_
        obtain ⟨q161, hq161, h⟩ := d_bd_some h
        refine u_calli (pc := 683) F (As := [.int (xs (x3 + (1 : Int32)).toNatClampNeg), .int (xs (x3 + (2 : Int32)).toNatClampNeg)]) (c_X11_wouldOpen G hM (xs (x3 + (1 : Int32)).toNatClampNeg) (xs (x3 + (2 : Int32)).toNatClampNeg) q158.2 (q158.2 11 0) (rfl) q161.1 q161.2 hq161) yv_X11_wouldOpen ml_L_92 (hM 11 0 0 (by decide) rfl) rfl (by decide) rfl rfl (Nat.le_of_ble_eq_true rfl) dL_law_683 ?_
        obtain ⟨m162, hm162, h⟩ := d_lt_some h
        refine u_mem hm162 ?_
        refine u_icmp_eq (pc := 686) F 1099 dL_law_686 (by decide) (fun c163 => ?_) (fun c163 => ?_)
        · rw [if_pos c163] at h
          obtain ⟨v164, hv164, h⟩ := d_lt_some h
          refine u_iinc (lv' := [(3, .int v164), (0, .ref b), (1, .ref (adr G (10, 0, 0))), (2, .ref (adr G (11, 0, 0)))]) (pc := 1099) F dL_law_1099 3 rfl hv164.symm hY (by decide) rfl ?_
          refine u_goto (pc := 1102) F 18 dL_law_1102 (by decide) ?_
          refine u_lv (lv' := [(0, .ref b), (1, .ref (adr G (10, 0, 0))), (2, .ref (adr G (11, 0, 0))), (3, .int v164)]) [1, 2, 3, 0] rfl ?_
          exact ih m162 v164 h
        · rw [if_neg c163] at h
          refine u_iconst (v := 0) (pc := 689) F dL_law_689 (by decide) ?_
          have h1 := Option.some.inj h
          obtain ⟨hj0, hr0⟩ := Prod.mk.inj h1
          subst hj0
          subst hr0
          exact hR _ _ rfl dL_law_690
      rw [if_neg e155] at h
      by_cases e165 : v3 = (19 : Int32)
      · rw [if_pos e165] at h
        refine u_table (pc := 32) F dL_law_32 (off := 659) 691 (by rw [e165]; decide) (by rw [e165]; decide) (by rw [e165]; rfl) (by decide) ?_
        refine u_aload_n (pc := 691) F dL_law_691 1 rfl rfl ?_
        refine u_aload_n (pc := 692) F dL_law_692 0 rfl rfl ?_
        refine u_iload_n (pc := 693) F dL_law_693 3 rfl rfl ?_
        refine u_iconst (v := 1) (pc := 694) F dL_law_694 (by decide) ?_
        refine u_iadd (pc := 695) F dL_law_695 ?_
        obtain ⟨b166, h⟩ := d_ab_some h
        refine u_sld (pc := 696) F X dL_law_696 b166 ?_
        refine u_aload_n (pc := 697) F dL_law_697 0 rfl rfl ?_
        refine u_iload_n (pc := 698) F dL_law_698 3 rfl rfl ?_
        refine u_iconst (v := 2) (pc := 699) F dL_law_699 (by decide) ?_
        refine u_iadd (pc := 700) F dL_law_700 ?_
        obtain ⟨b167, h⟩ := d_ab_some h
        refine u_sld (pc := 701) F X dL_law_701 b167 ?_
        obtain ⟨q168, hq168, h⟩ := d_bd_some h
        refine u_calli (pc := 702) F (As := [.int (xs (x3 + (1 : Int32)).toNatClampNeg), .int (xs (x3 + (2 : Int32)).toNatClampNeg)]) (c_X10_ahead G hL (xs (x3 + (1 : Int32)).toNatClampNeg) (xs (x3 + (2 : Int32)).toNatClampNeg) σ q168 hq168) yv_X10_ahead ml_L_93 (hL 10 0 0 (by decide) rfl) rfl (by decide) rfl rfl (Nat.le_of_ble_eq_true rfl) dL_law_702 ?_
        refine u_aload_n (pc := 705) F dL_law_705 2 rfl rfl ?_
        refine u_aload_n (pc := 706) F dL_law_706 0 rfl rfl ?_
        refine u_iload_n (pc := 707) F dL_law_707 3 rfl rfl ?_
        refine u_iconst (v := 1) (pc := 708) F dL_law_708 (by decide) ?_
        refine u_iadd (pc := 709) F dL_law_709 ?_
        obtain ⟨b169, h⟩ := d_ab_some h
        refine u_sld (pc := 710) F X dL_law_710 b169 ?_
        refine u_aload_n (pc := 711) F dL_law_711 0 rfl rfl ?_
        refine u_iload_n (pc := 712) F dL_law_712 3 rfl rfl ?_
        refine u_iconst (v := 2) (pc := 713) F dL_law_713 (by decide) ?_
        refine u_iadd (pc := 714) F dL_law_714 ?_
        obtain ⟨b170, h⟩ := d_ab_some h
        refine u_sld (pc := 715) F X dL_law_715 b170 ?_
        obtain ⟨q171, hq171, h⟩ := d_bd_some h
        refine u_calli (pc := 716) F (As := [.int (xs (x3 + (1 : Int32)).toNatClampNeg), .int (xs (x3 + (2 : Int32)).toNatClampNeg)]) (c_X11_ahead G hM (xs (x3 + (1 : Int32)).toNatClampNeg) (xs (x3 + (2 : Int32)).toNatClampNeg) σ (σ 11 0) (rfl) q171 hq171) yv_X11_ahead ml_L_96 (hM 11 0 0 (by decide) rfl) rfl (by decide) rfl rfl (Nat.le_of_ble_eq_true rfl) dL_law_716 ?_
        refine u_icmp_eq (pc := 719) F 1099 dL_law_719 (by decide) (fun c172 => ?_) (fun c172 => ?_)
        · rw [if_pos c172] at h
          obtain ⟨v173, hv173, h⟩ := d_lt_some h
          refine u_iinc (lv' := [(3, .int v173), (0, .ref b), (1, .ref (adr G (10, 0, 0))), (2, .ref (adr G (11, 0, 0)))]) (pc := 1099) F dL_law_1099 3 rfl hv173.symm hY (by decide) rfl ?_
          refine u_goto (pc := 1102) F 18 dL_law_1102 (by decide) ?_
          refine u_lv (lv' := [(0, .ref b), (1, .ref (adr G (10, 0, 0))), (2, .ref (adr G (11, 0, 0))), (3, .int v173)]) [1, 2, 3, 0] rfl ?_
          exact ih σ v173 h
        · rw [if_neg c172] at h
          refine u_iconst (v := 0) (pc := 722) F dL_law_722 (by decide) ?_
          have h1 := Option.some.inj h
          obtain ⟨hj0, hr0⟩ := Prod.mk.inj h1
          subst hj0
          subst hr0
          exact hR _ _ rfl dL_law_723
      rw [if_neg e165] at h
      by_cases e174 : v3 = (20 : Int32)
      · rw [if_pos e174] at h
        refine u_table (pc := 32) F dL_law_32 (off := 692) 724 (by rw [e174]; decide) (by rw [e174]; decide) (by rw [e174]; rfl) (by decide) ?_
        refine u_aload_n (pc := 724) F dL_law_724 1 rfl rfl ?_
        refine u_aload_n (pc := 725) F dL_law_725 0 rfl rfl ?_
        refine u_iload_n (pc := 726) F dL_law_726 3 rfl rfl ?_
        refine u_iconst (v := 1) (pc := 727) F dL_law_727 (by decide) ?_
        refine u_iadd (pc := 728) F dL_law_728 ?_
        obtain ⟨b175, h⟩ := d_ab_some h
        refine u_sld (pc := 729) F X dL_law_729 b175 ?_
        refine u_aload_n (pc := 730) F dL_law_730 0 rfl rfl ?_
        refine u_iload_n (pc := 731) F dL_law_731 3 rfl rfl ?_
        refine u_iconst (v := 2) (pc := 732) F dL_law_732 (by decide) ?_
        refine u_iadd (pc := 733) F dL_law_733 ?_
        obtain ⟨b176, h⟩ := d_ab_some h
        refine u_sld (pc := 734) F X dL_law_734 b176 ?_
        obtain ⟨q177, hq177, h⟩ := d_bd_some h
        refine u_calli (pc := 735) F (As := [.int (xs (x3 + (1 : Int32)).toNatClampNeg), .int (xs (x3 + (2 : Int32)).toNatClampNeg)]) (c_X10_locked G hL (xs (x3 + (1 : Int32)).toNatClampNeg) (xs (x3 + (2 : Int32)).toNatClampNeg) σ q177.1 q177.2 hq177) yv_X10_locked ml_L_97 (hL 10 0 0 (by decide) rfl) rfl (by decide) rfl rfl (Nat.le_of_ble_eq_true rfl) dL_law_735 ?_
        refine u_aload_n (pc := 738) F dL_law_738 2 rfl rfl ?_
        refine u_aload_n (pc := 739) F dL_law_739 0 rfl rfl ?_
        refine u_iload_n (pc := 740) F dL_law_740 3 rfl rfl ?_
        refine u_iconst (v := 1) (pc := 741) F dL_law_741 (by decide) ?_
        refine u_iadd (pc := 742) F dL_law_742 ?_
        obtain ⟨b178, h⟩ := d_ab_some h
        refine u_sld (pc := 743) F X dL_law_743 b178 ?_
        refine u_aload_n (pc := 744) F dL_law_744 0 rfl rfl ?_
        refine u_iload_n (pc := 745) F dL_law_745 3 rfl rfl ?_
        refine u_iconst (v := 2) (pc := 746) F dL_law_746 (by decide) ?_
        refine u_iadd (pc := 747) F dL_law_747 ?_
        obtain ⟨b179, h⟩ := d_ab_some h
        refine u_sld (pc := 748) F X dL_law_748 b179 ?_
        obtain ⟨q180, hq180, h⟩ := d_bd_some h
        refine u_calli (pc := 749) F (As := [.int (xs (x3 + (1 : Int32)).toNatClampNeg), .int (xs (x3 + (2 : Int32)).toNatClampNeg)]) (c_X11_locked G hM (xs (x3 + (1 : Int32)).toNatClampNeg) (xs (x3 + (2 : Int32)).toNatClampNeg) q177.2 (q177.2 11 0) (rfl) q180.1 q180.2 hq180) yv_X11_locked ml_L_100 (hM 11 0 0 (by decide) rfl) rfl (by decide) rfl rfl (Nat.le_of_ble_eq_true rfl) dL_law_749 ?_
        obtain ⟨m181, hm181, h⟩ := d_lt_some h
        refine u_mem hm181 ?_
        refine u_icmp_eq (pc := 752) F 1099 dL_law_752 (by decide) (fun c182 => ?_) (fun c182 => ?_)
        · rw [if_pos c182] at h
          obtain ⟨v183, hv183, h⟩ := d_lt_some h
          refine u_iinc (lv' := [(3, .int v183), (0, .ref b), (1, .ref (adr G (10, 0, 0))), (2, .ref (adr G (11, 0, 0)))]) (pc := 1099) F dL_law_1099 3 rfl hv183.symm hY (by decide) rfl ?_
          refine u_goto (pc := 1102) F 18 dL_law_1102 (by decide) ?_
          refine u_lv (lv' := [(0, .ref b), (1, .ref (adr G (10, 0, 0))), (2, .ref (adr G (11, 0, 0))), (3, .int v183)]) [1, 2, 3, 0] rfl ?_
          exact ih m181 v183 h
        · rw [if_neg c182] at h
          refine u_iconst (v := 0) (pc := 755) F dL_law_755 (by decide) ?_
          have h1 := Option.some.inj h
          obtain ⟨hj0, hr0⟩ := Prod.mk.inj h1
          subst hj0
          subst hr0
          exact hR _ _ rfl dL_law_756
      rw [if_neg e174] at h
      by_cases e184 : v3 = (21 : Int32)
      · rw [if_pos e184] at h
        refine u_table (pc := 32) F dL_law_32 (off := 725) 757 (by rw [e184]; decide) (by rw [e184]; decide) (by rw [e184]; rfl) (by decide) ?_
        refine u_aload_n (pc := 757) F dL_law_757 1 rfl rfl ?_
        refine u_aload_n (pc := 758) F dL_law_758 0 rfl rfl ?_
        refine u_iload_n (pc := 759) F dL_law_759 3 rfl rfl ?_
        refine u_iconst (v := 1) (pc := 760) F dL_law_760 (by decide) ?_
        refine u_iadd (pc := 761) F dL_law_761 ?_
        obtain ⟨b185, h⟩ := d_ab_some h
        refine u_sld (pc := 762) F X dL_law_762 b185 ?_
        refine u_aload_n (pc := 763) F dL_law_763 0 rfl rfl ?_
        refine u_iload_n (pc := 764) F dL_law_764 3 rfl rfl ?_
        refine u_iconst (v := 2) (pc := 765) F dL_law_765 (by decide) ?_
        refine u_iadd (pc := 766) F dL_law_766 ?_
        obtain ⟨b186, h⟩ := d_ab_some h
        refine u_sld (pc := 767) F X dL_law_767 b186 ?_
        obtain ⟨q187, hq187, h⟩ := d_bd_some h
        refine u_calli (pc := 768) F (As := [.int (xs (x3 + (1 : Int32)).toNatClampNeg), .int (xs (x3 + (2 : Int32)).toNatClampNeg)]) (c_X10_takes G hL (xs (x3 + (1 : Int32)).toNatClampNeg) (xs (x3 + (2 : Int32)).toNatClampNeg) σ q187.1 q187.2 hq187) yv_X10_takes ml_L_101 (hL 10 0 0 (by decide) rfl) rfl (by decide) rfl rfl (Nat.le_of_ble_eq_true rfl) dL_law_768 ?_
        refine u_aload_n (pc := 771) F dL_law_771 2 rfl rfl ?_
        refine u_aload_n (pc := 772) F dL_law_772 0 rfl rfl ?_
        refine u_iload_n (pc := 773) F dL_law_773 3 rfl rfl ?_
        refine u_iconst (v := 1) (pc := 774) F dL_law_774 (by decide) ?_
        refine u_iadd (pc := 775) F dL_law_775 ?_
        obtain ⟨b188, h⟩ := d_ab_some h
        refine u_sld (pc := 776) F X dL_law_776 b188 ?_
        refine u_aload_n (pc := 777) F dL_law_777 0 rfl rfl ?_
        refine u_iload_n (pc := 778) F dL_law_778 3 rfl rfl ?_
        refine u_iconst (v := 2) (pc := 779) F dL_law_779 (by decide) ?_
        refine u_iadd (pc := 780) F dL_law_780 ?_
        obtain ⟨b189, h⟩ := d_ab_some h
        refine u_sld (pc := 781) F X dL_law_781 b189 ?_
        obtain ⟨q190, hq190, h⟩ := d_bd_some h
        refine u_calli (pc := 782) F (As := [.int (xs (x3 + (1 : Int32)).toNatClampNeg), .int (xs (x3 + (2 : Int32)).toNatClampNeg)]) (c_X11_takes G hM (xs (x3 + (1 : Int32)).toNatClampNeg) (xs (x3 + (2 : Int32)).toNatClampNeg) q187.2 (q187.2 11 0) (rfl) q190.1 q190.2 hq190) yv_X11_takes ml_L_104 (hM 11 0 0 (by decide) rfl) rfl (by decide) rfl rfl (Nat.le_of_ble_eq_true rfl) dL_law_782 ?_
        obtain ⟨m191, hm191, h⟩ := d_lt_some h
        refine u_mem hm191 ?_
        refine u_icmp_eq (pc := 785) F 1099 dL_law_785 (by decide) (fun c192 => ?_) (fun c192 => ?_)
        · rw [if_pos c192] at h
          obtain ⟨v193, hv193, h⟩ := d_lt_some h
          refine u_iinc (lv' := [(3, .int v193), (0, .ref b), (1, .ref (adr G (10, 0, 0))), (2, .ref (adr G (11, 0, 0)))]) (pc := 1099) F dL_law_1099 3 rfl hv193.symm hY (by decide) rfl ?_
          refine u_goto (pc := 1102) F 18 dL_law_1102 (by decide) ?_
          refine u_lv (lv' := [(0, .ref b), (1, .ref (adr G (10, 0, 0))), (2, .ref (adr G (11, 0, 0))), (3, .int v193)]) [1, 2, 3, 0] rfl ?_
          exact ih m191 v193 h
        · rw [if_neg c192] at h
          refine u_iconst (v := 0) (pc := 788) F dL_law_788 (by decide) ?_
          have h1 := Option.some.inj h
          obtain ⟨hj0, hr0⟩ := Prod.mk.inj h1
          subst hj0
          subst hr0
          exact hR _ _ rfl dL_law_789
      rw [if_neg e184] at h
      by_cases e194 : v3 = (22 : Int32)
      · rw [if_pos e194] at h
        refine u_table (pc := 32) F dL_law_32 (off := 758) 790 (by rw [e194]; decide) (by rw [e194]; decide) (by rw [e194]; rfl) (by decide) ?_
        refine u_aload_n (pc := 790) F dL_law_790 1 rfl rfl ?_
        refine u_aload_n (pc := 791) F dL_law_791 0 rfl rfl ?_
        refine u_iload_n (pc := 792) F dL_law_792 3 rfl rfl ?_
        refine u_iconst (v := 1) (pc := 793) F dL_law_793 (by decide) ?_
        refine u_iadd (pc := 794) F dL_law_794 ?_
        obtain ⟨b195, h⟩ := d_ab_some h
        refine u_sld (pc := 795) F X dL_law_795 b195 ?_
        obtain ⟨q196, hq196, h⟩ := d_bd_some h
        refine u_calli (pc := 796) F (As := [.int (xs (x3 + (1 : Int32)).toNatClampNeg)]) (c_X10_row G hL (xs (x3 + (1 : Int32)).toNatClampNeg) σ q196.1 q196.2 hq196) yv_X10_row ml_L_105 (hL 10 0 0 (by decide) rfl) rfl (by decide) rfl rfl (Nat.le_of_ble_eq_true rfl) dL_law_796 ?_
        refine u_aload_n (pc := 799) F dL_law_799 2 rfl rfl ?_
        refine u_aload_n (pc := 800) F dL_law_800 0 rfl rfl ?_
        refine u_iload_n (pc := 801) F dL_law_801 3 rfl rfl ?_
        refine u_iconst (v := 1) (pc := 802) F dL_law_802 (by decide) ?_
        refine u_iadd (pc := 803) F dL_law_803 ?_
        obtain ⟨b197, h⟩ := d_ab_some h
        refine u_sld (pc := 804) F X dL_law_804 b197 ?_
        obtain ⟨q198, hq198, h⟩ := d_bd_some h
        refine u_calli (pc := 805) F (As := [.int (xs (x3 + (1 : Int32)).toNatClampNeg)]) (c_X11_row G hM (xs (x3 + (1 : Int32)).toNatClampNeg) q196.2 (q196.2 11 0) (rfl) q198.1 q198.2 hq198) yv_X11_row ml_L_108 (hM 11 0 0 (by decide) rfl) rfl (by decide) rfl rfl (Nat.le_of_ble_eq_true rfl) dL_law_805 ?_
        obtain ⟨m199, hm199, h⟩ := d_lt_some h
        refine u_mem hm199 ?_
        refine u_icmp_eq (pc := 808) F 1099 dL_law_808 (by decide) (fun c200 => ?_) (fun c200 => ?_)
        · rw [if_pos c200] at h
          obtain ⟨v201, hv201, h⟩ := d_lt_some h
          refine u_iinc (lv' := [(3, .int v201), (0, .ref b), (1, .ref (adr G (10, 0, 0))), (2, .ref (adr G (11, 0, 0)))]) (pc := 1099) F dL_law_1099 3 rfl hv201.symm hY (by decide) rfl ?_
          refine u_goto (pc := 1102) F 18 dL_law_1102 (by decide) ?_
          refine u_lv (lv' := [(0, .ref b), (1, .ref (adr G (10, 0, 0))), (2, .ref (adr G (11, 0, 0))), (3, .int v201)]) [1, 2, 3, 0] rfl ?_
          exact ih m199 v201 h
        · rw [if_neg c200] at h
          refine u_iconst (v := 0) (pc := 811) F dL_law_811 (by decide) ?_
          have h1 := Option.some.inj h
          obtain ⟨hj0, hr0⟩ := Prod.mk.inj h1
          subst hj0
          subst hr0
          exact hR _ _ rfl dL_law_812
      rw [if_neg e194] at h
      by_cases e202 : v3 = (23 : Int32)
      · rw [if_pos e202] at h
        refine u_table (pc := 32) F dL_law_32 (off := 781) 813 (by rw [e202]; decide) (by rw [e202]; decide) (by rw [e202]; rfl) (by decide) ?_
        refine u_aload_n (pc := 813) F dL_law_813 1 rfl rfl ?_
        refine u_aload_n (pc := 814) F dL_law_814 0 rfl rfl ?_
        refine u_iload_n (pc := 815) F dL_law_815 3 rfl rfl ?_
        refine u_iconst (v := 1) (pc := 816) F dL_law_816 (by decide) ?_
        refine u_iadd (pc := 817) F dL_law_817 ?_
        obtain ⟨b203, h⟩ := d_ab_some h
        refine u_sld (pc := 818) F X dL_law_818 b203 ?_
        obtain ⟨q204, hq204, h⟩ := d_bd_some h
        refine u_calli (pc := 819) F (As := [.int (xs (x3 + (1 : Int32)).toNatClampNeg)]) (c_X10_who G hL (xs (x3 + (1 : Int32)).toNatClampNeg) σ q204 hq204) yv_X10_who ml_L_109 (hL 10 0 0 (by decide) rfl) rfl (by decide) rfl rfl (Nat.le_of_ble_eq_true rfl) dL_law_819 ?_
        refine u_aload_n (pc := 822) F dL_law_822 2 rfl rfl ?_
        refine u_aload_n (pc := 823) F dL_law_823 0 rfl rfl ?_
        refine u_iload_n (pc := 824) F dL_law_824 3 rfl rfl ?_
        refine u_iconst (v := 1) (pc := 825) F dL_law_825 (by decide) ?_
        refine u_iadd (pc := 826) F dL_law_826 ?_
        obtain ⟨b205, h⟩ := d_ab_some h
        refine u_sld (pc := 827) F X dL_law_827 b205 ?_
        obtain ⟨q206, hq206, h⟩ := d_bd_some h
        refine u_calli (pc := 828) F (As := [.int (xs (x3 + (1 : Int32)).toNatClampNeg)]) (c_X11_who G hM (xs (x3 + (1 : Int32)).toNatClampNeg) σ (σ 11 0) (rfl) q206 hq206) yv_X11_who ml_L_112 (hM 11 0 0 (by decide) rfl) rfl (by decide) rfl rfl (Nat.le_of_ble_eq_true rfl) dL_law_828 ?_
        refine u_icmp_eq (pc := 831) F 1099 dL_law_831 (by decide) (fun c207 => ?_) (fun c207 => ?_)
        · rw [if_pos c207] at h
          obtain ⟨v208, hv208, h⟩ := d_lt_some h
          refine u_iinc (lv' := [(3, .int v208), (0, .ref b), (1, .ref (adr G (10, 0, 0))), (2, .ref (adr G (11, 0, 0)))]) (pc := 1099) F dL_law_1099 3 rfl hv208.symm hY (by decide) rfl ?_
          refine u_goto (pc := 1102) F 18 dL_law_1102 (by decide) ?_
          refine u_lv (lv' := [(0, .ref b), (1, .ref (adr G (10, 0, 0))), (2, .ref (adr G (11, 0, 0))), (3, .int v208)]) [1, 2, 3, 0] rfl ?_
          exact ih σ v208 h
        · rw [if_neg c207] at h
          refine u_iconst (v := 0) (pc := 834) F dL_law_834 (by decide) ?_
          have h1 := Option.some.inj h
          obtain ⟨hj0, hr0⟩ := Prod.mk.inj h1
          subst hj0
          subst hr0
          exact hR _ _ rfl dL_law_835
      rw [if_neg e202] at h
      by_cases e209 : v3 = (24 : Int32)
      · rw [if_pos e209] at h
        refine u_table (pc := 32) F dL_law_32 (off := 804) 836 (by rw [e209]; decide) (by rw [e209]; decide) (by rw [e209]; rfl) (by decide) ?_
        refine u_aload_n (pc := 836) F dL_law_836 1 rfl rfl ?_
        refine u_aload_n (pc := 837) F dL_law_837 0 rfl rfl ?_
        refine u_iload_n (pc := 838) F dL_law_838 3 rfl rfl ?_
        refine u_iconst (v := 1) (pc := 839) F dL_law_839 (by decide) ?_
        refine u_iadd (pc := 840) F dL_law_840 ?_
        obtain ⟨b210, h⟩ := d_ab_some h
        refine u_sld (pc := 841) F X dL_law_841 b210 ?_
        refine u_aload_n (pc := 842) F dL_law_842 0 rfl rfl ?_
        refine u_iload_n (pc := 843) F dL_law_843 3 rfl rfl ?_
        refine u_iconst (v := 2) (pc := 844) F dL_law_844 (by decide) ?_
        refine u_iadd (pc := 845) F dL_law_845 ?_
        obtain ⟨b211, h⟩ := d_ab_some h
        refine u_sld (pc := 846) F X dL_law_846 b211 ?_
        obtain ⟨q212, hq212, h⟩ := d_bd_some h
        refine u_calli (pc := 847) F (As := [.int (xs (x3 + (1 : Int32)).toNatClampNeg), .int (xs (x3 + (2 : Int32)).toNatClampNeg)]) (c_X10_same G hL (xs (x3 + (1 : Int32)).toNatClampNeg) (xs (x3 + (2 : Int32)).toNatClampNeg) σ q212 hq212) yv_X10_same ml_L_113 (hL 10 0 0 (by decide) rfl) rfl (by decide) rfl rfl (Nat.le_of_ble_eq_true rfl) dL_law_847 ?_
        refine u_aload_n (pc := 850) F dL_law_850 2 rfl rfl ?_
        refine u_aload_n (pc := 851) F dL_law_851 0 rfl rfl ?_
        refine u_iload_n (pc := 852) F dL_law_852 3 rfl rfl ?_
        refine u_iconst (v := 1) (pc := 853) F dL_law_853 (by decide) ?_
        refine u_iadd (pc := 854) F dL_law_854 ?_
        obtain ⟨b213, h⟩ := d_ab_some h
        refine u_sld (pc := 855) F X dL_law_855 b213 ?_
        refine u_aload_n (pc := 856) F dL_law_856 0 rfl rfl ?_
        refine u_iload_n (pc := 857) F dL_law_857 3 rfl rfl ?_
        refine u_iconst (v := 2) (pc := 858) F dL_law_858 (by decide) ?_
        refine u_iadd (pc := 859) F dL_law_859 ?_
        obtain ⟨b214, h⟩ := d_ab_some h
        refine u_sld (pc := 860) F X dL_law_860 b214 ?_
        obtain ⟨q215, hq215, h⟩ := d_bd_some h
        refine u_calli (pc := 861) F (As := [.int (xs (x3 + (1 : Int32)).toNatClampNeg), .int (xs (x3 + (2 : Int32)).toNatClampNeg)]) (c_X11_same G hM (xs (x3 + (1 : Int32)).toNatClampNeg) (xs (x3 + (2 : Int32)).toNatClampNeg) σ (σ 11 0) (rfl) q215 hq215) yv_X11_same ml_L_116 (hM 11 0 0 (by decide) rfl) rfl (by decide) rfl rfl (Nat.le_of_ble_eq_true rfl) dL_law_861 ?_
        refine u_icmp_eq (pc := 864) F 1099 dL_law_864 (by decide) (fun c216 => ?_) (fun c216 => ?_)
        · rw [if_pos c216] at h
          obtain ⟨v217, hv217, h⟩ := d_lt_some h
          refine u_iinc (lv' := [(3, .int v217), (0, .ref b), (1, .ref (adr G (10, 0, 0))), (2, .ref (adr G (11, 0, 0)))]) (pc := 1099) F dL_law_1099 3 rfl hv217.symm hY (by decide) rfl ?_
          refine u_goto (pc := 1102) F 18 dL_law_1102 (by decide) ?_
          refine u_lv (lv' := [(0, .ref b), (1, .ref (adr G (10, 0, 0))), (2, .ref (adr G (11, 0, 0))), (3, .int v217)]) [1, 2, 3, 0] rfl ?_
          exact ih σ v217 h
        · rw [if_neg c216] at h
          refine u_iconst (v := 0) (pc := 867) F dL_law_867 (by decide) ?_
          have h1 := Option.some.inj h
          obtain ⟨hj0, hr0⟩ := Prod.mk.inj h1
          subst hj0
          subst hr0
          exact hR _ _ rfl dL_law_868
      rw [if_neg e209] at h
      by_cases e218 : v3 = (25 : Int32)
      · rw [if_pos e218] at h
        refine u_table (pc := 32) F dL_law_32 (off := 837) 869 (by rw [e218]; decide) (by rw [e218]; decide) (by rw [e218]; rfl) (by decide) ?_
        refine u_aload_n (pc := 869) F dL_law_869 1 rfl rfl ?_
        refine u_aload_n (pc := 870) F dL_law_870 0 rfl rfl ?_
        refine u_iload_n (pc := 871) F dL_law_871 3 rfl rfl ?_
        refine u_iconst (v := 1) (pc := 872) F dL_law_872 (by decide) ?_
        refine u_iadd (pc := 873) F dL_law_873 ?_
        obtain ⟨b219, h⟩ := d_ab_some h
        refine u_sld (pc := 874) F X dL_law_874 b219 ?_
        refine u_aload_n (pc := 875) F dL_law_875 0 rfl rfl ?_
        refine u_iload_n (pc := 876) F dL_law_876 3 rfl rfl ?_
        refine u_iconst (v := 2) (pc := 877) F dL_law_877 (by decide) ?_
        refine u_iadd (pc := 878) F dL_law_878 ?_
        obtain ⟨b220, h⟩ := d_ab_some h
        refine u_sld (pc := 879) F X dL_law_879 b220 ?_
        obtain ⟨q221, hq221, h⟩ := d_bd_some h
        refine u_calli (pc := 880) F (As := [.int (xs (x3 + (1 : Int32)).toNatClampNeg), .int (xs (x3 + (2 : Int32)).toNatClampNeg)]) (c_X10_quiet G hL (xs (x3 + (1 : Int32)).toNatClampNeg) (xs (x3 + (2 : Int32)).toNatClampNeg) σ q221 hq221) yv_X10_quiet ml_L_117 (hL 10 0 0 (by decide) rfl) rfl (by decide) rfl rfl (Nat.le_of_ble_eq_true rfl) dL_law_880 ?_
        refine u_aload_n (pc := 883) F dL_law_883 2 rfl rfl ?_
        refine u_aload_n (pc := 884) F dL_law_884 0 rfl rfl ?_
        refine u_iload_n (pc := 885) F dL_law_885 3 rfl rfl ?_
        refine u_iconst (v := 1) (pc := 886) F dL_law_886 (by decide) ?_
        refine u_iadd (pc := 887) F dL_law_887 ?_
        obtain ⟨b222, h⟩ := d_ab_some h
        refine u_sld (pc := 888) F X dL_law_888 b222 ?_
        refine u_aload_n (pc := 889) F dL_law_889 0 rfl rfl ?_
        refine u_iload_n (pc := 890) F dL_law_890 3 rfl rfl ?_
        refine u_iconst (v := 2) (pc := 891) F dL_law_891 (by decide) ?_
        refine u_iadd (pc := 892) F dL_law_892 ?_
        obtain ⟨b223, h⟩ := d_ab_some h
        refine u_sld (pc := 893) F X dL_law_893 b223 ?_
        obtain ⟨q224, hq224, h⟩ := d_bd_some h
        refine u_calli (pc := 894) F (As := [.int (xs (x3 + (1 : Int32)).toNatClampNeg), .int (xs (x3 + (2 : Int32)).toNatClampNeg)]) (c_X11_quiet G hM (xs (x3 + (1 : Int32)).toNatClampNeg) (xs (x3 + (2 : Int32)).toNatClampNeg) σ q224 hq224) yv_X11_quiet ml_L_120 (hM 11 0 0 (by decide) rfl) rfl (by decide) rfl rfl (Nat.le_of_ble_eq_true rfl) dL_law_894 ?_
        refine u_icmp_eq (pc := 897) F 1099 dL_law_897 (by decide) (fun c225 => ?_) (fun c225 => ?_)
        · rw [if_pos c225] at h
          obtain ⟨v226, hv226, h⟩ := d_lt_some h
          refine u_iinc (lv' := [(3, .int v226), (0, .ref b), (1, .ref (adr G (10, 0, 0))), (2, .ref (adr G (11, 0, 0)))]) (pc := 1099) F dL_law_1099 3 rfl hv226.symm hY (by decide) rfl ?_
          refine u_goto (pc := 1102) F 18 dL_law_1102 (by decide) ?_
          refine u_lv (lv' := [(0, .ref b), (1, .ref (adr G (10, 0, 0))), (2, .ref (adr G (11, 0, 0))), (3, .int v226)]) [1, 2, 3, 0] rfl ?_
          exact ih σ v226 h
        · rw [if_neg c225] at h
          refine u_iconst (v := 0) (pc := 900) F dL_law_900 (by decide) ?_
          have h1 := Option.some.inj h
          obtain ⟨hj0, hr0⟩ := Prod.mk.inj h1
          subst hj0
          subst hr0
          exact hR _ _ rfl dL_law_901
      rw [if_neg e218] at h
      by_cases e227 : v3 = (26 : Int32)
      · rw [if_pos e227] at h
        refine u_table (pc := 32) F dL_law_32 (off := 870) 902 (by rw [e227]; decide) (by rw [e227]; decide) (by rw [e227]; rfl) (by decide) ?_
        refine u_aload_n (pc := 902) F dL_law_902 1 rfl rfl ?_
        refine u_aload_n (pc := 903) F dL_law_903 0 rfl rfl ?_
        refine u_iload_n (pc := 904) F dL_law_904 3 rfl rfl ?_
        refine u_iconst (v := 1) (pc := 905) F dL_law_905 (by decide) ?_
        refine u_iadd (pc := 906) F dL_law_906 ?_
        obtain ⟨b228, h⟩ := d_ab_some h
        refine u_sld (pc := 907) F X dL_law_907 b228 ?_
        refine u_aload_n (pc := 908) F dL_law_908 0 rfl rfl ?_
        refine u_iload_n (pc := 909) F dL_law_909 3 rfl rfl ?_
        refine u_iconst (v := 2) (pc := 910) F dL_law_910 (by decide) ?_
        refine u_iadd (pc := 911) F dL_law_911 ?_
        obtain ⟨b229, h⟩ := d_ab_some h
        refine u_sld (pc := 912) F X dL_law_912 b229 ?_
        obtain ⟨q230, hq230, h⟩ := d_bd_some h
        refine u_calli (pc := 913) F (As := [.int (xs (x3 + (1 : Int32)).toNatClampNeg), .int (xs (x3 + (2 : Int32)).toNatClampNeg)]) (c_X10_see G hL (xs (x3 + (1 : Int32)).toNatClampNeg) (xs (x3 + (2 : Int32)).toNatClampNeg) σ q230.1 q230.2 hq230) yv_X10_see ml_L_121 (hL 10 0 0 (by decide) rfl) rfl (by decide) rfl rfl (Nat.le_of_ble_eq_true rfl) dL_law_913 ?_
        refine u_aload_n (pc := 916) F dL_law_916 2 rfl rfl ?_
        refine u_aload_n (pc := 917) F dL_law_917 0 rfl rfl ?_
        refine u_iload_n (pc := 918) F dL_law_918 3 rfl rfl ?_
        refine u_iconst (v := 1) (pc := 919) F dL_law_919 (by decide) ?_
        refine u_iadd (pc := 920) F dL_law_920 ?_
        obtain ⟨b231, h⟩ := d_ab_some h
        refine u_sld (pc := 921) F X dL_law_921 b231 ?_
        refine u_aload_n (pc := 922) F dL_law_922 0 rfl rfl ?_
        refine u_iload_n (pc := 923) F dL_law_923 3 rfl rfl ?_
        refine u_iconst (v := 2) (pc := 924) F dL_law_924 (by decide) ?_
        refine u_iadd (pc := 925) F dL_law_925 ?_
        obtain ⟨b232, h⟩ := d_ab_some h
        refine u_sld (pc := 926) F X dL_law_926 b232 ?_
        obtain ⟨q233, hq233, h⟩ := d_bd_some h
        refine u_calli (pc := 927) F (As := [.int (xs (x3 + (1 : Int32)).toNatClampNeg), .int (xs (x3 + (2 : Int32)).toNatClampNeg)]) (c_X11_see G hM (xs (x3 + (1 : Int32)).toNatClampNeg) (xs (x3 + (2 : Int32)).toNatClampNeg) q230.2 (q230.2 11 0) (rfl) q233.1 q233.2 hq233) yv_X11_see ml_L_124 (hM 11 0 0 (by decide) rfl) rfl (by decide) rfl rfl (Nat.le_of_ble_eq_true rfl) dL_law_927 ?_
        obtain ⟨m234, hm234, h⟩ := d_lt_some h
        refine u_mem hm234 ?_
        refine u_icmp_eq (pc := 930) F 1099 dL_law_930 (by decide) (fun c235 => ?_) (fun c235 => ?_)
        · rw [if_pos c235] at h
          obtain ⟨v236, hv236, h⟩ := d_lt_some h
          refine u_iinc (lv' := [(3, .int v236), (0, .ref b), (1, .ref (adr G (10, 0, 0))), (2, .ref (adr G (11, 0, 0)))]) (pc := 1099) F dL_law_1099 3 rfl hv236.symm hY (by decide) rfl ?_
          refine u_goto (pc := 1102) F 18 dL_law_1102 (by decide) ?_
          refine u_lv (lv' := [(0, .ref b), (1, .ref (adr G (10, 0, 0))), (2, .ref (adr G (11, 0, 0))), (3, .int v236)]) [1, 2, 3, 0] rfl ?_
          exact ih m234 v236 h
        · rw [if_neg c235] at h
          refine u_iconst (v := 0) (pc := 933) F dL_law_933 (by decide) ?_
          have h1 := Option.some.inj h
          obtain ⟨hj0, hr0⟩ := Prod.mk.inj h1
          subst hj0
          subst hr0
          exact hR _ _ rfl dL_law_934
      rw [if_neg e227] at h
      by_cases e237 : v3 = (27 : Int32)
      · rw [if_pos e237] at h
        refine u_table (pc := 32) F dL_law_32 (off := 903) 935 (by rw [e237]; decide) (by rw [e237]; decide) (by rw [e237]; rfl) (by decide) ?_
        refine u_aload_n (pc := 935) F dL_law_935 1 rfl rfl ?_
        refine u_aload_n (pc := 936) F dL_law_936 0 rfl rfl ?_
        refine u_iload_n (pc := 937) F dL_law_937 3 rfl rfl ?_
        refine u_iconst (v := 1) (pc := 938) F dL_law_938 (by decide) ?_
        refine u_iadd (pc := 939) F dL_law_939 ?_
        obtain ⟨b238, h⟩ := d_ab_some h
        refine u_sld (pc := 940) F X dL_law_940 b238 ?_
        obtain ⟨q239, hq239, h⟩ := d_bd_some h
        refine u_calli (pc := 941) F (As := [.int (xs (x3 + (1 : Int32)).toNatClampNeg)]) (c_X10_secrets G hL (xs (x3 + (1 : Int32)).toNatClampNeg) σ q239 hq239) yv_X10_secrets ml_L_125 (hL 10 0 0 (by decide) rfl) rfl (by decide) rfl rfl (Nat.le_of_ble_eq_true rfl) dL_law_941 ?_
        refine u_aload_n (pc := 944) F dL_law_944 2 rfl rfl ?_
        refine u_aload_n (pc := 945) F dL_law_945 0 rfl rfl ?_
        refine u_iload_n (pc := 946) F dL_law_946 3 rfl rfl ?_
        refine u_iconst (v := 1) (pc := 947) F dL_law_947 (by decide) ?_
        refine u_iadd (pc := 948) F dL_law_948 ?_
        obtain ⟨b240, h⟩ := d_ab_some h
        refine u_sld (pc := 949) F X dL_law_949 b240 ?_
        obtain ⟨q241, hq241, h⟩ := d_bd_some h
        refine u_calli (pc := 950) F (As := [.int (xs (x3 + (1 : Int32)).toNatClampNeg)]) (c_X11_secrets G hM (xs (x3 + (1 : Int32)).toNatClampNeg) σ (σ 11 0) (rfl) q241 hq241) yv_X11_secrets ml_L_128 (hM 11 0 0 (by decide) rfl) rfl (by decide) rfl rfl (Nat.le_of_ble_eq_true rfl) dL_law_950 ?_
        refine u_icmp_eq (pc := 953) F 1099 dL_law_953 (by decide) (fun c242 => ?_) (fun c242 => ?_)
        · rw [if_pos c242] at h
          obtain ⟨v243, hv243, h⟩ := d_lt_some h
          refine u_iinc (lv' := [(3, .int v243), (0, .ref b), (1, .ref (adr G (10, 0, 0))), (2, .ref (adr G (11, 0, 0)))]) (pc := 1099) F dL_law_1099 3 rfl hv243.symm hY (by decide) rfl ?_
          refine u_goto (pc := 1102) F 18 dL_law_1102 (by decide) ?_
          refine u_lv (lv' := [(0, .ref b), (1, .ref (adr G (10, 0, 0))), (2, .ref (adr G (11, 0, 0))), (3, .int v243)]) [1, 2, 3, 0] rfl ?_
          exact ih σ v243 h
        · rw [if_neg c242] at h
          refine u_iconst (v := 0) (pc := 956) F dL_law_956 (by decide) ?_
          have h1 := Option.some.inj h
          obtain ⟨hj0, hr0⟩ := Prod.mk.inj h1
          subst hj0
          subst hr0
          exact hR _ _ rfl dL_law_957
      rw [if_neg e237] at h
      by_cases e244 : v3 = (28 : Int32)
      · rw [if_pos e244] at h
        refine u_table (pc := 32) F dL_law_32 (off := 926) 958 (by rw [e244]; decide) (by rw [e244]; decide) (by rw [e244]; rfl) (by decide) ?_
        refine u_aload_n (pc := 958) F dL_law_958 1 rfl rfl ?_
        obtain ⟨q245, hq245, h⟩ := d_bd_some h
        refine u_calli (pc := 959) F (As := []) (c_X10_ask G hL σ q245.1 q245.2 hq245) yv_X10_ask ml_L_129 (hL 10 0 0 (by decide) rfl) rfl (by decide) rfl rfl (Nat.le_of_ble_eq_true rfl) dL_law_959 ?_
        refine u_aload_n (pc := 962) F dL_law_962 2 rfl rfl ?_
        obtain ⟨q246, hq246, h⟩ := d_bd_some h
        refine u_calli (pc := 963) F (As := []) (c_X11_ask G hM q245.2 (q245.2 11 0) (rfl) q246.1 q246.2 hq246) yv_X11_ask ml_L_132 (hM 11 0 0 (by decide) rfl) rfl (by decide) rfl rfl (Nat.le_of_ble_eq_true rfl) dL_law_963 ?_
        obtain ⟨m247, hm247, h⟩ := d_lt_some h
        refine u_mem hm247 ?_
        refine u_icmp_eq (pc := 966) F 1099 dL_law_966 (by decide) (fun c248 => ?_) (fun c248 => ?_)
        · rw [if_pos c248] at h
          obtain ⟨v249, hv249, h⟩ := d_lt_some h
          refine u_iinc (lv' := [(3, .int v249), (0, .ref b), (1, .ref (adr G (10, 0, 0))), (2, .ref (adr G (11, 0, 0)))]) (pc := 1099) F dL_law_1099 3 rfl hv249.symm hY (by decide) rfl ?_
          refine u_goto (pc := 1102) F 18 dL_law_1102 (by decide) ?_
          refine u_lv (lv' := [(0, .ref b), (1, .ref (adr G (10, 0, 0))), (2, .ref (adr G (11, 0, 0))), (3, .int v249)]) [1, 2, 3, 0] rfl ?_
          exact ih m247 v249 h
        · rw [if_neg c248] at h
          refine u_iconst (v := 0) (pc := 969) F dL_law_969 (by decide) ?_
          have h1 := Option.some.inj h
          obtain ⟨hj0, hr0⟩ := Prod.mk.inj h1
          subst hj0
          subst hr0
          exact hR _ _ rfl dL_law_970
      rw [if_neg e244] at h
      by_cases e250 : v3 = (29 : Int32)
      · rw [if_pos e250] at h
        refine u_table (pc := 32) F dL_law_32 (off := 939) 971 (by rw [e250]; decide) (by rw [e250]; decide) (by rw [e250]; rfl) (by decide) ?_
        refine u_aload_n (pc := 971) F dL_law_971 1 rfl rfl ?_
        refine u_aload_n (pc := 972) F dL_law_972 0 rfl rfl ?_
        refine u_iload_n (pc := 973) F dL_law_973 3 rfl rfl ?_
        refine u_iconst (v := 1) (pc := 974) F dL_law_974 (by decide) ?_
        refine u_iadd (pc := 975) F dL_law_975 ?_
        obtain ⟨b251, h⟩ := d_ab_some h
        refine u_sld (pc := 976) F X dL_law_976 b251 ?_
        refine u_aload_n (pc := 977) F dL_law_977 0 rfl rfl ?_
        refine u_iload_n (pc := 978) F dL_law_978 3 rfl rfl ?_
        refine u_iconst (v := 2) (pc := 979) F dL_law_979 (by decide) ?_
        refine u_iadd (pc := 980) F dL_law_980 ?_
        obtain ⟨b252, h⟩ := d_ab_some h
        refine u_sld (pc := 981) F X dL_law_981 b252 ?_
        obtain ⟨q253, hq253, h⟩ := d_bd_some h
        refine u_calli (pc := 982) F (As := [.int (xs (x3 + (1 : Int32)).toNatClampNeg), .int (xs (x3 + (2 : Int32)).toNatClampNeg)]) (c_X10_write G hL (xs (x3 + (1 : Int32)).toNatClampNeg) (xs (x3 + (2 : Int32)).toNatClampNeg) σ q253.1 q253.2 hq253) yv_X10_write ml_L_133 (hL 10 0 0 (by decide) rfl) rfl (by decide) rfl rfl (Nat.le_of_ble_eq_true rfl) dL_law_982 ?_
        refine u_aload_n (pc := 985) F dL_law_985 2 rfl rfl ?_
        refine u_aload_n (pc := 986) F dL_law_986 0 rfl rfl ?_
        refine u_iload_n (pc := 987) F dL_law_987 3 rfl rfl ?_
        refine u_iconst (v := 1) (pc := 988) F dL_law_988 (by decide) ?_
        refine u_iadd (pc := 989) F dL_law_989 ?_
        obtain ⟨b254, h⟩ := d_ab_some h
        refine u_sld (pc := 990) F X dL_law_990 b254 ?_
        refine u_aload_n (pc := 991) F dL_law_991 0 rfl rfl ?_
        refine u_iload_n (pc := 992) F dL_law_992 3 rfl rfl ?_
        refine u_iconst (v := 2) (pc := 993) F dL_law_993 (by decide) ?_
        refine u_iadd (pc := 994) F dL_law_994 ?_
        obtain ⟨b255, h⟩ := d_ab_some h
        refine u_sld (pc := 995) F X dL_law_995 b255 ?_
        obtain ⟨q256, hq256, h⟩ := d_bd_some h
        refine u_calli (pc := 996) F (As := [.int (xs (x3 + (1 : Int32)).toNatClampNeg), .int (xs (x3 + (2 : Int32)).toNatClampNeg)]) (c_X11_write G hM (xs (x3 + (1 : Int32)).toNatClampNeg) (xs (x3 + (2 : Int32)).toNatClampNeg) q253.2 (q253.2 11 0) (rfl) q256.1 q256.2 hq256) yv_X11_write ml_L_136 (hM 11 0 0 (by decide) rfl) rfl (by decide) rfl rfl (Nat.le_of_ble_eq_true rfl) dL_law_996 ?_
        obtain ⟨m257, hm257, h⟩ := d_lt_some h
        refine u_mem hm257 ?_
        refine u_icmp_eq (pc := 999) F 1099 dL_law_999 (by decide) (fun c258 => ?_) (fun c258 => ?_)
        · rw [if_pos c258] at h
          obtain ⟨v259, hv259, h⟩ := d_lt_some h
          refine u_iinc (lv' := [(3, .int v259), (0, .ref b), (1, .ref (adr G (10, 0, 0))), (2, .ref (adr G (11, 0, 0)))]) (pc := 1099) F dL_law_1099 3 rfl hv259.symm hY (by decide) rfl ?_
          refine u_goto (pc := 1102) F 18 dL_law_1102 (by decide) ?_
          refine u_lv (lv' := [(0, .ref b), (1, .ref (adr G (10, 0, 0))), (2, .ref (adr G (11, 0, 0))), (3, .int v259)]) [1, 2, 3, 0] rfl ?_
          exact ih m257 v259 h
        · rw [if_neg c258] at h
          refine u_iconst (v := 0) (pc := 1002) F dL_law_1002 (by decide) ?_
          have h1 := Option.some.inj h
          obtain ⟨hj0, hr0⟩ := Prod.mk.inj h1
          subst hj0
          subst hr0
          exact hR _ _ rfl dL_law_1003
      rw [if_neg e250] at h
      by_cases e260 : v3 = (30 : Int32)
      · rw [if_pos e260] at h
        refine u_table (pc := 32) F dL_law_32 (off := 972) 1004 (by rw [e260]; decide) (by rw [e260]; decide) (by rw [e260]; rfl) (by decide) ?_
        refine u_aload_n (pc := 1004) F dL_law_1004 1 rfl rfl ?_
        obtain ⟨q261, hq261, h⟩ := d_bd_some h
        refine u_calli (pc := 1005) F (As := []) (c_X10_tear G hL σ q261.1 q261.2 hq261) yv_X10_tear ml_L_137 (hL 10 0 0 (by decide) rfl) rfl (by decide) rfl rfl (Nat.le_of_ble_eq_true rfl) dL_law_1005 ?_
        refine u_aload_n (pc := 1008) F dL_law_1008 2 rfl rfl ?_
        obtain ⟨q262, hq262, h⟩ := d_bd_some h
        refine u_calli (pc := 1009) F (As := []) (c_X11_tear G hM q261.2 (q261.2 11 0) (rfl) q262.1 q262.2 hq262) yv_X11_tear ml_L_140 (hM 11 0 0 (by decide) rfl) rfl (by decide) rfl rfl (Nat.le_of_ble_eq_true rfl) dL_law_1009 ?_
        obtain ⟨m263, hm263, h⟩ := d_lt_some h
        refine u_mem hm263 ?_
        refine u_icmp_eq (pc := 1012) F 1099 dL_law_1012 (by decide) (fun c264 => ?_) (fun c264 => ?_)
        · rw [if_pos c264] at h
          obtain ⟨v265, hv265, h⟩ := d_lt_some h
          refine u_iinc (lv' := [(3, .int v265), (0, .ref b), (1, .ref (adr G (10, 0, 0))), (2, .ref (adr G (11, 0, 0)))]) (pc := 1099) F dL_law_1099 3 rfl hv265.symm hY (by decide) rfl ?_
          refine u_goto (pc := 1102) F 18 dL_law_1102 (by decide) ?_
          refine u_lv (lv' := [(0, .ref b), (1, .ref (adr G (10, 0, 0))), (2, .ref (adr G (11, 0, 0))), (3, .int v265)]) [1, 2, 3, 0] rfl ?_
          exact ih m263 v265 h
        · rw [if_neg c264] at h
          refine u_iconst (v := 0) (pc := 1015) F dL_law_1015 (by decide) ?_
          have h1 := Option.some.inj h
          obtain ⟨hj0, hr0⟩ := Prod.mk.inj h1
          subst hj0
          subst hr0
          exact hR _ _ rfl dL_law_1016
      rw [if_neg e260] at h
      by_cases e266 : v3 = (31 : Int32)
      · rw [if_pos e266] at h
        refine u_table (pc := 32) F dL_law_32 (off := 985) 1017 (by rw [e266]; decide) (by rw [e266]; decide) (by rw [e266]; rfl) (by decide) ?_
        refine u_aload_n (pc := 1017) F dL_law_1017 1 rfl rfl ?_
        obtain ⟨q267, hq267, h⟩ := d_bd_some h
        refine u_calli (pc := 1018) F (As := []) (c_X10_judge G hL σ q267 hq267) yv_X10_judge ml_L_141 (hL 10 0 0 (by decide) rfl) rfl (by decide) rfl rfl (Nat.le_of_ble_eq_true rfl) dL_law_1018 ?_
        refine u_aload_n (pc := 1021) F dL_law_1021 2 rfl rfl ?_
        obtain ⟨q268, hq268, h⟩ := d_bd_some h
        refine u_calli (pc := 1022) F (As := []) (c_X11_judge G hM σ (σ 11 0) (rfl) q268 hq268) yv_X11_judge ml_L_144 (hM 11 0 0 (by decide) rfl) rfl (by decide) rfl rfl (Nat.le_of_ble_eq_true rfl) dL_law_1022 ?_
        refine u_icmp_eq (pc := 1025) F 1099 dL_law_1025 (by decide) (fun c269 => ?_) (fun c269 => ?_)
        · rw [if_pos c269] at h
          obtain ⟨v270, hv270, h⟩ := d_lt_some h
          refine u_iinc (lv' := [(3, .int v270), (0, .ref b), (1, .ref (adr G (10, 0, 0))), (2, .ref (adr G (11, 0, 0)))]) (pc := 1099) F dL_law_1099 3 rfl hv270.symm hY (by decide) rfl ?_
          refine u_goto (pc := 1102) F 18 dL_law_1102 (by decide) ?_
          refine u_lv (lv' := [(0, .ref b), (1, .ref (adr G (10, 0, 0))), (2, .ref (adr G (11, 0, 0))), (3, .int v270)]) [1, 2, 3, 0] rfl ?_
          exact ih σ v270 h
        · rw [if_neg c269] at h
          refine u_iconst (v := 0) (pc := 1028) F dL_law_1028 (by decide) ?_
          have h1 := Option.some.inj h
          obtain ⟨hj0, hr0⟩ := Prod.mk.inj h1
          subst hj0
          subst hr0
          exact hR _ _ rfl dL_law_1029
      rw [if_neg e266] at h
      by_cases e271 : v3 = (32 : Int32)
      · rw [if_pos e271] at h
        refine u_table (pc := 32) F dL_law_32 (off := 998) 1030 (by rw [e271]; decide) (by rw [e271]; decide) (by rw [e271]; rfl) (by decide) ?_
        refine u_aload_n (pc := 1030) F dL_law_1030 1 rfl rfl ?_
        refine u_aload_n (pc := 1031) F dL_law_1031 0 rfl rfl ?_
        refine u_iload_n (pc := 1032) F dL_law_1032 3 rfl rfl ?_
        refine u_iconst (v := 1) (pc := 1033) F dL_law_1033 (by decide) ?_
        refine u_iadd (pc := 1034) F dL_law_1034 ?_
        obtain ⟨b272, h⟩ := d_ab_some h
        refine u_sld (pc := 1035) F X dL_law_1035 b272 ?_
        obtain ⟨q273, hq273, h⟩ := d_bd_some h
        refine u_calli (pc := 1036) F (As := [.int (xs (x3 + (1 : Int32)).toNatClampNeg)]) (c_X10_seed G hL (xs (x3 + (1 : Int32)).toNatClampNeg) σ q273.1 q273.2 hq273) yv_X10_seed ml_L_145 (hL 10 0 0 (by decide) rfl) rfl (by decide) rfl rfl (Nat.le_of_ble_eq_true rfl) dL_law_1036 ?_
        refine u_aload_n (pc := 1039) F dL_law_1039 2 rfl rfl ?_
        refine u_aload_n (pc := 1040) F dL_law_1040 0 rfl rfl ?_
        refine u_iload_n (pc := 1041) F dL_law_1041 3 rfl rfl ?_
        refine u_iconst (v := 1) (pc := 1042) F dL_law_1042 (by decide) ?_
        refine u_iadd (pc := 1043) F dL_law_1043 ?_
        obtain ⟨b274, h⟩ := d_ab_some h
        refine u_sld (pc := 1044) F X dL_law_1044 b274 ?_
        obtain ⟨q275, hq275, h⟩ := d_bd_some h
        refine u_calli (pc := 1045) F (As := [.int (xs (x3 + (1 : Int32)).toNatClampNeg)]) (c_X11_seed G hM (xs (x3 + (1 : Int32)).toNatClampNeg) q273.2 (q273.2 11 0) (rfl) q275.1 q275.2 hq275) yv_X11_seed ml_L_148 (hM 11 0 0 (by decide) rfl) rfl (by decide) rfl rfl (Nat.le_of_ble_eq_true rfl) dL_law_1045 ?_
        obtain ⟨m276, hm276, h⟩ := d_lt_some h
        refine u_mem hm276 ?_
        refine u_icmp_eq (pc := 1048) F 1099 dL_law_1048 (by decide) (fun c277 => ?_) (fun c277 => ?_)
        · rw [if_pos c277] at h
          obtain ⟨v278, hv278, h⟩ := d_lt_some h
          refine u_iinc (lv' := [(3, .int v278), (0, .ref b), (1, .ref (adr G (10, 0, 0))), (2, .ref (adr G (11, 0, 0)))]) (pc := 1099) F dL_law_1099 3 rfl hv278.symm hY (by decide) rfl ?_
          refine u_goto (pc := 1102) F 18 dL_law_1102 (by decide) ?_
          refine u_lv (lv' := [(0, .ref b), (1, .ref (adr G (10, 0, 0))), (2, .ref (adr G (11, 0, 0))), (3, .int v278)]) [1, 2, 3, 0] rfl ?_
          exact ih m276 v278 h
        · rw [if_neg c277] at h
          refine u_iconst (v := 0) (pc := 1051) F dL_law_1051 (by decide) ?_
          have h1 := Option.some.inj h
          obtain ⟨hj0, hr0⟩ := Prod.mk.inj h1
          subst hj0
          subst hr0
          exact hR _ _ rfl dL_law_1052
      rw [if_neg e271] at h
      by_cases e279 : v3 = (33 : Int32)
      · rw [if_pos e279] at h
        refine u_table (pc := 32) F dL_law_32 (off := 1021) 1053 (by rw [e279]; decide) (by rw [e279]; decide) (by rw [e279]; rfl) (by decide) ?_
        refine u_aload_n (pc := 1053) F dL_law_1053 1 rfl rfl ?_
        refine u_aload_n (pc := 1054) F dL_law_1054 0 rfl rfl ?_
        refine u_iload_n (pc := 1055) F dL_law_1055 3 rfl rfl ?_
        refine u_iconst (v := 1) (pc := 1056) F dL_law_1056 (by decide) ?_
        refine u_iadd (pc := 1057) F dL_law_1057 ?_
        obtain ⟨b280, h⟩ := d_ab_some h
        refine u_sld (pc := 1058) F X dL_law_1058 b280 ?_
        obtain ⟨q281, hq281, h⟩ := d_bd_some h
        refine u_calli (pc := 1059) F (As := [.int (xs (x3 + (1 : Int32)).toNatClampNeg)]) (c_X10_keep G hL (xs (x3 + (1 : Int32)).toNatClampNeg) σ q281.1 q281.2 hq281) yv_X10_keep ml_L_149 (hL 10 0 0 (by decide) rfl) rfl (by decide) rfl rfl (Nat.le_of_ble_eq_true rfl) dL_law_1059 ?_
        refine u_aload_n (pc := 1062) F dL_law_1062 2 rfl rfl ?_
        refine u_aload_n (pc := 1063) F dL_law_1063 0 rfl rfl ?_
        refine u_iload_n (pc := 1064) F dL_law_1064 3 rfl rfl ?_
        refine u_iconst (v := 1) (pc := 1065) F dL_law_1065 (by decide) ?_
        refine u_iadd (pc := 1066) F dL_law_1066 ?_
        obtain ⟨b282, h⟩ := d_ab_some h
        refine u_sld (pc := 1067) F X dL_law_1067 b282 ?_
        obtain ⟨q283, hq283, h⟩ := d_bd_some h
        refine u_calli (pc := 1068) F (As := [.int (xs (x3 + (1 : Int32)).toNatClampNeg)]) (c_X11_keep G hM (xs (x3 + (1 : Int32)).toNatClampNeg) q281.2 (q281.2 11 0) (rfl) q283.1 q283.2 hq283) yv_X11_keep ml_L_152 (hM 11 0 0 (by decide) rfl) rfl (by decide) rfl rfl (Nat.le_of_ble_eq_true rfl) dL_law_1068 ?_
        obtain ⟨m284, hm284, h⟩ := d_lt_some h
        refine u_mem hm284 ?_
        refine u_icmp_eq (pc := 1071) F 1099 dL_law_1071 (by decide) (fun c285 => ?_) (fun c285 => ?_)
        · rw [if_pos c285] at h
          obtain ⟨v286, hv286, h⟩ := d_lt_some h
          refine u_iinc (lv' := [(3, .int v286), (0, .ref b), (1, .ref (adr G (10, 0, 0))), (2, .ref (adr G (11, 0, 0)))]) (pc := 1099) F dL_law_1099 3 rfl hv286.symm hY (by decide) rfl ?_
          refine u_goto (pc := 1102) F 18 dL_law_1102 (by decide) ?_
          refine u_lv (lv' := [(0, .ref b), (1, .ref (adr G (10, 0, 0))), (2, .ref (adr G (11, 0, 0))), (3, .int v286)]) [1, 2, 3, 0] rfl ?_
          exact ih m284 v286 h
        · rw [if_neg c285] at h
          refine u_iconst (v := 0) (pc := 1074) F dL_law_1074 (by decide) ?_
          have h1 := Option.some.inj h
          obtain ⟨hj0, hr0⟩ := Prod.mk.inj h1
          subst hj0
          subst hr0
          exact hR _ _ rfl dL_law_1075
      rw [if_neg e279] at h
      by_cases e287 : v3 = (34 : Int32)
      · rw [if_pos e287] at h
        refine u_table (pc := 32) F dL_law_32 (off := 1044) 1076 (by rw [e287]; decide) (by rw [e287]; decide) (by rw [e287]; rfl) (by decide) ?_
        refine u_aload_n (pc := 1076) F dL_law_1076 1 rfl rfl ?_
        refine u_aload_n (pc := 1077) F dL_law_1077 0 rfl rfl ?_
        refine u_iload_n (pc := 1078) F dL_law_1078 3 rfl rfl ?_
        refine u_iconst (v := 1) (pc := 1079) F dL_law_1079 (by decide) ?_
        refine u_iadd (pc := 1080) F dL_law_1080 ?_
        obtain ⟨b288, h⟩ := d_ab_some h
        refine u_sld (pc := 1081) F X dL_law_1081 b288 ?_
        obtain ⟨q289, hq289, h⟩ := d_bd_some h
        refine u_calli (pc := 1082) F (As := [.int (xs (x3 + (1 : Int32)).toNatClampNeg)]) (c_X10_goBack G hL (xs (x3 + (1 : Int32)).toNatClampNeg) σ q289.1 q289.2 hq289) yv_X10_goBack ml_L_153 (hL 10 0 0 (by decide) rfl) rfl (by decide) rfl rfl (Nat.le_of_ble_eq_true rfl) dL_law_1082 ?_
        refine u_aload_n (pc := 1085) F dL_law_1085 2 rfl rfl ?_
        refine u_aload_n (pc := 1086) F dL_law_1086 0 rfl rfl ?_
        refine u_iload_n (pc := 1087) F dL_law_1087 3 rfl rfl ?_
        refine u_iconst (v := 1) (pc := 1088) F dL_law_1088 (by decide) ?_
        refine u_iadd (pc := 1089) F dL_law_1089 ?_
        obtain ⟨b290, h⟩ := d_ab_some h
        refine u_sld (pc := 1090) F X dL_law_1090 b290 ?_
        obtain ⟨q291, hq291, h⟩ := d_bd_some h
        refine u_calli (pc := 1091) F (As := [.int (xs (x3 + (1 : Int32)).toNatClampNeg)]) (c_X11_goBack G hM (xs (x3 + (1 : Int32)).toNatClampNeg) q289.2 (q289.2 11 0) (rfl) q291.1 q291.2 hq291) yv_X11_goBack ml_L_156 (hM 11 0 0 (by decide) rfl) rfl (by decide) rfl rfl (Nat.le_of_ble_eq_true rfl) dL_law_1091 ?_
        obtain ⟨m292, hm292, h⟩ := d_lt_some h
        refine u_mem hm292 ?_
        refine u_icmp_eq (pc := 1094) F 1099 dL_law_1094 (by decide) (fun c293 => ?_) (fun c293 => ?_)
        · rw [if_pos c293] at h
          obtain ⟨v294, hv294, h⟩ := d_lt_some h
          refine u_iinc (lv' := [(3, .int v294), (0, .ref b), (1, .ref (adr G (10, 0, 0))), (2, .ref (adr G (11, 0, 0)))]) (pc := 1099) F dL_law_1099 3 rfl hv294.symm hY (by decide) rfl ?_
          refine u_goto (pc := 1102) F 18 dL_law_1102 (by decide) ?_
          refine u_lv (lv' := [(0, .ref b), (1, .ref (adr G (10, 0, 0))), (2, .ref (adr G (11, 0, 0))), (3, .int v294)]) [1, 2, 3, 0] rfl ?_
          exact ih m292 v294 h
        · rw [if_neg c293] at h
          refine u_iconst (v := 0) (pc := 1097) F dL_law_1097 (by decide) ?_
          have h1 := Option.some.inj h
          obtain ⟨hj0, hr0⟩ := Prod.mk.inj h1
          subst hj0
          subst hr0
          exact hR _ _ rfl dL_law_1098
      rw [if_neg e287] at h
      refine u_tableOut (pc := 32) F dL_law_32 1099 (by
        have j0 : ¬ v3.toInt = 0 := i32_ne e4
        have j1 : ¬ v3.toInt = 1 := i32_ne e12
        have j2 : ¬ v3.toInt = 2 := i32_ne e18
        have j3 : ¬ v3.toInt = 3 := i32_ne e23
        have j4 : ¬ v3.toInt = 4 := i32_ne e30
        have j5 : ¬ v3.toInt = 5 := i32_ne e40
        have j6 : ¬ v3.toInt = 6 := i32_ne e50
        have j7 : ¬ v3.toInt = 7 := i32_ne e59
        have j8 : ¬ v3.toInt = 8 := i32_ne e66
        have j9 : ¬ v3.toInt = 9 := i32_ne e75
        have j10 : ¬ v3.toInt = 10 := i32_ne e83
        have j11 : ¬ v3.toInt = 11 := i32_ne e93
        have j12 : ¬ v3.toInt = 12 := i32_ne e101
        have j13 : ¬ v3.toInt = 13 := i32_ne e115
        have j14 : ¬ v3.toInt = 14 := i32_ne e125
        have j15 : ¬ v3.toInt = 15 := i32_ne e133
        have j16 : ¬ v3.toInt = 16 := i32_ne e141
        have j17 : ¬ v3.toInt = 17 := i32_ne e149
        have j18 : ¬ v3.toInt = 18 := i32_ne e155
        have j19 : ¬ v3.toInt = 19 := i32_ne e165
        have j20 : ¬ v3.toInt = 20 := i32_ne e174
        have j21 : ¬ v3.toInt = 21 := i32_ne e184
        have j22 : ¬ v3.toInt = 22 := i32_ne e194
        have j23 : ¬ v3.toInt = 23 := i32_ne e202
        have j24 : ¬ v3.toInt = 24 := i32_ne e209
        have j25 : ¬ v3.toInt = 25 := i32_ne e218
        have j26 : ¬ v3.toInt = 26 := i32_ne e227
        have j27 : ¬ v3.toInt = 27 := i32_ne e237
        have j28 : ¬ v3.toInt = 28 := i32_ne e244
        have j29 : ¬ v3.toInt = 29 := i32_ne e250
        have j30 : ¬ v3.toInt = 30 := i32_ne e260
        have j31 : ¬ v3.toInt = 31 := i32_ne e266
        have j32 : ¬ v3.toInt = 32 := i32_ne e271
        have j33 : ¬ v3.toInt = 33 := i32_ne e279
        have j34 : ¬ v3.toInt = 34 := i32_ne e287
        omega) (by decide) ?_
      obtain ⟨v295, hv295, h⟩ := d_lt_some h
      refine u_iinc (lv' := [(3, .int v295), (0, .ref b), (1, .ref (adr G (10, 0, 0))), (2, .ref (adr G (11, 0, 0)))]) (pc := 1099) F dL_law_1099 3 rfl hv295.symm hY (by decide) rfl ?_
      refine u_goto (pc := 1102) F 18 dL_law_1102 (by decide) ?_
      refine u_lv (lv' := [(0, .ref b), (1, .ref (adr G (10, 0, 0))), (2, .ref (adr G (11, 0, 0))), (3, .int v295)]) [1, 2, 3, 0] rfl ?_
      exact ih σ v295 h
