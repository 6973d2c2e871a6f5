def fX7_copy_14 (G0 : ST) (G1 : ST) (G2 : ST) (G3 : ST) (Ma : ST) (N0 : LT) (N1 : LT) (N2 : LT) (N3 : LT) : Option (Int32 × ST × LT × LT × LT × LT) :=
  dc_b2 (fX7_finding (-1000000001) Ma) (fun r4 Ma_5 => some (r4, Ma_5, N0, N1, N2, N3))
def fX7_copy_45 (G0 : ST) (G1 : ST) (G2 : ST) (G3 : ST) (Ma : ST) (N0 : LT) (N1 : LT) (N2 : LT) (N3 : LT) : Option (Int32 × ST × LT × LT × LT × LT) :=
  dc_b2 (fX7_finding (-1000000006) Ma) (fun r14 Ma_15 => some (r14, Ma_15, N0, N1, N2, N3))
def fX7_copy_112 (G0 : ST) (G1 : ST) (G2 : ST) (G3 : ST) (Ma : ST) (N0 : LT) (N1 : LT) (N2 : LT) (N3 : LT) : Option (Int32 × ST × LT × LT × LT × LT) :=
  dc_b2 (fX7_finding (-1000000001) Ma) (fun r25 Ma_26 => some (r25, Ma_26, N0, N1, N2, N3))
def fX7_copy (x1 : Int32) (x2 : Int32) (x3 : Int32) (x4 : Int32) (x5 : Int32) (Ma : ST) (G0 : ST) (N0 : LT) (G1 : ST) (N1 : LT) (G2 : ST) (N2 : LT) (G3 : ST) (N3 : LT) : Option (Int32 × ST × LT × LT × LT × LT) :=
  dc_b1 (fX7_isSheet x1) (fun r1 => (if r1 = 0 then fX7_copy_14 G0 G1 G2 G3 Ma N0 N1 N2 N3 else dc_b1 (fX7_isSheet x3) (fun r7 => (if r7 = 0 then fX7_copy_14 G0 G1 G2 G3 Ma N0 N1 N2 N3 else (if x1 = 0 then dc_b1 (fX5_isMissing G0) (fun r11 => (if r11 = 0 then (if x3 = 0 then dc_b1 (fX5_isMissing G0) (fun r18 => (if r18 = 0 then (if (G0 0 0) = (G0 0 0) then dc_b1 (fX5_holds x2 x5 G0) (fun r22 => (if r22 = 0 then fX7_copy_112 G0 G1 G2 G3 Ma N0 N1 N2 N3 else dc_b1 (fX5_holds x4 x5 G0) (fun r28 => (if r28 = 0 then fX7_copy_112 G0 G1 G2 G3 Ma N0 N1 N2 N3 else dc_cp x2 x4 x5 40 40 (dc_lt (va_cpy N0 N0 (Int32.toNatClampNeg x2) (Int32.toNatClampNeg x4) (Int32.toNatClampNeg x5)) (fun N0_31 => some (x5, Ma, N0_31, N1, N2, N3))))))) else dc_b2 (fX7_finding (-1000000003) Ma) (fun r33 Ma_34 => some (r33, Ma_34, N0, N1, N2, N3))) else fX7_copy_45 G0 G1 G2 G3 Ma N0 N1 N2 N3)) else if x3 = 1 then dc_b1 (fX5_isMissing G1) (fun r37 => (if r37 = 0 then (if (G0 0 0) = (G1 0 0) then dc_b1 (fX5_holds x2 x5 G0) (fun r41 => (if r41 = 0 then fX7_copy_112 G0 G1 G2 G3 Ma N0 N1 N2 N3 else dc_b1 (fX5_holds x4 x5 G1) (fun r44 => (if r44 = 0 then fX7_copy_112 G0 G1 G2 G3 Ma N0 N1 N2 N3 else dc_cp x2 x4 x5 40 40 (dc_lt (va_cpy N0 N1 (Int32.toNatClampNeg x2) (Int32.toNatClampNeg x4) (Int32.toNatClampNeg x5)) (fun N1_47 => some (x5, Ma, N0, N1_47, N2, N3))))))) else dc_b2 (fX7_finding (-1000000003) Ma) (fun r49 Ma_50 => some (r49, Ma_50, N0, N1, N2, N3))) else fX7_copy_45 G0 G1 G2 G3 Ma N0 N1 N2 N3)) else if x3 = 2 then dc_b1 (fX5_isMissing G2) (fun r53 => (if r53 = 0 then (if (G0 0 0) = (G2 0 0) then dc_b1 (fX5_holds x2 x5 G0) (fun r57 => (if r57 = 0 then fX7_copy_112 G0 G1 G2 G3 Ma N0 N1 N2 N3 else dc_b1 (fX5_holds x4 x5 G2) (fun r60 => (if r60 = 0 then fX7_copy_112 G0 G1 G2 G3 Ma N0 N1 N2 N3 else dc_cp x2 x4 x5 40 40 (dc_lt (va_cpy N0 N2 (Int32.toNatClampNeg x2) (Int32.toNatClampNeg x4) (Int32.toNatClampNeg x5)) (fun N2_63 => some (x5, Ma, N0, N1, N2_63, N3))))))) else dc_b2 (fX7_finding (-1000000003) Ma) (fun r65 Ma_66 => some (r65, Ma_66, N0, N1, N2, N3))) else fX7_copy_45 G0 G1 G2 G3 Ma N0 N1 N2 N3)) else if x3 = 3 then dc_b1 (fX5_isMissing G3) (fun r69 => (if r69 = 0 then (if (G0 0 0) = (G3 0 0) then dc_b1 (fX5_holds x2 x5 G0) (fun r73 => (if r73 = 0 then fX7_copy_112 G0 G1 G2 G3 Ma N0 N1 N2 N3 else dc_b1 (fX5_holds x4 x5 G3) (fun r76 => (if r76 = 0 then fX7_copy_112 G0 G1 G2 G3 Ma N0 N1 N2 N3 else dc_cp x2 x4 x5 40 40 (dc_lt (va_cpy N0 N3 (Int32.toNatClampNeg x2) (Int32.toNatClampNeg x4) (Int32.toNatClampNeg x5)) (fun N3_79 => some (x5, Ma, N0, N1, N2, N3_79))))))) else dc_b2 (fX7_finding (-1000000003) Ma) (fun r81 Ma_82 => some (r81, Ma_82, N0, N1, N2, N3))) else fX7_copy_45 G0 G1 G2 G3 Ma N0 N1 N2 N3)) else none) else fX7_copy_45 G0 G1 G2 G3 Ma N0 N1 N2 N3)) else if x1 = 1 then dc_b1 (fX5_isMissing G1) (fun r85 => (if r85 = 0 then (if x3 = 0 then dc_b1 (fX5_isMissing G0) (fun r89 => (if r89 = 0 then (if (G1 0 0) = (G0 0 0) then dc_b1 (fX5_holds x2 x5 G1) (fun r93 => (if r93 = 0 then fX7_copy_112 G0 G1 G2 G3 Ma N0 N1 N2 N3 else dc_b1 (fX5_holds x4 x5 G0) (fun r96 => (if r96 = 0 then fX7_copy_112 G0 G1 G2 G3 Ma N0 N1 N2 N3 else dc_cp x2 x4 x5 40 40 (dc_lt (va_cpy N1 N0 (Int32.toNatClampNeg x2) (Int32.toNatClampNeg x4) (Int32.toNatClampNeg x5)) (fun N0_99 => some (x5, Ma, N0_99, N1, N2, N3))))))) else dc_b2 (fX7_finding (-1000000003) Ma) (fun r101 Ma_102 => some (r101, Ma_102, N0, N1, N2, N3))) else fX7_copy_45 G0 G1 G2 G3 Ma N0 N1 N2 N3)) else if x3 = 1 then dc_b1 (fX5_isMissing G1) (fun r105 => (if r105 = 0 then (if (G1 0 0) = (G1 0 0) then dc_b1 (fX5_holds x2 x5 G1) (fun r109 => (if r109 = 0 then fX7_copy_112 G0 G1 G2 G3 Ma N0 N1 N2 N3 else dc_b1 (fX5_holds x4 x5 G1) (fun r112 => (if r112 = 0 then fX7_copy_112 G0 G1 G2 G3 Ma N0 N1 N2 N3 else dc_cp x2 x4 x5 40 40 (dc_lt (va_cpy N1 N1 (Int32.toNatClampNeg x2) (Int32.toNatClampNeg x4) (Int32.toNatClampNeg x5)) (fun N1_115 => some (x5, Ma, N0, N1_115, N2, N3))))))) else dc_b2 (fX7_finding (-1000000003) Ma) (fun r117 Ma_118 => some (r117, Ma_118, N0, N1, N2, N3))) else fX7_copy_45 G0 G1 G2 G3 Ma N0 N1 N2 N3)) else if x3 = 2 then dc_b1 (fX5_isMissing G2) (fun r121 => (if r121 = 0 then (if (G1 0 0) = (G2 0 0) then dc_b1 (fX5_holds x2 x5 G1) (fun r125 => (if r125 = 0 then fX7_copy_112 G0 G1 G2 G3 Ma N0 N1 N2 N3 else dc_b1 (fX5_holds x4 x5 G2) (fun r128 => (if r128 = 0 then fX7_copy_112 G0 G1 G2 G3 Ma N0 N1 N2 N3 else dc_cp x2 x4 x5 40 40 (dc_lt (va_cpy N1 N2 (Int32.toNatClampNeg x2) (Int32.toNatClampNeg x4) (Int32.toNatClampNeg x5)) (fun N2_131 => some (x5, Ma, N0, N1, N2_131, N3))))))) else dc_b2 (fX7_finding (-1000000003) Ma) (fun r133 Ma_134 => some (r133, Ma_134, N0, N1, N2, N3))) else fX7_copy_45 G0 G1 G2 G3 Ma N0 N1 N2 N3)) else if x3 = 3 then dc_b1 (fX5_isMissing G3) (fun r137 => (if r137 = 0 then (if (G1 0 0) = (G3 0 0) then dc_b1 (fX5_holds x2 x5 G1) (fun r141 => (if r141 = 0 then fX7_copy_112 G0 G1 G2 G3 Ma N0 N1 N2 N3 else dc_b1 (fX5_holds x4 x5 G3) (fun r144 => (if r144 = 0 then fX7_copy_112 G0 G1 G2 G3 Ma N0 N1 N2 N3 else dc_cp x2 x4 x5 40 40 (dc_lt (va_cpy N1 N3 (Int32.toNatClampNeg x2) (Int32.toNatClampNeg x4) (Int32.toNatClampNeg x5)) (fun N3_147 => some (x5, Ma, N0, N1, N2, N3_147))))))) else dc_b2 (fX7_finding (-1000000003) Ma) (fun r149 Ma_150 => some (r149, Ma_150, N0, N1, N2, N3))) else fX7_copy_45 G0 G1 G2 G3 Ma N0 N1 N2 N3)) else none) else fX7_copy_45 G0 G1 G2 G3 Ma N0 N1 N2 N3)) else if x1 = 2 then dc_b1 (fX5_isMissing G2) (fun r153 => (if r153 = 0 then (if x3 = 0 then dc_b1 (fX5_isMissing G0) (fun r157 => (if r157 = 0 then (if (G2 0 0) = (G0 0 0) then dc_b1 (fX5_holds x2 x5 G2) (fun r161 => (if r161 = 0 then fX7_copy_112 G0 G1 G2 G3 Ma N0 N1 N2 N3 else dc_b1 (fX5_holds x4 x5 G0) (fun r164 => (if r164 = 0 then fX7_copy_112 G0 G1 G2 G3 Ma N0 N1 N2 N3 else dc_cp x2 x4 x5 40 40 (dc_lt (va_cpy N2 N0 (Int32.toNatClampNeg x2) (Int32.toNatClampNeg x4) (Int32.toNatClampNeg x5)) (fun N0_167 => some (x5, Ma, N0_167, N1, N2, N3))))))) else dc_b2 (fX7_finding (-1000000003) Ma) (fun r169 Ma_170 => some (r169, Ma_170, N0, N1, N2, N3))) else fX7_copy_45 G0 G1 G2 G3 Ma N0 N1 N2 N3)) else if x3 = 1 then dc_b1 (fX5_isMissing G1) (fun r173 => (if r173 = 0 then (if (G2 0 0) = (G1 0 0) then dc_b1 (fX5_holds x2 x5 G2) (fun r177 => (if r177 = 0 then fX7_copy_112 G0 G1 G2 G3 Ma N0 N1 N2 N3 else dc_b1 (fX5_holds x4 x5 G1) (fun r180 => (if r180 = 0 then fX7_copy_112 G0 G1 G2 G3 Ma N0 N1 N2 N3 else dc_cp x2 x4 x5 40 40 (dc_lt (va_cpy N2 N1 (Int32.toNatClampNeg x2) (Int32.toNatClampNeg x4) (Int32.toNatClampNeg x5)) (fun N1_183 => some (x5, Ma, N0, N1_183, N2, N3))))))) else dc_b2 (fX7_finding (-1000000003) Ma) (fun r185 Ma_186 => some (r185, Ma_186, N0, N1, N2, N3))) else fX7_copy_45 G0 G1 G2 G3 Ma N0 N1 N2 N3)) else if x3 = 2 then dc_b1 (fX5_isMissing G2) (fun r189 => (if r189 = 0 then (if (G2 0 0) = (G2 0 0) then dc_b1 (fX5_holds x2 x5 G2) (fun r193 => (if r193 = 0 then fX7_copy_112 G0 G1 G2 G3 Ma N0 N1 N2 N3 else dc_b1 (fX5_holds x4 x5 G2) (fun r196 => (if r196 = 0 then fX7_copy_112 G0 G1 G2 G3 Ma N0 N1 N2 N3 else dc_cp x2 x4 x5 40 40 (dc_lt (va_cpy N2 N2 (Int32.toNatClampNeg x2) (Int32.toNatClampNeg x4) (Int32.toNatClampNeg x5)) (fun N2_199 => some (x5, Ma, N0, N1, N2_199, N3))))))) else dc_b2 (fX7_finding (-1000000003) Ma) (fun r201 Ma_202 => some (r201, Ma_202, N0, N1, N2, N3))) else fX7_copy_45 G0 G1 G2 G3 Ma N0 N1 N2 N3)) else if x3 = 3 then dc_b1 (fX5_isMissing G3) (fun r205 => (if r205 = 0 then (if (G2 0 0) = (G3 0 0) then dc_b1 (fX5_holds x2 x5 G2) (fun r209 => (if r209 = 0 then fX7_copy_112 G0 G1 G2 G3 Ma N0 N1 N2 N3 else dc_b1 (fX5_holds x4 x5 G3) (fun r212 => (if r212 = 0 then fX7_copy_112 G0 G1 G2 G3 Ma N0 N1 N2 N3 else dc_cp x2 x4 x5 40 40 (dc_lt (va_cpy N2 N3 (Int32.toNatClampNeg x2) (Int32.toNatClampNeg x4) (Int32.toNatClampNeg x5)) (fun N3_215 => some (x5, Ma, N0, N1, N2, N3_215))))))) else dc_b2 (fX7_finding (-1000000003) Ma) (fun r217 Ma_218 => some (r217, Ma_218, N0, N1, N2, N3))) else fX7_copy_45 G0 G1 G2 G3 Ma N0 N1 N2 N3)) else none) else fX7_copy_45 G0 G1 G2 G3 Ma N0 N1 N2 N3)) else if x1 = 3 then dc_b1 (fX5_isMissing G3) (fun r221 => (if r221 = 0 then (if x3 = 0 then dc_b1 (fX5_isMissing G0) (fun r225 => (if r225 = 0 then (if (G3 0 0) = (G0 0 0) then dc_b1 (fX5_holds x2 x5 G3) (fun r229 => (if r229 = 0 then fX7_copy_112 G0 G1 G2 G3 Ma N0 N1 N2 N3 else dc_b1 (fX5_holds x4 x5 G0) (fun r232 => (if r232 = 0 then fX7_copy_112 G0 G1 G2 G3 Ma N0 N1 N2 N3 else dc_cp x2 x4 x5 40 40 (dc_lt (va_cpy N3 N0 (Int32.toNatClampNeg x2) (Int32.toNatClampNeg x4) (Int32.toNatClampNeg x5)) (fun N0_235 => some (x5, Ma, N0_235, N1, N2, N3))))))) else dc_b2 (fX7_finding (-1000000003) Ma) (fun r237 Ma_238 => some (r237, Ma_238, N0, N1, N2, N3))) else fX7_copy_45 G0 G1 G2 G3 Ma N0 N1 N2 N3)) else if x3 = 1 then dc_b1 (fX5_isMissing G1) (fun r241 => (if r241 = 0 then (if (G3 0 0) = (G1 0 0) then dc_b1 (fX5_holds x2 x5 G3) (fun r245 => (if r245 = 0 then fX7_copy_112 G0 G1 G2 G3 Ma N0 N1 N2 N3 else dc_b1 (fX5_holds x4 x5 G1) (fun r248 => (if r248 = 0 then fX7_copy_112 G0 G1 G2 G3 Ma N0 N1 N2 N3 else dc_cp x2 x4 x5 40 40 (dc_lt (va_cpy N3 N1 (Int32.toNatClampNeg x2) (Int32.toNatClampNeg x4) (Int32.toNatClampNeg x5)) (fun N1_251 => some (x5, Ma, N0, N1_251, N2, N3))))))) else dc_b2 (fX7_finding (-1000000003) Ma) (fun r253 Ma_254 => some (r253, Ma_254, N0, N1, N2, N3))) else fX7_copy_45 G0 G1 G2 G3 Ma N0 N1 N2 N3)) else if x3 = 2 then dc_b1 (fX5_isMissing G2) (fun r257 => (if r257 = 0 then (if (G3 0 0) = (G2 0 0) then dc_b1 (fX5_holds x2 x5 G3) (fun r261 => (if r261 = 0 then fX7_copy_112 G0 G1 G2 G3 Ma N0 N1 N2 N3 else dc_b1 (fX5_holds x4 x5 G2) (fun r264 => (if r264 = 0 then fX7_copy_112 G0 G1 G2 G3 Ma N0 N1 N2 N3 else dc_cp x2 x4 x5 40 40 (dc_lt (va_cpy N3 N2 (Int32.toNatClampNeg x2) (Int32.toNatClampNeg x4) (Int32.toNatClampNeg x5)) (fun N2_267 => some (x5, Ma, N0, N1, N2_267, N3))))))) else dc_b2 (fX7_finding (-1000000003) Ma) (fun r269 Ma_270 => some (r269, Ma_270, N0, N1, N2, N3))) else fX7_copy_45 G0 G1 G2 G3 Ma N0 N1 N2 N3)) else if x3 = 3 then dc_b1 (fX5_isMissing G3) (fun r273 => (if r273 = 0 then (if (G3 0 0) = (G3 0 0) then dc_b1 (fX5_holds x2 x5 G3) (fun r277 => (if r277 = 0 then fX7_copy_112 G0 G1 G2 G3 Ma N0 N1 N2 N3 else dc_b1 (fX5_holds x4 x5 G3) (fun r280 => (if r280 = 0 then fX7_copy_112 G0 G1 G2 G3 Ma N0 N1 N2 N3 else dc_cp x2 x4 x5 40 40 (dc_lt (va_cpy N3 N3 (Int32.toNatClampNeg x2) (Int32.toNatClampNeg x4) (Int32.toNatClampNeg x5)) (fun N3_283 => some (x5, Ma, N0, N1, N2, N3_283))))))) else dc_b2 (fX7_finding (-1000000003) Ma) (fun r285 Ma_286 => some (r285, Ma_286, N0, N1, N2, N3))) else fX7_copy_45 G0 G1 G2 G3 Ma N0 N1 N2 N3)) else none) else fX7_copy_45 G0 G1 G2 G3 Ma N0 N1 N2 N3)) else none)))))
abbrev rmX7_copy : Room := { frames := 2, cells := 0, slots := 0, locals := 42 }
set_option maxRecDepth 100000 in
set_option maxHeartbeats 4000000 in
theorem tX7_copy (l : Launch) (D : va_G) (cs : Nat → ClassId) (ama : Nat → Nat) (are : Nat → Nat) (are2 : Nat → Nat) (are3 : Nat → Nat) (ach : Nat → Nat) (ata : Nat → Nat) (asa : Nat → Nat) (ag0 : Nat → Nat) (ag1 : Nat → Nat) (ag2 : Nat → Nat) (ag3 : Nat → Nat) (an0 : Nat → Nat) (an1 : Nat → Nat) (an2 : Nat → Nat) (an3 : Nat → Nat) (x1 : Int32) (x2 : Int32) (x3 : Int32) (x4 : Int32) (x5 : Int32) (Ma : ST) (G0 : ST) (N0 : LT) (G1 : ST) (N1 : LT) (G2 : ST) (N2 : LT) (G3 : ST) (N3 : LT) (r0 : Int32) (Maz : ST) (N0z : LT) (N1z : LT) (N2z : LT) (N3z : LT) (hf : fX7_copy x1 x2 x3 x4 x5 Ma G0 N0 G1 N1 G2 N2 G3 N3 = some (r0, Maz, N0z, N1z, N2z, N3z)) : CG l yX7_copy (wsm yX7_copy cX7_copy 6 (some .int)) rmX7_copy D cs [.ref (ama 0), .int x1, .int x2, .int x3, .int x4, .int x5] (some (.int r0)) ((kX7 cs ama (.ref (are 0)) (.ref (are2 0)) (.ref (are3 0)) (.ref (ach 0)) (.ref (ata 0)) (.ref (asa 0)) Ma) ++ ((kSA cs asa (ag0 0) (ag1 0) (ag2 0) (ag3 0)) ++ ((kX5 cs ag0 (.ref (an0 0)) G0) ++ ((kJ40 cs an0 N0) ++ ((kX5 cs ag1 (.ref (an1 0)) G1) ++ ((kJ40 cs an1 N1) ++ ((kX5 cs ag2 (.ref (an2 0)) G2) ++ ((kJ40 cs an2 N2) ++ ((kX5 cs ag3 (.ref (an3 0)) G3) ++ ((kJ40 cs an3 N3))))))))))) ((kX7 cs ama (.ref (are 0)) (.ref (are2 0)) (.ref (are3 0)) (.ref (ach 0)) (.ref (ata 0)) (.ref (asa 0)) Maz) ++ ((kSA cs asa (ag0 0) (ag1 0) (ag2 0) (ag3 0)) ++ ((kX5 cs ag0 (.ref (an0 0)) G0) ++ ((kJ40 cs an0 N0z) ++ ((kX5 cs ag1 (.ref (an1 0)) G1) ++ ((kJ40 cs an1 N1z) ++ ((kX5 cs ag2 (.ref (an2 0)) G2) ++ ((kJ40 cs an2 N2z) ++ ((kX5 cs ag3 (.ref (an3 0)) G3) ++ ((kJ40 cs an3 N3z))))))))))) := by
  refine CG.intro (by decide) (Nat.le_of_ble_eq_true rfl) ?_
  intro p e s m below meth c A Q hx hb hml hown hu hK hZ hP0 hD0 hS0 hA hri hrz hrl hrv hra ls0 hl0
  have h14 : ∀ (Ma : ST) (N0 : LT) (N1 : LT) (N2 : LT) (N3 : LT) (H : Heap) (locs : List Loc) (ls : Array Slot), va_P D vwCl ((kX7 cs ama (.ref (are 0)) (.ref (are2 0)) (.ref (are3 0)) (.ref (ach 0)) (.ref (ata 0)) (.ref (asa 0)) Ma) ++ ((kSA cs asa (ag0 0) (ag1 0) (ag2 0) (ag3 0)) ++ ((kX5 cs ag0 (.ref (an0 0)) G0) ++ ((kJ40 cs an0 N0) ++ ((kX5 cs ag1 (.ref (an1 0)) G1) ++ ((kJ40 cs an1 N1) ++ ((kX5 cs ag2 (.ref (an2 0)) G2) ++ ((kJ40 cs an2 N2) ++ ((kX5 cs ag3 (.ref (an3 0)) G3) ++ ((kJ40 cs an3 N3))))))))))) H → va_D A ((kX7 cs ama (.ref (are 0)) (.ref (are2 0)) (.ref (are3 0)) (.ref (ach 0)) (.ref (ata 0)) (.ref (asa 0)) Ma) ++ ((kSA cs asa (ag0 0) (ag1 0) (ag2 0) (ag3 0)) ++ ((kX5 cs ag0 (.ref (an0 0)) G0) ++ ((kJ40 cs an0 N0) ++ ((kX5 cs ag1 (.ref (an1 0)) G1) ++ ((kJ40 cs an1 N1) ++ ((kX5 cs ag2 (.ref (an2 0)) G2) ++ ((kJ40 cs an2 N2) ++ ((kX5 cs ag3 (.ref (an3 0)) G3) ++ ((kJ40 cs an3 N3))))))))))) → va_S A s.heap H locs → lv_has ls 6 [(0, .ref (ama 0))] → fX7_copy_14 G0 G1 G2 G3 Ma N0 N1 N2 N3 = some (r0, Maz, N0z, N1z, N2z, N3z) → W p l e rmX7_copy s m [.ref (ama 0), .int x1, .int x2, .int x3, .int x4, .int x5].toArray below meth c H locs 0 0 Q (F0 m 14 ls []) := by
    intro Ma N0 N1 N2 N3 H locs ls hP hD hS hl hf
    unfold fX7_copy_14 at hf
    refine lv_aload_n hx hb dX7_copy_14 rfl (lv_at hl 0 rfl) ?_
    refine lv_ldc (v := (-1000000001)) hx hb hown (hu _ q335) dX7_copy_15 ?_
    obtain ⟨r4, Ma_5, hg6, hf⟩ := b2_el hf
    refine cc_V (w' := ((kX7 cs ama (.ref (are 0)) (.ref (are2 0)) (.ref (are3 0)) (.ref (ach 0)) (.ref (ata 0)) (.ref (asa 0)) Ma_5) ++ ((kSA cs asa (ag0 0) (ag1 0) (ag2 0) (ag3 0)) ++ ((kX5 cs ag0 (.ref (an0 0)) G0) ++ ((kJ40 cs an0 N0) ++ ((kX5 cs ag1 (.ref (an1 0)) G1) ++ ((kJ40 cs an1 N1) ++ ((kX5 cs ag2 (.ref (an2 0)) G2) ++ ((kJ40 cs an2 N2) ++ ((kX5 cs ag3 (.ref (an3 0)) G3) ++ ((kJ40 cs an3 N3)))))))))))) (wr := ((kSA cs asa (ag0 0) (ag1 0) (ag2 0) (ag3 0)) ++ ((kX5 cs ag0 (.ref (an0 0)) G0) ++ ((kJ40 cs an0 N0) ++ ((kX5 cs ag1 (.ref (an1 0)) G1) ++ ((kJ40 cs an1 N1) ++ ((kX5 cs ag2 (.ref (an2 0)) G2) ++ ((kJ40 cs an2 N2) ++ ((kX5 cs ag3 (.ref (an3 0)) G3) ++ ((kJ40 cs an3 N3))))))))))) (st1 := [.int r4]) [.int (-1000000001)] hx hb hml hown hu (tX7_finding l D cs ama are are2 are3 ach ata asa (-1000000001) Ma r4 Ma_5 hg6) q339 q54 q336 q338 q0 pdX7_finding ⟨rfl, rfl, Nat.le_of_ble_eq_true rfl, Nat.le_of_ble_eq_true rfl⟩ hK hZ hP hD hS hA [0, 1] [2, 3, 4, 5, 6, 7, 8, 9, 10] [9, 10, 0, 1, 2, 3, 4, 5, 6, 7, 8] rfl rfl rfl rfl rfl rfl rfl rfl rfl rfl hl.1 rfl (Nat.le_of_ble_eq_true rfl) dX7_copy_17 rfl (fun H locs hP hD hS => ?_)
    have he := Option.some.inj hf
    obtain ⟨e0, ht0⟩ := Prod.mk.inj he
    obtain ⟨e1, ht1⟩ := Prod.mk.inj ht0
    obtain ⟨e2, ht2⟩ := Prod.mk.inj ht1
    obtain ⟨e3, ht3⟩ := Prod.mk.inj ht2
    obtain ⟨e4, e5⟩ := Prod.mk.inj ht3
    exact hri _ _ _ rfl (congrArg (fun z => some (Value.int z)) e0.symm) dX7_copy_20 _ _ _ (by rw [e1, e2, e3, e4, e5]) hP hD hS
  have h45 : ∀ (Ma : ST) (N0 : LT) (N1 : LT) (N2 : LT) (N3 : LT) (H : Heap) (locs : List Loc) (ls : Array Slot), va_P D vwCl ((kX7 cs ama (.ref (are 0)) (.ref (are2 0)) (.ref (are3 0)) (.ref (ach 0)) (.ref (ata 0)) (.ref (asa 0)) Ma) ++ ((kSA cs asa (ag0 0) (ag1 0) (ag2 0) (ag3 0)) ++ ((kX5 cs ag0 (.ref (an0 0)) G0) ++ ((kJ40 cs an0 N0) ++ ((kX5 cs ag1 (.ref (an1 0)) G1) ++ ((kJ40 cs an1 N1) ++ ((kX5 cs ag2 (.ref (an2 0)) G2) ++ ((kJ40 cs an2 N2) ++ ((kX5 cs ag3 (.ref (an3 0)) G3) ++ ((kJ40 cs an3 N3))))))))))) H → va_D A ((kX7 cs ama (.ref (are 0)) (.ref (are2 0)) (.ref (are3 0)) (.ref (ach 0)) (.ref (ata 0)) (.ref (asa 0)) Ma) ++ ((kSA cs asa (ag0 0) (ag1 0) (ag2 0) (ag3 0)) ++ ((kX5 cs ag0 (.ref (an0 0)) G0) ++ ((kJ40 cs an0 N0) ++ ((kX5 cs ag1 (.ref (an1 0)) G1) ++ ((kJ40 cs an1 N1) ++ ((kX5 cs ag2 (.ref (an2 0)) G2) ++ ((kJ40 cs an2 N2) ++ ((kX5 cs ag3 (.ref (an3 0)) G3) ++ ((kJ40 cs an3 N3))))))))))) → va_S A s.heap H locs → lv_has ls 6 [(0, .ref (ama 0))] → fX7_copy_45 G0 G1 G2 G3 Ma N0 N1 N2 N3 = some (r0, Maz, N0z, N1z, N2z, N3z) → W p l e rmX7_copy s m [.ref (ama 0), .int x1, .int x2, .int x3, .int x4, .int x5].toArray below meth c H locs 0 0 Q (F0 m 45 ls []) := by
    intro Ma N0 N1 N2 N3 H locs ls hP hD hS hl hf
    unfold fX7_copy_45 at hf
    refine lv_aload_n hx hb dX7_copy_45 rfl (lv_at hl 0 rfl) ?_
    refine lv_ldcw (v := (-1000000006)) hx hb hown (hu _ q861) dX7_copy_46 ?_
    obtain ⟨r14, Ma_15, hg16, hf⟩ := b2_el hf
    refine cc_V (w' := ((kX7 cs ama (.ref (are 0)) (.ref (are2 0)) (.ref (are3 0)) (.ref (ach 0)) (.ref (ata 0)) (.ref (asa 0)) Ma_15) ++ ((kSA cs asa (ag0 0) (ag1 0) (ag2 0) (ag3 0)) ++ ((kX5 cs ag0 (.ref (an0 0)) G0) ++ ((kJ40 cs an0 N0) ++ ((kX5 cs ag1 (.ref (an1 0)) G1) ++ ((kJ40 cs an1 N1) ++ ((kX5 cs ag2 (.ref (an2 0)) G2) ++ ((kJ40 cs an2 N2) ++ ((kX5 cs ag3 (.ref (an3 0)) G3) ++ ((kJ40 cs an3 N3)))))))))))) (wr := ((kSA cs asa (ag0 0) (ag1 0) (ag2 0) (ag3 0)) ++ ((kX5 cs ag0 (.ref (an0 0)) G0) ++ ((kJ40 cs an0 N0) ++ ((kX5 cs ag1 (.ref (an1 0)) G1) ++ ((kJ40 cs an1 N1) ++ ((kX5 cs ag2 (.ref (an2 0)) G2) ++ ((kJ40 cs an2 N2) ++ ((kX5 cs ag3 (.ref (an3 0)) G3) ++ ((kJ40 cs an3 N3))))))))))) (st1 := [.int r14]) [.int (-1000000006)] hx hb hml hown hu (tX7_finding l D cs ama are are2 are3 ach ata asa (-1000000006) Ma r14 Ma_15 hg16) q339 q54 q336 q338 q0 pdX7_finding ⟨rfl, rfl, Nat.le_of_ble_eq_true rfl, Nat.le_of_ble_eq_true rfl⟩ hK hZ hP hD hS hA [0, 1] [2, 3, 4, 5, 6, 7, 8, 9, 10] [9, 10, 0, 1, 2, 3, 4, 5, 6, 7, 8] rfl rfl rfl rfl rfl rfl rfl rfl rfl rfl hl.1 rfl (Nat.le_of_ble_eq_true rfl) dX7_copy_49 rfl (fun H locs hP hD hS => ?_)
    have he := Option.some.inj hf
    obtain ⟨e0, ht0⟩ := Prod.mk.inj he
    obtain ⟨e1, ht1⟩ := Prod.mk.inj ht0
    obtain ⟨e2, ht2⟩ := Prod.mk.inj ht1
    obtain ⟨e3, ht3⟩ := Prod.mk.inj ht2
    obtain ⟨e4, e5⟩ := Prod.mk.inj ht3
    exact hri _ _ _ rfl (congrArg (fun z => some (Value.int z)) e0.symm) dX7_copy_52 _ _ _ (by rw [e1, e2, e3, e4, e5]) hP hD hS
  have h112 : ∀ (Ma : ST) (N0 : LT) (N1 : LT) (N2 : LT) (N3 : LT) (H : Heap) (locs : List Loc) (ls : Array Slot), va_P D vwCl ((kX7 cs ama (.ref (are 0)) (.ref (are2 0)) (.ref (are3 0)) (.ref (ach 0)) (.ref (ata 0)) (.ref (asa 0)) Ma) ++ ((kSA cs asa (ag0 0) (ag1 0) (ag2 0) (ag3 0)) ++ ((kX5 cs ag0 (.ref (an0 0)) G0) ++ ((kJ40 cs an0 N0) ++ ((kX5 cs ag1 (.ref (an1 0)) G1) ++ ((kJ40 cs an1 N1) ++ ((kX5 cs ag2 (.ref (an2 0)) G2) ++ ((kJ40 cs an2 N2) ++ ((kX5 cs ag3 (.ref (an3 0)) G3) ++ ((kJ40 cs an3 N3))))))))))) H → va_D A ((kX7 cs ama (.ref (are 0)) (.ref (are2 0)) (.ref (are3 0)) (.ref (ach 0)) (.ref (ata 0)) (.ref (asa 0)) Ma) ++ ((kSA cs asa (ag0 0) (ag1 0) (ag2 0) (ag3 0)) ++ ((kX5 cs ag0 (.ref (an0 0)) G0) ++ ((kJ40 cs an0 N0) ++ ((kX5 cs ag1 (.ref (an1 0)) G1) ++ ((kJ40 cs an1 N1) ++ ((kX5 cs ag2 (.ref (an2 0)) G2) ++ ((kJ40 cs an2 N2) ++ ((kX5 cs ag3 (.ref (an3 0)) G3) ++ ((kJ40 cs an3 N3))))))))))) → va_S A s.heap H locs → lv_has ls 6 [(0, .ref (ama 0))] → fX7_copy_112 G0 G1 G2 G3 Ma N0 N1 N2 N3 = some (r0, Maz, N0z, N1z, N2z, N3z) → W p l e rmX7_copy s m [.ref (ama 0), .int x1, .int x2, .int x3, .int x4, .int x5].toArray below meth c H locs 0 0 Q (F0 m 112 ls []) := by
    intro Ma N0 N1 N2 N3 H locs ls hP hD hS hl hf
    unfold fX7_copy_112 at hf
    refine lv_aload_n hx hb dX7_copy_112 rfl (lv_at hl 0 rfl) ?_
    refine lv_ldc (v := (-1000000001)) hx hb hown (hu _ q335) dX7_copy_113 ?_
    obtain ⟨r25, Ma_26, hg27, hf⟩ := b2_el hf
    refine cc_V (w' := ((kX7 cs ama (.ref (are 0)) (.ref (are2 0)) (.ref (are3 0)) (.ref (ach 0)) (.ref (ata 0)) (.ref (asa 0)) Ma_26) ++ ((kSA cs asa (ag0 0) (ag1 0) (ag2 0) (ag3 0)) ++ ((kX5 cs ag0 (.ref (an0 0)) G0) ++ ((kJ40 cs an0 N0) ++ ((kX5 cs ag1 (.ref (an1 0)) G1) ++ ((kJ40 cs an1 N1) ++ ((kX5 cs ag2 (.ref (an2 0)) G2) ++ ((kJ40 cs an2 N2) ++ ((kX5 cs ag3 (.ref (an3 0)) G3) ++ ((kJ40 cs an3 N3)))))))))))) (wr := ((kSA cs asa (ag0 0) (ag1 0) (ag2 0) (ag3 0)) ++ ((kX5 cs ag0 (.ref (an0 0)) G0) ++ ((kJ40 cs an0 N0) ++ ((kX5 cs ag1 (.ref (an1 0)) G1) ++ ((kJ40 cs an1 N1) ++ ((kX5 cs ag2 (.ref (an2 0)) G2) ++ ((kJ40 cs an2 N2) ++ ((kX5 cs ag3 (.ref (an3 0)) G3) ++ ((kJ40 cs an3 N3))))))))))) (st1 := [.int r25]) [.int (-1000000001)] hx hb hml hown hu (tX7_finding l D cs ama are are2 are3 ach ata asa (-1000000001) Ma r25 Ma_26 hg27) q339 q54 q336 q338 q0 pdX7_finding ⟨rfl, rfl, Nat.le_of_ble_eq_true rfl, Nat.le_of_ble_eq_true rfl⟩ hK hZ hP hD hS hA [0, 1] [2, 3, 4, 5, 6, 7, 8, 9, 10] [9, 10, 0, 1, 2, 3, 4, 5, 6, 7, 8] rfl rfl rfl rfl rfl rfl rfl rfl rfl rfl hl.1 rfl (Nat.le_of_ble_eq_true rfl) dX7_copy_115 rfl (fun H locs hP hD hS => ?_)
    have he := Option.some.inj hf
    obtain ⟨e0, ht0⟩ := Prod.mk.inj he
    obtain ⟨e1, ht1⟩ := Prod.mk.inj ht0
    obtain ⟨e2, ht2⟩ := Prod.mk.inj ht1
    obtain ⟨e3, ht3⟩ := Prod.mk.inj ht2
    obtain ⟨e4, e5⟩ := Prod.mk.inj ht3
    exact hri _ _ _ rfl (congrArg (fun z => some (Value.int z)) e0.symm) dX7_copy_118 _ _ _ (by rw [e1, e2, e3, e4, e5]) hP hD hS
  have hl : lv_has ls0 6 [(0, .ref (ama 0)), (1, .int x1), (2, .int x2), (3, .int x3), (4, .int x4), (5, .int x5)] := hl0
  have hP := hP0
  have hD := hD0
  have hS := hS0
  unfold fX7_copy at hf
  refine lv_iload_n hx hb dX7_copy_0 rfl (lv_at hl 1 rfl) ?_
  obtain ⟨r1, hg2, hf⟩ := b1_el hf
  refine cc_S0 (st1 := [.int r1]) [.int x1] hx hb hml hown hu (tX7_isSheet l D cs x1 r1 hg2) q844 q54 q842 q843 pdX7_isSheet ⟨rfl, rfl, Nat.le_of_ble_eq_true rfl, Nat.le_of_ble_eq_true rfl⟩ hK hZ hP hD hS hA rfl hl.1 rfl (Nat.le_of_ble_eq_true rfl) dX7_copy_1 rfl (fun H locs hP hD hS => ?_)
  refine lv_if_eq (tgt := 14) hx hb dX7_copy_4 (by decide) (fun hc3 => ?_) (fun hc3 => ?_)
  · have hf := ip_el hc3 hf
    exact h14 Ma N0 N1 N2 N3 _ _ _ hP hD hS (lv_sub hl [0] rfl) hf
  · have hf := in_el hc3 hf
    refine lv_iload_n hx hb dX7_copy_7 rfl (lv_at hl 3 rfl) ?_
    obtain ⟨r7, hg8, hf⟩ := b1_el hf
    refine cc_S0 (st1 := [.int r7]) [.int x3] hx hb hml hown hu (tX7_isSheet l D cs x3 r7 hg8) q844 q54 q842 q843 pdX7_isSheet ⟨rfl, rfl, Nat.le_of_ble_eq_true rfl, Nat.le_of_ble_eq_true rfl⟩ hK hZ hP hD hS hA rfl hl.1 rfl (Nat.le_of_ble_eq_true rfl) dX7_copy_8 rfl (fun H locs hP hD hS => ?_)
    refine lv_if_ne (tgt := 21) hx hb dX7_copy_11 (by decide) (fun hc9 => ?_) (fun hc9 => ?_)
    · have hf := in_el hc9 hf
      refine lv_aload_n hx hb dX7_copy_21 rfl (lv_at hl 0 rfl) ?_
      refine va_get (D := D) (ci := 7) (v := .ref (asa 0)) (C := RX7) (T := TX7) (N := 8) hx hb hu inX7 hown hK.1 hP 0 rfl rfl 5 (by decide) (hu _ q305) (fun _ h9 => h9) rfl dX7_copy_22 ?_
      refine lv_iload_n hx hb dX7_copy_25 rfl (lv_at hl 1 rfl) ?_
      by_cases hc10 : x1 = 0
      · have hf := ip_el hc10 hf
        refine sa_lit (e := ag0 0) hx hb hK hP 2 rfl (k := 0) (by rw [hc10]; decide) rfl dX7_copy_26 ?_
        obtain ⟨r11, hg12, hf⟩ := b1_el hf
        refine cc_V (w' := ((kX7 cs ama (.ref (are 0)) (.ref (are2 0)) (.ref (are3 0)) (.ref (ach 0)) (.ref (ata 0)) (.ref (asa 0)) Ma) ++ ((kSA cs asa (ag0 0) (ag1 0) (ag2 0) (ag3 0)) ++ ((kX5 cs ag0 (.ref (an0 0)) G0) ++ ((kJ40 cs an0 N0) ++ ((kX5 cs ag1 (.ref (an1 0)) G1) ++ ((kJ40 cs an1 N1) ++ ((kX5 cs ag2 (.ref (an2 0)) G2) ++ ((kJ40 cs an2 N2) ++ ((kX5 cs ag3 (.ref (an3 0)) G3) ++ ((kJ40 cs an3 N3)))))))))))) (wr := ((kX7 cs ama (.ref (are 0)) (.ref (are2 0)) (.ref (are3 0)) (.ref (ach 0)) (.ref (ata 0)) (.ref (asa 0)) Ma) ++ ((kSA cs asa (ag0 0) (ag1 0) (ag2 0) (ag3 0)) ++ ((kJ40 cs an0 N0) ++ ((kX5 cs ag1 (.ref (an1 0)) G1) ++ ((kJ40 cs an1 N1) ++ ((kX5 cs ag2 (.ref (an2 0)) G2) ++ ((kJ40 cs an2 N2) ++ ((kX5 cs ag3 (.ref (an3 0)) G3) ++ ((kJ40 cs an3 N3))))))))))) (st1 := [.int r11]) [] hx hb hml hown hu (tX5_isMissing l D cs ag0 an0 G0 r11 hg12) q860 q61 q857 q858 q859 pdX5_isMissing ⟨rfl, rfl, Nat.le_of_ble_eq_true rfl, Nat.le_of_ble_eq_true rfl⟩ hK hZ hP hD hS hA [3] [0, 1, 2, 4, 5, 6, 7, 8, 9, 10] [0, 1, 2, 10, 3, 4, 5, 6, 7, 8, 9] rfl rfl rfl rfl rfl rfl rfl rfl rfl rfl hl.1 rfl (Nat.le_of_ble_eq_true rfl) dX7_copy_27 rfl (fun H locs hP hD hS => ?_)
        refine lv_if_ne (tgt := 45) hx hb dX7_copy_30 (by decide) (fun hc13 => ?_) (fun hc13 => ?_)
        · have hf := in_el hc13 hf
          exact h45 Ma N0 N1 N2 N3 _ _ _ hP hD hS (lv_sub hl [0] rfl) hf
        · have hf := ip_el hc13 hf
          refine lv_aload_n hx hb dX7_copy_33 rfl (lv_at hl 0 rfl) ?_
          refine va_get (D := D) (ci := 7) (v := .ref (asa 0)) (C := RX7) (T := TX7) (N := 8) hx hb hu inX7 hown hK.1 hP 0 rfl rfl 5 (by decide) (hu _ q305) (fun _ h9 => h9) rfl dX7_copy_34 ?_
          refine lv_iload_n hx hb dX7_copy_37 rfl (lv_at hl 3 rfl) ?_
          by_cases hc17 : x3 = 0
          · have hf := ip_el hc17 hf
            refine sa_lit (e := ag0 0) hx hb hK hP 2 rfl (k := 0) (by rw [hc17]; decide) rfl dX7_copy_38 ?_
            obtain ⟨r18, hg19, hf⟩ := b1_el hf
            refine cc_V (w' := ((kX7 cs ama (.ref (are 0)) (.ref (are2 0)) (.ref (are3 0)) (.ref (ach 0)) (.ref (ata 0)) (.ref (asa 0)) Ma) ++ ((kSA cs asa (ag0 0) (ag1 0) (ag2 0) (ag3 0)) ++ ((kX5 cs ag0 (.ref (an0 0)) G0) ++ ((kJ40 cs an0 N0) ++ ((kX5 cs ag1 (.ref (an1 0)) G1) ++ ((kJ40 cs an1 N1) ++ ((kX5 cs ag2 (.ref (an2 0)) G2) ++ ((kJ40 cs an2 N2) ++ ((kX5 cs ag3 (.ref (an3 0)) G3) ++ ((kJ40 cs an3 N3)))))))))))) (wr := ((kX7 cs ama (.ref (are 0)) (.ref (are2 0)) (.ref (are3 0)) (.ref (ach 0)) (.ref (ata 0)) (.ref (asa 0)) Ma) ++ ((kSA cs asa (ag0 0) (ag1 0) (ag2 0) (ag3 0)) ++ ((kJ40 cs an0 N0) ++ ((kX5 cs ag1 (.ref (an1 0)) G1) ++ ((kJ40 cs an1 N1) ++ ((kX5 cs ag2 (.ref (an2 0)) G2) ++ ((kJ40 cs an2 N2) ++ ((kX5 cs ag3 (.ref (an3 0)) G3) ++ ((kJ40 cs an3 N3))))))))))) (st1 := [.int r18]) [] hx hb hml hown hu (tX5_isMissing l D cs ag0 an0 G0 r18 hg19) q860 q61 q857 q858 q859 pdX5_isMissing ⟨rfl, rfl, Nat.le_of_ble_eq_true rfl, Nat.le_of_ble_eq_true rfl⟩ hK hZ hP hD hS hA [3] [0, 1, 2, 4, 5, 6, 7, 8, 9, 10] [0, 1, 2, 10, 3, 4, 5, 6, 7, 8, 9] rfl rfl rfl rfl rfl rfl rfl rfl rfl rfl hl.1 rfl (Nat.le_of_ble_eq_true rfl) dX7_copy_39 rfl (fun H locs hP hD hS => ?_)
            refine lv_if_eq (tgt := 53) hx hb dX7_copy_42 (by decide) (fun hc20 => ?_) (fun hc20 => ?_)
            · have hf := ip_el hc20 hf
              refine lv_aload_n hx hb dX7_copy_53 rfl (lv_at hl 0 rfl) ?_
              refine va_get (D := D) (ci := 7) (v := .ref (asa 0)) (C := RX7) (T := TX7) (N := 8) hx hb hu inX7 hown hK.1 hP 0 rfl rfl 5 (by decide) (hu _ q305) (fun _ h9 => h9) rfl dX7_copy_54 ?_
              refine lv_iload_n hx hb dX7_copy_57 rfl (lv_at hl 1 rfl) ?_
              refine sa_lit (e := ag0 0) hx hb hK hP 2 rfl (k := 0) (by rw [hc10]; decide) rfl dX7_copy_58 ?_
              refine va_get (D := D) (ci := 5) (v := .int (G0 0 0)) (C := RX5) (T := TX5) (N := 3) hx hb hu inX5 hown hK.1 hP 3 rfl rfl 0 (by decide) (hu _ q287) (fun _ h9 => h9) rfl dX7_copy_59 ?_
              refine lv_aload_n hx hb dX7_copy_62 rfl (lv_at hl 0 rfl) ?_
              refine va_get (D := D) (ci := 7) (v := .ref (asa 0)) (C := RX7) (T := TX7) (N := 8) hx hb hu inX7 hown hK.1 hP 0 rfl rfl 5 (by decide) (hu _ q305) (fun _ h9 => h9) rfl dX7_copy_63 ?_
              refine lv_iload_n hx hb dX7_copy_66 rfl (lv_at hl 3 rfl) ?_
              refine sa_lit (e := ag0 0) hx hb hK hP 2 rfl (k := 0) (by rw [hc17]; decide) rfl dX7_copy_67 ?_
              refine va_get (D := D) (ci := 5) (v := .int (G0 0 0)) (C := RX5) (T := TX5) (N := 3) hx hb hu inX5 hown hK.1 hP 3 rfl rfl 0 (by decide) (hu _ q287) (fun _ h9 => h9) rfl dX7_copy_68 ?_
              refine lv_icmp_eq (tgt := 81) hx hb dX7_copy_71 (by decide) (fun hc21 => ?_) (fun hc21 => ?_)
              · have hf := ip_el hc21 hf
                refine lv_aload_n hx hb dX7_copy_81 rfl (lv_at hl 0 rfl) ?_
                refine va_get (D := D) (ci := 7) (v := .ref (asa 0)) (C := RX7) (T := TX7) (N := 8) hx hb hu inX7 hown hK.1 hP 0 rfl rfl 5 (by decide) (hu _ q305) (fun _ h9 => h9) rfl dX7_copy_82 ?_
                refine lv_iload_n hx hb dX7_copy_85 rfl (lv_at hl 1 rfl) ?_
                refine sa_lit (e := ag0 0) hx hb hK hP 2 rfl (k := 0) (by rw [hc10]; decide) rfl dX7_copy_86 ?_
                refine lv_iload_n hx hb dX7_copy_87 rfl (lv_at hl 2 rfl) ?_
                refine lv_iload hx hb dX7_copy_88 (lv_at hl 5 rfl) ?_
                obtain ⟨r22, hg23, hf⟩ := b1_el hf
                refine cc_V (w' := ((kX7 cs ama (.ref (are 0)) (.ref (are2 0)) (.ref (are3 0)) (.ref (ach 0)) (.ref (ata 0)) (.ref (asa 0)) Ma) ++ ((kSA cs asa (ag0 0) (ag1 0) (ag2 0) (ag3 0)) ++ ((kX5 cs ag0 (.ref (an0 0)) G0) ++ ((kJ40 cs an0 N0) ++ ((kX5 cs ag1 (.ref (an1 0)) G1) ++ ((kJ40 cs an1 N1) ++ ((kX5 cs ag2 (.ref (an2 0)) G2) ++ ((kJ40 cs an2 N2) ++ ((kX5 cs ag3 (.ref (an3 0)) G3) ++ ((kJ40 cs an3 N3)))))))))))) (wr := ((kX7 cs ama (.ref (are 0)) (.ref (are2 0)) (.ref (are3 0)) (.ref (ach 0)) (.ref (ata 0)) (.ref (asa 0)) Ma) ++ ((kSA cs asa (ag0 0) (ag1 0) (ag2 0) (ag3 0)) ++ ((kJ40 cs an0 N0) ++ ((kX5 cs ag1 (.ref (an1 0)) G1) ++ ((kJ40 cs an1 N1) ++ ((kX5 cs ag2 (.ref (an2 0)) G2) ++ ((kJ40 cs an2 N2) ++ ((kX5 cs ag3 (.ref (an3 0)) G3) ++ ((kJ40 cs an3 N3))))))))))) (st1 := [.int r22]) [.int x2, .int x5] hx hb hml hown hu (tX5_holds l D cs ag0 an0 x2 x5 G0 r22 hg23) q873 q61 q870 q871 q872 pdX5_holds ⟨rfl, rfl, Nat.le_of_ble_eq_true rfl, Nat.le_of_ble_eq_true rfl⟩ hK hZ hP hD hS hA [3] [0, 1, 2, 4, 5, 6, 7, 8, 9, 10] [0, 1, 2, 10, 3, 4, 5, 6, 7, 8, 9] rfl rfl rfl rfl rfl rfl rfl rfl rfl rfl hl.1 rfl (Nat.le_of_ble_eq_true rfl) dX7_copy_90 rfl (fun H locs hP hD hS => ?_)
                refine lv_if_eq (tgt := 112) hx hb dX7_copy_93 (by decide) (fun hc24 => ?_) (fun hc24 => ?_)
                · have hf := ip_el hc24 hf
                  exact h112 Ma N0 N1 N2 N3 _ _ _ hP hD hS (lv_sub hl [0] rfl) hf
                · have hf := in_el hc24 hf
                  refine lv_aload_n hx hb dX7_copy_96 rfl (lv_at hl 0 rfl) ?_
                  refine va_get (D := D) (ci := 7) (v := .ref (asa 0)) (C := RX7) (T := TX7) (N := 8) hx hb hu inX7 hown hK.1 hP 0 rfl rfl 5 (by decide) (hu _ q305) (fun _ h9 => h9) rfl dX7_copy_97 ?_
                  refine lv_iload_n hx hb dX7_copy_100 rfl (lv_at hl 3 rfl) ?_
                  refine sa_lit (e := ag0 0) hx hb hK hP 2 rfl (k := 0) (by rw [hc17]; decide) rfl dX7_copy_101 ?_
                  refine lv_iload hx hb dX7_copy_102 (lv_at hl 4 rfl) ?_
                  refine lv_iload hx hb dX7_copy_104 (lv_at hl 5 rfl) ?_
                  obtain ⟨r28, hg29, hf⟩ := b1_el hf
                  refine cc_V (w' := ((kX7 cs ama (.ref (are 0)) (.ref (are2 0)) (.ref (are3 0)) (.ref (ach 0)) (.ref (ata 0)) (.ref (asa 0)) Ma) ++ ((kSA cs asa (ag0 0) (ag1 0) (ag2 0) (ag3 0)) ++ ((kX5 cs ag0 (.ref (an0 0)) G0) ++ ((kJ40 cs an0 N0) ++ ((kX5 cs ag1 (.ref (an1 0)) G1) ++ ((kJ40 cs an1 N1) ++ ((kX5 cs ag2 (.ref (an2 0)) G2) ++ ((kJ40 cs an2 N2) ++ ((kX5 cs ag3 (.ref (an3 0)) G3) ++ ((kJ40 cs an3 N3)))))))))))) (wr := ((kX7 cs ama (.ref (are 0)) (.ref (are2 0)) (.ref (are3 0)) (.ref (ach 0)) (.ref (ata 0)) (.ref (asa 0)) Ma) ++ ((kSA cs asa (ag0 0) (ag1 0) (ag2 0) (ag3 0)) ++ ((kJ40 cs an0 N0) ++ ((kX5 cs ag1 (.ref (an1 0)) G1) ++ ((kJ40 cs an1 N1) ++ ((kX5 cs ag2 (.ref (an2 0)) G2) ++ ((kJ40 cs an2 N2) ++ ((kX5 cs ag3 (.ref (an3 0)) G3) ++ ((kJ40 cs an3 N3))))))))))) (st1 := [.int r28]) [.int x4, .int x5] hx hb hml hown hu (tX5_holds l D cs ag0 an0 x4 x5 G0 r28 hg29) q873 q61 q870 q871 q872 pdX5_holds ⟨rfl, rfl, Nat.le_of_ble_eq_true rfl, Nat.le_of_ble_eq_true rfl⟩ hK hZ hP hD hS hA [3] [0, 1, 2, 4, 5, 6, 7, 8, 9, 10] [0, 1, 2, 10, 3, 4, 5, 6, 7, 8, 9] rfl rfl rfl rfl rfl rfl rfl rfl rfl rfl hl.1 rfl (Nat.le_of_ble_eq_true rfl) dX7_copy_106 rfl (fun H locs hP hD hS => ?_)
                  refine lv_if_ne (tgt := 119) hx hb dX7_copy_109 (by decide) (fun hc30 => ?_) (fun hc30 => ?_)
                  · have hf := in_el hc30 hf
                    refine lv_aload_n hx hb dX7_copy_119 rfl (lv_at hl 0 rfl) ?_
                    refine va_get (D := D) (ci := 7) (v := .ref (asa 0)) (C := RX7) (T := TX7) (N := 8) hx hb hu inX7 hown hK.1 hP 0 rfl rfl 5 (by decide) (hu _ q305) (fun _ h9 => h9) rfl dX7_copy_120 ?_
                    refine lv_iload_n hx hb dX7_copy_123 rfl (lv_at hl 1 rfl) ?_
                    refine sa_lit (e := ag0 0) hx hb hK hP 2 rfl (k := 0) (by rw [hc10]; decide) rfl dX7_copy_124 ?_
                    refine va_get (D := D) (ci := 5) (v := .ref (an0 0)) (C := RX5) (T := TX5) (N := 3) hx hb hu inX5 hown hK.1 hP 3 rfl rfl 2 (by decide) (hu _ q291) (fun _ h9 => h9) rfl dX7_copy_125 ?_
                    refine lv_iload_n hx hb dX7_copy_128 rfl (lv_at hl 2 rfl) ?_
                    refine lv_aload_n hx hb dX7_copy_129 rfl (lv_at hl 0 rfl) ?_
                    refine va_get (D := D) (ci := 7) (v := .ref (asa 0)) (C := RX7) (T := TX7) (N := 8) hx hb hu inX7 hown hK.1 hP 0 rfl rfl 5 (by decide) (hu _ q305) (fun _ h9 => h9) rfl dX7_copy_130 ?_
                    refine lv_iload_n hx hb dX7_copy_133 rfl (lv_at hl 3 rfl) ?_
                    refine sa_lit (e := ag0 0) hx hb hK hP 2 rfl (k := 0) (by rw [hc17]; decide) rfl dX7_copy_134 ?_
                    refine va_get (D := D) (ci := 5) (v := .ref (an0 0)) (C := RX5) (T := TX5) (N := 3) hx hb hu inX5 hown hK.1 hP 3 rfl rfl 2 (by decide) (hu _ q291) (fun _ h9 => h9) rfl dX7_copy_135 ?_
                    refine lv_iload hx hb dX7_copy_138 (lv_at hl 4 rfl) ?_
                    refine lv_iload hx hb dX7_copy_140 (lv_at hl 5 rfl) ?_
                    obtain ⟨hq32, hf⟩ := cp_el hf
                    obtain ⟨N0_31, hN0_31, hf⟩ := lt_el hf
                    refine va_copyl hx hb (hml.trans hl.1.symm) hown (hu _ q874) (hu _ q431) (hu _ q430) (hu _ q63) hK.1 hP hD hS 4 4 1 1 rfl rfl rfl rfl rfl hq32.1 hq32.2.1 hq32.2.2.1 hq32.2.2.2.1 hq32.2.2.2.2 (fun _ _ => rfl) (Nat.le_of_ble_eq_true rfl) (Nat.le_of_ble_eq_true rfl) dX7_copy_142 (fun H locs hP hD hS => ?_)
                    have hP : va_P D vwCl ((kX7 cs ama (.ref (are 0)) (.ref (are2 0)) (.ref (are3 0)) (.ref (ach 0)) (.ref (ata 0)) (.ref (asa 0)) Ma) ++ ((kSA cs asa (ag0 0) (ag1 0) (ag2 0) (ag3 0)) ++ ((kX5 cs ag0 (.ref (an0 0)) G0) ++ ((kJ40 cs an0 N0_31) ++ ((kX5 cs ag1 (.ref (an1 0)) G1) ++ ((kJ40 cs an1 N1) ++ ((kX5 cs ag2 (.ref (an2 0)) G2) ++ ((kJ40 cs an2 N2) ++ ((kX5 cs ag3 (.ref (an3 0)) G3) ++ ((kJ40 cs an3 N3))))))))))) H := by rw [hN0_31]; exact hP
                    have hD : va_D A ((kX7 cs ama (.ref (are 0)) (.ref (are2 0)) (.ref (are3 0)) (.ref (ach 0)) (.ref (ata 0)) (.ref (asa 0)) Ma) ++ ((kSA cs asa (ag0 0) (ag1 0) (ag2 0) (ag3 0)) ++ ((kX5 cs ag0 (.ref (an0 0)) G0) ++ ((kJ40 cs an0 N0_31) ++ ((kX5 cs ag1 (.ref (an1 0)) G1) ++ ((kJ40 cs an1 N1) ++ ((kX5 cs ag2 (.ref (an2 0)) G2) ++ ((kJ40 cs an2 N2) ++ ((kX5 cs ag3 (.ref (an3 0)) G3) ++ ((kJ40 cs an3 N3))))))))))) := by rw [hN0_31]; exact hD
                    refine lv_iload hx hb dX7_copy_145 (lv_at hl 5 rfl) ?_
                    have he := Option.some.inj hf
                    obtain ⟨e0, ht0⟩ := Prod.mk.inj he
                    obtain ⟨e1, ht1⟩ := Prod.mk.inj ht0
                    obtain ⟨e2, ht2⟩ := Prod.mk.inj ht1
                    obtain ⟨e3, ht3⟩ := Prod.mk.inj ht2
                    obtain ⟨e4, e5⟩ := Prod.mk.inj ht3
                    exact hri _ _ _ rfl (congrArg (fun z => some (Value.int z)) e0.symm) dX7_copy_147 _ _ _ (by rw [e1, e2, e3, e4, e5]) hP hD hS
                  · have hf := ip_el hc30 hf
                    exact h112 Ma N0 N1 N2 N3 _ _ _ hP hD hS (lv_sub hl [0] rfl) hf
              · have hf := in_el hc21 hf
                refine lv_aload_n hx hb dX7_copy_74 rfl (lv_at hl 0 rfl) ?_
                refine lv_ldc (v := (-1000000003)) hx hb hown (hu _ q465) dX7_copy_75 ?_
                obtain ⟨r33, Ma_34, hg35, hf⟩ := b2_el hf
                refine cc_V (w' := ((kX7 cs ama (.ref (are 0)) (.ref (are2 0)) (.ref (are3 0)) (.ref (ach 0)) (.ref (ata 0)) (.ref (asa 0)) Ma_34) ++ ((kSA cs asa (ag0 0) (ag1 0) (ag2 0) (ag3 0)) ++ ((kX5 cs ag0 (.ref (an0 0)) G0) ++ ((kJ40 cs an0 N0) ++ ((kX5 cs ag1 (.ref (an1 0)) G1) ++ ((kJ40 cs an1 N1) ++ ((kX5 cs ag2 (.ref (an2 0)) G2) ++ ((kJ40 cs an2 N2) ++ ((kX5 cs ag3 (.ref (an3 0)) G3) ++ ((kJ40 cs an3 N3)))))))))))) (wr := ((kSA cs asa (ag0 0) (ag1 0) (ag2 0) (ag3 0)) ++ ((kX5 cs ag0 (.ref (an0 0)) G0) ++ ((kJ40 cs an0 N0) ++ ((kX5 cs ag1 (.ref (an1 0)) G1) ++ ((kJ40 cs an1 N1) ++ ((kX5 cs ag2 (.ref (an2 0)) G2) ++ ((kJ40 cs an2 N2) ++ ((kX5 cs ag3 (.ref (an3 0)) G3) ++ ((kJ40 cs an3 N3))))))))))) (st1 := [.int r33]) [.int (-1000000003)] hx hb hml hown hu (tX7_finding l D cs ama are are2 are3 ach ata asa (-1000000003) Ma r33 Ma_34 hg35) q339 q54 q336 q338 q0 pdX7_finding ⟨rfl, rfl, Nat.le_of_ble_eq_true rfl, Nat.le_of_ble_eq_true rfl⟩ hK hZ hP hD hS hA [0, 1] [2, 3, 4, 5, 6, 7, 8, 9, 10] [9, 10, 0, 1, 2, 3, 4, 5, 6, 7, 8] rfl rfl rfl rfl rfl rfl rfl rfl rfl rfl hl.1 rfl (Nat.le_of_ble_eq_true rfl) dX7_copy_77 rfl (fun H locs hP hD hS => ?_)
                have he := Option.some.inj hf
                obtain ⟨e0, ht0⟩ := Prod.mk.inj he
                obtain ⟨e1, ht1⟩ := Prod.mk.inj ht0
                obtain ⟨e2, ht2⟩ := Prod.mk.inj ht1
                obtain ⟨e3, ht3⟩ := Prod.mk.inj ht2
                obtain ⟨e4, e5⟩ := Prod.mk.inj ht3
                exact hri _ _ _ rfl (congrArg (fun z => some (Value.int z)) e0.symm) dX7_copy_80 _ _ _ (by rw [e1, e2, e3, e4, e5]) hP hD hS
            · have hf := in_el hc20 hf
              exact h45 Ma N0 N1 N2 N3 _ _ _ hP hD hS (lv_sub hl [0] rfl) hf
          have hf := in_el hc17 hf
          by_cases hc36 : x3 = 1
          · have hf := ip_el hc36 hf
            refine sa_lit (e := ag1 0) hx hb hK hP 2 rfl (k := 1) (by rw [hc36]; decide) rfl dX7_copy_38 ?_
            obtain ⟨r37, hg38, hf⟩ := b1_el hf
            refine cc_V (w' := ((kX7 cs ama (.ref (are 0)) (.ref (are2 0)) (.ref (are3 0)) (.ref (ach 0)) (.ref (ata 0)) (.ref (asa 0)) Ma) ++ ((kSA cs asa (ag0 0) (ag1 0) (ag2 0) (ag3 0)) ++ ((kX5 cs ag0 (.ref (an0 0)) G0) ++ ((kJ40 cs an0 N0) ++ ((kX5 cs ag1 (.ref (an1 0)) G1) ++ ((kJ40 cs an1 N1) ++ ((kX5 cs ag2 (.ref (an2 0)) G2) ++ ((kJ40 cs an2 N2) ++ ((kX5 cs ag3 (.ref (an3 0)) G3) ++ ((kJ40 cs an3 N3)))))))))))) (wr := ((kX7 cs ama (.ref (are 0)) (.ref (are2 0)) (.ref (are3 0)) (.ref (ach 0)) (.ref (ata 0)) (.ref (asa 0)) Ma) ++ ((kSA cs asa (ag0 0) (ag1 0) (ag2 0) (ag3 0)) ++ ((kX5 cs ag0 (.ref (an0 0)) G0) ++ ((kJ40 cs an0 N0) ++ ((kJ40 cs an1 N1) ++ ((kX5 cs ag2 (.ref (an2 0)) G2) ++ ((kJ40 cs an2 N2) ++ ((kX5 cs ag3 (.ref (an3 0)) G3) ++ ((kJ40 cs an3 N3))))))))))) (st1 := [.int r37]) [] hx hb hml hown hu (tX5_isMissing l D cs ag1 an1 G1 r37 hg38) q860 q61 q857 q858 q859 pdX5_isMissing ⟨rfl, rfl, Nat.le_of_ble_eq_true rfl, Nat.le_of_ble_eq_true rfl⟩ hK hZ hP hD hS hA [5] [0, 1, 2, 3, 4, 6, 7, 8, 9, 10] [0, 1, 2, 3, 4, 10, 5, 6, 7, 8, 9] rfl rfl rfl rfl rfl rfl rfl rfl rfl rfl hl.1 rfl (Nat.le_of_ble_eq_true rfl) dX7_copy_39 rfl (fun H locs hP hD hS => ?_)
            refine lv_if_eq (tgt := 53) hx hb dX7_copy_42 (by decide) (fun hc39 => ?_) (fun hc39 => ?_)
            · have hf := ip_el hc39 hf
              refine lv_aload_n hx hb dX7_copy_53 rfl (lv_at hl 0 rfl) ?_
              refine va_get (D := D) (ci := 7) (v := .ref (asa 0)) (C := RX7) (T := TX7) (N := 8) hx hb hu inX7 hown hK.1 hP 0 rfl rfl 5 (by decide) (hu _ q305) (fun _ h9 => h9) rfl dX7_copy_54 ?_
              refine lv_iload_n hx hb dX7_copy_57 rfl (lv_at hl 1 rfl) ?_
              refine sa_lit (e := ag0 0) hx hb hK hP 2 rfl (k := 0) (by rw [hc10]; decide) rfl dX7_copy_58 ?_
              refine va_get (D := D) (ci := 5) (v := .int (G0 0 0)) (C := RX5) (T := TX5) (N := 3) hx hb hu inX5 hown hK.1 hP 3 rfl rfl 0 (by decide) (hu _ q287) (fun _ h9 => h9) rfl dX7_copy_59 ?_
              refine lv_aload_n hx hb dX7_copy_62 rfl (lv_at hl 0 rfl) ?_
              refine va_get (D := D) (ci := 7) (v := .ref (asa 0)) (C := RX7) (T := TX7) (N := 8) hx hb hu inX7 hown hK.1 hP 0 rfl rfl 5 (by decide) (hu _ q305) (fun _ h9 => h9) rfl dX7_copy_63 ?_
              refine lv_iload_n hx hb dX7_copy_66 rfl (lv_at hl 3 rfl) ?_
              refine sa_lit (e := ag1 0) hx hb hK hP 2 rfl (k := 1) (by rw [hc36]; decide) rfl dX7_copy_67 ?_
              refine va_get (D := D) (ci := 5) (v := .int (G1 0 0)) (C := RX5) (T := TX5) (N := 3) hx hb hu inX5 hown hK.1 hP 5 rfl rfl 0 (by decide) (hu _ q287) (fun _ h9 => h9) rfl dX7_copy_68 ?_
              refine lv_icmp_eq (tgt := 81) hx hb dX7_copy_71 (by decide) (fun hc40 => ?_) (fun hc40 => ?_)
              · have hf := ip_el hc40 hf
                refine lv_aload_n hx hb dX7_copy_81 rfl (lv_at hl 0 rfl) ?_
                refine va_get (D := D) (ci := 7) (v := .ref (asa 0)) (C := RX7) (T := TX7) (N := 8) hx hb hu inX7 hown hK.1 hP 0 rfl rfl 5 (by decide) (hu _ q305) (fun _ h9 => h9) rfl dX7_copy_82 ?_
                refine lv_iload_n hx hb dX7_copy_85 rfl (lv_at hl 1 rfl) ?_
                refine sa_lit (e := ag0 0) hx hb hK hP 2 rfl (k := 0) (by rw [hc10]; decide) rfl dX7_copy_86 ?_
                refine lv_iload_n hx hb dX7_copy_87 rfl (lv_at hl 2 rfl) ?_
                refine lv_iload hx hb dX7_copy_88 (lv_at hl 5 rfl) ?_
                obtain ⟨r41, hg42, hf⟩ := b1_el hf
                refine cc_V (w' := ((kX7 cs ama (.ref (are 0)) (.ref (are2 0)) (.ref (are3 0)) (.ref (ach 0)) (.ref (ata 0)) (.ref (asa 0)) Ma) ++ ((kSA cs asa (ag0 0) (ag1 0) (ag2 0) (ag3 0)) ++ ((kX5 cs ag0 (.ref (an0 0)) G0) ++ ((kJ40 cs an0 N0) ++ ((kX5 cs ag1 (.ref (an1 0)) G1) ++ ((kJ40 cs an1 N1) ++ ((kX5 cs ag2 (.ref (an2 0)) G2) ++ ((kJ40 cs an2 N2) ++ ((kX5 cs ag3 (.ref (an3 0)) G3) ++ ((kJ40 cs an3 N3)))))))))))) (wr := ((kX7 cs ama (.ref (are 0)) (.ref (are2 0)) (.ref (are3 0)) (.ref (ach 0)) (.ref (ata 0)) (.ref (asa 0)) Ma) ++ ((kSA cs asa (ag0 0) (ag1 0) (ag2 0) (ag3 0)) ++ ((kJ40 cs an0 N0) ++ ((kX5 cs ag1 (.ref (an1 0)) G1) ++ ((kJ40 cs an1 N1) ++ ((kX5 cs ag2 (.ref (an2 0)) G2) ++ ((kJ40 cs an2 N2) ++ ((kX5 cs ag3 (.ref (an3 0)) G3) ++ ((kJ40 cs an3 N3))))))))))) (st1 := [.int r41]) [.int x2, .int x5] hx hb hml hown hu (tX5_holds l D cs ag0 an0 x2 x5 G0 r41 hg42) q873 q61 q870 q871 q872 pdX5_holds ⟨rfl, rfl, Nat.le_of_ble_eq_true rfl, Nat.le_of_ble_eq_true rfl⟩ hK hZ hP hD hS hA [3] [0, 1, 2, 4, 5, 6, 7, 8, 9, 10] [0, 1, 2, 10, 3, 4, 5, 6, 7, 8, 9] rfl rfl rfl rfl rfl rfl rfl rfl rfl rfl hl.1 rfl (Nat.le_of_ble_eq_true rfl) dX7_copy_90 rfl (fun H locs hP hD hS => ?_)
                refine lv_if_eq (tgt := 112) hx hb dX7_copy_93 (by decide) (fun hc43 => ?_) (fun hc43 => ?_)
                · have hf := ip_el hc43 hf
                  exact h112 Ma N0 N1 N2 N3 _ _ _ hP hD hS (lv_sub hl [0] rfl) hf
                · have hf := in_el hc43 hf
                  refine lv_aload_n hx hb dX7_copy_96 rfl (lv_at hl 0 rfl) ?_
                  refine va_get (D := D) (ci := 7) (v := .ref (asa 0)) (C := RX7) (T := TX7) (N := 8) hx hb hu inX7 hown hK.1 hP 0 rfl rfl 5 (by decide) (hu _ q305) (fun _ h9 => h9) rfl dX7_copy_97 ?_
                  refine lv_iload_n hx hb dX7_copy_100 rfl (lv_at hl 3 rfl) ?_
                  refine sa_lit (e := ag1 0) hx hb hK hP 2 rfl (k := 1) (by rw [hc36]; decide) rfl dX7_copy_101 ?_
                  refine lv_iload hx hb dX7_copy_102 (lv_at hl 4 rfl) ?_
                  refine lv_iload hx hb dX7_copy_104 (lv_at hl 5 rfl) ?_
                  obtain ⟨r44, hg45, hf⟩ := b1_el hf
                  refine cc_V (w' := ((kX7 cs ama (.ref (are 0)) (.ref (are2 0)) (.ref (are3 0)) (.ref (ach 0)) (.ref (ata 0)) (.ref (asa 0)) Ma) ++ ((kSA cs asa (ag0 0) (ag1 0) (ag2 0) (ag3 0)) ++ ((kX5 cs ag0 (.ref (an0 0)) G0) ++ ((kJ40 cs an0 N0) ++ ((kX5 cs ag1 (.ref (an1 0)) G1) ++ ((kJ40 cs an1 N1) ++ ((kX5 cs ag2 (.ref (an2 0)) G2) ++ ((kJ40 cs an2 N2) ++ ((kX5 cs ag3 (.ref (an3 0)) G3) ++ ((kJ40 cs an3 N3)))))))))))) (wr := ((kX7 cs ama (.ref (are 0)) (.ref (are2 0)) (.ref (are3 0)) (.ref (ach 0)) (.ref (ata 0)) (.ref (asa 0)) Ma) ++ ((kSA cs asa (ag0 0) (ag1 0) (ag2 0) (ag3 0)) ++ ((kX5 cs ag0 (.ref (an0 0)) G0) ++ ((kJ40 cs an0 N0) ++ ((kJ40 cs an1 N1) ++ ((kX5 cs ag2 (.ref (an2 0)) G2) ++ ((kJ40 cs an2 N2) ++ ((kX5 cs ag3 (.ref (an3 0)) G3) ++ ((kJ40 cs an3 N3))))))))))) (st1 := [.int r44]) [.int x4, .int x5] hx hb hml hown hu (tX5_holds l D cs ag1 an1 x4 x5 G1 r44 hg45) q873 q61 q870 q871 q872 pdX5_holds ⟨rfl, rfl, Nat.le_of_ble_eq_true rfl, Nat.le_of_ble_eq_true rfl⟩ hK hZ hP hD hS hA [5] [0, 1, 2, 3, 4, 6, 7, 8, 9, 10] [0, 1, 2, 3, 4, 10, 5, 6, 7, 8, 9] rfl rfl rfl rfl rfl rfl rfl rfl rfl rfl hl.1 rfl (Nat.le_of_ble_eq_true rfl) dX7_copy_106 rfl (fun H locs hP hD hS => ?_)
                  refine lv_if_ne (tgt := 119) hx hb dX7_copy_109 (by decide) (fun hc46 => ?_) (fun hc46 => ?_)
                  · have hf := in_el hc46 hf
                    refine lv_aload_n hx hb dX7_copy_119 rfl (lv_at hl 0 rfl) ?_
                    refine va_get (D := D) (ci := 7) (v := .ref (asa 0)) (C := RX7) (T := TX7) (N := 8) hx hb hu inX7 hown hK.1 hP 0 rfl rfl 5 (by decide) (hu _ q305) (fun _ h9 => h9) rfl dX7_copy_120 ?_
                    refine lv_iload_n hx hb dX7_copy_123 rfl (lv_at hl 1 rfl) ?_
                    refine sa_lit (e := ag0 0) hx hb hK hP 2 rfl (k := 0) (by rw [hc10]; decide) rfl dX7_copy_124 ?_
                    refine va_get (D := D) (ci := 5) (v := .ref (an0 0)) (C := RX5) (T := TX5) (N := 3) hx hb hu inX5 hown hK.1 hP 3 rfl rfl 2 (by decide) (hu _ q291) (fun _ h9 => h9) rfl dX7_copy_125 ?_
                    refine lv_iload_n hx hb dX7_copy_128 rfl (lv_at hl 2 rfl) ?_
                    refine lv_aload_n hx hb dX7_copy_129 rfl (lv_at hl 0 rfl) ?_
                    refine va_get (D := D) (ci := 7) (v := .ref (asa 0)) (C := RX7) (T := TX7) (N := 8) hx hb hu inX7 hown hK.1 hP 0 rfl rfl 5 (by decide) (hu _ q305) (fun _ h9 => h9) rfl dX7_copy_130 ?_
                    refine lv_iload_n hx hb dX7_copy_133 rfl (lv_at hl 3 rfl) ?_
                    refine sa_lit (e := ag1 0) hx hb hK hP 2 rfl (k := 1) (by rw [hc36]; decide) rfl dX7_copy_134 ?_
                    refine va_get (D := D) (ci := 5) (v := .ref (an1 0)) (C := RX5) (T := TX5) (N := 3) hx hb hu inX5 hown hK.1 hP 5 rfl rfl 2 (by decide) (hu _ q291) (fun _ h9 => h9) rfl dX7_copy_135 ?_
                    refine lv_iload hx hb dX7_copy_138 (lv_at hl 4 rfl) ?_
                    refine lv_iload hx hb dX7_copy_140 (lv_at hl 5 rfl) ?_
                    obtain ⟨hq48, hf⟩ := cp_el hf
                    obtain ⟨N1_47, hN1_47, hf⟩ := lt_el hf
                    refine va_copyl hx hb (hml.trans hl.1.symm) hown (hu _ q874) (hu _ q431) (hu _ q430) (hu _ q63) hK.1 hP hD hS 4 6 1 1 rfl rfl rfl rfl rfl hq48.1 hq48.2.1 hq48.2.2.1 hq48.2.2.2.1 hq48.2.2.2.2 (fun _ _ => rfl) (Nat.le_of_ble_eq_true rfl) (Nat.le_of_ble_eq_true rfl) dX7_copy_142 (fun H locs hP hD hS => ?_)
                    have hP : va_P D vwCl ((kX7 cs ama (.ref (are 0)) (.ref (are2 0)) (.ref (are3 0)) (.ref (ach 0)) (.ref (ata 0)) (.ref (asa 0)) Ma) ++ ((kSA cs asa (ag0 0) (ag1 0) (ag2 0) (ag3 0)) ++ ((kX5 cs ag0 (.ref (an0 0)) G0) ++ ((kJ40 cs an0 N0) ++ ((kX5 cs ag1 (.ref (an1 0)) G1) ++ ((kJ40 cs an1 N1_47) ++ ((kX5 cs ag2 (.ref (an2 0)) G2) ++ ((kJ40 cs an2 N2) ++ ((kX5 cs ag3 (.ref (an3 0)) G3) ++ ((kJ40 cs an3 N3))))))))))) H := by rw [hN1_47]; exact hP
                    have hD : va_D A ((kX7 cs ama (.ref (are 0)) (.ref (are2 0)) (.ref (are3 0)) (.ref (ach 0)) (.ref (ata 0)) (.ref (asa 0)) Ma) ++ ((kSA cs asa (ag0 0) (ag1 0) (ag2 0) (ag3 0)) ++ ((kX5 cs ag0 (.ref (an0 0)) G0) ++ ((kJ40 cs an0 N0) ++ ((kX5 cs ag1 (.ref (an1 0)) G1) ++ ((kJ40 cs an1 N1_47) ++ ((kX5 cs ag2 (.ref (an2 0)) G2) ++ ((kJ40 cs an2 N2) ++ ((kX5 cs ag3 (.ref (an3 0)) G3) ++ ((kJ40 cs an3 N3))))))))))) := by rw [hN1_47]; exact hD
                    refine lv_iload hx hb dX7_copy_145 (lv_at hl 5 rfl) ?_
                    have he := Option.some.inj hf
                    obtain ⟨e0, ht0⟩ := Prod.mk.inj he
                    obtain ⟨e1, ht1⟩ := Prod.mk.inj ht0
                    obtain ⟨e2, ht2⟩ := Prod.mk.inj ht1
                    obtain ⟨e3, ht3⟩ := Prod.mk.inj ht2
                    obtain ⟨e4, e5⟩ := Prod.mk.inj ht3
                    exact hri _ _ _ rfl (congrArg (fun z => some (Value.int z)) e0.symm) dX7_copy_147 _ _ _ (by rw [e1, e2, e3, e4, e5]) hP hD hS
                  · have hf := ip_el hc46 hf
                    exact h112 Ma N0 N1 N2 N3 _ _ _ hP hD hS (lv_sub hl [0] rfl) hf
              · have hf := in_el hc40 hf
                refine lv_aload_n hx hb dX7_copy_74 rfl (lv_at hl 0 rfl) ?_
                refine lv_ldc (v := (-1000000003)) hx hb hown (hu _ q465) dX7_copy_75 ?_
                obtain ⟨r49, Ma_50, hg51, hf⟩ := b2_el hf
                refine cc_V (w' := ((kX7 cs ama (.ref (are 0)) (.ref (are2 0)) (.ref (are3 0)) (.ref (ach 0)) (.ref (ata 0)) (.ref (asa 0)) Ma_50) ++ ((kSA cs asa (ag0 0) (ag1 0) (ag2 0) (ag3 0)) ++ ((kX5 cs ag0 (.ref (an0 0)) G0) ++ ((kJ40 cs an0 N0) ++ ((kX5 cs ag1 (.ref (an1 0)) G1) ++ ((kJ40 cs an1 N1) ++ ((kX5 cs ag2 (.ref (an2 0)) G2) ++ ((kJ40 cs an2 N2) ++ ((kX5 cs ag3 (.ref (an3 0)) G3) ++ ((kJ40 cs an3 N3)))))))))))) (wr := ((kSA cs asa (ag0 0) (ag1 0) (ag2 0) (ag3 0)) ++ ((kX5 cs ag0 (.ref (an0 0)) G0) ++ ((kJ40 cs an0 N0) ++ ((kX5 cs ag1 (.ref (an1 0)) G1) ++ ((kJ40 cs an1 N1) ++ ((kX5 cs ag2 (.ref (an2 0)) G2) ++ ((kJ40 cs an2 N2) ++ ((kX5 cs ag3 (.ref (an3 0)) G3) ++ ((kJ40 cs an3 N3))))))))))) (st1 := [.int r49]) [.int (-1000000003)] hx hb hml hown hu (tX7_finding l D cs ama are are2 are3 ach ata asa (-1000000003) Ma r49 Ma_50 hg51) q339 q54 q336 q338 q0 pdX7_finding ⟨rfl, rfl, Nat.le_of_ble_eq_true rfl, Nat.le_of_ble_eq_true rfl⟩ hK hZ hP hD hS hA [0, 1] [2, 3, 4, 5, 6, 7, 8, 9, 10] [9, 10, 0, 1, 2, 3, 4, 5, 6, 7, 8] rfl rfl rfl rfl rfl rfl rfl rfl rfl rfl hl.1 rfl (Nat.le_of_ble_eq_true rfl) dX7_copy_77 rfl (fun H locs hP hD hS => ?_)
                have he := Option.some.inj hf
                obtain ⟨e0, ht0⟩ := Prod.mk.inj he
                obtain ⟨e1, ht1⟩ := Prod.mk.inj ht0
                obtain ⟨e2, ht2⟩ := Prod.mk.inj ht1
                obtain ⟨e3, ht3⟩ := Prod.mk.inj ht2
                obtain ⟨e4, e5⟩ := Prod.mk.inj ht3
                exact hri _ _ _ rfl (congrArg (fun z => some (Value.int z)) e0.symm) dX7_copy_80 _ _ _ (by rw [e1, e2, e3, e4, e5]) hP hD hS
            · have hf := in_el hc39 hf
              exact h45 Ma N0 N1 N2 N3 _ _ _ hP hD hS (lv_sub hl [0] rfl) hf
          have hf := in_el hc36 hf
          by_cases hc52 : x3 = 2
          · have hf := ip_el hc52 hf
            refine sa_lit (e := ag2 0) hx hb hK hP 2 rfl (k := 2) (by rw [hc52]; decide) rfl dX7_copy_38 ?_
            obtain ⟨r53, hg54, hf⟩ := b1_el hf
            refine cc_V (w' := ((kX7 cs ama (.ref (are 0)) (.ref (are2 0)) (.ref (are3 0)) (.ref (ach 0)) (.ref (ata 0)) (.ref (asa 0)) Ma) ++ ((kSA cs asa (ag0 0) (ag1 0) (ag2 0) (ag3 0)) ++ ((kX5 cs ag0 (.ref (an0 0)) G0) ++ ((kJ40 cs an0 N0) ++ ((kX5 cs ag1 (.ref (an1 0)) G1) ++ ((kJ40 cs an1 N1) ++ ((kX5 cs ag2 (.ref (an2 0)) G2) ++ ((kJ40 cs an2 N2) ++ ((kX5 cs ag3 (.ref (an3 0)) G3) ++ ((kJ40 cs an3 N3)))))))))))) (wr := ((kX7 cs ama (.ref (are 0)) (.ref (are2 0)) (.ref (are3 0)) (.ref (ach 0)) (.ref (ata 0)) (.ref (asa 0)) Ma) ++ ((kSA cs asa (ag0 0) (ag1 0) (ag2 0) (ag3 0)) ++ ((kX5 cs ag0 (.ref (an0 0)) G0) ++ ((kJ40 cs an0 N0) ++ ((kX5 cs ag1 (.ref (an1 0)) G1) ++ ((kJ40 cs an1 N1) ++ ((kJ40 cs an2 N2) ++ ((kX5 cs ag3 (.ref (an3 0)) G3) ++ ((kJ40 cs an3 N3))))))))))) (st1 := [.int r53]) [] hx hb hml hown hu (tX5_isMissing l D cs ag2 an2 G2 r53 hg54) q860 q61 q857 q858 q859 pdX5_isMissing ⟨rfl, rfl, Nat.le_of_ble_eq_true rfl, Nat.le_of_ble_eq_true rfl⟩ hK hZ hP hD hS hA [7] [0, 1, 2, 3, 4, 5, 6, 8, 9, 10] [0, 1, 2, 3, 4, 5, 6, 10, 7, 8, 9] rfl rfl rfl rfl rfl rfl rfl rfl rfl rfl hl.1 rfl (Nat.le_of_ble_eq_true rfl) dX7_copy_39 rfl (fun H locs hP hD hS => ?_)
            refine lv_if_eq (tgt := 53) hx hb dX7_copy_42 (by decide) (fun hc55 => ?_) (fun hc55 => ?_)
            · have hf := ip_el hc55 hf
              refine lv_aload_n hx hb dX7_copy_53 rfl (lv_at hl 0 rfl) ?_
              refine va_get (D := D) (ci := 7) (v := .ref (asa 0)) (C := RX7) (T := TX7) (N := 8) hx hb hu inX7 hown hK.1 hP 0 rfl rfl 5 (by decide) (hu _ q305) (fun _ h9 => h9) rfl dX7_copy_54 ?_
              refine lv_iload_n hx hb dX7_copy_57 rfl (lv_at hl 1 rfl) ?_
              refine sa_lit (e := ag0 0) hx hb hK hP 2 rfl (k := 0) (by rw [hc10]; decide) rfl dX7_copy_58 ?_
              refine va_get (D := D) (ci := 5) (v := .int (G0 0 0)) (C := RX5) (T := TX5) (N := 3) hx hb hu inX5 hown hK.1 hP 3 rfl rfl 0 (by decide) (hu _ q287) (fun _ h9 => h9) rfl dX7_copy_59 ?_
              refine lv_aload_n hx hb dX7_copy_62 rfl (lv_at hl 0 rfl) ?_
              refine va_get (D := D) (ci := 7) (v := .ref (asa 0)) (C := RX7) (T := TX7) (N := 8) hx hb hu inX7 hown hK.1 hP 0 rfl rfl 5 (by decide) (hu _ q305) (fun _ h9 => h9) rfl dX7_copy_63 ?_
              refine lv_iload_n hx hb dX7_copy_66 rfl (lv_at hl 3 rfl) ?_
              refine sa_lit (e := ag2 0) hx hb hK hP 2 rfl (k := 2) (by rw [hc52]; decide) rfl dX7_copy_67 ?_
              refine va_get (D := D) (ci := 5) (v := .int (G2 0 0)) (C := RX5) (T := TX5) (N := 3) hx hb hu inX5 hown hK.1 hP 7 rfl rfl 0 (by decide) (hu _ q287) (fun _ h9 => h9) rfl dX7_copy_68 ?_
              refine lv_icmp_eq (tgt := 81) hx hb dX7_copy_71 (by decide) (fun hc56 => ?_) (fun hc56 => ?_)
              · have hf := ip_el hc56 hf
                refine lv_aload_n hx hb dX7_copy_81 rfl (lv_at hl 0 rfl) ?_
                refine va_get (D := D) (ci := 7) (v := .ref (asa 0)) (C := RX7) (T := TX7) (N := 8) hx hb hu inX7 hown hK.1 hP 0 rfl rfl 5 (by decide) (hu _ q305) (fun _ h9 => h9) rfl dX7_copy_82 ?_
                refine lv_iload_n hx hb dX7_copy_85 rfl (lv_at hl 1 rfl) ?_
                refine sa_lit (e := ag0 0) hx hb hK hP 2 rfl (k := 0) (by rw [hc10]; decide) rfl dX7_copy_86 ?_
                refine lv_iload_n hx hb dX7_copy_87 rfl (lv_at hl 2 rfl) ?_
                refine lv_iload hx hb dX7_copy_88 (lv_at hl 5 rfl) ?_
                obtain ⟨r57, hg58, hf⟩ := b1_el hf
                refine cc_V (w' := ((kX7 cs ama (.ref (are 0)) (.ref (are2 0)) (.ref (are3 0)) (.ref (ach 0)) (.ref (ata 0)) (.ref (asa 0)) Ma) ++ ((kSA cs asa (ag0 0) (ag1 0) (ag2 0) (ag3 0)) ++ ((kX5 cs ag0 (.ref (an0 0)) G0) ++ ((kJ40 cs an0 N0) ++ ((kX5 cs ag1 (.ref (an1 0)) G1) ++ ((kJ40 cs an1 N1) ++ ((kX5 cs ag2 (.ref (an2 0)) G2) ++ ((kJ40 cs an2 N2) ++ ((kX5 cs ag3 (.ref (an3 0)) G3) ++ ((kJ40 cs an3 N3)))))))))))) (wr := ((kX7 cs ama (.ref (are 0)) (.ref (are2 0)) (.ref (are3 0)) (.ref (ach 0)) (.ref (ata 0)) (.ref (asa 0)) Ma) ++ ((kSA cs asa (ag0 0) (ag1 0) (ag2 0) (ag3 0)) ++ ((kJ40 cs an0 N0) ++ ((kX5 cs ag1 (.ref (an1 0)) G1) ++ ((kJ40 cs an1 N1) ++ ((kX5 cs ag2 (.ref (an2 0)) G2) ++ ((kJ40 cs an2 N2) ++ ((kX5 cs ag3 (.ref (an3 0)) G3) ++ ((kJ40 cs an3 N3))))))))))) (st1 := [.int r57]) [.int x2, .int x5] hx hb hml hown hu (tX5_holds l D cs ag0 an0 x2 x5 G0 r57 hg58) q873 q61 q870 q871 q872 pdX5_holds ⟨rfl, rfl, Nat.le_of_ble_eq_true rfl, Nat.le_of_ble_eq_true rfl⟩ hK hZ hP hD hS hA [3] [0, 1, 2, 4, 5, 6, 7, 8, 9, 10] [0, 1, 2, 10, 3, 4, 5, 6, 7, 8, 9] rfl rfl rfl rfl rfl rfl rfl rfl rfl rfl hl.1 rfl (Nat.le_of_ble_eq_true rfl) dX7_copy_90 rfl (fun H locs hP hD hS => ?_)
                refine lv_if_eq (tgt := 112) hx hb dX7_copy_93 (by decide) (fun hc59 => ?_) (fun hc59 => ?_)
                · have hf := ip_el hc59 hf
                  exact h112 Ma N0 N1 N2 N3 _ _ _ hP hD hS (lv_sub hl [0] rfl) hf
                · have hf := in_el hc59 hf
                  refine lv_aload_n hx hb dX7_copy_96 rfl (lv_at hl 0 rfl) ?_
                  refine va_get (D := D) (ci := 7) (v := .ref (asa 0)) (C := RX7) (T := TX7) (N := 8) hx hb hu inX7 hown hK.1 hP 0 rfl rfl 5 (by decide) (hu _ q305) (fun _ h9 => h9) rfl dX7_copy_97 ?_
                  refine lv_iload_n hx hb dX7_copy_100 rfl (lv_at hl 3 rfl) ?_
                  refine sa_lit (e := ag2 0) hx hb hK hP 2 rfl (k := 2) (by rw [hc52]; decide) rfl dX7_copy_101 ?_
                  refine lv_iload hx hb dX7_copy_102 (lv_at hl 4 rfl) ?_
                  refine lv_iload hx hb dX7_copy_104 (lv_at hl 5 rfl) ?_
                  obtain ⟨r60, hg61, hf⟩ := b1_el hf
                  refine cc_V (w' := ((kX7 cs ama (.ref (are 0)) (.ref (are2 0)) (.ref (are3 0)) (.ref (ach 0)) (.ref (ata 0)) (.ref (asa 0)) Ma) ++ ((kSA cs asa (ag0 0) (ag1 0) (ag2 0) (ag3 0)) ++ ((kX5 cs ag0 (.ref (an0 0)) G0) ++ ((kJ40 cs an0 N0) ++ ((kX5 cs ag1 (.ref (an1 0)) G1) ++ ((kJ40 cs an1 N1) ++ ((kX5 cs ag2 (.ref (an2 0)) G2) ++ ((kJ40 cs an2 N2) ++ ((kX5 cs ag3 (.ref (an3 0)) G3) ++ ((kJ40 cs an3 N3)))))))))))) (wr := ((kX7 cs ama (.ref (are 0)) (.ref (are2 0)) (.ref (are3 0)) (.ref (ach 0)) (.ref (ata 0)) (.ref (asa 0)) Ma) ++ ((kSA cs asa (ag0 0) (ag1 0) (ag2 0) (ag3 0)) ++ ((kX5 cs ag0 (.ref (an0 0)) G0) ++ ((kJ40 cs an0 N0) ++ ((kX5 cs ag1 (.ref (an1 0)) G1) ++ ((kJ40 cs an1 N1) ++ ((kJ40 cs an2 N2) ++ ((kX5 cs ag3 (.ref (an3 0)) G3) ++ ((kJ40 cs an3 N3))))))))))) (st1 := [.int r60]) [.int x4, .int x5] hx hb hml hown hu (tX5_holds l D cs ag2 an2 x4 x5 G2 r60 hg61) q873 q61 q870 q871 q872 pdX5_holds ⟨rfl, rfl, Nat.le_of_ble_eq_true rfl, Nat.le_of_ble_eq_true rfl⟩ hK hZ hP hD hS hA [7] [0, 1, 2, 3, 4, 5, 6, 8, 9, 10] [0, 1, 2, 3, 4, 5, 6, 10, 7, 8, 9] rfl rfl rfl rfl rfl rfl rfl rfl rfl rfl hl.1 rfl (Nat.le_of_ble_eq_true rfl) dX7_copy_106 rfl (fun H locs hP hD hS => ?_)
                  refine lv_if_ne (tgt := 119) hx hb dX7_copy_109 (by decide) (fun hc62 => ?_) (fun hc62 => ?_)
                  · have hf := in_el hc62 hf
                    refine lv_aload_n hx hb dX7_copy_119 rfl (lv_at hl 0 rfl) ?_
                    refine va_get (D := D) (ci := 7) (v := .ref (asa 0)) (C := RX7) (T := TX7) (N := 8) hx hb hu inX7 hown hK.1 hP 0 rfl rfl 5 (by decide) (hu _ q305) (fun _ h9 => h9) rfl dX7_copy_120 ?_
                    refine lv_iload_n hx hb dX7_copy_123 rfl (lv_at hl 1 rfl) ?_
                    refine sa_lit (e := ag0 0) hx hb hK hP 2 rfl (k := 0) (by rw [hc10]; decide) rfl dX7_copy_124 ?_
                    refine va_get (D := D) (ci := 5) (v := .ref (an0 0)) (C := RX5) (T := TX5) (N := 3) hx hb hu inX5 hown hK.1 hP 3 rfl rfl 2 (by decide) (hu _ q291) (fun _ h9 => h9) rfl dX7_copy_125 ?_
                    refine lv_iload_n hx hb dX7_copy_128 rfl (lv_at hl 2 rfl) ?_
                    refine lv_aload_n hx hb dX7_copy_129 rfl (lv_at hl 0 rfl) ?_
                    refine va_get (D := D) (ci := 7) (v := .ref (asa 0)) (C := RX7) (T := TX7) (N := 8) hx hb hu inX7 hown hK.1 hP 0 rfl rfl 5 (by decide) (hu _ q305) (fun _ h9 => h9) rfl dX7_copy_130 ?_
                    refine lv_iload_n hx hb dX7_copy_133 rfl (lv_at hl 3 rfl) ?_
                    refine sa_lit (e := ag2 0) hx hb hK hP 2 rfl (k := 2) (by rw [hc52]; decide) rfl dX7_copy_134 ?_
                    refine va_get (D := D) (ci := 5) (v := .ref (an2 0)) (C := RX5) (T := TX5) (N := 3) hx hb hu inX5 hown hK.1 hP 7 rfl rfl 2 (by decide) (hu _ q291) (fun _ h9 => h9) rfl dX7_copy_135 ?_
                    refine lv_iload hx hb dX7_copy_138 (lv_at hl 4 rfl) ?_
                    refine lv_iload hx hb dX7_copy_140 (lv_at hl 5 rfl) ?_
                    obtain ⟨hq64, hf⟩ := cp_el hf
                    obtain ⟨N2_63, hN2_63, hf⟩ := lt_el hf
                    refine va_copyl hx hb (hml.trans hl.1.symm) hown (hu _ q874) (hu _ q431) (hu _ q430) (hu _ q63) hK.1 hP hD hS 4 8 1 1 rfl rfl rfl rfl rfl hq64.1 hq64.2.1 hq64.2.2.1 hq64.2.2.2.1 hq64.2.2.2.2 (fun _ _ => rfl) (Nat.le_of_ble_eq_true rfl) (Nat.le_of_ble_eq_true rfl) dX7_copy_142 (fun H locs hP hD hS => ?_)
                    have hP : va_P D vwCl ((kX7 cs ama (.ref (are 0)) (.ref (are2 0)) (.ref (are3 0)) (.ref (ach 0)) (.ref (ata 0)) (.ref (asa 0)) Ma) ++ ((kSA cs asa (ag0 0) (ag1 0) (ag2 0) (ag3 0)) ++ ((kX5 cs ag0 (.ref (an0 0)) G0) ++ ((kJ40 cs an0 N0) ++ ((kX5 cs ag1 (.ref (an1 0)) G1) ++ ((kJ40 cs an1 N1) ++ ((kX5 cs ag2 (.ref (an2 0)) G2) ++ ((kJ40 cs an2 N2_63) ++ ((kX5 cs ag3 (.ref (an3 0)) G3) ++ ((kJ40 cs an3 N3))))))))))) H := by rw [hN2_63]; exact hP
                    have hD : va_D A ((kX7 cs ama (.ref (are 0)) (.ref (are2 0)) (.ref (are3 0)) (.ref (ach 0)) (.ref (ata 0)) (.ref (asa 0)) Ma) ++ ((kSA cs asa (ag0 0) (ag1 0) (ag2 0) (ag3 0)) ++ ((kX5 cs ag0 (.ref (an0 0)) G0) ++ ((kJ40 cs an0 N0) ++ ((kX5 cs ag1 (.ref (an1 0)) G1) ++ ((kJ40 cs an1 N1) ++ ((kX5 cs ag2 (.ref (an2 0)) G2) ++ ((kJ40 cs an2 N2_63) ++ ((kX5 cs ag3 (.ref (an3 0)) G3) ++ ((kJ40 cs an3 N3))))))))))) := by rw [hN2_63]; exact hD
                    refine lv_iload hx hb dX7_copy_145 (lv_at hl 5 rfl) ?_
                    have he := Option.some.inj hf
                    obtain ⟨e0, ht0⟩ := Prod.mk.inj he
                    obtain ⟨e1, ht1⟩ := Prod.mk.inj ht0
                    obtain ⟨e2, ht2⟩ := Prod.mk.inj ht1
                    obtain ⟨e3, ht3⟩ := Prod.mk.inj ht2
                    obtain ⟨e4, e5⟩ := Prod.mk.inj ht3
                    exact hri _ _ _ rfl (congrArg (fun z => some (Value.int z)) e0.symm) dX7_copy_147 _ _ _ (by rw [e1, e2, e3, e4, e5]) hP hD hS
                  · have hf := ip_el hc62 hf
                    exact h112 Ma N0 N1 N2 N3 _ _ _ hP hD hS (lv_sub hl [0] rfl) hf
              · have hf := in_el hc56 hf
                refine lv_aload_n hx hb dX7_copy_74 rfl (lv_at hl 0 rfl) ?_
                refine lv_ldc (v := (-1000000003)) hx hb hown (hu _ q465) dX7_copy_75 ?_
                obtain ⟨r65, Ma_66, hg67, hf⟩ := b2_el hf
                refine cc_V (w' := ((kX7 cs ama (.ref (are 0)) (.ref (are2 0)) (.ref (are3 0)) (.ref (ach 0)) (.ref (ata 0)) (.ref (asa 0)) Ma_66) ++ ((kSA cs asa (ag0 0) (ag1 0) (ag2 0) (ag3 0)) ++ ((kX5 cs ag0 (.ref (an0 0)) G0) ++ ((kJ40 cs an0 N0) ++ ((kX5 cs ag1 (.ref (an1 0)) G1) ++ ((kJ40 cs an1 N1) ++ ((kX5 cs ag2 (.ref (an2 0)) G2) ++ ((kJ40 cs an2 N2) ++ ((kX5 cs ag3 (.ref (an3 0)) G3) ++ ((kJ40 cs an3 N3)))))))))))) (wr := ((kSA cs asa (ag0 0) (ag1 0) (ag2 0) (ag3 0)) ++ ((kX5 cs ag0 (.ref (an0 0)) G0) ++ ((kJ40 cs an0 N0) ++ ((kX5 cs ag1 (.ref (an1 0)) G1) ++ ((kJ40 cs an1 N1) ++ ((kX5 cs ag2 (.ref (an2 0)) G2) ++ ((kJ40 cs an2 N2) ++ ((kX5 cs ag3 (.ref (an3 0)) G3) ++ ((kJ40 cs an3 N3))))))))))) (st1 := [.int r65]) [.int (-1000000003)] hx hb hml hown hu (tX7_finding l D cs ama are are2 are3 ach ata asa (-1000000003) Ma r65 Ma_66 hg67) q339 q54 q336 q338 q0 pdX7_finding ⟨rfl, rfl, Nat.le_of_ble_eq_true rfl, Nat.le_of_ble_eq_true rfl⟩ hK hZ hP hD hS hA [0, 1] [2, 3, 4, 5, 6, 7, 8, 9, 10] [9, 10, 0, 1, 2, 3, 4, 5, 6, 7, 8] rfl rfl rfl rfl rfl rfl rfl rfl rfl rfl hl.1 rfl (Nat.le_of_ble_eq_true rfl) dX7_copy_77 rfl (fun H locs hP hD hS => ?_)
                have he := Option.some.inj hf
                obtain ⟨e0, ht0⟩ := Prod.mk.inj he
                obtain ⟨e1, ht1⟩ := Prod.mk.inj ht0
                obtain ⟨e2, ht2⟩ := Prod.mk.inj ht1
                obtain ⟨e3, ht3⟩ := Prod.mk.inj ht2
                obtain ⟨e4, e5⟩ := Prod.mk.inj ht3
                exact hri _ _ _ rfl (congrArg (fun z => some (Value.int z)) e0.symm) dX7_copy_80 _ _ _ (by rw [e1, e2, e3, e4, e5]) hP hD hS
            · have hf := in_el hc55 hf
              exact h45 Ma N0 N1 N2 N3 _ _ _ hP hD hS (lv_sub hl [0] rfl) hf
          have hf := in_el hc52 hf
          by_cases hc68 : x3 = 3
          · have hf := ip_el hc68 hf
            refine sa_lit (e := ag3 0) hx hb hK hP 2 rfl (k := 3) (by rw [hc68]; decide) rfl dX7_copy_38 ?_
            obtain ⟨r69, hg70, hf⟩ := b1_el hf
            refine cc_V (w' := ((kX7 cs ama (.ref (are 0)) (.ref (are2 0)) (.ref (are3 0)) (.ref (ach 0)) (.ref (ata 0)) (.ref (asa 0)) Ma) ++ ((kSA cs asa (ag0 0) (ag1 0) (ag2 0) (ag3 0)) ++ ((kX5 cs ag0 (.ref (an0 0)) G0) ++ ((kJ40 cs an0 N0) ++ ((kX5 cs ag1 (.ref (an1 0)) G1) ++ ((kJ40 cs an1 N1) ++ ((kX5 cs ag2 (.ref (an2 0)) G2) ++ ((kJ40 cs an2 N2) ++ ((kX5 cs ag3 (.ref (an3 0)) G3) ++ ((kJ40 cs an3 N3)))))))))))) (wr := ((kX7 cs ama (.ref (are 0)) (.ref (are2 0)) (.ref (are3 0)) (.ref (ach 0)) (.ref (ata 0)) (.ref (asa 0)) Ma) ++ ((kSA cs asa (ag0 0) (ag1 0) (ag2 0) (ag3 0)) ++ ((kX5 cs ag0 (.ref (an0 0)) G0) ++ ((kJ40 cs an0 N0) ++ ((kX5 cs ag1 (.ref (an1 0)) G1) ++ ((kJ40 cs an1 N1) ++ ((kX5 cs ag2 (.ref (an2 0)) G2) ++ ((kJ40 cs an2 N2) ++ ((kJ40 cs an3 N3))))))))))) (st1 := [.int r69]) [] hx hb hml hown hu (tX5_isMissing l D cs ag3 an3 G3 r69 hg70) q860 q61 q857 q858 q859 pdX5_isMissing ⟨rfl, rfl, Nat.le_of_ble_eq_true rfl, Nat.le_of_ble_eq_true rfl⟩ hK hZ hP hD hS hA [9] [0, 1, 2, 3, 4, 5, 6, 7, 8, 10] [0, 1, 2, 3, 4, 5, 6, 7, 8, 10, 9] rfl rfl rfl rfl rfl rfl rfl rfl rfl rfl hl.1 rfl (Nat.le_of_ble_eq_true rfl) dX7_copy_39 rfl (fun H locs hP hD hS => ?_)
            refine lv_if_eq (tgt := 53) hx hb dX7_copy_42 (by decide) (fun hc71 => ?_) (fun hc71 => ?_)
            · have hf := ip_el hc71 hf
              refine lv_aload_n hx hb dX7_copy_53 rfl (lv_at hl 0 rfl) ?_
              refine va_get (D := D) (ci := 7) (v := .ref (asa 0)) (C := RX7) (T := TX7) (N := 8) hx hb hu inX7 hown hK.1 hP 0 rfl rfl 5 (by decide) (hu _ q305) (fun _ h9 => h9) rfl dX7_copy_54 ?_
              refine lv_iload_n hx hb dX7_copy_57 rfl (lv_at hl 1 rfl) ?_
              refine sa_lit (e := ag0 0) hx hb hK hP 2 rfl (k := 0) (by rw [hc10]; decide) rfl dX7_copy_58 ?_
              refine va_get (D := D) (ci := 5) (v := .int (G0 0 0)) (C := RX5) (T := TX5) (N := 3) hx hb hu inX5 hown hK.1 hP 3 rfl rfl 0 (by decide) (hu _ q287) (fun _ h9 => h9) rfl dX7_copy_59 ?_
              refine lv_aload_n hx hb dX7_copy_62 rfl (lv_at hl 0 rfl) ?_
              refine va_get (D := D) (ci := 7) (v := .ref (asa 0)) (C := RX7) (T := TX7) (N := 8) hx hb hu inX7 hown hK.1 hP 0 rfl rfl 5 (by decide) (hu _ q305) (fun _ h9 => h9) rfl dX7_copy_63 ?_
              refine lv_iload_n hx hb dX7_copy_66 rfl (lv_at hl 3 rfl) ?_
              refine sa_lit (e := ag3 0) hx hb hK hP 2 rfl (k := 3) (by rw [hc68]; decide) rfl dX7_copy_67 ?_
              refine va_get (D := D) (ci := 5) (v := .int (G3 0 0)) (C := RX5) (T := TX5) (N := 3) hx hb hu inX5 hown hK.1 hP 9 rfl rfl 0 (by decide) (hu _ q287) (fun _ h9 => h9) rfl dX7_copy_68 ?_
              refine lv_icmp_eq (tgt := 81) hx hb dX7_copy_71 (by decide) (fun hc72 => ?_) (fun hc72 => ?_)
              · have hf := ip_el hc72 hf
                refine lv_aload_n hx hb dX7_copy_81 rfl (lv_at hl 0 rfl) ?_
                refine va_get (D := D) (ci := 7) (v := .ref (asa 0)) (C := RX7) (T := TX7) (N := 8) hx hb hu inX7 hown hK.1 hP 0 rfl rfl 5 (by decide) (hu _ q305) (fun _ h9 => h9) rfl dX7_copy_82 ?_
                refine lv_iload_n hx hb dX7_copy_85 rfl (lv_at hl 1 rfl) ?_
                refine sa_lit (e := ag0 0) hx hb hK hP 2 rfl (k := 0) (by rw [hc10]; decide) rfl dX7_copy_86 ?_
                refine lv_iload_n hx hb dX7_copy_87 rfl (lv_at hl 2 rfl) ?_
                refine lv_iload hx hb dX7_copy_88 (lv_at hl 5 rfl) ?_
                obtain ⟨r73, hg74, hf⟩ := b1_el hf
                refine cc_V (w' := ((kX7 cs ama (.ref (are 0)) (.ref (are2 0)) (.ref (are3 0)) (.ref (ach 0)) (.ref (ata 0)) (.ref (asa 0)) Ma) ++ ((kSA cs asa (ag0 0) (ag1 0) (ag2 0) (ag3 0)) ++ ((kX5 cs ag0 (.ref (an0 0)) G0) ++ ((kJ40 cs an0 N0) ++ ((kX5 cs ag1 (.ref (an1 0)) G1) ++ ((kJ40 cs an1 N1) ++ ((kX5 cs ag2 (.ref (an2 0)) G2) ++ ((kJ40 cs an2 N2) ++ ((kX5 cs ag3 (.ref (an3 0)) G3) ++ ((kJ40 cs an3 N3)))))))))))) (wr := ((kX7 cs ama (.ref (are 0)) (.ref (are2 0)) (.ref (are3 0)) (.ref (ach 0)) (.ref (ata 0)) (.ref (asa 0)) Ma) ++ ((kSA cs asa (ag0 0) (ag1 0) (ag2 0) (ag3 0)) ++ ((kJ40 cs an0 N0) ++ ((kX5 cs ag1 (.ref (an1 0)) G1) ++ ((kJ40 cs an1 N1) ++ ((kX5 cs ag2 (.ref (an2 0)) G2) ++ ((kJ40 cs an2 N2) ++ ((kX5 cs ag3 (.ref (an3 0)) G3) ++ ((kJ40 cs an3 N3))))))))))) (st1 := [.int r73]) [.int x2, .int x5] hx hb hml hown hu (tX5_holds l D cs ag0 an0 x2 x5 G0 r73 hg74) q873 q61 q870 q871 q872 pdX5_holds ⟨rfl, rfl, Nat.le_of_ble_eq_true rfl, Nat.le_of_ble_eq_true rfl⟩ hK hZ hP hD hS hA [3] [0, 1, 2, 4, 5, 6, 7, 8, 9, 10] [0, 1, 2, 10, 3, 4, 5, 6, 7, 8, 9] rfl rfl rfl rfl rfl rfl rfl rfl rfl rfl hl.1 rfl (Nat.le_of_ble_eq_true rfl) dX7_copy_90 rfl (fun H locs hP hD hS => ?_)
                refine lv_if_eq (tgt := 112) hx hb dX7_copy_93 (by decide) (fun hc75 => ?_) (fun hc75 => ?_)
                · have hf := ip_el hc75 hf
                  exact h112 Ma N0 N1 N2 N3 _ _ _ hP hD hS (lv_sub hl [0] rfl) hf
                · have hf := in_el hc75 hf
                  refine lv_aload_n hx hb dX7_copy_96 rfl (lv_at hl 0 rfl) ?_
                  refine va_get (D := D) (ci := 7) (v := .ref (asa 0)) (C := RX7) (T := TX7) (N := 8) hx hb hu inX7 hown hK.1 hP 0 rfl rfl 5 (by decide) (hu _ q305) (fun _ h9 => h9) rfl dX7_copy_97 ?_
                  refine lv_iload_n hx hb dX7_copy_100 rfl (lv_at hl 3 rfl) ?_
                  refine sa_lit (e := ag3 0) hx hb hK hP 2 rfl (k := 3) (by rw [hc68]; decide) rfl dX7_copy_101 ?_
                  refine lv_iload hx hb dX7_copy_102 (lv_at hl 4 rfl) ?_
                  refine lv_iload hx hb dX7_copy_104 (lv_at hl 5 rfl) ?_
                  obtain ⟨r76, hg77, hf⟩ := b1_el hf
                  refine cc_V (w' := ((kX7 cs ama (.ref (are 0)) (.ref (are2 0)) (.ref (are3 0)) (.ref (ach 0)) (.ref (ata 0)) (.ref (asa 0)) Ma) ++ ((kSA cs asa (ag0 0) (ag1 0) (ag2 0) (ag3 0)) ++ ((kX5 cs ag0 (.ref (an0 0)) G0) ++ ((kJ40 cs an0 N0) ++ ((kX5 cs ag1 (.ref (an1 0)) G1) ++ ((kJ40 cs an1 N1) ++ ((kX5 cs ag2 (.ref (an2 0)) G2) ++ ((kJ40 cs an2 N2) ++ ((kX5 cs ag3 (.ref (an3 0)) G3) ++ ((kJ40 cs an3 N3)))))))))))) (wr := ((kX7 cs ama (.ref (are 0)) (.ref (are2 0)) (.ref (are3 0)) (.ref (ach 0)) (.ref (ata 0)) (.ref (asa 0)) Ma) ++ ((kSA cs asa (ag0 0) (ag1 0) (ag2 0) (ag3 0)) ++ ((kX5 cs ag0 (.ref (an0 0)) G0) ++ ((kJ40 cs an0 N0) ++ ((kX5 cs ag1 (.ref (an1 0)) G1) ++ ((kJ40 cs an1 N1) ++ ((kX5 cs ag2 (.ref (an2 0)) G2) ++ ((kJ40 cs an2 N2) ++ ((kJ40 cs an3 N3))))))))))) (st1 := [.int r76]) [.int x4, .int x5] hx hb hml hown hu (tX5_holds l D cs ag3 an3 x4 x5 G3 r76 hg77) q873 q61 q870 q871 q872 pdX5_holds ⟨rfl, rfl, Nat.le_of_ble_eq_true rfl, Nat.le_of_ble_eq_true rfl⟩ hK hZ hP hD hS hA [9] [0, 1, 2, 3, 4, 5, 6, 7, 8, 10] [0, 1, 2, 3, 4, 5, 6, 7, 8, 10, 9] rfl rfl rfl rfl rfl rfl rfl rfl rfl rfl hl.1 rfl (Nat.le_of_ble_eq_true rfl) dX7_copy_106 rfl (fun H locs hP hD hS => ?_)
                  refine lv_if_ne (tgt := 119) hx hb dX7_copy_109 (by decide) (fun hc78 => ?_) (fun hc78 => ?_)
                  · have hf := in_el hc78 hf
                    refine lv_aload_n hx hb dX7_copy_119 rfl (lv_at hl 0 rfl) ?_
                    refine va_get (D := D) (ci := 7) (v := .ref (asa 0)) (C := RX7) (T := TX7) (N := 8) hx hb hu inX7 hown hK.1 hP 0 rfl rfl 5 (by decide) (hu _ q305) (fun _ h9 => h9) rfl dX7_copy_120 ?_
                    refine lv_iload_n hx hb dX7_copy_123 rfl (lv_at hl 1 rfl) ?_
                    refine sa_lit (e := ag0 0) hx hb hK hP 2 rfl (k := 0) (by rw [hc10]; decide) rfl dX7_copy_124 ?_
                    refine va_get (D := D) (ci := 5) (v := .ref (an0 0)) (C := RX5) (T := TX5) (N := 3) hx hb hu inX5 hown hK.1 hP 3 rfl rfl 2 (by decide) (hu _ q291) (fun _ h9 => h9) rfl dX7_copy_125 ?_
                    refine lv_iload_n hx hb dX7_copy_128 rfl (lv_at hl 2 rfl) ?_
                    refine lv_aload_n hx hb dX7_copy_129 rfl (lv_at hl 0 rfl) ?_
                    refine va_get (D := D) (ci := 7) (v := .ref (asa 0)) (C := RX7) (T := TX7) (N := 8) hx hb hu inX7 hown hK.1 hP 0 rfl rfl 5 (by decide) (hu _ q305) (fun _ h9 => h9) rfl dX7_copy_130 ?_
                    refine lv_iload_n hx hb dX7_copy_133 rfl (lv_at hl 3 rfl) ?_
                    refine sa_lit (e := ag3 0) hx hb hK hP 2 rfl (k := 3) (by rw [hc68]; decide) rfl dX7_copy_134 ?_
                    refine va_get (D := D) (ci := 5) (v := .ref (an3 0)) (C := RX5) (T := TX5) (N := 3) hx hb hu inX5 hown hK.1 hP 9 rfl rfl 2 (by decide) (hu _ q291) (fun _ h9 => h9) rfl dX7_copy_135 ?_
                    refine lv_iload hx hb dX7_copy_138 (lv_at hl 4 rfl) ?_
                    refine lv_iload hx hb dX7_copy_140 (lv_at hl 5 rfl) ?_
                    obtain ⟨hq80, hf⟩ := cp_el hf
                    obtain ⟨N3_79, hN3_79, hf⟩ := lt_el hf
                    refine va_copyl hx hb (hml.trans hl.1.symm) hown (hu _ q874) (hu _ q431) (hu _ q430) (hu _ q63) hK.1 hP hD hS 4 10 1 1 rfl rfl rfl rfl rfl hq80.1 hq80.2.1 hq80.2.2.1 hq80.2.2.2.1 hq80.2.2.2.2 (fun _ _ => rfl) (Nat.le_of_ble_eq_true rfl) (Nat.le_of_ble_eq_true rfl) dX7_copy_142 (fun H locs hP hD hS => ?_)
                    have hP : va_P D vwCl ((kX7 cs ama (.ref (are 0)) (.ref (are2 0)) (.ref (are3 0)) (.ref (ach 0)) (.ref (ata 0)) (.ref (asa 0)) Ma) ++ ((kSA cs asa (ag0 0) (ag1 0) (ag2 0) (ag3 0)) ++ ((kX5 cs ag0 (.ref (an0 0)) G0) ++ ((kJ40 cs an0 N0) ++ ((kX5 cs ag1 (.ref (an1 0)) G1) ++ ((kJ40 cs an1 N1) ++ ((kX5 cs ag2 (.ref (an2 0)) G2) ++ ((kJ40 cs an2 N2) ++ ((kX5 cs ag3 (.ref (an3 0)) G3) ++ ((kJ40 cs an3 N3_79))))))))))) H := by rw [hN3_79]; exact hP
                    have hD : va_D A ((kX7 cs ama (.ref (are 0)) (.ref (are2 0)) (.ref (are3 0)) (.ref (ach 0)) (.ref (ata 0)) (.ref (asa 0)) Ma) ++ ((kSA cs asa (ag0 0) (ag1 0) (ag2 0) (ag3 0)) ++ ((kX5 cs ag0 (.ref (an0 0)) G0) ++ ((kJ40 cs an0 N0) ++ ((kX5 cs ag1 (.ref (an1 0)) G1) ++ ((kJ40 cs an1 N1) ++ ((kX5 cs ag2 (.ref (an2 0)) G2) ++ ((kJ40 cs an2 N2) ++ ((kX5 cs ag3 (.ref (an3 0)) G3) ++ ((kJ40 cs an3 N3_79))))))))))) := by rw [hN3_79]; exact hD
                    refine lv_iload hx hb dX7_copy_145 (lv_at hl 5 rfl) ?_
                    have he := Option.some.inj hf
                    obtain ⟨e0, ht0⟩ := Prod.mk.inj he
                    obtain ⟨e1, ht1⟩ := Prod.mk.inj ht0
                    obtain ⟨e2, ht2⟩ := Prod.mk.inj ht1
                    obtain ⟨e3, ht3⟩ := Prod.mk.inj ht2
                    obtain ⟨e4, e5⟩ := Prod.mk.inj ht3
                    exact hri _ _ _ rfl (congrArg (fun z => some (Value.int z)) e0.symm) dX7_copy_147 _ _ _ (by rw [e1, e2, e3, e4, e5]) hP hD hS
                  · have hf := ip_el hc78 hf
                    exact h112 Ma N0 N1 N2 N3 _ _ _ hP hD hS (lv_sub hl [0] rfl) hf
              · have hf := in_el hc72 hf
                refine lv_aload_n hx hb dX7_copy_74 rfl (lv_at hl 0 rfl) ?_
                refine lv_ldc (v := (-1000000003)) hx hb hown (hu _ q465) dX7_copy_75 ?_
                obtain ⟨r81, Ma_82, hg83, hf⟩ := b2_el hf
                refine cc_V (w' := ((kX7 cs ama (.ref (are 0)) (.ref (are2 0)) (.ref (are3 0)) (.ref (ach 0)) (.ref (ata 0)) (.ref (asa 0)) Ma_82) ++ ((kSA cs asa (ag0 0) (ag1 0) (ag2 0) (ag3 0)) ++ ((kX5 cs ag0 (.ref (an0 0)) G0) ++ ((kJ40 cs an0 N0) ++ ((kX5 cs ag1 (.ref (an1 0)) G1) ++ ((kJ40 cs an1 N1) ++ ((kX5 cs ag2 (.ref (an2 0)) G2) ++ ((kJ40 cs an2 N2) ++ ((kX5 cs ag3 (.ref (an3 0)) G3) ++ ((kJ40 cs an3 N3)))))))))))) (wr := ((kSA cs asa (ag0 0) (ag1 0) (ag2 0) (ag3 0)) ++ ((kX5 cs ag0 (.ref (an0 0)) G0) ++ ((kJ40 cs an0 N0) ++ ((kX5 cs ag1 (.ref (an1 0)) G1) ++ ((kJ40 cs an1 N1) ++ ((kX5 cs ag2 (.ref (an2 0)) G2) ++ ((kJ40 cs an2 N2) ++ ((kX5 cs ag3 (.ref (an3 0)) G3) ++ ((kJ40 cs an3 N3))))))))))) (st1 := [.int r81]) [.int (-1000000003)] hx hb hml hown hu (tX7_finding l D cs ama are are2 are3 ach ata asa (-1000000003) Ma r81 Ma_82 hg83) q339 q54 q336 q338 q0 pdX7_finding ⟨rfl, rfl, Nat.le_of_ble_eq_true rfl, Nat.le_of_ble_eq_true rfl⟩ hK hZ hP hD hS hA [0, 1] [2, 3, 4, 5, 6, 7, 8, 9, 10] [9, 10, 0, 1, 2, 3, 4, 5, 6, 7, 8] rfl rfl rfl rfl rfl rfl rfl rfl rfl rfl hl.1 rfl (Nat.le_of_ble_eq_true rfl) dX7_copy_77 rfl (fun H locs hP hD hS => ?_)
                have he := Option.some.inj hf
                obtain ⟨e0, ht0⟩ := Prod.mk.inj he
                obtain ⟨e1, ht1⟩ := Prod.mk.inj ht0
                obtain ⟨e2, ht2⟩ := Prod.mk.inj ht1
                obtain ⟨e3, ht3⟩ := Prod.mk.inj ht2
                obtain ⟨e4, e5⟩ := Prod.mk.inj ht3
                exact hri _ _ _ rfl (congrArg (fun z => some (Value.int z)) e0.symm) dX7_copy_80 _ _ _ (by rw [e1, e2, e3, e4, e5]) hP hD hS
            · have hf := in_el hc71 hf
              exact h45 Ma N0 N1 N2 N3 _ _ _ hP hD hS (lv_sub hl [0] rfl) hf
          have hf := in_el hc68 hf
          exact no_el hf
      have hf := in_el hc10 hf
      by_cases hc84 : x1 = 1
      · have hf := ip_el hc84 hf
        refine sa_lit (e := ag1 0) hx hb hK hP 2 rfl (k := 1) (by rw [hc84]; decide) rfl dX7_copy_26 ?_
        obtain ⟨r85, hg86, hf⟩ := b1_el hf
        refine cc_V (w' := ((kX7 cs ama (.ref (are 0)) (.ref (are2 0)) (.ref (are3 0)) (.ref (ach 0)) (.ref (ata 0)) (.ref (asa 0)) Ma) ++ ((kSA cs asa (ag0 0) (ag1 0) (ag2 0) (ag3 0)) ++ ((kX5 cs ag0 (.ref (an0 0)) G0) ++ ((kJ40 cs an0 N0) ++ ((kX5 cs ag1 (.ref (an1 0)) G1) ++ ((kJ40 cs an1 N1) ++ ((kX5 cs ag2 (.ref (an2 0)) G2) ++ ((kJ40 cs an2 N2) ++ ((kX5 cs ag3 (.ref (an3 0)) G3) ++ ((kJ40 cs an3 N3)))))))))))) (wr := ((kX7 cs ama (.ref (are 0)) (.ref (are2 0)) (.ref (are3 0)) (.ref (ach 0)) (.ref (ata 0)) (.ref (asa 0)) Ma) ++ ((kSA cs asa (ag0 0) (ag1 0) (ag2 0) (ag3 0)) ++ ((kX5 cs ag0 (.ref (an0 0)) G0) ++ ((kJ40 cs an0 N0) ++ ((kJ40 cs an1 N1) ++ ((kX5 cs ag2 (.ref (an2 0)) G2) ++ ((kJ40 cs an2 N2) ++ ((kX5 cs ag3 (.ref (an3 0)) G3) ++ ((kJ40 cs an3 N3))))))))))) (st1 := [.int r85]) [] hx hb hml hown hu (tX5_isMissing l D cs ag1 an1 G1 r85 hg86) q860 q61 q857 q858 q859 pdX5_isMissing ⟨rfl, rfl, Nat.le_of_ble_eq_true rfl, Nat.le_of_ble_eq_true rfl⟩ hK hZ hP hD hS hA [5] [0, 1, 2, 3, 4, 6, 7, 8, 9, 10] [0, 1, 2, 3, 4, 10, 5, 6, 7, 8, 9] rfl rfl rfl rfl rfl rfl rfl rfl rfl rfl hl.1 rfl (Nat.le_of_ble_eq_true rfl) dX7_copy_27 rfl (fun H locs hP hD hS => ?_)
        refine lv_if_ne (tgt := 45) hx hb dX7_copy_30 (by decide) (fun hc87 => ?_) (fun hc87 => ?_)
        · have hf := in_el hc87 hf
          exact h45 Ma N0 N1 N2 N3 _ _ _ hP hD hS (lv_sub hl [0] rfl) hf
        · have hf := ip_el hc87 hf
          refine lv_aload_n hx hb dX7_copy_33 rfl (lv_at hl 0 rfl) ?_
          refine va_get (D := D) (ci := 7) (v := .ref (asa 0)) (C := RX7) (T := TX7) (N := 8) hx hb hu inX7 hown hK.1 hP 0 rfl rfl 5 (by decide) (hu _ q305) (fun _ h9 => h9) rfl dX7_copy_34 ?_
          refine lv_iload_n hx hb dX7_copy_37 rfl (lv_at hl 3 rfl) ?_
          by_cases hc88 : x3 = 0
          · have hf := ip_el hc88 hf
            refine sa_lit (e := ag0 0) hx hb hK hP 2 rfl (k := 0) (by rw [hc88]; decide) rfl dX7_copy_38 ?_
            obtain ⟨r89, hg90, hf⟩ := b1_el hf
            refine cc_V (w' := ((kX7 cs ama (.ref (are 0)) (.ref (are2 0)) (.ref (are3 0)) (.ref (ach 0)) (.ref (ata 0)) (.ref (asa 0)) Ma) ++ ((kSA cs asa (ag0 0) (ag1 0) (ag2 0) (ag3 0)) ++ ((kX5 cs ag0 (.ref (an0 0)) G0) ++ ((kJ40 cs an0 N0) ++ ((kX5 cs ag1 (.ref (an1 0)) G1) ++ ((kJ40 cs an1 N1) ++ ((kX5 cs ag2 (.ref (an2 0)) G2) ++ ((kJ40 cs an2 N2) ++ ((kX5 cs ag3 (.ref (an3 0)) G3) ++ ((kJ40 cs an3 N3)))))))))))) (wr := ((kX7 cs ama (.ref (are 0)) (.ref (are2 0)) (.ref (are3 0)) (.ref (ach 0)) (.ref (ata 0)) (.ref (asa 0)) Ma) ++ ((kSA cs asa (ag0 0) (ag1 0) (ag2 0) (ag3 0)) ++ ((kJ40 cs an0 N0) ++ ((kX5 cs ag1 (.ref (an1 0)) G1) ++ ((kJ40 cs an1 N1) ++ ((kX5 cs ag2 (.ref (an2 0)) G2) ++ ((kJ40 cs an2 N2) ++ ((kX5 cs ag3 (.ref (an3 0)) G3) ++ ((kJ40 cs an3 N3))))))))))) (st1 := [.int r89]) [] hx hb hml hown hu (tX5_isMissing l D cs ag0 an0 G0 r89 hg90) q860 q61 q857 q858 q859 pdX5_isMissing ⟨rfl, rfl, Nat.le_of_ble_eq_true rfl, Nat.le_of_ble_eq_true rfl⟩ hK hZ hP hD hS hA [3] [0, 1, 2, 4, 5, 6, 7, 8, 9, 10] [0, 1, 2, 10, 3, 4, 5, 6, 7, 8, 9] rfl rfl rfl rfl rfl rfl rfl rfl rfl rfl hl.1 rfl (Nat.le_of_ble_eq_true rfl) dX7_copy_39 rfl (fun H locs hP hD hS => ?_)
            refine lv_if_eq (tgt := 53) hx hb dX7_copy_42 (by decide) (fun hc91 => ?_) (fun hc91 => ?_)
            · have hf := ip_el hc91 hf
              refine lv_aload_n hx hb dX7_copy_53 rfl (lv_at hl 0 rfl) ?_
              refine va_get (D := D) (ci := 7) (v := .ref (asa 0)) (C := RX7) (T := TX7) (N := 8) hx hb hu inX7 hown hK.1 hP 0 rfl rfl 5 (by decide) (hu _ q305) (fun _ h9 => h9) rfl dX7_copy_54 ?_
              refine lv_iload_n hx hb dX7_copy_57 rfl (lv_at hl 1 rfl) ?_
              refine sa_lit (e := ag1 0) hx hb hK hP 2 rfl (k := 1) (by rw [hc84]; decide) rfl dX7_copy_58 ?_
              refine va_get (D := D) (ci := 5) (v := .int (G1 0 0)) (C := RX5) (T := TX5) (N := 3) hx hb hu inX5 hown hK.1 hP 5 rfl rfl 0 (by decide) (hu _ q287) (fun _ h9 => h9) rfl dX7_copy_59 ?_
              refine lv_aload_n hx hb dX7_copy_62 rfl (lv_at hl 0 rfl) ?_
              refine va_get (D := D) (ci := 7) (v := .ref (asa 0)) (C := RX7) (T := TX7) (N := 8) hx hb hu inX7 hown hK.1 hP 0 rfl rfl 5 (by decide) (hu _ q305) (fun _ h9 => h9) rfl dX7_copy_63 ?_
              refine lv_iload_n hx hb dX7_copy_66 rfl (lv_at hl 3 rfl) ?_
              refine sa_lit (e := ag0 0) hx hb hK hP 2 rfl (k := 0) (by rw [hc88]; decide) rfl dX7_copy_67 ?_
              refine va_get (D := D) (ci := 5) (v := .int (G0 0 0)) (C := RX5) (T := TX5) (N := 3) hx hb hu inX5 hown hK.1 hP 3 rfl rfl 0 (by decide) (hu _ q287) (fun _ h9 => h9) rfl dX7_copy_68 ?_
              refine lv_icmp_eq (tgt := 81) hx hb dX7_copy_71 (by decide) (fun hc92 => ?_) (fun hc92 => ?_)
              · have hf := ip_el hc92 hf
                refine lv_aload_n hx hb dX7_copy_81 rfl (lv_at hl 0 rfl) ?_
                refine va_get (D := D) (ci := 7) (v := .ref (asa 0)) (C := RX7) (T := TX7) (N := 8) hx hb hu inX7 hown hK.1 hP 0 rfl rfl 5 (by decide) (hu _ q305) (fun _ h9 => h9) rfl dX7_copy_82 ?_
                refine lv_iload_n hx hb dX7_copy_85 rfl (lv_at hl 1 rfl) ?_
                refine sa_lit (e := ag1 0) hx hb hK hP 2 rfl (k := 1) (by rw [hc84]; decide) rfl dX7_copy_86 ?_
                refine lv_iload_n hx hb dX7_copy_87 rfl (lv_at hl 2 rfl) ?_
                refine lv_iload hx hb dX7_copy_88 (lv_at hl 5 rfl) ?_
                obtain ⟨r93, hg94, hf⟩ := b1_el hf
                refine cc_V (w' := ((kX7 cs ama (.ref (are 0)) (.ref (are2 0)) (.ref (are3 0)) (.ref (ach 0)) (.ref (ata 0)) (.ref (asa 0)) Ma) ++ ((kSA cs asa (ag0 0) (ag1 0) (ag2 0) (ag3 0)) ++ ((kX5 cs ag0 (.ref (an0 0)) G0) ++ ((kJ40 cs an0 N0) ++ ((kX5 cs ag1 (.ref (an1 0)) G1) ++ ((kJ40 cs an1 N1) ++ ((kX5 cs ag2 (.ref (an2 0)) G2) ++ ((kJ40 cs an2 N2) ++ ((kX5 cs ag3 (.ref (an3 0)) G3) ++ ((kJ40 cs an3 N3)))))))))))) (wr := ((kX7 cs ama (.ref (are 0)) (.ref (are2 0)) (.ref (are3 0)) (.ref (ach 0)) (.ref (ata 0)) (.ref (asa 0)) Ma) ++ ((kSA cs asa (ag0 0) (ag1 0) (ag2 0) (ag3 0)) ++ ((kX5 cs ag0 (.ref (an0 0)) G0) ++ ((kJ40 cs an0 N0) ++ ((kJ40 cs an1 N1) ++ ((kX5 cs ag2 (.ref (an2 0)) G2) ++ ((kJ40 cs an2 N2) ++ ((kX5 cs ag3 (.ref (an3 0)) G3) ++ ((kJ40 cs an3 N3))))))))))) (st1 := [.int r93]) [.int x2, .int x5] hx hb hml hown hu (tX5_holds l D cs ag1 an1 x2 x5 G1 r93 hg94) q873 q61 q870 q871 q872 pdX5_holds ⟨rfl, rfl, Nat.le_of_ble_eq_true rfl, Nat.le_of_ble_eq_true rfl⟩ hK hZ hP hD hS hA [5] [0, 1, 2, 3, 4, 6, 7, 8, 9, 10] [0, 1, 2, 3, 4, 10, 5, 6, 7, 8, 9] rfl rfl rfl rfl rfl rfl rfl rfl rfl rfl hl.1 rfl (Nat.le_of_ble_eq_true rfl) dX7_copy_90 rfl (fun H locs hP hD hS => ?_)
                refine lv_if_eq (tgt := 112) hx hb dX7_copy_93 (by decide) (fun hc95 => ?_) (fun hc95 => ?_)
                · have hf := ip_el hc95 hf
                  exact h112 Ma N0 N1 N2 N3 _ _ _ hP hD hS (lv_sub hl [0] rfl) hf
                · have hf := in_el hc95 hf
                  refine lv_aload_n hx hb dX7_copy_96 rfl (lv_at hl 0 rfl) ?_
                  refine va_get (D := D) (ci := 7) (v := .ref (asa 0)) (C := RX7) (T := TX7) (N := 8) hx hb hu inX7 hown hK.1 hP 0 rfl rfl 5 (by decide) (hu _ q305) (fun _ h9 => h9) rfl dX7_copy_97 ?_
                  refine lv_iload_n hx hb dX7_copy_100 rfl (lv_at hl 3 rfl) ?_
                  refine sa_lit (e := ag0 0) hx hb hK hP 2 rfl (k := 0) (by rw [hc88]; decide) rfl dX7_copy_101 ?_
                  refine lv_iload hx hb dX7_copy_102 (lv_at hl 4 rfl) ?_
                  refine lv_iload hx hb dX7_copy_104 (lv_at hl 5 rfl) ?_
                  obtain ⟨r96, hg97, hf⟩ := b1_el hf
                  refine cc_V (w' := ((kX7 cs ama (.ref (are 0)) (.ref (are2 0)) (.ref (are3 0)) (.ref (ach 0)) (.ref (ata 0)) (.ref (asa 0)) Ma) ++ ((kSA cs asa (ag0 0) (ag1 0) (ag2 0) (ag3 0)) ++ ((kX5 cs ag0 (.ref (an0 0)) G0) ++ ((kJ40 cs an0 N0) ++ ((kX5 cs ag1 (.ref (an1 0)) G1) ++ ((kJ40 cs an1 N1) ++ ((kX5 cs ag2 (.ref (an2 0)) G2) ++ ((kJ40 cs an2 N2) ++ ((kX5 cs ag3 (.ref (an3 0)) G3) ++ ((kJ40 cs an3 N3)))))))))))) (wr := ((kX7 cs ama (.ref (are 0)) (.ref (are2 0)) (.ref (are3 0)) (.ref (ach 0)) (.ref (ata 0)) (.ref (asa 0)) Ma) ++ ((kSA cs asa (ag0 0) (ag1 0) (ag2 0) (ag3 0)) ++ ((kJ40 cs an0 N0) ++ ((kX5 cs ag1 (.ref (an1 0)) G1) ++ ((kJ40 cs an1 N1) ++ ((kX5 cs ag2 (.ref (an2 0)) G2) ++ ((kJ40 cs an2 N2) ++ ((kX5 cs ag3 (.ref (an3 0)) G3) ++ ((kJ40 cs an3 N3))))))))))) (st1 := [.int r96]) [.int x4, .int x5] hx hb hml hown hu (tX5_holds l D cs ag0 an0 x4 x5 G0 r96 hg97) q873 q61 q870 q871 q872 pdX5_holds ⟨rfl, rfl, Nat.le_of_ble_eq_true rfl, Nat.le_of_ble_eq_true rfl⟩ hK hZ hP hD hS hA [3] [0, 1, 2, 4, 5, 6, 7, 8, 9, 10] [0, 1, 2, 10, 3, 4, 5, 6, 7, 8, 9] rfl rfl rfl rfl rfl rfl rfl rfl rfl rfl hl.1 rfl (Nat.le_of_ble_eq_true rfl) dX7_copy_106 rfl (fun H locs hP hD hS => ?_)
                  refine lv_if_ne (tgt := 119) hx hb dX7_copy_109 (by decide) (fun hc98 => ?_) (fun hc98 => ?_)
                  · have hf := in_el hc98 hf
                    refine lv_aload_n hx hb dX7_copy_119 rfl (lv_at hl 0 rfl) ?_
                    refine va_get (D := D) (ci := 7) (v := .ref (asa 0)) (C := RX7) (T := TX7) (N := 8) hx hb hu inX7 hown hK.1 hP 0 rfl rfl 5 (by decide) (hu _ q305) (fun _ h9 => h9) rfl dX7_copy_120 ?_
                    refine lv_iload_n hx hb dX7_copy_123 rfl (lv_at hl 1 rfl) ?_
                    refine sa_lit (e := ag1 0) hx hb hK hP 2 rfl (k := 1) (by rw [hc84]; decide) rfl dX7_copy_124 ?_
                    refine va_get (D := D) (ci := 5) (v := .ref (an1 0)) (C := RX5) (T := TX5) (N := 3) hx hb hu inX5 hown hK.1 hP 5 rfl rfl 2 (by decide) (hu _ q291) (fun _ h9 => h9) rfl dX7_copy_125 ?_
                    refine lv_iload_n hx hb dX7_copy_128 rfl (lv_at hl 2 rfl) ?_
                    refine lv_aload_n hx hb dX7_copy_129 rfl (lv_at hl 0 rfl) ?_
                    refine va_get (D := D) (ci := 7) (v := .ref (asa 0)) (C := RX7) (T := TX7) (N := 8) hx hb hu inX7 hown hK.1 hP 0 rfl rfl 5 (by decide) (hu _ q305) (fun _ h9 => h9) rfl dX7_copy_130 ?_
                    refine lv_iload_n hx hb dX7_copy_133 rfl (lv_at hl 3 rfl) ?_
                    refine sa_lit (e := ag0 0) hx hb hK hP 2 rfl (k := 0) (by rw [hc88]; decide) rfl dX7_copy_134 ?_
                    refine va_get (D := D) (ci := 5) (v := .ref (an0 0)) (C := RX5) (T := TX5) (N := 3) hx hb hu inX5 hown hK.1 hP 3 rfl rfl 2 (by decide) (hu _ q291) (fun _ h9 => h9) rfl dX7_copy_135 ?_
                    refine lv_iload hx hb dX7_copy_138 (lv_at hl 4 rfl) ?_
                    refine lv_iload hx hb dX7_copy_140 (lv_at hl 5 rfl) ?_
                    obtain ⟨hq100, hf⟩ := cp_el hf
                    obtain ⟨N0_99, hN0_99, hf⟩ := lt_el hf
                    refine va_copyl hx hb (hml.trans hl.1.symm) hown (hu _ q874) (hu _ q431) (hu _ q430) (hu _ q63) hK.1 hP hD hS 6 4 1 1 rfl rfl rfl rfl rfl hq100.1 hq100.2.1 hq100.2.2.1 hq100.2.2.2.1 hq100.2.2.2.2 (fun _ _ => rfl) (Nat.le_of_ble_eq_true rfl) (Nat.le_of_ble_eq_true rfl) dX7_copy_142 (fun H locs hP hD hS => ?_)
                    have hP : va_P D vwCl ((kX7 cs ama (.ref (are 0)) (.ref (are2 0)) (.ref (are3 0)) (.ref (ach 0)) (.ref (ata 0)) (.ref (asa 0)) Ma) ++ ((kSA cs asa (ag0 0) (ag1 0) (ag2 0) (ag3 0)) ++ ((kX5 cs ag0 (.ref (an0 0)) G0) ++ ((kJ40 cs an0 N0_99) ++ ((kX5 cs ag1 (.ref (an1 0)) G1) ++ ((kJ40 cs an1 N1) ++ ((kX5 cs ag2 (.ref (an2 0)) G2) ++ ((kJ40 cs an2 N2) ++ ((kX5 cs ag3 (.ref (an3 0)) G3) ++ ((kJ40 cs an3 N3))))))))))) H := by rw [hN0_99]; exact hP
                    have hD : va_D A ((kX7 cs ama (.ref (are 0)) (.ref (are2 0)) (.ref (are3 0)) (.ref (ach 0)) (.ref (ata 0)) (.ref (asa 0)) Ma) ++ ((kSA cs asa (ag0 0) (ag1 0) (ag2 0) (ag3 0)) ++ ((kX5 cs ag0 (.ref (an0 0)) G0) ++ ((kJ40 cs an0 N0_99) ++ ((kX5 cs ag1 (.ref (an1 0)) G1) ++ ((kJ40 cs an1 N1) ++ ((kX5 cs ag2 (.ref (an2 0)) G2) ++ ((kJ40 cs an2 N2) ++ ((kX5 cs ag3 (.ref (an3 0)) G3) ++ ((kJ40 cs an3 N3))))))))))) := by rw [hN0_99]; exact hD
                    refine lv_iload hx hb dX7_copy_145 (lv_at hl 5 rfl) ?_
                    have he := Option.some.inj hf
                    obtain ⟨e0, ht0⟩ := Prod.mk.inj he
                    obtain ⟨e1, ht1⟩ := Prod.mk.inj ht0
                    obtain ⟨e2, ht2⟩ := Prod.mk.inj ht1
                    obtain ⟨e3, ht3⟩ := Prod.mk.inj ht2
                    obtain ⟨e4, e5⟩ := Prod.mk.inj ht3
                    exact hri _ _ _ rfl (congrArg (fun z => some (Value.int z)) e0.symm) dX7_copy_147 _ _ _ (by rw [e1, e2, e3, e4, e5]) hP hD hS
                  · have hf := ip_el hc98 hf
                    exact h112 Ma N0 N1 N2 N3 _ _ _ hP hD hS (lv_sub hl [0] rfl) hf
              · have hf := in_el hc92 hf
                refine lv_aload_n hx hb dX7_copy_74 rfl (lv_at hl 0 rfl) ?_
                refine lv_ldc (v := (-1000000003)) hx hb hown (hu _ q465) dX7_copy_75 ?_
                obtain ⟨r101, Ma_102, hg103, hf⟩ := b2_el hf
                refine cc_V (w' := ((kX7 cs ama (.ref (are 0)) (.ref (are2 0)) (.ref (are3 0)) (.ref (ach 0)) (.ref (ata 0)) (.ref (asa 0)) Ma_102) ++ ((kSA cs asa (ag0 0) (ag1 0) (ag2 0) (ag3 0)) ++ ((kX5 cs ag0 (.ref (an0 0)) G0) ++ ((kJ40 cs an0 N0) ++ ((kX5 cs ag1 (.ref (an1 0)) G1) ++ ((kJ40 cs an1 N1) ++ ((kX5 cs ag2 (.ref (an2 0)) G2) ++ ((kJ40 cs an2 N2) ++ ((kX5 cs ag3 (.ref (an3 0)) G3) ++ ((kJ40 cs an3 N3)))))))))))) (wr := ((kSA cs asa (ag0 0) (ag1 0) (ag2 0) (ag3 0)) ++ ((kX5 cs ag0 (.ref (an0 0)) G0) ++ ((kJ40 cs an0 N0) ++ ((kX5 cs ag1 (.ref (an1 0)) G1) ++ ((kJ40 cs an1 N1) ++ ((kX5 cs ag2 (.ref (an2 0)) G2) ++ ((kJ40 cs an2 N2) ++ ((kX5 cs ag3 (.ref (an3 0)) G3) ++ ((kJ40 cs an3 N3))))))))))) (st1 := [.int r101]) [.int (-1000000003)] hx hb hml hown hu (tX7_finding l D cs ama are are2 are3 ach ata asa (-1000000003) Ma r101 Ma_102 hg103) q339 q54 q336 q338 q0 pdX7_finding ⟨rfl, rfl, Nat.le_of_ble_eq_true rfl, Nat.le_of_ble_eq_true rfl⟩ hK hZ hP hD hS hA [0, 1] [2, 3, 4, 5, 6, 7, 8, 9, 10] [9, 10, 0, 1, 2, 3, 4, 5, 6, 7, 8] rfl rfl rfl rfl rfl rfl rfl rfl rfl rfl hl.1 rfl (Nat.le_of_ble_eq_true rfl) dX7_copy_77 rfl (fun H locs hP hD hS => ?_)
                have he := Option.some.inj hf
                obtain ⟨e0, ht0⟩ := Prod.mk.inj he
                obtain ⟨e1, ht1⟩ := Prod.mk.inj ht0
                obtain ⟨e2, ht2⟩ := Prod.mk.inj ht1
                obtain ⟨e3, ht3⟩ := Prod.mk.inj ht2
                obtain ⟨e4, e5⟩ := Prod.mk.inj ht3
                exact hri _ _ _ rfl (congrArg (fun z => some (Value.int z)) e0.symm) dX7_copy_80 _ _ _ (by rw [e1, e2, e3, e4, e5]) hP hD hS
            · have hf := in_el hc91 hf
              exact h45 Ma N0 N1 N2 N3 _ _ _ hP hD hS (lv_sub hl [0] rfl) hf
          have hf := in_el hc88 hf
          by_cases hc104 : x3 = 1
          · have hf := ip_el hc104 hf
            refine sa_lit (e := ag1 0) hx hb hK hP 2 rfl (k := 1) (by rw [hc104]; decide) rfl dX7_copy_38 ?_
            obtain ⟨r105, hg106, hf⟩ := b1_el hf
            refine cc_V (w' := ((kX7 cs ama (.ref (are 0)) (.ref (are2 0)) (.ref (are3 0)) (.ref (ach 0)) (.ref (ata 0)) (.ref (asa 0)) Ma) ++ ((kSA cs asa (ag0 0) (ag1 0) (ag2 0) (ag3 0)) ++ ((kX5 cs ag0 (.ref (an0 0)) G0) ++ ((kJ40 cs an0 N0) ++ ((kX5 cs ag1 (.ref (an1 0)) G1) ++ ((kJ40 cs an1 N1) ++ ((kX5 cs ag2 (.ref (an2 0)) G2) ++ ((kJ40 cs an2 N2) ++ ((kX5 cs ag3 (.ref (an3 0)) G3) ++ ((kJ40 cs an3 N3)))))))))))) (wr := ((kX7 cs ama (.ref (are 0)) (.ref (are2 0)) (.ref (are3 0)) (.ref (ach 0)) (.ref (ata 0)) (.ref (asa 0)) Ma) ++ ((kSA cs asa (ag0 0) (ag1 0) (ag2 0) (ag3 0)) ++ ((kX5 cs ag0 (.ref (an0 0)) G0) ++ ((kJ40 cs an0 N0) ++ ((kJ40 cs an1 N1) ++ ((kX5 cs ag2 (.ref (an2 0)) G2) ++ ((kJ40 cs an2 N2) ++ ((kX5 cs ag3 (.ref (an3 0)) G3) ++ ((kJ40 cs an3 N3))))))))))) (st1 := [.int r105]) [] hx hb hml hown hu (tX5_isMissing l D cs ag1 an1 G1 r105 hg106) q860 q61 q857 q858 q859 pdX5_isMissing ⟨rfl, rfl, Nat.le_of_ble_eq_true rfl, Nat.le_of_ble_eq_true rfl⟩ hK hZ hP hD hS hA [5] [0, 1, 2, 3, 4, 6, 7, 8, 9, 10] [0, 1, 2, 3, 4, 10, 5, 6, 7, 8, 9] rfl rfl rfl rfl rfl rfl rfl rfl rfl rfl hl.1 rfl (Nat.le_of_ble_eq_true rfl) dX7_copy_39 rfl (fun H locs hP hD hS => ?_)
            refine lv_if_eq (tgt := 53) hx hb dX7_copy_42 (by decide) (fun hc107 => ?_) (fun hc107 => ?_)
            · have hf := ip_el hc107 hf
              refine lv_aload_n hx hb dX7_copy_53 rfl (lv_at hl 0 rfl) ?_
              refine va_get (D := D) (ci := 7) (v := .ref (asa 0)) (C := RX7) (T := TX7) (N := 8) hx hb hu inX7 hown hK.1 hP 0 rfl rfl 5 (by decide) (hu _ q305) (fun _ h9 => h9) rfl dX7_copy_54 ?_
              refine lv_iload_n hx hb dX7_copy_57 rfl (lv_at hl 1 rfl) ?_
              refine sa_lit (e := ag1 0) hx hb hK hP 2 rfl (k := 1) (by rw [hc84]; decide) rfl dX7_copy_58 ?_
              refine va_get (D := D) (ci := 5) (v := .int (G1 0 0)) (C := RX5) (T := TX5) (N := 3) hx hb hu inX5 hown hK.1 hP 5 rfl rfl 0 (by decide) (hu _ q287) (fun _ h9 => h9) rfl dX7_copy_59 ?_
              refine lv_aload_n hx hb dX7_copy_62 rfl (lv_at hl 0 rfl) ?_
              refine va_get (D := D) (ci := 7) (v := .ref (asa 0)) (C := RX7) (T := TX7) (N := 8) hx hb hu inX7 hown hK.1 hP 0 rfl rfl 5 (by decide) (hu _ q305) (fun _ h9 => h9) rfl dX7_copy_63 ?_
              refine lv_iload_n hx hb dX7_copy_66 rfl (lv_at hl 3 rfl) ?_
              refine sa_lit (e := ag1 0) hx hb hK hP 2 rfl (k := 1) (by rw [hc104]; decide) rfl dX7_copy_67 ?_
              refine va_get (D := D) (ci := 5) (v := .int (G1 0 0)) (C := RX5) (T := TX5) (N := 3) hx hb hu inX5 hown hK.1 hP 5 rfl rfl 0 (by decide) (hu _ q287) (fun _ h9 => h9) rfl dX7_copy_68 ?_
              refine lv_icmp_eq (tgt := 81) hx hb dX7_copy_71 (by decide) (fun hc108 => ?_) (fun hc108 => ?_)
              · have hf := ip_el hc108 hf
                refine lv_aload_n hx hb dX7_copy_81 rfl (lv_at hl 0 rfl) ?_
                refine va_get (D := D) (ci := 7) (v := .ref (asa 0)) (C := RX7) (T := TX7) (N := 8) hx hb hu inX7 hown hK.1 hP 0 rfl rfl 5 (by decide) (hu _ q305) (fun _ h9 => h9) rfl dX7_copy_82 ?_
                refine lv_iload_n hx hb dX7_copy_85 rfl (lv_at hl 1 rfl) ?_
                refine sa_lit (e := ag1 0) hx hb hK hP 2 rfl (k := 1) (by rw [hc84]; decide) rfl dX7_copy_86 ?_
                refine lv_iload_n hx hb dX7_copy_87 rfl (lv_at hl 2 rfl) ?_
                refine lv_iload hx hb dX7_copy_88 (lv_at hl 5 rfl) ?_
                obtain ⟨r109, hg110, hf⟩ := b1_el hf
                refine cc_V (w' := ((kX7 cs ama (.ref (are 0)) (.ref (are2 0)) (.ref (are3 0)) (.ref (ach 0)) (.ref (ata 0)) (.ref (asa 0)) Ma) ++ ((kSA cs asa (ag0 0) (ag1 0) (ag2 0) (ag3 0)) ++ ((kX5 cs ag0 (.ref (an0 0)) G0) ++ ((kJ40 cs an0 N0) ++ ((kX5 cs ag1 (.ref (an1 0)) G1) ++ ((kJ40 cs an1 N1) ++ ((kX5 cs ag2 (.ref (an2 0)) G2) ++ ((kJ40 cs an2 N2) ++ ((kX5 cs ag3 (.ref (an3 0)) G3) ++ ((kJ40 cs an3 N3)))))))))))) (wr := ((kX7 cs ama (.ref (are 0)) (.ref (are2 0)) (.ref (are3 0)) (.ref (ach 0)) (.ref (ata 0)) (.ref (asa 0)) Ma) ++ ((kSA cs asa (ag0 0) (ag1 0) (ag2 0) (ag3 0)) ++ ((kX5 cs ag0 (.ref (an0 0)) G0) ++ ((kJ40 cs an0 N0) ++ ((kJ40 cs an1 N1) ++ ((kX5 cs ag2 (.ref (an2 0)) G2) ++ ((kJ40 cs an2 N2) ++ ((kX5 cs ag3 (.ref (an3 0)) G3) ++ ((kJ40 cs an3 N3))))))))))) (st1 := [.int r109]) [.int x2, .int x5] hx hb hml hown hu (tX5_holds l D cs ag1 an1 x2 x5 G1 r109 hg110) q873 q61 q870 q871 q872 pdX5_holds ⟨rfl, rfl, Nat.le_of_ble_eq_true rfl, Nat.le_of_ble_eq_true rfl⟩ hK hZ hP hD hS hA [5] [0, 1, 2, 3, 4, 6, 7, 8, 9, 10] [0, 1, 2, 3, 4, 10, 5, 6, 7, 8, 9] rfl rfl rfl rfl rfl rfl rfl rfl rfl rfl hl.1 rfl (Nat.le_of_ble_eq_true rfl) dX7_copy_90 rfl (fun H locs hP hD hS => ?_)
                refine lv_if_eq (tgt := 112) hx hb dX7_copy_93 (by decide) (fun hc111 => ?_) (fun hc111 => ?_)
                · have hf := ip_el hc111 hf
                  exact h112 Ma N0 N1 N2 N3 _ _ _ hP hD hS (lv_sub hl [0] rfl) hf
                · have hf := in_el hc111 hf
                  refine lv_aload_n hx hb dX7_copy_96 rfl (lv_at hl 0 rfl) ?_
                  refine va_get (D := D) (ci := 7) (v := .ref (asa 0)) (C := RX7) (T := TX7) (N := 8) hx hb hu inX7 hown hK.1 hP 0 rfl rfl 5 (by decide) (hu _ q305) (fun _ h9 => h9) rfl dX7_copy_97 ?_
                  refine lv_iload_n hx hb dX7_copy_100 rfl (lv_at hl 3 rfl) ?_
                  refine sa_lit (e := ag1 0) hx hb hK hP 2 rfl (k := 1) (by rw [hc104]; decide) rfl dX7_copy_101 ?_
                  refine lv_iload hx hb dX7_copy_102 (lv_at hl 4 rfl) ?_
                  refine lv_iload hx hb dX7_copy_104 (lv_at hl 5 rfl) ?_
                  obtain ⟨r112, hg113, hf⟩ := b1_el hf
                  refine cc_V (w' := ((kX7 cs ama (.ref (are 0)) (.ref (are2 0)) (.ref (are3 0)) (.ref (ach 0)) (.ref (ata 0)) (.ref (asa 0)) Ma) ++ ((kSA cs asa (ag0 0) (ag1 0) (ag2 0) (ag3 0)) ++ ((kX5 cs ag0 (.ref (an0 0)) G0) ++ ((kJ40 cs an0 N0) ++ ((kX5 cs ag1 (.ref (an1 0)) G1) ++ ((kJ40 cs an1 N1) ++ ((kX5 cs ag2 (.ref (an2 0)) G2) ++ ((kJ40 cs an2 N2) ++ ((kX5 cs ag3 (.ref (an3 0)) G3) ++ ((kJ40 cs an3 N3)))))))))))) (wr := ((kX7 cs ama (.ref (are 0)) (.ref (are2 0)) (.ref (are3 0)) (.ref (ach 0)) (.ref (ata 0)) (.ref (asa 0)) Ma) ++ ((kSA cs asa (ag0 0) (ag1 0) (ag2 0) (ag3 0)) ++ ((kX5 cs ag0 (.ref (an0 0)) G0) ++ ((kJ40 cs an0 N0) ++ ((kJ40 cs an1 N1) ++ ((kX5 cs ag2 (.ref (an2 0)) G2) ++ ((kJ40 cs an2 N2) ++ ((kX5 cs ag3 (.ref (an3 0)) G3) ++ ((kJ40 cs an3 N3))))))))))) (st1 := [.int r112]) [.int x4, .int x5] hx hb hml hown hu (tX5_holds l D cs ag1 an1 x4 x5 G1 r112 hg113) q873 q61 q870 q871 q872 pdX5_holds ⟨rfl, rfl, Nat.le_of_ble_eq_true rfl, Nat.le_of_ble_eq_true rfl⟩ hK hZ hP hD hS hA [5] [0, 1, 2, 3, 4, 6, 7, 8, 9, 10] [0, 1, 2, 3, 4, 10, 5, 6, 7, 8, 9] rfl rfl rfl rfl rfl rfl rfl rfl rfl rfl hl.1 rfl (Nat.le_of_ble_eq_true rfl) dX7_copy_106 rfl (fun H locs hP hD hS => ?_)
                  refine lv_if_ne (tgt := 119) hx hb dX7_copy_109 (by decide) (fun hc114 => ?_) (fun hc114 => ?_)
                  · have hf := in_el hc114 hf
                    refine lv_aload_n hx hb dX7_copy_119 rfl (lv_at hl 0 rfl) ?_
                    refine va_get (D := D) (ci := 7) (v := .ref (asa 0)) (C := RX7) (T := TX7) (N := 8) hx hb hu inX7 hown hK.1 hP 0 rfl rfl 5 (by decide) (hu _ q305) (fun _ h9 => h9) rfl dX7_copy_120 ?_
                    refine lv_iload_n hx hb dX7_copy_123 rfl (lv_at hl 1 rfl) ?_
                    refine sa_lit (e := ag1 0) hx hb hK hP 2 rfl (k := 1) (by rw [hc84]; decide) rfl dX7_copy_124 ?_
                    refine va_get (D := D) (ci := 5) (v := .ref (an1 0)) (C := RX5) (T := TX5) (N := 3) hx hb hu inX5 hown hK.1 hP 5 rfl rfl 2 (by decide) (hu _ q291) (fun _ h9 => h9) rfl dX7_copy_125 ?_
                    refine lv_iload_n hx hb dX7_copy_128 rfl (lv_at hl 2 rfl) ?_
                    refine lv_aload_n hx hb dX7_copy_129 rfl (lv_at hl 0 rfl) ?_
                    refine va_get (D := D) (ci := 7) (v := .ref (asa 0)) (C := RX7) (T := TX7) (N := 8) hx hb hu inX7 hown hK.1 hP 0 rfl rfl 5 (by decide) (hu _ q305) (fun _ h9 => h9) rfl dX7_copy_130 ?_
                    refine lv_iload_n hx hb dX7_copy_133 rfl (lv_at hl 3 rfl) ?_
                    refine sa_lit (e := ag1 0) hx hb hK hP 2 rfl (k := 1) (by rw [hc104]; decide) rfl dX7_copy_134 ?_
                    refine va_get (D := D) (ci := 5) (v := .ref (an1 0)) (C := RX5) (T := TX5) (N := 3) hx hb hu inX5 hown hK.1 hP 5 rfl rfl 2 (by decide) (hu _ q291) (fun _ h9 => h9) rfl dX7_copy_135 ?_
                    refine lv_iload hx hb dX7_copy_138 (lv_at hl 4 rfl) ?_
                    refine lv_iload hx hb dX7_copy_140 (lv_at hl 5 rfl) ?_
                    obtain ⟨hq116, hf⟩ := cp_el hf
                    obtain ⟨N1_115, hN1_115, hf⟩ := lt_el hf
                    refine va_copyl hx hb (hml.trans hl.1.symm) hown (hu _ q874) (hu _ q431) (hu _ q430) (hu _ q63) hK.1 hP hD hS 6 6 1 1 rfl rfl rfl rfl rfl hq116.1 hq116.2.1 hq116.2.2.1 hq116.2.2.2.1 hq116.2.2.2.2 (fun _ _ => rfl) (Nat.le_of_ble_eq_true rfl) (Nat.le_of_ble_eq_true rfl) dX7_copy_142 (fun H locs hP hD hS => ?_)
                    have hP : va_P D vwCl ((kX7 cs ama (.ref (are 0)) (.ref (are2 0)) (.ref (are3 0)) (.ref (ach 0)) (.ref (ata 0)) (.ref (asa 0)) Ma) ++ ((kSA cs asa (ag0 0) (ag1 0) (ag2 0) (ag3 0)) ++ ((kX5 cs ag0 (.ref (an0 0)) G0) ++ ((kJ40 cs an0 N0) ++ ((kX5 cs ag1 (.ref (an1 0)) G1) ++ ((kJ40 cs an1 N1_115) ++ ((kX5 cs ag2 (.ref (an2 0)) G2) ++ ((kJ40 cs an2 N2) ++ ((kX5 cs ag3 (.ref (an3 0)) G3) ++ ((kJ40 cs an3 N3))))))))))) H := by rw [hN1_115]; exact hP
                    have hD : va_D A ((kX7 cs ama (.ref (are 0)) (.ref (are2 0)) (.ref (are3 0)) (.ref (ach 0)) (.ref (ata 0)) (.ref (asa 0)) Ma) ++ ((kSA cs asa (ag0 0) (ag1 0) (ag2 0) (ag3 0)) ++ ((kX5 cs ag0 (.ref (an0 0)) G0) ++ ((kJ40 cs an0 N0) ++ ((kX5 cs ag1 (.ref (an1 0)) G1) ++ ((kJ40 cs an1 N1_115) ++ ((kX5 cs ag2 (.ref (an2 0)) G2) ++ ((kJ40 cs an2 N2) ++ ((kX5 cs ag3 (.ref (an3 0)) G3) ++ ((kJ40 cs an3 N3))))))))))) := by rw [hN1_115]; exact hD
                    refine lv_iload hx hb dX7_copy_145 (lv_at hl 5 rfl) ?_
                    have he := Option.some.inj hf
                    obtain ⟨e0, ht0⟩ := Prod.mk.inj he
                    obtain ⟨e1, ht1⟩ := Prod.mk.inj ht0
                    obtain ⟨e2, ht2⟩ := Prod.mk.inj ht1
                    obtain ⟨e3, ht3⟩ := Prod.mk.inj ht2
                    obtain ⟨e4, e5⟩ := Prod.mk.inj ht3
                    exact hri _ _ _ rfl (congrArg (fun z => some (Value.int z)) e0.symm) dX7_copy_147 _ _ _ (by rw [e1, e2, e3, e4, e5]) hP hD hS
                  · have hf := ip_el hc114 hf
                    exact h112 Ma N0 N1 N2 N3 _ _ _ hP hD hS (lv_sub hl [0] rfl) hf
              · have hf := in_el hc108 hf
                refine lv_aload_n hx hb dX7_copy_74 rfl (lv_at hl 0 rfl) ?_
                refine lv_ldc (v := (-1000000003)) hx hb hown (hu _ q465) dX7_copy_75 ?_
                obtain ⟨r117, Ma_118, hg119, hf⟩ := b2_el hf
                refine cc_V (w' := ((kX7 cs ama (.ref (are 0)) (.ref (are2 0)) (.ref (are3 0)) (.ref (ach 0)) (.ref (ata 0)) (.ref (asa 0)) Ma_118) ++ ((kSA cs asa (ag0 0) (ag1 0) (ag2 0) (ag3 0)) ++ ((kX5 cs ag0 (.ref (an0 0)) G0) ++ ((kJ40 cs an0 N0) ++ ((kX5 cs ag1 (.ref (an1 0)) G1) ++ ((kJ40 cs an1 N1) ++ ((kX5 cs ag2 (.ref (an2 0)) G2) ++ ((kJ40 cs an2 N2) ++ ((kX5 cs ag3 (.ref (an3 0)) G3) ++ ((kJ40 cs an3 N3)))))))))))) (wr := ((kSA cs asa (ag0 0) (ag1 0) (ag2 0) (ag3 0)) ++ ((kX5 cs ag0 (.ref (an0 0)) G0) ++ ((kJ40 cs an0 N0) ++ ((kX5 cs ag1 (.ref (an1 0)) G1) ++ ((kJ40 cs an1 N1) ++ ((kX5 cs ag2 (.ref (an2 0)) G2) ++ ((kJ40 cs an2 N2) ++ ((kX5 cs ag3 (.ref (an3 0)) G3) ++ ((kJ40 cs an3 N3))))))))))) (st1 := [.int r117]) [.int (-1000000003)] hx hb hml hown hu (tX7_finding l D cs ama are are2 are3 ach ata asa (-1000000003) Ma r117 Ma_118 hg119) q339 q54 q336 q338 q0 pdX7_finding ⟨rfl, rfl, Nat.le_of_ble_eq_true rfl, Nat.le_of_ble_eq_true rfl⟩ hK hZ hP hD hS hA [0, 1] [2, 3, 4, 5, 6, 7, 8, 9, 10] [9, 10, 0, 1, 2, 3, 4, 5, 6, 7, 8] rfl rfl rfl rfl rfl rfl rfl rfl rfl rfl hl.1 rfl (Nat.le_of_ble_eq_true rfl) dX7_copy_77 rfl (fun H locs hP hD hS => ?_)
                have he := Option.some.inj hf
                obtain ⟨e0, ht0⟩ := Prod.mk.inj he
                obtain ⟨e1, ht1⟩ := Prod.mk.inj ht0
                obtain ⟨e2, ht2⟩ := Prod.mk.inj ht1
                obtain ⟨e3, ht3⟩ := Prod.mk.inj ht2
                obtain ⟨e4, e5⟩ := Prod.mk.inj ht3
                exact hri _ _ _ rfl (congrArg (fun z => some (Value.int z)) e0.symm) dX7_copy_80 _ _ _ (by rw [e1, e2, e3, e4, e5]) hP hD hS
            · have hf := in_el hc107 hf
              exact h45 Ma N0 N1 N2 N3 _ _ _ hP hD hS (lv_sub hl [0] rfl) hf
          have hf := in_el hc104 hf
          by_cases hc120 : x3 = 2
          · have hf := ip_el hc120 hf
            refine sa_lit (e := ag2 0) hx hb hK hP 2 rfl (k := 2) (by rw [hc120]; decide) rfl dX7_copy_38 ?_
            obtain ⟨r121, hg122, hf⟩ := b1_el hf
            refine cc_V (w' := ((kX7 cs ama (.ref (are 0)) (.ref (are2 0)) (.ref (are3 0)) (.ref (ach 0)) (.ref (ata 0)) (.ref (asa 0)) Ma) ++ ((kSA cs asa (ag0 0) (ag1 0) (ag2 0) (ag3 0)) ++ ((kX5 cs ag0 (.ref (an0 0)) G0) ++ ((kJ40 cs an0 N0) ++ ((kX5 cs ag1 (.ref (an1 0)) G1) ++ ((kJ40 cs an1 N1) ++ ((kX5 cs ag2 (.ref (an2 0)) G2) ++ ((kJ40 cs an2 N2) ++ ((kX5 cs ag3 (.ref (an3 0)) G3) ++ ((kJ40 cs an3 N3)))))))))))) (wr := ((kX7 cs ama (.ref (are 0)) (.ref (are2 0)) (.ref (are3 0)) (.ref (ach 0)) (.ref (ata 0)) (.ref (asa 0)) Ma) ++ ((kSA cs asa (ag0 0) (ag1 0) (ag2 0) (ag3 0)) ++ ((kX5 cs ag0 (.ref (an0 0)) G0) ++ ((kJ40 cs an0 N0) ++ ((kX5 cs ag1 (.ref (an1 0)) G1) ++ ((kJ40 cs an1 N1) ++ ((kJ40 cs an2 N2) ++ ((kX5 cs ag3 (.ref (an3 0)) G3) ++ ((kJ40 cs an3 N3))))))))))) (st1 := [.int r121]) [] hx hb hml hown hu (tX5_isMissing l D cs ag2 an2 G2 r121 hg122) q860 q61 q857 q858 q859 pdX5_isMissing ⟨rfl, rfl, Nat.le_of_ble_eq_true rfl, Nat.le_of_ble_eq_true rfl⟩ hK hZ hP hD hS hA [7] [0, 1, 2, 3, 4, 5, 6, 8, 9, 10] [0, 1, 2, 3, 4, 5, 6, 10, 7, 8, 9] rfl rfl rfl rfl rfl rfl rfl rfl rfl rfl hl.1 rfl (Nat.le_of_ble_eq_true rfl) dX7_copy_39 rfl (fun H locs hP hD hS => ?_)
            refine lv_if_eq (tgt := 53) hx hb dX7_copy_42 (by decide) (fun hc123 => ?_) (fun hc123 => ?_)
            · have hf := ip_el hc123 hf
              refine lv_aload_n hx hb dX7_copy_53 rfl (lv_at hl 0 rfl) ?_
              refine va_get (D := D) (ci := 7) (v := .ref (asa 0)) (C := RX7) (T := TX7) (N := 8) hx hb hu inX7 hown hK.1 hP 0 rfl rfl 5 (by decide) (hu _ q305) (fun _ h9 => h9) rfl dX7_copy_54 ?_
              refine lv_iload_n hx hb dX7_copy_57 rfl (lv_at hl 1 rfl) ?_
              refine sa_lit (e := ag1 0) hx hb hK hP 2 rfl (k := 1) (by rw [hc84]; decide) rfl dX7_copy_58 ?_
              refine va_get (D := D) (ci := 5) (v := .int (G1 0 0)) (C := RX5) (T := TX5) (N := 3) hx hb hu inX5 hown hK.1 hP 5 rfl rfl 0 (by decide) (hu _ q287) (fun _ h9 => h9) rfl dX7_copy_59 ?_
              refine lv_aload_n hx hb dX7_copy_62 rfl (lv_at hl 0 rfl) ?_
              refine va_get (D := D) (ci := 7) (v := .ref (asa 0)) (C := RX7) (T := TX7) (N := 8) hx hb hu inX7 hown hK.1 hP 0 rfl rfl 5 (by decide) (hu _ q305) (fun _ h9 => h9) rfl dX7_copy_63 ?_
              refine lv_iload_n hx hb dX7_copy_66 rfl (lv_at hl 3 rfl) ?_
              refine sa_lit (e := ag2 0) hx hb hK hP 2 rfl (k := 2) (by rw [hc120]; decide) rfl dX7_copy_67 ?_
              refine va_get (D := D) (ci := 5) (v := .int (G2 0 0)) (C := RX5) (T := TX5) (N := 3) hx hb hu inX5 hown hK.1 hP 7 rfl rfl 0 (by decide) (hu _ q287) (fun _ h9 => h9) rfl dX7_copy_68 ?_
              refine lv_icmp_eq (tgt := 81) hx hb dX7_copy_71 (by decide) (fun hc124 => ?_) (fun hc124 => ?_)
              · have hf := ip_el hc124 hf
                refine lv_aload_n hx hb dX7_copy_81 rfl (lv_at hl 0 rfl) ?_
                refine va_get (D := D) (ci := 7) (v := .ref (asa 0)) (C := RX7) (T := TX7) (N := 8) hx hb hu inX7 hown hK.1 hP 0 rfl rfl 5 (by decide) (hu _ q305) (fun _ h9 => h9) rfl dX7_copy_82 ?_
                refine lv_iload_n hx hb dX7_copy_85 rfl (lv_at hl 1 rfl) ?_
                refine sa_lit (e := ag1 0) hx hb hK hP 2 rfl (k := 1) (by rw [hc84]; decide) rfl dX7_copy_86 ?_
                refine lv_iload_n hx hb dX7_copy_87 rfl (lv_at hl 2 rfl) ?_
                refine lv_iload hx hb dX7_copy_88 (lv_at hl 5 rfl) ?_
                obtain ⟨r125, hg126, hf⟩ := b1_el hf
                refine cc_V (w' := ((kX7 cs ama (.ref (are 0)) (.ref (are2 0)) (.ref (are3 0)) (.ref (ach 0)) (.ref (ata 0)) (.ref (asa 0)) Ma) ++ ((kSA cs asa (ag0 0) (ag1 0) (ag2 0) (ag3 0)) ++ ((kX5 cs ag0 (.ref (an0 0)) G0) ++ ((kJ40 cs an0 N0) ++ ((kX5 cs ag1 (.ref (an1 0)) G1) ++ ((kJ40 cs an1 N1) ++ ((kX5 cs ag2 (.ref (an2 0)) G2) ++ ((kJ40 cs an2 N2) ++ ((kX5 cs ag3 (.ref (an3 0)) G3) ++ ((kJ40 cs an3 N3)))))))))))) (wr := ((kX7 cs ama (.ref (are 0)) (.ref (are2 0)) (.ref (are3 0)) (.ref (ach 0)) (.ref (ata 0)) (.ref (asa 0)) Ma) ++ ((kSA cs asa (ag0 0) (ag1 0) (ag2 0) (ag3 0)) ++ ((kX5 cs ag0 (.ref (an0 0)) G0) ++ ((kJ40 cs an0 N0) ++ ((kJ40 cs an1 N1) ++ ((kX5 cs ag2 (.ref (an2 0)) G2) ++ ((kJ40 cs an2 N2) ++ ((kX5 cs ag3 (.ref (an3 0)) G3) ++ ((kJ40 cs an3 N3))))))))))) (st1 := [.int r125]) [.int x2, .int x5] hx hb hml hown hu (tX5_holds l D cs ag1 an1 x2 x5 G1 r125 hg126) q873 q61 q870 q871 q872 pdX5_holds ⟨rfl, rfl, Nat.le_of_ble_eq_true rfl, Nat.le_of_ble_eq_true rfl⟩ hK hZ hP hD hS hA [5] [0, 1, 2, 3, 4, 6, 7, 8, 9, 10] [0, 1, 2, 3, 4, 10, 5, 6, 7, 8, 9] rfl rfl rfl rfl rfl rfl rfl rfl rfl rfl hl.1 rfl (Nat.le_of_ble_eq_true rfl) dX7_copy_90 rfl (fun H locs hP hD hS => ?_)
                refine lv_if_eq (tgt := 112) hx hb dX7_copy_93 (by decide) (fun hc127 => ?_) (fun hc127 => ?_)
                · have hf := ip_el hc127 hf
                  exact h112 Ma N0 N1 N2 N3 _ _ _ hP hD hS (lv_sub hl [0] rfl) hf
                · have hf := in_el hc127 hf
                  refine lv_aload_n hx hb dX7_copy_96 rfl (lv_at hl 0 rfl) ?_
                  refine va_get (D := D) (ci := 7) (v := .ref (asa 0)) (C := RX7) (T := TX7) (N := 8) hx hb hu inX7 hown hK.1 hP 0 rfl rfl 5 (by decide) (hu _ q305) (fun _ h9 => h9) rfl dX7_copy_97 ?_
                  refine lv_iload_n hx hb dX7_copy_100 rfl (lv_at hl 3 rfl) ?_
                  refine sa_lit (e := ag2 0) hx hb hK hP 2 rfl (k := 2) (by rw [hc120]; decide) rfl dX7_copy_101 ?_
                  refine lv_iload hx hb dX7_copy_102 (lv_at hl 4 rfl) ?_
                  refine lv_iload hx hb dX7_copy_104 (lv_at hl 5 rfl) ?_
                  obtain ⟨r128, hg129, hf⟩ := b1_el hf
                  refine cc_V (w' := ((kX7 cs ama (.ref (are 0)) (.ref (are2 0)) (.ref (are3 0)) (.ref (ach 0)) (.ref (ata 0)) (.ref (asa 0)) Ma) ++ ((kSA cs asa (ag0 0) (ag1 0) (ag2 0) (ag3 0)) ++ ((kX5 cs ag0 (.ref (an0 0)) G0) ++ ((kJ40 cs an0 N0) ++ ((kX5 cs ag1 (.ref (an1 0)) G1) ++ ((kJ40 cs an1 N1) ++ ((kX5 cs ag2 (.ref (an2 0)) G2) ++ ((kJ40 cs an2 N2) ++ ((kX5 cs ag3 (.ref (an3 0)) G3) ++ ((kJ40 cs an3 N3)))))))))))) (wr := ((kX7 cs ama (.ref (are 0)) (.ref (are2 0)) (.ref (are3 0)) (.ref (ach 0)) (.ref (ata 0)) (.ref (asa 0)) Ma) ++ ((kSA cs asa (ag0 0) (ag1 0) (ag2 0) (ag3 0)) ++ ((kX5 cs ag0 (.ref (an0 0)) G0) ++ ((kJ40 cs an0 N0) ++ ((kX5 cs ag1 (.ref (an1 0)) G1) ++ ((kJ40 cs an1 N1) ++ ((kJ40 cs an2 N2) ++ ((kX5 cs ag3 (.ref (an3 0)) G3) ++ ((kJ40 cs an3 N3))))))))))) (st1 := [.int r128]) [.int x4, .int x5] hx hb hml hown hu (tX5_holds l D cs ag2 an2 x4 x5 G2 r128 hg129) q873 q61 q870 q871 q872 pdX5_holds ⟨rfl, rfl, Nat.le_of_ble_eq_true rfl, Nat.le_of_ble_eq_true rfl⟩ hK hZ hP hD hS hA [7] [0, 1, 2, 3, 4, 5, 6, 8, 9, 10] [0, 1, 2, 3, 4, 5, 6, 10, 7, 8, 9] rfl rfl rfl rfl rfl rfl rfl rfl rfl rfl hl.1 rfl (Nat.le_of_ble_eq_true rfl) dX7_copy_106 rfl (fun H locs hP hD hS => ?_)
                  refine lv_if_ne (tgt := 119) hx hb dX7_copy_109 (by decide) (fun hc130 => ?_) (fun hc130 => ?_)
                  · have hf := in_el hc130 hf
                    refine lv_aload_n hx hb dX7_copy_119 rfl (lv_at hl 0 rfl) ?_
                    refine va_get (D := D) (ci := 7) (v := .ref (asa 0)) (C := RX7) (T := TX7) (N := 8) hx hb hu inX7 hown hK.1 hP 0 rfl rfl 5 (by decide) (hu _ q305) (fun _ h9 => h9) rfl dX7_copy_120 ?_
                    refine lv_iload_n hx hb dX7_copy_123 rfl (lv_at hl 1 rfl) ?_
                    refine sa_lit (e := ag1 0) hx hb hK hP 2 rfl (k := 1) (by rw [hc84]; decide) rfl dX7_copy_124 ?_
                    refine va_get (D := D) (ci := 5) (v := .ref (an1 0)) (C := RX5) (T := TX5) (N := 3) hx hb hu inX5 hown hK.1 hP 5 rfl rfl 2 (by decide) (hu _ q291) (fun _ h9 => h9) rfl dX7_copy_125 ?_
                    refine lv_iload_n hx hb dX7_copy_128 rfl (lv_at hl 2 rfl) ?_
                    refine lv_aload_n hx hb dX7_copy_129 rfl (lv_at hl 0 rfl) ?_
                    refine va_get (D := D) (ci := 7) (v := .ref (asa 0)) (C := RX7) (T := TX7) (N := 8) hx hb hu inX7 hown hK.1 hP 0 rfl rfl 5 (by decide) (hu _ q305) (fun _ h9 => h9) rfl dX7_copy_130 ?_
                    refine lv_iload_n hx hb dX7_copy_133 rfl (lv_at hl 3 rfl) ?_
                    refine sa_lit (e := ag2 0) hx hb hK hP 2 rfl (k := 2) (by rw [hc120]; decide) rfl dX7_copy_134 ?_
                    refine va_get (D := D) (ci := 5) (v := .ref (an2 0)) (C := RX5) (T := TX5) (N := 3) hx hb hu inX5 hown hK.1 hP 7 rfl rfl 2 (by decide) (hu _ q291) (fun _ h9 => h9) rfl dX7_copy_135 ?_
                    refine lv_iload hx hb dX7_copy_138 (lv_at hl 4 rfl) ?_
                    refine lv_iload hx hb dX7_copy_140 (lv_at hl 5 rfl) ?_
                    obtain ⟨hq132, hf⟩ := cp_el hf
                    obtain ⟨N2_131, hN2_131, hf⟩ := lt_el hf
                    refine va_copyl hx hb (hml.trans hl.1.symm) hown (hu _ q874) (hu _ q431) (hu _ q430) (hu _ q63) hK.1 hP hD hS 6 8 1 1 rfl rfl rfl rfl rfl hq132.1 hq132.2.1 hq132.2.2.1 hq132.2.2.2.1 hq132.2.2.2.2 (fun _ _ => rfl) (Nat.le_of_ble_eq_true rfl) (Nat.le_of_ble_eq_true rfl) dX7_copy_142 (fun H locs hP hD hS => ?_)
                    have hP : va_P D vwCl ((kX7 cs ama (.ref (are 0)) (.ref (are2 0)) (.ref (are3 0)) (.ref (ach 0)) (.ref (ata 0)) (.ref (asa 0)) Ma) ++ ((kSA cs asa (ag0 0) (ag1 0) (ag2 0) (ag3 0)) ++ ((kX5 cs ag0 (.ref (an0 0)) G0) ++ ((kJ40 cs an0 N0) ++ ((kX5 cs ag1 (.ref (an1 0)) G1) ++ ((kJ40 cs an1 N1) ++ ((kX5 cs ag2 (.ref (an2 0)) G2) ++ ((kJ40 cs an2 N2_131) ++ ((kX5 cs ag3 (.ref (an3 0)) G3) ++ ((kJ40 cs an3 N3))))))))))) H := by rw [hN2_131]; exact hP
                    have hD : va_D A ((kX7 cs ama (.ref (are 0)) (.ref (are2 0)) (.ref (are3 0)) (.ref (ach 0)) (.ref (ata 0)) (.ref (asa 0)) Ma) ++ ((kSA cs asa (ag0 0) (ag1 0) (ag2 0) (ag3 0)) ++ ((kX5 cs ag0 (.ref (an0 0)) G0) ++ ((kJ40 cs an0 N0) ++ ((kX5 cs ag1 (.ref (an1 0)) G1) ++ ((kJ40 cs an1 N1) ++ ((kX5 cs ag2 (.ref (an2 0)) G2) ++ ((kJ40 cs an2 N2_131) ++ ((kX5 cs ag3 (.ref (an3 0)) G3) ++ ((kJ40 cs an3 N3))))))))))) := by rw [hN2_131]; exact hD
                    refine lv_iload hx hb dX7_copy_145 (lv_at hl 5 rfl) ?_
                    have he := Option.some.inj hf
                    obtain ⟨e0, ht0⟩ := Prod.mk.inj he
                    obtain ⟨e1, ht1⟩ := Prod.mk.inj ht0
                    obtain ⟨e2, ht2⟩ := Prod.mk.inj ht1
                    obtain ⟨e3, ht3⟩ := Prod.mk.inj ht2
                    obtain ⟨e4, e5⟩ := Prod.mk.inj ht3
                    exact hri _ _ _ rfl (congrArg (fun z => some (Value.int z)) e0.symm) dX7_copy_147 _ _ _ (by rw [e1, e2, e3, e4, e5]) hP hD hS
                  · have hf := ip_el hc130 hf
                    exact h112 Ma N0 N1 N2 N3 _ _ _ hP hD hS (lv_sub hl [0] rfl) hf
              · have hf := in_el hc124 hf
                refine lv_aload_n hx hb dX7_copy_74 rfl (lv_at hl 0 rfl) ?_
                refine lv_ldc (v := (-1000000003)) hx hb hown (hu _ q465) dX7_copy_75 ?_
                obtain ⟨r133, Ma_134, hg135, hf⟩ := b2_el hf
                refine cc_V (w' := ((kX7 cs ama (.ref (are 0)) (.ref (are2 0)) (.ref (are3 0)) (.ref (ach 0)) (.ref (ata 0)) (.ref (asa 0)) Ma_134) ++ ((kSA cs asa (ag0 0) (ag1 0) (ag2 0) (ag3 0)) ++ ((kX5 cs ag0 (.ref (an0 0)) G0) ++ ((kJ40 cs an0 N0) ++ ((kX5 cs ag1 (.ref (an1 0)) G1) ++ ((kJ40 cs an1 N1) ++ ((kX5 cs ag2 (.ref (an2 0)) G2) ++ ((kJ40 cs an2 N2) ++ ((kX5 cs ag3 (.ref (an3 0)) G3) ++ ((kJ40 cs an3 N3)))))))))))) (wr := ((kSA cs asa (ag0 0) (ag1 0) (ag2 0) (ag3 0)) ++ ((kX5 cs ag0 (.ref (an0 0)) G0) ++ ((kJ40 cs an0 N0) ++ ((kX5 cs ag1 (.ref (an1 0)) G1) ++ ((kJ40 cs an1 N1) ++ ((kX5 cs ag2 (.ref (an2 0)) G2) ++ ((kJ40 cs an2 N2) ++ ((kX5 cs ag3 (.ref (an3 0)) G3) ++ ((kJ40 cs an3 N3))))))))))) (st1 := [.int r133]) [.int (-1000000003)] hx hb hml hown hu (tX7_finding l D cs ama are are2 are3 ach ata asa (-1000000003) Ma r133 Ma_134 hg135) q339 q54 q336 q338 q0 pdX7_finding ⟨rfl, rfl, Nat.le_of_ble_eq_true rfl, Nat.le_of_ble_eq_true rfl⟩ hK hZ hP hD hS hA [0, 1] [2, 3, 4, 5, 6, 7, 8, 9, 10] [9, 10, 0, 1, 2, 3, 4, 5, 6, 7, 8] rfl rfl rfl rfl rfl rfl rfl rfl rfl rfl hl.1 rfl (Nat.le_of_ble_eq_true rfl) dX7_copy_77 rfl (fun H locs hP hD hS => ?_)
                have he := Option.some.inj hf
                obtain ⟨e0, ht0⟩ := Prod.mk.inj he
                obtain ⟨e1, ht1⟩ := Prod.mk.inj ht0
                obtain ⟨e2, ht2⟩ := Prod.mk.inj ht1
                obtain ⟨e3, ht3⟩ := Prod.mk.inj ht2
                obtain ⟨e4, e5⟩ := Prod.mk.inj ht3
                exact hri _ _ _ rfl (congrArg (fun z => some (Value.int z)) e0.symm) dX7_copy_80 _ _ _ (by rw [e1, e2, e3, e4, e5]) hP hD hS
            · have hf := in_el hc123 hf
              exact h45 Ma N0 N1 N2 N3 _ _ _ hP hD hS (lv_sub hl [0] rfl) hf
          have hf := in_el hc120 hf
          by_cases hc136 : x3 = 3
          · have hf := ip_el hc136 hf
            refine sa_lit (e := ag3 0) hx hb hK hP 2 rfl (k := 3) (by rw [hc136]; decide) rfl dX7_copy_38 ?_
            obtain ⟨r137, hg138, hf⟩ := b1_el hf
            refine cc_V (w' := ((kX7 cs ama (.ref (are 0)) (.ref (are2 0)) (.ref (are3 0)) (.ref (ach 0)) (.ref (ata 0)) (.ref (asa 0)) Ma) ++ ((kSA cs asa (ag0 0) (ag1 0) (ag2 0) (ag3 0)) ++ ((kX5 cs ag0 (.ref (an0 0)) G0) ++ ((kJ40 cs an0 N0) ++ ((kX5 cs ag1 (.ref (an1 0)) G1) ++ ((kJ40 cs an1 N1) ++ ((kX5 cs ag2 (.ref (an2 0)) G2) ++ ((kJ40 cs an2 N2) ++ ((kX5 cs ag3 (.ref (an3 0)) G3) ++ ((kJ40 cs an3 N3)))))))))))) (wr := ((kX7 cs ama (.ref (are 0)) (.ref (are2 0)) (.ref (are3 0)) (.ref (ach 0)) (.ref (ata 0)) (.ref (asa 0)) Ma) ++ ((kSA cs asa (ag0 0) (ag1 0) (ag2 0) (ag3 0)) ++ ((kX5 cs ag0 (.ref (an0 0)) G0) ++ ((kJ40 cs an0 N0) ++ ((kX5 cs ag1 (.ref (an1 0)) G1) ++ ((kJ40 cs an1 N1) ++ ((kX5 cs ag2 (.ref (an2 0)) G2) ++ ((kJ40 cs an2 N2) ++ ((kJ40 cs an3 N3))))))))))) (st1 := [.int r137]) [] hx hb hml hown hu (tX5_isMissing l D cs ag3 an3 G3 r137 hg138) q860 q61 q857 q858 q859 pdX5_isMissing ⟨rfl, rfl, Nat.le_of_ble_eq_true rfl, Nat.le_of_ble_eq_true rfl⟩ hK hZ hP hD hS hA [9] [0, 1, 2, 3, 4, 5, 6, 7, 8, 10] [0, 1, 2, 3, 4, 5, 6, 7, 8, 10, 9] rfl rfl rfl rfl rfl rfl rfl rfl rfl rfl hl.1 rfl (Nat.le_of_ble_eq_true rfl) dX7_copy_39 rfl (fun H locs hP hD hS => ?_)
            refine lv_if_eq (tgt := 53) hx hb dX7_copy_42 (by decide) (fun hc139 => ?_) (fun hc139 => ?_)
            · have hf := ip_el hc139 hf
              refine lv_aload_n hx hb dX7_copy_53 rfl (lv_at hl 0 rfl) ?_
              refine va_get (D := D) (ci := 7) (v := .ref (asa 0)) (C := RX7) (T := TX7) (N := 8) hx hb hu inX7 hown hK.1 hP 0 rfl rfl 5 (by decide) (hu _ q305) (fun _ h9 => h9) rfl dX7_copy_54 ?_
              refine lv_iload_n hx hb dX7_copy_57 rfl (lv_at hl 1 rfl) ?_
              refine sa_lit (e := ag1 0) hx hb hK hP 2 rfl (k := 1) (by rw [hc84]; decide) rfl dX7_copy_58 ?_
              refine va_get (D := D) (ci := 5) (v := .int (G1 0 0)) (C := RX5) (T := TX5) (N := 3) hx hb hu inX5 hown hK.1 hP 5 rfl rfl 0 (by decide) (hu _ q287) (fun _ h9 => h9) rfl dX7_copy_59 ?_
              refine lv_aload_n hx hb dX7_copy_62 rfl (lv_at hl 0 rfl) ?_
              refine va_get (D := D) (ci := 7) (v := .ref (asa 0)) (C := RX7) (T := TX7) (N := 8) hx hb hu inX7 hown hK.1 hP 0 rfl rfl 5 (by decide) (hu _ q305) (fun _ h9 => h9) rfl dX7_copy_63 ?_
              refine lv_iload_n hx hb dX7_copy_66 rfl (lv_at hl 3 rfl) ?_
              refine sa_lit (e := ag3 0) hx hb hK hP 2 rfl (k := 3) (by rw [hc136]; decide) rfl dX7_copy_67 ?_
              refine va_get (D := D) (ci := 5) (v := .int (G3 0 0)) (C := RX5) (T := TX5) (N := 3) hx hb hu inX5 hown hK.1 hP 9 rfl rfl 0 (by decide) (hu _ q287) (fun _ h9 => h9) rfl dX7_copy_68 ?_
              refine lv_icmp_eq (tgt := 81) hx hb dX7_copy_71 (by decide) (fun hc140 => ?_) (fun hc140 => ?_)
              · have hf := ip_el hc140 hf
                refine lv_aload_n hx hb dX7_copy_81 rfl (lv_at hl 0 rfl) ?_
                refine va_get (D := D) (ci := 7) (v := .ref (asa 0)) (C := RX7) (T := TX7) (N := 8) hx hb hu inX7 hown hK.1 hP 0 rfl rfl 5 (by decide) (hu _ q305) (fun _ h9 => h9) rfl dX7_copy_82 ?_
                refine lv_iload_n hx hb dX7_copy_85 rfl (lv_at hl 1 rfl) ?_
                refine sa_lit (e := ag1 0) hx hb hK hP 2 rfl (k := 1) (by rw [hc84]; decide) rfl dX7_copy_86 ?_
                refine lv_iload_n hx hb dX7_copy_87 rfl (lv_at hl 2 rfl) ?_
                refine lv_iload hx hb dX7_copy_88 (lv_at hl 5 rfl) ?_
                obtain ⟨r141, hg142, hf⟩ := b1_el hf
                refine cc_V (w' := ((kX7 cs ama (.ref (are 0)) (.ref (are2 0)) (.ref (are3 0)) (.ref (ach 0)) (.ref (ata 0)) (.ref (asa 0)) Ma) ++ ((kSA cs asa (ag0 0) (ag1 0) (ag2 0) (ag3 0)) ++ ((kX5 cs ag0 (.ref (an0 0)) G0) ++ ((kJ40 cs an0 N0) ++ ((kX5 cs ag1 (.ref (an1 0)) G1) ++ ((kJ40 cs an1 N1) ++ ((kX5 cs ag2 (.ref (an2 0)) G2) ++ ((kJ40 cs an2 N2) ++ ((kX5 cs ag3 (.ref (an3 0)) G3) ++ ((kJ40 cs an3 N3)))))))))))) (wr := ((kX7 cs ama (.ref (are 0)) (.ref (are2 0)) (.ref (are3 0)) (.ref (ach 0)) (.ref (ata 0)) (.ref (asa 0)) Ma) ++ ((kSA cs asa (ag0 0) (ag1 0) (ag2 0) (ag3 0)) ++ ((kX5 cs ag0 (.ref (an0 0)) G0) ++ ((kJ40 cs an0 N0) ++ ((kJ40 cs an1 N1) ++ ((kX5 cs ag2 (.ref (an2 0)) G2) ++ ((kJ40 cs an2 N2) ++ ((kX5 cs ag3 (.ref (an3 0)) G3) ++ ((kJ40 cs an3 N3))))))))))) (st1 := [.int r141]) [.int x2, .int x5] hx hb hml hown hu (tX5_holds l D cs ag1 an1 x2 x5 G1 r141 hg142) q873 q61 q870 q871 q872 pdX5_holds ⟨rfl, rfl, Nat.le_of_ble_eq_true rfl, Nat.le_of_ble_eq_true rfl⟩ hK hZ hP hD hS hA [5] [0, 1, 2, 3, 4, 6, 7, 8, 9, 10] [0, 1, 2, 3, 4, 10, 5, 6, 7, 8, 9] rfl rfl rfl rfl rfl rfl rfl rfl rfl rfl hl.1 rfl (Nat.le_of_ble_eq_true rfl) dX7_copy_90 rfl (fun H locs hP hD hS => ?_)
                refine lv_if_eq (tgt := 112) hx hb dX7_copy_93 (by decide) (fun hc143 => ?_) (fun hc143 => ?_)
                · have hf := ip_el hc143 hf
                  exact h112 Ma N0 N1 N2 N3 _ _ _ hP hD hS (lv_sub hl [0] rfl) hf
                · have hf := in_el hc143 hf
                  refine lv_aload_n hx hb dX7_copy_96 rfl (lv_at hl 0 rfl) ?_
                  refine va_get (D := D) (ci := 7) (v := .ref (asa 0)) (C := RX7) (T := TX7) (N := 8) hx hb hu inX7 hown hK.1 hP 0 rfl rfl 5 (by decide) (hu _ q305) (fun _ h9 => h9) rfl dX7_copy_97 ?_
                  refine lv_iload_n hx hb dX7_copy_100 rfl (lv_at hl 3 rfl) ?_
                  refine sa_lit (e := ag3 0) hx hb hK hP 2 rfl (k := 3) (by rw [hc136]; decide) rfl dX7_copy_101 ?_
                  refine lv_iload hx hb dX7_copy_102 (lv_at hl 4 rfl) ?_
                  refine lv_iload hx hb dX7_copy_104 (lv_at hl 5 rfl) ?_
                  obtain ⟨r144, hg145, hf⟩ := b1_el hf
                  refine cc_V (w' := ((kX7 cs ama (.ref (are 0)) (.ref (are2 0)) (.ref (are3 0)) (.ref (ach 0)) (.ref (ata 0)) (.ref (asa 0)) Ma) ++ ((kSA cs asa (ag0 0) (ag1 0) (ag2 0) (ag3 0)) ++ ((kX5 cs ag0 (.ref (an0 0)) G0) ++ ((kJ40 cs an0 N0) ++ ((kX5 cs ag1 (.ref (an1 0)) G1) ++ ((kJ40 cs an1 N1) ++ ((kX5 cs ag2 (.ref (an2 0)) G2) ++ ((kJ40 cs an2 N2) ++ ((kX5 cs ag3 (.ref (an3 0)) G3) ++ ((kJ40 cs an3 N3)))))))))))) (wr := ((kX7 cs ama (.ref (are 0)) (.ref (are2 0)) (.ref (are3 0)) (.ref (ach 0)) (.ref (ata 0)) (.ref (asa 0)) Ma) ++ ((kSA cs asa (ag0 0) (ag1 0) (ag2 0) (ag3 0)) ++ ((kX5 cs ag0 (.ref (an0 0)) G0) ++ ((kJ40 cs an0 N0) ++ ((kX5 cs ag1 (.ref (an1 0)) G1) ++ ((kJ40 cs an1 N1) ++ ((kX5 cs ag2 (.ref (an2 0)) G2) ++ ((kJ40 cs an2 N2) ++ ((kJ40 cs an3 N3))))))))))) (st1 := [.int r144]) [.int x4, .int x5] hx hb hml hown hu (tX5_holds l D cs ag3 an3 x4 x5 G3 r144 hg145) q873 q61 q870 q871 q872 pdX5_holds ⟨rfl, rfl, Nat.le_of_ble_eq_true rfl, Nat.le_of_ble_eq_true rfl⟩ hK hZ hP hD hS hA [9] [0, 1, 2, 3, 4, 5, 6, 7, 8, 10] [0, 1, 2, 3, 4, 5, 6, 7, 8, 10, 9] rfl rfl rfl rfl rfl rfl rfl rfl rfl rfl hl.1 rfl (Nat.le_of_ble_eq_true rfl) dX7_copy_106 rfl (fun H locs hP hD hS => ?_)
                  refine lv_if_ne (tgt := 119) hx hb dX7_copy_109 (by decide) (fun hc146 => ?_) (fun hc146 => ?_)
                  · have hf := in_el hc146 hf
                    refine lv_aload_n hx hb dX7_copy_119 rfl (lv_at hl 0 rfl) ?_
                    refine va_get (D := D) (ci := 7) (v := .ref (asa 0)) (C := RX7) (T := TX7) (N := 8) hx hb hu inX7 hown hK.1 hP 0 rfl rfl 5 (by decide) (hu _ q305) (fun _ h9 => h9) rfl dX7_copy_120 ?_
                    refine lv_iload_n hx hb dX7_copy_123 rfl (lv_at hl 1 rfl) ?_
                    refine sa_lit (e := ag1 0) hx hb hK hP 2 rfl (k := 1) (by rw [hc84]; decide) rfl dX7_copy_124 ?_
                    refine va_get (D := D) (ci := 5) (v := .ref (an1 0)) (C := RX5) (T := TX5) (N := 3) hx hb hu inX5 hown hK.1 hP 5 rfl rfl 2 (by decide) (hu _ q291) (fun _ h9 => h9) rfl dX7_copy_125 ?_
                    refine lv_iload_n hx hb dX7_copy_128 rfl (lv_at hl 2 rfl) ?_
                    refine lv_aload_n hx hb dX7_copy_129 rfl (lv_at hl 0 rfl) ?_
                    refine va_get (D := D) (ci := 7) (v := .ref (asa 0)) (C := RX7) (T := TX7) (N := 8) hx hb hu inX7 hown hK.1 hP 0 rfl rfl 5 (by decide) (hu _ q305) (fun _ h9 => h9) rfl dX7_copy_130 ?_
                    refine lv_iload_n hx hb dX7_copy_133 rfl (lv_at hl 3 rfl) ?_
                    refine sa_lit (e := ag3 0) hx hb hK hP 2 rfl (k := 3) (by rw [hc136]; decide) rfl dX7_copy_134 ?_
                    refine va_get (D := D) (ci := 5) (v := .ref (an3 0)) (C := RX5) (T := TX5) (N := 3) hx hb hu inX5 hown hK.1 hP 9 rfl rfl 2 (by decide) (hu _ q291) (fun _ h9 => h9) rfl dX7_copy_135 ?_
                    refine lv_iload hx hb dX7_copy_138 (lv_at hl 4 rfl) ?_
                    refine lv_iload hx hb dX7_copy_140 (lv_at hl 5 rfl) ?_
                    obtain ⟨hq148, hf⟩ := cp_el hf
                    obtain ⟨N3_147, hN3_147, hf⟩ := lt_el hf
                    refine va_copyl hx hb (hml.trans hl.1.symm) hown (hu _ q874) (hu _ q431) (hu _ q430) (hu _ q63) hK.1 hP hD hS 6 10 1 1 rfl rfl rfl rfl rfl hq148.1 hq148.2.1 hq148.2.2.1 hq148.2.2.2.1 hq148.2.2.2.2 (fun _ _ => rfl) (Nat.le_of_ble_eq_true rfl) (Nat.le_of_ble_eq_true rfl) dX7_copy_142 (fun H locs hP hD hS => ?_)
                    have hP : va_P D vwCl ((kX7 cs ama (.ref (are 0)) (.ref (are2 0)) (.ref (are3 0)) (.ref (ach 0)) (.ref (ata 0)) (.ref (asa 0)) Ma) ++ ((kSA cs asa (ag0 0) (ag1 0) (ag2 0) (ag3 0)) ++ ((kX5 cs ag0 (.ref (an0 0)) G0) ++ ((kJ40 cs an0 N0) ++ ((kX5 cs ag1 (.ref (an1 0)) G1) ++ ((kJ40 cs an1 N1) ++ ((kX5 cs ag2 (.ref (an2 0)) G2) ++ ((kJ40 cs an2 N2) ++ ((kX5 cs ag3 (.ref (an3 0)) G3) ++ ((kJ40 cs an3 N3_147))))))))))) H := by rw [hN3_147]; exact hP
                    have hD : va_D A ((kX7 cs ama (.ref (are 0)) (.ref (are2 0)) (.ref (are3 0)) (.ref (ach 0)) (.ref (ata 0)) (.ref (asa 0)) Ma) ++ ((kSA cs asa (ag0 0) (ag1 0) (ag2 0) (ag3 0)) ++ ((kX5 cs ag0 (.ref (an0 0)) G0) ++ ((kJ40 cs an0 N0) ++ ((kX5 cs ag1 (.ref (an1 0)) G1) ++ ((kJ40 cs an1 N1) ++ ((kX5 cs ag2 (.ref (an2 0)) G2) ++ ((kJ40 cs an2 N2) ++ ((kX5 cs ag3 (.ref (an3 0)) G3) ++ ((kJ40 cs an3 N3_147))))))))))) := by rw [hN3_147]; exact hD
                    refine lv_iload hx hb dX7_copy_145 (lv_at hl 5 rfl) ?_
                    have he := Option.some.inj hf
                    obtain ⟨e0, ht0⟩ := Prod.mk.inj he
                    obtain ⟨e1, ht1⟩ := Prod.mk.inj ht0
                    obtain ⟨e2, ht2⟩ := Prod.mk.inj ht1
                    obtain ⟨e3, ht3⟩ := Prod.mk.inj ht2
                    obtain ⟨e4, e5⟩ := Prod.mk.inj ht3
                    exact hri _ _ _ rfl (congrArg (fun z => some (Value.int z)) e0.symm) dX7_copy_147 _ _ _ (by rw [e1, e2, e3, e4, e5]) hP hD hS
                  · have hf := ip_el hc146 hf
                    exact h112 Ma N0 N1 N2 N3 _ _ _ hP hD hS (lv_sub hl [0] rfl) hf
              · have hf := in_el hc140 hf
                refine lv_aload_n hx hb dX7_copy_74 rfl (lv_at hl 0 rfl) ?_
                refine lv_ldc (v := (-1000000003)) hx hb hown (hu _ q465) dX7_copy_75 ?_
                obtain ⟨r149, Ma_150, hg151, hf⟩ := b2_el hf
                refine cc_V (w' := ((kX7 cs ama (.ref (are 0)) (.ref (are2 0)) (.ref (are3 0)) (.ref (ach 0)) (.ref (ata 0)) (.ref (asa 0)) Ma_150) ++ ((kSA cs asa (ag0 0) (ag1 0) (ag2 0) (ag3 0)) ++ ((kX5 cs ag0 (.ref (an0 0)) G0) ++ ((kJ40 cs an0 N0) ++ ((kX5 cs ag1 (.ref (an1 0)) G1) ++ ((kJ40 cs an1 N1) ++ ((kX5 cs ag2 (.ref (an2 0)) G2) ++ ((kJ40 cs an2 N2) ++ ((kX5 cs ag3 (.ref (an3 0)) G3) ++ ((kJ40 cs an3 N3)))))))))))) (wr := ((kSA cs asa (ag0 0) (ag1 0) (ag2 0) (ag3 0)) ++ ((kX5 cs ag0 (.ref (an0 0)) G0) ++ ((kJ40 cs an0 N0) ++ ((kX5 cs ag1 (.ref (an1 0)) G1) ++ ((kJ40 cs an1 N1) ++ ((kX5 cs ag2 (.ref (an2 0)) G2) ++ ((kJ40 cs an2 N2) ++ ((kX5 cs ag3 (.ref (an3 0)) G3) ++ ((kJ40 cs an3 N3))))))))))) (st1 := [.int r149]) [.int (-1000000003)] hx hb hml hown hu (tX7_finding l D cs ama are are2 are3 ach ata asa (-1000000003) Ma r149 Ma_150 hg151) q339 q54 q336 q338 q0 pdX7_finding ⟨rfl, rfl, Nat.le_of_ble_eq_true rfl, Nat.le_of_ble_eq_true rfl⟩ hK hZ hP hD hS hA [0, 1] [2, 3, 4, 5, 6, 7, 8, 9, 10] [9, 10, 0, 1, 2, 3, 4, 5, 6, 7, 8] rfl rfl rfl rfl rfl rfl rfl rfl rfl rfl hl.1 rfl (Nat.le_of_ble_eq_true rfl) dX7_copy_77 rfl (fun H locs hP hD hS => ?_)
                have he := Option.some.inj hf
                obtain ⟨e0, ht0⟩ := Prod.mk.inj he
                obtain ⟨e1, ht1⟩ := Prod.mk.inj ht0
                obtain ⟨e2, ht2⟩ := Prod.mk.inj ht1
                obtain ⟨e3, ht3⟩ := Prod.mk.inj ht2
                obtain ⟨e4, e5⟩ := Prod.mk.inj ht3
                exact hri _ _ _ rfl (congrArg (fun z => some (Value.int z)) e0.symm) dX7_copy_80 _ _ _ (by rw [e1, e2, e3, e4, e5]) hP hD hS
            · have hf := in_el hc139 hf
              exact h45 Ma N0 N1 N2 N3 _ _ _ hP hD hS (lv_sub hl [0] rfl) hf
          have hf := in_el hc136 hf
          exact no_el hf
      have hf := in_el hc84 hf
      by_cases hc152 : x1 = 2
      · have hf := ip_el hc152 hf
        refine sa_lit (e := ag2 0) hx hb hK hP 2 rfl (k := 2) (by rw [hc152]; decide) rfl dX7_copy_26 ?_
        obtain ⟨r153, hg154, hf⟩ := b1_el hf
        refine cc_V (w' := ((kX7 cs ama (.ref (are 0)) (.ref (are2 0)) (.ref (are3 0)) (.ref (ach 0)) (.ref (ata 0)) (.ref (asa 0)) Ma) ++ ((kSA cs asa (ag0 0) (ag1 0) (ag2 0) (ag3 0)) ++ ((kX5 cs ag0 (.ref (an0 0)) G0) ++ ((kJ40 cs an0 N0) ++ ((kX5 cs ag1 (.ref (an1 0)) G1) ++ ((kJ40 cs an1 N1) ++ ((kX5 cs ag2 (.ref (an2 0)) G2) ++ ((kJ40 cs an2 N2) ++ ((kX5 cs ag3 (.ref (an3 0)) G3) ++ ((kJ40 cs an3 N3)))))))))))) (wr := ((kX7 cs ama (.ref (are 0)) (.ref (are2 0)) (.ref (are3 0)) (.ref (ach 0)) (.ref (ata 0)) (.ref (asa 0)) Ma) ++ ((kSA cs asa (ag0 0) (ag1 0) (ag2 0) (ag3 0)) ++ ((kX5 cs ag0 (.ref (an0 0)) G0) ++ ((kJ40 cs an0 N0) ++ ((kX5 cs ag1 (.ref (an1 0)) G1) ++ ((kJ40 cs an1 N1) ++ ((kJ40 cs an2 N2) ++ ((kX5 cs ag3 (.ref (an3 0)) G3) ++ ((kJ40 cs an3 N3))))))))))) (st1 := [.int r153]) [] hx hb hml hown hu (tX5_isMissing l D cs ag2 an2 G2 r153 hg154) q860 q61 q857 q858 q859 pdX5_isMissing ⟨rfl, rfl, Nat.le_of_ble_eq_true rfl, Nat.le_of_ble_eq_true rfl⟩ hK hZ hP hD hS hA [7] [0, 1, 2, 3, 4, 5, 6, 8, 9, 10] [0, 1, 2, 3, 4, 5, 6, 10, 7, 8, 9] rfl rfl rfl rfl rfl rfl rfl rfl rfl rfl hl.1 rfl (Nat.le_of_ble_eq_true rfl) dX7_copy_27 rfl (fun H locs hP hD hS => ?_)
        refine lv_if_ne (tgt := 45) hx hb dX7_copy_30 (by decide) (fun hc155 => ?_) (fun hc155 => ?_)
        · have hf := in_el hc155 hf
          exact h45 Ma N0 N1 N2 N3 _ _ _ hP hD hS (lv_sub hl [0] rfl) hf
        · have hf := ip_el hc155 hf
          refine lv_aload_n hx hb dX7_copy_33 rfl (lv_at hl 0 rfl) ?_
          refine va_get (D := D) (ci := 7) (v := .ref (asa 0)) (C := RX7) (T := TX7) (N := 8) hx hb hu inX7 hown hK.1 hP 0 rfl rfl 5 (by decide) (hu _ q305) (fun _ h9 => h9) rfl dX7_copy_34 ?_
          refine lv_iload_n hx hb dX7_copy_37 rfl (lv_at hl 3 rfl) ?_
          by_cases hc156 : x3 = 0
          · have hf := ip_el hc156 hf
            refine sa_lit (e := ag0 0) hx hb hK hP 2 rfl (k := 0) (by rw [hc156]; decide) rfl dX7_copy_38 ?_
            obtain ⟨r157, hg158, hf⟩ := b1_el hf
            refine cc_V (w' := ((kX7 cs ama (.ref (are 0)) (.ref (are2 0)) (.ref (are3 0)) (.ref (ach 0)) (.ref (ata 0)) (.ref (asa 0)) Ma) ++ ((kSA cs asa (ag0 0) (ag1 0) (ag2 0) (ag3 0)) ++ ((kX5 cs ag0 (.ref (an0 0)) G0) ++ ((kJ40 cs an0 N0) ++ ((kX5 cs ag1 (.ref (an1 0)) G1) ++ ((kJ40 cs an1 N1) ++ ((kX5 cs ag2 (.ref (an2 0)) G2) ++ ((kJ40 cs an2 N2) ++ ((kX5 cs ag3 (.ref (an3 0)) G3) ++ ((kJ40 cs an3 N3)))))))))))) (wr := ((kX7 cs ama (.ref (are 0)) (.ref (are2 0)) (.ref (are3 0)) (.ref (ach 0)) (.ref (ata 0)) (.ref (asa 0)) Ma) ++ ((kSA cs asa (ag0 0) (ag1 0) (ag2 0) (ag3 0)) ++ ((kJ40 cs an0 N0) ++ ((kX5 cs ag1 (.ref (an1 0)) G1) ++ ((kJ40 cs an1 N1) ++ ((kX5 cs ag2 (.ref (an2 0)) G2) ++ ((kJ40 cs an2 N2) ++ ((kX5 cs ag3 (.ref (an3 0)) G3) ++ ((kJ40 cs an3 N3))))))))))) (st1 := [.int r157]) [] hx hb hml hown hu (tX5_isMissing l D cs ag0 an0 G0 r157 hg158) q860 q61 q857 q858 q859 pdX5_isMissing ⟨rfl, rfl, Nat.le_of_ble_eq_true rfl, Nat.le_of_ble_eq_true rfl⟩ hK hZ hP hD hS hA [3] [0, 1, 2, 4, 5, 6, 7, 8, 9, 10] [0, 1, 2, 10, 3, 4, 5, 6, 7, 8, 9] rfl rfl rfl rfl rfl rfl rfl rfl rfl rfl hl.1 rfl (Nat.le_of_ble_eq_true rfl) dX7_copy_39 rfl (fun H locs hP hD hS => ?_)
            refine lv_if_eq (tgt := 53) hx hb dX7_copy_42 (by decide) (fun hc159 => ?_) (fun hc159 => ?_)
            · have hf := ip_el hc159 hf
              refine lv_aload_n hx hb dX7_copy_53 rfl (lv_at hl 0 rfl) ?_
              refine va_get (D := D) (ci := 7) (v := .ref (asa 0)) (C := RX7) (T := TX7) (N := 8) hx hb hu inX7 hown hK.1 hP 0 rfl rfl 5 (by decide) (hu _ q305) (fun _ h9 => h9) rfl dX7_copy_54 ?_
              refine lv_iload_n hx hb dX7_copy_57 rfl (lv_at hl 1 rfl) ?_
              refine sa_lit (e := ag2 0) hx hb hK hP 2 rfl (k := 2) (by rw [hc152]; decide) rfl dX7_copy_58 ?_
              refine va_get (D := D) (ci := 5) (v := .int (G2 0 0)) (C := RX5) (T := TX5) (N := 3) hx hb hu inX5 hown hK.1 hP 7 rfl rfl 0 (by decide) (hu _ q287) (fun _ h9 => h9) rfl dX7_copy_59 ?_
              refine lv_aload_n hx hb dX7_copy_62 rfl (lv_at hl 0 rfl) ?_
              refine va_get (D := D) (ci := 7) (v := .ref (asa 0)) (C := RX7) (T := TX7) (N := 8) hx hb hu inX7 hown hK.1 hP 0 rfl rfl 5 (by decide) (hu _ q305) (fun _ h9 => h9) rfl dX7_copy_63 ?_
              refine lv_iload_n hx hb dX7_copy_66 rfl (lv_at hl 3 rfl) ?_
              refine sa_lit (e := ag0 0) hx hb hK hP 2 rfl (k := 0) (by rw [hc156]; decide) rfl dX7_copy_67 ?_
              refine va_get (D := D) (ci := 5) (v := .int (G0 0 0)) (C := RX5) (T := TX5) (N := 3) hx hb hu inX5 hown hK.1 hP 3 rfl rfl 0 (by decide) (hu _ q287) (fun _ h9 => h9) rfl dX7_copy_68 ?_
              refine lv_icmp_eq (tgt := 81) hx hb dX7_copy_71 (by decide) (fun hc160 => ?_) (fun hc160 => ?_)
              · have hf := ip_el hc160 hf
                refine lv_aload_n hx hb dX7_copy_81 rfl (lv_at hl 0 rfl) ?_
                refine va_get (D := D) (ci := 7) (v := .ref (asa 0)) (C := RX7) (T := TX7) (N := 8) hx hb hu inX7 hown hK.1 hP 0 rfl rfl 5 (by decide) (hu _ q305) (fun _ h9 => h9) rfl dX7_copy_82 ?_
                refine lv_iload_n hx hb dX7_copy_85 rfl (lv_at hl 1 rfl) ?_
                refine sa_lit (e := ag2 0) hx hb hK hP 2 rfl (k := 2) (by rw [hc152]; decide) rfl dX7_copy_86 ?_
                refine lv_iload_n hx hb dX7_copy_87 rfl (lv_at hl 2 rfl) ?_
                refine lv_iload hx hb dX7_copy_88 (lv_at hl 5 rfl) ?_
                obtain ⟨r161, hg162, hf⟩ := b1_el hf
                refine cc_V (w' := ((kX7 cs ama (.ref (are 0)) (.ref (are2 0)) (.ref (are3 0)) (.ref (ach 0)) (.ref (ata 0)) (.ref (asa 0)) Ma) ++ ((kSA cs asa (ag0 0) (ag1 0) (ag2 0) (ag3 0)) ++ ((kX5 cs ag0 (.ref (an0 0)) G0) ++ ((kJ40 cs an0 N0) ++ ((kX5 cs ag1 (.ref (an1 0)) G1) ++ ((kJ40 cs an1 N1) ++ ((kX5 cs ag2 (.ref (an2 0)) G2) ++ ((kJ40 cs an2 N2) ++ ((kX5 cs ag3 (.ref (an3 0)) G3) ++ ((kJ40 cs an3 N3)))))))))))) (wr := ((kX7 cs ama (.ref (are 0)) (.ref (are2 0)) (.ref (are3 0)) (.ref (ach 0)) (.ref (ata 0)) (.ref (asa 0)) Ma) ++ ((kSA cs asa (ag0 0) (ag1 0) (ag2 0) (ag3 0)) ++ ((kX5 cs ag0 (.ref (an0 0)) G0) ++ ((kJ40 cs an0 N0) ++ ((kX5 cs ag1 (.ref (an1 0)) G1) ++ ((kJ40 cs an1 N1) ++ ((kJ40 cs an2 N2) ++ ((kX5 cs ag3 (.ref (an3 0)) G3) ++ ((kJ40 cs an3 N3))))))))))) (st1 := [.int r161]) [.int x2, .int x5] hx hb hml hown hu (tX5_holds l D cs ag2 an2 x2 x5 G2 r161 hg162) q873 q61 q870 q871 q872 pdX5_holds ⟨rfl, rfl, Nat.le_of_ble_eq_true rfl, Nat.le_of_ble_eq_true rfl⟩ hK hZ hP hD hS hA [7] [0, 1, 2, 3, 4, 5, 6, 8, 9, 10] [0, 1, 2, 3, 4, 5, 6, 10, 7, 8, 9] rfl rfl rfl rfl rfl rfl rfl rfl rfl rfl hl.1 rfl (Nat.le_of_ble_eq_true rfl) dX7_copy_90 rfl (fun H locs hP hD hS => ?_)
                refine lv_if_eq (tgt := 112) hx hb dX7_copy_93 (by decide) (fun hc163 => ?_) (fun hc163 => ?_)
                · have hf := ip_el hc163 hf
                  exact h112 Ma N0 N1 N2 N3 _ _ _ hP hD hS (lv_sub hl [0] rfl) hf
                · have hf := in_el hc163 hf
                  refine lv_aload_n hx hb dX7_copy_96 rfl (lv_at hl 0 rfl) ?_
                  refine va_get (D := D) (ci := 7) (v := .ref (asa 0)) (C := RX7) (T := TX7) (N := 8) hx hb hu inX7 hown hK.1 hP 0 rfl rfl 5 (by decide) (hu _ q305) (fun _ h9 => h9) rfl dX7_copy_97 ?_
                  refine lv_iload_n hx hb dX7_copy_100 rfl (lv_at hl 3 rfl) ?_
                  refine sa_lit (e := ag0 0) hx hb hK hP 2 rfl (k := 0) (by rw [hc156]; decide) rfl dX7_copy_101 ?_
                  refine lv_iload hx hb dX7_copy_102 (lv_at hl 4 rfl) ?_
                  refine lv_iload hx hb dX7_copy_104 (lv_at hl 5 rfl) ?_
                  obtain ⟨r164, hg165, hf⟩ := b1_el hf
                  refine cc_V (w' := ((kX7 cs ama (.ref (are 0)) (.ref (are2 0)) (.ref (are3 0)) (.ref (ach 0)) (.ref (ata 0)) (.ref (asa 0)) Ma) ++ ((kSA cs asa (ag0 0) (ag1 0) (ag2 0) (ag3 0)) ++ ((kX5 cs ag0 (.ref (an0 0)) G0) ++ ((kJ40 cs an0 N0) ++ ((kX5 cs ag1 (.ref (an1 0)) G1) ++ ((kJ40 cs an1 N1) ++ ((kX5 cs ag2 (.ref (an2 0)) G2) ++ ((kJ40 cs an2 N2) ++ ((kX5 cs ag3 (.ref (an3 0)) G3) ++ ((kJ40 cs an3 N3)))))))))))) (wr := ((kX7 cs ama (.ref (are 0)) (.ref (are2 0)) (.ref (are3 0)) (.ref (ach 0)) (.ref (ata 0)) (.ref (asa 0)) Ma) ++ ((kSA cs asa (ag0 0) (ag1 0) (ag2 0) (ag3 0)) ++ ((kJ40 cs an0 N0) ++ ((kX5 cs ag1 (.ref (an1 0)) G1) ++ ((kJ40 cs an1 N1) ++ ((kX5 cs ag2 (.ref (an2 0)) G2) ++ ((kJ40 cs an2 N2) ++ ((kX5 cs ag3 (.ref (an3 0)) G3) ++ ((kJ40 cs an3 N3))))))))))) (st1 := [.int r164]) [.int x4, .int x5] hx hb hml hown hu (tX5_holds l D cs ag0 an0 x4 x5 G0 r164 hg165) q873 q61 q870 q871 q872 pdX5_holds ⟨rfl, rfl, Nat.le_of_ble_eq_true rfl, Nat.le_of_ble_eq_true rfl⟩ hK hZ hP hD hS hA [3] [0, 1, 2, 4, 5, 6, 7, 8, 9, 10] [0, 1, 2, 10, 3, 4, 5, 6, 7, 8, 9] rfl rfl rfl rfl rfl rfl rfl rfl rfl rfl hl.1 rfl (Nat.le_of_ble_eq_true rfl) dX7_copy_106 rfl (fun H locs hP hD hS => ?_)
                  refine lv_if_ne (tgt := 119) hx hb dX7_copy_109 (by decide) (fun hc166 => ?_) (fun hc166 => ?_)
                  · have hf := in_el hc166 hf
                    refine lv_aload_n hx hb dX7_copy_119 rfl (lv_at hl 0 rfl) ?_
                    refine va_get (D := D) (ci := 7) (v := .ref (asa 0)) (C := RX7) (T := TX7) (N := 8) hx hb hu inX7 hown hK.1 hP 0 rfl rfl 5 (by decide) (hu _ q305) (fun _ h9 => h9) rfl dX7_copy_120 ?_
                    refine lv_iload_n hx hb dX7_copy_123 rfl (lv_at hl 1 rfl) ?_
                    refine sa_lit (e := ag2 0) hx hb hK hP 2 rfl (k := 2) (by rw [hc152]; decide) rfl dX7_copy_124 ?_
                    refine va_get (D := D) (ci := 5) (v := .ref (an2 0)) (C := RX5) (T := TX5) (N := 3) hx hb hu inX5 hown hK.1 hP 7 rfl rfl 2 (by decide) (hu _ q291) (fun _ h9 => h9) rfl dX7_copy_125 ?_
                    refine lv_iload_n hx hb dX7_copy_128 rfl (lv_at hl 2 rfl) ?_
                    refine lv_aload_n hx hb dX7_copy_129 rfl (lv_at hl 0 rfl) ?_
                    refine va_get (D := D) (ci := 7) (v := .ref (asa 0)) (C := RX7) (T := TX7) (N := 8) hx hb hu inX7 hown hK.1 hP 0 rfl rfl 5 (by decide) (hu _ q305) (fun _ h9 => h9) rfl dX7_copy_130 ?_
                    refine lv_iload_n hx hb dX7_copy_133 rfl (lv_at hl 3 rfl) ?_
                    refine sa_lit (e := ag0 0) hx hb hK hP 2 rfl (k := 0) (by rw [hc156]; decide) rfl dX7_copy_134 ?_
                    refine va_get (D := D) (ci := 5) (v := .ref (an0 0)) (C := RX5) (T := TX5) (N := 3) hx hb hu inX5 hown hK.1 hP 3 rfl rfl 2 (by decide) (hu _ q291) (fun _ h9 => h9) rfl dX7_copy_135 ?_
                    refine lv_iload hx hb dX7_copy_138 (lv_at hl 4 rfl) ?_
                    refine lv_iload hx hb dX7_copy_140 (lv_at hl 5 rfl) ?_
                    obtain ⟨hq168, hf⟩ := cp_el hf
                    obtain ⟨N0_167, hN0_167, hf⟩ := lt_el hf
                    refine va_copyl hx hb (hml.trans hl.1.symm) hown (hu _ q874) (hu _ q431) (hu _ q430) (hu _ q63) hK.1 hP hD hS 8 4 1 1 rfl rfl rfl rfl rfl hq168.1 hq168.2.1 hq168.2.2.1 hq168.2.2.2.1 hq168.2.2.2.2 (fun _ _ => rfl) (Nat.le_of_ble_eq_true rfl) (Nat.le_of_ble_eq_true rfl) dX7_copy_142 (fun H locs hP hD hS => ?_)
                    have hP : va_P D vwCl ((kX7 cs ama (.ref (are 0)) (.ref (are2 0)) (.ref (are3 0)) (.ref (ach 0)) (.ref (ata 0)) (.ref (asa 0)) Ma) ++ ((kSA cs asa (ag0 0) (ag1 0) (ag2 0) (ag3 0)) ++ ((kX5 cs ag0 (.ref (an0 0)) G0) ++ ((kJ40 cs an0 N0_167) ++ ((kX5 cs ag1 (.ref (an1 0)) G1) ++ ((kJ40 cs an1 N1) ++ ((kX5 cs ag2 (.ref (an2 0)) G2) ++ ((kJ40 cs an2 N2) ++ ((kX5 cs ag3 (.ref (an3 0)) G3) ++ ((kJ40 cs an3 N3))))))))))) H := by rw [hN0_167]; exact hP
                    have hD : va_D A ((kX7 cs ama (.ref (are 0)) (.ref (are2 0)) (.ref (are3 0)) (.ref (ach 0)) (.ref (ata 0)) (.ref (asa 0)) Ma) ++ ((kSA cs asa (ag0 0) (ag1 0) (ag2 0) (ag3 0)) ++ ((kX5 cs ag0 (.ref (an0 0)) G0) ++ ((kJ40 cs an0 N0_167) ++ ((kX5 cs ag1 (.ref (an1 0)) G1) ++ ((kJ40 cs an1 N1) ++ ((kX5 cs ag2 (.ref (an2 0)) G2) ++ ((kJ40 cs an2 N2) ++ ((kX5 cs ag3 (.ref (an3 0)) G3) ++ ((kJ40 cs an3 N3))))))))))) := by rw [hN0_167]; exact hD
                    refine lv_iload hx hb dX7_copy_145 (lv_at hl 5 rfl) ?_
                    have he := Option.some.inj hf
                    obtain ⟨e0, ht0⟩ := Prod.mk.inj he
                    obtain ⟨e1, ht1⟩ := Prod.mk.inj ht0
                    obtain ⟨e2, ht2⟩ := Prod.mk.inj ht1
                    obtain ⟨e3, ht3⟩ := Prod.mk.inj ht2
                    obtain ⟨e4, e5⟩ := Prod.mk.inj ht3
                    exact hri _ _ _ rfl (congrArg (fun z => some (Value.int z)) e0.symm) dX7_copy_147 _ _ _ (by rw [e1, e2, e3, e4, e5]) hP hD hS
                  · have hf := ip_el hc166 hf
                    exact h112 Ma N0 N1 N2 N3 _ _ _ hP hD hS (lv_sub hl [0] rfl) hf
              · have hf := in_el hc160 hf
                refine lv_aload_n hx hb dX7_copy_74 rfl (lv_at hl 0 rfl) ?_
                refine lv_ldc (v := (-1000000003)) hx hb hown (hu _ q465) dX7_copy_75 ?_
                obtain ⟨r169, Ma_170, hg171, hf⟩ := b2_el hf
                refine cc_V (w' := ((kX7 cs ama (.ref (are 0)) (.ref (are2 0)) (.ref (are3 0)) (.ref (ach 0)) (.ref (ata 0)) (.ref (asa 0)) Ma_170) ++ ((kSA cs asa (ag0 0) (ag1 0) (ag2 0) (ag3 0)) ++ ((kX5 cs ag0 (.ref (an0 0)) G0) ++ ((kJ40 cs an0 N0) ++ ((kX5 cs ag1 (.ref (an1 0)) G1) ++ ((kJ40 cs an1 N1) ++ ((kX5 cs ag2 (.ref (an2 0)) G2) ++ ((kJ40 cs an2 N2) ++ ((kX5 cs ag3 (.ref (an3 0)) G3) ++ ((kJ40 cs an3 N3)))))))))))) (wr := ((kSA cs asa (ag0 0) (ag1 0) (ag2 0) (ag3 0)) ++ ((kX5 cs ag0 (.ref (an0 0)) G0) ++ ((kJ40 cs an0 N0) ++ ((kX5 cs ag1 (.ref (an1 0)) G1) ++ ((kJ40 cs an1 N1) ++ ((kX5 cs ag2 (.ref (an2 0)) G2) ++ ((kJ40 cs an2 N2) ++ ((kX5 cs ag3 (.ref (an3 0)) G3) ++ ((kJ40 cs an3 N3))))))))))) (st1 := [.int r169]) [.int (-1000000003)] hx hb hml hown hu (tX7_finding l D cs ama are are2 are3 ach ata asa (-1000000003) Ma r169 Ma_170 hg171) q339 q54 q336 q338 q0 pdX7_finding ⟨rfl, rfl, Nat.le_of_ble_eq_true rfl, Nat.le_of_ble_eq_true rfl⟩ hK hZ hP hD hS hA [0, 1] [2, 3, 4, 5, 6, 7, 8, 9, 10] [9, 10, 0, 1, 2, 3, 4, 5, 6, 7, 8] rfl rfl rfl rfl rfl rfl rfl rfl rfl rfl hl.1 rfl (Nat.le_of_ble_eq_true rfl) dX7_copy_77 rfl (fun H locs hP hD hS => ?_)
                have he := Option.some.inj hf
                obtain ⟨e0, ht0⟩ := Prod.mk.inj he
                obtain ⟨e1, ht1⟩ := Prod.mk.inj ht0
                obtain ⟨e2, ht2⟩ := Prod.mk.inj ht1
                obtain ⟨e3, ht3⟩ := Prod.mk.inj ht2
                obtain ⟨e4, e5⟩ := Prod.mk.inj ht3
                exact hri _ _ _ rfl (congrArg (fun z => some (Value.int z)) e0.symm) dX7_copy_80 _ _ _ (by rw [e1, e2, e3, e4, e5]) hP hD hS
            · have hf := in_el hc159 hf
              exact h45 Ma N0 N1 N2 N3 _ _ _ hP hD hS (lv_sub hl [0] rfl) hf
          have hf := in_el hc156 hf
          by_cases hc172 : x3 = 1
          · have hf := ip_el hc172 hf
            refine sa_lit (e := ag1 0) hx hb hK hP 2 rfl (k := 1) (by rw [hc172]; decide) rfl dX7_copy_38 ?_
            obtain ⟨r173, hg174, hf⟩ := b1_el hf
            refine cc_V (w' := ((kX7 cs ama (.ref (are 0)) (.ref (are2 0)) (.ref (are3 0)) (.ref (ach 0)) (.ref (ata 0)) (.ref (asa 0)) Ma) ++ ((kSA cs asa (ag0 0) (ag1 0) (ag2 0) (ag3 0)) ++ ((kX5 cs ag0 (.ref (an0 0)) G0) ++ ((kJ40 cs an0 N0) ++ ((kX5 cs ag1 (.ref (an1 0)) G1) ++ ((kJ40 cs an1 N1) ++ ((kX5 cs ag2 (.ref (an2 0)) G2) ++ ((kJ40 cs an2 N2) ++ ((kX5 cs ag3 (.ref (an3 0)) G3) ++ ((kJ40 cs an3 N3)))))))))))) (wr := ((kX7 cs ama (.ref (are 0)) (.ref (are2 0)) (.ref (are3 0)) (.ref (ach 0)) (.ref (ata 0)) (.ref (asa 0)) Ma) ++ ((kSA cs asa (ag0 0) (ag1 0) (ag2 0) (ag3 0)) ++ ((kX5 cs ag0 (.ref (an0 0)) G0) ++ ((kJ40 cs an0 N0) ++ ((kJ40 cs an1 N1) ++ ((kX5 cs ag2 (.ref (an2 0)) G2) ++ ((kJ40 cs an2 N2) ++ ((kX5 cs ag3 (.ref (an3 0)) G3) ++ ((kJ40 cs an3 N3))))))))))) (st1 := [.int r173]) [] hx hb hml hown hu (tX5_isMissing l D cs ag1 an1 G1 r173 hg174) q860 q61 q857 q858 q859 pdX5_isMissing ⟨rfl, rfl, Nat.le_of_ble_eq_true rfl, Nat.le_of_ble_eq_true rfl⟩ hK hZ hP hD hS hA [5] [0, 1, 2, 3, 4, 6, 7, 8, 9, 10] [0, 1, 2, 3, 4, 10, 5, 6, 7, 8, 9] rfl rfl rfl rfl rfl rfl rfl rfl rfl rfl hl.1 rfl (Nat.le_of_ble_eq_true rfl) dX7_copy_39 rfl (fun H locs hP hD hS => ?_)
            refine lv_if_eq (tgt := 53) hx hb dX7_copy_42 (by decide) (fun hc175 => ?_) (fun hc175 => ?_)
            · have hf := ip_el hc175 hf
              refine lv_aload_n hx hb dX7_copy_53 rfl (lv_at hl 0 rfl) ?_
              refine va_get (D := D) (ci := 7) (v := .ref (asa 0)) (C := RX7) (T := TX7) (N := 8) hx hb hu inX7 hown hK.1 hP 0 rfl rfl 5 (by decide) (hu _ q305) (fun _ h9 => h9) rfl dX7_copy_54 ?_
              refine lv_iload_n hx hb dX7_copy_57 rfl (lv_at hl 1 rfl) ?_
              refine sa_lit (e := ag2 0) hx hb hK hP 2 rfl (k := 2) (by rw [hc152]; decide) rfl dX7_copy_58 ?_
              refine va_get (D := D) (ci := 5) (v := .int (G2 0 0)) (C := RX5) (T := TX5) (N := 3) hx hb hu inX5 hown hK.1 hP 7 rfl rfl 0 (by decide) (hu _ q287) (fun _ h9 => h9) rfl dX7_copy_59 ?_
              refine lv_aload_n hx hb dX7_copy_62 rfl (lv_at hl 0 rfl) ?_
              refine va_get (D := D) (ci := 7) (v := .ref (asa 0)) (C := RX7) (T := TX7) (N := 8) hx hb hu inX7 hown hK.1 hP 0 rfl rfl 5 (by decide) (hu _ q305) (fun _ h9 => h9) rfl dX7_copy_63 ?_
              refine lv_iload_n hx hb dX7_copy_66 rfl (lv_at hl 3 rfl) ?_
              refine sa_lit (e := ag1 0) hx hb hK hP 2 rfl (k := 1) (by rw [hc172]; decide) rfl dX7_copy_67 ?_
              refine va_get (D := D) (ci := 5) (v := .int (G1 0 0)) (C := RX5) (T := TX5) (N := 3) hx hb hu inX5 hown hK.1 hP 5 rfl rfl 0 (by decide) (hu _ q287) (fun _ h9 => h9) rfl dX7_copy_68 ?_
              refine lv_icmp_eq (tgt := 81) hx hb dX7_copy_71 (by decide) (fun hc176 => ?_) (fun hc176 => ?_)
              · have hf := ip_el hc176 hf
                refine lv_aload_n hx hb dX7_copy_81 rfl (lv_at hl 0 rfl) ?_
                refine va_get (D := D) (ci := 7) (v := .ref (asa 0)) (C := RX7) (T := TX7) (N := 8) hx hb hu inX7 hown hK.1 hP 0 rfl rfl 5 (by decide) (hu _ q305) (fun _ h9 => h9) rfl dX7_copy_82 ?_
                refine lv_iload_n hx hb dX7_copy_85 rfl (lv_at hl 1 rfl) ?_
                refine sa_lit (e := ag2 0) hx hb hK hP 2 rfl (k := 2) (by rw [hc152]; decide) rfl dX7_copy_86 ?_
                refine lv_iload_n hx hb dX7_copy_87 rfl (lv_at hl 2 rfl) ?_
                refine lv_iload hx hb dX7_copy_88 (lv_at hl 5 rfl) ?_
                obtain ⟨r177, hg178, hf⟩ := b1_el hf
                refine cc_V (w' := ((kX7 cs ama (.ref (are 0)) (.ref (are2 0)) (.ref (are3 0)) (.ref (ach 0)) (.ref (ata 0)) (.ref (asa 0)) Ma) ++ ((kSA cs asa (ag0 0) (ag1 0) (ag2 0) (ag3 0)) ++ ((kX5 cs ag0 (.ref (an0 0)) G0) ++ ((kJ40 cs an0 N0) ++ ((kX5 cs ag1 (.ref (an1 0)) G1) ++ ((kJ40 cs an1 N1) ++ ((kX5 cs ag2 (.ref (an2 0)) G2) ++ ((kJ40 cs an2 N2) ++ ((kX5 cs ag3 (.ref (an3 0)) G3) ++ ((kJ40 cs an3 N3)))))))))))) (wr := ((kX7 cs ama (.ref (are 0)) (.ref (are2 0)) (.ref (are3 0)) (.ref (ach 0)) (.ref (ata 0)) (.ref (asa 0)) Ma) ++ ((kSA cs asa (ag0 0) (ag1 0) (ag2 0) (ag3 0)) ++ ((kX5 cs ag0 (.ref (an0 0)) G0) ++ ((kJ40 cs an0 N0) ++ ((kX5 cs ag1 (.ref (an1 0)) G1) ++ ((kJ40 cs an1 N1) ++ ((kJ40 cs an2 N2) ++ ((kX5 cs ag3 (.ref (an3 0)) G3) ++ ((kJ40 cs an3 N3))))))))))) (st1 := [.int r177]) [.int x2, .int x5] hx hb hml hown hu (tX5_holds l D cs ag2 an2 x2 x5 G2 r177 hg178) q873 q61 q870 q871 q872 pdX5_holds ⟨rfl, rfl, Nat.le_of_ble_eq_true rfl, Nat.le_of_ble_eq_true rfl⟩ hK hZ hP hD hS hA [7] [0, 1, 2, 3, 4, 5, 6, 8, 9, 10] [0, 1, 2, 3, 4, 5, 6, 10, 7, 8, 9] rfl rfl rfl rfl rfl rfl rfl rfl rfl rfl hl.1 rfl (Nat.le_of_ble_eq_true rfl) dX7_copy_90 rfl (fun H locs hP hD hS => ?_)
                refine lv_if_eq (tgt := 112) hx hb dX7_copy_93 (by decide) (fun hc179 => ?_) (fun hc179 => ?_)
                · have hf := ip_el hc179 hf
                  exact h112 Ma N0 N1 N2 N3 _ _ _ hP hD hS (lv_sub hl [0] rfl) hf
                · have hf := in_el hc179 hf
                  refine lv_aload_n hx hb dX7_copy_96 rfl (lv_at hl 0 rfl) ?_
                  refine va_get (D := D) (ci := 7) (v := .ref (asa 0)) (C := RX7) (T := TX7) (N := 8) hx hb hu inX7 hown hK.1 hP 0 rfl rfl 5 (by decide) (hu _ q305) (fun _ h9 => h9) rfl dX7_copy_97 ?_
                  refine lv_iload_n hx hb dX7_copy_100 rfl (lv_at hl 3 rfl) ?_
                  refine sa_lit (e := ag1 0) hx hb hK hP 2 rfl (k := 1) (by rw [hc172]; decide) rfl dX7_copy_101 ?_
                  refine lv_iload hx hb dX7_copy_102 (lv_at hl 4 rfl) ?_
                  refine lv_iload hx hb dX7_copy_104 (lv_at hl 5 rfl) ?_
                  obtain ⟨r180, hg181, hf⟩ := b1_el hf
                  refine cc_V (w' := ((kX7 cs ama (.ref (are 0)) (.ref (are2 0)) (.ref (are3 0)) (.ref (ach 0)) (.ref (ata 0)) (.ref (asa 0)) Ma) ++ ((kSA cs asa (ag0 0) (ag1 0) (ag2 0) (ag3 0)) ++ ((kX5 cs ag0 (.ref (an0 0)) G0) ++ ((kJ40 cs an0 N0) ++ ((kX5 cs ag1 (.ref (an1 0)) G1) ++ ((kJ40 cs an1 N1) ++ ((kX5 cs ag2 (.ref (an2 0)) G2) ++ ((kJ40 cs an2 N2) ++ ((kX5 cs ag3 (.ref (an3 0)) G3) ++ ((kJ40 cs an3 N3)))))))))))) (wr := ((kX7 cs ama (.ref (are 0)) (.ref (are2 0)) (.ref (are3 0)) (.ref (ach 0)) (.ref (ata 0)) (.ref (asa 0)) Ma) ++ ((kSA cs asa (ag0 0) (ag1 0) (ag2 0) (ag3 0)) ++ ((kX5 cs ag0 (.ref (an0 0)) G0) ++ ((kJ40 cs an0 N0) ++ ((kJ40 cs an1 N1) ++ ((kX5 cs ag2 (.ref (an2 0)) G2) ++ ((kJ40 cs an2 N2) ++ ((kX5 cs ag3 (.ref (an3 0)) G3) ++ ((kJ40 cs an3 N3))))))))))) (st1 := [.int r180]) [.int x4, .int x5] hx hb hml hown hu (tX5_holds l D cs ag1 an1 x4 x5 G1 r180 hg181) q873 q61 q870 q871 q872 pdX5_holds ⟨rfl, rfl, Nat.le_of_ble_eq_true rfl, Nat.le_of_ble_eq_true rfl⟩ hK hZ hP hD hS hA [5] [0, 1, 2, 3, 4, 6, 7, 8, 9, 10] [0, 1, 2, 3, 4, 10, 5, 6, 7, 8, 9] rfl rfl rfl rfl rfl rfl rfl rfl rfl rfl hl.1 rfl (Nat.le_of_ble_eq_true rfl) dX7_copy_106 rfl (fun H locs hP hD hS => ?_)
                  refine lv_if_ne (tgt := 119) hx hb dX7_copy_109 (by decide) (fun hc182 => ?_) (fun hc182 => ?_)
                  · have hf := in_el hc182 hf
                    refine lv_aload_n hx hb dX7_copy_119 rfl (lv_at hl 0 rfl) ?_
                    refine va_get (D := D) (ci := 7) (v := .ref (asa 0)) (C := RX7) (T := TX7) (N := 8) hx hb hu inX7 hown hK.1 hP 0 rfl rfl 5 (by decide) (hu _ q305) (fun _ h9 => h9) rfl dX7_copy_120 ?_
                    refine lv_iload_n hx hb dX7_copy_123 rfl (lv_at hl 1 rfl) ?_
                    refine sa_lit (e := ag2 0) hx hb hK hP 2 rfl (k := 2) (by rw [hc152]; decide) rfl dX7_copy_124 ?_
                    refine va_get (D := D) (ci := 5) (v := .ref (an2 0)) (C := RX5) (T := TX5) (N := 3) hx hb hu inX5 hown hK.1 hP 7 rfl rfl 2 (by decide) (hu _ q291) (fun _ h9 => h9) rfl dX7_copy_125 ?_
                    refine lv_iload_n hx hb dX7_copy_128 rfl (lv_at hl 2 rfl) ?_
                    refine lv_aload_n hx hb dX7_copy_129 rfl (lv_at hl 0 rfl) ?_
                    refine va_get (D := D) (ci := 7) (v := .ref (asa 0)) (C := RX7) (T := TX7) (N := 8) hx hb hu inX7 hown hK.1 hP 0 rfl rfl 5 (by decide) (hu _ q305) (fun _ h9 => h9) rfl dX7_copy_130 ?_
                    refine lv_iload_n hx hb dX7_copy_133 rfl (lv_at hl 3 rfl) ?_
                    refine sa_lit (e := ag1 0) hx hb hK hP 2 rfl (k := 1) (by rw [hc172]; decide) rfl dX7_copy_134 ?_
                    refine va_get (D := D) (ci := 5) (v := .ref (an1 0)) (C := RX5) (T := TX5) (N := 3) hx hb hu inX5 hown hK.1 hP 5 rfl rfl 2 (by decide) (hu _ q291) (fun _ h9 => h9) rfl dX7_copy_135 ?_
                    refine lv_iload hx hb dX7_copy_138 (lv_at hl 4 rfl) ?_
                    refine lv_iload hx hb dX7_copy_140 (lv_at hl 5 rfl) ?_
                    obtain ⟨hq184, hf⟩ := cp_el hf
                    obtain ⟨N1_183, hN1_183, hf⟩ := lt_el hf
                    refine va_copyl hx hb (hml.trans hl.1.symm) hown (hu _ q874) (hu _ q431) (hu _ q430) (hu _ q63) hK.1 hP hD hS 8 6 1 1 rfl rfl rfl rfl rfl hq184.1 hq184.2.1 hq184.2.2.1 hq184.2.2.2.1 hq184.2.2.2.2 (fun _ _ => rfl) (Nat.le_of_ble_eq_true rfl) (Nat.le_of_ble_eq_true rfl) dX7_copy_142 (fun H locs hP hD hS => ?_)
                    have hP : va_P D vwCl ((kX7 cs ama (.ref (are 0)) (.ref (are2 0)) (.ref (are3 0)) (.ref (ach 0)) (.ref (ata 0)) (.ref (asa 0)) Ma) ++ ((kSA cs asa (ag0 0) (ag1 0) (ag2 0) (ag3 0)) ++ ((kX5 cs ag0 (.ref (an0 0)) G0) ++ ((kJ40 cs an0 N0) ++ ((kX5 cs ag1 (.ref (an1 0)) G1) ++ ((kJ40 cs an1 N1_183) ++ ((kX5 cs ag2 (.ref (an2 0)) G2) ++ ((kJ40 cs an2 N2) ++ ((kX5 cs ag3 (.ref (an3 0)) G3) ++ ((kJ40 cs an3 N3))))))))))) H := by rw [hN1_183]; exact hP
                    have hD : va_D A ((kX7 cs ama (.ref (are 0)) (.ref (are2 0)) (.ref (are3 0)) (.ref (ach 0)) (.ref (ata 0)) (.ref (asa 0)) Ma) ++ ((kSA cs asa (ag0 0) (ag1 0) (ag2 0) (ag3 0)) ++ ((kX5 cs ag0 (.ref (an0 0)) G0) ++ ((kJ40 cs an0 N0) ++ ((kX5 cs ag1 (.ref (an1 0)) G1) ++ ((kJ40 cs an1 N1_183) ++ ((kX5 cs ag2 (.ref (an2 0)) G2) ++ ((kJ40 cs an2 N2) ++ ((kX5 cs ag3 (.ref (an3 0)) G3) ++ ((kJ40 cs an3 N3))))))))))) := by rw [hN1_183]; exact hD
                    refine lv_iload hx hb dX7_copy_145 (lv_at hl 5 rfl) ?_
                    have he := Option.some.inj hf
                    obtain ⟨e0, ht0⟩ := Prod.mk.inj he
                    obtain ⟨e1, ht1⟩ := Prod.mk.inj ht0
                    obtain ⟨e2, ht2⟩ := Prod.mk.inj ht1
                    obtain ⟨e3, ht3⟩ := Prod.mk.inj ht2
                    obtain ⟨e4, e5⟩ := Prod.mk.inj ht3
                    exact hri _ _ _ rfl (congrArg (fun z => some (Value.int z)) e0.symm) dX7_copy_147 _ _ _ (by rw [e1, e2, e3, e4, e5]) hP hD hS
                  · have hf := ip_el hc182 hf
                    exact h112 Ma N0 N1 N2 N3 _ _ _ hP hD hS (lv_sub hl [0] rfl) hf
              · have hf := in_el hc176 hf
                refine lv_aload_n hx hb dX7_copy_74 rfl (lv_at hl 0 rfl) ?_
                refine lv_ldc (v := (-1000000003)) hx hb hown (hu _ q465) dX7_copy_75 ?_
                obtain ⟨r185, Ma_186, hg187, hf⟩ := b2_el hf
                refine cc_V (w' := ((kX7 cs ama (.ref (are 0)) (.ref (are2 0)) (.ref (are3 0)) (.ref (ach 0)) (.ref (ata 0)) (.ref (asa 0)) Ma_186) ++ ((kSA cs asa (ag0 0) (ag1 0) (ag2 0) (ag3 0)) ++ ((kX5 cs ag0 (.ref (an0 0)) G0) ++ ((kJ40 cs an0 N0) ++ ((kX5 cs ag1 (.ref (an1 0)) G1) ++ ((kJ40 cs an1 N1) ++ ((kX5 cs ag2 (.ref (an2 0)) G2) ++ ((kJ40 cs an2 N2) ++ ((kX5 cs ag3 (.ref (an3 0)) G3) ++ ((kJ40 cs an3 N3)))))))))))) (wr := ((kSA cs asa (ag0 0) (ag1 0) (ag2 0) (ag3 0)) ++ ((kX5 cs ag0 (.ref (an0 0)) G0) ++ ((kJ40 cs an0 N0) ++ ((kX5 cs ag1 (.ref (an1 0)) G1) ++ ((kJ40 cs an1 N1) ++ ((kX5 cs ag2 (.ref (an2 0)) G2) ++ ((kJ40 cs an2 N2) ++ ((kX5 cs ag3 (.ref (an3 0)) G3) ++ ((kJ40 cs an3 N3))))))))))) (st1 := [.int r185]) [.int (-1000000003)] hx hb hml hown hu (tX7_finding l D cs ama are are2 are3 ach ata asa (-1000000003) Ma r185 Ma_186 hg187) q339 q54 q336 q338 q0 pdX7_finding ⟨rfl, rfl, Nat.le_of_ble_eq_true rfl, Nat.le_of_ble_eq_true rfl⟩ hK hZ hP hD hS hA [0, 1] [2, 3, 4, 5, 6, 7, 8, 9, 10] [9, 10, 0, 1, 2, 3, 4, 5, 6, 7, 8] rfl rfl rfl rfl rfl rfl rfl rfl rfl rfl hl.1 rfl (Nat.le_of_ble_eq_true rfl) dX7_copy_77 rfl (fun H locs hP hD hS => ?_)
                have he := Option.some.inj hf
                obtain ⟨e0, ht0⟩ := Prod.mk.inj he
                obtain ⟨e1, ht1⟩ := Prod.mk.inj ht0
                obtain ⟨e2, ht2⟩ := Prod.mk.inj ht1
                obtain ⟨e3, ht3⟩ := Prod.mk.inj ht2
                obtain ⟨e4, e5⟩ := Prod.mk.inj ht3
                exact hri _ _ _ rfl (congrArg (fun z => some (Value.int z)) e0.symm) dX7_copy_80 _ _ _ (by rw [e1, e2, e3, e4, e5]) hP hD hS
            · have hf := in_el hc175 hf
              exact h45 Ma N0 N1 N2 N3 _ _ _ hP hD hS (lv_sub hl [0] rfl) hf
          have hf := in_el hc172 hf
          by_cases hc188 : x3 = 2
          · have hf := ip_el hc188 hf
            refine sa_lit (e := ag2 0) hx hb hK hP 2 rfl (k := 2) (by rw [hc188]; decide) rfl dX7_copy_38 ?_
            obtain ⟨r189, hg190, hf⟩ := b1_el hf
            refine cc_V (w' := ((kX7 cs ama (.ref (are 0)) (.ref (are2 0)) (.ref (are3 0)) (.ref (ach 0)) (.ref (ata 0)) (.ref (asa 0)) Ma) ++ ((kSA cs asa (ag0 0) (ag1 0) (ag2 0) (ag3 0)) ++ ((kX5 cs ag0 (.ref (an0 0)) G0) ++ ((kJ40 cs an0 N0) ++ ((kX5 cs ag1 (.ref (an1 0)) G1) ++ ((kJ40 cs an1 N1) ++ ((kX5 cs ag2 (.ref (an2 0)) G2) ++ ((kJ40 cs an2 N2) ++ ((kX5 cs ag3 (.ref (an3 0)) G3) ++ ((kJ40 cs an3 N3)))))))))))) (wr := ((kX7 cs ama (.ref (are 0)) (.ref (are2 0)) (.ref (are3 0)) (.ref (ach 0)) (.ref (ata 0)) (.ref (asa 0)) Ma) ++ ((kSA cs asa (ag0 0) (ag1 0) (ag2 0) (ag3 0)) ++ ((kX5 cs ag0 (.ref (an0 0)) G0) ++ ((kJ40 cs an0 N0) ++ ((kX5 cs ag1 (.ref (an1 0)) G1) ++ ((kJ40 cs an1 N1) ++ ((kJ40 cs an2 N2) ++ ((kX5 cs ag3 (.ref (an3 0)) G3) ++ ((kJ40 cs an3 N3))))))))))) (st1 := [.int r189]) [] hx hb hml hown hu (tX5_isMissing l D cs ag2 an2 G2 r189 hg190) q860 q61 q857 q858 q859 pdX5_isMissing ⟨rfl, rfl, Nat.le_of_ble_eq_true rfl, Nat.le_of_ble_eq_true rfl⟩ hK hZ hP hD hS hA [7] [0, 1, 2, 3, 4, 5, 6, 8, 9, 10] [0, 1, 2, 3, 4, 5, 6, 10, 7, 8, 9] rfl rfl rfl rfl rfl rfl rfl rfl rfl rfl hl.1 rfl (Nat.le_of_ble_eq_true rfl) dX7_copy_39 rfl (fun H locs hP hD hS => ?_)
            refine lv_if_eq (tgt := 53) hx hb dX7_copy_42 (by decide) (fun hc191 => ?_) (fun hc191 => ?_)
            · have hf := ip_el hc191 hf
              refine lv_aload_n hx hb dX7_copy_53 rfl (lv_at hl 0 rfl) ?_
              refine va_get (D := D) (ci := 7) (v := .ref (asa 0)) (C := RX7) (T := TX7) (N := 8) hx hb hu inX7 hown hK.1 hP 0 rfl rfl 5 (by decide) (hu _ q305) (fun _ h9 => h9) rfl dX7_copy_54 ?_
              refine lv_iload_n hx hb dX7_copy_57 rfl (lv_at hl 1 rfl) ?_
              refine sa_lit (e := ag2 0) hx hb hK hP 2 rfl (k := 2) (by rw [hc152]; decide) rfl dX7_copy_58 ?_
              refine va_get (D := D) (ci := 5) (v := .int (G2 0 0)) (C := RX5) (T := TX5) (N := 3) hx hb hu inX5 hown hK.1 hP 7 rfl rfl 0 (by decide) (hu _ q287) (fun _ h9 => h9) rfl dX7_copy_59 ?_
              refine lv_aload_n hx hb dX7_copy_62 rfl (lv_at hl 0 rfl) ?_
              refine va_get (D := D) (ci := 7) (v := .ref (asa 0)) (C := RX7) (T := TX7) (N := 8) hx hb hu inX7 hown hK.1 hP 0 rfl rfl 5 (by decide) (hu _ q305) (fun _ h9 => h9) rfl dX7_copy_63 ?_
              refine lv_iload_n hx hb dX7_copy_66 rfl (lv_at hl 3 rfl) ?_
              refine sa_lit (e := ag2 0) hx hb hK hP 2 rfl (k := 2) (by rw [hc188]; decide) rfl dX7_copy_67 ?_
              refine va_get (D := D) (ci := 5) (v := .int (G2 0 0)) (C := RX5) (T := TX5) (N := 3) hx hb hu inX5 hown hK.1 hP 7 rfl rfl 0 (by decide) (hu _ q287) (fun _ h9 => h9) rfl dX7_copy_68 ?_
              refine lv_icmp_eq (tgt := 81) hx hb dX7_copy_71 (by decide) (fun hc192 => ?_) (fun hc192 => ?_)
              · have hf := ip_el hc192 hf
                refine lv_aload_n hx hb dX7_copy_81 rfl (lv_at hl 0 rfl) ?_
                refine va_get (D := D) (ci := 7) (v := .ref (asa 0)) (C := RX7) (T := TX7) (N := 8) hx hb hu inX7 hown hK.1 hP 0 rfl rfl 5 (by decide) (hu _ q305) (fun _ h9 => h9) rfl dX7_copy_82 ?_
                refine lv_iload_n hx hb dX7_copy_85 rfl (lv_at hl 1 rfl) ?_
                refine sa_lit (e := ag2 0) hx hb hK hP 2 rfl (k := 2) (by rw [hc152]; decide) rfl dX7_copy_86 ?_
                refine lv_iload_n hx hb dX7_copy_87 rfl (lv_at hl 2 rfl) ?_
                refine lv_iload hx hb dX7_copy_88 (lv_at hl 5 rfl) ?_
                obtain ⟨r193, hg194, hf⟩ := b1_el hf
                refine cc_V (w' := ((kX7 cs ama (.ref (are 0)) (.ref (are2 0)) (.ref (are3 0)) (.ref (ach 0)) (.ref (ata 0)) (.ref (asa 0)) Ma) ++ ((kSA cs asa (ag0 0) (ag1 0) (ag2 0) (ag3 0)) ++ ((kX5 cs ag0 (.ref (an0 0)) G0) ++ ((kJ40 cs an0 N0) ++ ((kX5 cs ag1 (.ref (an1 0)) G1) ++ ((kJ40 cs an1 N1) ++ ((kX5 cs ag2 (.ref (an2 0)) G2) ++ ((kJ40 cs an2 N2) ++ ((kX5 cs ag3 (.ref (an3 0)) G3) ++ ((kJ40 cs an3 N3)))))))))))) (wr := ((kX7 cs ama (.ref (are 0)) (.ref (are2 0)) (.ref (are3 0)) (.ref (ach 0)) (.ref (ata 0)) (.ref (asa 0)) Ma) ++ ((kSA cs asa (ag0 0) (ag1 0) (ag2 0) (ag3 0)) ++ ((kX5 cs ag0 (.ref (an0 0)) G0) ++ ((kJ40 cs an0 N0) ++ ((kX5 cs ag1 (.ref (an1 0)) G1) ++ ((kJ40 cs an1 N1) ++ ((kJ40 cs an2 N2) ++ ((kX5 cs ag3 (.ref (an3 0)) G3) ++ ((kJ40 cs an3 N3))))))))))) (st1 := [.int r193]) [.int x2, .int x5] hx hb hml hown hu (tX5_holds l D cs ag2 an2 x2 x5 G2 r193 hg194) q873 q61 q870 q871 q872 pdX5_holds ⟨rfl, rfl, Nat.le_of_ble_eq_true rfl, Nat.le_of_ble_eq_true rfl⟩ hK hZ hP hD hS hA [7] [0, 1, 2, 3, 4, 5, 6, 8, 9, 10] [0, 1, 2, 3, 4, 5, 6, 10, 7, 8, 9] rfl rfl rfl rfl rfl rfl rfl rfl rfl rfl hl.1 rfl (Nat.le_of_ble_eq_true rfl) dX7_copy_90 rfl (fun H locs hP hD hS => ?_)
                refine lv_if_eq (tgt := 112) hx hb dX7_copy_93 (by decide) (fun hc195 => ?_) (fun hc195 => ?_)
                · have hf := ip_el hc195 hf
                  exact h112 Ma N0 N1 N2 N3 _ _ _ hP hD hS (lv_sub hl [0] rfl) hf
                · have hf := in_el hc195 hf
                  refine lv_aload_n hx hb dX7_copy_96 rfl (lv_at hl 0 rfl) ?_
                  refine va_get (D := D) (ci := 7) (v := .ref (asa 0)) (C := RX7) (T := TX7) (N := 8) hx hb hu inX7 hown hK.1 hP 0 rfl rfl 5 (by decide) (hu _ q305) (fun _ h9 => h9) rfl dX7_copy_97 ?_
                  refine lv_iload_n hx hb dX7_copy_100 rfl (lv_at hl 3 rfl) ?_
                  refine sa_lit (e := ag2 0) hx hb hK hP 2 rfl (k := 2) (by rw [hc188]; decide) rfl dX7_copy_101 ?_
                  refine lv_iload hx hb dX7_copy_102 (lv_at hl 4 rfl) ?_
                  refine lv_iload hx hb dX7_copy_104 (lv_at hl 5 rfl) ?_
                  obtain ⟨r196, hg197, hf⟩ := b1_el hf
                  refine cc_V (w' := ((kX7 cs ama (.ref (are 0)) (.ref (are2 0)) (.ref (are3 0)) (.ref (ach 0)) (.ref (ata 0)) (.ref (asa 0)) Ma) ++ ((kSA cs asa (ag0 0) (ag1 0) (ag2 0) (ag3 0)) ++ ((kX5 cs ag0 (.ref (an0 0)) G0) ++ ((kJ40 cs an0 N0) ++ ((kX5 cs ag1 (.ref (an1 0)) G1) ++ ((kJ40 cs an1 N1) ++ ((kX5 cs ag2 (.ref (an2 0)) G2) ++ ((kJ40 cs an2 N2) ++ ((kX5 cs ag3 (.ref (an3 0)) G3) ++ ((kJ40 cs an3 N3)))))))))))) (wr := ((kX7 cs ama (.ref (are 0)) (.ref (are2 0)) (.ref (are3 0)) (.ref (ach 0)) (.ref (ata 0)) (.ref (asa 0)) Ma) ++ ((kSA cs asa (ag0 0) (ag1 0) (ag2 0) (ag3 0)) ++ ((kX5 cs ag0 (.ref (an0 0)) G0) ++ ((kJ40 cs an0 N0) ++ ((kX5 cs ag1 (.ref (an1 0)) G1) ++ ((kJ40 cs an1 N1) ++ ((kJ40 cs an2 N2) ++ ((kX5 cs ag3 (.ref (an3 0)) G3) ++ ((kJ40 cs an3 N3))))))))))) (st1 := [.int r196]) [.int x4, .int x5] hx hb hml hown hu (tX5_holds l D cs ag2 an2 x4 x5 G2 r196 hg197) q873 q61 q870 q871 q872 pdX5_holds ⟨rfl, rfl, Nat.le_of_ble_eq_true rfl, Nat.le_of_ble_eq_true rfl⟩ hK hZ hP hD hS hA [7] [0, 1, 2, 3, 4, 5, 6, 8, 9, 10] [0, 1, 2, 3, 4, 5, 6, 10, 7, 8, 9] rfl rfl rfl rfl rfl rfl rfl rfl rfl rfl hl.1 rfl (Nat.le_of_ble_eq_true rfl) dX7_copy_106 rfl (fun H locs hP hD hS => ?_)
                  refine lv_if_ne (tgt := 119) hx hb dX7_copy_109 (by decide) (fun hc198 => ?_) (fun hc198 => ?_)
                  · have hf := in_el hc198 hf
                    refine lv_aload_n hx hb dX7_copy_119 rfl (lv_at hl 0 rfl) ?_
                    refine va_get (D := D) (ci := 7) (v := .ref (asa 0)) (C := RX7) (T := TX7) (N := 8) hx hb hu inX7 hown hK.1 hP 0 rfl rfl 5 (by decide) (hu _ q305) (fun _ h9 => h9) rfl dX7_copy_120 ?_
                    refine lv_iload_n hx hb dX7_copy_123 rfl (lv_at hl 1 rfl) ?_
                    refine sa_lit (e := ag2 0) hx hb hK hP 2 rfl (k := 2) (by rw [hc152]; decide) rfl dX7_copy_124 ?_
                    refine va_get (D := D) (ci := 5) (v := .ref (an2 0)) (C := RX5) (T := TX5) (N := 3) hx hb hu inX5 hown hK.1 hP 7 rfl rfl 2 (by decide) (hu _ q291) (fun _ h9 => h9) rfl dX7_copy_125 ?_
                    refine lv_iload_n hx hb dX7_copy_128 rfl (lv_at hl 2 rfl) ?_
                    refine lv_aload_n hx hb dX7_copy_129 rfl (lv_at hl 0 rfl) ?_
                    refine va_get (D := D) (ci := 7) (v := .ref (asa 0)) (C := RX7) (T := TX7) (N := 8) hx hb hu inX7 hown hK.1 hP 0 rfl rfl 5 (by decide) (hu _ q305) (fun _ h9 => h9) rfl dX7_copy_130 ?_
                    refine lv_iload_n hx hb dX7_copy_133 rfl (lv_at hl 3 rfl) ?_
                    refine sa_lit (e := ag2 0) hx hb hK hP 2 rfl (k := 2) (by rw [hc188]; decide) rfl dX7_copy_134 ?_
                    refine va_get (D := D) (ci := 5) (v := .ref (an2 0)) (C := RX5) (T := TX5) (N := 3) hx hb hu inX5 hown hK.1 hP 7 rfl rfl 2 (by decide) (hu _ q291) (fun _ h9 => h9) rfl dX7_copy_135 ?_
                    refine lv_iload hx hb dX7_copy_138 (lv_at hl 4 rfl) ?_
                    refine lv_iload hx hb dX7_copy_140 (lv_at hl 5 rfl) ?_
                    obtain ⟨hq200, hf⟩ := cp_el hf
                    obtain ⟨N2_199, hN2_199, hf⟩ := lt_el hf
                    refine va_copyl hx hb (hml.trans hl.1.symm) hown (hu _ q874) (hu _ q431) (hu _ q430) (hu _ q63) hK.1 hP hD hS 8 8 1 1 rfl rfl rfl rfl rfl hq200.1 hq200.2.1 hq200.2.2.1 hq200.2.2.2.1 hq200.2.2.2.2 (fun _ _ => rfl) (Nat.le_of_ble_eq_true rfl) (Nat.le_of_ble_eq_true rfl) dX7_copy_142 (fun H locs hP hD hS => ?_)
                    have hP : va_P D vwCl ((kX7 cs ama (.ref (are 0)) (.ref (are2 0)) (.ref (are3 0)) (.ref (ach 0)) (.ref (ata 0)) (.ref (asa 0)) Ma) ++ ((kSA cs asa (ag0 0) (ag1 0) (ag2 0) (ag3 0)) ++ ((kX5 cs ag0 (.ref (an0 0)) G0) ++ ((kJ40 cs an0 N0) ++ ((kX5 cs ag1 (.ref (an1 0)) G1) ++ ((kJ40 cs an1 N1) ++ ((kX5 cs ag2 (.ref (an2 0)) G2) ++ ((kJ40 cs an2 N2_199) ++ ((kX5 cs ag3 (.ref (an3 0)) G3) ++ ((kJ40 cs an3 N3))))))))))) H := by rw [hN2_199]; exact hP
                    have hD : va_D A ((kX7 cs ama (.ref (are 0)) (.ref (are2 0)) (.ref (are3 0)) (.ref (ach 0)) (.ref (ata 0)) (.ref (asa 0)) Ma) ++ ((kSA cs asa (ag0 0) (ag1 0) (ag2 0) (ag3 0)) ++ ((kX5 cs ag0 (.ref (an0 0)) G0) ++ ((kJ40 cs an0 N0) ++ ((kX5 cs ag1 (.ref (an1 0)) G1) ++ ((kJ40 cs an1 N1) ++ ((kX5 cs ag2 (.ref (an2 0)) G2) ++ ((kJ40 cs an2 N2_199) ++ ((kX5 cs ag3 (.ref (an3 0)) G3) ++ ((kJ40 cs an3 N3))))))))))) := by rw [hN2_199]; exact hD
                    refine lv_iload hx hb dX7_copy_145 (lv_at hl 5 rfl) ?_
                    have he := Option.some.inj hf
                    obtain ⟨e0, ht0⟩ := Prod.mk.inj he
                    obtain ⟨e1, ht1⟩ := Prod.mk.inj ht0
                    obtain ⟨e2, ht2⟩ := Prod.mk.inj ht1
                    obtain ⟨e3, ht3⟩ := Prod.mk.inj ht2
                    obtain ⟨e4, e5⟩ := Prod.mk.inj ht3
                    exact hri _ _ _ rfl (congrArg (fun z => some (Value.int z)) e0.symm) dX7_copy_147 _ _ _ (by rw [e1, e2, e3, e4, e5]) hP hD hS
                  · have hf := ip_el hc198 hf
                    exact h112 Ma N0 N1 N2 N3 _ _ _ hP hD hS (lv_sub hl [0] rfl) hf
              · have hf := in_el hc192 hf
                refine lv_aload_n hx hb dX7_copy_74 rfl (lv_at hl 0 rfl) ?_
                refine lv_ldc (v := (-1000000003)) hx hb hown (hu _ q465) dX7_copy_75 ?_
                obtain ⟨r201, Ma_202, hg203, hf⟩ := b2_el hf
                refine cc_V (w' := ((kX7 cs ama (.ref (are 0)) (.ref (are2 0)) (.ref (are3 0)) (.ref (ach 0)) (.ref (ata 0)) (.ref (asa 0)) Ma_202) ++ ((kSA cs asa (ag0 0) (ag1 0) (ag2 0) (ag3 0)) ++ ((kX5 cs ag0 (.ref (an0 0)) G0) ++ ((kJ40 cs an0 N0) ++ ((kX5 cs ag1 (.ref (an1 0)) G1) ++ ((kJ40 cs an1 N1) ++ ((kX5 cs ag2 (.ref (an2 0)) G2) ++ ((kJ40 cs an2 N2) ++ ((kX5 cs ag3 (.ref (an3 0)) G3) ++ ((kJ40 cs an3 N3)))))))))))) (wr := ((kSA cs asa (ag0 0) (ag1 0) (ag2 0) (ag3 0)) ++ ((kX5 cs ag0 (.ref (an0 0)) G0) ++ ((kJ40 cs an0 N0) ++ ((kX5 cs ag1 (.ref (an1 0)) G1) ++ ((kJ40 cs an1 N1) ++ ((kX5 cs ag2 (.ref (an2 0)) G2) ++ ((kJ40 cs an2 N2) ++ ((kX5 cs ag3 (.ref (an3 0)) G3) ++ ((kJ40 cs an3 N3))))))))))) (st1 := [.int r201]) [.int (-1000000003)] hx hb hml hown hu (tX7_finding l D cs ama are are2 are3 ach ata asa (-1000000003) Ma r201 Ma_202 hg203) q339 q54 q336 q338 q0 pdX7_finding ⟨rfl, rfl, Nat.le_of_ble_eq_true rfl, Nat.le_of_ble_eq_true rfl⟩ hK hZ hP hD hS hA [0, 1] [2, 3, 4, 5, 6, 7, 8, 9, 10] [9, 10, 0, 1, 2, 3, 4, 5, 6, 7, 8] rfl rfl rfl rfl rfl rfl rfl rfl rfl rfl hl.1 rfl (Nat.le_of_ble_eq_true rfl) dX7_copy_77 rfl (fun H locs hP hD hS => ?_)
                have he := Option.some.inj hf
                obtain ⟨e0, ht0⟩ := Prod.mk.inj he
                obtain ⟨e1, ht1⟩ := Prod.mk.inj ht0
                obtain ⟨e2, ht2⟩ := Prod.mk.inj ht1
                obtain ⟨e3, ht3⟩ := Prod.mk.inj ht2
                obtain ⟨e4, e5⟩ := Prod.mk.inj ht3
                exact hri _ _ _ rfl (congrArg (fun z => some (Value.int z)) e0.symm) dX7_copy_80 _ _ _ (by rw [e1, e2, e3, e4, e5]) hP hD hS
            · have hf := in_el hc191 hf
              exact h45 Ma N0 N1 N2 N3 _ _ _ hP hD hS (lv_sub hl [0] rfl) hf
          have hf := in_el hc188 hf
          by_cases hc204 : x3 = 3
          · have hf := ip_el hc204 hf
            refine sa_lit (e := ag3 0) hx hb hK hP 2 rfl (k := 3) (by rw [hc204]; decide) rfl dX7_copy_38 ?_
            obtain ⟨r205, hg206, hf⟩ := b1_el hf
            refine cc_V (w' := ((kX7 cs ama (.ref (are 0)) (.ref (are2 0)) (.ref (are3 0)) (.ref (ach 0)) (.ref (ata 0)) (.ref (asa 0)) Ma) ++ ((kSA cs asa (ag0 0) (ag1 0) (ag2 0) (ag3 0)) ++ ((kX5 cs ag0 (.ref (an0 0)) G0) ++ ((kJ40 cs an0 N0) ++ ((kX5 cs ag1 (.ref (an1 0)) G1) ++ ((kJ40 cs an1 N1) ++ ((kX5 cs ag2 (.ref (an2 0)) G2) ++ ((kJ40 cs an2 N2) ++ ((kX5 cs ag3 (.ref (an3 0)) G3) ++ ((kJ40 cs an3 N3)))))))))))) (wr := ((kX7 cs ama (.ref (are 0)) (.ref (are2 0)) (.ref (are3 0)) (.ref (ach 0)) (.ref (ata 0)) (.ref (asa 0)) Ma) ++ ((kSA cs asa (ag0 0) (ag1 0) (ag2 0) (ag3 0)) ++ ((kX5 cs ag0 (.ref (an0 0)) G0) ++ ((kJ40 cs an0 N0) ++ ((kX5 cs ag1 (.ref (an1 0)) G1) ++ ((kJ40 cs an1 N1) ++ ((kX5 cs ag2 (.ref (an2 0)) G2) ++ ((kJ40 cs an2 N2) ++ ((kJ40 cs an3 N3))))))))))) (st1 := [.int r205]) [] hx hb hml hown hu (tX5_isMissing l D cs ag3 an3 G3 r205 hg206) q860 q61 q857 q858 q859 pdX5_isMissing ⟨rfl, rfl, Nat.le_of_ble_eq_true rfl, Nat.le_of_ble_eq_true rfl⟩ hK hZ hP hD hS hA [9] [0, 1, 2, 3, 4, 5, 6, 7, 8, 10] [0, 1, 2, 3, 4, 5, 6, 7, 8, 10, 9] rfl rfl rfl rfl rfl rfl rfl rfl rfl rfl hl.1 rfl (Nat.le_of_ble_eq_true rfl) dX7_copy_39 rfl (fun H locs hP hD hS => ?_)
            refine lv_if_eq (tgt := 53) hx hb dX7_copy_42 (by decide) (fun hc207 => ?_) (fun hc207 => ?_)
            · have hf := ip_el hc207 hf
              refine lv_aload_n hx hb dX7_copy_53 rfl (lv_at hl 0 rfl) ?_
              refine va_get (D := D) (ci := 7) (v := .ref (asa 0)) (C := RX7) (T := TX7) (N := 8) hx hb hu inX7 hown hK.1 hP 0 rfl rfl 5 (by decide) (hu _ q305) (fun _ h9 => h9) rfl dX7_copy_54 ?_
              refine lv_iload_n hx hb dX7_copy_57 rfl (lv_at hl 1 rfl) ?_
              refine sa_lit (e := ag2 0) hx hb hK hP 2 rfl (k := 2) (by rw [hc152]; decide) rfl dX7_copy_58 ?_
              refine va_get (D := D) (ci := 5) (v := .int (G2 0 0)) (C := RX5) (T := TX5) (N := 3) hx hb hu inX5 hown hK.1 hP 7 rfl rfl 0 (by decide) (hu _ q287) (fun _ h9 => h9) rfl dX7_copy_59 ?_
              refine lv_aload_n hx hb dX7_copy_62 rfl (lv_at hl 0 rfl) ?_
              refine va_get (D := D) (ci := 7) (v := .ref (asa 0)) (C := RX7) (T := TX7) (N := 8) hx hb hu inX7 hown hK.1 hP 0 rfl rfl 5 (by decide) (hu _ q305) (fun _ h9 => h9) rfl dX7_copy_63 ?_
              refine lv_iload_n hx hb dX7_copy_66 rfl (lv_at hl 3 rfl) ?_
              refine sa_lit (e := ag3 0) hx hb hK hP 2 rfl (k := 3) (by rw [hc204]; decide) rfl dX7_copy_67 ?_
              refine va_get (D := D) (ci := 5) (v := .int (G3 0 0)) (C := RX5) (T := TX5) (N := 3) hx hb hu inX5 hown hK.1 hP 9 rfl rfl 0 (by decide) (hu _ q287) (fun _ h9 => h9) rfl dX7_copy_68 ?_
              refine lv_icmp_eq (tgt := 81) hx hb dX7_copy_71 (by decide) (fun hc208 => ?_) (fun hc208 => ?_)
              · have hf := ip_el hc208 hf
                refine lv_aload_n hx hb dX7_copy_81 rfl (lv_at hl 0 rfl) ?_
                refine va_get (D := D) (ci := 7) (v := .ref (asa 0)) (C := RX7) (T := TX7) (N := 8) hx hb hu inX7 hown hK.1 hP 0 rfl rfl 5 (by decide) (hu _ q305) (fun _ h9 => h9) rfl dX7_copy_82 ?_
                refine lv_iload_n hx hb dX7_copy_85 rfl (lv_at hl 1 rfl) ?_
                refine sa_lit (e := ag2 0) hx hb hK hP 2 rfl (k := 2) (by rw [hc152]; decide) rfl dX7_copy_86 ?_
                refine lv_iload_n hx hb dX7_copy_87 rfl (lv_at hl 2 rfl) ?_
                refine lv_iload hx hb dX7_copy_88 (lv_at hl 5 rfl) ?_
                obtain ⟨r209, hg210, hf⟩ := b1_el hf
                refine cc_V (w' := ((kX7 cs ama (.ref (are 0)) (.ref (are2 0)) (.ref (are3 0)) (.ref (ach 0)) (.ref (ata 0)) (.ref (asa 0)) Ma) ++ ((kSA cs asa (ag0 0) (ag1 0) (ag2 0) (ag3 0)) ++ ((kX5 cs ag0 (.ref (an0 0)) G0) ++ ((kJ40 cs an0 N0) ++ ((kX5 cs ag1 (.ref (an1 0)) G1) ++ ((kJ40 cs an1 N1) ++ ((kX5 cs ag2 (.ref (an2 0)) G2) ++ ((kJ40 cs an2 N2) ++ ((kX5 cs ag3 (.ref (an3 0)) G3) ++ ((kJ40 cs an3 N3)))))))))))) (wr := ((kX7 cs ama (.ref (are 0)) (.ref (are2 0)) (.ref (are3 0)) (.ref (ach 0)) (.ref (ata 0)) (.ref (asa 0)) Ma) ++ ((kSA cs asa (ag0 0) (ag1 0) (ag2 0) (ag3 0)) ++ ((kX5 cs ag0 (.ref (an0 0)) G0) ++ ((kJ40 cs an0 N0) ++ ((kX5 cs ag1 (.ref (an1 0)) G1) ++ ((kJ40 cs an1 N1) ++ ((kJ40 cs an2 N2) ++ ((kX5 cs ag3 (.ref (an3 0)) G3) ++ ((kJ40 cs an3 N3))))))))))) (st1 := [.int r209]) [.int x2, .int x5] hx hb hml hown hu (tX5_holds l D cs ag2 an2 x2 x5 G2 r209 hg210) q873 q61 q870 q871 q872 pdX5_holds ⟨rfl, rfl, Nat.le_of_ble_eq_true rfl, Nat.le_of_ble_eq_true rfl⟩ hK hZ hP hD hS hA [7] [0, 1, 2, 3, 4, 5, 6, 8, 9, 10] [0, 1, 2, 3, 4, 5, 6, 10, 7, 8, 9] rfl rfl rfl rfl rfl rfl rfl rfl rfl rfl hl.1 rfl (Nat.le_of_ble_eq_true rfl) dX7_copy_90 rfl (fun H locs hP hD hS => ?_)
                refine lv_if_eq (tgt := 112) hx hb dX7_copy_93 (by decide) (fun hc211 => ?_) (fun hc211 => ?_)
                · have hf := ip_el hc211 hf
                  exact h112 Ma N0 N1 N2 N3 _ _ _ hP hD hS (lv_sub hl [0] rfl) hf
                · have hf := in_el hc211 hf
                  refine lv_aload_n hx hb dX7_copy_96 rfl (lv_at hl 0 rfl) ?_
                  refine va_get (D := D) (ci := 7) (v := .ref (asa 0)) (C := RX7) (T := TX7) (N := 8) hx hb hu inX7 hown hK.1 hP 0 rfl rfl 5 (by decide) (hu _ q305) (fun _ h9 => h9) rfl dX7_copy_97 ?_
                  refine lv_iload_n hx hb dX7_copy_100 rfl (lv_at hl 3 rfl) ?_
                  refine sa_lit (e := ag3 0) hx hb hK hP 2 rfl (k := 3) (by rw [hc204]; decide) rfl dX7_copy_101 ?_
                  refine lv_iload hx hb dX7_copy_102 (lv_at hl 4 rfl) ?_
                  refine lv_iload hx hb dX7_copy_104 (lv_at hl 5 rfl) ?_
                  obtain ⟨r212, hg213, hf⟩ := b1_el hf
                  refine cc_V (w' := ((kX7 cs ama (.ref (are 0)) (.ref (are2 0)) (.ref (are3 0)) (.ref (ach 0)) (.ref (ata 0)) (.ref (asa 0)) Ma) ++ ((kSA cs asa (ag0 0) (ag1 0) (ag2 0) (ag3 0)) ++ ((kX5 cs ag0 (.ref (an0 0)) G0) ++ ((kJ40 cs an0 N0) ++ ((kX5 cs ag1 (.ref (an1 0)) G1) ++ ((kJ40 cs an1 N1) ++ ((kX5 cs ag2 (.ref (an2 0)) G2) ++ ((kJ40 cs an2 N2) ++ ((kX5 cs ag3 (.ref (an3 0)) G3) ++ ((kJ40 cs an3 N3)))))))))))) (wr := ((kX7 cs ama (.ref (are 0)) (.ref (are2 0)) (.ref (are3 0)) (.ref (ach 0)) (.ref (ata 0)) (.ref (asa 0)) Ma) ++ ((kSA cs asa (ag0 0) (ag1 0) (ag2 0) (ag3 0)) ++ ((kX5 cs ag0 (.ref (an0 0)) G0) ++ ((kJ40 cs an0 N0) ++ ((kX5 cs ag1 (.ref (an1 0)) G1) ++ ((kJ40 cs an1 N1) ++ ((kX5 cs ag2 (.ref (an2 0)) G2) ++ ((kJ40 cs an2 N2) ++ ((kJ40 cs an3 N3))))))))))) (st1 := [.int r212]) [.int x4, .int x5] hx hb hml hown hu (tX5_holds l D cs ag3 an3 x4 x5 G3 r212 hg213) q873 q61 q870 q871 q872 pdX5_holds ⟨rfl, rfl, Nat.le_of_ble_eq_true rfl, Nat.le_of_ble_eq_true rfl⟩ hK hZ hP hD hS hA [9] [0, 1, 2, 3, 4, 5, 6, 7, 8, 10] [0, 1, 2, 3, 4, 5, 6, 7, 8, 10, 9] rfl rfl rfl rfl rfl rfl rfl rfl rfl rfl hl.1 rfl (Nat.le_of_ble_eq_true rfl) dX7_copy_106 rfl (fun H locs hP hD hS => ?_)
                  refine lv_if_ne (tgt := 119) hx hb dX7_copy_109 (by decide) (fun hc214 => ?_) (fun hc214 => ?_)
                  · have hf := in_el hc214 hf
                    refine lv_aload_n hx hb dX7_copy_119 rfl (lv_at hl 0 rfl) ?_
                    refine va_get (D := D) (ci := 7) (v := .ref (asa 0)) (C := RX7) (T := TX7) (N := 8) hx hb hu inX7 hown hK.1 hP 0 rfl rfl 5 (by decide) (hu _ q305) (fun _ h9 => h9) rfl dX7_copy_120 ?_
                    refine lv_iload_n hx hb dX7_copy_123 rfl (lv_at hl 1 rfl) ?_
                    refine sa_lit (e := ag2 0) hx hb hK hP 2 rfl (k := 2) (by rw [hc152]; decide) rfl dX7_copy_124 ?_
                    refine va_get (D := D) (ci := 5) (v := .ref (an2 0)) (C := RX5) (T := TX5) (N := 3) hx hb hu inX5 hown hK.1 hP 7 rfl rfl 2 (by decide) (hu _ q291) (fun _ h9 => h9) rfl dX7_copy_125 ?_
                    refine lv_iload_n hx hb dX7_copy_128 rfl (lv_at hl 2 rfl) ?_
                    refine lv_aload_n hx hb dX7_copy_129 rfl (lv_at hl 0 rfl) ?_
                    refine va_get (D := D) (ci := 7) (v := .ref (asa 0)) (C := RX7) (T := TX7) (N := 8) hx hb hu inX7 hown hK.1 hP 0 rfl rfl 5 (by decide) (hu _ q305) (fun _ h9 => h9) rfl dX7_copy_130 ?_
                    refine lv_iload_n hx hb dX7_copy_133 rfl (lv_at hl 3 rfl) ?_
                    refine sa_lit (e := ag3 0) hx hb hK hP 2 rfl (k := 3) (by rw [hc204]; decide) rfl dX7_copy_134 ?_
                    refine va_get (D := D) (ci := 5) (v := .ref (an3 0)) (C := RX5) (T := TX5) (N := 3) hx hb hu inX5 hown hK.1 hP 9 rfl rfl 2 (by decide) (hu _ q291) (fun _ h9 => h9) rfl dX7_copy_135 ?_
                    refine lv_iload hx hb dX7_copy_138 (lv_at hl 4 rfl) ?_
                    refine lv_iload hx hb dX7_copy_140 (lv_at hl 5 rfl) ?_
                    obtain ⟨hq216, hf⟩ := cp_el hf
                    obtain ⟨N3_215, hN3_215, hf⟩ := lt_el hf
                    refine va_copyl hx hb (hml.trans hl.1.symm) hown (hu _ q874) (hu _ q431) (hu _ q430) (hu _ q63) hK.1 hP hD hS 8 10 1 1 rfl rfl rfl rfl rfl hq216.1 hq216.2.1 hq216.2.2.1 hq216.2.2.2.1 hq216.2.2.2.2 (fun _ _ => rfl) (Nat.le_of_ble_eq_true rfl) (Nat.le_of_ble_eq_true rfl) dX7_copy_142 (fun H locs hP hD hS => ?_)
                    have hP : va_P D vwCl ((kX7 cs ama (.ref (are 0)) (.ref (are2 0)) (.ref (are3 0)) (.ref (ach 0)) (.ref (ata 0)) (.ref (asa 0)) Ma) ++ ((kSA cs asa (ag0 0) (ag1 0) (ag2 0) (ag3 0)) ++ ((kX5 cs ag0 (.ref (an0 0)) G0) ++ ((kJ40 cs an0 N0) ++ ((kX5 cs ag1 (.ref (an1 0)) G1) ++ ((kJ40 cs an1 N1) ++ ((kX5 cs ag2 (.ref (an2 0)) G2) ++ ((kJ40 cs an2 N2) ++ ((kX5 cs ag3 (.ref (an3 0)) G3) ++ ((kJ40 cs an3 N3_215))))))))))) H := by rw [hN3_215]; exact hP
                    have hD : va_D A ((kX7 cs ama (.ref (are 0)) (.ref (are2 0)) (.ref (are3 0)) (.ref (ach 0)) (.ref (ata 0)) (.ref (asa 0)) Ma) ++ ((kSA cs asa (ag0 0) (ag1 0) (ag2 0) (ag3 0)) ++ ((kX5 cs ag0 (.ref (an0 0)) G0) ++ ((kJ40 cs an0 N0) ++ ((kX5 cs ag1 (.ref (an1 0)) G1) ++ ((kJ40 cs an1 N1) ++ ((kX5 cs ag2 (.ref (an2 0)) G2) ++ ((kJ40 cs an2 N2) ++ ((kX5 cs ag3 (.ref (an3 0)) G3) ++ ((kJ40 cs an3 N3_215))))))))))) := by rw [hN3_215]; exact hD
                    refine lv_iload hx hb dX7_copy_145 (lv_at hl 5 rfl) ?_
                    have he := Option.some.inj hf
                    obtain ⟨e0, ht0⟩ := Prod.mk.inj he
                    obtain ⟨e1, ht1⟩ := Prod.mk.inj ht0
                    obtain ⟨e2, ht2⟩ := Prod.mk.inj ht1
                    obtain ⟨e3, ht3⟩ := Prod.mk.inj ht2
                    obtain ⟨e4, e5⟩ := Prod.mk.inj ht3
                    exact hri _ _ _ rfl (congrArg (fun z => some (Value.int z)) e0.symm) dX7_copy_147 _ _ _ (by rw [e1, e2, e3, e4, e5]) hP hD hS
                  · have hf := ip_el hc214 hf
                    exact h112 Ma N0 N1 N2 N3 _ _ _ hP hD hS (lv_sub hl [0] rfl) hf
              · have hf := in_el hc208 hf
                refine lv_aload_n hx hb dX7_copy_74 rfl (lv_at hl 0 rfl) ?_
                refine lv_ldc (v := (-1000000003)) hx hb hown (hu _ q465) dX7_copy_75 ?_
                obtain ⟨r217, Ma_218, hg219, hf⟩ := b2_el hf
                refine cc_V (w' := ((kX7 cs ama (.ref (are 0)) (.ref (are2 0)) (.ref (are3 0)) (.ref (ach 0)) (.ref (ata 0)) (.ref (asa 0)) Ma_218) ++ ((kSA cs asa (ag0 0) (ag1 0) (ag2 0) (ag3 0)) ++ ((kX5 cs ag0 (.ref (an0 0)) G0) ++ ((kJ40 cs an0 N0) ++ ((kX5 cs ag1 (.ref (an1 0)) G1) ++ ((kJ40 cs an1 N1) ++ ((kX5 cs ag2 (.ref (an2 0)) G2) ++ ((kJ40 cs an2 N2) ++ ((kX5 cs ag3 (.ref (an3 0)) G3) ++ ((kJ40 cs an3 N3)))))))))))) (wr := ((kSA cs asa (ag0 0) (ag1 0) (ag2 0) (ag3 0)) ++ ((kX5 cs ag0 (.ref (an0 0)) G0) ++ ((kJ40 cs an0 N0) ++ ((kX5 cs ag1 (.ref (an1 0)) G1) ++ ((kJ40 cs an1 N1) ++ ((kX5 cs ag2 (.ref (an2 0)) G2) ++ ((kJ40 cs an2 N2) ++ ((kX5 cs ag3 (.ref (an3 0)) G3) ++ ((kJ40 cs an3 N3))))))))))) (st1 := [.int r217]) [.int (-1000000003)] hx hb hml hown hu (tX7_finding l D cs ama are are2 are3 ach ata asa (-1000000003) Ma r217 Ma_218 hg219) q339 q54 q336 q338 q0 pdX7_finding ⟨rfl, rfl, Nat.le_of_ble_eq_true rfl, Nat.le_of_ble_eq_true rfl⟩ hK hZ hP hD hS hA [0, 1] [2, 3, 4, 5, 6, 7, 8, 9, 10] [9, 10, 0, 1, 2, 3, 4, 5, 6, 7, 8] rfl rfl rfl rfl rfl rfl rfl rfl rfl rfl hl.1 rfl (Nat.le_of_ble_eq_true rfl) dX7_copy_77 rfl (fun H locs hP hD hS => ?_)
                have he := Option.some.inj hf
                obtain ⟨e0, ht0⟩ := Prod.mk.inj he
                obtain ⟨e1, ht1⟩ := Prod.mk.inj ht0
                obtain ⟨e2, ht2⟩ := Prod.mk.inj ht1
                obtain ⟨e3, ht3⟩ := Prod.mk.inj ht2
                obtain ⟨e4, e5⟩ := Prod.mk.inj ht3
                exact hri _ _ _ rfl (congrArg (fun z => some (Value.int z)) e0.symm) dX7_copy_80 _ _ _ (by rw [e1, e2, e3, e4, e5]) hP hD hS
            · have hf := in_el hc207 hf
              exact h45 Ma N0 N1 N2 N3 _ _ _ hP hD hS (lv_sub hl [0] rfl) hf
          have hf := in_el hc204 hf
          exact no_el hf
      have hf := in_el hc152 hf
      by_cases hc220 : x1 = 3
      · have hf := ip_el hc220 hf
        refine sa_lit (e := ag3 0) hx hb hK hP 2 rfl (k := 3) (by rw [hc220]; decide) rfl dX7_copy_26 ?_
        obtain ⟨r221, hg222, hf⟩ := b1_el hf
        refine cc_V (w' := ((kX7 cs ama (.ref (are 0)) (.ref (are2 0)) (.ref (are3 0)) (.ref (ach 0)) (.ref (ata 0)) (.ref (asa 0)) Ma) ++ ((kSA cs asa (ag0 0) (ag1 0) (ag2 0) (ag3 0)) ++ ((kX5 cs ag0 (.ref (an0 0)) G0) ++ ((kJ40 cs an0 N0) ++ ((kX5 cs ag1 (.ref (an1 0)) G1) ++ ((kJ40 cs an1 N1) ++ ((kX5 cs ag2 (.ref (an2 0)) G2) ++ ((kJ40 cs an2 N2) ++ ((kX5 cs ag3 (.ref (an3 0)) G3) ++ ((kJ40 cs an3 N3)))))))))))) (wr := ((kX7 cs ama (.ref (are 0)) (.ref (are2 0)) (.ref (are3 0)) (.ref (ach 0)) (.ref (ata 0)) (.ref (asa 0)) Ma) ++ ((kSA cs asa (ag0 0) (ag1 0) (ag2 0) (ag3 0)) ++ ((kX5 cs ag0 (.ref (an0 0)) G0) ++ ((kJ40 cs an0 N0) ++ ((kX5 cs ag1 (.ref (an1 0)) G1) ++ ((kJ40 cs an1 N1) ++ ((kX5 cs ag2 (.ref (an2 0)) G2) ++ ((kJ40 cs an2 N2) ++ ((kJ40 cs an3 N3))))))))))) (st1 := [.int r221]) [] hx hb hml hown hu (tX5_isMissing l D cs ag3 an3 G3 r221 hg222) q860 q61 q857 q858 q859 pdX5_isMissing ⟨rfl, rfl, Nat.le_of_ble_eq_true rfl, Nat.le_of_ble_eq_true rfl⟩ hK hZ hP hD hS hA [9] [0, 1, 2, 3, 4, 5, 6, 7, 8, 10] [0, 1, 2, 3, 4, 5, 6, 7, 8, 10, 9] rfl rfl rfl rfl rfl rfl rfl rfl rfl rfl hl.1 rfl (Nat.le_of_ble_eq_true rfl) dX7_copy_27 rfl (fun H locs hP hD hS => ?_)
        refine lv_if_ne (tgt := 45) hx hb dX7_copy_30 (by decide) (fun hc223 => ?_) (fun hc223 => ?_)
        · have hf := in_el hc223 hf
          exact h45 Ma N0 N1 N2 N3 _ _ _ hP hD hS (lv_sub hl [0] rfl) hf
        · have hf := ip_el hc223 hf
          refine lv_aload_n hx hb dX7_copy_33 rfl (lv_at hl 0 rfl) ?_
          refine va_get (D := D) (ci := 7) (v := .ref (asa 0)) (C := RX7) (T := TX7) (N := 8) hx hb hu inX7 hown hK.1 hP 0 rfl rfl 5 (by decide) (hu _ q305) (fun _ h9 => h9) rfl dX7_copy_34 ?_
          refine lv_iload_n hx hb dX7_copy_37 rfl (lv_at hl 3 rfl) ?_
          by_cases hc224 : x3 = 0
          · have hf := ip_el hc224 hf
            refine sa_lit (e := ag0 0) hx hb hK hP 2 rfl (k := 0) (by rw [hc224]; decide) rfl dX7_copy_38 ?_
            obtain ⟨r225, hg226, hf⟩ := b1_el hf
            refine cc_V (w' := ((kX7 cs ama (.ref (are 0)) (.ref (are2 0)) (.ref (are3 0)) (.ref (ach 0)) (.ref (ata 0)) (.ref (asa 0)) Ma) ++ ((kSA cs asa (ag0 0) (ag1 0) (ag2 0) (ag3 0)) ++ ((kX5 cs ag0 (.ref (an0 0)) G0) ++ ((kJ40 cs an0 N0) ++ ((kX5 cs ag1 (.ref (an1 0)) G1) ++ ((kJ40 cs an1 N1) ++ ((kX5 cs ag2 (.ref (an2 0)) G2) ++ ((kJ40 cs an2 N2) ++ ((kX5 cs ag3 (.ref (an3 0)) G3) ++ ((kJ40 cs an3 N3)))))))))))) (wr := ((kX7 cs ama (.ref (are 0)) (.ref (are2 0)) (.ref (are3 0)) (.ref (ach 0)) (.ref (ata 0)) (.ref (asa 0)) Ma) ++ ((kSA cs asa (ag0 0) (ag1 0) (ag2 0) (ag3 0)) ++ ((kJ40 cs an0 N0) ++ ((kX5 cs ag1 (.ref (an1 0)) G1) ++ ((kJ40 cs an1 N1) ++ ((kX5 cs ag2 (.ref (an2 0)) G2) ++ ((kJ40 cs an2 N2) ++ ((kX5 cs ag3 (.ref (an3 0)) G3) ++ ((kJ40 cs an3 N3))))))))))) (st1 := [.int r225]) [] hx hb hml hown hu (tX5_isMissing l D cs ag0 an0 G0 r225 hg226) q860 q61 q857 q858 q859 pdX5_isMissing ⟨rfl, rfl, Nat.le_of_ble_eq_true rfl, Nat.le_of_ble_eq_true rfl⟩ hK hZ hP hD hS hA [3] [0, 1, 2, 4, 5, 6, 7, 8, 9, 10] [0, 1, 2, 10, 3, 4, 5, 6, 7, 8, 9] rfl rfl rfl rfl rfl rfl rfl rfl rfl rfl hl.1 rfl (Nat.le_of_ble_eq_true rfl) dX7_copy_39 rfl (fun H locs hP hD hS => ?_)
            refine lv_if_eq (tgt := 53) hx hb dX7_copy_42 (by decide) (fun hc227 => ?_) (fun hc227 => ?_)
            · have hf := ip_el hc227 hf
              refine lv_aload_n hx hb dX7_copy_53 rfl (lv_at hl 0 rfl) ?_
              refine va_get (D := D) (ci := 7) (v := .ref (asa 0)) (C := RX7) (T := TX7) (N := 8) hx hb hu inX7 hown hK.1 hP 0 rfl rfl 5 (by decide) (hu _ q305) (fun _ h9 => h9) rfl dX7_copy_54 ?_
              refine lv_iload_n hx hb dX7_copy_57 rfl (lv_at hl 1 rfl) ?_
              refine sa_lit (e := ag3 0) hx hb hK hP 2 rfl (k := 3) (by rw [hc220]; decide) rfl dX7_copy_58 ?_
              refine va_get (D := D) (ci := 5) (v := .int (G3 0 0)) (C := RX5) (T := TX5) (N := 3) hx hb hu inX5 hown hK.1 hP 9 rfl rfl 0 (by decide) (hu _ q287) (fun _ h9 => h9) rfl dX7_copy_59 ?_
              refine lv_aload_n hx hb dX7_copy_62 rfl (lv_at hl 0 rfl) ?_
              refine va_get (D := D) (ci := 7) (v := .ref (asa 0)) (C := RX7) (T := TX7) (N := 8) hx hb hu inX7 hown hK.1 hP 0 rfl rfl 5 (by decide) (hu _ q305) (fun _ h9 => h9) rfl dX7_copy_63 ?_
              refine lv_iload_n hx hb dX7_copy_66 rfl (lv_at hl 3 rfl) ?_
              refine sa_lit (e := ag0 0) hx hb hK hP 2 rfl (k := 0) (by rw [hc224]; decide) rfl dX7_copy_67 ?_
              refine va_get (D := D) (ci := 5) (v := .int (G0 0 0)) (C := RX5) (T := TX5) (N := 3) hx hb hu inX5 hown hK.1 hP 3 rfl rfl 0 (by decide) (hu _ q287) (fun _ h9 => h9) rfl dX7_copy_68 ?_
              refine lv_icmp_eq (tgt := 81) hx hb dX7_copy_71 (by decide) (fun hc228 => ?_) (fun hc228 => ?_)
              · have hf := ip_el hc228 hf
                refine lv_aload_n hx hb dX7_copy_81 rfl (lv_at hl 0 rfl) ?_
                refine va_get (D := D) (ci := 7) (v := .ref (asa 0)) (C := RX7) (T := TX7) (N := 8) hx hb hu inX7 hown hK.1 hP 0 rfl rfl 5 (by decide) (hu _ q305) (fun _ h9 => h9) rfl dX7_copy_82 ?_
                refine lv_iload_n hx hb dX7_copy_85 rfl (lv_at hl 1 rfl) ?_
                refine sa_lit (e := ag3 0) hx hb hK hP 2 rfl (k := 3) (by rw [hc220]; decide) rfl dX7_copy_86 ?_
                refine lv_iload_n hx hb dX7_copy_87 rfl (lv_at hl 2 rfl) ?_
                refine lv_iload hx hb dX7_copy_88 (lv_at hl 5 rfl) ?_
                obtain ⟨r229, hg230, hf⟩ := b1_el hf
                refine cc_V (w' := ((kX7 cs ama (.ref (are 0)) (.ref (are2 0)) (.ref (are3 0)) (.ref (ach 0)) (.ref (ata 0)) (.ref (asa 0)) Ma) ++ ((kSA cs asa (ag0 0) (ag1 0) (ag2 0) (ag3 0)) ++ ((kX5 cs ag0 (.ref (an0 0)) G0) ++ ((kJ40 cs an0 N0) ++ ((kX5 cs ag1 (.ref (an1 0)) G1) ++ ((kJ40 cs an1 N1) ++ ((kX5 cs ag2 (.ref (an2 0)) G2) ++ ((kJ40 cs an2 N2) ++ ((kX5 cs ag3 (.ref (an3 0)) G3) ++ ((kJ40 cs an3 N3)))))))))))) (wr := ((kX7 cs ama (.ref (are 0)) (.ref (are2 0)) (.ref (are3 0)) (.ref (ach 0)) (.ref (ata 0)) (.ref (asa 0)) Ma) ++ ((kSA cs asa (ag0 0) (ag1 0) (ag2 0) (ag3 0)) ++ ((kX5 cs ag0 (.ref (an0 0)) G0) ++ ((kJ40 cs an0 N0) ++ ((kX5 cs ag1 (.ref (an1 0)) G1) ++ ((kJ40 cs an1 N1) ++ ((kX5 cs ag2 (.ref (an2 0)) G2) ++ ((kJ40 cs an2 N2) ++ ((kJ40 cs an3 N3))))))))))) (st1 := [.int r229]) [.int x2, .int x5] hx hb hml hown hu (tX5_holds l D cs ag3 an3 x2 x5 G3 r229 hg230) q873 q61 q870 q871 q872 pdX5_holds ⟨rfl, rfl, Nat.le_of_ble_eq_true rfl, Nat.le_of_ble_eq_true rfl⟩ hK hZ hP hD hS hA [9] [0, 1, 2, 3, 4, 5, 6, 7, 8, 10] [0, 1, 2, 3, 4, 5, 6, 7, 8, 10, 9] rfl rfl rfl rfl rfl rfl rfl rfl rfl rfl hl.1 rfl (Nat.le_of_ble_eq_true rfl) dX7_copy_90 rfl (fun H locs hP hD hS => ?_)
                refine lv_if_eq (tgt := 112) hx hb dX7_copy_93 (by decide) (fun hc231 => ?_) (fun hc231 => ?_)
                · have hf := ip_el hc231 hf
                  exact h112 Ma N0 N1 N2 N3 _ _ _ hP hD hS (lv_sub hl [0] rfl) hf
                · have hf := in_el hc231 hf
                  refine lv_aload_n hx hb dX7_copy_96 rfl (lv_at hl 0 rfl) ?_
                  refine va_get (D := D) (ci := 7) (v := .ref (asa 0)) (C := RX7) (T := TX7) (N := 8) hx hb hu inX7 hown hK.1 hP 0 rfl rfl 5 (by decide) (hu _ q305) (fun _ h9 => h9) rfl dX7_copy_97 ?_
                  refine lv_iload_n hx hb dX7_copy_100 rfl (lv_at hl 3 rfl) ?_
                  refine sa_lit (e := ag0 0) hx hb hK hP 2 rfl (k := 0) (by rw [hc224]; decide) rfl dX7_copy_101 ?_
                  refine lv_iload hx hb dX7_copy_102 (lv_at hl 4 rfl) ?_
                  refine lv_iload hx hb dX7_copy_104 (lv_at hl 5 rfl) ?_
                  obtain ⟨r232, hg233, hf⟩ := b1_el hf
                  refine cc_V (w' := ((kX7 cs ama (.ref (are 0)) (.ref (are2 0)) (.ref (are3 0)) (.ref (ach 0)) (.ref (ata 0)) (.ref (asa 0)) Ma) ++ ((kSA cs asa (ag0 0) (ag1 0) (ag2 0) (ag3 0)) ++ ((kX5 cs ag0 (.ref (an0 0)) G0) ++ ((kJ40 cs an0 N0) ++ ((kX5 cs ag1 (.ref (an1 0)) G1) ++ ((kJ40 cs an1 N1) ++ ((kX5 cs ag2 (.ref (an2 0)) G2) ++ ((kJ40 cs an2 N2) ++ ((kX5 cs ag3 (.ref (an3 0)) G3) ++ ((kJ40 cs an3 N3)))))))))))) (wr := ((kX7 cs ama (.ref (are 0)) (.ref (are2 0)) (.ref (are3 0)) (.ref (ach 0)) (.ref (ata 0)) (.ref (asa 0)) Ma) ++ ((kSA cs asa (ag0 0) (ag1 0) (ag2 0) (ag3 0)) ++ ((kJ40 cs an0 N0) ++ ((kX5 cs ag1 (.ref (an1 0)) G1) ++ ((kJ40 cs an1 N1) ++ ((kX5 cs ag2 (.ref (an2 0)) G2) ++ ((kJ40 cs an2 N2) ++ ((kX5 cs ag3 (.ref (an3 0)) G3) ++ ((kJ40 cs an3 N3))))))))))) (st1 := [.int r232]) [.int x4, .int x5] hx hb hml hown hu (tX5_holds l D cs ag0 an0 x4 x5 G0 r232 hg233) q873 q61 q870 q871 q872 pdX5_holds ⟨rfl, rfl, Nat.le_of_ble_eq_true rfl, Nat.le_of_ble_eq_true rfl⟩ hK hZ hP hD hS hA [3] [0, 1, 2, 4, 5, 6, 7, 8, 9, 10] [0, 1, 2, 10, 3, 4, 5, 6, 7, 8, 9] rfl rfl rfl rfl rfl rfl rfl rfl rfl rfl hl.1 rfl (Nat.le_of_ble_eq_true rfl) dX7_copy_106 rfl (fun H locs hP hD hS => ?_)
                  refine lv_if_ne (tgt := 119) hx hb dX7_copy_109 (by decide) (fun hc234 => ?_) (fun hc234 => ?_)
                  · have hf := in_el hc234 hf
                    refine lv_aload_n hx hb dX7_copy_119 rfl (lv_at hl 0 rfl) ?_
                    refine va_get (D := D) (ci := 7) (v := .ref (asa 0)) (C := RX7) (T := TX7) (N := 8) hx hb hu inX7 hown hK.1 hP 0 rfl rfl 5 (by decide) (hu _ q305) (fun _ h9 => h9) rfl dX7_copy_120 ?_
                    refine lv_iload_n hx hb dX7_copy_123 rfl (lv_at hl 1 rfl) ?_
                    refine sa_lit (e := ag3 0) hx hb hK hP 2 rfl (k := 3) (by rw [hc220]; decide) rfl dX7_copy_124 ?_
                    refine va_get (D := D) (ci := 5) (v := .ref (an3 0)) (C := RX5) (T := TX5) (N := 3) hx hb hu inX5 hown hK.1 hP 9 rfl rfl 2 (by decide) (hu _ q291) (fun _ h9 => h9) rfl dX7_copy_125 ?_
                    refine lv_iload_n hx hb dX7_copy_128 rfl (lv_at hl 2 rfl) ?_
                    refine lv_aload_n hx hb dX7_copy_129 rfl (lv_at hl 0 rfl) ?_
                    refine va_get (D := D) (ci := 7) (v := .ref (asa 0)) (C := RX7) (T := TX7) (N := 8) hx hb hu inX7 hown hK.1 hP 0 rfl rfl 5 (by decide) (hu _ q305) (fun _ h9 => h9) rfl dX7_copy_130 ?_
                    refine lv_iload_n hx hb dX7_copy_133 rfl (lv_at hl 3 rfl) ?_
                    refine sa_lit (e := ag0 0) hx hb hK hP 2 rfl (k := 0) (by rw [hc224]; decide) rfl dX7_copy_134 ?_
                    refine va_get (D := D) (ci := 5) (v := .ref (an0 0)) (C := RX5) (T := TX5) (N := 3) hx hb hu inX5 hown hK.1 hP 3 rfl rfl 2 (by decide) (hu _ q291) (fun _ h9 => h9) rfl dX7_copy_135 ?_
                    refine lv_iload hx hb dX7_copy_138 (lv_at hl 4 rfl) ?_
                    refine lv_iload hx hb dX7_copy_140 (lv_at hl 5 rfl) ?_
                    obtain ⟨hq236, hf⟩ := cp_el hf
                    obtain ⟨N0_235, hN0_235, hf⟩ := lt_el hf
                    refine va_copyl hx hb (hml.trans hl.1.symm) hown (hu _ q874) (hu _ q431) (hu _ q430) (hu _ q63) hK.1 hP hD hS 10 4 1 1 rfl rfl rfl rfl rfl hq236.1 hq236.2.1 hq236.2.2.1 hq236.2.2.2.1 hq236.2.2.2.2 (fun _ _ => rfl) (Nat.le_of_ble_eq_true rfl) (Nat.le_of_ble_eq_true rfl) dX7_copy_142 (fun H locs hP hD hS => ?_)
                    have hP : va_P D vwCl ((kX7 cs ama (.ref (are 0)) (.ref (are2 0)) (.ref (are3 0)) (.ref (ach 0)) (.ref (ata 0)) (.ref (asa 0)) Ma) ++ ((kSA cs asa (ag0 0) (ag1 0) (ag2 0) (ag3 0)) ++ ((kX5 cs ag0 (.ref (an0 0)) G0) ++ ((kJ40 cs an0 N0_235) ++ ((kX5 cs ag1 (.ref (an1 0)) G1) ++ ((kJ40 cs an1 N1) ++ ((kX5 cs ag2 (.ref (an2 0)) G2) ++ ((kJ40 cs an2 N2) ++ ((kX5 cs ag3 (.ref (an3 0)) G3) ++ ((kJ40 cs an3 N3))))))))))) H := by rw [hN0_235]; exact hP
                    have hD : va_D A ((kX7 cs ama (.ref (are 0)) (.ref (are2 0)) (.ref (are3 0)) (.ref (ach 0)) (.ref (ata 0)) (.ref (asa 0)) Ma) ++ ((kSA cs asa (ag0 0) (ag1 0) (ag2 0) (ag3 0)) ++ ((kX5 cs ag0 (.ref (an0 0)) G0) ++ ((kJ40 cs an0 N0_235) ++ ((kX5 cs ag1 (.ref (an1 0)) G1) ++ ((kJ40 cs an1 N1) ++ ((kX5 cs ag2 (.ref (an2 0)) G2) ++ ((kJ40 cs an2 N2) ++ ((kX5 cs ag3 (.ref (an3 0)) G3) ++ ((kJ40 cs an3 N3))))))))))) := by rw [hN0_235]; exact hD
                    refine lv_iload hx hb dX7_copy_145 (lv_at hl 5 rfl) ?_
                    have he := Option.some.inj hf
                    obtain ⟨e0, ht0⟩ := Prod.mk.inj he
                    obtain ⟨e1, ht1⟩ := Prod.mk.inj ht0
                    obtain ⟨e2, ht2⟩ := Prod.mk.inj ht1
                    obtain ⟨e3, ht3⟩ := Prod.mk.inj ht2
                    obtain ⟨e4, e5⟩ := Prod.mk.inj ht3
                    exact hri _ _ _ rfl (congrArg (fun z => some (Value.int z)) e0.symm) dX7_copy_147 _ _ _ (by rw [e1, e2, e3, e4, e5]) hP hD hS
                  · have hf := ip_el hc234 hf
                    exact h112 Ma N0 N1 N2 N3 _ _ _ hP hD hS (lv_sub hl [0] rfl) hf
              · have hf := in_el hc228 hf
                refine lv_aload_n hx hb dX7_copy_74 rfl (lv_at hl 0 rfl) ?_
                refine lv_ldc (v := (-1000000003)) hx hb hown (hu _ q465) dX7_copy_75 ?_
                obtain ⟨r237, Ma_238, hg239, hf⟩ := b2_el hf
                refine cc_V (w' := ((kX7 cs ama (.ref (are 0)) (.ref (are2 0)) (.ref (are3 0)) (.ref (ach 0)) (.ref (ata 0)) (.ref (asa 0)) Ma_238) ++ ((kSA cs asa (ag0 0) (ag1 0) (ag2 0) (ag3 0)) ++ ((kX5 cs ag0 (.ref (an0 0)) G0) ++ ((kJ40 cs an0 N0) ++ ((kX5 cs ag1 (.ref (an1 0)) G1) ++ ((kJ40 cs an1 N1) ++ ((kX5 cs ag2 (.ref (an2 0)) G2) ++ ((kJ40 cs an2 N2) ++ ((kX5 cs ag3 (.ref (an3 0)) G3) ++ ((kJ40 cs an3 N3)))))))))))) (wr := ((kSA cs asa (ag0 0) (ag1 0) (ag2 0) (ag3 0)) ++ ((kX5 cs ag0 (.ref (an0 0)) G0) ++ ((kJ40 cs an0 N0) ++ ((kX5 cs ag1 (.ref (an1 0)) G1) ++ ((kJ40 cs an1 N1) ++ ((kX5 cs ag2 (.ref (an2 0)) G2) ++ ((kJ40 cs an2 N2) ++ ((kX5 cs ag3 (.ref (an3 0)) G3) ++ ((kJ40 cs an3 N3))))))))))) (st1 := [.int r237]) [.int (-1000000003)] hx hb hml hown hu (tX7_finding l D cs ama are are2 are3 ach ata asa (-1000000003) Ma r237 Ma_238 hg239) q339 q54 q336 q338 q0 pdX7_finding ⟨rfl, rfl, Nat.le_of_ble_eq_true rfl, Nat.le_of_ble_eq_true rfl⟩ hK hZ hP hD hS hA [0, 1] [2, 3, 4, 5, 6, 7, 8, 9, 10] [9, 10, 0, 1, 2, 3, 4, 5, 6, 7, 8] rfl rfl rfl rfl rfl rfl rfl rfl rfl rfl hl.1 rfl (Nat.le_of_ble_eq_true rfl) dX7_copy_77 rfl (fun H locs hP hD hS => ?_)
                have he := Option.some.inj hf
                obtain ⟨e0, ht0⟩ := Prod.mk.inj he
                obtain ⟨e1, ht1⟩ := Prod.mk.inj ht0
                obtain ⟨e2, ht2⟩ := Prod.mk.inj ht1
                obtain ⟨e3, ht3⟩ := Prod.mk.inj ht2
                obtain ⟨e4, e5⟩ := Prod.mk.inj ht3
                exact hri _ _ _ rfl (congrArg (fun z => some (Value.int z)) e0.symm) dX7_copy_80 _ _ _ (by rw [e1, e2, e3, e4, e5]) hP hD hS
            · have hf := in_el hc227 hf
              exact h45 Ma N0 N1 N2 N3 _ _ _ hP hD hS (lv_sub hl [0] rfl) hf
          have hf := in_el hc224 hf
          by_cases hc240 : x3 = 1
          · have hf := ip_el hc240 hf
            refine sa_lit (e := ag1 0) hx hb hK hP 2 rfl (k := 1) (by rw [hc240]; decide) rfl dX7_copy_38 ?_
            obtain ⟨r241, hg242, hf⟩ := b1_el hf
            refine cc_V (w' := ((kX7 cs ama (.ref (are 0)) (.ref (are2 0)) (.ref (are3 0)) (.ref (ach 0)) (.ref (ata 0)) (.ref (asa 0)) Ma) ++ ((kSA cs asa (ag0 0) (ag1 0) (ag2 0) (ag3 0)) ++ ((kX5 cs ag0 (.ref (an0 0)) G0) ++ ((kJ40 cs an0 N0) ++ ((kX5 cs ag1 (.ref (an1 0)) G1) ++ ((kJ40 cs an1 N1) ++ ((kX5 cs ag2 (.ref (an2 0)) G2) ++ ((kJ40 cs an2 N2) ++ ((kX5 cs ag3 (.ref (an3 0)) G3) ++ ((kJ40 cs an3 N3)))))))))))) (wr := ((kX7 cs ama (.ref (are 0)) (.ref (are2 0)) (.ref (are3 0)) (.ref (ach 0)) (.ref (ata 0)) (.ref (asa 0)) Ma) ++ ((kSA cs asa (ag0 0) (ag1 0) (ag2 0) (ag3 0)) ++ ((kX5 cs ag0 (.ref (an0 0)) G0) ++ ((kJ40 cs an0 N0) ++ ((kJ40 cs an1 N1) ++ ((kX5 cs ag2 (.ref (an2 0)) G2) ++ ((kJ40 cs an2 N2) ++ ((kX5 cs ag3 (.ref (an3 0)) G3) ++ ((kJ40 cs an3 N3))))))))))) (st1 := [.int r241]) [] hx hb hml hown hu (tX5_isMissing l D cs ag1 an1 G1 r241 hg242) q860 q61 q857 q858 q859 pdX5_isMissing ⟨rfl, rfl, Nat.le_of_ble_eq_true rfl, Nat.le_of_ble_eq_true rfl⟩ hK hZ hP hD hS hA [5] [0, 1, 2, 3, 4, 6, 7, 8, 9, 10] [0, 1, 2, 3, 4, 10, 5, 6, 7, 8, 9] rfl rfl rfl rfl rfl rfl rfl rfl rfl rfl hl.1 rfl (Nat.le_of_ble_eq_true rfl) dX7_copy_39 rfl (fun H locs hP hD hS => ?_)
            refine lv_if_eq (tgt := 53) hx hb dX7_copy_42 (by decide) (fun hc243 => ?_) (fun hc243 => ?_)
            · have hf := ip_el hc243 hf
              refine lv_aload_n hx hb dX7_copy_53 rfl (lv_at hl 0 rfl) ?_
              refine va_get (D := D) (ci := 7) (v := .ref (asa 0)) (C := RX7) (T := TX7) (N := 8) hx hb hu inX7 hown hK.1 hP 0 rfl rfl 5 (by decide) (hu _ q305) (fun _ h9 => h9) rfl dX7_copy_54 ?_
              refine lv_iload_n hx hb dX7_copy_57 rfl (lv_at hl 1 rfl) ?_
              refine sa_lit (e := ag3 0) hx hb hK hP 2 rfl (k := 3) (by rw [hc220]; decide) rfl dX7_copy_58 ?_
              refine va_get (D := D) (ci := 5) (v := .int (G3 0 0)) (C := RX5) (T := TX5) (N := 3) hx hb hu inX5 hown hK.1 hP 9 rfl rfl 0 (by decide) (hu _ q287) (fun _ h9 => h9) rfl dX7_copy_59 ?_
              refine lv_aload_n hx hb dX7_copy_62 rfl (lv_at hl 0 rfl) ?_
              refine va_get (D := D) (ci := 7) (v := .ref (asa 0)) (C := RX7) (T := TX7) (N := 8) hx hb hu inX7 hown hK.1 hP 0 rfl rfl 5 (by decide) (hu _ q305) (fun _ h9 => h9) rfl dX7_copy_63 ?_
              refine lv_iload_n hx hb dX7_copy_66 rfl (lv_at hl 3 rfl) ?_
              refine sa_lit (e := ag1 0) hx hb hK hP 2 rfl (k := 1) (by rw [hc240]; decide) rfl dX7_copy_67 ?_
              refine va_get (D := D) (ci := 5) (v := .int (G1 0 0)) (C := RX5) (T := TX5) (N := 3) hx hb hu inX5 hown hK.1 hP 5 rfl rfl 0 (by decide) (hu _ q287) (fun _ h9 => h9) rfl dX7_copy_68 ?_
              refine lv_icmp_eq (tgt := 81) hx hb dX7_copy_71 (by decide) (fun hc244 => ?_) (fun hc244 => ?_)
              · have hf := ip_el hc244 hf
                refine lv_aload_n hx hb dX7_copy_81 rfl (lv_at hl 0 rfl) ?_
                refine va_get (D := D) (ci := 7) (v := .ref (asa 0)) (C := RX7) (T := TX7) (N := 8) hx hb hu inX7 hown hK.1 hP 0 rfl rfl 5 (by decide) (hu _ q305) (fun _ h9 => h9) rfl dX7_copy_82 ?_
                refine lv_iload_n hx hb dX7_copy_85 rfl (lv_at hl 1 rfl) ?_
                refine sa_lit (e := ag3 0) hx hb hK hP 2 rfl (k := 3) (by rw [hc220]; decide) rfl dX7_copy_86 ?_
                refine lv_iload_n hx hb dX7_copy_87 rfl (lv_at hl 2 rfl) ?_
                refine lv_iload hx hb dX7_copy_88 (lv_at hl 5 rfl) ?_
                obtain ⟨r245, hg246, hf⟩ := b1_el hf
                refine cc_V (w' := ((kX7 cs ama (.ref (are 0)) (.ref (are2 0)) (.ref (are3 0)) (.ref (ach 0)) (.ref (ata 0)) (.ref (asa 0)) Ma) ++ ((kSA cs asa (ag0 0) (ag1 0) (ag2 0) (ag3 0)) ++ ((kX5 cs ag0 (.ref (an0 0)) G0) ++ ((kJ40 cs an0 N0) ++ ((kX5 cs ag1 (.ref (an1 0)) G1) ++ ((kJ40 cs an1 N1) ++ ((kX5 cs ag2 (.ref (an2 0)) G2) ++ ((kJ40 cs an2 N2) ++ ((kX5 cs ag3 (.ref (an3 0)) G3) ++ ((kJ40 cs an3 N3)))))))))))) (wr := ((kX7 cs ama (.ref (are 0)) (.ref (are2 0)) (.ref (are3 0)) (.ref (ach 0)) (.ref (ata 0)) (.ref (asa 0)) Ma) ++ ((kSA cs asa (ag0 0) (ag1 0) (ag2 0) (ag3 0)) ++ ((kX5 cs ag0 (.ref (an0 0)) G0) ++ ((kJ40 cs an0 N0) ++ ((kX5 cs ag1 (.ref (an1 0)) G1) ++ ((kJ40 cs an1 N1) ++ ((kX5 cs ag2 (.ref (an2 0)) G2) ++ ((kJ40 cs an2 N2) ++ ((kJ40 cs an3 N3))))))))))) (st1 := [.int r245]) [.int x2, .int x5] hx hb hml hown hu (tX5_holds l D cs ag3 an3 x2 x5 G3 r245 hg246) q873 q61 q870 q871 q872 pdX5_holds ⟨rfl, rfl, Nat.le_of_ble_eq_true rfl, Nat.le_of_ble_eq_true rfl⟩ hK hZ hP hD hS hA [9] [0, 1, 2, 3, 4, 5, 6, 7, 8, 10] [0, 1, 2, 3, 4, 5, 6, 7, 8, 10, 9] rfl rfl rfl rfl rfl rfl rfl rfl rfl rfl hl.1 rfl (Nat.le_of_ble_eq_true rfl) dX7_copy_90 rfl (fun H locs hP hD hS => ?_)
                refine lv_if_eq (tgt := 112) hx hb dX7_copy_93 (by decide) (fun hc247 => ?_) (fun hc247 => ?_)
                · have hf := ip_el hc247 hf
                  exact h112 Ma N0 N1 N2 N3 _ _ _ hP hD hS (lv_sub hl [0] rfl) hf
                · have hf := in_el hc247 hf
                  refine lv_aload_n hx hb dX7_copy_96 rfl (lv_at hl 0 rfl) ?_
                  refine va_get (D := D) (ci := 7) (v := .ref (asa 0)) (C := RX7) (T := TX7) (N := 8) hx hb hu inX7 hown hK.1 hP 0 rfl rfl 5 (by decide) (hu _ q305) (fun _ h9 => h9) rfl dX7_copy_97 ?_
                  refine lv_iload_n hx hb dX7_copy_100 rfl (lv_at hl 3 rfl) ?_
                  refine sa_lit (e := ag1 0) hx hb hK hP 2 rfl (k := 1) (by rw [hc240]; decide) rfl dX7_copy_101 ?_
                  refine lv_iload hx hb dX7_copy_102 (lv_at hl 4 rfl) ?_
                  refine lv_iload hx hb dX7_copy_104 (lv_at hl 5 rfl) ?_
                  obtain ⟨r248, hg249, hf⟩ := b1_el hf
                  refine cc_V (w' := ((kX7 cs ama (.ref (are 0)) (.ref (are2 0)) (.ref (are3 0)) (.ref (ach 0)) (.ref (ata 0)) (.ref (asa 0)) Ma) ++ ((kSA cs asa (ag0 0) (ag1 0) (ag2 0) (ag3 0)) ++ ((kX5 cs ag0 (.ref (an0 0)) G0) ++ ((kJ40 cs an0 N0) ++ ((kX5 cs ag1 (.ref (an1 0)) G1) ++ ((kJ40 cs an1 N1) ++ ((kX5 cs ag2 (.ref (an2 0)) G2) ++ ((kJ40 cs an2 N2) ++ ((kX5 cs ag3 (.ref (an3 0)) G3) ++ ((kJ40 cs an3 N3)))))))))))) (wr := ((kX7 cs ama (.ref (are 0)) (.ref (are2 0)) (.ref (are3 0)) (.ref (ach 0)) (.ref (ata 0)) (.ref (asa 0)) Ma) ++ ((kSA cs asa (ag0 0) (ag1 0) (ag2 0) (ag3 0)) ++ ((kX5 cs ag0 (.ref (an0 0)) G0) ++ ((kJ40 cs an0 N0) ++ ((kJ40 cs an1 N1) ++ ((kX5 cs ag2 (.ref (an2 0)) G2) ++ ((kJ40 cs an2 N2) ++ ((kX5 cs ag3 (.ref (an3 0)) G3) ++ ((kJ40 cs an3 N3))))))))))) (st1 := [.int r248]) [.int x4, .int x5] hx hb hml hown hu (tX5_holds l D cs ag1 an1 x4 x5 G1 r248 hg249) q873 q61 q870 q871 q872 pdX5_holds ⟨rfl, rfl, Nat.le_of_ble_eq_true rfl, Nat.le_of_ble_eq_true rfl⟩ hK hZ hP hD hS hA [5] [0, 1, 2, 3, 4, 6, 7, 8, 9, 10] [0, 1, 2, 3, 4, 10, 5, 6, 7, 8, 9] rfl rfl rfl rfl rfl rfl rfl rfl rfl rfl hl.1 rfl (Nat.le_of_ble_eq_true rfl) dX7_copy_106 rfl (fun H locs hP hD hS => ?_)
                  refine lv_if_ne (tgt := 119) hx hb dX7_copy_109 (by decide) (fun hc250 => ?_) (fun hc250 => ?_)
                  · have hf := in_el hc250 hf
                    refine lv_aload_n hx hb dX7_copy_119 rfl (lv_at hl 0 rfl) ?_
                    refine va_get (D := D) (ci := 7) (v := .ref (asa 0)) (C := RX7) (T := TX7) (N := 8) hx hb hu inX7 hown hK.1 hP 0 rfl rfl 5 (by decide) (hu _ q305) (fun _ h9 => h9) rfl dX7_copy_120 ?_
                    refine lv_iload_n hx hb dX7_copy_123 rfl (lv_at hl 1 rfl) ?_
                    refine sa_lit (e := ag3 0) hx hb hK hP 2 rfl (k := 3) (by rw [hc220]; decide) rfl dX7_copy_124 ?_
                    refine va_get (D := D) (ci := 5) (v := .ref (an3 0)) (C := RX5) (T := TX5) (N := 3) hx hb hu inX5 hown hK.1 hP 9 rfl rfl 2 (by decide) (hu _ q291) (fun _ h9 => h9) rfl dX7_copy_125 ?_
                    refine lv_iload_n hx hb dX7_copy_128 rfl (lv_at hl 2 rfl) ?_
                    refine lv_aload_n hx hb dX7_copy_129 rfl (lv_at hl 0 rfl) ?_
                    refine va_get (D := D) (ci := 7) (v := .ref (asa 0)) (C := RX7) (T := TX7) (N := 8) hx hb hu inX7 hown hK.1 hP 0 rfl rfl 5 (by decide) (hu _ q305) (fun _ h9 => h9) rfl dX7_copy_130 ?_
                    refine lv_iload_n hx hb dX7_copy_133 rfl (lv_at hl 3 rfl) ?_
                    refine sa_lit (e := ag1 0) hx hb hK hP 2 rfl (k := 1) (by rw [hc240]; decide) rfl dX7_copy_134 ?_
                    refine va_get (D := D) (ci := 5) (v := .ref (an1 0)) (C := RX5) (T := TX5) (N := 3) hx hb hu inX5 hown hK.1 hP 5 rfl rfl 2 (by decide) (hu _ q291) (fun _ h9 => h9) rfl dX7_copy_135 ?_
                    refine lv_iload hx hb dX7_copy_138 (lv_at hl 4 rfl) ?_
                    refine lv_iload hx hb dX7_copy_140 (lv_at hl 5 rfl) ?_
                    obtain ⟨hq252, hf⟩ := cp_el hf
                    obtain ⟨N1_251, hN1_251, hf⟩ := lt_el hf
                    refine va_copyl hx hb (hml.trans hl.1.symm) hown (hu _ q874) (hu _ q431) (hu _ q430) (hu _ q63) hK.1 hP hD hS 10 6 1 1 rfl rfl rfl rfl rfl hq252.1 hq252.2.1 hq252.2.2.1 hq252.2.2.2.1 hq252.2.2.2.2 (fun _ _ => rfl) (Nat.le_of_ble_eq_true rfl) (Nat.le_of_ble_eq_true rfl) dX7_copy_142 (fun H locs hP hD hS => ?_)
                    have hP : va_P D vwCl ((kX7 cs ama (.ref (are 0)) (.ref (are2 0)) (.ref (are3 0)) (.ref (ach 0)) (.ref (ata 0)) (.ref (asa 0)) Ma) ++ ((kSA cs asa (ag0 0) (ag1 0) (ag2 0) (ag3 0)) ++ ((kX5 cs ag0 (.ref (an0 0)) G0) ++ ((kJ40 cs an0 N0) ++ ((kX5 cs ag1 (.ref (an1 0)) G1) ++ ((kJ40 cs an1 N1_251) ++ ((kX5 cs ag2 (.ref (an2 0)) G2) ++ ((kJ40 cs an2 N2) ++ ((kX5 cs ag3 (.ref (an3 0)) G3) ++ ((kJ40 cs an3 N3))))))))))) H := by rw [hN1_251]; exact hP
                    have hD : va_D A ((kX7 cs ama (.ref (are 0)) (.ref (are2 0)) (.ref (are3 0)) (.ref (ach 0)) (.ref (ata 0)) (.ref (asa 0)) Ma) ++ ((kSA cs asa (ag0 0) (ag1 0) (ag2 0) (ag3 0)) ++ ((kX5 cs ag0 (.ref (an0 0)) G0) ++ ((kJ40 cs an0 N0) ++ ((kX5 cs ag1 (.ref (an1 0)) G1) ++ ((kJ40 cs an1 N1_251) ++ ((kX5 cs ag2 (.ref (an2 0)) G2) ++ ((kJ40 cs an2 N2) ++ ((kX5 cs ag3 (.ref (an3 0)) G3) ++ ((kJ40 cs an3 N3))))))))))) := by rw [hN1_251]; exact hD
                    refine lv_iload hx hb dX7_copy_145 (lv_at hl 5 rfl) ?_
                    have he := Option.some.inj hf
                    obtain ⟨e0, ht0⟩ := Prod.mk.inj he
                    obtain ⟨e1, ht1⟩ := Prod.mk.inj ht0
                    obtain ⟨e2, ht2⟩ := Prod.mk.inj ht1
                    obtain ⟨e3, ht3⟩ := Prod.mk.inj ht2
                    obtain ⟨e4, e5⟩ := Prod.mk.inj ht3
                    exact hri _ _ _ rfl (congrArg (fun z => some (Value.int z)) e0.symm) dX7_copy_147 _ _ _ (by rw [e1, e2, e3, e4, e5]) hP hD hS
                  · have hf := ip_el hc250 hf
                    exact h112 Ma N0 N1 N2 N3 _ _ _ hP hD hS (lv_sub hl [0] rfl) hf
              · have hf := in_el hc244 hf
                refine lv_aload_n hx hb dX7_copy_74 rfl (lv_at hl 0 rfl) ?_
                refine lv_ldc (v := (-1000000003)) hx hb hown (hu _ q465) dX7_copy_75 ?_
                obtain ⟨r253, Ma_254, hg255, hf⟩ := b2_el hf
                refine cc_V (w' := ((kX7 cs ama (.ref (are 0)) (.ref (are2 0)) (.ref (are3 0)) (.ref (ach 0)) (.ref (ata 0)) (.ref (asa 0)) Ma_254) ++ ((kSA cs asa (ag0 0) (ag1 0) (ag2 0) (ag3 0)) ++ ((kX5 cs ag0 (.ref (an0 0)) G0) ++ ((kJ40 cs an0 N0) ++ ((kX5 cs ag1 (.ref (an1 0)) G1) ++ ((kJ40 cs an1 N1) ++ ((kX5 cs ag2 (.ref (an2 0)) G2) ++ ((kJ40 cs an2 N2) ++ ((kX5 cs ag3 (.ref (an3 0)) G3) ++ ((kJ40 cs an3 N3)))))))))))) (wr := ((kSA cs asa (ag0 0) (ag1 0) (ag2 0) (ag3 0)) ++ ((kX5 cs ag0 (.ref (an0 0)) G0) ++ ((kJ40 cs an0 N0) ++ ((kX5 cs ag1 (.ref (an1 0)) G1) ++ ((kJ40 cs an1 N1) ++ ((kX5 cs ag2 (.ref (an2 0)) G2) ++ ((kJ40 cs an2 N2) ++ ((kX5 cs ag3 (.ref (an3 0)) G3) ++ ((kJ40 cs an3 N3))))))))))) (st1 := [.int r253]) [.int (-1000000003)] hx hb hml hown hu (tX7_finding l D cs ama are are2 are3 ach ata asa (-1000000003) Ma r253 Ma_254 hg255) q339 q54 q336 q338 q0 pdX7_finding ⟨rfl, rfl, Nat.le_of_ble_eq_true rfl, Nat.le_of_ble_eq_true rfl⟩ hK hZ hP hD hS hA [0, 1] [2, 3, 4, 5, 6, 7, 8, 9, 10] [9, 10, 0, 1, 2, 3, 4, 5, 6, 7, 8] rfl rfl rfl rfl rfl rfl rfl rfl rfl rfl hl.1 rfl (Nat.le_of_ble_eq_true rfl) dX7_copy_77 rfl (fun H locs hP hD hS => ?_)
                have he := Option.some.inj hf
                obtain ⟨e0, ht0⟩ := Prod.mk.inj he
                obtain ⟨e1, ht1⟩ := Prod.mk.inj ht0
                obtain ⟨e2, ht2⟩ := Prod.mk.inj ht1
                obtain ⟨e3, ht3⟩ := Prod.mk.inj ht2
                obtain ⟨e4, e5⟩ := Prod.mk.inj ht3
                exact hri _ _ _ rfl (congrArg (fun z => some (Value.int z)) e0.symm) dX7_copy_80 _ _ _ (by rw [e1, e2, e3, e4, e5]) hP hD hS
            · have hf := in_el hc243 hf
              exact h45 Ma N0 N1 N2 N3 _ _ _ hP hD hS (lv_sub hl [0] rfl) hf
          have hf := in_el hc240 hf
          by_cases hc256 : x3 = 2
          · have hf := ip_el hc256 hf
            refine sa_lit (e := ag2 0) hx hb hK hP 2 rfl (k := 2) (by rw [hc256]; decide) rfl dX7_copy_38 ?_
            obtain ⟨r257, hg258, hf⟩ := b1_el hf
            refine cc_V (w' := ((kX7 cs ama (.ref (are 0)) (.ref (are2 0)) (.ref (are3 0)) (.ref (ach 0)) (.ref (ata 0)) (.ref (asa 0)) Ma) ++ ((kSA cs asa (ag0 0) (ag1 0) (ag2 0) (ag3 0)) ++ ((kX5 cs ag0 (.ref (an0 0)) G0) ++ ((kJ40 cs an0 N0) ++ ((kX5 cs ag1 (.ref (an1 0)) G1) ++ ((kJ40 cs an1 N1) ++ ((kX5 cs ag2 (.ref (an2 0)) G2) ++ ((kJ40 cs an2 N2) ++ ((kX5 cs ag3 (.ref (an3 0)) G3) ++ ((kJ40 cs an3 N3)))))))))))) (wr := ((kX7 cs ama (.ref (are 0)) (.ref (are2 0)) (.ref (are3 0)) (.ref (ach 0)) (.ref (ata 0)) (.ref (asa 0)) Ma) ++ ((kSA cs asa (ag0 0) (ag1 0) (ag2 0) (ag3 0)) ++ ((kX5 cs ag0 (.ref (an0 0)) G0) ++ ((kJ40 cs an0 N0) ++ ((kX5 cs ag1 (.ref (an1 0)) G1) ++ ((kJ40 cs an1 N1) ++ ((kJ40 cs an2 N2) ++ ((kX5 cs ag3 (.ref (an3 0)) G3) ++ ((kJ40 cs an3 N3))))))))))) (st1 := [.int r257]) [] hx hb hml hown hu (tX5_isMissing l D cs ag2 an2 G2 r257 hg258) q860 q61 q857 q858 q859 pdX5_isMissing ⟨rfl, rfl, Nat.le_of_ble_eq_true rfl, Nat.le_of_ble_eq_true rfl⟩ hK hZ hP hD hS hA [7] [0, 1, 2, 3, 4, 5, 6, 8, 9, 10] [0, 1, 2, 3, 4, 5, 6, 10, 7, 8, 9] rfl rfl rfl rfl rfl rfl rfl rfl rfl rfl hl.1 rfl (Nat.le_of_ble_eq_true rfl) dX7_copy_39 rfl (fun H locs hP hD hS => ?_)
            refine lv_if_eq (tgt := 53) hx hb dX7_copy_42 (by decide) (fun hc259 => ?_) (fun hc259 => ?_)
            · have hf := ip_el hc259 hf
              refine lv_aload_n hx hb dX7_copy_53 rfl (lv_at hl 0 rfl) ?_
              refine va_get (D := D) (ci := 7) (v := .ref (asa 0)) (C := RX7) (T := TX7) (N := 8) hx hb hu inX7 hown hK.1 hP 0 rfl rfl 5 (by decide) (hu _ q305) (fun _ h9 => h9) rfl dX7_copy_54 ?_
              refine lv_iload_n hx hb dX7_copy_57 rfl (lv_at hl 1 rfl) ?_
              refine sa_lit (e := ag3 0) hx hb hK hP 2 rfl (k := 3) (by rw [hc220]; decide) rfl dX7_copy_58 ?_
              refine va_get (D := D) (ci := 5) (v := .int (G3 0 0)) (C := RX5) (T := TX5) (N := 3) hx hb hu inX5 hown hK.1 hP 9 rfl rfl 0 (by decide) (hu _ q287) (fun _ h9 => h9) rfl dX7_copy_59 ?_
              refine lv_aload_n hx hb dX7_copy_62 rfl (lv_at hl 0 rfl) ?_
              refine va_get (D := D) (ci := 7) (v := .ref (asa 0)) (C := RX7) (T := TX7) (N := 8) hx hb hu inX7 hown hK.1 hP 0 rfl rfl 5 (by decide) (hu _ q305) (fun _ h9 => h9) rfl dX7_copy_63 ?_
              refine lv_iload_n hx hb dX7_copy_66 rfl (lv_at hl 3 rfl) ?_
              refine sa_lit (e := ag2 0) hx hb hK hP 2 rfl (k := 2) (by rw [hc256]; decide) rfl dX7_copy_67 ?_
              refine va_get (D := D) (ci := 5) (v := .int (G2 0 0)) (C := RX5) (T := TX5) (N := 3) hx hb hu inX5 hown hK.1 hP 7 rfl rfl 0 (by decide) (hu _ q287) (fun _ h9 => h9) rfl dX7_copy_68 ?_
              refine lv_icmp_eq (tgt := 81) hx hb dX7_copy_71 (by decide) (fun hc260 => ?_) (fun hc260 => ?_)
              · have hf := ip_el hc260 hf
                refine lv_aload_n hx hb dX7_copy_81 rfl (lv_at hl 0 rfl) ?_
                refine va_get (D := D) (ci := 7) (v := .ref (asa 0)) (C := RX7) (T := TX7) (N := 8) hx hb hu inX7 hown hK.1 hP 0 rfl rfl 5 (by decide) (hu _ q305) (fun _ h9 => h9) rfl dX7_copy_82 ?_
                refine lv_iload_n hx hb dX7_copy_85 rfl (lv_at hl 1 rfl) ?_
                refine sa_lit (e := ag3 0) hx hb hK hP 2 rfl (k := 3) (by rw [hc220]; decide) rfl dX7_copy_86 ?_
                refine lv_iload_n hx hb dX7_copy_87 rfl (lv_at hl 2 rfl) ?_
                refine lv_iload hx hb dX7_copy_88 (lv_at hl 5 rfl) ?_
                obtain ⟨r261, hg262, hf⟩ := b1_el hf
                refine cc_V (w' := ((kX7 cs ama (.ref (are 0)) (.ref (are2 0)) (.ref (are3 0)) (.ref (ach 0)) (.ref (ata 0)) (.ref (asa 0)) Ma) ++ ((kSA cs asa (ag0 0) (ag1 0) (ag2 0) (ag3 0)) ++ ((kX5 cs ag0 (.ref (an0 0)) G0) ++ ((kJ40 cs an0 N0) ++ ((kX5 cs ag1 (.ref (an1 0)) G1) ++ ((kJ40 cs an1 N1) ++ ((kX5 cs ag2 (.ref (an2 0)) G2) ++ ((kJ40 cs an2 N2) ++ ((kX5 cs ag3 (.ref (an3 0)) G3) ++ ((kJ40 cs an3 N3)))))))))))) (wr := ((kX7 cs ama (.ref (are 0)) (.ref (are2 0)) (.ref (are3 0)) (.ref (ach 0)) (.ref (ata 0)) (.ref (asa 0)) Ma) ++ ((kSA cs asa (ag0 0) (ag1 0) (ag2 0) (ag3 0)) ++ ((kX5 cs ag0 (.ref (an0 0)) G0) ++ ((kJ40 cs an0 N0) ++ ((kX5 cs ag1 (.ref (an1 0)) G1) ++ ((kJ40 cs an1 N1) ++ ((kX5 cs ag2 (.ref (an2 0)) G2) ++ ((kJ40 cs an2 N2) ++ ((kJ40 cs an3 N3))))))))))) (st1 := [.int r261]) [.int x2, .int x5] hx hb hml hown hu (tX5_holds l D cs ag3 an3 x2 x5 G3 r261 hg262) q873 q61 q870 q871 q872 pdX5_holds ⟨rfl, rfl, Nat.le_of_ble_eq_true rfl, Nat.le_of_ble_eq_true rfl⟩ hK hZ hP hD hS hA [9] [0, 1, 2, 3, 4, 5, 6, 7, 8, 10] [0, 1, 2, 3, 4, 5, 6, 7, 8, 10, 9] rfl rfl rfl rfl rfl rfl rfl rfl rfl rfl hl.1 rfl (Nat.le_of_ble_eq_true rfl) dX7_copy_90 rfl (fun H locs hP hD hS => ?_)
                refine lv_if_eq (tgt := 112) hx hb dX7_copy_93 (by decide) (fun hc263 => ?_) (fun hc263 => ?_)
                · have hf := ip_el hc263 hf
                  exact h112 Ma N0 N1 N2 N3 _ _ _ hP hD hS (lv_sub hl [0] rfl) hf
                · have hf := in_el hc263 hf
                  refine lv_aload_n hx hb dX7_copy_96 rfl (lv_at hl 0 rfl) ?_
                  refine va_get (D := D) (ci := 7) (v := .ref (asa 0)) (C := RX7) (T := TX7) (N := 8) hx hb hu inX7 hown hK.1 hP 0 rfl rfl 5 (by decide) (hu _ q305) (fun _ h9 => h9) rfl dX7_copy_97 ?_
                  refine lv_iload_n hx hb dX7_copy_100 rfl (lv_at hl 3 rfl) ?_
                  refine sa_lit (e := ag2 0) hx hb hK hP 2 rfl (k := 2) (by rw [hc256]; decide) rfl dX7_copy_101 ?_
                  refine lv_iload hx hb dX7_copy_102 (lv_at hl 4 rfl) ?_
                  refine lv_iload hx hb dX7_copy_104 (lv_at hl 5 rfl) ?_
                  obtain ⟨r264, hg265, hf⟩ := b1_el hf
                  refine cc_V (w' := ((kX7 cs ama (.ref (are 0)) (.ref (are2 0)) (.ref (are3 0)) (.ref (ach 0)) (.ref (ata 0)) (.ref (asa 0)) Ma) ++ ((kSA cs asa (ag0 0) (ag1 0) (ag2 0) (ag3 0)) ++ ((kX5 cs ag0 (.ref (an0 0)) G0) ++ ((kJ40 cs an0 N0) ++ ((kX5 cs ag1 (.ref (an1 0)) G1) ++ ((kJ40 cs an1 N1) ++ ((kX5 cs ag2 (.ref (an2 0)) G2) ++ ((kJ40 cs an2 N2) ++ ((kX5 cs ag3 (.ref (an3 0)) G3) ++ ((kJ40 cs an3 N3)))))))))))) (wr := ((kX7 cs ama (.ref (are 0)) (.ref (are2 0)) (.ref (are3 0)) (.ref (ach 0)) (.ref (ata 0)) (.ref (asa 0)) Ma) ++ ((kSA cs asa (ag0 0) (ag1 0) (ag2 0) (ag3 0)) ++ ((kX5 cs ag0 (.ref (an0 0)) G0) ++ ((kJ40 cs an0 N0) ++ ((kX5 cs ag1 (.ref (an1 0)) G1) ++ ((kJ40 cs an1 N1) ++ ((kJ40 cs an2 N2) ++ ((kX5 cs ag3 (.ref (an3 0)) G3) ++ ((kJ40 cs an3 N3))))))))))) (st1 := [.int r264]) [.int x4, .int x5] hx hb hml hown hu (tX5_holds l D cs ag2 an2 x4 x5 G2 r264 hg265) q873 q61 q870 q871 q872 pdX5_holds ⟨rfl, rfl, Nat.le_of_ble_eq_true rfl, Nat.le_of_ble_eq_true rfl⟩ hK hZ hP hD hS hA [7] [0, 1, 2, 3, 4, 5, 6, 8, 9, 10] [0, 1, 2, 3, 4, 5, 6, 10, 7, 8, 9] rfl rfl rfl rfl rfl rfl rfl rfl rfl rfl hl.1 rfl (Nat.le_of_ble_eq_true rfl) dX7_copy_106 rfl (fun H locs hP hD hS => ?_)
                  refine lv_if_ne (tgt := 119) hx hb dX7_copy_109 (by decide) (fun hc266 => ?_) (fun hc266 => ?_)
                  · have hf := in_el hc266 hf
                    refine lv_aload_n hx hb dX7_copy_119 rfl (lv_at hl 0 rfl) ?_
                    refine va_get (D := D) (ci := 7) (v := .ref (asa 0)) (C := RX7) (T := TX7) (N := 8) hx hb hu inX7 hown hK.1 hP 0 rfl rfl 5 (by decide) (hu _ q305) (fun _ h9 => h9) rfl dX7_copy_120 ?_
                    refine lv_iload_n hx hb dX7_copy_123 rfl (lv_at hl 1 rfl) ?_
                    refine sa_lit (e := ag3 0) hx hb hK hP 2 rfl (k := 3) (by rw [hc220]; decide) rfl dX7_copy_124 ?_
                    refine va_get (D := D) (ci := 5) (v := .ref (an3 0)) (C := RX5) (T := TX5) (N := 3) hx hb hu inX5 hown hK.1 hP 9 rfl rfl 2 (by decide) (hu _ q291) (fun _ h9 => h9) rfl dX7_copy_125 ?_
                    refine lv_iload_n hx hb dX7_copy_128 rfl (lv_at hl 2 rfl) ?_
                    refine lv_aload_n hx hb dX7_copy_129 rfl (lv_at hl 0 rfl) ?_
                    refine va_get (D := D) (ci := 7) (v := .ref (asa 0)) (C := RX7) (T := TX7) (N := 8) hx hb hu inX7 hown hK.1 hP 0 rfl rfl 5 (by decide) (hu _ q305) (fun _ h9 => h9) rfl dX7_copy_130 ?_
                    refine lv_iload_n hx hb dX7_copy_133 rfl (lv_at hl 3 rfl) ?_
                    refine sa_lit (e := ag2 0) hx hb hK hP 2 rfl (k := 2) (by rw [hc256]; decide) rfl dX7_copy_134 ?_
                    refine va_get (D := D) (ci := 5) (v := .ref (an2 0)) (C := RX5) (T := TX5) (N := 3) hx hb hu inX5 hown hK.1 hP 7 rfl rfl 2 (by decide) (hu _ q291) (fun _ h9 => h9) rfl dX7_copy_135 ?_
                    refine lv_iload hx hb dX7_copy_138 (lv_at hl 4 rfl) ?_
                    refine lv_iload hx hb dX7_copy_140 (lv_at hl 5 rfl) ?_
                    obtain ⟨hq268, hf⟩ := cp_el hf
                    obtain ⟨N2_267, hN2_267, hf⟩ := lt_el hf
                    refine va_copyl hx hb (hml.trans hl.1.symm) hown (hu _ q874) (hu _ q431) (hu _ q430) (hu _ q63) hK.1 hP hD hS 10 8 1 1 rfl rfl rfl rfl rfl hq268.1 hq268.2.1 hq268.2.2.1 hq268.2.2.2.1 hq268.2.2.2.2 (fun _ _ => rfl) (Nat.le_of_ble_eq_true rfl) (Nat.le_of_ble_eq_true rfl) dX7_copy_142 (fun H locs hP hD hS => ?_)
                    have hP : va_P D vwCl ((kX7 cs ama (.ref (are 0)) (.ref (are2 0)) (.ref (are3 0)) (.ref (ach 0)) (.ref (ata 0)) (.ref (asa 0)) Ma) ++ ((kSA cs asa (ag0 0) (ag1 0) (ag2 0) (ag3 0)) ++ ((kX5 cs ag0 (.ref (an0 0)) G0) ++ ((kJ40 cs an0 N0) ++ ((kX5 cs ag1 (.ref (an1 0)) G1) ++ ((kJ40 cs an1 N1) ++ ((kX5 cs ag2 (.ref (an2 0)) G2) ++ ((kJ40 cs an2 N2_267) ++ ((kX5 cs ag3 (.ref (an3 0)) G3) ++ ((kJ40 cs an3 N3))))))))))) H := by rw [hN2_267]; exact hP
                    have hD : va_D A ((kX7 cs ama (.ref (are 0)) (.ref (are2 0)) (.ref (are3 0)) (.ref (ach 0)) (.ref (ata 0)) (.ref (asa 0)) Ma) ++ ((kSA cs asa (ag0 0) (ag1 0) (ag2 0) (ag3 0)) ++ ((kX5 cs ag0 (.ref (an0 0)) G0) ++ ((kJ40 cs an0 N0) ++ ((kX5 cs ag1 (.ref (an1 0)) G1) ++ ((kJ40 cs an1 N1) ++ ((kX5 cs ag2 (.ref (an2 0)) G2) ++ ((kJ40 cs an2 N2_267) ++ ((kX5 cs ag3 (.ref (an3 0)) G3) ++ ((kJ40 cs an3 N3))))))))))) := by rw [hN2_267]; exact hD
                    refine lv_iload hx hb dX7_copy_145 (lv_at hl 5 rfl) ?_
                    have he := Option.some.inj hf
                    obtain ⟨e0, ht0⟩ := Prod.mk.inj he
                    obtain ⟨e1, ht1⟩ := Prod.mk.inj ht0
                    obtain ⟨e2, ht2⟩ := Prod.mk.inj ht1
                    obtain ⟨e3, ht3⟩ := Prod.mk.inj ht2
                    obtain ⟨e4, e5⟩ := Prod.mk.inj ht3
                    exact hri _ _ _ rfl (congrArg (fun z => some (Value.int z)) e0.symm) dX7_copy_147 _ _ _ (by rw [e1, e2, e3, e4, e5]) hP hD hS
                  · have hf := ip_el hc266 hf
                    exact h112 Ma N0 N1 N2 N3 _ _ _ hP hD hS (lv_sub hl [0] rfl) hf
              · have hf := in_el hc260 hf
                refine lv_aload_n hx hb dX7_copy_74 rfl (lv_at hl 0 rfl) ?_
                refine lv_ldc (v := (-1000000003)) hx hb hown (hu _ q465) dX7_copy_75 ?_
                obtain ⟨r269, Ma_270, hg271, hf⟩ := b2_el hf
                refine cc_V (w' := ((kX7 cs ama (.ref (are 0)) (.ref (are2 0)) (.ref (are3 0)) (.ref (ach 0)) (.ref (ata 0)) (.ref (asa 0)) Ma_270) ++ ((kSA cs asa (ag0 0) (ag1 0) (ag2 0) (ag3 0)) ++ ((kX5 cs ag0 (.ref (an0 0)) G0) ++ ((kJ40 cs an0 N0) ++ ((kX5 cs ag1 (.ref (an1 0)) G1) ++ ((kJ40 cs an1 N1) ++ ((kX5 cs ag2 (.ref (an2 0)) G2) ++ ((kJ40 cs an2 N2) ++ ((kX5 cs ag3 (.ref (an3 0)) G3) ++ ((kJ40 cs an3 N3)))))))))))) (wr := ((kSA cs asa (ag0 0) (ag1 0) (ag2 0) (ag3 0)) ++ ((kX5 cs ag0 (.ref (an0 0)) G0) ++ ((kJ40 cs an0 N0) ++ ((kX5 cs ag1 (.ref (an1 0)) G1) ++ ((kJ40 cs an1 N1) ++ ((kX5 cs ag2 (.ref (an2 0)) G2) ++ ((kJ40 cs an2 N2) ++ ((kX5 cs ag3 (.ref (an3 0)) G3) ++ ((kJ40 cs an3 N3))))))))))) (st1 := [.int r269]) [.int (-1000000003)] hx hb hml hown hu (tX7_finding l D cs ama are are2 are3 ach ata asa (-1000000003) Ma r269 Ma_270 hg271) q339 q54 q336 q338 q0 pdX7_finding ⟨rfl, rfl, Nat.le_of_ble_eq_true rfl, Nat.le_of_ble_eq_true rfl⟩ hK hZ hP hD hS hA [0, 1] [2, 3, 4, 5, 6, 7, 8, 9, 10] [9, 10, 0, 1, 2, 3, 4, 5, 6, 7, 8] rfl rfl rfl rfl rfl rfl rfl rfl rfl rfl hl.1 rfl (Nat.le_of_ble_eq_true rfl) dX7_copy_77 rfl (fun H locs hP hD hS => ?_)
                have he := Option.some.inj hf
                obtain ⟨e0, ht0⟩ := Prod.mk.inj he
                obtain ⟨e1, ht1⟩ := Prod.mk.inj ht0
                obtain ⟨e2, ht2⟩ := Prod.mk.inj ht1
                obtain ⟨e3, ht3⟩ := Prod.mk.inj ht2
                obtain ⟨e4, e5⟩ := Prod.mk.inj ht3
                exact hri _ _ _ rfl (congrArg (fun z => some (Value.int z)) e0.symm) dX7_copy_80 _ _ _ (by rw [e1, e2, e3, e4, e5]) hP hD hS
            · have hf := in_el hc259 hf
              exact h45 Ma N0 N1 N2 N3 _ _ _ hP hD hS (lv_sub hl [0] rfl) hf
          have hf := in_el hc256 hf
          by_cases hc272 : x3 = 3
          · have hf := ip_el hc272 hf
            refine sa_lit (e := ag3 0) hx hb hK hP 2 rfl (k := 3) (by rw [hc272]; decide) rfl dX7_copy_38 ?_
            obtain ⟨r273, hg274, hf⟩ := b1_el hf
            refine cc_V (w' := ((kX7 cs ama (.ref (are 0)) (.ref (are2 0)) (.ref (are3 0)) (.ref (ach 0)) (.ref (ata 0)) (.ref (asa 0)) Ma) ++ ((kSA cs asa (ag0 0) (ag1 0) (ag2 0) (ag3 0)) ++ ((kX5 cs ag0 (.ref (an0 0)) G0) ++ ((kJ40 cs an0 N0) ++ ((kX5 cs ag1 (.ref (an1 0)) G1) ++ ((kJ40 cs an1 N1) ++ ((kX5 cs ag2 (.ref (an2 0)) G2) ++ ((kJ40 cs an2 N2) ++ ((kX5 cs ag3 (.ref (an3 0)) G3) ++ ((kJ40 cs an3 N3)))))))))))) (wr := ((kX7 cs ama (.ref (are 0)) (.ref (are2 0)) (.ref (are3 0)) (.ref (ach 0)) (.ref (ata 0)) (.ref (asa 0)) Ma) ++ ((kSA cs asa (ag0 0) (ag1 0) (ag2 0) (ag3 0)) ++ ((kX5 cs ag0 (.ref (an0 0)) G0) ++ ((kJ40 cs an0 N0) ++ ((kX5 cs ag1 (.ref (an1 0)) G1) ++ ((kJ40 cs an1 N1) ++ ((kX5 cs ag2 (.ref (an2 0)) G2) ++ ((kJ40 cs an2 N2) ++ ((kJ40 cs an3 N3))))))))))) (st1 := [.int r273]) [] hx hb hml hown hu (tX5_isMissing l D cs ag3 an3 G3 r273 hg274) q860 q61 q857 q858 q859 pdX5_isMissing ⟨rfl, rfl, Nat.le_of_ble_eq_true rfl, Nat.le_of_ble_eq_true rfl⟩ hK hZ hP hD hS hA [9] [0, 1, 2, 3, 4, 5, 6, 7, 8, 10] [0, 1, 2, 3, 4, 5, 6, 7, 8, 10, 9] rfl rfl rfl rfl rfl rfl rfl rfl rfl rfl hl.1 rfl (Nat.le_of_ble_eq_true rfl) dX7_copy_39 rfl (fun H locs hP hD hS => ?_)
            refine lv_if_eq (tgt := 53) hx hb dX7_copy_42 (by decide) (fun hc275 => ?_) (fun hc275 => ?_)
            · have hf := ip_el hc275 hf
              refine lv_aload_n hx hb dX7_copy_53 rfl (lv_at hl 0 rfl) ?_
              refine va_get (D := D) (ci := 7) (v := .ref (asa 0)) (C := RX7) (T := TX7) (N := 8) hx hb hu inX7 hown hK.1 hP 0 rfl rfl 5 (by decide) (hu _ q305) (fun _ h9 => h9) rfl dX7_copy_54 ?_
              refine lv_iload_n hx hb dX7_copy_57 rfl (lv_at hl 1 rfl) ?_
              refine sa_lit (e := ag3 0) hx hb hK hP 2 rfl (k := 3) (by rw [hc220]; decide) rfl dX7_copy_58 ?_
              refine va_get (D := D) (ci := 5) (v := .int (G3 0 0)) (C := RX5) (T := TX5) (N := 3) hx hb hu inX5 hown hK.1 hP 9 rfl rfl 0 (by decide) (hu _ q287) (fun _ h9 => h9) rfl dX7_copy_59 ?_
              refine lv_aload_n hx hb dX7_copy_62 rfl (lv_at hl 0 rfl) ?_
              refine va_get (D := D) (ci := 7) (v := .ref (asa 0)) (C := RX7) (T := TX7) (N := 8) hx hb hu inX7 hown hK.1 hP 0 rfl rfl 5 (by decide) (hu _ q305) (fun _ h9 => h9) rfl dX7_copy_63 ?_
              refine lv_iload_n hx hb dX7_copy_66 rfl (lv_at hl 3 rfl) ?_
              refine sa_lit (e := ag3 0) hx hb hK hP 2 rfl (k := 3) (by rw [hc272]; decide) rfl dX7_copy_67 ?_
              refine va_get (D := D) (ci := 5) (v := .int (G3 0 0)) (C := RX5) (T := TX5) (N := 3) hx hb hu inX5 hown hK.1 hP 9 rfl rfl 0 (by decide) (hu _ q287) (fun _ h9 => h9) rfl dX7_copy_68 ?_
              refine lv_icmp_eq (tgt := 81) hx hb dX7_copy_71 (by decide) (fun hc276 => ?_) (fun hc276 => ?_)
              · have hf := ip_el hc276 hf
                refine lv_aload_n hx hb dX7_copy_81 rfl (lv_at hl 0 rfl) ?_
                refine va_get (D := D) (ci := 7) (v := .ref (asa 0)) (C := RX7) (T := TX7) (N := 8) hx hb hu inX7 hown hK.1 hP 0 rfl rfl 5 (by decide) (hu _ q305) (fun _ h9 => h9) rfl dX7_copy_82 ?_
                refine lv_iload_n hx hb dX7_copy_85 rfl (lv_at hl 1 rfl) ?_
                refine sa_lit (e := ag3 0) hx hb hK hP 2 rfl (k := 3) (by rw [hc220]; decide) rfl dX7_copy_86 ?_
                refine lv_iload_n hx hb dX7_copy_87 rfl (lv_at hl 2 rfl) ?_
                refine lv_iload hx hb dX7_copy_88 (lv_at hl 5 rfl) ?_
                obtain ⟨r277, hg278, hf⟩ := b1_el hf
                refine cc_V (w' := ((kX7 cs ama (.ref (are 0)) (.ref (are2 0)) (.ref (are3 0)) (.ref (ach 0)) (.ref (ata 0)) (.ref (asa 0)) Ma) ++ ((kSA cs asa (ag0 0) (ag1 0) (ag2 0) (ag3 0)) ++ ((kX5 cs ag0 (.ref (an0 0)) G0) ++ ((kJ40 cs an0 N0) ++ ((kX5 cs ag1 (.ref (an1 0)) G1) ++ ((kJ40 cs an1 N1) ++ ((kX5 cs ag2 (.ref (an2 0)) G2) ++ ((kJ40 cs an2 N2) ++ ((kX5 cs ag3 (.ref (an3 0)) G3) ++ ((kJ40 cs an3 N3)))))))))))) (wr := ((kX7 cs ama (.ref (are 0)) (.ref (are2 0)) (.ref (are3 0)) (.ref (ach 0)) (.ref (ata 0)) (.ref (asa 0)) Ma) ++ ((kSA cs asa (ag0 0) (ag1 0) (ag2 0) (ag3 0)) ++ ((kX5 cs ag0 (.ref (an0 0)) G0) ++ ((kJ40 cs an0 N0) ++ ((kX5 cs ag1 (.ref (an1 0)) G1) ++ ((kJ40 cs an1 N1) ++ ((kX5 cs ag2 (.ref (an2 0)) G2) ++ ((kJ40 cs an2 N2) ++ ((kJ40 cs an3 N3))))))))))) (st1 := [.int r277]) [.int x2, .int x5] hx hb hml hown hu (tX5_holds l D cs ag3 an3 x2 x5 G3 r277 hg278) q873 q61 q870 q871 q872 pdX5_holds ⟨rfl, rfl, Nat.le_of_ble_eq_true rfl, Nat.le_of_ble_eq_true rfl⟩ hK hZ hP hD hS hA [9] [0, 1, 2, 3, 4, 5, 6, 7, 8, 10] [0, 1, 2, 3, 4, 5, 6, 7, 8, 10, 9] rfl rfl rfl rfl rfl rfl rfl rfl rfl rfl hl.1 rfl (Nat.le_of_ble_eq_true rfl) dX7_copy_90 rfl (fun H locs hP hD hS => ?_)
                refine lv_if_eq (tgt := 112) hx hb dX7_copy_93 (by decide) (fun hc279 => ?_) (fun hc279 => ?_)
                · have hf := ip_el hc279 hf
                  exact h112 Ma N0 N1 N2 N3 _ _ _ hP hD hS (lv_sub hl [0] rfl) hf
                · have hf := in_el hc279 hf
                  refine lv_aload_n hx hb dX7_copy_96 rfl (lv_at hl 0 rfl) ?_
                  refine va_get (D := D) (ci := 7) (v := .ref (asa 0)) (C := RX7) (T := TX7) (N := 8) hx hb hu inX7 hown hK.1 hP 0 rfl rfl 5 (by decide) (hu _ q305) (fun _ h9 => h9) rfl dX7_copy_97 ?_
                  refine lv_iload_n hx hb dX7_copy_100 rfl (lv_at hl 3 rfl) ?_
                  refine sa_lit (e := ag3 0) hx hb hK hP 2 rfl (k := 3) (by rw [hc272]; decide) rfl dX7_copy_101 ?_
                  refine lv_iload hx hb dX7_copy_102 (lv_at hl 4 rfl) ?_
                  refine lv_iload hx hb dX7_copy_104 (lv_at hl 5 rfl) ?_
                  obtain ⟨r280, hg281, hf⟩ := b1_el hf
                  refine cc_V (w' := ((kX7 cs ama (.ref (are 0)) (.ref (are2 0)) (.ref (are3 0)) (.ref (ach 0)) (.ref (ata 0)) (.ref (asa 0)) Ma) ++ ((kSA cs asa (ag0 0) (ag1 0) (ag2 0) (ag3 0)) ++ ((kX5 cs ag0 (.ref (an0 0)) G0) ++ ((kJ40 cs an0 N0) ++ ((kX5 cs ag1 (.ref (an1 0)) G1) ++ ((kJ40 cs an1 N1) ++ ((kX5 cs ag2 (.ref (an2 0)) G2) ++ ((kJ40 cs an2 N2) ++ ((kX5 cs ag3 (.ref (an3 0)) G3) ++ ((kJ40 cs an3 N3)))))))))))) (wr := ((kX7 cs ama (.ref (are 0)) (.ref (are2 0)) (.ref (are3 0)) (.ref (ach 0)) (.ref (ata 0)) (.ref (asa 0)) Ma) ++ ((kSA cs asa (ag0 0) (ag1 0) (ag2 0) (ag3 0)) ++ ((kX5 cs ag0 (.ref (an0 0)) G0) ++ ((kJ40 cs an0 N0) ++ ((kX5 cs ag1 (.ref (an1 0)) G1) ++ ((kJ40 cs an1 N1) ++ ((kX5 cs ag2 (.ref (an2 0)) G2) ++ ((kJ40 cs an2 N2) ++ ((kJ40 cs an3 N3))))))))))) (st1 := [.int r280]) [.int x4, .int x5] hx hb hml hown hu (tX5_holds l D cs ag3 an3 x4 x5 G3 r280 hg281) q873 q61 q870 q871 q872 pdX5_holds ⟨rfl, rfl, Nat.le_of_ble_eq_true rfl, Nat.le_of_ble_eq_true rfl⟩ hK hZ hP hD hS hA [9] [0, 1, 2, 3, 4, 5, 6, 7, 8, 10] [0, 1, 2, 3, 4, 5, 6, 7, 8, 10, 9] rfl rfl rfl rfl rfl rfl rfl rfl rfl rfl hl.1 rfl (Nat.le_of_ble_eq_true rfl) dX7_copy_106 rfl (fun H locs hP hD hS => ?_)
                  refine lv_if_ne (tgt := 119) hx hb dX7_copy_109 (by decide) (fun hc282 => ?_) (fun hc282 => ?_)
                  · have hf := in_el hc282 hf
                    refine lv_aload_n hx hb dX7_copy_119 rfl (lv_at hl 0 rfl) ?_
                    refine va_get (D := D) (ci := 7) (v := .ref (asa 0)) (C := RX7) (T := TX7) (N := 8) hx hb hu inX7 hown hK.1 hP 0 rfl rfl 5 (by decide) (hu _ q305) (fun _ h9 => h9) rfl dX7_copy_120 ?_
                    refine lv_iload_n hx hb dX7_copy_123 rfl (lv_at hl 1 rfl) ?_
                    refine sa_lit (e := ag3 0) hx hb hK hP 2 rfl (k := 3) (by rw [hc220]; decide) rfl dX7_copy_124 ?_
                    refine va_get (D := D) (ci := 5) (v := .ref (an3 0)) (C := RX5) (T := TX5) (N := 3) hx hb hu inX5 hown hK.1 hP 9 rfl rfl 2 (by decide) (hu _ q291) (fun _ h9 => h9) rfl dX7_copy_125 ?_
                    refine lv_iload_n hx hb dX7_copy_128 rfl (lv_at hl 2 rfl) ?_
                    refine lv_aload_n hx hb dX7_copy_129 rfl (lv_at hl 0 rfl) ?_
                    refine va_get (D := D) (ci := 7) (v := .ref (asa 0)) (C := RX7) (T := TX7) (N := 8) hx hb hu inX7 hown hK.1 hP 0 rfl rfl 5 (by decide) (hu _ q305) (fun _ h9 => h9) rfl dX7_copy_130 ?_
                    refine lv_iload_n hx hb dX7_copy_133 rfl (lv_at hl 3 rfl) ?_
                    refine sa_lit (e := ag3 0) hx hb hK hP 2 rfl (k := 3) (by rw [hc272]; decide) rfl dX7_copy_134 ?_
                    refine va_get (D := D) (ci := 5) (v := .ref (an3 0)) (C := RX5) (T := TX5) (N := 3) hx hb hu inX5 hown hK.1 hP 9 rfl rfl 2 (by decide) (hu _ q291) (fun _ h9 => h9) rfl dX7_copy_135 ?_
                    refine lv_iload hx hb dX7_copy_138 (lv_at hl 4 rfl) ?_
                    refine lv_iload hx hb dX7_copy_140 (lv_at hl 5 rfl) ?_
                    obtain ⟨hq284, hf⟩ := cp_el hf
                    obtain ⟨N3_283, hN3_283, hf⟩ := lt_el hf
                    refine va_copyl hx hb (hml.trans hl.1.symm) hown (hu _ q874) (hu _ q431) (hu _ q430) (hu _ q63) hK.1 hP hD hS 10 10 1 1 rfl rfl rfl rfl rfl hq284.1 hq284.2.1 hq284.2.2.1 hq284.2.2.2.1 hq284.2.2.2.2 (fun _ _ => rfl) (Nat.le_of_ble_eq_true rfl) (Nat.le_of_ble_eq_true rfl) dX7_copy_142 (fun H locs hP hD hS => ?_)
                    have hP : va_P D vwCl ((kX7 cs ama (.ref (are 0)) (.ref (are2 0)) (.ref (are3 0)) (.ref (ach 0)) (.ref (ata 0)) (.ref (asa 0)) Ma) ++ ((kSA cs asa (ag0 0) (ag1 0) (ag2 0) (ag3 0)) ++ ((kX5 cs ag0 (.ref (an0 0)) G0) ++ ((kJ40 cs an0 N0) ++ ((kX5 cs ag1 (.ref (an1 0)) G1) ++ ((kJ40 cs an1 N1) ++ ((kX5 cs ag2 (.ref (an2 0)) G2) ++ ((kJ40 cs an2 N2) ++ ((kX5 cs ag3 (.ref (an3 0)) G3) ++ ((kJ40 cs an3 N3_283))))))))))) H := by rw [hN3_283]; exact hP
                    have hD : va_D A ((kX7 cs ama (.ref (are 0)) (.ref (are2 0)) (.ref (are3 0)) (.ref (ach 0)) (.ref (ata 0)) (.ref (asa 0)) Ma) ++ ((kSA cs asa (ag0 0) (ag1 0) (ag2 0) (ag3 0)) ++ ((kX5 cs ag0 (.ref (an0 0)) G0) ++ ((kJ40 cs an0 N0) ++ ((kX5 cs ag1 (.ref (an1 0)) G1) ++ ((kJ40 cs an1 N1) ++ ((kX5 cs ag2 (.ref (an2 0)) G2) ++ ((kJ40 cs an2 N2) ++ ((kX5 cs ag3 (.ref (an3 0)) G3) ++ ((kJ40 cs an3 N3_283))))))))))) := by rw [hN3_283]; exact hD
                    refine lv_iload hx hb dX7_copy_145 (lv_at hl 5 rfl) ?_
                    have he := Option.some.inj hf
                    obtain ⟨e0, ht0⟩ := Prod.mk.inj he
                    obtain ⟨e1, ht1⟩ := Prod.mk.inj ht0
                    obtain ⟨e2, ht2⟩ := Prod.mk.inj ht1
                    obtain ⟨e3, ht3⟩ := Prod.mk.inj ht2
                    obtain ⟨e4, e5⟩ := Prod.mk.inj ht3
                    exact hri _ _ _ rfl (congrArg (fun z => some (Value.int z)) e0.symm) dX7_copy_147 _ _ _ (by rw [e1, e2, e3, e4, e5]) hP hD hS
                  · have hf := ip_el hc282 hf
                    exact h112 Ma N0 N1 N2 N3 _ _ _ hP hD hS (lv_sub hl [0] rfl) hf
              · have hf := in_el hc276 hf
                refine lv_aload_n hx hb dX7_copy_74 rfl (lv_at hl 0 rfl) ?_
                refine lv_ldc (v := (-1000000003)) hx hb hown (hu _ q465) dX7_copy_75 ?_
                obtain ⟨r285, Ma_286, hg287, hf⟩ := b2_el hf
                refine cc_V (w' := ((kX7 cs ama (.ref (are 0)) (.ref (are2 0)) (.ref (are3 0)) (.ref (ach 0)) (.ref (ata 0)) (.ref (asa 0)) Ma_286) ++ ((kSA cs asa (ag0 0) (ag1 0) (ag2 0) (ag3 0)) ++ ((kX5 cs ag0 (.ref (an0 0)) G0) ++ ((kJ40 cs an0 N0) ++ ((kX5 cs ag1 (.ref (an1 0)) G1) ++ ((kJ40 cs an1 N1) ++ ((kX5 cs ag2 (.ref (an2 0)) G2) ++ ((kJ40 cs an2 N2) ++ ((kX5 cs ag3 (.ref (an3 0)) G3) ++ ((kJ40 cs an3 N3)))))))))))) (wr := ((kSA cs asa (ag0 0) (ag1 0) (ag2 0) (ag3 0)) ++ ((kX5 cs ag0 (.ref (an0 0)) G0) ++ ((kJ40 cs an0 N0) ++ ((kX5 cs ag1 (.ref (an1 0)) G1) ++ ((kJ40 cs an1 N1) ++ ((kX5 cs ag2 (.ref (an2 0)) G2) ++ ((kJ40 cs an2 N2) ++ ((kX5 cs ag3 (.ref (an3 0)) G3) ++ ((kJ40 cs an3 N3))))))))))) (st1 := [.int r285]) [.int (-1000000003)] hx hb hml hown hu (tX7_finding l D cs ama are are2 are3 ach ata asa (-1000000003) Ma r285 Ma_286 hg287) q339 q54 q336 q338 q0 pdX7_finding ⟨rfl, rfl, Nat.le_of_ble_eq_true rfl, Nat.le_of_ble_eq_true rfl⟩ hK hZ hP hD hS hA [0, 1] [2, 3, 4, 5, 6, 7, 8, 9, 10] [9, 10, 0, 1, 2, 3, 4, 5, 6, 7, 8] rfl rfl rfl rfl rfl rfl rfl rfl rfl rfl hl.1 rfl (Nat.le_of_ble_eq_true rfl) dX7_copy_77 rfl (fun H locs hP hD hS => ?_)
                have he := Option.some.inj hf
                obtain ⟨e0, ht0⟩ := Prod.mk.inj he
                obtain ⟨e1, ht1⟩ := Prod.mk.inj ht0
                obtain ⟨e2, ht2⟩ := Prod.mk.inj ht1
                obtain ⟨e3, ht3⟩ := Prod.mk.inj ht2
                obtain ⟨e4, e5⟩ := Prod.mk.inj ht3
                exact hri _ _ _ rfl (congrArg (fun z => some (Value.int z)) e0.symm) dX7_copy_80 _ _ _ (by rw [e1, e2, e3, e4, e5]) hP hD hS
            · have hf := in_el hc275 hf
              exact h45 Ma N0 N1 N2 N3 _ _ _ hP hD hS (lv_sub hl [0] rfl) hf
          have hf := in_el hc272 hf
          exact no_el hf
      have hf := in_el hc220 hf
      exact no_el hf
    · have hf := ip_el hc9 hf
      exact h14 Ma N0 N1 N2 N3 _ _ _ hP hD hS (lv_sub hl [0] rfl) hf
