def fL_law_23 (xs : Nat → Int32) (L : Nat) : Nat → Int32 → (St × (Nat → Int64)) → St → Option (Int32 × (St × (Nat → Int64)) × St)
  | 0, _, _, _ => none
  | n23 + 1, x4, z, v => (if ((nI L) - 7) < x4 then some (1, z, v) else gd (okI x4 L) (lt_ ((xs x4.toNatClampNeg) &&& 31) (fun sw => if sw = 0 then gd (okI (x4 + 1) L) (gd (okI (x4 + 2) L) (bndH (hL_number z (xs (x4 + 1).toNatClampNeg) (xs (x4 + 2).toNatClampNeg)) (fun r_7 z_8 => gd (okI (x4 + 1) L) (gd (okI (x4 + 2) L) (bnd (fX5_number v (xs (x4 + 1).toNatClampNeg) (xs (x4 + 2).toNatClampNeg)) (fun r_12 v_13 => bnd (fX5_thrown v_13) (fun r_15 v_16 => (if r_15 = r_7 then (if r_7 = 0 then gd (okI 0 1) ((if (z_8.2 (0 : Int32).toNatClampNeg) = (r_12.toInt64) then lt_ (x4 + 7) (fun x4_22 => fL_law_23 xs L n23 x4_22 z_8 v_16) else some (0, z_8, v_16))) else lt_ (x4 + 7) (fun x4_19 => fL_law_23 xs L n23 x4_19 z_8 v_16)) else some (0, z_8, v_16))))))))) else if sw = 1 then gd (okI (x4 + 1) L) (gd (okI (x4 + 2) L) (bndH (hL_text z ((lshl_ ((xs (x4 + 1).toNatClampNeg).toInt64) 32) ||| (((xs (x4 + 2).toNatClampNeg).toInt64) &&& 4294967295))) (fun r_27 z_28 => gd (okI (x4 + 1) L) (gd (okI (x4 + 2) L) (bnd (fX5_text v ((lshl_ ((xs (x4 + 1).toNatClampNeg).toInt64) 32) ||| (((xs (x4 + 2).toNatClampNeg).toInt64) &&& 4294967295))) (fun r_32 v_33 => bnd (fX5_thrown v_33) (fun r_35 v_36 => (if r_35 = r_27 then (if r_27 = 0 then gd (okI 0 1) ((if (z_28.2 (0 : Int32).toNatClampNeg) = (r_32.toInt64) then lt_ (x4 + 7) (fun x4_42 => fL_law_23 xs L n23 x4_42 z_28 v_36) else some (0, z_28, v_36))) else lt_ (x4 + 7) (fun x4_39 => fL_law_23 xs L n23 x4_39 z_28 v_36)) else some (0, z_28, v_36))))))))) else if sw = 2 then gd (okI (x4 + 1) L) (gd (okI (x4 + 2) L) (gd (okI (x4 + 3) L) (bndH (hL_row z (xs (x4 + 1).toNatClampNeg) (xs (x4 + 2).toNatClampNeg) (xs (x4 + 3).toNatClampNeg)) (fun r_48 z_49 => gd (okI (x4 + 1) L) (gd (okI (x4 + 2) L) (gd (okI (x4 + 3) L) (bnd (fX5_row v (xs (x4 + 1).toNatClampNeg) (xs (x4 + 2).toNatClampNeg) (xs (x4 + 3).toNatClampNeg)) (fun r_54 v_55 => bnd (fX5_thrown v_55) (fun r_57 v_58 => (if r_57 = r_48 then (if r_48 = 0 then gd (okI 0 1) ((if (z_49.2 (0 : Int32).toNatClampNeg) = (r_54.toInt64) then lt_ (x4 + 7) (fun x4_64 => fL_law_23 xs L n23 x4_64 z_49 v_58) else some (0, z_49, v_58))) else lt_ (x4 + 7) (fun x4_61 => fL_law_23 xs L n23 x4_61 z_49 v_58)) else some (0, z_49, v_58))))))))))) else if sw = 3 then gd (okI (x4 + 1) L) (bndH (hL_by z (xs (x4 + 1).toNatClampNeg)) (fun r_68 z_69 => gd (okI (x4 + 1) L) (bnd (fX5_by v (xs (x4 + 1).toNatClampNeg)) (fun r_72 v_73 => bnd (fX5_thrown v_73) (fun r_75 v_76 => (if r_75 = r_68 then (if r_68 = 0 then gd (okI 0 1) ((if (z_69.2 (0 : Int32).toNatClampNeg) = (r_72.toInt64) then lt_ (x4 + 7) (fun x4_82 => fL_law_23 xs L n23 x4_82 z_69 v_76) else some (0, z_69, v_76))) else lt_ (x4 + 7) (fun x4_79 => fL_law_23 xs L n23 x4_79 z_69 v_76)) else some (0, z_69, v_76))))))) else if sw = 4 then gd (okI (x4 + 1) L) (bndH (hL_separator z (xs (x4 + 1).toNatClampNeg)) (fun r_86 z_87 => gd (okI (x4 + 1) L) (bnd (fX5_separator v (xs (x4 + 1).toNatClampNeg)) (fun r_90 v_91 => bnd (fX5_thrown v_91) (fun r_93 v_94 => (if r_93 = r_86 then (if r_86 = 0 then gd (okI 0 1) ((if (z_87.2 (0 : Int32).toNatClampNeg) = (r_90.toInt64) then lt_ (x4 + 7) (fun x4_100 => fL_law_23 xs L n23 x4_100 z_87 v_94) else some (0, z_87, v_94))) else lt_ (x4 + 7) (fun x4_97 => fL_law_23 xs L n23 x4_97 z_87 v_94)) else some (0, z_87, v_94))))))) else if sw = 5 then gd (okI (x4 + 1) L) (bndH (hL_own z (xs (x4 + 1).toNatClampNeg)) (fun r_104 z_105 => gd (okI (x4 + 1) L) (bnd (fX5_own v (xs (x4 + 1).toNatClampNeg)) (fun r_108 v_109 => bnd (fX5_thrown v_109) (fun r_111 v_112 => (if r_111 = r_104 then (if r_104 = 0 then gd (okI 0 1) ((if (z_105.2 (0 : Int32).toNatClampNeg) = (r_108.toInt64) then lt_ (x4 + 7) (fun x4_118 => fL_law_23 xs L n23 x4_118 z_105 v_112) else some (0, z_105, v_112))) else lt_ (x4 + 7) (fun x4_115 => fL_law_23 xs L n23 x4_115 z_105 v_112)) else some (0, z_105, v_112))))))) else if sw = 6 then gd (okI (x4 + 1) L) (gd (okI (x4 + 2) L) ((if (xs (x4 + 2).toNatClampNeg) = 0 then bndH (hL_run z (xs (x4 + 1).toNatClampNeg) 0) (fun r_124 z_125 => gd (okI (x4 + 1) L) (gd (okI (x4 + 2) L) ((if (xs (x4 + 2).toNatClampNeg) = 0 then bnd (fX5_run v (xs (x4 + 1).toNatClampNeg) 0) (fun r_130 v_131 => bnd (fX5_thrown v_131) (fun r_133 v_134 => (if r_133 = r_124 then (if r_124 = 0 then gd (okI 0 1) ((if (z_125.2 (0 : Int32).toNatClampNeg) = (r_130.toInt64) then lt_ (x4 + 7) (fun x4_140 => fL_law_23 xs L n23 x4_140 z_125 v_134) else some (0, z_125, v_134))) else lt_ (x4 + 7) (fun x4_137 => fL_law_23 xs L n23 x4_137 z_125 v_134)) else some (0, z_125, v_134)))) else bnd (fX5_run v (xs (x4 + 1).toNatClampNeg) 1) (fun r_142 v_143 => bnd (fX5_thrown v_143) (fun r_145 v_146 => (if r_145 = r_124 then (if r_124 = 0 then gd (okI 0 1) ((if (z_125.2 (0 : Int32).toNatClampNeg) = (r_142.toInt64) then lt_ (x4 + 7) (fun x4_152 => fL_law_23 xs L n23 x4_152 z_125 v_146) else some (0, z_125, v_146))) else lt_ (x4 + 7) (fun x4_149 => fL_law_23 xs L n23 x4_149 z_125 v_146)) else some (0, z_125, v_146)))))))) else bndH (hL_run z (xs (x4 + 1).toNatClampNeg) 1) (fun r_154 z_155 => gd (okI (x4 + 1) L) (gd (okI (x4 + 2) L) ((if (xs (x4 + 2).toNatClampNeg) = 0 then bnd (fX5_run v (xs (x4 + 1).toNatClampNeg) 0) (fun r_160 v_161 => bnd (fX5_thrown v_161) (fun r_163 v_164 => (if r_163 = r_154 then (if r_154 = 0 then gd (okI 0 1) ((if (z_155.2 (0 : Int32).toNatClampNeg) = (r_160.toInt64) then lt_ (x4 + 7) (fun x4_170 => fL_law_23 xs L n23 x4_170 z_155 v_164) else some (0, z_155, v_164))) else lt_ (x4 + 7) (fun x4_167 => fL_law_23 xs L n23 x4_167 z_155 v_164)) else some (0, z_155, v_164)))) else bnd (fX5_run v (xs (x4 + 1).toNatClampNeg) 1) (fun r_172 v_173 => bnd (fX5_thrown v_173) (fun r_175 v_176 => (if r_175 = r_154 then (if r_154 = 0 then gd (okI 0 1) ((if (z_155.2 (0 : Int32).toNatClampNeg) = (r_172.toInt64) then lt_ (x4 + 7) (fun x4_182 => fL_law_23 xs L n23 x4_182 z_155 v_176) else some (0, z_155, v_176))) else lt_ (x4 + 7) (fun x4_179 => fL_law_23 xs L n23 x4_179 z_155 v_176)) else some (0, z_155, v_176))))))))))) else if sw = 7 then gd (okI (x4 + 1) L) (bndH (hL_key z (xs (x4 + 1).toNatClampNeg)) (fun r_186 z_187 => gd (okI (x4 + 1) L) (bnd (fX5_key v (xs (x4 + 1).toNatClampNeg)) (fun r_190 v_191 => bnd (fX5_thrown v_191) (fun r_193 v_194 => (if r_193 = r_186 then (if r_186 = 0 then gd (okI 0 1) ((if (z_187.2 (0 : Int32).toNatClampNeg) = (r_190.toInt64) then lt_ (x4 + 7) (fun x4_200 => fL_law_23 xs L n23 x4_200 z_187 v_194) else some (0, z_187, v_194))) else lt_ (x4 + 7) (fun x4_197 => fL_law_23 xs L n23 x4_197 z_187 v_194)) else some (0, z_187, v_194))))))) else if sw = 8 then gd (okI (x4 + 1) L) (bndH (hL_rows z (xs (x4 + 1).toNatClampNeg)) (fun r_204 z_205 => gd (okI (x4 + 1) L) (bnd (fX5_rows v (xs (x4 + 1).toNatClampNeg)) (fun r_208 v_209 => bnd (fX5_thrown v_209) (fun r_211 v_212 => (if r_211 = r_204 then (if r_204 = 0 then gd (okI 0 1) ((if (z_205.2 (0 : Int32).toNatClampNeg) = (r_208.toInt64) then lt_ (x4 + 7) (fun x4_218 => fL_law_23 xs L n23 x4_218 z_205 v_212) else some (0, z_205, v_212))) else lt_ (x4 + 7) (fun x4_215 => fL_law_23 xs L n23 x4_215 z_205 v_212)) else some (0, z_205, v_212))))))) else if sw = 9 then gd (okI (x4 + 1) L) (bndH (hL_sort z (xs (x4 + 1).toNatClampNeg)) (fun r_222 z_223 => gd (okI (x4 + 1) L) (bnd (fX5_sort v (xs (x4 + 1).toNatClampNeg)) (fun r_226 v_227 => bnd (fX5_thrown v_227) (fun r_229 v_230 => (if r_229 = r_222 then (if r_222 = 0 then gd (okI 0 1) ((if (z_223.2 (0 : Int32).toNatClampNeg) = (r_226.toInt64) then lt_ (x4 + 7) (fun x4_236 => fL_law_23 xs L n23 x4_236 z_223 v_230) else some (0, z_223, v_230))) else lt_ (x4 + 7) (fun x4_233 => fL_law_23 xs L n23 x4_233 z_223 v_230)) else some (0, z_223, v_230))))))) else if sw = 10 then gd (okI (x4 + 1) L) (bndH (hL_why z (xs (x4 + 1).toNatClampNeg)) (fun r_240 z_241 => gd (okI (x4 + 1) L) (bnd (fX5_why v (xs (x4 + 1).toNatClampNeg)) (fun r_244 v_245 => bnd (fX5_thrown v_245) (fun r_247 v_248 => (if r_247 = r_240 then (if r_240 = 0 then gd (okI 0 1) ((if (z_241.2 (0 : Int32).toNatClampNeg) = (r_244.toInt64) then lt_ (x4 + 7) (fun x4_254 => fL_law_23 xs L n23 x4_254 z_241 v_248) else some (0, z_241, v_248))) else lt_ (x4 + 7) (fun x4_251 => fL_law_23 xs L n23 x4_251 z_241 v_248)) else some (0, z_241, v_248))))))) else if sw = 11 then gd (okI (x4 + 1) L) (gd (okI (x4 + 2) L) (bndH (hL_value z (xs (x4 + 1).toNatClampNeg) (xs (x4 + 2).toNatClampNeg)) (fun r_259 z_260 => gd (okI (x4 + 1) L) (gd (okI (x4 + 2) L) (bnd (fX5_value v (xs (x4 + 1).toNatClampNeg) (xs (x4 + 2).toNatClampNeg)) (fun r_264 v_265 => bnd (fX5_thrown v_265) (fun r_267 v_268 => (if r_267 = r_259 then (if r_259 = 0 then gd (okI 0 1) ((if (z_260.2 (0 : Int32).toNatClampNeg) = r_264 then lt_ (x4 + 7) (fun x4_274 => fL_law_23 xs L n23 x4_274 z_260 v_268) else some (0, z_260, v_268))) else lt_ (x4 + 7) (fun x4_271 => fL_law_23 xs L n23 x4_271 z_260 v_268)) else some (0, z_260, v_268))))))))) else if sw = 12 then gd (okI (x4 + 1) L) (bndH (hL_term z (xs (x4 + 1).toNatClampNeg)) (fun r_278 z_279 => gd (okI (x4 + 1) L) (bnd (fX5_term v (xs (x4 + 1).toNatClampNeg)) (fun r_282 v_283 => bnd (fX5_thrown v_283) (fun r_285 v_286 => (if r_285 = r_278 then (if r_278 = 0 then gd (okI 0 1) ((if (z_279.2 (0 : Int32).toNatClampNeg) = (r_282.toInt64) then lt_ (x4 + 7) (fun x4_292 => fL_law_23 xs L n23 x4_292 z_279 v_286) else some (0, z_279, v_286))) else lt_ (x4 + 7) (fun x4_289 => fL_law_23 xs L n23 x4_289 z_279 v_286)) else some (0, z_279, v_286))))))) else if sw = 13 then gd (okI (x4 + 1) L) (bndH (hL_length z (xs (x4 + 1).toNatClampNeg)) (fun r_296 z_297 => gd (okI (x4 + 1) L) (bnd (fX5_length v (xs (x4 + 1).toNatClampNeg)) (fun r_300 v_301 => bnd (fX5_thrown v_301) (fun r_303 v_304 => (if r_303 = r_296 then (if r_296 = 0 then gd (okI 0 1) ((if (z_297.2 (0 : Int32).toNatClampNeg) = (r_300.toInt64) then lt_ (x4 + 7) (fun x4_310 => fL_law_23 xs L n23 x4_310 z_297 v_304) else some (0, z_297, v_304))) else lt_ (x4 + 7) (fun x4_307 => fL_law_23 xs L n23 x4_307 z_297 v_304)) else some (0, z_297, v_304))))))) else if sw = 14 then gd (okI (x4 + 1) L) (gd (okI (x4 + 2) L) (bndH (hL_charAt z (xs (x4 + 1).toNatClampNeg) (xs (x4 + 2).toNatClampNeg)) (fun r_315 z_316 => gd (okI (x4 + 1) L) (gd (okI (x4 + 2) L) (bnd (fX5_charAt v (xs (x4 + 1).toNatClampNeg) (xs (x4 + 2).toNatClampNeg)) (fun r_320 v_321 => bnd (fX5_thrown v_321) (fun r_323 v_324 => (if r_323 = r_315 then (if r_315 = 0 then gd (okI 0 1) ((if (z_316.2 (0 : Int32).toNatClampNeg) = (r_320.toInt64) then lt_ (x4 + 7) (fun x4_330 => fL_law_23 xs L n23 x4_330 z_316 v_324) else some (0, z_316, v_324))) else lt_ (x4 + 7) (fun x4_327 => fL_law_23 xs L n23 x4_327 z_316 v_324)) else some (0, z_316, v_324))))))))) else if sw = 15 then gd (okI (x4 + 1) L) (gd (okI (x4 + 2) L) (gd (okI (x4 + 3) L) (gd (okI (x4 + 4) L) (gd (okI (x4 + 5) L) (gd (okI (x4 + 6) L) (bndH (hL_having z (xs (x4 + 1).toNatClampNeg) (xs (x4 + 2).toNatClampNeg) ((lshl_ ((xs (x4 + 3).toNatClampNeg).toInt64) 32) ||| (((xs (x4 + 4).toNatClampNeg).toInt64) &&& 4294967295)) ((lshl_ ((xs (x4 + 5).toNatClampNeg).toInt64) 32) ||| (((xs (x4 + 6).toNatClampNeg).toInt64) &&& 4294967295))) (fun r_339 z_340 => gd (okI (x4 + 1) L) (gd (okI (x4 + 2) L) (gd (okI (x4 + 3) L) (gd (okI (x4 + 4) L) (gd (okI (x4 + 5) L) (gd (okI (x4 + 6) L) (bnd (fX5_having v (xs (x4 + 1).toNatClampNeg) (xs (x4 + 2).toNatClampNeg) ((lshl_ ((xs (x4 + 3).toNatClampNeg).toInt64) 32) ||| (((xs (x4 + 4).toNatClampNeg).toInt64) &&& 4294967295)) ((lshl_ ((xs (x4 + 5).toNatClampNeg).toInt64) 32) ||| (((xs (x4 + 6).toNatClampNeg).toInt64) &&& 4294967295))) (fun r_348 v_349 => bnd (fX5_thrown v_349) (fun r_351 v_352 => (if r_351 = r_339 then (if r_339 = 0 then gd (okI 0 1) ((if r_348 = 0 then (if (z_340.2 (0 : Int32).toNatClampNeg) = 0 then lt_ (x4 + 7) (fun x4_359 => fL_law_23 xs L n23 x4_359 z_340 v_352) else some (0, z_340, v_352)) else (if (z_340.2 (0 : Int32).toNatClampNeg) = 1 then lt_ (x4 + 7) (fun x4_361 => fL_law_23 xs L n23 x4_361 z_340 v_352) else some (0, z_340, v_352)))) else lt_ (x4 + 7) (fun x4_355 => fL_law_23 xs L n23 x4_355 z_340 v_352)) else some (0, z_340, v_352))))))))))))))))) else if sw = 16 then gd (okI (x4 + 1) L) (bndH (hL_told z (xs (x4 + 1).toNatClampNeg)) (fun r_365 z_366 => gd (okI (x4 + 1) L) (bnd (fX5_told v (xs (x4 + 1).toNatClampNeg)) (fun r_369 v_370 => bnd (fX5_thrown v_370) (fun r_372 v_373 => (if r_372 = r_365 then (if r_365 = 0 then gd (okI 0 1) ((if (z_366.2 (0 : Int32).toNatClampNeg) = (r_369.toInt64) then lt_ (x4 + 7) (fun x4_379 => fL_law_23 xs L n23 x4_379 z_366 v_373) else some (0, z_366, v_373))) else lt_ (x4 + 7) (fun x4_376 => fL_law_23 xs L n23 x4_376 z_366 v_373)) else some (0, z_366, v_373))))))) else lt_ (x4 + 7) (fun x4_380 => fL_law_23 xs L n23 x4_380 z v))))
set_option maxHeartbeats 8000000 in
set_option maxRecDepth 100000 in
/-- the law's loop -/
theorem law_loop {p : Program} {e : Env} {s : State} {m : MethodId} {below : List Frame} {meth : Method} {c : Code} (l : Launch) (hst : l.stackTraces = false) {b L : Nat} {xs : Nat → Int32} (C0 : lw_At p s m meth c b L xs) (ad am : Nat → Nat) (aO : Nat) (ck : Nat → ClassId) (D : va_G) (tt : Nat) {zf : St × (Nat → Int64)} {vf : St} : ∀ (n23 j : Nat), j + n23 ≤ 600 → ∀ (x4 : Int32) (z : St × (Nat → Int64)) (v : St) (H : Heap) (locs : List Loc) (ls : Array Slot), fL_law_23 xs L n23 x4 z v = some (1, zf, vf) → CX (wApp (wApp (wA ad ck) (wO aO ck)) (wM am ck)) ck D tt (fun q : Nat => s.heap.size ≤ q) s (z, v) H locs → lv_has ls 8 [(0, .ref b), (1, .ref (ad 0)), (2, .ref (am 0)), (3, .ref aO), (4, .int x4)] → W p l e room_1 s m #[Value.ref b] below meth c H locs (45 + j) (8039 + 6 * j) (lw_Z below #[Value.ref b] s) (F0 m 23 ls []) := by
  obtain ⟨hx, hb, hr, hml, hown, hts0, hX, hbl, hlocks, hgv⟩ := id C0
  have hts := fun w h => hts0 w (wsL_law_in w h)
  have hbA : ¬ (fun q : Nat => s.heap.size ≤ q) b := Nat.not_le.mpr hbl
  intro n23
  induction n23 with
  | zero =>
    intro j hj x4 z v H locs ls hf
    have hf : (none : Option (Int32 × (St × (Nat → Int64)) × St)) = some (1, zf, vf) := hf
    cases hf
  | succ n23 ih23 =>
    intro j hj x4 z v H locs ls hf C hl
    rw [fL_law_23] at hf
    refine lv_iload hx hb dL_law_23 (lv_at hl 4 rfl) ?_
    refine lv_aload_n hx hb dL_law_25 rfl (lv_at hl 0 rfl) ?_
    refine va_slen hx hb hX hbl hbA C.2.2.2.1 dL_law_26 ?_
    refine lv_bipush (v := 7) hx hb dL_law_27 (by decide) ?_
    refine lv_isub hx hb dL_law_29 ?_
    refine lv_icmp_gt (tgt := 1310) hx hb dL_law_30 (by decide) (fun c_1 => ?_) (fun c_1 => ?_)
    · replace hf := (if_pos c_1).symm.trans hf
      refine lv_iconst (v := 1) hx hb dL_law_1310 (by decide) ?_
      refine va_forget (fun q hq => C.2.2.2.1.2.2 q hq) ?_
      refine W.widen (k := 1083) (n := 16315) (by omega) (by omega) ?_
      exact lw_ret hx hb hr hlocks dL_law_1311
    · replace hf := (if_neg c_1).symm.trans hf
      refine lv_aload_n hx hb dL_law_33 rfl (lv_at hl 0 rfl) ?_
      refine lv_iload hx hb dL_law_34 (lv_at hl 4 rfl) ?_
      obtain ⟨g_2, hf⟩ := gd_some hf
      refine va_sld hx hb hX hbl hbA C.2.2.2.1 (okI_in g_2) dL_law_36 ?_
      refine lv_bipush (v := 31) hx hb dL_law_37 (by decide) ?_
      refine lv_iand hx hb dL_law_39 ?_
      obtain ⟨sw, esw⟩ : ∃ z : Int32, z = ((xs x4.toNatClampNeg) &&& 31) := ⟨_, rfl⟩
      rw [← esw]
      replace hf := lt_at hf esw
      by_cases c_3 : sw = 0
      · replace hf := (if_pos c_3).symm.trans hf
        subst c_3
        refine lv_tableIn (tgt := 124) hx hb dL_law_40 (by decide) (by decide) (by rfl) (by decide) ?_
        refine lv_aload_n hx hb dL_law_124 rfl (lv_at hl 1 rfl) ?_
        refine lv_aload_n hx hb dL_law_125 rfl (lv_at hl 0 rfl) ?_
        refine lv_iload hx hb dL_law_126 (lv_at hl 4 rfl) ?_
        refine lv_iconst (v := 1) hx hb dL_law_128 (by decide) ?_
        refine lv_iadd hx hb dL_law_129 ?_
        obtain ⟨g_4, hf⟩ := gd_some hf
        refine va_sld hx hb hX hbl hbA C.2.2.2.1 (okI_in g_4) dL_law_130 ?_
        refine lv_aload_n hx hb dL_law_131 rfl (lv_at hl 0 rfl) ?_
        refine lv_iload hx hb dL_law_132 (lv_at hl 4 rfl) ?_
        refine lv_iconst (v := 2) hx hb dL_law_134 (by decide) ?_
        refine lv_iadd hx hb dL_law_135 ?_
        obtain ⟨g_5, hf⟩ := gd_some hf
        refine va_sld hx hb hX hbl hbA C.2.2.2.1 (okI_in g_5) dL_law_136 ?_
        refine lv_aload_n hx hb dL_law_137 rfl (lv_at hl 3 rfl) ?_
        obtain ⟨r_7, z_8, h_6, hf⟩ := bndH_some hf
        refine cl_calli C (vx_runSW (As := [.ref (ad 0), .int (xs (x4 + 1).toNatClampNeg), .int (xs (x4 + 2).toNatClampNeg), .ref aO]) (rest := []) ⟨hx, hb, hml, hown, hts⟩ (kk_L_number l ad aO ck D tt hst h_6 _) (vx_cwSW 4 hts gL_law_L_number rfl rfl rfl (by decide +kernel) ⟨Nat.le_of_ble_eq_true rfl, Nat.le_of_ble_eq_true rfl⟩) (cx_preS C.l) rfl rfl hl.1 rfl (lv_room (Nat.le_of_ble_eq_true rfl)) dL_law_138 ⟨by show 45 + j + 1 ≤ 1083; omega, by show 8039 + 6 * j + 6 ≤ 16315; omega⟩) (fun H locs C => ?_)
        refine W.widen (k := 45 + (j + 1)) (n := 8039 + 6 * (j + 1)) (by omega) (by omega) ?_
        refine lv_istore (lv' := [(5, .int r_7), (0, .ref b), (1, .ref (ad 0)), (2, .ref (am 0)), (3, .ref aO), (4, .int x4)]) hx hb dL_law_141 hl (by decide) rfl (fun ls hl => ?_)
        refine lv_aload_n hx hb dL_law_143 rfl (lv_at hl 3 rfl) ?_
        refine lv_aload_n hx hb dL_law_144 rfl (lv_at hl 1 rfl) ?_
        refine lv_iload hx hb dL_law_145 (lv_at hl 5 rfl) ?_
        refine lv_iconst (v := 1) hx hb dL_law_147 (by decide) ?_
        refine lv_iadd hx hb dL_law_148 ?_
        obtain ⟨g_9, hf⟩ := gd_some hf
        refine va_sld hx hb hX hbl hbA C.2.2.2.1 (okI_in g_9) dL_law_149 ?_
        refine lv_aload_n hx hb dL_law_150 rfl (lv_at hl 1 rfl) ?_
        refine lv_iload hx hb dL_law_151 (lv_at hl 5 rfl) ?_
        refine lv_iconst (v := 2) hx hb dL_law_153 (by decide) ?_
        refine lv_iadd hx hb dL_law_154 ?_
        obtain ⟨g_10, hf⟩ := gd_some hf
        refine va_sld hx hb hX hbl hbA C.2.2.2.1 (okI_in g_10) dL_law_155 ?_
        obtain ⟨r_12, v_13, h_11, hf⟩ := bnd_some hf
        refine cr_calli C (va_runV (As := [.int (xs (x4 + 1).toNatClampNeg), .int (xs (x4 + 2).toNatClampNeg)]) (rest := []) ⟨hx, hb, hml, hown, hts⟩ (k_X5_number l am ck D tt h_11 _) (cwV 2 hts gL_law_X5_number rfl rfl rfl (by decide +kernel) ⟨Nat.le_of_ble_eq_true rfl, Nat.le_of_ble_eq_true rfl⟩) (cx_preV C.r (q0 := 0) (ci := 5) rfl rfl) rfl rfl hl.1 rfl (lv_room (Nat.le_of_ble_eq_true rfl)) dL_law_156 ⟨by show 45 + (j + 1) + 0 ≤ 1083; omega, by show 8039 + 6 * (j + 1) + 0 ≤ 16315; omega⟩) (fun H locs C => ?_)
        refine lv_istore (lv' := [(6, .int r_12), (5, .int r_7), (0, .ref b), (1, .ref (ad 0)), (2, .ref (am 0)), (3, .ref aO), (4, .int x4)]) hx hb dL_law_159 hl (by decide) rfl (fun ls hl => ?_)
        refine lv_aload_n hx hb dL_law_161 rfl (lv_at hl 4 rfl) ?_
        obtain ⟨r_15, v_16, h_14, hf⟩ := bnd_some hf
        refine cr_calli C (va_runV (As := []) (rest := []) ⟨hx, hb, hml, hown, hts⟩ (k_X5_thrown l am ck D tt h_14 _) (cwV 0 hts gL_law_X5_thrown rfl rfl rfl (by decide +kernel) ⟨Nat.le_of_ble_eq_true rfl, Nat.le_of_ble_eq_true rfl⟩) (cx_preV C.r (q0 := 0) (ci := 5) rfl rfl) rfl rfl hl.1 rfl (lv_room (Nat.le_of_ble_eq_true rfl)) dL_law_162 ⟨by show 45 + (j + 1) + 0 ≤ 1083; omega, by show 8039 + 6 * (j + 1) + 0 ≤ 16315; omega⟩) (fun H locs C => ?_)
        refine lv_iload hx hb dL_law_165 (lv_at hl 1 rfl) ?_
        refine lv_icmp_eq (tgt := 172) hx hb dL_law_167 (by decide) (fun c_17 => ?_) (fun c_17 => ?_)
        · replace hf := (if_pos c_17).symm.trans hf
          refine lv_iload hx hb dL_law_172 (lv_at hl 1 rfl) ?_
          refine lv_if_ne (tgt := 189) hx hb dL_law_174 (by decide) (fun c_18 => ?_) (fun c_18 => ?_)
          · replace hf := (if_neg c_18).symm.trans hf
            refine lv_goto (tgt := 1304) hx hb dL_law_189 (by decide) ?_
            obtain ⟨x4_19, ex4_19⟩ : ∃ y : Int32, y = x4 + 7 := ⟨_, rfl⟩
            replace hf := lt_at hf ex4_19
            refine lv_iinc (v := x4_19) (lv' := [(4, .int x4_19), (6, .int r_12), (5, .int r_7), (0, .ref b), (1, .ref (ad 0)), (2, .ref (am 0)), (3, .ref aO)]) hx hb dL_law_1304 hl (k := 6) rfl (by rw [ex4_19]; rfl) (by decide) rfl (fun ls hl => ?_)
            refine lv_goto (tgt := 23) hx hb dL_law_1307 (by decide) ?_
            refine W.widen (k := 45 + (j + 1)) (n := 8039 + 6 * (j + 1)) (by omega) (by omega) ?_
            exact ih23 (j + 1) (by omega) x4_19 _ _ _ _ _ hf C (lv_sub hl [3, 4, 5, 6, 0] rfl)
          · replace hf := (if_pos c_18).symm.trans hf
            refine lv_aload_n hx hb dL_law_177 rfl (lv_at hl 5 rfl) ?_
            refine lv_iconst (v := 0) hx hb dL_law_178 (by decide) ?_
            obtain ⟨g_20, hf⟩ := gd_some hf
            refine cx_lald C hx hb 23 rfl g_20 dL_law_179 ?_
            refine lv_iload hx hb dL_law_180 (lv_at hl 0 rfl) ?_
            refine lv_i2l hx hb dL_law_182 rfl ?_
            refine W.lcmp hx hb dL_law_183 ?_
            refine lv_if_eq (tgt := 189) hx hb dL_law_184 (by decide) (fun c_21 => ?_) (fun c_21 => ?_)
            · replace hf := (if_pos ((lg_cmp_eq _ _).mp c_21)).symm.trans hf
              refine lv_goto (tgt := 1304) hx hb dL_law_189 (by decide) ?_
              obtain ⟨x4_22, ex4_22⟩ : ∃ y : Int32, y = x4 + 7 := ⟨_, rfl⟩
              replace hf := lt_at hf ex4_22
              refine lv_iinc (v := x4_22) (lv' := [(4, .int x4_22), (6, .int r_12), (5, .int r_7), (0, .ref b), (1, .ref (ad 0)), (2, .ref (am 0)), (3, .ref aO)]) hx hb dL_law_1304 hl (k := 6) rfl (by rw [ex4_22]; rfl) (by decide) rfl (fun ls hl => ?_)
              refine lv_goto (tgt := 23) hx hb dL_law_1307 (by decide) ?_
              refine W.widen (k := 45 + (j + 1)) (n := 8039 + 6 * (j + 1)) (by omega) (by omega) ?_
              exact ih23 (j + 1) (by omega) x4_22 _ _ _ _ _ hf C (lv_sub hl [3, 4, 5, 6, 0] rfl)
            · replace hf := (if_neg (fun q => c_21 ((lg_cmp_eq _ _).mpr q))).symm.trans hf
              refine lv_iconst (v := 0) hx hb dL_law_187 (by decide) ?_
              cases hf
        · replace hf := (if_neg c_17).symm.trans hf
          refine lv_iconst (v := 0) hx hb dL_law_170 (by decide) ?_
          cases hf
      replace hf := (if_neg c_3).symm.trans hf
      by_cases c_23 : sw = 1
      · replace hf := (if_pos c_23).symm.trans hf
        subst c_23
        refine lv_tableIn (tgt := 192) hx hb dL_law_40 (by decide) (by decide) (by rfl) (by decide) ?_
        refine lv_aload_n hx hb dL_law_192 rfl (lv_at hl 1 rfl) ?_
        refine lv_aload_n hx hb dL_law_193 rfl (lv_at hl 0 rfl) ?_
        refine lv_iload hx hb dL_law_194 (lv_at hl 4 rfl) ?_
        refine lv_iconst (v := 1) hx hb dL_law_196 (by decide) ?_
        refine lv_iadd hx hb dL_law_197 ?_
        obtain ⟨g_24, hf⟩ := gd_some hf
        refine va_sld hx hb hX hbl hbA C.2.2.2.1 (okI_in g_24) dL_law_198 ?_
        refine lv_i2l hx hb dL_law_199 rfl ?_
        refine lv_bipush (v := 32) hx hb dL_law_200 (by decide) ?_
        refine lv_lshl (v := (lshl_ ((xs (x4 + 1).toNatClampNeg).toInt64) 32)) hx hb dL_law_202 rfl ?_
        refine lv_aload_n hx hb dL_law_203 rfl (lv_at hl 0 rfl) ?_
        refine lv_iload hx hb dL_law_204 (lv_at hl 4 rfl) ?_
        refine lv_iconst (v := 2) hx hb dL_law_206 (by decide) ?_
        refine lv_iadd hx hb dL_law_207 ?_
        obtain ⟨g_25, hf⟩ := gd_some hf
        refine va_sld hx hb hX hbl hbA C.2.2.2.1 (okI_in g_25) dL_law_208 ?_
        refine lv_i2l hx hb dL_law_209 rfl ?_
        refine lv_ldc2 (v := 4294967295) hx hb hown (hts (.constantLong RL 87 (4294967295)) (by decide +kernel)) dL_law_210 ?_
        refine lv_land hx hb dL_law_213 ?_
        refine lv_lor hx hb dL_law_214 ?_
        refine lv_aload_n hx hb dL_law_215 rfl (lv_at hl 3 rfl) ?_
        obtain ⟨r_27, z_28, h_26, hf⟩ := bndH_some hf
        refine cl_calli C (vx_runSW (As := [.ref (ad 0), .long ((lshl_ ((xs (x4 + 1).toNatClampNeg).toInt64) 32) ||| (((xs (x4 + 2).toNatClampNeg).toInt64) &&& 4294967295)), .ref aO]) (rest := []) ⟨hx, hb, hml, hown, hts⟩ (kk_L_text l ad aO ck D tt hst h_26 _) (vx_cwSW 3 hts gL_law_L_text rfl rfl rfl (by decide +kernel) ⟨Nat.le_of_ble_eq_true rfl, Nat.le_of_ble_eq_true rfl⟩) (cx_preS C.l) rfl rfl hl.1 rfl (lv_room (Nat.le_of_ble_eq_true rfl)) dL_law_216 ⟨by show 45 + j + 1 ≤ 1083; omega, by show 8039 + 6 * j + 6 ≤ 16315; omega⟩) (fun H locs C => ?_)
        refine W.widen (k := 45 + (j + 1)) (n := 8039 + 6 * (j + 1)) (by omega) (by omega) ?_
        refine lv_istore (lv' := [(5, .int r_27), (0, .ref b), (1, .ref (ad 0)), (2, .ref (am 0)), (3, .ref aO), (4, .int x4)]) hx hb dL_law_219 hl (by decide) rfl (fun ls hl => ?_)
        refine lv_aload_n hx hb dL_law_221 rfl (lv_at hl 3 rfl) ?_
        refine lv_aload_n hx hb dL_law_222 rfl (lv_at hl 1 rfl) ?_
        refine lv_iload hx hb dL_law_223 (lv_at hl 5 rfl) ?_
        refine lv_iconst (v := 1) hx hb dL_law_225 (by decide) ?_
        refine lv_iadd hx hb dL_law_226 ?_
        obtain ⟨g_29, hf⟩ := gd_some hf
        refine va_sld hx hb hX hbl hbA C.2.2.2.1 (okI_in g_29) dL_law_227 ?_
        refine lv_i2l hx hb dL_law_228 rfl ?_
        refine lv_bipush (v := 32) hx hb dL_law_229 (by decide) ?_
        refine lv_lshl (v := (lshl_ ((xs (x4 + 1).toNatClampNeg).toInt64) 32)) hx hb dL_law_231 rfl ?_
        refine lv_aload_n hx hb dL_law_232 rfl (lv_at hl 1 rfl) ?_
        refine lv_iload hx hb dL_law_233 (lv_at hl 5 rfl) ?_
        refine lv_iconst (v := 2) hx hb dL_law_235 (by decide) ?_
        refine lv_iadd hx hb dL_law_236 ?_
        obtain ⟨g_30, hf⟩ := gd_some hf
        refine va_sld hx hb hX hbl hbA C.2.2.2.1 (okI_in g_30) dL_law_237 ?_
        refine lv_i2l hx hb dL_law_238 rfl ?_
        refine lv_ldc2 (v := 4294967295) hx hb hown (hts (.constantLong RL 87 (4294967295)) (by decide +kernel)) dL_law_239 ?_
        refine lv_land hx hb dL_law_242 ?_
        refine lv_lor hx hb dL_law_243 ?_
        obtain ⟨r_32, v_33, h_31, hf⟩ := bnd_some hf
        refine cr_calli C (va_runV (As := [.long ((lshl_ ((xs (x4 + 1).toNatClampNeg).toInt64) 32) ||| (((xs (x4 + 2).toNatClampNeg).toInt64) &&& 4294967295))]) (rest := []) ⟨hx, hb, hml, hown, hts⟩ (k_X5_text l am ck D tt h_31 _) (cwV 1 hts gL_law_X5_text rfl rfl rfl (by decide +kernel) ⟨Nat.le_of_ble_eq_true rfl, Nat.le_of_ble_eq_true rfl⟩) (cx_preV C.r (q0 := 0) (ci := 5) rfl rfl) rfl rfl hl.1 rfl (lv_room (Nat.le_of_ble_eq_true rfl)) dL_law_244 ⟨by show 45 + (j + 1) + 0 ≤ 1083; omega, by show 8039 + 6 * (j + 1) + 0 ≤ 16315; omega⟩) (fun H locs C => ?_)
        refine lv_istore (lv' := [(6, .int r_32), (5, .int r_27), (0, .ref b), (1, .ref (ad 0)), (2, .ref (am 0)), (3, .ref aO), (4, .int x4)]) hx hb dL_law_247 hl (by decide) rfl (fun ls hl => ?_)
        refine lv_aload_n hx hb dL_law_249 rfl (lv_at hl 4 rfl) ?_
        obtain ⟨r_35, v_36, h_34, hf⟩ := bnd_some hf
        refine cr_calli C (va_runV (As := []) (rest := []) ⟨hx, hb, hml, hown, hts⟩ (k_X5_thrown l am ck D tt h_34 _) (cwV 0 hts gL_law_X5_thrown rfl rfl rfl (by decide +kernel) ⟨Nat.le_of_ble_eq_true rfl, Nat.le_of_ble_eq_true rfl⟩) (cx_preV C.r (q0 := 0) (ci := 5) rfl rfl) rfl rfl hl.1 rfl (lv_room (Nat.le_of_ble_eq_true rfl)) dL_law_250 ⟨by show 45 + (j + 1) + 0 ≤ 1083; omega, by show 8039 + 6 * (j + 1) + 0 ≤ 16315; omega⟩) (fun H locs C => ?_)
        refine lv_iload hx hb dL_law_253 (lv_at hl 1 rfl) ?_
        refine lv_icmp_eq (tgt := 260) hx hb dL_law_255 (by decide) (fun c_37 => ?_) (fun c_37 => ?_)
        · replace hf := (if_pos c_37).symm.trans hf
          refine lv_iload hx hb dL_law_260 (lv_at hl 1 rfl) ?_
          refine lv_if_ne (tgt := 277) hx hb dL_law_262 (by decide) (fun c_38 => ?_) (fun c_38 => ?_)
          · replace hf := (if_neg c_38).symm.trans hf
            refine lv_goto (tgt := 1304) hx hb dL_law_277 (by decide) ?_
            obtain ⟨x4_39, ex4_39⟩ : ∃ y : Int32, y = x4 + 7 := ⟨_, rfl⟩
            replace hf := lt_at hf ex4_39
            refine lv_iinc (v := x4_39) (lv' := [(4, .int x4_39), (6, .int r_32), (5, .int r_27), (0, .ref b), (1, .ref (ad 0)), (2, .ref (am 0)), (3, .ref aO)]) hx hb dL_law_1304 hl (k := 6) rfl (by rw [ex4_39]; rfl) (by decide) rfl (fun ls hl => ?_)
            refine lv_goto (tgt := 23) hx hb dL_law_1307 (by decide) ?_
            refine W.widen (k := 45 + (j + 1)) (n := 8039 + 6 * (j + 1)) (by omega) (by omega) ?_
            exact ih23 (j + 1) (by omega) x4_39 _ _ _ _ _ hf C (lv_sub hl [3, 4, 5, 6, 0] rfl)
          · replace hf := (if_pos c_38).symm.trans hf
            refine lv_aload_n hx hb dL_law_265 rfl (lv_at hl 5 rfl) ?_
            refine lv_iconst (v := 0) hx hb dL_law_266 (by decide) ?_
            obtain ⟨g_40, hf⟩ := gd_some hf
            refine cx_lald C hx hb 23 rfl g_40 dL_law_267 ?_
            refine lv_iload hx hb dL_law_268 (lv_at hl 0 rfl) ?_
            refine lv_i2l hx hb dL_law_270 rfl ?_
            refine W.lcmp hx hb dL_law_271 ?_
            refine lv_if_eq (tgt := 277) hx hb dL_law_272 (by decide) (fun c_41 => ?_) (fun c_41 => ?_)
            · replace hf := (if_pos ((lg_cmp_eq _ _).mp c_41)).symm.trans hf
              refine lv_goto (tgt := 1304) hx hb dL_law_277 (by decide) ?_
              obtain ⟨x4_42, ex4_42⟩ : ∃ y : Int32, y = x4 + 7 := ⟨_, rfl⟩
              replace hf := lt_at hf ex4_42
              refine lv_iinc (v := x4_42) (lv' := [(4, .int x4_42), (6, .int r_32), (5, .int r_27), (0, .ref b), (1, .ref (ad 0)), (2, .ref (am 0)), (3, .ref aO)]) hx hb dL_law_1304 hl (k := 6) rfl (by rw [ex4_42]; rfl) (by decide) rfl (fun ls hl => ?_)
              refine lv_goto (tgt := 23) hx hb dL_law_1307 (by decide) ?_
              refine W.widen (k := 45 + (j + 1)) (n := 8039 + 6 * (j + 1)) (by omega) (by omega) ?_
              exact ih23 (j + 1) (by omega) x4_42 _ _ _ _ _ hf C (lv_sub hl [3, 4, 5, 6, 0] rfl)
            · replace hf := (if_neg (fun q => c_41 ((lg_cmp_eq _ _).mpr q))).symm.trans hf
              refine lv_iconst (v := 0) hx hb dL_law_275 (by decide) ?_
              cases hf
        · replace hf := (if_neg c_37).symm.trans hf
          refine lv_iconst (v := 0) hx hb dL_law_258 (by decide) ?_
          cases hf
      replace hf := (if_neg c_23).symm.trans hf
      by_cases c_43 : sw = 2
      · replace hf := (if_pos c_43).symm.trans hf
        subst c_43
        refine lv_tableIn (tgt := 280) hx hb dL_law_40 (by decide) (by decide) (by rfl) (by decide) ?_
        refine lv_aload_n hx hb dL_law_280 rfl (lv_at hl 1 rfl) ?_
        refine lv_aload_n hx hb dL_law_281 rfl (lv_at hl 0 rfl) ?_
        refine lv_iload hx hb dL_law_282 (lv_at hl 4 rfl) ?_
        refine lv_iconst (v := 1) hx hb dL_law_284 (by decide) ?_
        refine lv_iadd hx hb dL_law_285 ?_
        obtain ⟨g_44, hf⟩ := gd_some hf
        refine va_sld hx hb hX hbl hbA C.2.2.2.1 (okI_in g_44) dL_law_286 ?_
        refine lv_aload_n hx hb dL_law_287 rfl (lv_at hl 0 rfl) ?_
        refine lv_iload hx hb dL_law_288 (lv_at hl 4 rfl) ?_
        refine lv_iconst (v := 2) hx hb dL_law_290 (by decide) ?_
        refine lv_iadd hx hb dL_law_291 ?_
        obtain ⟨g_45, hf⟩ := gd_some hf
        refine va_sld hx hb hX hbl hbA C.2.2.2.1 (okI_in g_45) dL_law_292 ?_
        refine lv_aload_n hx hb dL_law_293 rfl (lv_at hl 0 rfl) ?_
        refine lv_iload hx hb dL_law_294 (lv_at hl 4 rfl) ?_
        refine lv_iconst (v := 3) hx hb dL_law_296 (by decide) ?_
        refine lv_iadd hx hb dL_law_297 ?_
        obtain ⟨g_46, hf⟩ := gd_some hf
        refine va_sld hx hb hX hbl hbA C.2.2.2.1 (okI_in g_46) dL_law_298 ?_
        refine lv_aload_n hx hb dL_law_299 rfl (lv_at hl 3 rfl) ?_
        obtain ⟨r_48, z_49, h_47, hf⟩ := bndH_some hf
        refine cl_calli C (vx_runSW (As := [.ref (ad 0), .int (xs (x4 + 1).toNatClampNeg), .int (xs (x4 + 2).toNatClampNeg), .int (xs (x4 + 3).toNatClampNeg), .ref aO]) (rest := []) ⟨hx, hb, hml, hown, hts⟩ (kk_L_row l ad aO ck D tt hst h_47 _) (vx_cwSW 5 hts gL_law_L_row rfl rfl rfl (by decide +kernel) ⟨Nat.le_of_ble_eq_true rfl, Nat.le_of_ble_eq_true rfl⟩) (cx_preS C.l) rfl rfl hl.1 rfl (lv_room (Nat.le_of_ble_eq_true rfl)) dL_law_300 ⟨by show 45 + j + 1 ≤ 1083; omega, by show 8039 + 6 * j + 6 ≤ 16315; omega⟩) (fun H locs C => ?_)
        refine W.widen (k := 45 + (j + 1)) (n := 8039 + 6 * (j + 1)) (by omega) (by omega) ?_
        refine lv_istore (lv' := [(5, .int r_48), (0, .ref b), (1, .ref (ad 0)), (2, .ref (am 0)), (3, .ref aO), (4, .int x4)]) hx hb dL_law_303 hl (by decide) rfl (fun ls hl => ?_)
        refine lv_aload_n hx hb dL_law_305 rfl (lv_at hl 3 rfl) ?_
        refine lv_aload_n hx hb dL_law_306 rfl (lv_at hl 1 rfl) ?_
        refine lv_iload hx hb dL_law_307 (lv_at hl 5 rfl) ?_
        refine lv_iconst (v := 1) hx hb dL_law_309 (by decide) ?_
        refine lv_iadd hx hb dL_law_310 ?_
        obtain ⟨g_50, hf⟩ := gd_some hf
        refine va_sld hx hb hX hbl hbA C.2.2.2.1 (okI_in g_50) dL_law_311 ?_
        refine lv_aload_n hx hb dL_law_312 rfl (lv_at hl 1 rfl) ?_
        refine lv_iload hx hb dL_law_313 (lv_at hl 5 rfl) ?_
        refine lv_iconst (v := 2) hx hb dL_law_315 (by decide) ?_
        refine lv_iadd hx hb dL_law_316 ?_
        obtain ⟨g_51, hf⟩ := gd_some hf
        refine va_sld hx hb hX hbl hbA C.2.2.2.1 (okI_in g_51) dL_law_317 ?_
        refine lv_aload_n hx hb dL_law_318 rfl (lv_at hl 1 rfl) ?_
        refine lv_iload hx hb dL_law_319 (lv_at hl 5 rfl) ?_
        refine lv_iconst (v := 3) hx hb dL_law_321 (by decide) ?_
        refine lv_iadd hx hb dL_law_322 ?_
        obtain ⟨g_52, hf⟩ := gd_some hf
        refine va_sld hx hb hX hbl hbA C.2.2.2.1 (okI_in g_52) dL_law_323 ?_
        obtain ⟨r_54, v_55, h_53, hf⟩ := bnd_some hf
        refine cr_calli C (va_runV (As := [.int (xs (x4 + 1).toNatClampNeg), .int (xs (x4 + 2).toNatClampNeg), .int (xs (x4 + 3).toNatClampNeg)]) (rest := []) ⟨hx, hb, hml, hown, hts⟩ (k_X5_row l am ck D tt h_53 _) (cwV 3 hts gL_law_X5_row rfl rfl rfl (by decide +kernel) ⟨Nat.le_of_ble_eq_true rfl, Nat.le_of_ble_eq_true rfl⟩) (cx_preV C.r (q0 := 0) (ci := 5) rfl rfl) rfl rfl hl.1 rfl (lv_room (Nat.le_of_ble_eq_true rfl)) dL_law_324 ⟨by show 45 + (j + 1) + 0 ≤ 1083; omega, by show 8039 + 6 * (j + 1) + 0 ≤ 16315; omega⟩) (fun H locs C => ?_)
        refine lv_istore (lv' := [(6, .int r_54), (5, .int r_48), (0, .ref b), (1, .ref (ad 0)), (2, .ref (am 0)), (3, .ref aO), (4, .int x4)]) hx hb dL_law_327 hl (by decide) rfl (fun ls hl => ?_)
        refine lv_aload_n hx hb dL_law_329 rfl (lv_at hl 4 rfl) ?_
        obtain ⟨r_57, v_58, h_56, hf⟩ := bnd_some hf
        refine cr_calli C (va_runV (As := []) (rest := []) ⟨hx, hb, hml, hown, hts⟩ (k_X5_thrown l am ck D tt h_56 _) (cwV 0 hts gL_law_X5_thrown rfl rfl rfl (by decide +kernel) ⟨Nat.le_of_ble_eq_true rfl, Nat.le_of_ble_eq_true rfl⟩) (cx_preV C.r (q0 := 0) (ci := 5) rfl rfl) rfl rfl hl.1 rfl (lv_room (Nat.le_of_ble_eq_true rfl)) dL_law_330 ⟨by show 45 + (j + 1) + 0 ≤ 1083; omega, by show 8039 + 6 * (j + 1) + 0 ≤ 16315; omega⟩) (fun H locs C => ?_)
        refine lv_iload hx hb dL_law_333 (lv_at hl 1 rfl) ?_
        refine lv_icmp_eq (tgt := 340) hx hb dL_law_335 (by decide) (fun c_59 => ?_) (fun c_59 => ?_)
        · replace hf := (if_pos c_59).symm.trans hf
          refine lv_iload hx hb dL_law_340 (lv_at hl 1 rfl) ?_
          refine lv_if_ne (tgt := 357) hx hb dL_law_342 (by decide) (fun c_60 => ?_) (fun c_60 => ?_)
          · replace hf := (if_neg c_60).symm.trans hf
            refine lv_goto (tgt := 1304) hx hb dL_law_357 (by decide) ?_
            obtain ⟨x4_61, ex4_61⟩ : ∃ y : Int32, y = x4 + 7 := ⟨_, rfl⟩
            replace hf := lt_at hf ex4_61
            refine lv_iinc (v := x4_61) (lv' := [(4, .int x4_61), (6, .int r_54), (5, .int r_48), (0, .ref b), (1, .ref (ad 0)), (2, .ref (am 0)), (3, .ref aO)]) hx hb dL_law_1304 hl (k := 6) rfl (by rw [ex4_61]; rfl) (by decide) rfl (fun ls hl => ?_)
            refine lv_goto (tgt := 23) hx hb dL_law_1307 (by decide) ?_
            refine W.widen (k := 45 + (j + 1)) (n := 8039 + 6 * (j + 1)) (by omega) (by omega) ?_
            exact ih23 (j + 1) (by omega) x4_61 _ _ _ _ _ hf C (lv_sub hl [3, 4, 5, 6, 0] rfl)
          · replace hf := (if_pos c_60).symm.trans hf
            refine lv_aload_n hx hb dL_law_345 rfl (lv_at hl 5 rfl) ?_
            refine lv_iconst (v := 0) hx hb dL_law_346 (by decide) ?_
            obtain ⟨g_62, hf⟩ := gd_some hf
            refine cx_lald C hx hb 23 rfl g_62 dL_law_347 ?_
            refine lv_iload hx hb dL_law_348 (lv_at hl 0 rfl) ?_
            refine lv_i2l hx hb dL_law_350 rfl ?_
            refine W.lcmp hx hb dL_law_351 ?_
            refine lv_if_eq (tgt := 357) hx hb dL_law_352 (by decide) (fun c_63 => ?_) (fun c_63 => ?_)
            · replace hf := (if_pos ((lg_cmp_eq _ _).mp c_63)).symm.trans hf
              refine lv_goto (tgt := 1304) hx hb dL_law_357 (by decide) ?_
              obtain ⟨x4_64, ex4_64⟩ : ∃ y : Int32, y = x4 + 7 := ⟨_, rfl⟩
              replace hf := lt_at hf ex4_64
              refine lv_iinc (v := x4_64) (lv' := [(4, .int x4_64), (6, .int r_54), (5, .int r_48), (0, .ref b), (1, .ref (ad 0)), (2, .ref (am 0)), (3, .ref aO)]) hx hb dL_law_1304 hl (k := 6) rfl (by rw [ex4_64]; rfl) (by decide) rfl (fun ls hl => ?_)
              refine lv_goto (tgt := 23) hx hb dL_law_1307 (by decide) ?_
              refine W.widen (k := 45 + (j + 1)) (n := 8039 + 6 * (j + 1)) (by omega) (by omega) ?_
              exact ih23 (j + 1) (by omega) x4_64 _ _ _ _ _ hf C (lv_sub hl [3, 4, 5, 6, 0] rfl)
            · replace hf := (if_neg (fun q => c_63 ((lg_cmp_eq _ _).mpr q))).symm.trans hf
              refine lv_iconst (v := 0) hx hb dL_law_355 (by decide) ?_
              cases hf
        · replace hf := (if_neg c_59).symm.trans hf
          refine lv_iconst (v := 0) hx hb dL_law_338 (by decide) ?_
          cases hf
      replace hf := (if_neg c_43).symm.trans hf
      by_cases c_65 : sw = 3
      · replace hf := (if_pos c_65).symm.trans hf
        subst c_65
        refine lv_tableIn (tgt := 360) hx hb dL_law_40 (by decide) (by decide) (by rfl) (by decide) ?_
        refine lv_aload_n hx hb dL_law_360 rfl (lv_at hl 1 rfl) ?_
        refine lv_aload_n hx hb dL_law_361 rfl (lv_at hl 0 rfl) ?_
        refine lv_iload hx hb dL_law_362 (lv_at hl 4 rfl) ?_
        refine lv_iconst (v := 1) hx hb dL_law_364 (by decide) ?_
        refine lv_iadd hx hb dL_law_365 ?_
        obtain ⟨g_66, hf⟩ := gd_some hf
        refine va_sld hx hb hX hbl hbA C.2.2.2.1 (okI_in g_66) dL_law_366 ?_
        refine lv_aload_n hx hb dL_law_367 rfl (lv_at hl 3 rfl) ?_
        obtain ⟨r_68, z_69, h_67, hf⟩ := bndH_some hf
        refine cl_calli C (vx_runSW (As := [.ref (ad 0), .int (xs (x4 + 1).toNatClampNeg), .ref aO]) (rest := []) ⟨hx, hb, hml, hown, hts⟩ (kk_L_by l ad aO ck D tt hst h_67 _) (vx_cwSW 3 hts gL_law_L_by rfl rfl rfl (by decide +kernel) ⟨Nat.le_of_ble_eq_true rfl, Nat.le_of_ble_eq_true rfl⟩) (cx_preS C.l) rfl rfl hl.1 rfl (lv_room (Nat.le_of_ble_eq_true rfl)) dL_law_368 ⟨by show 45 + j + 1 ≤ 1083; omega, by show 8039 + 6 * j + 6 ≤ 16315; omega⟩) (fun H locs C => ?_)
        refine W.widen (k := 45 + (j + 1)) (n := 8039 + 6 * (j + 1)) (by omega) (by omega) ?_
        refine lv_istore (lv' := [(5, .int r_68), (0, .ref b), (1, .ref (ad 0)), (2, .ref (am 0)), (3, .ref aO), (4, .int x4)]) hx hb dL_law_371 hl (by decide) rfl (fun ls hl => ?_)
        refine lv_aload_n hx hb dL_law_373 rfl (lv_at hl 3 rfl) ?_
        refine lv_aload_n hx hb dL_law_374 rfl (lv_at hl 1 rfl) ?_
        refine lv_iload hx hb dL_law_375 (lv_at hl 5 rfl) ?_
        refine lv_iconst (v := 1) hx hb dL_law_377 (by decide) ?_
        refine lv_iadd hx hb dL_law_378 ?_
        obtain ⟨g_70, hf⟩ := gd_some hf
        refine va_sld hx hb hX hbl hbA C.2.2.2.1 (okI_in g_70) dL_law_379 ?_
        obtain ⟨r_72, v_73, h_71, hf⟩ := bnd_some hf
        refine cr_calli C (va_runV (As := [.int (xs (x4 + 1).toNatClampNeg)]) (rest := []) ⟨hx, hb, hml, hown, hts⟩ (k_X5_by l am ck D tt h_71 _) (cwV 1 hts gL_law_X5_by rfl rfl rfl (by decide +kernel) ⟨Nat.le_of_ble_eq_true rfl, Nat.le_of_ble_eq_true rfl⟩) (cx_preV C.r (q0 := 0) (ci := 5) rfl rfl) rfl rfl hl.1 rfl (lv_room (Nat.le_of_ble_eq_true rfl)) dL_law_380 ⟨by show 45 + (j + 1) + 0 ≤ 1083; omega, by show 8039 + 6 * (j + 1) + 0 ≤ 16315; omega⟩) (fun H locs C => ?_)
        refine lv_istore (lv' := [(6, .int r_72), (5, .int r_68), (0, .ref b), (1, .ref (ad 0)), (2, .ref (am 0)), (3, .ref aO), (4, .int x4)]) hx hb dL_law_383 hl (by decide) rfl (fun ls hl => ?_)
        refine lv_aload_n hx hb dL_law_385 rfl (lv_at hl 4 rfl) ?_
        obtain ⟨r_75, v_76, h_74, hf⟩ := bnd_some hf
        refine cr_calli C (va_runV (As := []) (rest := []) ⟨hx, hb, hml, hown, hts⟩ (k_X5_thrown l am ck D tt h_74 _) (cwV 0 hts gL_law_X5_thrown rfl rfl rfl (by decide +kernel) ⟨Nat.le_of_ble_eq_true rfl, Nat.le_of_ble_eq_true rfl⟩) (cx_preV C.r (q0 := 0) (ci := 5) rfl rfl) rfl rfl hl.1 rfl (lv_room (Nat.le_of_ble_eq_true rfl)) dL_law_386 ⟨by show 45 + (j + 1) + 0 ≤ 1083; omega, by show 8039 + 6 * (j + 1) + 0 ≤ 16315; omega⟩) (fun H locs C => ?_)
        refine lv_iload hx hb dL_law_389 (lv_at hl 1 rfl) ?_
        refine lv_icmp_eq (tgt := 396) hx hb dL_law_391 (by decide) (fun c_77 => ?_) (fun c_77 => ?_)
        · replace hf := (if_pos c_77).symm.trans hf
          refine lv_iload hx hb dL_law_396 (lv_at hl 1 rfl) ?_
          refine lv_if_ne (tgt := 413) hx hb dL_law_398 (by decide) (fun c_78 => ?_) (fun c_78 => ?_)
          · replace hf := (if_neg c_78).symm.trans hf
            refine lv_goto (tgt := 1304) hx hb dL_law_413 (by decide) ?_
            obtain ⟨x4_79, ex4_79⟩ : ∃ y : Int32, y = x4 + 7 := ⟨_, rfl⟩
            replace hf := lt_at hf ex4_79
            refine lv_iinc (v := x4_79) (lv' := [(4, .int x4_79), (6, .int r_72), (5, .int r_68), (0, .ref b), (1, .ref (ad 0)), (2, .ref (am 0)), (3, .ref aO)]) hx hb dL_law_1304 hl (k := 6) rfl (by rw [ex4_79]; rfl) (by decide) rfl (fun ls hl => ?_)
            refine lv_goto (tgt := 23) hx hb dL_law_1307 (by decide) ?_
            refine W.widen (k := 45 + (j + 1)) (n := 8039 + 6 * (j + 1)) (by omega) (by omega) ?_
            exact ih23 (j + 1) (by omega) x4_79 _ _ _ _ _ hf C (lv_sub hl [3, 4, 5, 6, 0] rfl)
          · replace hf := (if_pos c_78).symm.trans hf
            refine lv_aload_n hx hb dL_law_401 rfl (lv_at hl 5 rfl) ?_
            refine lv_iconst (v := 0) hx hb dL_law_402 (by decide) ?_
            obtain ⟨g_80, hf⟩ := gd_some hf
            refine cx_lald C hx hb 23 rfl g_80 dL_law_403 ?_
            refine lv_iload hx hb dL_law_404 (lv_at hl 0 rfl) ?_
            refine lv_i2l hx hb dL_law_406 rfl ?_
            refine W.lcmp hx hb dL_law_407 ?_
            refine lv_if_eq (tgt := 413) hx hb dL_law_408 (by decide) (fun c_81 => ?_) (fun c_81 => ?_)
            · replace hf := (if_pos ((lg_cmp_eq _ _).mp c_81)).symm.trans hf
              refine lv_goto (tgt := 1304) hx hb dL_law_413 (by decide) ?_
              obtain ⟨x4_82, ex4_82⟩ : ∃ y : Int32, y = x4 + 7 := ⟨_, rfl⟩
              replace hf := lt_at hf ex4_82
              refine lv_iinc (v := x4_82) (lv' := [(4, .int x4_82), (6, .int r_72), (5, .int r_68), (0, .ref b), (1, .ref (ad 0)), (2, .ref (am 0)), (3, .ref aO)]) hx hb dL_law_1304 hl (k := 6) rfl (by rw [ex4_82]; rfl) (by decide) rfl (fun ls hl => ?_)
              refine lv_goto (tgt := 23) hx hb dL_law_1307 (by decide) ?_
              refine W.widen (k := 45 + (j + 1)) (n := 8039 + 6 * (j + 1)) (by omega) (by omega) ?_
              exact ih23 (j + 1) (by omega) x4_82 _ _ _ _ _ hf C (lv_sub hl [3, 4, 5, 6, 0] rfl)
            · replace hf := (if_neg (fun q => c_81 ((lg_cmp_eq _ _).mpr q))).symm.trans hf
              refine lv_iconst (v := 0) hx hb dL_law_411 (by decide) ?_
              cases hf
        · replace hf := (if_neg c_77).symm.trans hf
          refine lv_iconst (v := 0) hx hb dL_law_394 (by decide) ?_
          cases hf
      replace hf := (if_neg c_65).symm.trans hf
      by_cases c_83 : sw = 4
      · replace hf := (if_pos c_83).symm.trans hf
        subst c_83
        refine lv_tableIn (tgt := 416) hx hb dL_law_40 (by decide) (by decide) (by rfl) (by decide) ?_
        refine lv_aload_n hx hb dL_law_416 rfl (lv_at hl 1 rfl) ?_
        refine lv_aload_n hx hb dL_law_417 rfl (lv_at hl 0 rfl) ?_
        refine lv_iload hx hb dL_law_418 (lv_at hl 4 rfl) ?_
        refine lv_iconst (v := 1) hx hb dL_law_420 (by decide) ?_
        refine lv_iadd hx hb dL_law_421 ?_
        obtain ⟨g_84, hf⟩ := gd_some hf
        refine va_sld hx hb hX hbl hbA C.2.2.2.1 (okI_in g_84) dL_law_422 ?_
        refine lv_aload_n hx hb dL_law_423 rfl (lv_at hl 3 rfl) ?_
        obtain ⟨r_86, z_87, h_85, hf⟩ := bndH_some hf
        refine cl_calli C (vx_runSW (As := [.ref (ad 0), .int (xs (x4 + 1).toNatClampNeg), .ref aO]) (rest := []) ⟨hx, hb, hml, hown, hts⟩ (kk_L_separator l ad aO ck D tt hst h_85 _) (vx_cwSW 3 hts gL_law_L_separator rfl rfl rfl (by decide +kernel) ⟨Nat.le_of_ble_eq_true rfl, Nat.le_of_ble_eq_true rfl⟩) (cx_preS C.l) rfl rfl hl.1 rfl (lv_room (Nat.le_of_ble_eq_true rfl)) dL_law_424 ⟨by show 45 + j + 1 ≤ 1083; omega, by show 8039 + 6 * j + 6 ≤ 16315; omega⟩) (fun H locs C => ?_)
        refine W.widen (k := 45 + (j + 1)) (n := 8039 + 6 * (j + 1)) (by omega) (by omega) ?_
        refine lv_istore (lv' := [(5, .int r_86), (0, .ref b), (1, .ref (ad 0)), (2, .ref (am 0)), (3, .ref aO), (4, .int x4)]) hx hb dL_law_427 hl (by decide) rfl (fun ls hl => ?_)
        refine lv_aload_n hx hb dL_law_429 rfl (lv_at hl 3 rfl) ?_
        refine lv_aload_n hx hb dL_law_430 rfl (lv_at hl 1 rfl) ?_
        refine lv_iload hx hb dL_law_431 (lv_at hl 5 rfl) ?_
        refine lv_iconst (v := 1) hx hb dL_law_433 (by decide) ?_
        refine lv_iadd hx hb dL_law_434 ?_
        obtain ⟨g_88, hf⟩ := gd_some hf
        refine va_sld hx hb hX hbl hbA C.2.2.2.1 (okI_in g_88) dL_law_435 ?_
        obtain ⟨r_90, v_91, h_89, hf⟩ := bnd_some hf
        refine cr_calli C (va_runV (As := [.int (xs (x4 + 1).toNatClampNeg)]) (rest := []) ⟨hx, hb, hml, hown, hts⟩ (k_X5_separator l am ck D tt h_89 _) (cwV 1 hts gL_law_X5_separator rfl rfl rfl (by decide +kernel) ⟨Nat.le_of_ble_eq_true rfl, Nat.le_of_ble_eq_true rfl⟩) (cx_preV C.r (q0 := 0) (ci := 5) rfl rfl) rfl rfl hl.1 rfl (lv_room (Nat.le_of_ble_eq_true rfl)) dL_law_436 ⟨by show 45 + (j + 1) + 0 ≤ 1083; omega, by show 8039 + 6 * (j + 1) + 0 ≤ 16315; omega⟩) (fun H locs C => ?_)
        refine lv_istore (lv' := [(6, .int r_90), (5, .int r_86), (0, .ref b), (1, .ref (ad 0)), (2, .ref (am 0)), (3, .ref aO), (4, .int x4)]) hx hb dL_law_439 hl (by decide) rfl (fun ls hl => ?_)
        refine lv_aload_n hx hb dL_law_441 rfl (lv_at hl 4 rfl) ?_
        obtain ⟨r_93, v_94, h_92, hf⟩ := bnd_some hf
        refine cr_calli C (va_runV (As := []) (rest := []) ⟨hx, hb, hml, hown, hts⟩ (k_X5_thrown l am ck D tt h_92 _) (cwV 0 hts gL_law_X5_thrown rfl rfl rfl (by decide +kernel) ⟨Nat.le_of_ble_eq_true rfl, Nat.le_of_ble_eq_true rfl⟩) (cx_preV C.r (q0 := 0) (ci := 5) rfl rfl) rfl rfl hl.1 rfl (lv_room (Nat.le_of_ble_eq_true rfl)) dL_law_442 ⟨by show 45 + (j + 1) + 0 ≤ 1083; omega, by show 8039 + 6 * (j + 1) + 0 ≤ 16315; omega⟩) (fun H locs C => ?_)
        refine lv_iload hx hb dL_law_445 (lv_at hl 1 rfl) ?_
        refine lv_icmp_eq (tgt := 452) hx hb dL_law_447 (by decide) (fun c_95 => ?_) (fun c_95 => ?_)
        · replace hf := (if_pos c_95).symm.trans hf
          refine lv_iload hx hb dL_law_452 (lv_at hl 1 rfl) ?_
          refine lv_if_ne (tgt := 469) hx hb dL_law_454 (by decide) (fun c_96 => ?_) (fun c_96 => ?_)
          · replace hf := (if_neg c_96).symm.trans hf
            refine lv_goto (tgt := 1304) hx hb dL_law_469 (by decide) ?_
            obtain ⟨x4_97, ex4_97⟩ : ∃ y : Int32, y = x4 + 7 := ⟨_, rfl⟩
            replace hf := lt_at hf ex4_97
            refine lv_iinc (v := x4_97) (lv' := [(4, .int x4_97), (6, .int r_90), (5, .int r_86), (0, .ref b), (1, .ref (ad 0)), (2, .ref (am 0)), (3, .ref aO)]) hx hb dL_law_1304 hl (k := 6) rfl (by rw [ex4_97]; rfl) (by decide) rfl (fun ls hl => ?_)
            refine lv_goto (tgt := 23) hx hb dL_law_1307 (by decide) ?_
            refine W.widen (k := 45 + (j + 1)) (n := 8039 + 6 * (j + 1)) (by omega) (by omega) ?_
            exact ih23 (j + 1) (by omega) x4_97 _ _ _ _ _ hf C (lv_sub hl [3, 4, 5, 6, 0] rfl)
          · replace hf := (if_pos c_96).symm.trans hf
            refine lv_aload_n hx hb dL_law_457 rfl (lv_at hl 5 rfl) ?_
            refine lv_iconst (v := 0) hx hb dL_law_458 (by decide) ?_
            obtain ⟨g_98, hf⟩ := gd_some hf
            refine cx_lald C hx hb 23 rfl g_98 dL_law_459 ?_
            refine lv_iload hx hb dL_law_460 (lv_at hl 0 rfl) ?_
            refine lv_i2l hx hb dL_law_462 rfl ?_
            refine W.lcmp hx hb dL_law_463 ?_
            refine lv_if_eq (tgt := 469) hx hb dL_law_464 (by decide) (fun c_99 => ?_) (fun c_99 => ?_)
            · replace hf := (if_pos ((lg_cmp_eq _ _).mp c_99)).symm.trans hf
              refine lv_goto (tgt := 1304) hx hb dL_law_469 (by decide) ?_
              obtain ⟨x4_100, ex4_100⟩ : ∃ y : Int32, y = x4 + 7 := ⟨_, rfl⟩
              replace hf := lt_at hf ex4_100
              refine lv_iinc (v := x4_100) (lv' := [(4, .int x4_100), (6, .int r_90), (5, .int r_86), (0, .ref b), (1, .ref (ad 0)), (2, .ref (am 0)), (3, .ref aO)]) hx hb dL_law_1304 hl (k := 6) rfl (by rw [ex4_100]; rfl) (by decide) rfl (fun ls hl => ?_)
              refine lv_goto (tgt := 23) hx hb dL_law_1307 (by decide) ?_
              refine W.widen (k := 45 + (j + 1)) (n := 8039 + 6 * (j + 1)) (by omega) (by omega) ?_
              exact ih23 (j + 1) (by omega) x4_100 _ _ _ _ _ hf C (lv_sub hl [3, 4, 5, 6, 0] rfl)
            · replace hf := (if_neg (fun q => c_99 ((lg_cmp_eq _ _).mpr q))).symm.trans hf
              refine lv_iconst (v := 0) hx hb dL_law_467 (by decide) ?_
              cases hf
        · replace hf := (if_neg c_95).symm.trans hf
          refine lv_iconst (v := 0) hx hb dL_law_450 (by decide) ?_
          cases hf
      replace hf := (if_neg c_83).symm.trans hf
      by_cases c_101 : sw = 5
      · replace hf := (if_pos c_101).symm.trans hf
        subst c_101
        refine lv_tableIn (tgt := 472) hx hb dL_law_40 (by decide) (by decide) (by rfl) (by decide) ?_
        refine lv_aload_n hx hb dL_law_472 rfl (lv_at hl 1 rfl) ?_
        refine lv_aload_n hx hb dL_law_473 rfl (lv_at hl 0 rfl) ?_
        refine lv_iload hx hb dL_law_474 (lv_at hl 4 rfl) ?_
        refine lv_iconst (v := 1) hx hb dL_law_476 (by decide) ?_
        refine lv_iadd hx hb dL_law_477 ?_
        obtain ⟨g_102, hf⟩ := gd_some hf
        refine va_sld hx hb hX hbl hbA C.2.2.2.1 (okI_in g_102) dL_law_478 ?_
        refine lv_aload_n hx hb dL_law_479 rfl (lv_at hl 3 rfl) ?_
        obtain ⟨r_104, z_105, h_103, hf⟩ := bndH_some hf
        refine cl_calli C (vx_runSW (As := [.ref (ad 0), .int (xs (x4 + 1).toNatClampNeg), .ref aO]) (rest := []) ⟨hx, hb, hml, hown, hts⟩ (kk_L_own l ad aO ck D tt hst h_103 _) (vx_cwSW 3 hts gL_law_L_own rfl rfl rfl (by decide +kernel) ⟨Nat.le_of_ble_eq_true rfl, Nat.le_of_ble_eq_true rfl⟩) (cx_preS C.l) rfl rfl hl.1 rfl (lv_room (Nat.le_of_ble_eq_true rfl)) dL_law_480 ⟨by show 45 + j + 1 ≤ 1083; omega, by show 8039 + 6 * j + 6 ≤ 16315; omega⟩) (fun H locs C => ?_)
        refine W.widen (k := 45 + (j + 1)) (n := 8039 + 6 * (j + 1)) (by omega) (by omega) ?_
        refine lv_istore (lv' := [(5, .int r_104), (0, .ref b), (1, .ref (ad 0)), (2, .ref (am 0)), (3, .ref aO), (4, .int x4)]) hx hb dL_law_483 hl (by decide) rfl (fun ls hl => ?_)
        refine lv_aload_n hx hb dL_law_485 rfl (lv_at hl 3 rfl) ?_
        refine lv_aload_n hx hb dL_law_486 rfl (lv_at hl 1 rfl) ?_
        refine lv_iload hx hb dL_law_487 (lv_at hl 5 rfl) ?_
        refine lv_iconst (v := 1) hx hb dL_law_489 (by decide) ?_
        refine lv_iadd hx hb dL_law_490 ?_
        obtain ⟨g_106, hf⟩ := gd_some hf
        refine va_sld hx hb hX hbl hbA C.2.2.2.1 (okI_in g_106) dL_law_491 ?_
        obtain ⟨r_108, v_109, h_107, hf⟩ := bnd_some hf
        refine cr_calli C (va_runV (As := [.int (xs (x4 + 1).toNatClampNeg)]) (rest := []) ⟨hx, hb, hml, hown, hts⟩ (k_X5_own l am ck D tt h_107 _) (cwV 1 hts gL_law_X5_own rfl rfl rfl (by decide +kernel) ⟨Nat.le_of_ble_eq_true rfl, Nat.le_of_ble_eq_true rfl⟩) (cx_preV C.r (q0 := 0) (ci := 5) rfl rfl) rfl rfl hl.1 rfl (lv_room (Nat.le_of_ble_eq_true rfl)) dL_law_492 ⟨by show 45 + (j + 1) + 0 ≤ 1083; omega, by show 8039 + 6 * (j + 1) + 0 ≤ 16315; omega⟩) (fun H locs C => ?_)
        refine lv_istore (lv' := [(6, .int r_108), (5, .int r_104), (0, .ref b), (1, .ref (ad 0)), (2, .ref (am 0)), (3, .ref aO), (4, .int x4)]) hx hb dL_law_495 hl (by decide) rfl (fun ls hl => ?_)
        refine lv_aload_n hx hb dL_law_497 rfl (lv_at hl 4 rfl) ?_
        obtain ⟨r_111, v_112, h_110, hf⟩ := bnd_some hf
        refine cr_calli C (va_runV (As := []) (rest := []) ⟨hx, hb, hml, hown, hts⟩ (k_X5_thrown l am ck D tt h_110 _) (cwV 0 hts gL_law_X5_thrown rfl rfl rfl (by decide +kernel) ⟨Nat.le_of_ble_eq_true rfl, Nat.le_of_ble_eq_true rfl⟩) (cx_preV C.r (q0 := 0) (ci := 5) rfl rfl) rfl rfl hl.1 rfl (lv_room (Nat.le_of_ble_eq_true rfl)) dL_law_498 ⟨by show 45 + (j + 1) + 0 ≤ 1083; omega, by show 8039 + 6 * (j + 1) + 0 ≤ 16315; omega⟩) (fun H locs C => ?_)
        refine lv_iload hx hb dL_law_501 (lv_at hl 1 rfl) ?_
        refine lv_icmp_eq (tgt := 508) hx hb dL_law_503 (by decide) (fun c_113 => ?_) (fun c_113 => ?_)
        · replace hf := (if_pos c_113).symm.trans hf
          refine lv_iload hx hb dL_law_508 (lv_at hl 1 rfl) ?_
          refine lv_if_ne (tgt := 525) hx hb dL_law_510 (by decide) (fun c_114 => ?_) (fun c_114 => ?_)
          · replace hf := (if_neg c_114).symm.trans hf
            refine lv_goto (tgt := 1304) hx hb dL_law_525 (by decide) ?_
            obtain ⟨x4_115, ex4_115⟩ : ∃ y : Int32, y = x4 + 7 := ⟨_, rfl⟩
            replace hf := lt_at hf ex4_115
            refine lv_iinc (v := x4_115) (lv' := [(4, .int x4_115), (6, .int r_108), (5, .int r_104), (0, .ref b), (1, .ref (ad 0)), (2, .ref (am 0)), (3, .ref aO)]) hx hb dL_law_1304 hl (k := 6) rfl (by rw [ex4_115]; rfl) (by decide) rfl (fun ls hl => ?_)
            refine lv_goto (tgt := 23) hx hb dL_law_1307 (by decide) ?_
            refine W.widen (k := 45 + (j + 1)) (n := 8039 + 6 * (j + 1)) (by omega) (by omega) ?_
            exact ih23 (j + 1) (by omega) x4_115 _ _ _ _ _ hf C (lv_sub hl [3, 4, 5, 6, 0] rfl)
          · replace hf := (if_pos c_114).symm.trans hf
            refine lv_aload_n hx hb dL_law_513 rfl (lv_at hl 5 rfl) ?_
            refine lv_iconst (v := 0) hx hb dL_law_514 (by decide) ?_
            obtain ⟨g_116, hf⟩ := gd_some hf
            refine cx_lald C hx hb 23 rfl g_116 dL_law_515 ?_
            refine lv_iload hx hb dL_law_516 (lv_at hl 0 rfl) ?_
            refine lv_i2l hx hb dL_law_518 rfl ?_
            refine W.lcmp hx hb dL_law_519 ?_
            refine lv_if_eq (tgt := 525) hx hb dL_law_520 (by decide) (fun c_117 => ?_) (fun c_117 => ?_)
            · replace hf := (if_pos ((lg_cmp_eq _ _).mp c_117)).symm.trans hf
              refine lv_goto (tgt := 1304) hx hb dL_law_525 (by decide) ?_
              obtain ⟨x4_118, ex4_118⟩ : ∃ y : Int32, y = x4 + 7 := ⟨_, rfl⟩
              replace hf := lt_at hf ex4_118
              refine lv_iinc (v := x4_118) (lv' := [(4, .int x4_118), (6, .int r_108), (5, .int r_104), (0, .ref b), (1, .ref (ad 0)), (2, .ref (am 0)), (3, .ref aO)]) hx hb dL_law_1304 hl (k := 6) rfl (by rw [ex4_118]; rfl) (by decide) rfl (fun ls hl => ?_)
              refine lv_goto (tgt := 23) hx hb dL_law_1307 (by decide) ?_
              refine W.widen (k := 45 + (j + 1)) (n := 8039 + 6 * (j + 1)) (by omega) (by omega) ?_
              exact ih23 (j + 1) (by omega) x4_118 _ _ _ _ _ hf C (lv_sub hl [3, 4, 5, 6, 0] rfl)
            · replace hf := (if_neg (fun q => c_117 ((lg_cmp_eq _ _).mpr q))).symm.trans hf
              refine lv_iconst (v := 0) hx hb dL_law_523 (by decide) ?_
              cases hf
        · replace hf := (if_neg c_113).symm.trans hf
          refine lv_iconst (v := 0) hx hb dL_law_506 (by decide) ?_
          cases hf
      replace hf := (if_neg c_101).symm.trans hf
      by_cases c_119 : sw = 6
      · replace hf := (if_pos c_119).symm.trans hf
        subst c_119
        refine lv_tableIn (tgt := 528) hx hb dL_law_40 (by decide) (by decide) (by rfl) (by decide) ?_
        refine lv_aload_n hx hb dL_law_528 rfl (lv_at hl 1 rfl) ?_
        refine lv_aload_n hx hb dL_law_529 rfl (lv_at hl 0 rfl) ?_
        refine lv_iload hx hb dL_law_530 (lv_at hl 4 rfl) ?_
        refine lv_iconst (v := 1) hx hb dL_law_532 (by decide) ?_
        refine lv_iadd hx hb dL_law_533 ?_
        obtain ⟨g_120, hf⟩ := gd_some hf
        refine va_sld hx hb hX hbl hbA C.2.2.2.1 (okI_in g_120) dL_law_534 ?_
        refine lv_aload_n hx hb dL_law_535 rfl (lv_at hl 0 rfl) ?_
        refine lv_iload hx hb dL_law_536 (lv_at hl 4 rfl) ?_
        refine lv_iconst (v := 2) hx hb dL_law_538 (by decide) ?_
        refine lv_iadd hx hb dL_law_539 ?_
        obtain ⟨g_121, hf⟩ := gd_some hf
        refine va_sld hx hb hX hbl hbA C.2.2.2.1 (okI_in g_121) dL_law_540 ?_
        refine lv_if_eq (tgt := 548) hx hb dL_law_541 (by decide) (fun c_122 => ?_) (fun c_122 => ?_)
        · replace hf := (if_pos c_122).symm.trans hf
          refine lv_iconst (v := 0) hx hb dL_law_548 (by decide) ?_
          refine lv_aload_n hx hb dL_law_549 rfl (lv_at hl 3 rfl) ?_
          obtain ⟨r_124, z_125, h_123, hf⟩ := bndH_some hf
          refine cl_calli C (vx_runSW (As := [.ref (ad 0), .int (xs (x4 + 1).toNatClampNeg), .int 0, .ref aO]) (rest := []) ⟨hx, hb, hml, hown, hts⟩ (kk_L_run l ad aO ck D tt hst h_123 _) (vx_cwSW 4 hts gL_law_L_run rfl rfl rfl (by decide +kernel) ⟨Nat.le_of_ble_eq_true rfl, Nat.le_of_ble_eq_true rfl⟩) (cx_preS C.l) rfl rfl hl.1 rfl (lv_room (Nat.le_of_ble_eq_true rfl)) dL_law_550 ⟨by show 45 + j + 1 ≤ 1083; omega, by show 8039 + 6 * j + 6 ≤ 16315; omega⟩) (fun H locs C => ?_)
          refine W.widen (k := 45 + (j + 1)) (n := 8039 + 6 * (j + 1)) (by omega) (by omega) ?_
          refine lv_istore (lv' := [(5, .int r_124), (0, .ref b), (1, .ref (ad 0)), (2, .ref (am 0)), (3, .ref aO), (4, .int x4)]) hx hb dL_law_553 hl (by decide) rfl (fun ls hl => ?_)
          refine lv_aload_n hx hb dL_law_555 rfl (lv_at hl 3 rfl) ?_
          refine lv_aload_n hx hb dL_law_556 rfl (lv_at hl 1 rfl) ?_
          refine lv_iload hx hb dL_law_557 (lv_at hl 5 rfl) ?_
          refine lv_iconst (v := 1) hx hb dL_law_559 (by decide) ?_
          refine lv_iadd hx hb dL_law_560 ?_
          obtain ⟨g_126, hf⟩ := gd_some hf
          refine va_sld hx hb hX hbl hbA C.2.2.2.1 (okI_in g_126) dL_law_561 ?_
          refine lv_aload_n hx hb dL_law_562 rfl (lv_at hl 1 rfl) ?_
          refine lv_iload hx hb dL_law_563 (lv_at hl 5 rfl) ?_
          refine lv_iconst (v := 2) hx hb dL_law_565 (by decide) ?_
          refine lv_iadd hx hb dL_law_566 ?_
          obtain ⟨g_127, hf⟩ := gd_some hf
          refine va_sld hx hb hX hbl hbA C.2.2.2.1 (okI_in g_127) dL_law_567 ?_
          refine lv_if_eq (tgt := 575) hx hb dL_law_568 (by decide) (fun c_128 => ?_) (fun c_128 => ?_)
          · replace hf := (if_pos c_128).symm.trans hf
            refine lv_iconst (v := 0) hx hb dL_law_575 (by decide) ?_
            obtain ⟨r_130, v_131, h_129, hf⟩ := bnd_some hf
            refine cr_calli C (va_runV (As := [.int (xs (x4 + 1).toNatClampNeg), .int 0]) (rest := []) ⟨hx, hb, hml, hown, hts⟩ (k_X5_run l am ck D tt h_129 _) (cwV 2 hts gL_law_X5_run rfl rfl rfl (by decide +kernel) ⟨Nat.le_of_ble_eq_true rfl, Nat.le_of_ble_eq_true rfl⟩) (cx_preV C.r (q0 := 0) (ci := 5) rfl rfl) rfl rfl hl.1 rfl (lv_room (Nat.le_of_ble_eq_true rfl)) dL_law_576 ⟨by show 45 + (j + 1) + 0 ≤ 1083; omega, by show 8039 + 6 * (j + 1) + 0 ≤ 16315; omega⟩) (fun H locs C => ?_)
            refine lv_istore (lv' := [(6, .int r_130), (5, .int r_124), (0, .ref b), (1, .ref (ad 0)), (2, .ref (am 0)), (3, .ref aO), (4, .int x4)]) hx hb dL_law_579 hl (by decide) rfl (fun ls hl => ?_)
            refine lv_aload_n hx hb dL_law_581 rfl (lv_at hl 4 rfl) ?_
            obtain ⟨r_133, v_134, h_132, hf⟩ := bnd_some hf
            refine cr_calli C (va_runV (As := []) (rest := []) ⟨hx, hb, hml, hown, hts⟩ (k_X5_thrown l am ck D tt h_132 _) (cwV 0 hts gL_law_X5_thrown rfl rfl rfl (by decide +kernel) ⟨Nat.le_of_ble_eq_true rfl, Nat.le_of_ble_eq_true rfl⟩) (cx_preV C.r (q0 := 0) (ci := 5) rfl rfl) rfl rfl hl.1 rfl (lv_room (Nat.le_of_ble_eq_true rfl)) dL_law_582 ⟨by show 45 + (j + 1) + 0 ≤ 1083; omega, by show 8039 + 6 * (j + 1) + 0 ≤ 16315; omega⟩) (fun H locs C => ?_)
            refine lv_iload hx hb dL_law_585 (lv_at hl 1 rfl) ?_
            refine lv_icmp_eq (tgt := 592) hx hb dL_law_587 (by decide) (fun c_135 => ?_) (fun c_135 => ?_)
            · replace hf := (if_pos c_135).symm.trans hf
              refine lv_iload hx hb dL_law_592 (lv_at hl 1 rfl) ?_
              refine lv_if_ne (tgt := 609) hx hb dL_law_594 (by decide) (fun c_136 => ?_) (fun c_136 => ?_)
              · replace hf := (if_neg c_136).symm.trans hf
                refine lv_goto (tgt := 1304) hx hb dL_law_609 (by decide) ?_
                obtain ⟨x4_137, ex4_137⟩ : ∃ y : Int32, y = x4 + 7 := ⟨_, rfl⟩
                replace hf := lt_at hf ex4_137
                refine lv_iinc (v := x4_137) (lv' := [(4, .int x4_137), (6, .int r_130), (5, .int r_124), (0, .ref b), (1, .ref (ad 0)), (2, .ref (am 0)), (3, .ref aO)]) hx hb dL_law_1304 hl (k := 6) rfl (by rw [ex4_137]; rfl) (by decide) rfl (fun ls hl => ?_)
                refine lv_goto (tgt := 23) hx hb dL_law_1307 (by decide) ?_
                refine W.widen (k := 45 + (j + 1)) (n := 8039 + 6 * (j + 1)) (by omega) (by omega) ?_
                exact ih23 (j + 1) (by omega) x4_137 _ _ _ _ _ hf C (lv_sub hl [3, 4, 5, 6, 0] rfl)
              · replace hf := (if_pos c_136).symm.trans hf
                refine lv_aload_n hx hb dL_law_597 rfl (lv_at hl 5 rfl) ?_
                refine lv_iconst (v := 0) hx hb dL_law_598 (by decide) ?_
                obtain ⟨g_138, hf⟩ := gd_some hf
                refine cx_lald C hx hb 23 rfl g_138 dL_law_599 ?_
                refine lv_iload hx hb dL_law_600 (lv_at hl 0 rfl) ?_
                refine lv_i2l hx hb dL_law_602 rfl ?_
                refine W.lcmp hx hb dL_law_603 ?_
                refine lv_if_eq (tgt := 609) hx hb dL_law_604 (by decide) (fun c_139 => ?_) (fun c_139 => ?_)
                · replace hf := (if_pos ((lg_cmp_eq _ _).mp c_139)).symm.trans hf
                  refine lv_goto (tgt := 1304) hx hb dL_law_609 (by decide) ?_
                  obtain ⟨x4_140, ex4_140⟩ : ∃ y : Int32, y = x4 + 7 := ⟨_, rfl⟩
                  replace hf := lt_at hf ex4_140
                  refine lv_iinc (v := x4_140) (lv' := [(4, .int x4_140), (6, .int r_130), (5, .int r_124), (0, .ref b), (1, .ref (ad 0)), (2, .ref (am 0)), (3, .ref aO)]) hx hb dL_law_1304 hl (k := 6) rfl (by rw [ex4_140]; rfl) (by decide) rfl (fun ls hl => ?_)
                  refine lv_goto (tgt := 23) hx hb dL_law_1307 (by decide) ?_
                  refine W.widen (k := 45 + (j + 1)) (n := 8039 + 6 * (j + 1)) (by omega) (by omega) ?_
                  exact ih23 (j + 1) (by omega) x4_140 _ _ _ _ _ hf C (lv_sub hl [3, 4, 5, 6, 0] rfl)
                · replace hf := (if_neg (fun q => c_139 ((lg_cmp_eq _ _).mpr q))).symm.trans hf
                  refine lv_iconst (v := 0) hx hb dL_law_607 (by decide) ?_
                  cases hf
            · replace hf := (if_neg c_135).symm.trans hf
              refine lv_iconst (v := 0) hx hb dL_law_590 (by decide) ?_
              cases hf
          · replace hf := (if_neg c_128).symm.trans hf
            refine lv_iconst (v := 1) hx hb dL_law_571 (by decide) ?_
            refine lv_goto (tgt := 576) hx hb dL_law_572 (by decide) ?_
            obtain ⟨r_142, v_143, h_141, hf⟩ := bnd_some hf
            refine cr_calli C (va_runV (As := [.int (xs (x4 + 1).toNatClampNeg), .int 1]) (rest := []) ⟨hx, hb, hml, hown, hts⟩ (k_X5_run l am ck D tt h_141 _) (cwV 2 hts gL_law_X5_run rfl rfl rfl (by decide +kernel) ⟨Nat.le_of_ble_eq_true rfl, Nat.le_of_ble_eq_true rfl⟩) (cx_preV C.r (q0 := 0) (ci := 5) rfl rfl) rfl rfl hl.1 rfl (lv_room (Nat.le_of_ble_eq_true rfl)) dL_law_576 ⟨by show 45 + (j + 1) + 0 ≤ 1083; omega, by show 8039 + 6 * (j + 1) + 0 ≤ 16315; omega⟩) (fun H locs C => ?_)
            refine lv_istore (lv' := [(6, .int r_142), (5, .int r_124), (0, .ref b), (1, .ref (ad 0)), (2, .ref (am 0)), (3, .ref aO), (4, .int x4)]) hx hb dL_law_579 hl (by decide) rfl (fun ls hl => ?_)
            refine lv_aload_n hx hb dL_law_581 rfl (lv_at hl 4 rfl) ?_
            obtain ⟨r_145, v_146, h_144, hf⟩ := bnd_some hf
            refine cr_calli C (va_runV (As := []) (rest := []) ⟨hx, hb, hml, hown, hts⟩ (k_X5_thrown l am ck D tt h_144 _) (cwV 0 hts gL_law_X5_thrown rfl rfl rfl (by decide +kernel) ⟨Nat.le_of_ble_eq_true rfl, Nat.le_of_ble_eq_true rfl⟩) (cx_preV C.r (q0 := 0) (ci := 5) rfl rfl) rfl rfl hl.1 rfl (lv_room (Nat.le_of_ble_eq_true rfl)) dL_law_582 ⟨by show 45 + (j + 1) + 0 ≤ 1083; omega, by show 8039 + 6 * (j + 1) + 0 ≤ 16315; omega⟩) (fun H locs C => ?_)
            refine lv_iload hx hb dL_law_585 (lv_at hl 1 rfl) ?_
            refine lv_icmp_eq (tgt := 592) hx hb dL_law_587 (by decide) (fun c_147 => ?_) (fun c_147 => ?_)
            · replace hf := (if_pos c_147).symm.trans hf
              refine lv_iload hx hb dL_law_592 (lv_at hl 1 rfl) ?_
              refine lv_if_ne (tgt := 609) hx hb dL_law_594 (by decide) (fun c_148 => ?_) (fun c_148 => ?_)
              · replace hf := (if_neg c_148).symm.trans hf
                refine lv_goto (tgt := 1304) hx hb dL_law_609 (by decide) ?_
                obtain ⟨x4_149, ex4_149⟩ : ∃ y : Int32, y = x4 + 7 := ⟨_, rfl⟩
                replace hf := lt_at hf ex4_149
                refine lv_iinc (v := x4_149) (lv' := [(4, .int x4_149), (6, .int r_142), (5, .int r_124), (0, .ref b), (1, .ref (ad 0)), (2, .ref (am 0)), (3, .ref aO)]) hx hb dL_law_1304 hl (k := 6) rfl (by rw [ex4_149]; rfl) (by decide) rfl (fun ls hl => ?_)
                refine lv_goto (tgt := 23) hx hb dL_law_1307 (by decide) ?_
                refine W.widen (k := 45 + (j + 1)) (n := 8039 + 6 * (j + 1)) (by omega) (by omega) ?_
                exact ih23 (j + 1) (by omega) x4_149 _ _ _ _ _ hf C (lv_sub hl [3, 4, 5, 6, 0] rfl)
              · replace hf := (if_pos c_148).symm.trans hf
                refine lv_aload_n hx hb dL_law_597 rfl (lv_at hl 5 rfl) ?_
                refine lv_iconst (v := 0) hx hb dL_law_598 (by decide) ?_
                obtain ⟨g_150, hf⟩ := gd_some hf
                refine cx_lald C hx hb 23 rfl g_150 dL_law_599 ?_
                refine lv_iload hx hb dL_law_600 (lv_at hl 0 rfl) ?_
                refine lv_i2l hx hb dL_law_602 rfl ?_
                refine W.lcmp hx hb dL_law_603 ?_
                refine lv_if_eq (tgt := 609) hx hb dL_law_604 (by decide) (fun c_151 => ?_) (fun c_151 => ?_)
                · replace hf := (if_pos ((lg_cmp_eq _ _).mp c_151)).symm.trans hf
                  refine lv_goto (tgt := 1304) hx hb dL_law_609 (by decide) ?_
                  obtain ⟨x4_152, ex4_152⟩ : ∃ y : Int32, y = x4 + 7 := ⟨_, rfl⟩
                  replace hf := lt_at hf ex4_152
                  refine lv_iinc (v := x4_152) (lv' := [(4, .int x4_152), (6, .int r_142), (5, .int r_124), (0, .ref b), (1, .ref (ad 0)), (2, .ref (am 0)), (3, .ref aO)]) hx hb dL_law_1304 hl (k := 6) rfl (by rw [ex4_152]; rfl) (by decide) rfl (fun ls hl => ?_)
                  refine lv_goto (tgt := 23) hx hb dL_law_1307 (by decide) ?_
                  refine W.widen (k := 45 + (j + 1)) (n := 8039 + 6 * (j + 1)) (by omega) (by omega) ?_
                  exact ih23 (j + 1) (by omega) x4_152 _ _ _ _ _ hf C (lv_sub hl [3, 4, 5, 6, 0] rfl)
                · replace hf := (if_neg (fun q => c_151 ((lg_cmp_eq _ _).mpr q))).symm.trans hf
                  refine lv_iconst (v := 0) hx hb dL_law_607 (by decide) ?_
                  cases hf
            · replace hf := (if_neg c_147).symm.trans hf
              refine lv_iconst (v := 0) hx hb dL_law_590 (by decide) ?_
              cases hf
        · replace hf := (if_neg c_122).symm.trans hf
          refine lv_iconst (v := 1) hx hb dL_law_544 (by decide) ?_
          refine lv_goto (tgt := 549) hx hb dL_law_545 (by decide) ?_
          refine lv_aload_n hx hb dL_law_549 rfl (lv_at hl 3 rfl) ?_
          obtain ⟨r_154, z_155, h_153, hf⟩ := bndH_some hf
          refine cl_calli C (vx_runSW (As := [.ref (ad 0), .int (xs (x4 + 1).toNatClampNeg), .int 1, .ref aO]) (rest := []) ⟨hx, hb, hml, hown, hts⟩ (kk_L_run l ad aO ck D tt hst h_153 _) (vx_cwSW 4 hts gL_law_L_run rfl rfl rfl (by decide +kernel) ⟨Nat.le_of_ble_eq_true rfl, Nat.le_of_ble_eq_true rfl⟩) (cx_preS C.l) rfl rfl hl.1 rfl (lv_room (Nat.le_of_ble_eq_true rfl)) dL_law_550 ⟨by show 45 + j + 1 ≤ 1083; omega, by show 8039 + 6 * j + 6 ≤ 16315; omega⟩) (fun H locs C => ?_)
          refine W.widen (k := 45 + (j + 1)) (n := 8039 + 6 * (j + 1)) (by omega) (by omega) ?_
          refine lv_istore (lv' := [(5, .int r_154), (0, .ref b), (1, .ref (ad 0)), (2, .ref (am 0)), (3, .ref aO), (4, .int x4)]) hx hb dL_law_553 hl (by decide) rfl (fun ls hl => ?_)
          refine lv_aload_n hx hb dL_law_555 rfl (lv_at hl 3 rfl) ?_
          refine lv_aload_n hx hb dL_law_556 rfl (lv_at hl 1 rfl) ?_
          refine lv_iload hx hb dL_law_557 (lv_at hl 5 rfl) ?_
          refine lv_iconst (v := 1) hx hb dL_law_559 (by decide) ?_
          refine lv_iadd hx hb dL_law_560 ?_
          obtain ⟨g_156, hf⟩ := gd_some hf
          refine va_sld hx hb hX hbl hbA C.2.2.2.1 (okI_in g_156) dL_law_561 ?_
          refine lv_aload_n hx hb dL_law_562 rfl (lv_at hl 1 rfl) ?_
          refine lv_iload hx hb dL_law_563 (lv_at hl 5 rfl) ?_
          refine lv_iconst (v := 2) hx hb dL_law_565 (by decide) ?_
          refine lv_iadd hx hb dL_law_566 ?_
          obtain ⟨g_157, hf⟩ := gd_some hf
          refine va_sld hx hb hX hbl hbA C.2.2.2.1 (okI_in g_157) dL_law_567 ?_
          refine lv_if_eq (tgt := 575) hx hb dL_law_568 (by decide) (fun c_158 => ?_) (fun c_158 => ?_)
          · replace hf := (if_pos c_158).symm.trans hf
            refine lv_iconst (v := 0) hx hb dL_law_575 (by decide) ?_
            obtain ⟨r_160, v_161, h_159, hf⟩ := bnd_some hf
            refine cr_calli C (va_runV (As := [.int (xs (x4 + 1).toNatClampNeg), .int 0]) (rest := []) ⟨hx, hb, hml, hown, hts⟩ (k_X5_run l am ck D tt h_159 _) (cwV 2 hts gL_law_X5_run rfl rfl rfl (by decide +kernel) ⟨Nat.le_of_ble_eq_true rfl, Nat.le_of_ble_eq_true rfl⟩) (cx_preV C.r (q0 := 0) (ci := 5) rfl rfl) rfl rfl hl.1 rfl (lv_room (Nat.le_of_ble_eq_true rfl)) dL_law_576 ⟨by show 45 + (j + 1) + 0 ≤ 1083; omega, by show 8039 + 6 * (j + 1) + 0 ≤ 16315; omega⟩) (fun H locs C => ?_)
            refine lv_istore (lv' := [(6, .int r_160), (5, .int r_154), (0, .ref b), (1, .ref (ad 0)), (2, .ref (am 0)), (3, .ref aO), (4, .int x4)]) hx hb dL_law_579 hl (by decide) rfl (fun ls hl => ?_)
            refine lv_aload_n hx hb dL_law_581 rfl (lv_at hl 4 rfl) ?_
            obtain ⟨r_163, v_164, h_162, hf⟩ := bnd_some hf
            refine cr_calli C (va_runV (As := []) (rest := []) ⟨hx, hb, hml, hown, hts⟩ (k_X5_thrown l am ck D tt h_162 _) (cwV 0 hts gL_law_X5_thrown rfl rfl rfl (by decide +kernel) ⟨Nat.le_of_ble_eq_true rfl, Nat.le_of_ble_eq_true rfl⟩) (cx_preV C.r (q0 := 0) (ci := 5) rfl rfl) rfl rfl hl.1 rfl (lv_room (Nat.le_of_ble_eq_true rfl)) dL_law_582 ⟨by show 45 + (j + 1) + 0 ≤ 1083; omega, by show 8039 + 6 * (j + 1) + 0 ≤ 16315; omega⟩) (fun H locs C => ?_)
            refine lv_iload hx hb dL_law_585 (lv_at hl 1 rfl) ?_
            refine lv_icmp_eq (tgt := 592) hx hb dL_law_587 (by decide) (fun c_165 => ?_) (fun c_165 => ?_)
            · replace hf := (if_pos c_165).symm.trans hf
              refine lv_iload hx hb dL_law_592 (lv_at hl 1 rfl) ?_
              refine lv_if_ne (tgt := 609) hx hb dL_law_594 (by decide) (fun c_166 => ?_) (fun c_166 => ?_)
              · replace hf := (if_neg c_166).symm.trans hf
                refine lv_goto (tgt := 1304) hx hb dL_law_609 (by decide) ?_
                obtain ⟨x4_167, ex4_167⟩ : ∃ y : Int32, y = x4 + 7 := ⟨_, rfl⟩
                replace hf := lt_at hf ex4_167
                refine lv_iinc (v := x4_167) (lv' := [(4, .int x4_167), (6, .int r_160), (5, .int r_154), (0, .ref b), (1, .ref (ad 0)), (2, .ref (am 0)), (3, .ref aO)]) hx hb dL_law_1304 hl (k := 6) rfl (by rw [ex4_167]; rfl) (by decide) rfl (fun ls hl => ?_)
                refine lv_goto (tgt := 23) hx hb dL_law_1307 (by decide) ?_
                refine W.widen (k := 45 + (j + 1)) (n := 8039 + 6 * (j + 1)) (by omega) (by omega) ?_
                exact ih23 (j + 1) (by omega) x4_167 _ _ _ _ _ hf C (lv_sub hl [3, 4, 5, 6, 0] rfl)
              · replace hf := (if_pos c_166).symm.trans hf
                refine lv_aload_n hx hb dL_law_597 rfl (lv_at hl 5 rfl) ?_
                refine lv_iconst (v := 0) hx hb dL_law_598 (by decide) ?_
                obtain ⟨g_168, hf⟩ := gd_some hf
                refine cx_lald C hx hb 23 rfl g_168 dL_law_599 ?_
                refine lv_iload hx hb dL_law_600 (lv_at hl 0 rfl) ?_
                refine lv_i2l hx hb dL_law_602 rfl ?_
                refine W.lcmp hx hb dL_law_603 ?_
                refine lv_if_eq (tgt := 609) hx hb dL_law_604 (by decide) (fun c_169 => ?_) (fun c_169 => ?_)
                · replace hf := (if_pos ((lg_cmp_eq _ _).mp c_169)).symm.trans hf
                  refine lv_goto (tgt := 1304) hx hb dL_law_609 (by decide) ?_
                  obtain ⟨x4_170, ex4_170⟩ : ∃ y : Int32, y = x4 + 7 := ⟨_, rfl⟩
                  replace hf := lt_at hf ex4_170
                  refine lv_iinc (v := x4_170) (lv' := [(4, .int x4_170), (6, .int r_160), (5, .int r_154), (0, .ref b), (1, .ref (ad 0)), (2, .ref (am 0)), (3, .ref aO)]) hx hb dL_law_1304 hl (k := 6) rfl (by rw [ex4_170]; rfl) (by decide) rfl (fun ls hl => ?_)
                  refine lv_goto (tgt := 23) hx hb dL_law_1307 (by decide) ?_
                  refine W.widen (k := 45 + (j + 1)) (n := 8039 + 6 * (j + 1)) (by omega) (by omega) ?_
                  exact ih23 (j + 1) (by omega) x4_170 _ _ _ _ _ hf C (lv_sub hl [3, 4, 5, 6, 0] rfl)
                · replace hf := (if_neg (fun q => c_169 ((lg_cmp_eq _ _).mpr q))).symm.trans hf
                  refine lv_iconst (v := 0) hx hb dL_law_607 (by decide) ?_
                  cases hf
            · replace hf := (if_neg c_165).symm.trans hf
              refine lv_iconst (v := 0) hx hb dL_law_590 (by decide) ?_
              cases hf
          · replace hf := (if_neg c_158).symm.trans hf
            refine lv_iconst (v := 1) hx hb dL_law_571 (by decide) ?_
            refine lv_goto (tgt := 576) hx hb dL_law_572 (by decide) ?_
            obtain ⟨r_172, v_173, h_171, hf⟩ := bnd_some hf
            refine cr_calli C (va_runV (As := [.int (xs (x4 + 1).toNatClampNeg), .int 1]) (rest := []) ⟨hx, hb, hml, hown, hts⟩ (k_X5_run l am ck D tt h_171 _) (cwV 2 hts gL_law_X5_run rfl rfl rfl (by decide +kernel) ⟨Nat.le_of_ble_eq_true rfl, Nat.le_of_ble_eq_true rfl⟩) (cx_preV C.r (q0 := 0) (ci := 5) rfl rfl) rfl rfl hl.1 rfl (lv_room (Nat.le_of_ble_eq_true rfl)) dL_law_576 ⟨by show 45 + (j + 1) + 0 ≤ 1083; omega, by show 8039 + 6 * (j + 1) + 0 ≤ 16315; omega⟩) (fun H locs C => ?_)
            refine lv_istore (lv' := [(6, .int r_172), (5, .int r_154), (0, .ref b), (1, .ref (ad 0)), (2, .ref (am 0)), (3, .ref aO), (4, .int x4)]) hx hb dL_law_579 hl (by decide) rfl (fun ls hl => ?_)
            refine lv_aload_n hx hb dL_law_581 rfl (lv_at hl 4 rfl) ?_
            obtain ⟨r_175, v_176, h_174, hf⟩ := bnd_some hf
            refine cr_calli C (va_runV (As := []) (rest := []) ⟨hx, hb, hml, hown, hts⟩ (k_X5_thrown l am ck D tt h_174 _) (cwV 0 hts gL_law_X5_thrown rfl rfl rfl (by decide +kernel) ⟨Nat.le_of_ble_eq_true rfl, Nat.le_of_ble_eq_true rfl⟩) (cx_preV C.r (q0 := 0) (ci := 5) rfl rfl) rfl rfl hl.1 rfl (lv_room (Nat.le_of_ble_eq_true rfl)) dL_law_582 ⟨by show 45 + (j + 1) + 0 ≤ 1083; omega, by show 8039 + 6 * (j + 1) + 0 ≤ 16315; omega⟩) (fun H locs C => ?_)
            refine lv_iload hx hb dL_law_585 (lv_at hl 1 rfl) ?_
            refine lv_icmp_eq (tgt := 592) hx hb dL_law_587 (by decide) (fun c_177 => ?_) (fun c_177 => ?_)
            · replace hf := (if_pos c_177).symm.trans hf
              refine lv_iload hx hb dL_law_592 (lv_at hl 1 rfl) ?_
              refine lv_if_ne (tgt := 609) hx hb dL_law_594 (by decide) (fun c_178 => ?_) (fun c_178 => ?_)
              · replace hf := (if_neg c_178).symm.trans hf
                refine lv_goto (tgt := 1304) hx hb dL_law_609 (by decide) ?_
                obtain ⟨x4_179, ex4_179⟩ : ∃ y : Int32, y = x4 + 7 := ⟨_, rfl⟩
                replace hf := lt_at hf ex4_179
                refine lv_iinc (v := x4_179) (lv' := [(4, .int x4_179), (6, .int r_172), (5, .int r_154), (0, .ref b), (1, .ref (ad 0)), (2, .ref (am 0)), (3, .ref aO)]) hx hb dL_law_1304 hl (k := 6) rfl (by rw [ex4_179]; rfl) (by decide) rfl (fun ls hl => ?_)
                refine lv_goto (tgt := 23) hx hb dL_law_1307 (by decide) ?_
                refine W.widen (k := 45 + (j + 1)) (n := 8039 + 6 * (j + 1)) (by omega) (by omega) ?_
                exact ih23 (j + 1) (by omega) x4_179 _ _ _ _ _ hf C (lv_sub hl [3, 4, 5, 6, 0] rfl)
              · replace hf := (if_pos c_178).symm.trans hf
                refine lv_aload_n hx hb dL_law_597 rfl (lv_at hl 5 rfl) ?_
                refine lv_iconst (v := 0) hx hb dL_law_598 (by decide) ?_
                obtain ⟨g_180, hf⟩ := gd_some hf
                refine cx_lald C hx hb 23 rfl g_180 dL_law_599 ?_
                refine lv_iload hx hb dL_law_600 (lv_at hl 0 rfl) ?_
                refine lv_i2l hx hb dL_law_602 rfl ?_
                refine W.lcmp hx hb dL_law_603 ?_
                refine lv_if_eq (tgt := 609) hx hb dL_law_604 (by decide) (fun c_181 => ?_) (fun c_181 => ?_)
                · replace hf := (if_pos ((lg_cmp_eq _ _).mp c_181)).symm.trans hf
                  refine lv_goto (tgt := 1304) hx hb dL_law_609 (by decide) ?_
                  obtain ⟨x4_182, ex4_182⟩ : ∃ y : Int32, y = x4 + 7 := ⟨_, rfl⟩
                  replace hf := lt_at hf ex4_182
                  refine lv_iinc (v := x4_182) (lv' := [(4, .int x4_182), (6, .int r_172), (5, .int r_154), (0, .ref b), (1, .ref (ad 0)), (2, .ref (am 0)), (3, .ref aO)]) hx hb dL_law_1304 hl (k := 6) rfl (by rw [ex4_182]; rfl) (by decide) rfl (fun ls hl => ?_)
                  refine lv_goto (tgt := 23) hx hb dL_law_1307 (by decide) ?_
                  refine W.widen (k := 45 + (j + 1)) (n := 8039 + 6 * (j + 1)) (by omega) (by omega) ?_
                  exact ih23 (j + 1) (by omega) x4_182 _ _ _ _ _ hf C (lv_sub hl [3, 4, 5, 6, 0] rfl)
                · replace hf := (if_neg (fun q => c_181 ((lg_cmp_eq _ _).mpr q))).symm.trans hf
                  refine lv_iconst (v := 0) hx hb dL_law_607 (by decide) ?_
                  cases hf
            · replace hf := (if_neg c_177).symm.trans hf
              refine lv_iconst (v := 0) hx hb dL_law_590 (by decide) ?_
              cases hf
      replace hf := (if_neg c_119).symm.trans hf
      by_cases c_183 : sw = 7
      · replace hf := (if_pos c_183).symm.trans hf
        subst c_183
        refine lv_tableIn (tgt := 612) hx hb dL_law_40 (by decide) (by decide) (by rfl) (by decide) ?_
        refine lv_aload_n hx hb dL_law_612 rfl (lv_at hl 1 rfl) ?_
        refine lv_aload_n hx hb dL_law_613 rfl (lv_at hl 0 rfl) ?_
        refine lv_iload hx hb dL_law_614 (lv_at hl 4 rfl) ?_
        refine lv_iconst (v := 1) hx hb dL_law_616 (by decide) ?_
        refine lv_iadd hx hb dL_law_617 ?_
        obtain ⟨g_184, hf⟩ := gd_some hf
        refine va_sld hx hb hX hbl hbA C.2.2.2.1 (okI_in g_184) dL_law_618 ?_
        refine lv_aload_n hx hb dL_law_619 rfl (lv_at hl 3 rfl) ?_
        obtain ⟨r_186, z_187, h_185, hf⟩ := bndH_some hf
        refine cl_calli C (vx_runSW (As := [.ref (ad 0), .int (xs (x4 + 1).toNatClampNeg), .ref aO]) (rest := []) ⟨hx, hb, hml, hown, hts⟩ (kk_L_key l ad aO ck D tt hst h_185 _) (vx_cwSW 3 hts gL_law_L_key rfl rfl rfl (by decide +kernel) ⟨Nat.le_of_ble_eq_true rfl, Nat.le_of_ble_eq_true rfl⟩) (cx_preS C.l) rfl rfl hl.1 rfl (lv_room (Nat.le_of_ble_eq_true rfl)) dL_law_620 ⟨by show 45 + j + 1 ≤ 1083; omega, by show 8039 + 6 * j + 6 ≤ 16315; omega⟩) (fun H locs C => ?_)
        refine W.widen (k := 45 + (j + 1)) (n := 8039 + 6 * (j + 1)) (by omega) (by omega) ?_
        refine lv_istore (lv' := [(5, .int r_186), (0, .ref b), (1, .ref (ad 0)), (2, .ref (am 0)), (3, .ref aO), (4, .int x4)]) hx hb dL_law_623 hl (by decide) rfl (fun ls hl => ?_)
        refine lv_aload_n hx hb dL_law_625 rfl (lv_at hl 3 rfl) ?_
        refine lv_aload_n hx hb dL_law_626 rfl (lv_at hl 1 rfl) ?_
        refine lv_iload hx hb dL_law_627 (lv_at hl 5 rfl) ?_
        refine lv_iconst (v := 1) hx hb dL_law_629 (by decide) ?_
        refine lv_iadd hx hb dL_law_630 ?_
        obtain ⟨g_188, hf⟩ := gd_some hf
        refine va_sld hx hb hX hbl hbA C.2.2.2.1 (okI_in g_188) dL_law_631 ?_
        obtain ⟨r_190, v_191, h_189, hf⟩ := bnd_some hf
        refine cr_calli C (va_runV (As := [.int (xs (x4 + 1).toNatClampNeg)]) (rest := []) ⟨hx, hb, hml, hown, hts⟩ (k_X5_key l am ck D tt h_189 _) (cwV 1 hts gL_law_X5_key rfl rfl rfl (by decide +kernel) ⟨Nat.le_of_ble_eq_true rfl, Nat.le_of_ble_eq_true rfl⟩) (cx_preV C.r (q0 := 0) (ci := 5) rfl rfl) rfl rfl hl.1 rfl (lv_room (Nat.le_of_ble_eq_true rfl)) dL_law_632 ⟨by show 45 + (j + 1) + 0 ≤ 1083; omega, by show 8039 + 6 * (j + 1) + 0 ≤ 16315; omega⟩) (fun H locs C => ?_)
        refine lv_istore (lv' := [(6, .int r_190), (5, .int r_186), (0, .ref b), (1, .ref (ad 0)), (2, .ref (am 0)), (3, .ref aO), (4, .int x4)]) hx hb dL_law_635 hl (by decide) rfl (fun ls hl => ?_)
        refine lv_aload_n hx hb dL_law_637 rfl (lv_at hl 4 rfl) ?_
        obtain ⟨r_193, v_194, h_192, hf⟩ := bnd_some hf
        refine cr_calli C (va_runV (As := []) (rest := []) ⟨hx, hb, hml, hown, hts⟩ (k_X5_thrown l am ck D tt h_192 _) (cwV 0 hts gL_law_X5_thrown rfl rfl rfl (by decide +kernel) ⟨Nat.le_of_ble_eq_true rfl, Nat.le_of_ble_eq_true rfl⟩) (cx_preV C.r (q0 := 0) (ci := 5) rfl rfl) rfl rfl hl.1 rfl (lv_room (Nat.le_of_ble_eq_true rfl)) dL_law_638 ⟨by show 45 + (j + 1) + 0 ≤ 1083; omega, by show 8039 + 6 * (j + 1) + 0 ≤ 16315; omega⟩) (fun H locs C => ?_)
        refine lv_iload hx hb dL_law_641 (lv_at hl 1 rfl) ?_
        refine lv_icmp_eq (tgt := 648) hx hb dL_law_643 (by decide) (fun c_195 => ?_) (fun c_195 => ?_)
        · replace hf := (if_pos c_195).symm.trans hf
          refine lv_iload hx hb dL_law_648 (lv_at hl 1 rfl) ?_
          refine lv_if_ne (tgt := 665) hx hb dL_law_650 (by decide) (fun c_196 => ?_) (fun c_196 => ?_)
          · replace hf := (if_neg c_196).symm.trans hf
            refine lv_goto (tgt := 1304) hx hb dL_law_665 (by decide) ?_
            obtain ⟨x4_197, ex4_197⟩ : ∃ y : Int32, y = x4 + 7 := ⟨_, rfl⟩
            replace hf := lt_at hf ex4_197
            refine lv_iinc (v := x4_197) (lv' := [(4, .int x4_197), (6, .int r_190), (5, .int r_186), (0, .ref b), (1, .ref (ad 0)), (2, .ref (am 0)), (3, .ref aO)]) hx hb dL_law_1304 hl (k := 6) rfl (by rw [ex4_197]; rfl) (by decide) rfl (fun ls hl => ?_)
            refine lv_goto (tgt := 23) hx hb dL_law_1307 (by decide) ?_
            refine W.widen (k := 45 + (j + 1)) (n := 8039 + 6 * (j + 1)) (by omega) (by omega) ?_
            exact ih23 (j + 1) (by omega) x4_197 _ _ _ _ _ hf C (lv_sub hl [3, 4, 5, 6, 0] rfl)
          · replace hf := (if_pos c_196).symm.trans hf
            refine lv_aload_n hx hb dL_law_653 rfl (lv_at hl 5 rfl) ?_
            refine lv_iconst (v := 0) hx hb dL_law_654 (by decide) ?_
            obtain ⟨g_198, hf⟩ := gd_some hf
            refine cx_lald C hx hb 23 rfl g_198 dL_law_655 ?_
            refine lv_iload hx hb dL_law_656 (lv_at hl 0 rfl) ?_
            refine lv_i2l hx hb dL_law_658 rfl ?_
            refine W.lcmp hx hb dL_law_659 ?_
            refine lv_if_eq (tgt := 665) hx hb dL_law_660 (by decide) (fun c_199 => ?_) (fun c_199 => ?_)
            · replace hf := (if_pos ((lg_cmp_eq _ _).mp c_199)).symm.trans hf
              refine lv_goto (tgt := 1304) hx hb dL_law_665 (by decide) ?_
              obtain ⟨x4_200, ex4_200⟩ : ∃ y : Int32, y = x4 + 7 := ⟨_, rfl⟩
              replace hf := lt_at hf ex4_200
              refine lv_iinc (v := x4_200) (lv' := [(4, .int x4_200), (6, .int r_190), (5, .int r_186), (0, .ref b), (1, .ref (ad 0)), (2, .ref (am 0)), (3, .ref aO)]) hx hb dL_law_1304 hl (k := 6) rfl (by rw [ex4_200]; rfl) (by decide) rfl (fun ls hl => ?_)
              refine lv_goto (tgt := 23) hx hb dL_law_1307 (by decide) ?_
              refine W.widen (k := 45 + (j + 1)) (n := 8039 + 6 * (j + 1)) (by omega) (by omega) ?_
              exact ih23 (j + 1) (by omega) x4_200 _ _ _ _ _ hf C (lv_sub hl [3, 4, 5, 6, 0] rfl)
            · replace hf := (if_neg (fun q => c_199 ((lg_cmp_eq _ _).mpr q))).symm.trans hf
              refine lv_iconst (v := 0) hx hb dL_law_663 (by decide) ?_
              cases hf
        · replace hf := (if_neg c_195).symm.trans hf
          refine lv_iconst (v := 0) hx hb dL_law_646 (by decide) ?_
          cases hf
      replace hf := (if_neg c_183).symm.trans hf
      by_cases c_201 : sw = 8
      · replace hf := (if_pos c_201).symm.trans hf
        subst c_201
        refine lv_tableIn (tgt := 668) hx hb dL_law_40 (by decide) (by decide) (by rfl) (by decide) ?_
        refine lv_aload_n hx hb dL_law_668 rfl (lv_at hl 1 rfl) ?_
        refine lv_aload_n hx hb dL_law_669 rfl (lv_at hl 0 rfl) ?_
        refine lv_iload hx hb dL_law_670 (lv_at hl 4 rfl) ?_
        refine lv_iconst (v := 1) hx hb dL_law_672 (by decide) ?_
        refine lv_iadd hx hb dL_law_673 ?_
        obtain ⟨g_202, hf⟩ := gd_some hf
        refine va_sld hx hb hX hbl hbA C.2.2.2.1 (okI_in g_202) dL_law_674 ?_
        refine lv_aload_n hx hb dL_law_675 rfl (lv_at hl 3 rfl) ?_
        obtain ⟨r_204, z_205, h_203, hf⟩ := bndH_some hf
        refine cl_calli C (vx_runSW (As := [.ref (ad 0), .int (xs (x4 + 1).toNatClampNeg), .ref aO]) (rest := []) ⟨hx, hb, hml, hown, hts⟩ (kk_L_rows l ad aO ck D tt hst h_203 _) (vx_cwSW 3 hts gL_law_L_rows rfl rfl rfl (by decide +kernel) ⟨Nat.le_of_ble_eq_true rfl, Nat.le_of_ble_eq_true rfl⟩) (cx_preS C.l) rfl rfl hl.1 rfl (lv_room (Nat.le_of_ble_eq_true rfl)) dL_law_676 ⟨by show 45 + j + 1 ≤ 1083; omega, by show 8039 + 6 * j + 6 ≤ 16315; omega⟩) (fun H locs C => ?_)
        refine W.widen (k := 45 + (j + 1)) (n := 8039 + 6 * (j + 1)) (by omega) (by omega) ?_
        refine lv_istore (lv' := [(5, .int r_204), (0, .ref b), (1, .ref (ad 0)), (2, .ref (am 0)), (3, .ref aO), (4, .int x4)]) hx hb dL_law_679 hl (by decide) rfl (fun ls hl => ?_)
        refine lv_aload_n hx hb dL_law_681 rfl (lv_at hl 3 rfl) ?_
        refine lv_aload_n hx hb dL_law_682 rfl (lv_at hl 1 rfl) ?_
        refine lv_iload hx hb dL_law_683 (lv_at hl 5 rfl) ?_
        refine lv_iconst (v := 1) hx hb dL_law_685 (by decide) ?_
        refine lv_iadd hx hb dL_law_686 ?_
        obtain ⟨g_206, hf⟩ := gd_some hf
        refine va_sld hx hb hX hbl hbA C.2.2.2.1 (okI_in g_206) dL_law_687 ?_
        obtain ⟨r_208, v_209, h_207, hf⟩ := bnd_some hf
        refine cr_calli C (va_runV (As := [.int (xs (x4 + 1).toNatClampNeg)]) (rest := []) ⟨hx, hb, hml, hown, hts⟩ (k_X5_rows l am ck D tt h_207 _) (cwV 1 hts gL_law_X5_rows rfl rfl rfl (by decide +kernel) ⟨Nat.le_of_ble_eq_true rfl, Nat.le_of_ble_eq_true rfl⟩) (cx_preV C.r (q0 := 0) (ci := 5) rfl rfl) rfl rfl hl.1 rfl (lv_room (Nat.le_of_ble_eq_true rfl)) dL_law_688 ⟨by show 45 + (j + 1) + 0 ≤ 1083; omega, by show 8039 + 6 * (j + 1) + 0 ≤ 16315; omega⟩) (fun H locs C => ?_)
        refine lv_istore (lv' := [(6, .int r_208), (5, .int r_204), (0, .ref b), (1, .ref (ad 0)), (2, .ref (am 0)), (3, .ref aO), (4, .int x4)]) hx hb dL_law_691 hl (by decide) rfl (fun ls hl => ?_)
        refine lv_aload_n hx hb dL_law_693 rfl (lv_at hl 4 rfl) ?_
        obtain ⟨r_211, v_212, h_210, hf⟩ := bnd_some hf
        refine cr_calli C (va_runV (As := []) (rest := []) ⟨hx, hb, hml, hown, hts⟩ (k_X5_thrown l am ck D tt h_210 _) (cwV 0 hts gL_law_X5_thrown rfl rfl rfl (by decide +kernel) ⟨Nat.le_of_ble_eq_true rfl, Nat.le_of_ble_eq_true rfl⟩) (cx_preV C.r (q0 := 0) (ci := 5) rfl rfl) rfl rfl hl.1 rfl (lv_room (Nat.le_of_ble_eq_true rfl)) dL_law_694 ⟨by show 45 + (j + 1) + 0 ≤ 1083; omega, by show 8039 + 6 * (j + 1) + 0 ≤ 16315; omega⟩) (fun H locs C => ?_)
        refine lv_iload hx hb dL_law_697 (lv_at hl 1 rfl) ?_
        refine lv_icmp_eq (tgt := 704) hx hb dL_law_699 (by decide) (fun c_213 => ?_) (fun c_213 => ?_)
        · replace hf := (if_pos c_213).symm.trans hf
          refine lv_iload hx hb dL_law_704 (lv_at hl 1 rfl) ?_
          refine lv_if_ne (tgt := 721) hx hb dL_law_706 (by decide) (fun c_214 => ?_) (fun c_214 => ?_)
          · replace hf := (if_neg c_214).symm.trans hf
            refine lv_goto (tgt := 1304) hx hb dL_law_721 (by decide) ?_
            obtain ⟨x4_215, ex4_215⟩ : ∃ y : Int32, y = x4 + 7 := ⟨_, rfl⟩
            replace hf := lt_at hf ex4_215
            refine lv_iinc (v := x4_215) (lv' := [(4, .int x4_215), (6, .int r_208), (5, .int r_204), (0, .ref b), (1, .ref (ad 0)), (2, .ref (am 0)), (3, .ref aO)]) hx hb dL_law_1304 hl (k := 6) rfl (by rw [ex4_215]; rfl) (by decide) rfl (fun ls hl => ?_)
            refine lv_goto (tgt := 23) hx hb dL_law_1307 (by decide) ?_
            refine W.widen (k := 45 + (j + 1)) (n := 8039 + 6 * (j + 1)) (by omega) (by omega) ?_
            exact ih23 (j + 1) (by omega) x4_215 _ _ _ _ _ hf C (lv_sub hl [3, 4, 5, 6, 0] rfl)
          · replace hf := (if_pos c_214).symm.trans hf
            refine lv_aload_n hx hb dL_law_709 rfl (lv_at hl 5 rfl) ?_
            refine lv_iconst (v := 0) hx hb dL_law_710 (by decide) ?_
            obtain ⟨g_216, hf⟩ := gd_some hf
            refine cx_lald C hx hb 23 rfl g_216 dL_law_711 ?_
            refine lv_iload hx hb dL_law_712 (lv_at hl 0 rfl) ?_
            refine lv_i2l hx hb dL_law_714 rfl ?_
            refine W.lcmp hx hb dL_law_715 ?_
            refine lv_if_eq (tgt := 721) hx hb dL_law_716 (by decide) (fun c_217 => ?_) (fun c_217 => ?_)
            · replace hf := (if_pos ((lg_cmp_eq _ _).mp c_217)).symm.trans hf
              refine lv_goto (tgt := 1304) hx hb dL_law_721 (by decide) ?_
              obtain ⟨x4_218, ex4_218⟩ : ∃ y : Int32, y = x4 + 7 := ⟨_, rfl⟩
              replace hf := lt_at hf ex4_218
              refine lv_iinc (v := x4_218) (lv' := [(4, .int x4_218), (6, .int r_208), (5, .int r_204), (0, .ref b), (1, .ref (ad 0)), (2, .ref (am 0)), (3, .ref aO)]) hx hb dL_law_1304 hl (k := 6) rfl (by rw [ex4_218]; rfl) (by decide) rfl (fun ls hl => ?_)
              refine lv_goto (tgt := 23) hx hb dL_law_1307 (by decide) ?_
              refine W.widen (k := 45 + (j + 1)) (n := 8039 + 6 * (j + 1)) (by omega) (by omega) ?_
              exact ih23 (j + 1) (by omega) x4_218 _ _ _ _ _ hf C (lv_sub hl [3, 4, 5, 6, 0] rfl)
            · replace hf := (if_neg (fun q => c_217 ((lg_cmp_eq _ _).mpr q))).symm.trans hf
              refine lv_iconst (v := 0) hx hb dL_law_719 (by decide) ?_
              cases hf
        · replace hf := (if_neg c_213).symm.trans hf
          refine lv_iconst (v := 0) hx hb dL_law_702 (by decide) ?_
          cases hf
      replace hf := (if_neg c_201).symm.trans hf
      by_cases c_219 : sw = 9
      · replace hf := (if_pos c_219).symm.trans hf
        subst c_219
        refine lv_tableIn (tgt := 724) hx hb dL_law_40 (by decide) (by decide) (by rfl) (by decide) ?_
        refine lv_aload_n hx hb dL_law_724 rfl (lv_at hl 1 rfl) ?_
        refine lv_aload_n hx hb dL_law_725 rfl (lv_at hl 0 rfl) ?_
        refine lv_iload hx hb dL_law_726 (lv_at hl 4 rfl) ?_
        refine lv_iconst (v := 1) hx hb dL_law_728 (by decide) ?_
        refine lv_iadd hx hb dL_law_729 ?_
        obtain ⟨g_220, hf⟩ := gd_some hf
        refine va_sld hx hb hX hbl hbA C.2.2.2.1 (okI_in g_220) dL_law_730 ?_
        refine lv_aload_n hx hb dL_law_731 rfl (lv_at hl 3 rfl) ?_
        obtain ⟨r_222, z_223, h_221, hf⟩ := bndH_some hf
        refine cl_calli C (vx_runSW (As := [.ref (ad 0), .int (xs (x4 + 1).toNatClampNeg), .ref aO]) (rest := []) ⟨hx, hb, hml, hown, hts⟩ (kk_L_sort l ad aO ck D tt hst h_221 _) (vx_cwSW 3 hts gL_law_L_sort rfl rfl rfl (by decide +kernel) ⟨Nat.le_of_ble_eq_true rfl, Nat.le_of_ble_eq_true rfl⟩) (cx_preS C.l) rfl rfl hl.1 rfl (lv_room (Nat.le_of_ble_eq_true rfl)) dL_law_732 ⟨by show 45 + j + 1 ≤ 1083; omega, by show 8039 + 6 * j + 6 ≤ 16315; omega⟩) (fun H locs C => ?_)
        refine W.widen (k := 45 + (j + 1)) (n := 8039 + 6 * (j + 1)) (by omega) (by omega) ?_
        refine lv_istore (lv' := [(5, .int r_222), (0, .ref b), (1, .ref (ad 0)), (2, .ref (am 0)), (3, .ref aO), (4, .int x4)]) hx hb dL_law_735 hl (by decide) rfl (fun ls hl => ?_)
        refine lv_aload_n hx hb dL_law_737 rfl (lv_at hl 3 rfl) ?_
        refine lv_aload_n hx hb dL_law_738 rfl (lv_at hl 1 rfl) ?_
        refine lv_iload hx hb dL_law_739 (lv_at hl 5 rfl) ?_
        refine lv_iconst (v := 1) hx hb dL_law_741 (by decide) ?_
        refine lv_iadd hx hb dL_law_742 ?_
        obtain ⟨g_224, hf⟩ := gd_some hf
        refine va_sld hx hb hX hbl hbA C.2.2.2.1 (okI_in g_224) dL_law_743 ?_
        obtain ⟨r_226, v_227, h_225, hf⟩ := bnd_some hf
        refine cr_calli C (va_runV (As := [.int (xs (x4 + 1).toNatClampNeg)]) (rest := []) ⟨hx, hb, hml, hown, hts⟩ (k_X5_sort l am ck D tt h_225 _) (cwV 1 hts gL_law_X5_sort rfl rfl rfl (by decide +kernel) ⟨Nat.le_of_ble_eq_true rfl, Nat.le_of_ble_eq_true rfl⟩) (cx_preV C.r (q0 := 0) (ci := 5) rfl rfl) rfl rfl hl.1 rfl (lv_room (Nat.le_of_ble_eq_true rfl)) dL_law_744 ⟨by show 45 + (j + 1) + 0 ≤ 1083; omega, by show 8039 + 6 * (j + 1) + 0 ≤ 16315; omega⟩) (fun H locs C => ?_)
        refine lv_istore (lv' := [(6, .int r_226), (5, .int r_222), (0, .ref b), (1, .ref (ad 0)), (2, .ref (am 0)), (3, .ref aO), (4, .int x4)]) hx hb dL_law_747 hl (by decide) rfl (fun ls hl => ?_)
        refine lv_aload_n hx hb dL_law_749 rfl (lv_at hl 4 rfl) ?_
        obtain ⟨r_229, v_230, h_228, hf⟩ := bnd_some hf
        refine cr_calli C (va_runV (As := []) (rest := []) ⟨hx, hb, hml, hown, hts⟩ (k_X5_thrown l am ck D tt h_228 _) (cwV 0 hts gL_law_X5_thrown rfl rfl rfl (by decide +kernel) ⟨Nat.le_of_ble_eq_true rfl, Nat.le_of_ble_eq_true rfl⟩) (cx_preV C.r (q0 := 0) (ci := 5) rfl rfl) rfl rfl hl.1 rfl (lv_room (Nat.le_of_ble_eq_true rfl)) dL_law_750 ⟨by show 45 + (j + 1) + 0 ≤ 1083; omega, by show 8039 + 6 * (j + 1) + 0 ≤ 16315; omega⟩) (fun H locs C => ?_)
        refine lv_iload hx hb dL_law_753 (lv_at hl 1 rfl) ?_
        refine lv_icmp_eq (tgt := 760) hx hb dL_law_755 (by decide) (fun c_231 => ?_) (fun c_231 => ?_)
        · replace hf := (if_pos c_231).symm.trans hf
          refine lv_iload hx hb dL_law_760 (lv_at hl 1 rfl) ?_
          refine lv_if_ne (tgt := 777) hx hb dL_law_762 (by decide) (fun c_232 => ?_) (fun c_232 => ?_)
          · replace hf := (if_neg c_232).symm.trans hf
            refine lv_goto (tgt := 1304) hx hb dL_law_777 (by decide) ?_
            obtain ⟨x4_233, ex4_233⟩ : ∃ y : Int32, y = x4 + 7 := ⟨_, rfl⟩
            replace hf := lt_at hf ex4_233
            refine lv_iinc (v := x4_233) (lv' := [(4, .int x4_233), (6, .int r_226), (5, .int r_222), (0, .ref b), (1, .ref (ad 0)), (2, .ref (am 0)), (3, .ref aO)]) hx hb dL_law_1304 hl (k := 6) rfl (by rw [ex4_233]; rfl) (by decide) rfl (fun ls hl => ?_)
            refine lv_goto (tgt := 23) hx hb dL_law_1307 (by decide) ?_
            refine W.widen (k := 45 + (j + 1)) (n := 8039 + 6 * (j + 1)) (by omega) (by omega) ?_
            exact ih23 (j + 1) (by omega) x4_233 _ _ _ _ _ hf C (lv_sub hl [3, 4, 5, 6, 0] rfl)
          · replace hf := (if_pos c_232).symm.trans hf
            refine lv_aload_n hx hb dL_law_765 rfl (lv_at hl 5 rfl) ?_
            refine lv_iconst (v := 0) hx hb dL_law_766 (by decide) ?_
            obtain ⟨g_234, hf⟩ := gd_some hf
            refine cx_lald C hx hb 23 rfl g_234 dL_law_767 ?_
            refine lv_iload hx hb dL_law_768 (lv_at hl 0 rfl) ?_
            refine lv_i2l hx hb dL_law_770 rfl ?_
            refine W.lcmp hx hb dL_law_771 ?_
            refine lv_if_eq (tgt := 777) hx hb dL_law_772 (by decide) (fun c_235 => ?_) (fun c_235 => ?_)
            · replace hf := (if_pos ((lg_cmp_eq _ _).mp c_235)).symm.trans hf
              refine lv_goto (tgt := 1304) hx hb dL_law_777 (by decide) ?_
              obtain ⟨x4_236, ex4_236⟩ : ∃ y : Int32, y = x4 + 7 := ⟨_, rfl⟩
              replace hf := lt_at hf ex4_236
              refine lv_iinc (v := x4_236) (lv' := [(4, .int x4_236), (6, .int r_226), (5, .int r_222), (0, .ref b), (1, .ref (ad 0)), (2, .ref (am 0)), (3, .ref aO)]) hx hb dL_law_1304 hl (k := 6) rfl (by rw [ex4_236]; rfl) (by decide) rfl (fun ls hl => ?_)
              refine lv_goto (tgt := 23) hx hb dL_law_1307 (by decide) ?_
              refine W.widen (k := 45 + (j + 1)) (n := 8039 + 6 * (j + 1)) (by omega) (by omega) ?_
              exact ih23 (j + 1) (by omega) x4_236 _ _ _ _ _ hf C (lv_sub hl [3, 4, 5, 6, 0] rfl)
            · replace hf := (if_neg (fun q => c_235 ((lg_cmp_eq _ _).mpr q))).symm.trans hf
              refine lv_iconst (v := 0) hx hb dL_law_775 (by decide) ?_
              cases hf
        · replace hf := (if_neg c_231).symm.trans hf
          refine lv_iconst (v := 0) hx hb dL_law_758 (by decide) ?_
          cases hf
      replace hf := (if_neg c_219).symm.trans hf
      by_cases c_237 : sw = 10
      · replace hf := (if_pos c_237).symm.trans hf
        subst c_237
        refine lv_tableIn (tgt := 780) hx hb dL_law_40 (by decide) (by decide) (by rfl) (by decide) ?_
        refine lv_aload_n hx hb dL_law_780 rfl (lv_at hl 1 rfl) ?_
        refine lv_aload_n hx hb dL_law_781 rfl (lv_at hl 0 rfl) ?_
        refine lv_iload hx hb dL_law_782 (lv_at hl 4 rfl) ?_
        refine lv_iconst (v := 1) hx hb dL_law_784 (by decide) ?_
        refine lv_iadd hx hb dL_law_785 ?_
        obtain ⟨g_238, hf⟩ := gd_some hf
        refine va_sld hx hb hX hbl hbA C.2.2.2.1 (okI_in g_238) dL_law_786 ?_
        refine lv_aload_n hx hb dL_law_787 rfl (lv_at hl 3 rfl) ?_
        obtain ⟨r_240, z_241, h_239, hf⟩ := bndH_some hf
        refine cl_calli C (vx_runSW (As := [.ref (ad 0), .int (xs (x4 + 1).toNatClampNeg), .ref aO]) (rest := []) ⟨hx, hb, hml, hown, hts⟩ (kk_L_why l ad aO ck D tt hst h_239 _) (vx_cwSW 3 hts gL_law_L_why rfl rfl rfl (by decide +kernel) ⟨Nat.le_of_ble_eq_true rfl, Nat.le_of_ble_eq_true rfl⟩) (cx_preS C.l) rfl rfl hl.1 rfl (lv_room (Nat.le_of_ble_eq_true rfl)) dL_law_788 ⟨by show 45 + j + 1 ≤ 1083; omega, by show 8039 + 6 * j + 6 ≤ 16315; omega⟩) (fun H locs C => ?_)
        refine W.widen (k := 45 + (j + 1)) (n := 8039 + 6 * (j + 1)) (by omega) (by omega) ?_
        refine lv_istore (lv' := [(5, .int r_240), (0, .ref b), (1, .ref (ad 0)), (2, .ref (am 0)), (3, .ref aO), (4, .int x4)]) hx hb dL_law_791 hl (by decide) rfl (fun ls hl => ?_)
        refine lv_aload_n hx hb dL_law_793 rfl (lv_at hl 3 rfl) ?_
        refine lv_aload_n hx hb dL_law_794 rfl (lv_at hl 1 rfl) ?_
        refine lv_iload hx hb dL_law_795 (lv_at hl 5 rfl) ?_
        refine lv_iconst (v := 1) hx hb dL_law_797 (by decide) ?_
        refine lv_iadd hx hb dL_law_798 ?_
        obtain ⟨g_242, hf⟩ := gd_some hf
        refine va_sld hx hb hX hbl hbA C.2.2.2.1 (okI_in g_242) dL_law_799 ?_
        obtain ⟨r_244, v_245, h_243, hf⟩ := bnd_some hf
        refine cr_calli C (va_runV (As := [.int (xs (x4 + 1).toNatClampNeg)]) (rest := []) ⟨hx, hb, hml, hown, hts⟩ (k_X5_why l am ck D tt h_243 _) (cwV 1 hts gL_law_X5_why rfl rfl rfl (by decide +kernel) ⟨Nat.le_of_ble_eq_true rfl, Nat.le_of_ble_eq_true rfl⟩) (cx_preV C.r (q0 := 0) (ci := 5) rfl rfl) rfl rfl hl.1 rfl (lv_room (Nat.le_of_ble_eq_true rfl)) dL_law_800 ⟨by show 45 + (j + 1) + 0 ≤ 1083; omega, by show 8039 + 6 * (j + 1) + 0 ≤ 16315; omega⟩) (fun H locs C => ?_)
        refine lv_istore (lv' := [(6, .int r_244), (5, .int r_240), (0, .ref b), (1, .ref (ad 0)), (2, .ref (am 0)), (3, .ref aO), (4, .int x4)]) hx hb dL_law_803 hl (by decide) rfl (fun ls hl => ?_)
        refine lv_aload_n hx hb dL_law_805 rfl (lv_at hl 4 rfl) ?_
        obtain ⟨r_247, v_248, h_246, hf⟩ := bnd_some hf
        refine cr_calli C (va_runV (As := []) (rest := []) ⟨hx, hb, hml, hown, hts⟩ (k_X5_thrown l am ck D tt h_246 _) (cwV 0 hts gL_law_X5_thrown rfl rfl rfl (by decide +kernel) ⟨Nat.le_of_ble_eq_true rfl, Nat.le_of_ble_eq_true rfl⟩) (cx_preV C.r (q0 := 0) (ci := 5) rfl rfl) rfl rfl hl.1 rfl (lv_room (Nat.le_of_ble_eq_true rfl)) dL_law_806 ⟨by show 45 + (j + 1) + 0 ≤ 1083; omega, by show 8039 + 6 * (j + 1) + 0 ≤ 16315; omega⟩) (fun H locs C => ?_)
        refine lv_iload hx hb dL_law_809 (lv_at hl 1 rfl) ?_
        refine lv_icmp_eq (tgt := 816) hx hb dL_law_811 (by decide) (fun c_249 => ?_) (fun c_249 => ?_)
        · replace hf := (if_pos c_249).symm.trans hf
          refine lv_iload hx hb dL_law_816 (lv_at hl 1 rfl) ?_
          refine lv_if_ne (tgt := 833) hx hb dL_law_818 (by decide) (fun c_250 => ?_) (fun c_250 => ?_)
          · replace hf := (if_neg c_250).symm.trans hf
            refine lv_goto (tgt := 1304) hx hb dL_law_833 (by decide) ?_
            obtain ⟨x4_251, ex4_251⟩ : ∃ y : Int32, y = x4 + 7 := ⟨_, rfl⟩
            replace hf := lt_at hf ex4_251
            refine lv_iinc (v := x4_251) (lv' := [(4, .int x4_251), (6, .int r_244), (5, .int r_240), (0, .ref b), (1, .ref (ad 0)), (2, .ref (am 0)), (3, .ref aO)]) hx hb dL_law_1304 hl (k := 6) rfl (by rw [ex4_251]; rfl) (by decide) rfl (fun ls hl => ?_)
            refine lv_goto (tgt := 23) hx hb dL_law_1307 (by decide) ?_
            refine W.widen (k := 45 + (j + 1)) (n := 8039 + 6 * (j + 1)) (by omega) (by omega) ?_
            exact ih23 (j + 1) (by omega) x4_251 _ _ _ _ _ hf C (lv_sub hl [3, 4, 5, 6, 0] rfl)
          · replace hf := (if_pos c_250).symm.trans hf
            refine lv_aload_n hx hb dL_law_821 rfl (lv_at hl 5 rfl) ?_
            refine lv_iconst (v := 0) hx hb dL_law_822 (by decide) ?_
            obtain ⟨g_252, hf⟩ := gd_some hf
            refine cx_lald C hx hb 23 rfl g_252 dL_law_823 ?_
            refine lv_iload hx hb dL_law_824 (lv_at hl 0 rfl) ?_
            refine lv_i2l hx hb dL_law_826 rfl ?_
            refine W.lcmp hx hb dL_law_827 ?_
            refine lv_if_eq (tgt := 833) hx hb dL_law_828 (by decide) (fun c_253 => ?_) (fun c_253 => ?_)
            · replace hf := (if_pos ((lg_cmp_eq _ _).mp c_253)).symm.trans hf
              refine lv_goto (tgt := 1304) hx hb dL_law_833 (by decide) ?_
              obtain ⟨x4_254, ex4_254⟩ : ∃ y : Int32, y = x4 + 7 := ⟨_, rfl⟩
              replace hf := lt_at hf ex4_254
              refine lv_iinc (v := x4_254) (lv' := [(4, .int x4_254), (6, .int r_244), (5, .int r_240), (0, .ref b), (1, .ref (ad 0)), (2, .ref (am 0)), (3, .ref aO)]) hx hb dL_law_1304 hl (k := 6) rfl (by rw [ex4_254]; rfl) (by decide) rfl (fun ls hl => ?_)
              refine lv_goto (tgt := 23) hx hb dL_law_1307 (by decide) ?_
              refine W.widen (k := 45 + (j + 1)) (n := 8039 + 6 * (j + 1)) (by omega) (by omega) ?_
              exact ih23 (j + 1) (by omega) x4_254 _ _ _ _ _ hf C (lv_sub hl [3, 4, 5, 6, 0] rfl)
            · replace hf := (if_neg (fun q => c_253 ((lg_cmp_eq _ _).mpr q))).symm.trans hf
              refine lv_iconst (v := 0) hx hb dL_law_831 (by decide) ?_
              cases hf
        · replace hf := (if_neg c_249).symm.trans hf
          refine lv_iconst (v := 0) hx hb dL_law_814 (by decide) ?_
          cases hf
      replace hf := (if_neg c_237).symm.trans hf
      by_cases c_255 : sw = 11
      · replace hf := (if_pos c_255).symm.trans hf
        subst c_255
        refine lv_tableIn (tgt := 836) hx hb dL_law_40 (by decide) (by decide) (by rfl) (by decide) ?_
        refine lv_aload_n hx hb dL_law_836 rfl (lv_at hl 1 rfl) ?_
        refine lv_aload_n hx hb dL_law_837 rfl (lv_at hl 0 rfl) ?_
        refine lv_iload hx hb dL_law_838 (lv_at hl 4 rfl) ?_
        refine lv_iconst (v := 1) hx hb dL_law_840 (by decide) ?_
        refine lv_iadd hx hb dL_law_841 ?_
        obtain ⟨g_256, hf⟩ := gd_some hf
        refine va_sld hx hb hX hbl hbA C.2.2.2.1 (okI_in g_256) dL_law_842 ?_
        refine lv_aload_n hx hb dL_law_843 rfl (lv_at hl 0 rfl) ?_
        refine lv_iload hx hb dL_law_844 (lv_at hl 4 rfl) ?_
        refine lv_iconst (v := 2) hx hb dL_law_846 (by decide) ?_
        refine lv_iadd hx hb dL_law_847 ?_
        obtain ⟨g_257, hf⟩ := gd_some hf
        refine va_sld hx hb hX hbl hbA C.2.2.2.1 (okI_in g_257) dL_law_848 ?_
        refine lv_aload_n hx hb dL_law_849 rfl (lv_at hl 3 rfl) ?_
        obtain ⟨r_259, z_260, h_258, hf⟩ := bndH_some hf
        refine cl_calli C (vx_runSW (As := [.ref (ad 0), .int (xs (x4 + 1).toNatClampNeg), .int (xs (x4 + 2).toNatClampNeg), .ref aO]) (rest := []) ⟨hx, hb, hml, hown, hts⟩ (kk_L_value l ad aO ck D tt hst h_258 _) (vx_cwSW 4 hts gL_law_L_value rfl rfl rfl (by decide +kernel) ⟨Nat.le_of_ble_eq_true rfl, Nat.le_of_ble_eq_true rfl⟩) (cx_preS C.l) rfl rfl hl.1 rfl (lv_room (Nat.le_of_ble_eq_true rfl)) dL_law_850 ⟨by show 45 + j + 1 ≤ 1083; omega, by show 8039 + 6 * j + 6 ≤ 16315; omega⟩) (fun H locs C => ?_)
        refine W.widen (k := 45 + (j + 1)) (n := 8039 + 6 * (j + 1)) (by omega) (by omega) ?_
        refine lv_istore (lv' := [(5, .int r_259), (0, .ref b), (1, .ref (ad 0)), (2, .ref (am 0)), (3, .ref aO), (4, .int x4)]) hx hb dL_law_853 hl (by decide) rfl (fun ls hl => ?_)
        refine lv_aload_n hx hb dL_law_855 rfl (lv_at hl 3 rfl) ?_
        refine lv_aload_n hx hb dL_law_856 rfl (lv_at hl 1 rfl) ?_
        refine lv_iload hx hb dL_law_857 (lv_at hl 5 rfl) ?_
        refine lv_iconst (v := 1) hx hb dL_law_859 (by decide) ?_
        refine lv_iadd hx hb dL_law_860 ?_
        obtain ⟨g_261, hf⟩ := gd_some hf
        refine va_sld hx hb hX hbl hbA C.2.2.2.1 (okI_in g_261) dL_law_861 ?_
        refine lv_aload_n hx hb dL_law_862 rfl (lv_at hl 1 rfl) ?_
        refine lv_iload hx hb dL_law_863 (lv_at hl 5 rfl) ?_
        refine lv_iconst (v := 2) hx hb dL_law_865 (by decide) ?_
        refine lv_iadd hx hb dL_law_866 ?_
        obtain ⟨g_262, hf⟩ := gd_some hf
        refine va_sld hx hb hX hbl hbA C.2.2.2.1 (okI_in g_262) dL_law_867 ?_
        obtain ⟨r_264, v_265, h_263, hf⟩ := bnd_some hf
        refine cr_calll C (va_runV (As := [.int (xs (x4 + 1).toNatClampNeg), .int (xs (x4 + 2).toNatClampNeg)]) (rest := []) ⟨hx, hb, hml, hown, hts⟩ (k_X5_value l am ck D tt h_263 _) (cwV 2 hts gL_law_X5_value rfl rfl rfl (by decide +kernel) ⟨Nat.le_of_ble_eq_true rfl, Nat.le_of_ble_eq_true rfl⟩) (cx_preV C.r (q0 := 0) (ci := 5) rfl rfl) rfl rfl hl.1 rfl (lv_room (Nat.le_of_ble_eq_true rfl)) dL_law_868 ⟨by show 45 + (j + 1) + 0 ≤ 1083; omega, by show 8039 + 6 * (j + 1) + 0 ≤ 16315; omega⟩) (fun H locs C => ?_)
        refine lv_lstore (lv' := [(6, .long r_264), (5, .int r_259), (0, .ref b), (1, .ref (ad 0)), (2, .ref (am 0)), (3, .ref aO), (4, .int x4)]) hx hb dL_law_871 hl (by decide) rfl (fun ls hl => ?_)
        refine lv_aload_n hx hb dL_law_873 rfl (lv_at hl 4 rfl) ?_
        obtain ⟨r_267, v_268, h_266, hf⟩ := bnd_some hf
        refine cr_calli C (va_runV (As := []) (rest := []) ⟨hx, hb, hml, hown, hts⟩ (k_X5_thrown l am ck D tt h_266 _) (cwV 0 hts gL_law_X5_thrown rfl rfl rfl (by decide +kernel) ⟨Nat.le_of_ble_eq_true rfl, Nat.le_of_ble_eq_true rfl⟩) (cx_preV C.r (q0 := 0) (ci := 5) rfl rfl) rfl rfl hl.1 rfl (lv_room (Nat.le_of_ble_eq_true rfl)) dL_law_874 ⟨by show 45 + (j + 1) + 0 ≤ 1083; omega, by show 8039 + 6 * (j + 1) + 0 ≤ 16315; omega⟩) (fun H locs C => ?_)
        refine lv_iload hx hb dL_law_877 (lv_at hl 1 rfl) ?_
        refine lv_icmp_eq (tgt := 884) hx hb dL_law_879 (by decide) (fun c_269 => ?_) (fun c_269 => ?_)
        · replace hf := (if_pos c_269).symm.trans hf
          refine lv_iload hx hb dL_law_884 (lv_at hl 1 rfl) ?_
          refine lv_if_ne (tgt := 900) hx hb dL_law_886 (by decide) (fun c_270 => ?_) (fun c_270 => ?_)
          · replace hf := (if_neg c_270).symm.trans hf
            refine lv_goto (tgt := 1304) hx hb dL_law_900 (by decide) ?_
            obtain ⟨x4_271, ex4_271⟩ : ∃ y : Int32, y = x4 + 7 := ⟨_, rfl⟩
            replace hf := lt_at hf ex4_271
            refine lv_iinc (v := x4_271) (lv' := [(4, .int x4_271), (6, .long r_264), (5, .int r_259), (0, .ref b), (1, .ref (ad 0)), (2, .ref (am 0)), (3, .ref aO)]) hx hb dL_law_1304 hl (k := 6) rfl (by rw [ex4_271]; rfl) (by decide) rfl (fun ls hl => ?_)
            refine lv_goto (tgt := 23) hx hb dL_law_1307 (by decide) ?_
            refine W.widen (k := 45 + (j + 1)) (n := 8039 + 6 * (j + 1)) (by omega) (by omega) ?_
            exact ih23 (j + 1) (by omega) x4_271 _ _ _ _ _ hf C (lv_sub hl [3, 4, 5, 6, 0] rfl)
          · replace hf := (if_pos c_270).symm.trans hf
            refine lv_aload_n hx hb dL_law_889 rfl (lv_at hl 5 rfl) ?_
            refine lv_iconst (v := 0) hx hb dL_law_890 (by decide) ?_
            obtain ⟨g_272, hf⟩ := gd_some hf
            refine cx_lald C hx hb 23 rfl g_272 dL_law_891 ?_
            refine lv_lload hx hb dL_law_892 (lv_at hl 0 rfl) ?_
            refine W.lcmp hx hb dL_law_894 ?_
            refine lv_if_eq (tgt := 900) hx hb dL_law_895 (by decide) (fun c_273 => ?_) (fun c_273 => ?_)
            · replace hf := (if_pos ((lg_cmp_eq _ _).mp c_273)).symm.trans hf
              refine lv_goto (tgt := 1304) hx hb dL_law_900 (by decide) ?_
              obtain ⟨x4_274, ex4_274⟩ : ∃ y : Int32, y = x4 + 7 := ⟨_, rfl⟩
              replace hf := lt_at hf ex4_274
              refine lv_iinc (v := x4_274) (lv' := [(4, .int x4_274), (6, .long r_264), (5, .int r_259), (0, .ref b), (1, .ref (ad 0)), (2, .ref (am 0)), (3, .ref aO)]) hx hb dL_law_1304 hl (k := 6) rfl (by rw [ex4_274]; rfl) (by decide) rfl (fun ls hl => ?_)
              refine lv_goto (tgt := 23) hx hb dL_law_1307 (by decide) ?_
              refine W.widen (k := 45 + (j + 1)) (n := 8039 + 6 * (j + 1)) (by omega) (by omega) ?_
              exact ih23 (j + 1) (by omega) x4_274 _ _ _ _ _ hf C (lv_sub hl [3, 4, 5, 6, 0] rfl)
            · replace hf := (if_neg (fun q => c_273 ((lg_cmp_eq _ _).mpr q))).symm.trans hf
              refine lv_iconst (v := 0) hx hb dL_law_898 (by decide) ?_
              cases hf
        · replace hf := (if_neg c_269).symm.trans hf
          refine lv_iconst (v := 0) hx hb dL_law_882 (by decide) ?_
          cases hf
      replace hf := (if_neg c_255).symm.trans hf
      by_cases c_275 : sw = 12
      · replace hf := (if_pos c_275).symm.trans hf
        subst c_275
        refine lv_tableIn (tgt := 903) hx hb dL_law_40 (by decide) (by decide) (by rfl) (by decide) ?_
        refine lv_aload_n hx hb dL_law_903 rfl (lv_at hl 1 rfl) ?_
        refine lv_aload_n hx hb dL_law_904 rfl (lv_at hl 0 rfl) ?_
        refine lv_iload hx hb dL_law_905 (lv_at hl 4 rfl) ?_
        refine lv_iconst (v := 1) hx hb dL_law_907 (by decide) ?_
        refine lv_iadd hx hb dL_law_908 ?_
        obtain ⟨g_276, hf⟩ := gd_some hf
        refine va_sld hx hb hX hbl hbA C.2.2.2.1 (okI_in g_276) dL_law_909 ?_
        refine lv_aload_n hx hb dL_law_910 rfl (lv_at hl 3 rfl) ?_
        obtain ⟨r_278, z_279, h_277, hf⟩ := bndH_some hf
        refine cl_calli C (vx_runSW (As := [.ref (ad 0), .int (xs (x4 + 1).toNatClampNeg), .ref aO]) (rest := []) ⟨hx, hb, hml, hown, hts⟩ (kk_L_term l ad aO ck D tt hst h_277 _) (vx_cwSW 3 hts gL_law_L_term rfl rfl rfl (by decide +kernel) ⟨Nat.le_of_ble_eq_true rfl, Nat.le_of_ble_eq_true rfl⟩) (cx_preS C.l) rfl rfl hl.1 rfl (lv_room (Nat.le_of_ble_eq_true rfl)) dL_law_911 ⟨by show 45 + j + 1 ≤ 1083; omega, by show 8039 + 6 * j + 6 ≤ 16315; omega⟩) (fun H locs C => ?_)
        refine W.widen (k := 45 + (j + 1)) (n := 8039 + 6 * (j + 1)) (by omega) (by omega) ?_
        refine lv_istore (lv' := [(5, .int r_278), (0, .ref b), (1, .ref (ad 0)), (2, .ref (am 0)), (3, .ref aO), (4, .int x4)]) hx hb dL_law_914 hl (by decide) rfl (fun ls hl => ?_)
        refine lv_aload_n hx hb dL_law_916 rfl (lv_at hl 3 rfl) ?_
        refine lv_aload_n hx hb dL_law_917 rfl (lv_at hl 1 rfl) ?_
        refine lv_iload hx hb dL_law_918 (lv_at hl 5 rfl) ?_
        refine lv_iconst (v := 1) hx hb dL_law_920 (by decide) ?_
        refine lv_iadd hx hb dL_law_921 ?_
        obtain ⟨g_280, hf⟩ := gd_some hf
        refine va_sld hx hb hX hbl hbA C.2.2.2.1 (okI_in g_280) dL_law_922 ?_
        obtain ⟨r_282, v_283, h_281, hf⟩ := bnd_some hf
        refine cr_calli C (va_runV (As := [.int (xs (x4 + 1).toNatClampNeg)]) (rest := []) ⟨hx, hb, hml, hown, hts⟩ (k_X5_term l am ck D tt h_281 _) (cwV 1 hts gL_law_X5_term rfl rfl rfl (by decide +kernel) ⟨Nat.le_of_ble_eq_true rfl, Nat.le_of_ble_eq_true rfl⟩) (cx_preV C.r (q0 := 0) (ci := 5) rfl rfl) rfl rfl hl.1 rfl (lv_room (Nat.le_of_ble_eq_true rfl)) dL_law_923 ⟨by show 45 + (j + 1) + 0 ≤ 1083; omega, by show 8039 + 6 * (j + 1) + 0 ≤ 16315; omega⟩) (fun H locs C => ?_)
        refine lv_istore (lv' := [(6, .int r_282), (5, .int r_278), (0, .ref b), (1, .ref (ad 0)), (2, .ref (am 0)), (3, .ref aO), (4, .int x4)]) hx hb dL_law_926 hl (by decide) rfl (fun ls hl => ?_)
        refine lv_aload_n hx hb dL_law_928 rfl (lv_at hl 4 rfl) ?_
        obtain ⟨r_285, v_286, h_284, hf⟩ := bnd_some hf
        refine cr_calli C (va_runV (As := []) (rest := []) ⟨hx, hb, hml, hown, hts⟩ (k_X5_thrown l am ck D tt h_284 _) (cwV 0 hts gL_law_X5_thrown rfl rfl rfl (by decide +kernel) ⟨Nat.le_of_ble_eq_true rfl, Nat.le_of_ble_eq_true rfl⟩) (cx_preV C.r (q0 := 0) (ci := 5) rfl rfl) rfl rfl hl.1 rfl (lv_room (Nat.le_of_ble_eq_true rfl)) dL_law_929 ⟨by show 45 + (j + 1) + 0 ≤ 1083; omega, by show 8039 + 6 * (j + 1) + 0 ≤ 16315; omega⟩) (fun H locs C => ?_)
        refine lv_iload hx hb dL_law_932 (lv_at hl 1 rfl) ?_
        refine lv_icmp_eq (tgt := 939) hx hb dL_law_934 (by decide) (fun c_287 => ?_) (fun c_287 => ?_)
        · replace hf := (if_pos c_287).symm.trans hf
          refine lv_iload hx hb dL_law_939 (lv_at hl 1 rfl) ?_
          refine lv_if_ne (tgt := 956) hx hb dL_law_941 (by decide) (fun c_288 => ?_) (fun c_288 => ?_)
          · replace hf := (if_neg c_288).symm.trans hf
            refine lv_goto (tgt := 1304) hx hb dL_law_956 (by decide) ?_
            obtain ⟨x4_289, ex4_289⟩ : ∃ y : Int32, y = x4 + 7 := ⟨_, rfl⟩
            replace hf := lt_at hf ex4_289
            refine lv_iinc (v := x4_289) (lv' := [(4, .int x4_289), (6, .int r_282), (5, .int r_278), (0, .ref b), (1, .ref (ad 0)), (2, .ref (am 0)), (3, .ref aO)]) hx hb dL_law_1304 hl (k := 6) rfl (by rw [ex4_289]; rfl) (by decide) rfl (fun ls hl => ?_)
            refine lv_goto (tgt := 23) hx hb dL_law_1307 (by decide) ?_
            refine W.widen (k := 45 + (j + 1)) (n := 8039 + 6 * (j + 1)) (by omega) (by omega) ?_
            exact ih23 (j + 1) (by omega) x4_289 _ _ _ _ _ hf C (lv_sub hl [3, 4, 5, 6, 0] rfl)
          · replace hf := (if_pos c_288).symm.trans hf
            refine lv_aload_n hx hb dL_law_944 rfl (lv_at hl 5 rfl) ?_
            refine lv_iconst (v := 0) hx hb dL_law_945 (by decide) ?_
            obtain ⟨g_290, hf⟩ := gd_some hf
            refine cx_lald C hx hb 23 rfl g_290 dL_law_946 ?_
            refine lv_iload hx hb dL_law_947 (lv_at hl 0 rfl) ?_
            refine lv_i2l hx hb dL_law_949 rfl ?_
            refine W.lcmp hx hb dL_law_950 ?_
            refine lv_if_eq (tgt := 956) hx hb dL_law_951 (by decide) (fun c_291 => ?_) (fun c_291 => ?_)
            · replace hf := (if_pos ((lg_cmp_eq _ _).mp c_291)).symm.trans hf
              refine lv_goto (tgt := 1304) hx hb dL_law_956 (by decide) ?_
              obtain ⟨x4_292, ex4_292⟩ : ∃ y : Int32, y = x4 + 7 := ⟨_, rfl⟩
              replace hf := lt_at hf ex4_292
              refine lv_iinc (v := x4_292) (lv' := [(4, .int x4_292), (6, .int r_282), (5, .int r_278), (0, .ref b), (1, .ref (ad 0)), (2, .ref (am 0)), (3, .ref aO)]) hx hb dL_law_1304 hl (k := 6) rfl (by rw [ex4_292]; rfl) (by decide) rfl (fun ls hl => ?_)
              refine lv_goto (tgt := 23) hx hb dL_law_1307 (by decide) ?_
              refine W.widen (k := 45 + (j + 1)) (n := 8039 + 6 * (j + 1)) (by omega) (by omega) ?_
              exact ih23 (j + 1) (by omega) x4_292 _ _ _ _ _ hf C (lv_sub hl [3, 4, 5, 6, 0] rfl)
            · replace hf := (if_neg (fun q => c_291 ((lg_cmp_eq _ _).mpr q))).symm.trans hf
              refine lv_iconst (v := 0) hx hb dL_law_954 (by decide) ?_
              cases hf
        · replace hf := (if_neg c_287).symm.trans hf
          refine lv_iconst (v := 0) hx hb dL_law_937 (by decide) ?_
          cases hf
      replace hf := (if_neg c_275).symm.trans hf
      by_cases c_293 : sw = 13
      · replace hf := (if_pos c_293).symm.trans hf
        subst c_293
        refine lv_tableIn (tgt := 959) hx hb dL_law_40 (by decide) (by decide) (by rfl) (by decide) ?_
        refine lv_aload_n hx hb dL_law_959 rfl (lv_at hl 1 rfl) ?_
        refine lv_aload_n hx hb dL_law_960 rfl (lv_at hl 0 rfl) ?_
        refine lv_iload hx hb dL_law_961 (lv_at hl 4 rfl) ?_
        refine lv_iconst (v := 1) hx hb dL_law_963 (by decide) ?_
        refine lv_iadd hx hb dL_law_964 ?_
        obtain ⟨g_294, hf⟩ := gd_some hf
        refine va_sld hx hb hX hbl hbA C.2.2.2.1 (okI_in g_294) dL_law_965 ?_
        refine lv_aload_n hx hb dL_law_966 rfl (lv_at hl 3 rfl) ?_
        obtain ⟨r_296, z_297, h_295, hf⟩ := bndH_some hf
        refine cl_calli C (vx_runSW (As := [.ref (ad 0), .int (xs (x4 + 1).toNatClampNeg), .ref aO]) (rest := []) ⟨hx, hb, hml, hown, hts⟩ (kk_L_length l ad aO ck D tt hst h_295 _) (vx_cwSW 3 hts gL_law_L_length rfl rfl rfl (by decide +kernel) ⟨Nat.le_of_ble_eq_true rfl, Nat.le_of_ble_eq_true rfl⟩) (cx_preS C.l) rfl rfl hl.1 rfl (lv_room (Nat.le_of_ble_eq_true rfl)) dL_law_967 ⟨by show 45 + j + 1 ≤ 1083; omega, by show 8039 + 6 * j + 6 ≤ 16315; omega⟩) (fun H locs C => ?_)
        refine W.widen (k := 45 + (j + 1)) (n := 8039 + 6 * (j + 1)) (by omega) (by omega) ?_
        refine lv_istore (lv' := [(5, .int r_296), (0, .ref b), (1, .ref (ad 0)), (2, .ref (am 0)), (3, .ref aO), (4, .int x4)]) hx hb dL_law_970 hl (by decide) rfl (fun ls hl => ?_)
        refine lv_aload_n hx hb dL_law_972 rfl (lv_at hl 3 rfl) ?_
        refine lv_aload_n hx hb dL_law_973 rfl (lv_at hl 1 rfl) ?_
        refine lv_iload hx hb dL_law_974 (lv_at hl 5 rfl) ?_
        refine lv_iconst (v := 1) hx hb dL_law_976 (by decide) ?_
        refine lv_iadd hx hb dL_law_977 ?_
        obtain ⟨g_298, hf⟩ := gd_some hf
        refine va_sld hx hb hX hbl hbA C.2.2.2.1 (okI_in g_298) dL_law_978 ?_
        obtain ⟨r_300, v_301, h_299, hf⟩ := bnd_some hf
        refine cr_calli C (va_runV (As := [.int (xs (x4 + 1).toNatClampNeg)]) (rest := []) ⟨hx, hb, hml, hown, hts⟩ (k_X5_length l am ck D tt h_299 _) (cwV 1 hts gL_law_X5_length rfl rfl rfl (by decide +kernel) ⟨Nat.le_of_ble_eq_true rfl, Nat.le_of_ble_eq_true rfl⟩) (cx_preV C.r (q0 := 0) (ci := 5) rfl rfl) rfl rfl hl.1 rfl (lv_room (Nat.le_of_ble_eq_true rfl)) dL_law_979 ⟨by show 45 + (j + 1) + 0 ≤ 1083; omega, by show 8039 + 6 * (j + 1) + 0 ≤ 16315; omega⟩) (fun H locs C => ?_)
        refine lv_istore (lv' := [(6, .int r_300), (5, .int r_296), (0, .ref b), (1, .ref (ad 0)), (2, .ref (am 0)), (3, .ref aO), (4, .int x4)]) hx hb dL_law_982 hl (by decide) rfl (fun ls hl => ?_)
        refine lv_aload_n hx hb dL_law_984 rfl (lv_at hl 4 rfl) ?_
        obtain ⟨r_303, v_304, h_302, hf⟩ := bnd_some hf
        refine cr_calli C (va_runV (As := []) (rest := []) ⟨hx, hb, hml, hown, hts⟩ (k_X5_thrown l am ck D tt h_302 _) (cwV 0 hts gL_law_X5_thrown rfl rfl rfl (by decide +kernel) ⟨Nat.le_of_ble_eq_true rfl, Nat.le_of_ble_eq_true rfl⟩) (cx_preV C.r (q0 := 0) (ci := 5) rfl rfl) rfl rfl hl.1 rfl (lv_room (Nat.le_of_ble_eq_true rfl)) dL_law_985 ⟨by show 45 + (j + 1) + 0 ≤ 1083; omega, by show 8039 + 6 * (j + 1) + 0 ≤ 16315; omega⟩) (fun H locs C => ?_)
        refine lv_iload hx hb dL_law_988 (lv_at hl 1 rfl) ?_
        refine lv_icmp_eq (tgt := 995) hx hb dL_law_990 (by decide) (fun c_305 => ?_) (fun c_305 => ?_)
        · replace hf := (if_pos c_305).symm.trans hf
          refine lv_iload hx hb dL_law_995 (lv_at hl 1 rfl) ?_
          refine lv_if_ne (tgt := 1012) hx hb dL_law_997 (by decide) (fun c_306 => ?_) (fun c_306 => ?_)
          · replace hf := (if_neg c_306).symm.trans hf
            refine lv_goto (tgt := 1304) hx hb dL_law_1012 (by decide) ?_
            obtain ⟨x4_307, ex4_307⟩ : ∃ y : Int32, y = x4 + 7 := ⟨_, rfl⟩
            replace hf := lt_at hf ex4_307
            refine lv_iinc (v := x4_307) (lv' := [(4, .int x4_307), (6, .int r_300), (5, .int r_296), (0, .ref b), (1, .ref (ad 0)), (2, .ref (am 0)), (3, .ref aO)]) hx hb dL_law_1304 hl (k := 6) rfl (by rw [ex4_307]; rfl) (by decide) rfl (fun ls hl => ?_)
            refine lv_goto (tgt := 23) hx hb dL_law_1307 (by decide) ?_
            refine W.widen (k := 45 + (j + 1)) (n := 8039 + 6 * (j + 1)) (by omega) (by omega) ?_
            exact ih23 (j + 1) (by omega) x4_307 _ _ _ _ _ hf C (lv_sub hl [3, 4, 5, 6, 0] rfl)
          · replace hf := (if_pos c_306).symm.trans hf
            refine lv_aload_n hx hb dL_law_1000 rfl (lv_at hl 5 rfl) ?_
            refine lv_iconst (v := 0) hx hb dL_law_1001 (by decide) ?_
            obtain ⟨g_308, hf⟩ := gd_some hf
            refine cx_lald C hx hb 23 rfl g_308 dL_law_1002 ?_
            refine lv_iload hx hb dL_law_1003 (lv_at hl 0 rfl) ?_
            refine lv_i2l hx hb dL_law_1005 rfl ?_
            refine W.lcmp hx hb dL_law_1006 ?_
            refine lv_if_eq (tgt := 1012) hx hb dL_law_1007 (by decide) (fun c_309 => ?_) (fun c_309 => ?_)
            · replace hf := (if_pos ((lg_cmp_eq _ _).mp c_309)).symm.trans hf
              refine lv_goto (tgt := 1304) hx hb dL_law_1012 (by decide) ?_
              obtain ⟨x4_310, ex4_310⟩ : ∃ y : Int32, y = x4 + 7 := ⟨_, rfl⟩
              replace hf := lt_at hf ex4_310
              refine lv_iinc (v := x4_310) (lv' := [(4, .int x4_310), (6, .int r_300), (5, .int r_296), (0, .ref b), (1, .ref (ad 0)), (2, .ref (am 0)), (3, .ref aO)]) hx hb dL_law_1304 hl (k := 6) rfl (by rw [ex4_310]; rfl) (by decide) rfl (fun ls hl => ?_)
              refine lv_goto (tgt := 23) hx hb dL_law_1307 (by decide) ?_
              refine W.widen (k := 45 + (j + 1)) (n := 8039 + 6 * (j + 1)) (by omega) (by omega) ?_
              exact ih23 (j + 1) (by omega) x4_310 _ _ _ _ _ hf C (lv_sub hl [3, 4, 5, 6, 0] rfl)
            · replace hf := (if_neg (fun q => c_309 ((lg_cmp_eq _ _).mpr q))).symm.trans hf
              refine lv_iconst (v := 0) hx hb dL_law_1010 (by decide) ?_
              cases hf
        · replace hf := (if_neg c_305).symm.trans hf
          refine lv_iconst (v := 0) hx hb dL_law_993 (by decide) ?_
          cases hf
      replace hf := (if_neg c_293).symm.trans hf
      by_cases c_311 : sw = 14
      · replace hf := (if_pos c_311).symm.trans hf
        subst c_311
        refine lv_tableIn (tgt := 1015) hx hb dL_law_40 (by decide) (by decide) (by rfl) (by decide) ?_
        refine lv_aload_n hx hb dL_law_1015 rfl (lv_at hl 1 rfl) ?_
        refine lv_aload_n hx hb dL_law_1016 rfl (lv_at hl 0 rfl) ?_
        refine lv_iload hx hb dL_law_1017 (lv_at hl 4 rfl) ?_
        refine lv_iconst (v := 1) hx hb dL_law_1019 (by decide) ?_
        refine lv_iadd hx hb dL_law_1020 ?_
        obtain ⟨g_312, hf⟩ := gd_some hf
        refine va_sld hx hb hX hbl hbA C.2.2.2.1 (okI_in g_312) dL_law_1021 ?_
        refine lv_aload_n hx hb dL_law_1022 rfl (lv_at hl 0 rfl) ?_
        refine lv_iload hx hb dL_law_1023 (lv_at hl 4 rfl) ?_
        refine lv_iconst (v := 2) hx hb dL_law_1025 (by decide) ?_
        refine lv_iadd hx hb dL_law_1026 ?_
        obtain ⟨g_313, hf⟩ := gd_some hf
        refine va_sld hx hb hX hbl hbA C.2.2.2.1 (okI_in g_313) dL_law_1027 ?_
        refine lv_aload_n hx hb dL_law_1028 rfl (lv_at hl 3 rfl) ?_
        obtain ⟨r_315, z_316, h_314, hf⟩ := bndH_some hf
        refine cl_calli C (vx_runSW (As := [.ref (ad 0), .int (xs (x4 + 1).toNatClampNeg), .int (xs (x4 + 2).toNatClampNeg), .ref aO]) (rest := []) ⟨hx, hb, hml, hown, hts⟩ (kk_L_charAt l ad aO ck D tt hst h_314 _) (vx_cwSW 4 hts gL_law_L_charAt rfl rfl rfl (by decide +kernel) ⟨Nat.le_of_ble_eq_true rfl, Nat.le_of_ble_eq_true rfl⟩) (cx_preS C.l) rfl rfl hl.1 rfl (lv_room (Nat.le_of_ble_eq_true rfl)) dL_law_1029 ⟨by show 45 + j + 1 ≤ 1083; omega, by show 8039 + 6 * j + 6 ≤ 16315; omega⟩) (fun H locs C => ?_)
        refine W.widen (k := 45 + (j + 1)) (n := 8039 + 6 * (j + 1)) (by omega) (by omega) ?_
        refine lv_istore (lv' := [(5, .int r_315), (0, .ref b), (1, .ref (ad 0)), (2, .ref (am 0)), (3, .ref aO), (4, .int x4)]) hx hb dL_law_1032 hl (by decide) rfl (fun ls hl => ?_)
        refine lv_aload_n hx hb dL_law_1034 rfl (lv_at hl 3 rfl) ?_
        refine lv_aload_n hx hb dL_law_1035 rfl (lv_at hl 1 rfl) ?_
        refine lv_iload hx hb dL_law_1036 (lv_at hl 5 rfl) ?_
        refine lv_iconst (v := 1) hx hb dL_law_1038 (by decide) ?_
        refine lv_iadd hx hb dL_law_1039 ?_
        obtain ⟨g_317, hf⟩ := gd_some hf
        refine va_sld hx hb hX hbl hbA C.2.2.2.1 (okI_in g_317) dL_law_1040 ?_
        refine lv_aload_n hx hb dL_law_1041 rfl (lv_at hl 1 rfl) ?_
        refine lv_iload hx hb dL_law_1042 (lv_at hl 5 rfl) ?_
        refine lv_iconst (v := 2) hx hb dL_law_1044 (by decide) ?_
        refine lv_iadd hx hb dL_law_1045 ?_
        obtain ⟨g_318, hf⟩ := gd_some hf
        refine va_sld hx hb hX hbl hbA C.2.2.2.1 (okI_in g_318) dL_law_1046 ?_
        obtain ⟨r_320, v_321, h_319, hf⟩ := bnd_some hf
        refine cr_calli C (va_runV (As := [.int (xs (x4 + 1).toNatClampNeg), .int (xs (x4 + 2).toNatClampNeg)]) (rest := []) ⟨hx, hb, hml, hown, hts⟩ (k_X5_charAt l am ck D tt h_319 _) (cwV 2 hts gL_law_X5_charAt rfl rfl rfl (by decide +kernel) ⟨Nat.le_of_ble_eq_true rfl, Nat.le_of_ble_eq_true rfl⟩) (cx_preV C.r (q0 := 0) (ci := 5) rfl rfl) rfl rfl hl.1 rfl (lv_room (Nat.le_of_ble_eq_true rfl)) dL_law_1047 ⟨by show 45 + (j + 1) + 0 ≤ 1083; omega, by show 8039 + 6 * (j + 1) + 0 ≤ 16315; omega⟩) (fun H locs C => ?_)
        refine lv_istore (lv' := [(6, .int r_320), (5, .int r_315), (0, .ref b), (1, .ref (ad 0)), (2, .ref (am 0)), (3, .ref aO), (4, .int x4)]) hx hb dL_law_1050 hl (by decide) rfl (fun ls hl => ?_)
        refine lv_aload_n hx hb dL_law_1052 rfl (lv_at hl 4 rfl) ?_
        obtain ⟨r_323, v_324, h_322, hf⟩ := bnd_some hf
        refine cr_calli C (va_runV (As := []) (rest := []) ⟨hx, hb, hml, hown, hts⟩ (k_X5_thrown l am ck D tt h_322 _) (cwV 0 hts gL_law_X5_thrown rfl rfl rfl (by decide +kernel) ⟨Nat.le_of_ble_eq_true rfl, Nat.le_of_ble_eq_true rfl⟩) (cx_preV C.r (q0 := 0) (ci := 5) rfl rfl) rfl rfl hl.1 rfl (lv_room (Nat.le_of_ble_eq_true rfl)) dL_law_1053 ⟨by show 45 + (j + 1) + 0 ≤ 1083; omega, by show 8039 + 6 * (j + 1) + 0 ≤ 16315; omega⟩) (fun H locs C => ?_)
        refine lv_iload hx hb dL_law_1056 (lv_at hl 1 rfl) ?_
        refine lv_icmp_eq (tgt := 1063) hx hb dL_law_1058 (by decide) (fun c_325 => ?_) (fun c_325 => ?_)
        · replace hf := (if_pos c_325).symm.trans hf
          refine lv_iload hx hb dL_law_1063 (lv_at hl 1 rfl) ?_
          refine lv_if_ne (tgt := 1080) hx hb dL_law_1065 (by decide) (fun c_326 => ?_) (fun c_326 => ?_)
          · replace hf := (if_neg c_326).symm.trans hf
            refine lv_goto (tgt := 1304) hx hb dL_law_1080 (by decide) ?_
            obtain ⟨x4_327, ex4_327⟩ : ∃ y : Int32, y = x4 + 7 := ⟨_, rfl⟩
            replace hf := lt_at hf ex4_327
            refine lv_iinc (v := x4_327) (lv' := [(4, .int x4_327), (6, .int r_320), (5, .int r_315), (0, .ref b), (1, .ref (ad 0)), (2, .ref (am 0)), (3, .ref aO)]) hx hb dL_law_1304 hl (k := 6) rfl (by rw [ex4_327]; rfl) (by decide) rfl (fun ls hl => ?_)
            refine lv_goto (tgt := 23) hx hb dL_law_1307 (by decide) ?_
            refine W.widen (k := 45 + (j + 1)) (n := 8039 + 6 * (j + 1)) (by omega) (by omega) ?_
            exact ih23 (j + 1) (by omega) x4_327 _ _ _ _ _ hf C (lv_sub hl [3, 4, 5, 6, 0] rfl)
          · replace hf := (if_pos c_326).symm.trans hf
            refine lv_aload_n hx hb dL_law_1068 rfl (lv_at hl 5 rfl) ?_
            refine lv_iconst (v := 0) hx hb dL_law_1069 (by decide) ?_
            obtain ⟨g_328, hf⟩ := gd_some hf
            refine cx_lald C hx hb 23 rfl g_328 dL_law_1070 ?_
            refine lv_iload hx hb dL_law_1071 (lv_at hl 0 rfl) ?_
            refine lv_i2l hx hb dL_law_1073 rfl ?_
            refine W.lcmp hx hb dL_law_1074 ?_
            refine lv_if_eq (tgt := 1080) hx hb dL_law_1075 (by decide) (fun c_329 => ?_) (fun c_329 => ?_)
            · replace hf := (if_pos ((lg_cmp_eq _ _).mp c_329)).symm.trans hf
              refine lv_goto (tgt := 1304) hx hb dL_law_1080 (by decide) ?_
              obtain ⟨x4_330, ex4_330⟩ : ∃ y : Int32, y = x4 + 7 := ⟨_, rfl⟩
              replace hf := lt_at hf ex4_330
              refine lv_iinc (v := x4_330) (lv' := [(4, .int x4_330), (6, .int r_320), (5, .int r_315), (0, .ref b), (1, .ref (ad 0)), (2, .ref (am 0)), (3, .ref aO)]) hx hb dL_law_1304 hl (k := 6) rfl (by rw [ex4_330]; rfl) (by decide) rfl (fun ls hl => ?_)
              refine lv_goto (tgt := 23) hx hb dL_law_1307 (by decide) ?_
              refine W.widen (k := 45 + (j + 1)) (n := 8039 + 6 * (j + 1)) (by omega) (by omega) ?_
              exact ih23 (j + 1) (by omega) x4_330 _ _ _ _ _ hf C (lv_sub hl [3, 4, 5, 6, 0] rfl)
            · replace hf := (if_neg (fun q => c_329 ((lg_cmp_eq _ _).mpr q))).symm.trans hf
              refine lv_iconst (v := 0) hx hb dL_law_1078 (by decide) ?_
              cases hf
        · replace hf := (if_neg c_325).symm.trans hf
          refine lv_iconst (v := 0) hx hb dL_law_1061 (by decide) ?_
          cases hf
      replace hf := (if_neg c_311).symm.trans hf
      by_cases c_331 : sw = 15
      · replace hf := (if_pos c_331).symm.trans hf
        subst c_331
        refine lv_tableIn (tgt := 1083) hx hb dL_law_40 (by decide) (by decide) (by rfl) (by decide) ?_
        refine lv_aload_n hx hb dL_law_1083 rfl (lv_at hl 1 rfl) ?_
        refine lv_aload_n hx hb dL_law_1084 rfl (lv_at hl 0 rfl) ?_
        refine lv_iload hx hb dL_law_1085 (lv_at hl 4 rfl) ?_
        refine lv_iconst (v := 1) hx hb dL_law_1087 (by decide) ?_
        refine lv_iadd hx hb dL_law_1088 ?_
        obtain ⟨g_332, hf⟩ := gd_some hf
        refine va_sld hx hb hX hbl hbA C.2.2.2.1 (okI_in g_332) dL_law_1089 ?_
        refine lv_aload_n hx hb dL_law_1090 rfl (lv_at hl 0 rfl) ?_
        refine lv_iload hx hb dL_law_1091 (lv_at hl 4 rfl) ?_
        refine lv_iconst (v := 2) hx hb dL_law_1093 (by decide) ?_
        refine lv_iadd hx hb dL_law_1094 ?_
        obtain ⟨g_333, hf⟩ := gd_some hf
        refine va_sld hx hb hX hbl hbA C.2.2.2.1 (okI_in g_333) dL_law_1095 ?_
        refine lv_aload_n hx hb dL_law_1096 rfl (lv_at hl 0 rfl) ?_
        refine lv_iload hx hb dL_law_1097 (lv_at hl 4 rfl) ?_
        refine lv_iconst (v := 3) hx hb dL_law_1099 (by decide) ?_
        refine lv_iadd hx hb dL_law_1100 ?_
        obtain ⟨g_334, hf⟩ := gd_some hf
        refine va_sld hx hb hX hbl hbA C.2.2.2.1 (okI_in g_334) dL_law_1101 ?_
        refine lv_i2l hx hb dL_law_1102 rfl ?_
        refine lv_bipush (v := 32) hx hb dL_law_1103 (by decide) ?_
        refine lv_lshl (v := (lshl_ ((xs (x4 + 3).toNatClampNeg).toInt64) 32)) hx hb dL_law_1105 rfl ?_
        refine lv_aload_n hx hb dL_law_1106 rfl (lv_at hl 0 rfl) ?_
        refine lv_iload hx hb dL_law_1107 (lv_at hl 4 rfl) ?_
        refine lv_iconst (v := 4) hx hb dL_law_1109 (by decide) ?_
        refine lv_iadd hx hb dL_law_1110 ?_
        obtain ⟨g_335, hf⟩ := gd_some hf
        refine va_sld hx hb hX hbl hbA C.2.2.2.1 (okI_in g_335) dL_law_1111 ?_
        refine lv_i2l hx hb dL_law_1112 rfl ?_
        refine lv_ldc2 (v := 4294967295) hx hb hown (hts (.constantLong RL 87 (4294967295)) (by decide +kernel)) dL_law_1113 ?_
        refine lv_land hx hb dL_law_1116 ?_
        refine lv_lor hx hb dL_law_1117 ?_
        refine lv_aload_n hx hb dL_law_1118 rfl (lv_at hl 0 rfl) ?_
        refine lv_iload hx hb dL_law_1119 (lv_at hl 4 rfl) ?_
        refine lv_iconst (v := 5) hx hb dL_law_1121 (by decide) ?_
        refine lv_iadd hx hb dL_law_1122 ?_
        obtain ⟨g_336, hf⟩ := gd_some hf
        refine va_sld hx hb hX hbl hbA C.2.2.2.1 (okI_in g_336) dL_law_1123 ?_
        refine lv_i2l hx hb dL_law_1124 rfl ?_
        refine lv_bipush (v := 32) hx hb dL_law_1125 (by decide) ?_
        refine lv_lshl (v := (lshl_ ((xs (x4 + 5).toNatClampNeg).toInt64) 32)) hx hb dL_law_1127 rfl ?_
        refine lv_aload_n hx hb dL_law_1128 rfl (lv_at hl 0 rfl) ?_
        refine lv_iload hx hb dL_law_1129 (lv_at hl 4 rfl) ?_
        refine lv_bipush (v := 6) hx hb dL_law_1131 (by decide) ?_
        refine lv_iadd hx hb dL_law_1133 ?_
        obtain ⟨g_337, hf⟩ := gd_some hf
        refine va_sld hx hb hX hbl hbA C.2.2.2.1 (okI_in g_337) dL_law_1134 ?_
        refine lv_i2l hx hb dL_law_1135 rfl ?_
        refine lv_ldc2 (v := 4294967295) hx hb hown (hts (.constantLong RL 87 (4294967295)) (by decide +kernel)) dL_law_1136 ?_
        refine lv_land hx hb dL_law_1139 ?_
        refine lv_lor hx hb dL_law_1140 ?_
        refine lv_aload_n hx hb dL_law_1141 rfl (lv_at hl 3 rfl) ?_
        obtain ⟨r_339, z_340, h_338, hf⟩ := bndH_some hf
        refine cl_calli C (vx_runSW (As := [.ref (ad 0), .int (xs (x4 + 1).toNatClampNeg), .int (xs (x4 + 2).toNatClampNeg), .long ((lshl_ ((xs (x4 + 3).toNatClampNeg).toInt64) 32) ||| (((xs (x4 + 4).toNatClampNeg).toInt64) &&& 4294967295)), .long ((lshl_ ((xs (x4 + 5).toNatClampNeg).toInt64) 32) ||| (((xs (x4 + 6).toNatClampNeg).toInt64) &&& 4294967295)), .ref aO]) (rest := []) ⟨hx, hb, hml, hown, hts⟩ (kk_L_having l ad aO ck D tt hst h_338 _) (vx_cwSW 6 hts gL_law_L_having rfl rfl rfl (by decide +kernel) ⟨Nat.le_of_ble_eq_true rfl, Nat.le_of_ble_eq_true rfl⟩) (cx_preS C.l) rfl rfl hl.1 rfl (lv_room (Nat.le_of_ble_eq_true rfl)) dL_law_1142 ⟨by show 45 + j + 1 ≤ 1083; omega, by show 8039 + 6 * j + 6 ≤ 16315; omega⟩) (fun H locs C => ?_)
        refine W.widen (k := 45 + (j + 1)) (n := 8039 + 6 * (j + 1)) (by omega) (by omega) ?_
        refine lv_istore (lv' := [(5, .int r_339), (0, .ref b), (1, .ref (ad 0)), (2, .ref (am 0)), (3, .ref aO), (4, .int x4)]) hx hb dL_law_1145 hl (by decide) rfl (fun ls hl => ?_)
        refine lv_aload_n hx hb dL_law_1147 rfl (lv_at hl 3 rfl) ?_
        refine lv_aload_n hx hb dL_law_1148 rfl (lv_at hl 1 rfl) ?_
        refine lv_iload hx hb dL_law_1149 (lv_at hl 5 rfl) ?_
        refine lv_iconst (v := 1) hx hb dL_law_1151 (by decide) ?_
        refine lv_iadd hx hb dL_law_1152 ?_
        obtain ⟨g_341, hf⟩ := gd_some hf
        refine va_sld hx hb hX hbl hbA C.2.2.2.1 (okI_in g_341) dL_law_1153 ?_
        refine lv_aload_n hx hb dL_law_1154 rfl (lv_at hl 1 rfl) ?_
        refine lv_iload hx hb dL_law_1155 (lv_at hl 5 rfl) ?_
        refine lv_iconst (v := 2) hx hb dL_law_1157 (by decide) ?_
        refine lv_iadd hx hb dL_law_1158 ?_
        obtain ⟨g_342, hf⟩ := gd_some hf
        refine va_sld hx hb hX hbl hbA C.2.2.2.1 (okI_in g_342) dL_law_1159 ?_
        refine lv_aload_n hx hb dL_law_1160 rfl (lv_at hl 1 rfl) ?_
        refine lv_iload hx hb dL_law_1161 (lv_at hl 5 rfl) ?_
        refine lv_iconst (v := 3) hx hb dL_law_1163 (by decide) ?_
        refine lv_iadd hx hb dL_law_1164 ?_
        obtain ⟨g_343, hf⟩ := gd_some hf
        refine va_sld hx hb hX hbl hbA C.2.2.2.1 (okI_in g_343) dL_law_1165 ?_
        refine lv_i2l hx hb dL_law_1166 rfl ?_
        refine lv_bipush (v := 32) hx hb dL_law_1167 (by decide) ?_
        refine lv_lshl (v := (lshl_ ((xs (x4 + 3).toNatClampNeg).toInt64) 32)) hx hb dL_law_1169 rfl ?_
        refine lv_aload_n hx hb dL_law_1170 rfl (lv_at hl 1 rfl) ?_
        refine lv_iload hx hb dL_law_1171 (lv_at hl 5 rfl) ?_
        refine lv_iconst (v := 4) hx hb dL_law_1173 (by decide) ?_
        refine lv_iadd hx hb dL_law_1174 ?_
        obtain ⟨g_344, hf⟩ := gd_some hf
        refine va_sld hx hb hX hbl hbA C.2.2.2.1 (okI_in g_344) dL_law_1175 ?_
        refine lv_i2l hx hb dL_law_1176 rfl ?_
        refine lv_ldc2 (v := 4294967295) hx hb hown (hts (.constantLong RL 87 (4294967295)) (by decide +kernel)) dL_law_1177 ?_
        refine lv_land hx hb dL_law_1180 ?_
        refine lv_lor hx hb dL_law_1181 ?_
        refine lv_aload_n hx hb dL_law_1182 rfl (lv_at hl 1 rfl) ?_
        refine lv_iload hx hb dL_law_1183 (lv_at hl 5 rfl) ?_
        refine lv_iconst (v := 5) hx hb dL_law_1185 (by decide) ?_
        refine lv_iadd hx hb dL_law_1186 ?_
        obtain ⟨g_345, hf⟩ := gd_some hf
        refine va_sld hx hb hX hbl hbA C.2.2.2.1 (okI_in g_345) dL_law_1187 ?_
        refine lv_i2l hx hb dL_law_1188 rfl ?_
        refine lv_bipush (v := 32) hx hb dL_law_1189 (by decide) ?_
        refine lv_lshl (v := (lshl_ ((xs (x4 + 5).toNatClampNeg).toInt64) 32)) hx hb dL_law_1191 rfl ?_
        refine lv_aload_n hx hb dL_law_1192 rfl (lv_at hl 1 rfl) ?_
        refine lv_iload hx hb dL_law_1193 (lv_at hl 5 rfl) ?_
        refine lv_bipush (v := 6) hx hb dL_law_1195 (by decide) ?_
        refine lv_iadd hx hb dL_law_1197 ?_
        obtain ⟨g_346, hf⟩ := gd_some hf
        refine va_sld hx hb hX hbl hbA C.2.2.2.1 (okI_in g_346) dL_law_1198 ?_
        refine lv_i2l hx hb dL_law_1199 rfl ?_
        refine lv_ldc2 (v := 4294967295) hx hb hown (hts (.constantLong RL 87 (4294967295)) (by decide +kernel)) dL_law_1200 ?_
        refine lv_land hx hb dL_law_1203 ?_
        refine lv_lor hx hb dL_law_1204 ?_
        obtain ⟨r_348, v_349, h_347, hf⟩ := bnd_some hf
        refine cr_calli C (va_runV (As := [.int (xs (x4 + 1).toNatClampNeg), .int (xs (x4 + 2).toNatClampNeg), .long ((lshl_ ((xs (x4 + 3).toNatClampNeg).toInt64) 32) ||| (((xs (x4 + 4).toNatClampNeg).toInt64) &&& 4294967295)), .long ((lshl_ ((xs (x4 + 5).toNatClampNeg).toInt64) 32) ||| (((xs (x4 + 6).toNatClampNeg).toInt64) &&& 4294967295))]) (rest := []) ⟨hx, hb, hml, hown, hts⟩ (k_X5_having l am ck D tt h_347 _) (cwV 4 hts gL_law_X5_having rfl rfl rfl (by decide +kernel) ⟨Nat.le_of_ble_eq_true rfl, Nat.le_of_ble_eq_true rfl⟩) (cx_preV C.r (q0 := 0) (ci := 5) rfl rfl) rfl rfl hl.1 rfl (lv_room (Nat.le_of_ble_eq_true rfl)) dL_law_1205 ⟨by show 45 + (j + 1) + 0 ≤ 1083; omega, by show 8039 + 6 * (j + 1) + 0 ≤ 16315; omega⟩) (fun H locs C => ?_)
        refine lv_istore (lv' := [(6, .int r_348), (5, .int r_339), (0, .ref b), (1, .ref (ad 0)), (2, .ref (am 0)), (3, .ref aO), (4, .int x4)]) hx hb dL_law_1208 hl (by decide) rfl (fun ls hl => ?_)
        refine lv_aload_n hx hb dL_law_1210 rfl (lv_at hl 4 rfl) ?_
        obtain ⟨r_351, v_352, h_350, hf⟩ := bnd_some hf
        refine cr_calli C (va_runV (As := []) (rest := []) ⟨hx, hb, hml, hown, hts⟩ (k_X5_thrown l am ck D tt h_350 _) (cwV 0 hts gL_law_X5_thrown rfl rfl rfl (by decide +kernel) ⟨Nat.le_of_ble_eq_true rfl, Nat.le_of_ble_eq_true rfl⟩) (cx_preV C.r (q0 := 0) (ci := 5) rfl rfl) rfl rfl hl.1 rfl (lv_room (Nat.le_of_ble_eq_true rfl)) dL_law_1211 ⟨by show 45 + (j + 1) + 0 ≤ 1083; omega, by show 8039 + 6 * (j + 1) + 0 ≤ 16315; omega⟩) (fun H locs C => ?_)
        refine lv_iload hx hb dL_law_1214 (lv_at hl 1 rfl) ?_
        refine lv_icmp_eq (tgt := 1221) hx hb dL_law_1216 (by decide) (fun c_353 => ?_) (fun c_353 => ?_)
        · replace hf := (if_pos c_353).symm.trans hf
          refine lv_iload hx hb dL_law_1221 (lv_at hl 1 rfl) ?_
          refine lv_if_ne (tgt := 1245) hx hb dL_law_1223 (by decide) (fun c_354 => ?_) (fun c_354 => ?_)
          · replace hf := (if_neg c_354).symm.trans hf
            refine lv_goto (tgt := 1304) hx hb dL_law_1245 (by decide) ?_
            obtain ⟨x4_355, ex4_355⟩ : ∃ y : Int32, y = x4 + 7 := ⟨_, rfl⟩
            replace hf := lt_at hf ex4_355
            refine lv_iinc (v := x4_355) (lv' := [(4, .int x4_355), (6, .int r_348), (5, .int r_339), (0, .ref b), (1, .ref (ad 0)), (2, .ref (am 0)), (3, .ref aO)]) hx hb dL_law_1304 hl (k := 6) rfl (by rw [ex4_355]; rfl) (by decide) rfl (fun ls hl => ?_)
            refine lv_goto (tgt := 23) hx hb dL_law_1307 (by decide) ?_
            refine W.widen (k := 45 + (j + 1)) (n := 8039 + 6 * (j + 1)) (by omega) (by omega) ?_
            exact ih23 (j + 1) (by omega) x4_355 _ _ _ _ _ hf C (lv_sub hl [3, 4, 5, 6, 0] rfl)
          · replace hf := (if_pos c_354).symm.trans hf
            refine lv_aload_n hx hb dL_law_1226 rfl (lv_at hl 5 rfl) ?_
            refine lv_iconst (v := 0) hx hb dL_law_1227 (by decide) ?_
            obtain ⟨g_356, hf⟩ := gd_some hf
            refine cx_lald C hx hb 23 rfl g_356 dL_law_1228 ?_
            refine lv_iload hx hb dL_law_1229 (lv_at hl 0 rfl) ?_
            refine lv_if_eq (tgt := 1238) hx hb dL_law_1231 (by decide) (fun c_357 => ?_) (fun c_357 => ?_)
            · replace hf := (if_pos c_357).symm.trans hf
              refine lv_lconst (v := 0) hx hb dL_law_1238 (by decide) ?_
              refine W.lcmp hx hb dL_law_1239 ?_
              refine lv_if_eq (tgt := 1245) hx hb dL_law_1240 (by decide) (fun c_358 => ?_) (fun c_358 => ?_)
              · replace hf := (if_pos ((lg_cmp_eq _ _).mp c_358)).symm.trans hf
                refine lv_goto (tgt := 1304) hx hb dL_law_1245 (by decide) ?_
                obtain ⟨x4_359, ex4_359⟩ : ∃ y : Int32, y = x4 + 7 := ⟨_, rfl⟩
                replace hf := lt_at hf ex4_359
                refine lv_iinc (v := x4_359) (lv' := [(4, .int x4_359), (6, .int r_348), (5, .int r_339), (0, .ref b), (1, .ref (ad 0)), (2, .ref (am 0)), (3, .ref aO)]) hx hb dL_law_1304 hl (k := 6) rfl (by rw [ex4_359]; rfl) (by decide) rfl (fun ls hl => ?_)
                refine lv_goto (tgt := 23) hx hb dL_law_1307 (by decide) ?_
                refine W.widen (k := 45 + (j + 1)) (n := 8039 + 6 * (j + 1)) (by omega) (by omega) ?_
                exact ih23 (j + 1) (by omega) x4_359 _ _ _ _ _ hf C (lv_sub hl [3, 4, 5, 6, 0] rfl)
              · replace hf := (if_neg (fun q => c_358 ((lg_cmp_eq _ _).mpr q))).symm.trans hf
                refine lv_iconst (v := 0) hx hb dL_law_1243 (by decide) ?_
                cases hf
            · replace hf := (if_neg c_357).symm.trans hf
              refine lv_lconst (v := 1) hx hb dL_law_1234 (by decide) ?_
              refine lv_goto (tgt := 1239) hx hb dL_law_1235 (by decide) ?_
              refine W.lcmp hx hb dL_law_1239 ?_
              refine lv_if_eq (tgt := 1245) hx hb dL_law_1240 (by decide) (fun c_360 => ?_) (fun c_360 => ?_)
              · replace hf := (if_pos ((lg_cmp_eq _ _).mp c_360)).symm.trans hf
                refine lv_goto (tgt := 1304) hx hb dL_law_1245 (by decide) ?_
                obtain ⟨x4_361, ex4_361⟩ : ∃ y : Int32, y = x4 + 7 := ⟨_, rfl⟩
                replace hf := lt_at hf ex4_361
                refine lv_iinc (v := x4_361) (lv' := [(4, .int x4_361), (6, .int r_348), (5, .int r_339), (0, .ref b), (1, .ref (ad 0)), (2, .ref (am 0)), (3, .ref aO)]) hx hb dL_law_1304 hl (k := 6) rfl (by rw [ex4_361]; rfl) (by decide) rfl (fun ls hl => ?_)
                refine lv_goto (tgt := 23) hx hb dL_law_1307 (by decide) ?_
                refine W.widen (k := 45 + (j + 1)) (n := 8039 + 6 * (j + 1)) (by omega) (by omega) ?_
                exact ih23 (j + 1) (by omega) x4_361 _ _ _ _ _ hf C (lv_sub hl [3, 4, 5, 6, 0] rfl)
              · replace hf := (if_neg (fun q => c_360 ((lg_cmp_eq _ _).mpr q))).symm.trans hf
                refine lv_iconst (v := 0) hx hb dL_law_1243 (by decide) ?_
                cases hf
        · replace hf := (if_neg c_353).symm.trans hf
          refine lv_iconst (v := 0) hx hb dL_law_1219 (by decide) ?_
          cases hf
      replace hf := (if_neg c_331).symm.trans hf
      by_cases c_362 : sw = 16
      · replace hf := (if_pos c_362).symm.trans hf
        subst c_362
        refine lv_tableIn (tgt := 1248) hx hb dL_law_40 (by decide) (by decide) (by rfl) (by decide) ?_
        refine lv_aload_n hx hb dL_law_1248 rfl (lv_at hl 1 rfl) ?_
        refine lv_aload_n hx hb dL_law_1249 rfl (lv_at hl 0 rfl) ?_
        refine lv_iload hx hb dL_law_1250 (lv_at hl 4 rfl) ?_
        refine lv_iconst (v := 1) hx hb dL_law_1252 (by decide) ?_
        refine lv_iadd hx hb dL_law_1253 ?_
        obtain ⟨g_363, hf⟩ := gd_some hf
        refine va_sld hx hb hX hbl hbA C.2.2.2.1 (okI_in g_363) dL_law_1254 ?_
        refine lv_aload_n hx hb dL_law_1255 rfl (lv_at hl 3 rfl) ?_
        obtain ⟨r_365, z_366, h_364, hf⟩ := bndH_some hf
        refine cl_calli C (vx_runSW (As := [.ref (ad 0), .int (xs (x4 + 1).toNatClampNeg), .ref aO]) (rest := []) ⟨hx, hb, hml, hown, hts⟩ (kk_L_told l ad aO ck D tt hst h_364 _) (vx_cwSW 3 hts gL_law_L_told rfl rfl rfl (by decide +kernel) ⟨Nat.le_of_ble_eq_true rfl, Nat.le_of_ble_eq_true rfl⟩) (cx_preS C.l) rfl rfl hl.1 rfl (lv_room (Nat.le_of_ble_eq_true rfl)) dL_law_1256 ⟨by show 45 + j + 1 ≤ 1083; omega, by show 8039 + 6 * j + 6 ≤ 16315; omega⟩) (fun H locs C => ?_)
        refine W.widen (k := 45 + (j + 1)) (n := 8039 + 6 * (j + 1)) (by omega) (by omega) ?_
        refine lv_istore (lv' := [(5, .int r_365), (0, .ref b), (1, .ref (ad 0)), (2, .ref (am 0)), (3, .ref aO), (4, .int x4)]) hx hb dL_law_1259 hl (by decide) rfl (fun ls hl => ?_)
        refine lv_aload_n hx hb dL_law_1261 rfl (lv_at hl 3 rfl) ?_
        refine lv_aload_n hx hb dL_law_1262 rfl (lv_at hl 1 rfl) ?_
        refine lv_iload hx hb dL_law_1263 (lv_at hl 5 rfl) ?_
        refine lv_iconst (v := 1) hx hb dL_law_1265 (by decide) ?_
        refine lv_iadd hx hb dL_law_1266 ?_
        obtain ⟨g_367, hf⟩ := gd_some hf
        refine va_sld hx hb hX hbl hbA C.2.2.2.1 (okI_in g_367) dL_law_1267 ?_
        obtain ⟨r_369, v_370, h_368, hf⟩ := bnd_some hf
        refine cr_calli C (va_runV (As := [.int (xs (x4 + 1).toNatClampNeg)]) (rest := []) ⟨hx, hb, hml, hown, hts⟩ (k_X5_told l am ck D tt h_368 _) (cwV 1 hts gL_law_X5_told rfl rfl rfl (by decide +kernel) ⟨Nat.le_of_ble_eq_true rfl, Nat.le_of_ble_eq_true rfl⟩) (cx_preV C.r (q0 := 0) (ci := 5) rfl rfl) rfl rfl hl.1 rfl (lv_room (Nat.le_of_ble_eq_true rfl)) dL_law_1268 ⟨by show 45 + (j + 1) + 0 ≤ 1083; omega, by show 8039 + 6 * (j + 1) + 0 ≤ 16315; omega⟩) (fun H locs C => ?_)
        refine lv_istore (lv' := [(6, .int r_369), (5, .int r_365), (0, .ref b), (1, .ref (ad 0)), (2, .ref (am 0)), (3, .ref aO), (4, .int x4)]) hx hb dL_law_1271 hl (by decide) rfl (fun ls hl => ?_)
        refine lv_aload_n hx hb dL_law_1273 rfl (lv_at hl 4 rfl) ?_
        obtain ⟨r_372, v_373, h_371, hf⟩ := bnd_some hf
        refine cr_calli C (va_runV (As := []) (rest := []) ⟨hx, hb, hml, hown, hts⟩ (k_X5_thrown l am ck D tt h_371 _) (cwV 0 hts gL_law_X5_thrown rfl rfl rfl (by decide +kernel) ⟨Nat.le_of_ble_eq_true rfl, Nat.le_of_ble_eq_true rfl⟩) (cx_preV C.r (q0 := 0) (ci := 5) rfl rfl) rfl rfl hl.1 rfl (lv_room (Nat.le_of_ble_eq_true rfl)) dL_law_1274 ⟨by show 45 + (j + 1) + 0 ≤ 1083; omega, by show 8039 + 6 * (j + 1) + 0 ≤ 16315; omega⟩) (fun H locs C => ?_)
        refine lv_iload hx hb dL_law_1277 (lv_at hl 1 rfl) ?_
        refine lv_icmp_eq (tgt := 1284) hx hb dL_law_1279 (by decide) (fun c_374 => ?_) (fun c_374 => ?_)
        · replace hf := (if_pos c_374).symm.trans hf
          refine lv_iload hx hb dL_law_1284 (lv_at hl 1 rfl) ?_
          refine lv_if_ne (tgt := 1301) hx hb dL_law_1286 (by decide) (fun c_375 => ?_) (fun c_375 => ?_)
          · replace hf := (if_neg c_375).symm.trans hf
            refine lv_goto (tgt := 1304) hx hb dL_law_1301 (by decide) ?_
            obtain ⟨x4_376, ex4_376⟩ : ∃ y : Int32, y = x4 + 7 := ⟨_, rfl⟩
            replace hf := lt_at hf ex4_376
            refine lv_iinc (v := x4_376) (lv' := [(4, .int x4_376), (6, .int r_369), (5, .int r_365), (0, .ref b), (1, .ref (ad 0)), (2, .ref (am 0)), (3, .ref aO)]) hx hb dL_law_1304 hl (k := 6) rfl (by rw [ex4_376]; rfl) (by decide) rfl (fun ls hl => ?_)
            refine lv_goto (tgt := 23) hx hb dL_law_1307 (by decide) ?_
            refine W.widen (k := 45 + (j + 1)) (n := 8039 + 6 * (j + 1)) (by omega) (by omega) ?_
            exact ih23 (j + 1) (by omega) x4_376 _ _ _ _ _ hf C (lv_sub hl [3, 4, 5, 6, 0] rfl)
          · replace hf := (if_pos c_375).symm.trans hf
            refine lv_aload_n hx hb dL_law_1289 rfl (lv_at hl 5 rfl) ?_
            refine lv_iconst (v := 0) hx hb dL_law_1290 (by decide) ?_
            obtain ⟨g_377, hf⟩ := gd_some hf
            refine cx_lald C hx hb 23 rfl g_377 dL_law_1291 ?_
            refine lv_iload hx hb dL_law_1292 (lv_at hl 0 rfl) ?_
            refine lv_i2l hx hb dL_law_1294 rfl ?_
            refine W.lcmp hx hb dL_law_1295 ?_
            refine lv_if_eq (tgt := 1301) hx hb dL_law_1296 (by decide) (fun c_378 => ?_) (fun c_378 => ?_)
            · replace hf := (if_pos ((lg_cmp_eq _ _).mp c_378)).symm.trans hf
              refine lv_goto (tgt := 1304) hx hb dL_law_1301 (by decide) ?_
              obtain ⟨x4_379, ex4_379⟩ : ∃ y : Int32, y = x4 + 7 := ⟨_, rfl⟩
              replace hf := lt_at hf ex4_379
              refine lv_iinc (v := x4_379) (lv' := [(4, .int x4_379), (6, .int r_369), (5, .int r_365), (0, .ref b), (1, .ref (ad 0)), (2, .ref (am 0)), (3, .ref aO)]) hx hb dL_law_1304 hl (k := 6) rfl (by rw [ex4_379]; rfl) (by decide) rfl (fun ls hl => ?_)
              refine lv_goto (tgt := 23) hx hb dL_law_1307 (by decide) ?_
              refine W.widen (k := 45 + (j + 1)) (n := 8039 + 6 * (j + 1)) (by omega) (by omega) ?_
              exact ih23 (j + 1) (by omega) x4_379 _ _ _ _ _ hf C (lv_sub hl [3, 4, 5, 6, 0] rfl)
            · replace hf := (if_neg (fun q => c_378 ((lg_cmp_eq _ _).mpr q))).symm.trans hf
              refine lv_iconst (v := 0) hx hb dL_law_1299 (by decide) ?_
              cases hf
        · replace hf := (if_neg c_374).symm.trans hf
          refine lv_iconst (v := 0) hx hb dL_law_1282 (by decide) ?_
          cases hf
      replace hf := (if_neg c_362).symm.trans hf
      refine lv_tableOut (tgt := 1304) hx hb dL_law_40 (by have q0 := lv_neT (a := 0) c_3 (by decide); have q1 := lv_neT (a := 1) c_23 (by decide); have q2 := lv_neT (a := 2) c_43 (by decide); have q3 := lv_neT (a := 3) c_65 (by decide); have q4 := lv_neT (a := 4) c_83 (by decide); have q5 := lv_neT (a := 5) c_101 (by decide); have q6 := lv_neT (a := 6) c_119 (by decide); have q7 := lv_neT (a := 7) c_183 (by decide); have q8 := lv_neT (a := 8) c_201 (by decide); have q9 := lv_neT (a := 9) c_219 (by decide); have q10 := lv_neT (a := 10) c_237 (by decide); have q11 := lv_neT (a := 11) c_255 (by decide); have q12 := lv_neT (a := 12) c_275 (by decide); have q13 := lv_neT (a := 13) c_293 (by decide); have q14 := lv_neT (a := 14) c_311 (by decide); have q15 := lv_neT (a := 15) c_331 (by decide); have q16 := lv_neT (a := 16) c_362 (by decide); omega) (by decide) ?_
      obtain ⟨x4_380, ex4_380⟩ : ∃ y : Int32, y = x4 + 7 := ⟨_, rfl⟩
      replace hf := lt_at hf ex4_380
      refine lv_iinc (v := x4_380) (lv' := [(4, .int x4_380), (0, .ref b), (1, .ref (ad 0)), (2, .ref (am 0)), (3, .ref aO)]) hx hb dL_law_1304 hl (k := 4) rfl (by rw [ex4_380]; rfl) (by decide) rfl (fun ls hl => ?_)
      refine lv_goto (tgt := 23) hx hb dL_law_1307 (by decide) ?_
      refine W.widen (k := 45 + (j + 1)) (n := 8039 + 6 * (j + 1)) (by omega) (by omega) ?_
      exact ih23 (j + 1) (by omega) x4_380 _ _ _ _ _ hf C (lv_sub hl [1, 2, 3, 4, 0] rfl)
