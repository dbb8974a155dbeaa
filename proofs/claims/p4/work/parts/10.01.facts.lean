theorem zcl_211 : z_cls[12]? = some ((z_mY 211).cls, TX12, 39) := rfl
theorem zc_197 : ∀ m, z_ce m 197 1 := fun _ => ⟨z_inT (i := 1640) (by decide +kernel) (by decide +kernel), by decide +kernel, by decide +kernel⟩
theorem zy_197 : plainName (z_mY 197).cls = true ∧ (197 : Nat) ≠ 128 ∧ (197 : Nat) ≠ 299 := ⟨by decide +kernel, by decide, by decide⟩
theorem zcl_197 : z_cls[12]? = some ((z_mY 197).cls, TX12, 39) := rfl
theorem zc_212 : ∀ m, z_ce m 212 2 := fun _ => ⟨z_inT (i := 1636) (by decide +kernel) (by decide +kernel), by decide +kernel, by decide +kernel⟩
theorem zy_212 : plainName (z_mY 212).cls = true ∧ (212 : Nat) ≠ 128 ∧ (212 : Nat) ≠ 299 := ⟨by decide +kernel, by decide, by decide⟩
theorem zcl_212 : z_cls[12]? = some ((z_mY 212).cls, TX12, 39) := rfl
theorem zc_214 : ∀ m, z_ce m 214 2 := fun _ => ⟨z_inT (i := 1668) (by decide +kernel) (by decide +kernel), by decide +kernel, by decide +kernel⟩
theorem zy_214 : plainName (z_mY 214).cls = true ∧ (214 : Nat) ≠ 128 ∧ (214 : Nat) ≠ 299 := ⟨by decide +kernel, by decide, by decide⟩
theorem zcl_214 : z_cls[12]? = some ((z_mY 214).cls, TX12, 39) := rfl
theorem zc_171 : ∀ m, z_ce m 171 2 := fun _ => ⟨z_inT (i := 1683) (by decide +kernel) (by decide +kernel), by decide +kernel, by decide +kernel⟩
theorem zy_171 : plainName (z_mY 171).cls = true ∧ (171 : Nat) ≠ 128 ∧ (171 : Nat) ≠ 299 := ⟨by decide +kernel, by decide, by decide⟩
theorem zc_216 : ∀ m, z_ce m 216 2 := fun _ => ⟨z_inT (i := 1680) (by decide +kernel) (by decide +kernel), by decide +kernel, by decide +kernel⟩
theorem zy_216 : plainName (z_mY 216).cls = true ∧ (216 : Nat) ≠ 128 ∧ (216 : Nat) ≠ 299 := ⟨by decide +kernel, by decide, by decide⟩
theorem zcl_216 : z_cls[12]? = some ((z_mY 216).cls, TX12, 39) := rfl
theorem zc_215 : ∀ m, z_ce m 215 1 := fun _ => ⟨z_inT (i := 1664) (by decide +kernel) (by decide +kernel), by decide +kernel, by decide +kernel⟩
theorem zy_215 : plainName (z_mY 215).cls = true ∧ (215 : Nat) ≠ 128 ∧ (215 : Nat) ≠ 299 := ⟨by decide +kernel, by decide, by decide⟩
theorem zcl_215 : z_cls[12]? = some ((z_mY 215).cls, TX12, 39) := rfl
theorem zc_218 : ∀ m, z_ce m 218 3 := fun _ => ⟨z_inT (i := 1707) (by decide +kernel) (by decide +kernel), by decide +kernel, by decide +kernel⟩
theorem zy_218 : plainName (z_mY 218).cls = true ∧ (218 : Nat) ≠ 128 ∧ (218 : Nat) ≠ 299 := ⟨by decide +kernel, by decide, by decide⟩
theorem zcl_218 : z_cls[12]? = some ((z_mY 218).cls, TX12, 39) := rfl
theorem zc_222 : ∀ m, z_ce m 222 0 := fun _ => ⟨z_inT (i := 1463) (by decide +kernel) (by decide +kernel), by decide +kernel, by decide +kernel⟩
theorem zy_222 : plainName (z_mY 222).cls = true ∧ (222 : Nat) ≠ 128 ∧ (222 : Nat) ≠ 299 := ⟨by decide +kernel, by decide, by decide⟩
theorem zcl_222 : z_cls[12]? = some ((z_mY 222).cls, TX12, 39) := rfl
theorem zc_221 : ∀ m, z_ce m 221 1 := fun _ => ⟨z_inT (i := 1421) (by decide +kernel) (by decide +kernel), by decide +kernel, by decide +kernel⟩
theorem zy_221 : plainName (z_mY 221).cls = true ∧ (221 : Nat) ≠ 128 ∧ (221 : Nat) ≠ 299 := ⟨by decide +kernel, by decide, by decide⟩
theorem zcl_221 : z_cls[12]? = some ((z_mY 221).cls, TX12, 39) := rfl
theorem zc_228 : ∀ m, z_ce m 228 5 := fun _ => ⟨z_inT (i := 1425) (by decide +kernel) (by decide +kernel), by decide +kernel, by decide +kernel⟩
theorem zy_228 : plainName (z_mY 228).cls = true ∧ (228 : Nat) ≠ 128 ∧ (228 : Nat) ≠ 299 := ⟨by decide +kernel, by decide, by decide⟩
theorem zcl_228 : z_cls[12]? = some ((z_mY 228).cls, TX12, 39) := rfl
theorem zc_224 : ∀ m, z_ce m 224 5 := fun _ => ⟨z_inT (i := 1467) (by decide +kernel) (by decide +kernel), by decide +kernel, by decide +kernel⟩
theorem zy_224 : plainName (z_mY 224).cls = true ∧ (224 : Nat) ≠ 128 ∧ (224 : Nat) ≠ 299 := ⟨by decide +kernel, by decide, by decide⟩
theorem zcl_224 : z_cls[12]? = some ((z_mY 224).cls, TX12, 39) := rfl
theorem zc_223 : ∀ m, z_ce m 223 0 := fun _ => ⟨z_inT (i := 1471) (by decide +kernel) (by decide +kernel), by decide +kernel, by decide +kernel⟩
theorem zy_223 : plainName (z_mY 223).cls = true ∧ (223 : Nat) ≠ 128 ∧ (223 : Nat) ≠ 299 := ⟨by decide +kernel, by decide, by decide⟩
theorem zcl_223 : z_cls[12]? = some ((z_mY 223).cls, TX12, 39) := rfl
theorem zc_225 : ∀ m, z_ce m 225 0 := fun _ => ⟨z_inT (i := 1417) (by decide +kernel) (by decide +kernel), by decide +kernel, by decide +kernel⟩
theorem zy_225 : plainName (z_mY 225).cls = true ∧ (225 : Nat) ≠ 128 ∧ (225 : Nat) ≠ 299 := ⟨by decide +kernel, by decide, by decide⟩
theorem zcl_225 : z_cls[12]? = some ((z_mY 225).cls, TX12, 39) := rfl
theorem zc_227 : ∀ m, z_ce m 227 2 := fun _ => ⟨z_inT (i := 1428) (by decide +kernel) (by decide +kernel), by decide +kernel, by decide +kernel⟩
theorem zy_227 : plainName (z_mY 227).cls = true ∧ (227 : Nat) ≠ 128 ∧ (227 : Nat) ≠ 299 := ⟨by decide +kernel, by decide, by decide⟩
theorem zc_202 : ∀ m, z_ce m 202 4 := fun _ => ⟨z_inT (i := 1436) (by decide +kernel) (by decide +kernel), by decide +kernel, by decide +kernel⟩
theorem zy_202 : plainName (z_mY 202).cls = true ∧ (202 : Nat) ≠ 128 ∧ (202 : Nat) ≠ 299 := ⟨by decide +kernel, by decide, by decide⟩
theorem zcl_202 : z_cls[12]? = some ((z_mY 202).cls, TX12, 39) := rfl
theorem zc_193 : ∀ m, z_ce m 193 1 := fun _ => ⟨z_inT (i := 1487) (by decide +kernel) (by decide +kernel), by decide +kernel, by decide +kernel⟩
theorem zy_193 : plainName (z_mY 193).cls = true ∧ (193 : Nat) ≠ 128 ∧ (193 : Nat) ≠ 299 := ⟨by decide +kernel, by decide, by decide⟩
theorem zcl_193 : z_cls[12]? = some ((z_mY 193).cls, TX12, 39) := rfl
theorem zc_229 : ∀ m, z_ce m 229 2 := fun _ => ⟨z_inT (i := 1491) (by decide +kernel) (by decide +kernel), by decide +kernel, by decide +kernel⟩
theorem zy_229 : plainName (z_mY 229).cls = true ∧ (229 : Nat) ≠ 128 ∧ (229 : Nat) ≠ 299 := ⟨by decide +kernel, by decide, by decide⟩
theorem zcl_229 : z_cls[12]? = some ((z_mY 229).cls, TX12, 39) := rfl
theorem zc_231 : ∀ m, z_ce m 231 2 := fun _ => ⟨z_inT (i := 1507) (by decide +kernel) (by decide +kernel), by decide +kernel, by decide +kernel⟩
theorem zy_231 : plainName (z_mY 231).cls = true ∧ (231 : Nat) ≠ 128 ∧ (231 : Nat) ≠ 299 := ⟨by decide +kernel, by decide, by decide⟩
theorem zcl_231 : z_cls[12]? = some ((z_mY 231).cls, TX12, 39) := rfl
theorem zc_207 : ∀ m, z_ce m 207 0 := fun _ => ⟨z_inT (i := 1519) (by decide +kernel) (by decide +kernel), by decide +kernel, by decide +kernel⟩
theorem zy_207 : plainName (z_mY 207).cls = true ∧ (207 : Nat) ≠ 128 ∧ (207 : Nat) ≠ 299 := ⟨by decide +kernel, by decide, by decide⟩
theorem zcl_207 : z_cls[12]? = some ((z_mY 207).cls, TX12, 39) := rfl
theorem zc_234 : ∀ m, z_ce m 234 0 := fun _ => ⟨z_inT (i := 1515) (by decide +kernel) (by decide +kernel), by decide +kernel, by decide +kernel⟩
theorem zy_234 : plainName (z_mY 234).cls = true ∧ (234 : Nat) ≠ 128 ∧ (234 : Nat) ≠ 299 := ⟨by decide +kernel, by decide, by decide⟩
theorem zcl_234 : z_cls[12]? = some ((z_mY 234).cls, TX12, 39) := rfl
theorem zc_233 : ∀ m, z_ce m 233 0 := fun _ => ⟨z_inT (i := 1499) (by decide +kernel) (by decide +kernel), by decide +kernel, by decide +kernel⟩
theorem zy_233 : plainName (z_mY 233).cls = true ∧ (233 : Nat) ≠ 128 ∧ (233 : Nat) ≠ 299 := ⟨by decide +kernel, by decide, by decide⟩
theorem zcl_233 : z_cls[12]? = some ((z_mY 233).cls, TX12, 39) := rfl
theorem zc_232 : ∀ m, z_ce m 232 6 := fun _ => ⟨z_inT (i := 1503) (by decide +kernel) (by decide +kernel), by decide +kernel, by decide +kernel⟩
theorem zy_232 : plainName (z_mY 232).cls = true ∧ (232 : Nat) ≠ 128 ∧ (232 : Nat) ≠ 299 := ⟨by decide +kernel, by decide, by decide⟩
theorem zcl_232 : z_cls[12]? = some ((z_mY 232).cls, TX12, 39) := rfl
theorem zc_235 : ∀ m, z_ce m 235 2 := fun _ => ⟨z_inT (i := 1511) (by decide +kernel) (by decide +kernel), by decide +kernel, by decide +kernel⟩
theorem zy_235 : plainName (z_mY 235).cls = true ∧ (235 : Nat) ≠ 128 ∧ (235 : Nat) ≠ 299 := ⟨by decide +kernel, by decide, by decide⟩
theorem zcl_235 : z_cls[12]? = some ((z_mY 235).cls, TX12, 39) := rfl
theorem zc_230 : ∀ m, z_ce m 230 6 := fun _ => ⟨z_inT (i := 1483) (by decide +kernel) (by decide +kernel), by decide +kernel, by decide +kernel⟩
theorem zy_230 : plainName (z_mY 230).cls = true ∧ (230 : Nat) ≠ 128 ∧ (230 : Nat) ≠ 299 := ⟨by decide +kernel, by decide, by decide⟩
theorem zcl_230 : z_cls[12]? = some ((z_mY 230).cls, TX12, 39) := rfl
theorem zc_236 : ∀ m, z_ce m 236 6 := fun _ => ⟨z_inT (i := 1495) (by decide +kernel) (by decide +kernel), by decide +kernel, by decide +kernel⟩
theorem zy_236 : plainName (z_mY 236).cls = true ∧ (236 : Nat) ≠ 128 ∧ (236 : Nat) ≠ 299 := ⟨by decide +kernel, by decide, by decide⟩
theorem zcl_236 : z_cls[12]? = some ((z_mY 236).cls, TX12, 39) := rfl
theorem zc_237 : ∀ m, z_ce m 237 6 := fun _ => ⟨z_inT (i := 1479) (by decide +kernel) (by decide +kernel), by decide +kernel, by decide +kernel⟩
theorem zy_237 : plainName (z_mY 237).cls = true ∧ (237 : Nat) ≠ 128 ∧ (237 : Nat) ≠ 299 := ⟨by decide +kernel, by decide, by decide⟩
theorem zcl_237 : z_cls[12]? = some ((z_mY 237).cls, TX12, 39) := rfl
theorem zc_242 : ∀ m, z_ce m 242 1 := fun _ => ⟨z_inT (i := 1559) (by decide +kernel) (by decide +kernel), by decide +kernel, by decide +kernel⟩
theorem zy_242 : plainName (z_mY 242).cls = true ∧ (242 : Nat) ≠ 128 ∧ (242 : Nat) ≠ 299 := ⟨by decide +kernel, by decide, by decide⟩
theorem zcl_242 : z_cls[12]? = some ((z_mY 242).cls, TX12, 39) := rfl
theorem zc_243 : ∀ m, z_ce m 243 6 := fun _ => ⟨z_inT (i := 1569) (by decide +kernel) (by decide +kernel), by decide +kernel, by decide +kernel⟩
theorem zy_243 : plainName (z_mY 243).cls = true ∧ (243 : Nat) ≠ 128 ∧ (243 : Nat) ≠ 299 := ⟨by decide +kernel, by decide, by decide⟩
theorem zcl_243 : z_cls[12]? = some ((z_mY 243).cls, TX12, 39) := rfl
theorem zc_244 : ∀ m, z_ce m 244 0 := fun _ => ⟨z_inT (i := 1565) (by decide +kernel) (by decide +kernel), by decide +kernel, by decide +kernel⟩
theorem zy_244 : plainName (z_mY 244).cls = true ∧ (244 : Nat) ≠ 128 ∧ (244 : Nat) ≠ 299 := ⟨by decide +kernel, by decide, by decide⟩
theorem zcl_244 : z_cls[12]? = some ((z_mY 244).cls, TX12, 39) := rfl
theorem zc_245 : ∀ m, z_ce m 245 0 := fun _ => ⟨z_inT (i := 1555) (by decide +kernel) (by decide +kernel), by decide +kernel, by decide +kernel⟩
theorem zy_245 : plainName (z_mY 245).cls = true ∧ (245 : Nat) ≠ 128 ∧ (245 : Nat) ≠ 299 := ⟨by decide +kernel, by decide, by decide⟩
theorem zcl_245 : z_cls[12]? = some ((z_mY 245).cls, TX12, 39) := rfl
theorem zc_172 : ∀ m, z_ce m 172 1 := fun _ => ⟨z_inT (i := 1592) (by decide +kernel) (by decide +kernel), by decide +kernel, by decide +kernel⟩
theorem zy_172 : plainName (z_mY 172).cls = true ∧ (172 : Nat) ≠ 128 ∧ (172 : Nat) ≠ 299 := ⟨by decide +kernel, by decide, by decide⟩
theorem zc_251 : ∀ m, z_ce m 251 0 := fun _ => ⟨z_inT (i := 1589) (by decide +kernel) (by decide +kernel), by decide +kernel, by decide +kernel⟩
theorem zy_251 : plainName (z_mY 251).cls = true ∧ (251 : Nat) ≠ 128 ∧ (251 : Nat) ≠ 299 := ⟨by decide +kernel, by decide, by decide⟩
theorem zcl_251 : z_cls[12]? = some ((z_mY 251).cls, TX12, 39) := rfl
theorem zc_252 : ∀ m, z_ce m 252 0 := fun _ => ⟨z_inT (i := 1596) (by decide +kernel) (by decide +kernel), by decide +kernel, by decide +kernel⟩
theorem zy_252 : plainName (z_mY 252).cls = true ∧ (252 : Nat) ≠ 128 ∧ (252 : Nat) ≠ 299 := ⟨by decide +kernel, by decide, by decide⟩
theorem zcl_252 : z_cls[12]? = some ((z_mY 252).cls, TX12, 39) := rfl
theorem zc_250 : ∀ m, z_ce m 250 1 := fun _ => ⟨z_inT (i := 1620) (by decide +kernel) (by decide +kernel), by decide +kernel, by decide +kernel⟩
theorem zy_250 : plainName (z_mY 250).cls = true ∧ (250 : Nat) ≠ 128 ∧ (250 : Nat) ≠ 299 := ⟨by decide +kernel, by decide, by decide⟩
theorem zcl_250 : z_cls[12]? = some ((z_mY 250).cls, TX12, 39) := rfl
theorem zc_213 : ∀ m, z_ce m 213 1 := fun _ => ⟨z_inT (i := 1656) (by decide +kernel) (by decide +kernel), by decide +kernel, by decide +kernel⟩
theorem zy_213 : plainName (z_mY 213).cls = true ∧ (213 : Nat) ≠ 128 ∧ (213 : Nat) ≠ 299 := ⟨by decide +kernel, by decide, by decide⟩
theorem zcl_213 : z_cls[12]? = some ((z_mY 213).cls, TX12, 39) := rfl
theorem zc_217 : ∀ m, z_ce m 217 0 := fun _ => ⟨z_inT (i := 1676) (by decide +kernel) (by decide +kernel), by decide +kernel, by decide +kernel⟩
theorem zy_217 : plainName (z_mY 217).cls = true ∧ (217 : Nat) ≠ 128 ∧ (217 : Nat) ≠ 299 := ⟨by decide +kernel, by decide, by decide⟩
theorem zcl_217 : z_cls[12]? = some ((z_mY 217).cls, TX12, 39) := rfl
theorem zc_263 : ∀ m, z_ce m 263 1 := fun _ => ⟨z_inT (i := 1691) (by decide +kernel) (by decide +kernel), by decide +kernel, by decide +kernel⟩
theorem zy_263 : plainName (z_mY 263).cls = true ∧ (263 : Nat) ≠ 128 ∧ (263 : Nat) ≠ 299 := ⟨by decide +kernel, by decide, by decide⟩
theorem zcl_263 : z_cls[12]? = some ((z_mY 263).cls, TX12, 39) := rfl
theorem zc_219 : ∀ m, z_ce m 219 1 := fun _ => ⟨z_inT (i := 1703) (by decide +kernel) (by decide +kernel), by decide +kernel, by decide +kernel⟩
theorem zy_219 : plainName (z_mY 219).cls = true ∧ (219 : Nat) ≠ 128 ∧ (219 : Nat) ≠ 299 := ⟨by decide +kernel, by decide, by decide⟩
theorem zcl_219 : z_cls[12]? = some ((z_mY 219).cls, TX12, 39) := rfl
theorem zc_265 : ∀ m, z_ce m 265 0 := fun _ => ⟨z_inT (i := 1699) (by decide +kernel) (by decide +kernel), by decide +kernel, by decide +kernel⟩
theorem zy_265 : plainName (z_mY 265).cls = true ∧ (265 : Nat) ≠ 128 ∧ (265 : Nat) ≠ 299 := ⟨by decide +kernel, by decide, by decide⟩
theorem zcl_265 : z_cls[12]? = some ((z_mY 265).cls, TX12, 39) := rfl
theorem zc_220 : ∀ m, z_ce m 220 0 := fun _ => ⟨z_inT (i := 1711) (by decide +kernel) (by decide +kernel), by decide +kernel, by decide +kernel⟩
theorem zy_220 : plainName (z_mY 220).cls = true ∧ (220 : Nat) ≠ 128 ∧ (220 : Nat) ≠ 299 := ⟨by decide +kernel, by decide, by decide⟩
theorem zcl_220 : z_cls[12]? = some ((z_mY 220).cls, TX12, 39) := rfl
theorem zc_268 : ∀ m, z_ce m 268 2 := fun _ => ⟨z_inT (i := 1727) (by decide +kernel) (by decide +kernel), by decide +kernel, by decide +kernel⟩
theorem zy_268 : plainName (z_mY 268).cls = true ∧ (268 : Nat) ≠ 128 ∧ (268 : Nat) ≠ 299 := ⟨by decide +kernel, by decide, by decide⟩
theorem zcl_268 : z_cls[12]? = some ((z_mY 268).cls, TX12, 39) := rfl
theorem zc_267 : ∀ m, z_ce m 267 0 := fun _ => ⟨z_inT (i := 1719) (by decide +kernel) (by decide +kernel), by decide +kernel, by decide +kernel⟩
theorem zy_267 : plainName (z_mY 267).cls = true ∧ (267 : Nat) ≠ 128 ∧ (267 : Nat) ≠ 299 := ⟨by decide +kernel, by decide, by decide⟩
theorem zcl_267 : z_cls[12]? = some ((z_mY 267).cls, TX12, 39) := rfl
theorem zc_269 : ∀ m, z_ce m 269 0 := fun _ => ⟨z_inT (i := 1723) (by decide +kernel) (by decide +kernel), by decide +kernel, by decide +kernel⟩
theorem zy_269 : plainName (z_mY 269).cls = true ∧ (269 : Nat) ≠ 128 ∧ (269 : Nat) ≠ 299 := ⟨by decide +kernel, by decide, by decide⟩
theorem zcl_269 : z_cls[12]? = some ((z_mY 269).cls, TX12, 39) := rfl
theorem zc_272 : ∀ m, z_ce m 272 0 := fun _ => ⟨z_inT (i := 1739) (by decide +kernel) (by decide +kernel), by decide +kernel, by decide +kernel⟩
theorem zy_272 : plainName (z_mY 272).cls = true ∧ (272 : Nat) ≠ 128 ∧ (272 : Nat) ≠ 299 := ⟨by decide +kernel, by decide, by decide⟩
theorem zcl_272 : z_cls[12]? = some ((z_mY 272).cls, TX12, 39) := rfl
theorem zc_273 : ∀ m, z_ce m 273 0 := fun _ => ⟨z_inT (i := 1743) (by decide +kernel) (by decide +kernel), by decide +kernel, by decide +kernel⟩
theorem zy_273 : plainName (z_mY 273).cls = true ∧ (273 : Nat) ≠ 128 ∧ (273 : Nat) ≠ 299 := ⟨by decide +kernel, by decide, by decide⟩
theorem zcl_273 : z_cls[12]? = some ((z_mY 273).cls, TX12, 39) := rfl
theorem zc_278 : ∀ m, z_ce m 278 1 := fun _ => ⟨z_inT (i := 1763) (by decide +kernel) (by decide +kernel), by decide +kernel, by decide +kernel⟩
theorem zy_278 : plainName (z_mY 278).cls = true ∧ (278 : Nat) ≠ 128 ∧ (278 : Nat) ≠ 299 := ⟨by decide +kernel, by decide, by decide⟩
theorem zcl_278 : z_cls[12]? = some ((z_mY 278).cls, TX12, 39) := rfl
theorem zc_280 : ∀ m, z_ce m 280 2 := fun _ => ⟨z_inT (i := 1771) (by decide +kernel) (by decide +kernel), by decide +kernel, by decide +kernel⟩
theorem zy_280 : plainName (z_mY 280).cls = true ∧ (280 : Nat) ≠ 128 ∧ (280 : Nat) ≠ 299 := ⟨by decide +kernel, by decide, by decide⟩
theorem zcl_280 : z_cls[12]? = some ((z_mY 280).cls, TX12, 39) := rfl
theorem zc_288 : ∀ m, z_ce m 288 2 := fun _ => ⟨z_inT (i := 1807) (by decide +kernel) (by decide +kernel), by decide +kernel, by decide +kernel⟩
theorem zy_288 : plainName (z_mY 288).cls = true ∧ (288 : Nat) ≠ 128 ∧ (288 : Nat) ≠ 299 := ⟨by decide +kernel, by decide, by decide⟩
theorem zcl_288 : z_cls[12]? = some ((z_mY 288).cls, TX12, 39) := rfl
theorem zc_283 : ∀ m, z_ce m 283 0 := fun _ => ⟨z_inT (i := 1783) (by decide +kernel) (by decide +kernel), by decide +kernel, by decide +kernel⟩
theorem zy_283 : plainName (z_mY 283).cls = true ∧ (283 : Nat) ≠ 128 ∧ (283 : Nat) ≠ 299 := ⟨by decide +kernel, by decide, by decide⟩
theorem zcl_283 : z_cls[12]? = some ((z_mY 283).cls, TX12, 39) := rfl
theorem zc_284 : ∀ m, z_ce m 284 0 := fun _ => ⟨z_inT (i := 1787) (by decide +kernel) (by decide +kernel), by decide +kernel, by decide +kernel⟩
theorem zy_284 : plainName (z_mY 284).cls = true ∧ (284 : Nat) ≠ 128 ∧ (284 : Nat) ≠ 299 := ⟨by decide +kernel, by decide, by decide⟩
theorem zcl_284 : z_cls[12]? = some ((z_mY 284).cls, TX12, 39) := rfl
theorem zc_285 : ∀ m, z_ce m 285 0 := fun _ => ⟨z_inT (i := 1791) (by decide +kernel) (by decide +kernel), by decide +kernel, by decide +kernel⟩
theorem zy_285 : plainName (z_mY 285).cls = true ∧ (285 : Nat) ≠ 128 ∧ (285 : Nat) ≠ 299 := ⟨by decide +kernel, by decide, by decide⟩
theorem zcl_285 : z_cls[12]? = some ((z_mY 285).cls, TX12, 39) := rfl
theorem zc_286 : ∀ m, z_ce m 286 0 := fun _ => ⟨z_inT (i := 1795) (by decide +kernel) (by decide +kernel), by decide +kernel, by decide +kernel⟩
theorem zy_286 : plainName (z_mY 286).cls = true ∧ (286 : Nat) ≠ 128 ∧ (286 : Nat) ≠ 299 := ⟨by decide +kernel, by decide, by decide⟩
theorem zcl_286 : z_cls[12]? = some ((z_mY 286).cls, TX12, 39) := rfl
theorem zc_287 : ∀ m, z_ce m 287 0 := fun _ => ⟨z_inT (i := 1799) (by decide +kernel) (by decide +kernel), by decide +kernel, by decide +kernel⟩
theorem zy_287 : plainName (z_mY 287).cls = true ∧ (287 : Nat) ≠ 128 ∧ (287 : Nat) ≠ 299 := ⟨by decide +kernel, by decide, by decide⟩
theorem zcl_287 : z_cls[12]? = some ((z_mY 287).cls, TX12, 39) := rfl
theorem zc_289 : ∀ m, z_ce m 289 0 := fun _ => ⟨z_inT (i := 1803) (by decide +kernel) (by decide +kernel), by decide +kernel, by decide +kernel⟩
theorem zy_289 : plainName (z_mY 289).cls = true ∧ (289 : Nat) ≠ 128 ∧ (289 : Nat) ≠ 299 := ⟨by decide +kernel, by decide, by decide⟩
theorem zcl_289 : z_cls[12]? = some ((z_mY 289).cls, TX12, 39) := rfl
theorem zc_119 : ∀ m, z_ce m 119 0 := fun _ => ⟨z_inT (i := 143) (by decide +kernel) (by decide +kernel), by decide +kernel, by decide +kernel⟩
theorem zy_119 : plainName (z_mY 119).cls = true ∧ (119 : Nat) ≠ 128 ∧ (119 : Nat) ≠ 299 := ⟨by decide +kernel, by decide, by decide⟩
theorem zcl_119 : z_cls[11]? = some ((z_mY 119).cls, TX11, 19) := rfl
theorem zc_173 : ∀ m, z_ce m 173 0 := fun _ => ⟨z_inT (i := 1213) (by decide +kernel) (by decide +kernel), by decide +kernel, by decide +kernel⟩
theorem zy_173 : plainName (z_mY 173).cls = true ∧ (173 : Nat) ≠ 128 ∧ (173 : Nat) ≠ 299 := ⟨by decide +kernel, by decide, by decide⟩
theorem zcl_173 : z_cls[12]? = some ((z_mY 173).cls, TX12, 39) := rfl
theorem zc_120 : ∀ m, z_ce m 120 5 := fun _ => ⟨z_inT (i := 441) (by decide +kernel) (by decide +kernel), by decide +kernel, by decide +kernel⟩
theorem zy_120 : plainName (z_mY 120).cls = true ∧ (120 : Nat) ≠ 128 ∧ (120 : Nat) ≠ 299 := ⟨by decide +kernel, by decide, by decide⟩
theorem zcl_120 : z_cls[11]? = some ((z_mY 120).cls, TX11, 19) := rfl
theorem zc_175 : ∀ m, z_ce m 175 5 := fun _ => ⟨z_inT (i := 1336) (by decide +kernel) (by decide +kernel), by decide +kernel, by decide +kernel⟩
theorem zy_175 : plainName (z_mY 175).cls = true ∧ (175 : Nat) ≠ 128 ∧ (175 : Nat) ≠ 299 := ⟨by decide +kernel, by decide, by decide⟩
theorem zcl_175 : z_cls[12]? = some ((z_mY 175).cls, TX12, 39) := rfl
theorem zc_121 : ∀ m, z_ce m 121 1 := fun _ => ⟨z_inT (i := 452) (by decide +kernel) (by decide +kernel), by decide +kernel, by decide +kernel⟩
theorem zy_121 : plainName (z_mY 121).cls = true ∧ (121 : Nat) ≠ 128 ∧ (121 : Nat) ≠ 299 := ⟨by decide +kernel, by decide, by decide⟩
theorem zcl_121 : z_cls[11]? = some ((z_mY 121).cls, TX11, 19) := rfl
theorem zc_176 : ∀ m, z_ce m 176 1 := fun _ => ⟨z_inT (i := 1343) (by decide +kernel) (by decide +kernel), by decide +kernel, by decide +kernel⟩
theorem zy_176 : plainName (z_mY 176).cls = true ∧ (176 : Nat) ≠ 128 ∧ (176 : Nat) ≠ 299 := ⟨by decide +kernel, by decide, by decide⟩
theorem zcl_176 : z_cls[12]? = some ((z_mY 176).cls, TX12, 39) := rfl
theorem zc_122 : ∀ m, z_ce m 122 1 := fun _ => ⟨z_inT (i := 456) (by decide +kernel) (by decide +kernel), by decide +kernel, by decide +kernel⟩
theorem zy_122 : plainName (z_mY 122).cls = true ∧ (122 : Nat) ≠ 128 ∧ (122 : Nat) ≠ 299 := ⟨by decide +kernel, by decide, by decide⟩
theorem zcl_122 : z_cls[11]? = some ((z_mY 122).cls, TX11, 19) := rfl
theorem zc_192 : ∀ m, z_ce m 192 1 := fun _ => ⟨z_inT (i := 1350) (by decide +kernel) (by decide +kernel), by decide +kernel, by decide +kernel⟩
theorem zy_192 : plainName (z_mY 192).cls = true ∧ (192 : Nat) ≠ 128 ∧ (192 : Nat) ≠ 299 := ⟨by decide +kernel, by decide, by decide⟩
theorem zcl_192 : z_cls[12]? = some ((z_mY 192).cls, TX12, 39) := rfl
theorem zc_123 : ∀ m, z_ce m 123 1 := fun _ => ⟨z_inT (i := 530) (by decide +kernel) (by decide +kernel), by decide +kernel, by decide +kernel⟩
theorem zy_123 : plainName (z_mY 123).cls = true ∧ (123 : Nat) ≠ 128 ∧ (123 : Nat) ≠ 299 := ⟨by decide +kernel, by decide, by decide⟩
theorem zcl_123 : z_cls[11]? = some ((z_mY 123).cls, TX11, 19) := rfl
theorem zc_226 : ∀ m, z_ce m 226 1 := fun _ => ⟨z_inT (i := 1413) (by decide +kernel) (by decide +kernel), by decide +kernel, by decide +kernel⟩
theorem zy_226 : plainName (z_mY 226).cls = true ∧ (226 : Nat) ≠ 128 ∧ (226 : Nat) ≠ 299 := ⟨by decide +kernel, by decide, by decide⟩
theorem zcl_226 : z_cls[12]? = some ((z_mY 226).cls, TX12, 39) := rfl
theorem zc_126 : ∀ m, z_ce m 126 1 := fun _ => ⟨z_inT (i := 670) (by decide +kernel) (by decide +kernel), by decide +kernel, by decide +kernel⟩
theorem zy_126 : plainName (z_mY 126).cls = true ∧ (126 : Nat) ≠ 128 ∧ (126 : Nat) ≠ 299 := ⟨by decide +kernel, by decide, by decide⟩
theorem zcl_126 : z_cls[11]? = some ((z_mY 126).cls, TX11, 19) := rfl
theorem zc_253 : ∀ m, z_ce m 253 1 := fun _ => ⟨z_inT (i := 1585) (by decide +kernel) (by decide +kernel), by decide +kernel, by decide +kernel⟩
theorem zy_253 : plainName (z_mY 253).cls = true ∧ (253 : Nat) ≠ 128 ∧ (253 : Nat) ≠ 299 := ⟨by decide +kernel, by decide, by decide⟩
theorem zcl_253 : z_cls[12]? = some ((z_mY 253).cls, TX12, 39) := rfl
theorem zc_254 : ∀ m, z_ce m 254 2 := fun _ => ⟨z_inT (i := 1600) (by decide +kernel) (by decide +kernel), by decide +kernel, by decide +kernel⟩
theorem zy_254 : plainName (z_mY 254).cls = true ∧ (254 : Nat) ≠ 128 ∧ (254 : Nat) ≠ 299 := ⟨by decide +kernel, by decide, by decide⟩
theorem zcl_254 : z_cls[12]? = some ((z_mY 254).cls, TX12, 39) := rfl
theorem zc_129 : ∀ m, z_ce m 129 2 := fun _ => ⟨z_inT (i := 702) (by decide +kernel) (by decide +kernel), by decide +kernel, by decide +kernel⟩
theorem zy_129 : plainName (z_mY 129).cls = true ∧ (129 : Nat) ≠ 128 ∧ (129 : Nat) ≠ 299 := ⟨by decide +kernel, by decide, by decide⟩
theorem zcl_129 : z_cls[11]? = some ((z_mY 129).cls, TX11, 19) := rfl
theorem zc_255 : ∀ m, z_ce m 255 2 := fun _ => ⟨z_inT (i := 1608) (by decide +kernel) (by decide +kernel), by decide +kernel, by decide +kernel⟩
theorem zy_255 : plainName (z_mY 255).cls = true ∧ (255 : Nat) ≠ 128 ∧ (255 : Nat) ≠ 299 := ⟨by decide +kernel, by decide, by decide⟩
theorem zcl_255 : z_cls[12]? = some ((z_mY 255).cls, TX12, 39) := rfl
theorem zc_130 : ∀ m, z_ce m 130 2 := fun _ => ⟨z_inT (i := 753) (by decide +kernel) (by decide +kernel), by decide +kernel, by decide +kernel⟩
theorem zy_130 : plainName (z_mY 130).cls = true ∧ (130 : Nat) ≠ 128 ∧ (130 : Nat) ≠ 299 := ⟨by decide +kernel, by decide, by decide⟩
theorem zcl_130 : z_cls[11]? = some ((z_mY 130).cls, TX11, 19) := rfl
theorem zc_256 : ∀ m, z_ce m 256 2 := fun _ => ⟨z_inT (i := 1612) (by decide +kernel) (by decide +kernel), by decide +kernel, by decide +kernel⟩
theorem zy_256 : plainName (z_mY 256).cls = true ∧ (256 : Nat) ≠ 128 ∧ (256 : Nat) ≠ 299 := ⟨by decide +kernel, by decide, by decide⟩
theorem zcl_256 : z_cls[12]? = some ((z_mY 256).cls, TX12, 39) := rfl
theorem zc_131 : ∀ m, z_ce m 131 4 := fun _ => ⟨z_inT (i := 762) (by decide +kernel) (by decide +kernel), by decide +kernel, by decide +kernel⟩
theorem zy_131 : plainName (z_mY 131).cls = true ∧ (131 : Nat) ≠ 128 ∧ (131 : Nat) ≠ 299 := ⟨by decide +kernel, by decide, by decide⟩
theorem zcl_131 : z_cls[11]? = some ((z_mY 131).cls, TX11, 19) := rfl
theorem zc_257 : ∀ m, z_ce m 257 4 := fun _ => ⟨z_inT (i := 1616) (by decide +kernel) (by decide +kernel), by decide +kernel, by decide +kernel⟩
theorem zy_257 : plainName (z_mY 257).cls = true ∧ (257 : Nat) ≠ 128 ∧ (257 : Nat) ≠ 299 := ⟨by decide +kernel, by decide, by decide⟩
theorem zcl_257 : z_cls[12]? = some ((z_mY 257).cls, TX12, 39) := rfl
theorem zc_132 : ∀ m, z_ce m 132 3 := fun _ => ⟨z_inT (i := 798) (by decide +kernel) (by decide +kernel), by decide +kernel, by decide +kernel⟩
theorem zy_132 : plainName (z_mY 132).cls = true ∧ (132 : Nat) ≠ 128 ∧ (132 : Nat) ≠ 299 := ⟨by decide +kernel, by decide, by decide⟩
theorem zcl_132 : z_cls[11]? = some ((z_mY 132).cls, TX11, 19) := rfl
theorem zc_258 : ∀ m, z_ce m 258 3 := fun _ => ⟨z_inT (i := 1644) (by decide +kernel) (by decide +kernel), by decide +kernel, by decide +kernel⟩
theorem zy_258 : plainName (z_mY 258).cls = true ∧ (258 : Nat) ≠ 128 ∧ (258 : Nat) ≠ 299 := ⟨by decide +kernel, by decide, by decide⟩
theorem zcl_258 : z_cls[12]? = some ((z_mY 258).cls, TX12, 39) := rfl
theorem zc_133 : ∀ m, z_ce m 133 5 := fun _ => ⟨z_inT (i := 802) (by decide +kernel) (by decide +kernel), by decide +kernel, by decide +kernel⟩
theorem zy_133 : plainName (z_mY 133).cls = true ∧ (133 : Nat) ≠ 128 ∧ (133 : Nat) ≠ 299 := ⟨by decide +kernel, by decide, by decide⟩
theorem zcl_133 : z_cls[11]? = some ((z_mY 133).cls, TX11, 19) := rfl
theorem zc_259 : ∀ m, z_ce m 259 5 := fun _ => ⟨z_inT (i := 1648) (by decide +kernel) (by decide +kernel), by decide +kernel, by decide +kernel⟩
theorem zy_259 : plainName (z_mY 259).cls = true ∧ (259 : Nat) ≠ 128 ∧ (259 : Nat) ≠ 299 := ⟨by decide +kernel, by decide, by decide⟩
theorem zcl_259 : z_cls[12]? = some ((z_mY 259).cls, TX12, 39) := rfl
theorem zc_134 : ∀ m, z_ce m 134 2 := fun _ => ⟨z_inT (i := 808) (by decide +kernel) (by decide +kernel), by decide +kernel, by decide +kernel⟩
theorem zy_134 : plainName (z_mY 134).cls = true ∧ (134 : Nat) ≠ 128 ∧ (134 : Nat) ≠ 299 := ⟨by decide +kernel, by decide, by decide⟩
theorem zcl_134 : z_cls[11]? = some ((z_mY 134).cls, TX11, 19) := rfl
theorem zc_260 : ∀ m, z_ce m 260 2 := fun _ => ⟨z_inT (i := 1652) (by decide +kernel) (by decide +kernel), by decide +kernel, by decide +kernel⟩
theorem zy_260 : plainName (z_mY 260).cls = true ∧ (260 : Nat) ≠ 128 ∧ (260 : Nat) ≠ 299 := ⟨by decide +kernel, by decide, by decide⟩
theorem zcl_260 : z_cls[12]? = some ((z_mY 260).cls, TX12, 39) := rfl
theorem zc_135 : ∀ m, z_ce m 135 1 := fun _ => ⟨z_inT (i := 831) (by decide +kernel) (by decide +kernel), by decide +kernel, by decide +kernel⟩
theorem zy_135 : plainName (z_mY 135).cls = true ∧ (135 : Nat) ≠ 128 ∧ (135 : Nat) ≠ 299 := ⟨by decide +kernel, by decide, by decide⟩
theorem zcl_135 : z_cls[11]? = some ((z_mY 135).cls, TX11, 19) := rfl
theorem zc_261 : ∀ m, z_ce m 261 1 := fun _ => ⟨z_inT (i := 1660) (by decide +kernel) (by decide +kernel), by decide +kernel, by decide +kernel⟩
theorem zy_261 : plainName (z_mY 261).cls = true ∧ (261 : Nat) ≠ 128 ∧ (261 : Nat) ≠ 299 := ⟨by decide +kernel, by decide, by decide⟩
theorem zcl_261 : z_cls[12]? = some ((z_mY 261).cls, TX12, 39) := rfl
theorem zc_136 : ∀ m, z_ce m 136 1 := fun _ => ⟨z_inT (i := 840) (by decide +kernel) (by decide +kernel), by decide +kernel, by decide +kernel⟩
theorem zy_136 : plainName (z_mY 136).cls = true ∧ (136 : Nat) ≠ 128 ∧ (136 : Nat) ≠ 299 := ⟨by decide +kernel, by decide, by decide⟩
theorem zcl_136 : z_cls[11]? = some ((z_mY 136).cls, TX11, 19) := rfl
theorem zc_262 : ∀ m, z_ce m 262 1 := fun _ => ⟨z_inT (i := 1672) (by decide +kernel) (by decide +kernel), by decide +kernel, by decide +kernel⟩
theorem zy_262 : plainName (z_mY 262).cls = true ∧ (262 : Nat) ≠ 128 ∧ (262 : Nat) ≠ 299 := ⟨by decide +kernel, by decide, by decide⟩
theorem zcl_262 : z_cls[12]? = some ((z_mY 262).cls, TX12, 39) := rfl
theorem zc_137 : ∀ m, z_ce m 137 5 := fun _ => ⟨z_inT (i := 860) (by decide +kernel) (by decide +kernel), by decide +kernel, by decide +kernel⟩
theorem zy_137 : plainName (z_mY 137).cls = true ∧ (137 : Nat) ≠ 128 ∧ (137 : Nat) ≠ 299 := ⟨by decide +kernel, by decide, by decide⟩
theorem zcl_137 : z_cls[11]? = some ((z_mY 137).cls, TX11, 19) := rfl
theorem zc_238 : ∀ m, z_ce m 238 5 := fun _ => ⟨z_inT (i := 1475) (by decide +kernel) (by decide +kernel), by decide +kernel, by decide +kernel⟩
theorem zy_238 : plainName (z_mY 238).cls = true ∧ (238 : Nat) ≠ 128 ∧ (238 : Nat) ≠ 299 := ⟨by decide +kernel, by decide, by decide⟩
theorem zcl_238 : z_cls[12]? = some ((z_mY 238).cls, TX12, 39) := rfl
theorem zc_138 : ∀ m, z_ce m 138 1 := fun _ => ⟨z_inT (i := 887) (by decide +kernel) (by decide +kernel), by decide +kernel, by decide +kernel⟩
theorem zy_138 : plainName (z_mY 138).cls = true ∧ (138 : Nat) ≠ 128 ∧ (138 : Nat) ≠ 299 := ⟨by decide +kernel, by decide, by decide⟩
theorem zcl_138 : z_cls[11]? = some ((z_mY 138).cls, TX11, 19) := rfl
theorem zc_239 : ∀ m, z_ce m 239 1 := fun _ => ⟨z_inT (i := 1539) (by decide +kernel) (by decide +kernel), by decide +kernel, by decide +kernel⟩
theorem zy_239 : plainName (z_mY 239).cls = true ∧ (239 : Nat) ≠ 128 ∧ (239 : Nat) ≠ 299 := ⟨by decide +kernel, by decide, by decide⟩
theorem zcl_239 : z_cls[12]? = some ((z_mY 239).cls, TX12, 39) := rfl
theorem zc_139 : ∀ m, z_ce m 139 2 := fun _ => ⟨z_inT (i := 892) (by decide +kernel) (by decide +kernel), by decide +kernel, by decide +kernel⟩
theorem zy_139 : plainName (z_mY 139).cls = true ∧ (139 : Nat) ≠ 128 ∧ (139 : Nat) ≠ 299 := ⟨by decide +kernel, by decide, by decide⟩
theorem zcl_139 : z_cls[11]? = some ((z_mY 139).cls, TX11, 19) := rfl
theorem zc_240 : ∀ m, z_ce m 240 2 := fun _ => ⟨z_inT (i := 1543) (by decide +kernel) (by decide +kernel), by decide +kernel, by decide +kernel⟩
theorem zy_240 : plainName (z_mY 240).cls = true ∧ (240 : Nat) ≠ 128 ∧ (240 : Nat) ≠ 299 := ⟨by decide +kernel, by decide, by decide⟩
theorem zcl_240 : z_cls[12]? = some ((z_mY 240).cls, TX12, 39) := rfl
theorem zc_140 : ∀ m, z_ce m 140 2 := fun _ => ⟨z_inT (i := 897) (by decide +kernel) (by decide +kernel), by decide +kernel, by decide +kernel⟩
theorem zy_140 : plainName (z_mY 140).cls = true ∧ (140 : Nat) ≠ 128 ∧ (140 : Nat) ≠ 299 := ⟨by decide +kernel, by decide, by decide⟩
theorem zcl_140 : z_cls[11]? = some ((z_mY 140).cls, TX11, 19) := rfl
theorem zc_241 : ∀ m, z_ce m 241 2 := fun _ => ⟨z_inT (i := 1547) (by decide +kernel) (by decide +kernel), by decide +kernel, by decide +kernel⟩
theorem zy_241 : plainName (z_mY 241).cls = true ∧ (241 : Nat) ≠ 128 ∧ (241 : Nat) ≠ 299 := ⟨by decide +kernel, by decide, by decide⟩
theorem zcl_241 : z_cls[12]? = some ((z_mY 241).cls, TX12, 39) := rfl
theorem zc_143 : ∀ m, z_ce m 143 2 := fun _ => ⟨z_inT (i := 902) (by decide +kernel) (by decide +kernel), by decide +kernel, by decide +kernel⟩
theorem zy_143 : plainName (z_mY 143).cls = true ∧ (143 : Nat) ≠ 128 ∧ (143 : Nat) ≠ 299 := ⟨by decide +kernel, by decide, by decide⟩
theorem zcl_143 : z_cls[11]? = some ((z_mY 143).cls, TX11, 19) := rfl
theorem zc_246 : ∀ m, z_ce m 246 2 := fun _ => ⟨z_inT (i := 1551) (by decide +kernel) (by decide +kernel), by decide +kernel, by decide +kernel⟩
theorem zy_246 : plainName (z_mY 246).cls = true ∧ (246 : Nat) ≠ 128 ∧ (246 : Nat) ≠ 299 := ⟨by decide +kernel, by decide, by decide⟩
theorem zcl_246 : z_cls[12]? = some ((z_mY 246).cls, TX12, 39) := rfl
theorem zc_146 : ∀ m, z_ce m 146 1 := fun _ => ⟨z_inT (i := 930) (by decide +kernel) (by decide +kernel), by decide +kernel, by decide +kernel⟩
theorem zy_146 : plainName (z_mY 146).cls = true ∧ (146 : Nat) ≠ 128 ∧ (146 : Nat) ≠ 299 := ⟨by decide +kernel, by decide, by decide⟩
theorem zcl_146 : z_cls[11]? = some ((z_mY 146).cls, TX11, 19) := rfl
theorem zc_247 : ∀ m, z_ce m 247 1 := fun _ => ⟨z_inT (i := 1573) (by decide +kernel) (by decide +kernel), by decide +kernel, by decide +kernel⟩
theorem zy_247 : plainName (z_mY 247).cls = true ∧ (247 : Nat) ≠ 128 ∧ (247 : Nat) ≠ 299 := ⟨by decide +kernel, by decide, by decide⟩
theorem zcl_247 : z_cls[12]? = some ((z_mY 247).cls, TX12, 39) := rfl
theorem zc_147 : ∀ m, z_ce m 147 0 := fun _ => ⟨z_inT (i := 934) (by decide +kernel) (by decide +kernel), by decide +kernel, by decide +kernel⟩
theorem zy_147 : plainName (z_mY 147).cls = true ∧ (147 : Nat) ≠ 128 ∧ (147 : Nat) ≠ 299 := ⟨by decide +kernel, by decide, by decide⟩
theorem zcl_147 : z_cls[11]? = some ((z_mY 147).cls, TX11, 19) := rfl
theorem zc_248 : ∀ m, z_ce m 248 0 := fun _ => ⟨z_inT (i := 1577) (by decide +kernel) (by decide +kernel), by decide +kernel, by decide +kernel⟩
theorem zy_248 : plainName (z_mY 248).cls = true ∧ (248 : Nat) ≠ 128 ∧ (248 : Nat) ≠ 299 := ⟨by decide +kernel, by decide, by decide⟩
theorem zcl_248 : z_cls[12]? = some ((z_mY 248).cls, TX12, 39) := rfl
theorem zc_148 : ∀ m, z_ce m 148 2 := fun _ => ⟨z_inT (i := 948) (by decide +kernel) (by decide +kernel), by decide +kernel, by decide +kernel⟩
theorem zy_148 : plainName (z_mY 148).cls = true ∧ (148 : Nat) ≠ 128 ∧ (148 : Nat) ≠ 299 := ⟨by decide +kernel, by decide, by decide⟩
theorem zcl_148 : z_cls[11]? = some ((z_mY 148).cls, TX11, 19) := rfl
theorem zc_249 : ∀ m, z_ce m 249 2 := fun _ => ⟨z_inT (i := 1581) (by decide +kernel) (by decide +kernel), by decide +kernel, by decide +kernel⟩
theorem zy_249 : plainName (z_mY 249).cls = true ∧ (249 : Nat) ≠ 128 ∧ (249 : Nat) ≠ 299 := ⟨by decide +kernel, by decide, by decide⟩
theorem zcl_249 : z_cls[12]? = some ((z_mY 249).cls, TX12, 39) := rfl
theorem zc_149 : ∀ m, z_ce m 149 0 := fun _ => ⟨z_inT (i := 962) (by decide +kernel) (by decide +kernel), by decide +kernel, by decide +kernel⟩
theorem zy_149 : plainName (z_mY 149).cls = true ∧ (149 : Nat) ≠ 128 ∧ (149 : Nat) ≠ 299 := ⟨by decide +kernel, by decide, by decide⟩
theorem zcl_149 : z_cls[11]? = some ((z_mY 149).cls, TX11, 19) := rfl
theorem zc_264 : ∀ m, z_ce m 264 0 := fun _ => ⟨z_inT (i := 1687) (by decide +kernel) (by decide +kernel), by decide +kernel, by decide +kernel⟩
theorem zy_264 : plainName (z_mY 264).cls = true ∧ (264 : Nat) ≠ 128 ∧ (264 : Nat) ≠ 299 := ⟨by decide +kernel, by decide, by decide⟩
theorem zcl_264 : z_cls[12]? = some ((z_mY 264).cls, TX12, 39) := rfl
theorem zc_150 : ∀ m, z_ce m 150 1 := fun _ => ⟨z_inT (i := 970) (by decide +kernel) (by decide +kernel), by decide +kernel, by decide +kernel⟩
theorem zy_150 : plainName (z_mY 150).cls = true ∧ (150 : Nat) ≠ 128 ∧ (150 : Nat) ≠ 299 := ⟨by decide +kernel, by decide, by decide⟩
theorem zcl_150 : z_cls[11]? = some ((z_mY 150).cls, TX11, 19) := rfl
theorem zc_266 : ∀ m, z_ce m 266 1 := fun _ => ⟨z_inT (i := 1695) (by decide +kernel) (by decide +kernel), by decide +kernel, by decide +kernel⟩
theorem zy_266 : plainName (z_mY 266).cls = true ∧ (266 : Nat) ≠ 128 ∧ (266 : Nat) ≠ 299 := ⟨by decide +kernel, by decide, by decide⟩
theorem zcl_266 : z_cls[12]? = some ((z_mY 266).cls, TX12, 39) := rfl
theorem zc_151 : ∀ m, z_ce m 151 2 := fun _ => ⟨z_inT (i := 992) (by decide +kernel) (by decide +kernel), by decide +kernel, by decide +kernel⟩
theorem zy_151 : plainName (z_mY 151).cls = true ∧ (151 : Nat) ≠ 128 ∧ (151 : Nat) ≠ 299 := ⟨by decide +kernel, by decide, by decide⟩
theorem zcl_151 : z_cls[11]? = some ((z_mY 151).cls, TX11, 19) := rfl
theorem zc_270 : ∀ m, z_ce m 270 2 := fun _ => ⟨z_inT (i := 1715) (by decide +kernel) (by decide +kernel), by decide +kernel, by decide +kernel⟩
theorem zy_270 : plainName (z_mY 270).cls = true ∧ (270 : Nat) ≠ 128 ∧ (270 : Nat) ≠ 299 := ⟨by decide +kernel, by decide, by decide⟩
theorem zcl_270 : z_cls[12]? = some ((z_mY 270).cls, TX12, 39) := rfl
theorem zc_152 : ∀ m, z_ce m 152 1 := fun _ => ⟨z_inT (i := 1017) (by decide +kernel) (by decide +kernel), by decide +kernel, by decide +kernel⟩
theorem zy_152 : plainName (z_mY 152).cls = true ∧ (152 : Nat) ≠ 128 ∧ (152 : Nat) ≠ 299 := ⟨by decide +kernel, by decide, by decide⟩
theorem zcl_152 : z_cls[11]? = some ((z_mY 152).cls, TX11, 19) := rfl
theorem zc_271 : ∀ m, z_ce m 271 1 := fun _ => ⟨z_inT (i := 1731) (by decide +kernel) (by decide +kernel), by decide +kernel, by decide +kernel⟩
theorem zy_271 : plainName (z_mY 271).cls = true ∧ (271 : Nat) ≠ 128 ∧ (271 : Nat) ≠ 299 := ⟨by decide +kernel, by decide, by decide⟩
theorem zcl_271 : z_cls[12]? = some ((z_mY 271).cls, TX12, 39) := rfl
theorem zc_153 : ∀ m, z_ce m 153 6 := fun _ => ⟨z_inT (i := 1029) (by decide +kernel) (by decide +kernel), by decide +kernel, by decide +kernel⟩
theorem zy_153 : plainName (z_mY 153).cls = true ∧ (153 : Nat) ≠ 128 ∧ (153 : Nat) ≠ 299 := ⟨by decide +kernel, by decide, by decide⟩
theorem zcl_153 : z_cls[11]? = some ((z_mY 153).cls, TX11, 19) := rfl
theorem zc_274 : ∀ m, z_ce m 274 6 := fun _ => ⟨z_inT (i := 1735) (by decide +kernel) (by decide +kernel), by decide +kernel, by decide +kernel⟩
theorem zy_274 : plainName (z_mY 274).cls = true ∧ (274 : Nat) ≠ 128 ∧ (274 : Nat) ≠ 299 := ⟨by decide +kernel, by decide, by decide⟩
theorem zcl_274 : z_cls[12]? = some ((z_mY 274).cls, TX12, 39) := rfl
theorem zc_154 : ∀ m, z_ce m 154 4 := fun _ => ⟨z_inT (i := 1037) (by decide +kernel) (by decide +kernel), by decide +kernel, by decide +kernel⟩
theorem zy_154 : plainName (z_mY 154).cls = true ∧ (154 : Nat) ≠ 128 ∧ (154 : Nat) ≠ 299 := ⟨by decide +kernel, by decide, by decide⟩
theorem zcl_154 : z_cls[11]? = some ((z_mY 154).cls, TX11, 19) := rfl
theorem zc_275 : ∀ m, z_ce m 275 4 := fun _ => ⟨z_inT (i := 1747) (by decide +kernel) (by decide +kernel), by decide +kernel, by decide +kernel⟩
theorem zy_275 : plainName (z_mY 275).cls = true ∧ (275 : Nat) ≠ 128 ∧ (275 : Nat) ≠ 299 := ⟨by decide +kernel, by decide, by decide⟩
theorem zcl_275 : z_cls[12]? = some ((z_mY 275).cls, TX12, 39) := rfl
theorem zc_155 : ∀ m, z_ce m 155 2 := fun _ => ⟨z_inT (i := 1042) (by decide +kernel) (by decide +kernel), by decide +kernel, by decide +kernel⟩
theorem zy_155 : plainName (z_mY 155).cls = true ∧ (155 : Nat) ≠ 128 ∧ (155 : Nat) ≠ 299 := ⟨by decide +kernel, by decide, by decide⟩
theorem zcl_155 : z_cls[11]? = some ((z_mY 155).cls, TX11, 19) := rfl
theorem zc_276 : ∀ m, z_ce m 276 2 := fun _ => ⟨z_inT (i := 1751) (by decide +kernel) (by decide +kernel), by decide +kernel, by decide +kernel⟩
theorem zy_276 : plainName (z_mY 276).cls = true ∧ (276 : Nat) ≠ 128 ∧ (276 : Nat) ≠ 299 := ⟨by decide +kernel, by decide, by decide⟩
theorem zcl_276 : z_cls[12]? = some ((z_mY 276).cls, TX12, 39) := rfl
theorem zc_156 : ∀ m, z_ce m 156 2 := fun _ => ⟨z_inT (i := 1050) (by decide +kernel) (by decide +kernel), by decide +kernel, by decide +kernel⟩
theorem zy_156 : plainName (z_mY 156).cls = true ∧ (156 : Nat) ≠ 128 ∧ (156 : Nat) ≠ 299 := ⟨by decide +kernel, by decide, by decide⟩
theorem zcl_156 : z_cls[11]? = some ((z_mY 156).cls, TX11, 19) := rfl
theorem zc_277 : ∀ m, z_ce m 277 2 := fun _ => ⟨z_inT (i := 1755) (by decide +kernel) (by decide +kernel), by decide +kernel, by decide +kernel⟩
theorem zy_277 : plainName (z_mY 277).cls = true ∧ (277 : Nat) ≠ 128 ∧ (277 : Nat) ≠ 299 := ⟨by decide +kernel, by decide, by decide⟩
theorem zcl_277 : z_cls[12]? = some ((z_mY 277).cls, TX12, 39) := rfl
theorem zc_157 : ∀ m, z_ce m 157 3 := fun _ => ⟨z_inT (i := 1054) (by decide +kernel) (by decide +kernel), by decide +kernel, by decide +kernel⟩
theorem zy_157 : plainName (z_mY 157).cls = true ∧ (157 : Nat) ≠ 128 ∧ (157 : Nat) ≠ 299 := ⟨by decide +kernel, by decide, by decide⟩
theorem zcl_157 : z_cls[11]? = some ((z_mY 157).cls, TX11, 19) := rfl
theorem zc_279 : ∀ m, z_ce m 279 3 := fun _ => ⟨z_inT (i := 1759) (by decide +kernel) (by decide +kernel), by decide +kernel, by decide +kernel⟩
theorem zy_279 : plainName (z_mY 279).cls = true ∧ (279 : Nat) ≠ 128 ∧ (279 : Nat) ≠ 299 := ⟨by decide +kernel, by decide, by decide⟩
theorem zcl_279 : z_cls[12]? = some ((z_mY 279).cls, TX12, 39) := rfl
theorem zc_158 : ∀ m, z_ce m 158 2 := fun _ => ⟨z_inT (i := 1068) (by decide +kernel) (by decide +kernel), by decide +kernel, by decide +kernel⟩
theorem zy_158 : plainName (z_mY 158).cls = true ∧ (158 : Nat) ≠ 128 ∧ (158 : Nat) ≠ 299 := ⟨by decide +kernel, by decide, by decide⟩
theorem zcl_158 : z_cls[11]? = some ((z_mY 158).cls, TX11, 19) := rfl
theorem zc_281 : ∀ m, z_ce m 281 2 := fun _ => ⟨z_inT (i := 1767) (by decide +kernel) (by decide +kernel), by decide +kernel, by decide +kernel⟩
theorem zy_281 : plainName (z_mY 281).cls = true ∧ (281 : Nat) ≠ 128 ∧ (281 : Nat) ≠ 299 := ⟨by decide +kernel, by decide, by decide⟩
theorem zcl_281 : z_cls[12]? = some ((z_mY 281).cls, TX12, 39) := rfl
theorem zc_159 : ∀ m, z_ce m 159 1 := fun _ => ⟨z_inT (i := 1081) (by decide +kernel) (by decide +kernel), by decide +kernel, by decide +kernel⟩
theorem zy_159 : plainName (z_mY 159).cls = true ∧ (159 : Nat) ≠ 128 ∧ (159 : Nat) ≠ 299 := ⟨by decide +kernel, by decide, by decide⟩
theorem zcl_159 : z_cls[11]? = some ((z_mY 159).cls, TX11, 19) := rfl
theorem zc_282 : ∀ m, z_ce m 282 1 := fun _ => ⟨z_inT (i := 1775) (by decide +kernel) (by decide +kernel), by decide +kernel, by decide +kernel⟩
theorem zy_282 : plainName (z_mY 282).cls = true ∧ (282 : Nat) ≠ 128 ∧ (282 : Nat) ≠ 299 := ⟨by decide +kernel, by decide, by decide⟩
theorem zcl_282 : z_cls[12]? = some ((z_mY 282).cls, TX12, 39) := rfl
theorem zc_162 : ∀ m, z_ce m 162 1 := fun _ => ⟨z_inT (i := 1085) (by decide +kernel) (by decide +kernel), by decide +kernel, by decide +kernel⟩
theorem zy_162 : plainName (z_mY 162).cls = true ∧ (162 : Nat) ≠ 128 ∧ (162 : Nat) ≠ 299 := ⟨by decide +kernel, by decide, by decide⟩
theorem zcl_162 : z_cls[11]? = some ((z_mY 162).cls, TX11, 19) := rfl
theorem zc_290 : ∀ m, z_ce m 290 1 := fun _ => ⟨z_inT (i := 1779) (by decide +kernel) (by decide +kernel), by decide +kernel, by decide +kernel⟩
theorem zy_290 : plainName (z_mY 290).cls = true ∧ (290 : Nat) ≠ 128 ∧ (290 : Nat) ≠ 299 := ⟨by decide +kernel, by decide, by decide⟩
theorem zcl_290 : z_cls[12]? = some ((z_mY 290).cls, TX12, 39) := rfl
theorem zc_163 : ∀ m, z_ce m 163 0 := fun _ => ⟨z_inT (i := 1116) (by decide +kernel) (by decide +kernel), by decide +kernel, by decide +kernel⟩
theorem zy_163 : plainName (z_mY 163).cls = true ∧ (163 : Nat) ≠ 128 ∧ (163 : Nat) ≠ 299 := ⟨by decide +kernel, by decide, by decide⟩
theorem zcl_163 : z_cls[11]? = some ((z_mY 163).cls, TX11, 19) := rfl
theorem zc_291 : ∀ m, z_ce m 291 0 := fun _ => ⟨z_inT (i := 1811) (by decide +kernel) (by decide +kernel), by decide +kernel, by decide +kernel⟩
theorem zy_291 : plainName (z_mY 291).cls = true ∧ (291 : Nat) ≠ 128 ∧ (291 : Nat) ≠ 299 := ⟨by decide +kernel, by decide, by decide⟩
theorem zcl_291 : z_cls[12]? = some ((z_mY 291).cls, TX12, 39) := rfl
theorem zc_164 : ∀ m, z_ce m 164 0 := fun _ => ⟨z_inT (i := 1125) (by decide +kernel) (by decide +kernel), by decide +kernel, by decide +kernel⟩
theorem zy_164 : plainName (z_mY 164).cls = true ∧ (164 : Nat) ≠ 128 ∧ (164 : Nat) ≠ 299 := ⟨by decide +kernel, by decide, by decide⟩
theorem zcl_164 : z_cls[11]? = some ((z_mY 164).cls, TX11, 19) := rfl
theorem zc_292 : ∀ m, z_ce m 292 0 := fun _ => ⟨z_inT (i := 1815) (by decide +kernel) (by decide +kernel), by decide +kernel, by decide +kernel⟩
theorem zy_292 : plainName (z_mY 292).cls = true ∧ (292 : Nat) ≠ 128 ∧ (292 : Nat) ≠ 299 := ⟨by decide +kernel, by decide, by decide⟩
theorem zcl_292 : z_cls[12]? = some ((z_mY 292).cls, TX12, 39) := rfl
theorem zc_165 : ∀ m, z_ce m 165 1 := fun _ => ⟨z_inT (i := 1129) (by decide +kernel) (by decide +kernel), by decide +kernel, by decide +kernel⟩
theorem zy_165 : plainName (z_mY 165).cls = true ∧ (165 : Nat) ≠ 128 ∧ (165 : Nat) ≠ 299 := ⟨by decide +kernel, by decide, by decide⟩
theorem zcl_165 : z_cls[11]? = some ((z_mY 165).cls, TX11, 19) := rfl
theorem zc_293 : ∀ m, z_ce m 293 1 := fun _ => ⟨z_inT (i := 1819) (by decide +kernel) (by decide +kernel), by decide +kernel, by decide +kernel⟩
theorem zy_293 : plainName (z_mY 293).cls = true ∧ (293 : Nat) ≠ 128 ∧ (293 : Nat) ≠ 299 := ⟨by decide +kernel, by decide, by decide⟩
theorem zcl_293 : z_cls[12]? = some ((z_mY 293).cls, TX12, 39) := rfl
theorem zw_313 : Cond.methodLink (z_mY 0).cls 3 objectInit ∈ z_TB := z_inT (i := 313) (by decide +kernel) (by decide +kernel)
theorem zw_145 : Cond.instanceMethod objectInit ∈ z_TB := z_inT (i := 145) (by decide +kernel) (by decide +kernel)
theorem zw_146 : Cond.code objectInit ⟨#[0xb1]⟩ 1 none ∈ z_TB := z_inT (i := 146) (by decide +kernel) (by decide +kernel)
theorem zw_314 : Cond.fieldLink (z_mY 1).cls 9 "SlabMap$Act" "sort" "I" ∈ z_TB := z_inT (i := 314) (by decide +kernel) (by decide +kernel)
theorem zw_319 : Cond.fieldLink (z_mY 1).cls 15 "SlabMap$Act" "x" "I" ∈ z_TB := z_inT (i := 319) (by decide +kernel) (by decide +kernel)
theorem zw_321 : Cond.fieldLink (z_mY 1).cls 18 "SlabMap$Act" "y" "I" ∈ z_TB := z_inT (i := 321) (by decide +kernel) (by decide +kernel)
theorem zw_323 : Cond.fieldLink (z_mY 1).cls 21 "SlabMap$Act" "toX" "I" ∈ z_TB := z_inT (i := 323) (by decide +kernel) (by decide +kernel)
theorem zw_325 : Cond.fieldLink (z_mY 1).cls 24 "SlabMap$Act" "toY" "I" ∈ z_TB := z_inT (i := 325) (by decide +kernel) (by decide +kernel)
theorem zw_327 : Cond.fieldLink (z_mY 1).cls 27 "SlabMap$Act" "region" "I" ∈ z_TB := z_inT (i := 327) (by decide +kernel) (by decide +kernel)
theorem zw_317 : Cond.fieldLink (z_mY 2).cls 30 "SlabMap$Act" "edge" "I" ∈ z_TB := z_inT (i := 317) (by decide +kernel) (by decide +kernel)
theorem zw_179 : Cond.fieldLink (z_mY 5).cls 33 "SlabMap$Steps" "numbers" "[I" ∈ z_TB := z_inT (i := 179) (by decide +kernel) (by decide +kernel)
theorem zw_126 : Cond.initialized "SlabMap$Act" ∈ z_TB := z_inT (i := 126) (by decide +kernel) (by decide +kernel)
theorem zw_1077 : Cond.methodLink (z_mY 5).cls 39 (z_mY 6) ∈ z_TB := z_inT (i := 1077) (by decide +kernel) (by decide +kernel)
theorem zw_552 : Cond.instanceMethod (z_mY 6) ∈ z_TB := z_inT (i := 552) (by decide +kernel) (by decide +kernel)
theorem zw_553 : Cond.selects (z_mY 6).cls (z_mY 6) (z_mY 6) ∈ z_TB := z_inT (i := 553) (by decide +kernel) (by decide +kernel)
theorem zw_556 : Cond.methodLink (z_mY 6).cls 46 (z_mY 1) ∈ z_TB := z_inT (i := 556) (by decide +kernel) (by decide +kernel)
theorem zw_557 : Cond.instanceMethod (z_mY 1) ∈ z_TB := z_inT (i := 557) (by decide +kernel) (by decide +kernel)
theorem zw_558 : Cond.selects (z_mY 1).cls (z_mY 1) (z_mY 1) ∈ z_TB := z_inT (i := 558) (by decide +kernel) (by decide +kernel)
theorem zw_560 : Cond.methodLink (z_mY 6).cls 50 (z_mY 2) ∈ z_TB := z_inT (i := 560) (by decide +kernel) (by decide +kernel)
theorem zw_561 : Cond.instanceMethod (z_mY 2) ∈ z_TB := z_inT (i := 561) (by decide +kernel) (by decide +kernel)
theorem zw_562 : Cond.selects (z_mY 2).cls (z_mY 2) (z_mY 2) ∈ z_TB := z_inT (i := 562) (by decide +kernel) (by decide +kernel)
theorem zw_564 : Cond.methodLink (z_mY 6).cls 54 (z_mY 3) ∈ z_TB := z_inT (i := 564) (by decide +kernel) (by decide +kernel)
theorem zw_565 : Cond.instanceMethod (z_mY 3) ∈ z_TB := z_inT (i := 565) (by decide +kernel) (by decide +kernel)
theorem zw_566 : Cond.selects (z_mY 3).cls (z_mY 3) (z_mY 3) ∈ z_TB := z_inT (i := 566) (by decide +kernel) (by decide +kernel)
theorem zw_568 : Cond.methodLink (z_mY 6).cls 58 (z_mY 4) ∈ z_TB := z_inT (i := 568) (by decide +kernel) (by decide +kernel)
theorem zw_569 : Cond.instanceMethod (z_mY 4) ∈ z_TB := z_inT (i := 569) (by decide +kernel) (by decide +kernel)
theorem zw_570 : Cond.selects (z_mY 4).cls (z_mY 4) (z_mY 4) ∈ z_TB := z_inT (i := 570) (by decide +kernel) (by decide +kernel)
theorem zw_371 : Cond.methodLink (z_mY 8).cls 3 objectInit ∈ z_TB := z_inT (i := 371) (by decide +kernel) (by decide +kernel)
theorem zw_163 : Cond.arrayClass .int ∈ z_TB := z_inT (i := 163) (by decide +kernel) (by decide +kernel)
theorem zw_374 : Cond.fieldLink (z_mY 8).cls 9 "SlabMap$Colours" "colour" "[I" ∈ z_TB := z_inT (i := 374) (by decide +kernel) (by decide +kernel)
theorem zw_372 : Cond.fieldLink (z_mY 9).cls 15 "SlabMap$Colours" "many" "I" ∈ z_TB := z_inT (i := 372) (by decide +kernel) (by decide +kernel)
theorem zw_128 : Cond.initialized "SlabMap$Colours" ∈ z_TB := z_inT (i := 128) (by decide +kernel) (by decide +kernel)
theorem zw_845 : Cond.methodLink (z_mY 9).cls 19 (z_mY 11) ∈ z_TB := z_inT (i := 845) (by decide +kernel) (by decide +kernel)
theorem zw_846 : Cond.static (z_mY 11) ∈ z_TB := z_inT (i := 846) (by decide +kernel) (by decide +kernel)
theorem zw_117 : Cond.initialized "SlabMap" ∈ z_TB := z_inT (i := 117) (by decide +kernel) (by decide +kernel)
theorem zw_584 : Cond.static (z_mY 167) ∈ z_TB := z_inT (i := 584) (by decide +kernel) (by decide +kernel)
theorem zw_848 : Cond.methodLink (z_mY 11).cls 27 (z_mY 12) ∈ z_TB := z_inT (i := 848) (by decide +kernel) (by decide +kernel)
theorem zw_849 : Cond.static (z_mY 12) ∈ z_TB := z_inT (i := 849) (by decide +kernel) (by decide +kernel)
theorem zw_131 : Cond.initialized "java/lang/Math" ∈ z_TB := z_inT (i := 131) (by decide +kernel) (by decide +kernel)
theorem zw_908 : Cond.methodLink (z_mY 13).cls 1 objectInit ∈ z_TB := z_inT (i := 908) (by decide +kernel) (by decide +kernel)
theorem zw_909 : Cond.fieldLink (z_mY 13).cls 7 "SlabMap$Draws" "x" "J" ∈ z_TB := z_inT (i := 909) (by decide +kernel) (by decide +kernel)
theorem zw_921 : Cond.constantLong (z_mY 14).cls 13 (6364136223846793005) ∈ z_TB := z_inT (i := 921) (by decide +kernel) (by decide +kernel)
theorem zw_922 : Cond.constantLong (z_mY 14).cls 15 (1442695040888963407) ∈ z_TB := z_inT (i := 922) (by decide +kernel) (by decide +kernel)
theorem zw_222 : Cond.methodLink (z_mY 15).cls 3 objectInit ∈ z_TB := z_inT (i := 222) (by decide +kernel) (by decide +kernel)
theorem zw_226 : Cond.fieldLink (z_mY 15).cls 11 "SlabMap$Edges" "row" "[I" ∈ z_TB := z_inT (i := 226) (by decide +kernel) (by decide +kernel)
theorem zw_122 : Cond.initialized "java/util/Arrays" ∈ z_TB := z_inT (i := 122) (by decide +kernel) (by decide +kernel)
theorem zw_223 : Cond.methodLink (z_mY 15).cls 15 (z_mY 298) ∈ z_TB := z_inT (i := 223) (by decide +kernel) (by decide +kernel)
theorem zw_224 : Cond.static (z_mY 298) ∈ z_TB := z_inT (i := 224) (by decide +kernel) (by decide +kernel)
theorem zw_228 : Cond.fieldLink (z_mY 16).cls 21 "SlabMap$Edges" "count" "I" ∈ z_TB := z_inT (i := 228) (by decide +kernel) (by decide +kernel)
theorem zw_775 : Cond.methodLink (z_mY 17).cls 25 arraycopyName ∈ z_TB := z_inT (i := 775) (by decide +kernel) (by decide +kernel)
theorem zw_545 : Cond.native arraycopyName ∈ z_TB := z_inT (i := 545) (by decide +kernel) (by decide +kernel)
theorem zw_544 : Cond.static arraycopyName ∈ z_TB := z_inT (i := 544) (by decide +kernel) (by decide +kernel)
theorem zw_130 : Cond.initialized "java/lang/System" ∈ z_TB := z_inT (i := 130) (by decide +kernel) (by decide +kernel)
theorem zw_121 : Cond.initialized "SlabMap$Edges" ∈ z_TB := z_inT (i := 121) (by decide +kernel) (by decide +kernel)
theorem zw_590 : Cond.methodLink (z_mY 18).cls 31 (z_mY 19) ∈ z_TB := z_inT (i := 590) (by decide +kernel) (by decide +kernel)
theorem zw_591 : Cond.instanceMethod (z_mY 19) ∈ z_TB := z_inT (i := 591) (by decide +kernel) (by decide +kernel)
theorem zw_592 : Cond.selects (z_mY 19).cls (z_mY 19) (z_mY 19) ∈ z_TB := z_inT (i := 592) (by decide +kernel) (by decide +kernel)
theorem zw_736 : Cond.methodLink (z_mY 27).cls 35 (z_mY 26) ∈ z_TB := z_inT (i := 736) (by decide +kernel) (by decide +kernel)
theorem zw_737 : Cond.instanceMethod (z_mY 26) ∈ z_TB := z_inT (i := 737) (by decide +kernel) (by decide +kernel)
theorem zw_738 : Cond.selects (z_mY 26).cls (z_mY 26) (z_mY 26) ∈ z_TB := z_inT (i := 738) (by decide +kernel) (by decide +kernel)
theorem zw_740 : Cond.methodLink (z_mY 27).cls 39 (z_mY 25) ∈ z_TB := z_inT (i := 740) (by decide +kernel) (by decide +kernel)
theorem zw_741 : Cond.instanceMethod (z_mY 25) ∈ z_TB := z_inT (i := 741) (by decide +kernel) (by decide +kernel)
theorem zw_742 : Cond.selects (z_mY 25).cls (z_mY 25) (z_mY 25) ∈ z_TB := z_inT (i := 742) (by decide +kernel) (by decide +kernel)
theorem zw_598 : Cond.methodLink (z_mY 31).cls 43 (z_mY 20) ∈ z_TB := z_inT (i := 598) (by decide +kernel) (by decide +kernel)
theorem zw_599 : Cond.instanceMethod (z_mY 20) ∈ z_TB := z_inT (i := 599) (by decide +kernel) (by decide +kernel)
theorem zw_600 : Cond.selects (z_mY 20).cls (z_mY 20) (z_mY 20) ∈ z_TB := z_inT (i := 600) (by decide +kernel) (by decide +kernel)
theorem zw_602 : Cond.methodLink (z_mY 31).cls 46 (z_mY 21) ∈ z_TB := z_inT (i := 602) (by decide +kernel) (by decide +kernel)
theorem zw_603 : Cond.instanceMethod (z_mY 21) ∈ z_TB := z_inT (i := 603) (by decide +kernel) (by decide +kernel)
theorem zw_604 : Cond.selects (z_mY 21).cls (z_mY 21) (z_mY 21) ∈ z_TB := z_inT (i := 604) (by decide +kernel) (by decide +kernel)
theorem zw_606 : Cond.methodLink (z_mY 31).cls 49 (z_mY 22) ∈ z_TB := z_inT (i := 606) (by decide +kernel) (by decide +kernel)
theorem zw_607 : Cond.instanceMethod (z_mY 22) ∈ z_TB := z_inT (i := 607) (by decide +kernel) (by decide +kernel)
theorem zw_608 : Cond.selects (z_mY 22).cls (z_mY 22) (z_mY 22) ∈ z_TB := z_inT (i := 608) (by decide +kernel) (by decide +kernel)
theorem zw_610 : Cond.methodLink (z_mY 31).cls 52 (z_mY 23) ∈ z_TB := z_inT (i := 610) (by decide +kernel) (by decide +kernel)
theorem zw_611 : Cond.instanceMethod (z_mY 23) ∈ z_TB := z_inT (i := 611) (by decide +kernel) (by decide +kernel)
theorem zw_612 : Cond.selects (z_mY 23).cls (z_mY 23) (z_mY 23) ∈ z_TB := z_inT (i := 612) (by decide +kernel) (by decide +kernel)
theorem zw_614 : Cond.methodLink (z_mY 31).cls 55 (z_mY 33) ∈ z_TB := z_inT (i := 614) (by decide +kernel) (by decide +kernel)
theorem zw_615 : Cond.static (z_mY 33) ∈ z_TB := z_inT (i := 615) (by decide +kernel) (by decide +kernel)
theorem zw_623 : Cond.methodLink (z_mY 31).cls 67 (z_mY 32) ∈ z_TB := z_inT (i := 623) (by decide +kernel) (by decide +kernel)
theorem zw_624 : Cond.static (z_mY 32) ∈ z_TB := z_inT (i := 624) (by decide +kernel) (by decide +kernel)
theorem zw_594 : Cond.methodLink (z_mY 34).cls 71 (z_mY 31) ∈ z_TB := z_inT (i := 594) (by decide +kernel) (by decide +kernel)
theorem zw_595 : Cond.instanceMethod (z_mY 31) ∈ z_TB := z_inT (i := 595) (by decide +kernel) (by decide +kernel)
theorem zw_596 : Cond.selects (z_mY 31).cls (z_mY 31) (z_mY 31) ∈ z_TB := z_inT (i := 596) (by decide +kernel) (by decide +kernel)
theorem zw_315 : Cond.fieldLink (z_mY 35).cls 75 "SlabMap$Act" "sort" "I" ∈ z_TB := z_inT (i := 315) (by decide +kernel) (by decide +kernel)
theorem zw_576 : Cond.methodLink (z_mY 35).cls 80 (z_mY 36) ∈ z_TB := z_inT (i := 576) (by decide +kernel) (by decide +kernel)
theorem zw_578 : Cond.instanceMethod (z_mY 36) ∈ z_TB := z_inT (i := 578) (by decide +kernel) (by decide +kernel)
theorem zw_13 : Cond.selects (z_mY 36).cls (z_mY 36) (z_mY 36) ∈ z_TB := z_inT (i := 13) (by decide +kernel) (by decide +kernel)
theorem zw_318 : Cond.fieldLink (z_mY 35).cls 84 "SlabMap$Act" "edge" "I" ∈ z_TB := z_inT (i := 318) (by decide +kernel) (by decide +kernel)
theorem zw_626 : Cond.methodLink (z_mY 35).cls 87 (z_mY 37) ∈ z_TB := z_inT (i := 626) (by decide +kernel) (by decide +kernel)
theorem zw_628 : Cond.instanceMethod (z_mY 37) ∈ z_TB := z_inT (i := 628) (by decide +kernel) (by decide +kernel)
theorem zw_14 : Cond.selects (z_mY 37).cls (z_mY 37) (z_mY 37) ∈ z_TB := z_inT (i := 14) (by decide +kernel) (by decide +kernel)
theorem zw_634 : Cond.methodLink (z_mY 35).cls 90 (z_mY 38) ∈ z_TB := z_inT (i := 634) (by decide +kernel) (by decide +kernel)
theorem zw_636 : Cond.instanceMethod (z_mY 38) ∈ z_TB := z_inT (i := 636) (by decide +kernel) (by decide +kernel)
theorem zw_15 : Cond.selects (z_mY 38).cls (z_mY 38) (z_mY 38) ∈ z_TB := z_inT (i := 15) (by decide +kernel) (by decide +kernel)
theorem zw_320 : Cond.fieldLink (z_mY 36).cls 93 "SlabMap$Act" "x" "I" ∈ z_TB := z_inT (i := 320) (by decide +kernel) (by decide +kernel)
theorem zw_322 : Cond.fieldLink (z_mY 36).cls 95 "SlabMap$Act" "y" "I" ∈ z_TB := z_inT (i := 322) (by decide +kernel) (by decide +kernel)
theorem zw_581 : Cond.static (z_mY 166) ∈ z_TB := z_inT (i := 581) (by decide +kernel) (by decide +kernel)
theorem zw_324 : Cond.fieldLink (z_mY 36).cls 100 "SlabMap$Act" "toX" "I" ∈ z_TB := z_inT (i := 324) (by decide +kernel) (by decide +kernel)
theorem zw_326 : Cond.fieldLink (z_mY 36).cls 102 "SlabMap$Act" "toY" "I" ∈ z_TB := z_inT (i := 326) (by decide +kernel) (by decide +kernel)
theorem zw_328 : Cond.fieldLink (z_mY 36).cls 104 "SlabMap$Act" "region" "I" ∈ z_TB := z_inT (i := 328) (by decide +kernel) (by decide +kernel)
theorem zw_586 : Cond.methodLink (z_mY 36).cls 110 (z_mY 34) ∈ z_TB := z_inT (i := 586) (by decide +kernel) (by decide +kernel)
theorem zw_587 : Cond.instanceMethod (z_mY 34) ∈ z_TB := z_inT (i := 587) (by decide +kernel) (by decide +kernel)
theorem zw_588 : Cond.selects (z_mY 34).cls (z_mY 34) (z_mY 34) ∈ z_TB := z_inT (i := 588) (by decide +kernel) (by decide +kernel)
theorem zw_630 : Cond.methodLink (z_mY 37).cls 114 (z_mY 24) ∈ z_TB := z_inT (i := 630) (by decide +kernel) (by decide +kernel)
theorem zw_631 : Cond.instanceMethod (z_mY 24) ∈ z_TB := z_inT (i := 631) (by decide +kernel) (by decide +kernel)
theorem zw_632 : Cond.selects (z_mY 24).cls (z_mY 24) (z_mY 24) ∈ z_TB := z_inT (i := 632) (by decide +kernel) (by decide +kernel)
theorem zw_638 : Cond.methodLink (z_mY 38).cls 116 (z_mY 39) ∈ z_TB := z_inT (i := 638) (by decide +kernel) (by decide +kernel)
theorem zw_639 : Cond.static (z_mY 39) ∈ z_TB := z_inT (i := 639) (by decide +kernel) (by decide +kernel)
