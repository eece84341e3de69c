/-! FUNCTIONS FOR METHODS, by wip/whole/funs.py: F_Chk_law2 -/
noncomputable def jM_320 : JMeth := (12, false, 2, jk_320, [], 7)
set_option maxRecDepth 100000 in
theorem jM_320_at : jt_Ms 320 = some jM_320 := rfl
noncomputable def F_Chk_law2_b2405 (k23 : Nat → Nat → Nat → Nat → Int32 → LH → Option (Int32 × LH)) (l0 : Nat) (l1 : Nat) (l2 : Nat) (l3 : Nat) (l4 : Int32) (h : LH) : Option (Int32 × LH) :=
 k23 l0 l1 l2 l3 (l4 + (6 : Int32)) h
set_option maxHeartbeats 8000000 in
set_option maxRecDepth 100000 in
theorem F_Chk_law2_b2405_ok {d : Nat} {q : (Int32 × LH)} {k23 : Nat → Nat → Nat → Nat → Int32 → LH → Option (Int32 × LH)} (hd : 201 ≤ d) (hk23 : ∀ (l0 : Nat) (l1 : Nat) (l2 : Nat) (l3 : Nat) (l4 : Int32) (u5 : Value) (u6 : Value) (h : LH), k23 l0 l1 l2 l3 l4 h = some q → JR d jM_320 23 [.ref l0, .ref l1, .ref l2, .ref l3, .int l4, u5, u6] [] h (jo_i q)) {l0 : Nat} {l1 : Nat} {l2 : Nat} {l3 : Nat} {l4 : Int32} {u5 : Value} {u6 : Value} {h : LH} : F_Chk_law2_b2405 k23 l0 l1 l2 l3 l4 h = some q → JR d jM_320 2405 [.ref l0, .ref l1, .ref l2, .ref l3, .int l4, u5, u6] [] h (jo_i q) := by
 unfold F_Chk_law2_b2405
 exact jr_iinc 2405 2408 [.ref l0, .ref l1, .ref l2, .ref l3, .int (l4 + (6 : Int32)), u5, u6] rfl jc_i_6 rfl rfl rfl rfl
  (jr_goto 2408 23 rfl rfl
  ((hk23 _ _ _ _ _ _ _ _)))
noncomputable def F_Chk_law2_b212 (k23 : Nat → Nat → Nat → Nat → Int32 → LH → Option (Int32 × LH)) (l0 : Nat) (l1 : Nat) (l2 : Nat) (l3 : Nat) (l4 : Int32) (h : LH) : Option (Int32 × LH) :=
 jf_ia h l0 (l4 + (1 : Int32)) fun v1 =>
 jf_ia h l0 (l4 + (2 : Int32)) fun v2 =>
 jf_ia h l0 (l4 + (3 : Int32)) fun v3 =>
 jf_ia h l0 (l4 + (4 : Int32)) fun v4 =>
 jf_ia h l0 (l4 + (5 : Int32)) fun v5 =>
 jf_kd h l1 10
 (jf_bi (F_SG_feed l1 v1 v2 v3 v4 v5 h) fun v6 h7 =>
 jf_ia h7 l0 (l4 + (1 : Int32)) fun v8 =>
 jf_ia h7 l0 (l4 + (2 : Int32)) fun v9 =>
 jf_ia h7 l0 (l4 + (3 : Int32)) fun v10 =>
 jf_ia h7 l0 (l4 + (4 : Int32)) fun v11 =>
 jf_ia h7 l0 (l4 + (5 : Int32)) fun v12 =>
 jf_kd h7 l2 11
 (jf_bi (F_Mod_feed l2 v8 v9 v10 v11 v12 h7) fun v13 h14 =>
 if v6 = v13 then
 F_Chk_law2_b2405 k23 l0 l1 l2 l3 l4 h14
else
 jf_rz (0 : Int32) (some ((0 : Int32), h14))))
set_option maxHeartbeats 8000000 in
set_option maxRecDepth 100000 in
theorem F_Chk_law2_b212_ok {d : Nat} {q : (Int32 × LH)} {k23 : Nat → Nat → Nat → Nat → Int32 → LH → Option (Int32 × LH)} (hd : 201 ≤ d) (hk23 : ∀ (l0 : Nat) (l1 : Nat) (l2 : Nat) (l3 : Nat) (l4 : Int32) (u5 : Value) (u6 : Value) (h : LH), k23 l0 l1 l2 l3 l4 h = some q → JR d jM_320 23 [.ref l0, .ref l1, .ref l2, .ref l3, .int l4, u5, u6] [] h (jo_i q)) {l0 : Nat} {l1 : Nat} {l2 : Nat} {l3 : Nat} {l4 : Int32} {u5 : Value} {u6 : Value} {h : LH} : F_Chk_law2_b212 k23 l0 l1 l2 l3 l4 h = some q → JR d jM_320 212 [.ref l0, .ref l1, .ref l2, .ref l3, .int l4, u5, u6] [] h (jo_i q) := by
 unfold F_Chk_law2_b212
 exact jr_aloadn 212 213 rfl rfl rfl
  (jr_aloadn 213 214 rfl rfl rfl
  (jr_iload 214 216 rfl rfl rfl
  (jr_iconst 216 217 (1 : Int32) rfl jc_i_1 rfl
  (jr_iadd 217 218 rfl rfl
  (jr_ia 218 219 rfl rfl (fun v1 =>
  jr_aloadn 219 220 rfl rfl rfl
  (jr_iload 220 222 rfl rfl rfl
  (jr_iconst 222 223 (2 : Int32) rfl jc_i_2 rfl
  (jr_iadd 223 224 rfl rfl
  (jr_ia 224 225 rfl rfl (fun v2 =>
  jr_aloadn 225 226 rfl rfl rfl
  (jr_iload 226 228 rfl rfl rfl
  (jr_iconst 228 229 (3 : Int32) rfl jc_i_3 rfl
  (jr_iadd 229 230 rfl rfl
  (jr_ia 230 231 rfl rfl (fun v3 =>
  jr_aloadn 231 232 rfl rfl rfl
  (jr_iload 232 234 rfl rfl rfl
  (jr_iconst 234 235 (4 : Int32) rfl jc_i_4 rfl
  (jr_iadd 235 236 rfl rfl
  (jr_ia 236 237 rfl rfl (fun v4 =>
  jr_aloadn 237 238 rfl rfl rfl
  (jr_iload 238 240 rfl rfl rfl
  (jr_iconst 240 241 (5 : Int32) rfl jc_i_5 rfl
  (jr_iadd 241 242 rfl rfl
  (jr_ia 242 243 rfl rfl (fun v5 =>
  jr_cVi 243 246 [] rfl rfl rfl rfl rfl rfl rfl rfl (as := [.int v1, .int v2, .int v3, .int v4, .int v5]) (F_SG_feed_ok (Nat.le_trans (by decide : 2 ≤ 201) hd)) (fun v6 h7 =>
  jr_aloadn 246 247 rfl rfl rfl
  (jr_aloadn 247 248 rfl rfl rfl
  (jr_iload 248 250 rfl rfl rfl
  (jr_iconst 250 251 (1 : Int32) rfl jc_i_1 rfl
  (jr_iadd 251 252 rfl rfl
  (jr_ia 252 253 rfl rfl (fun v8 =>
  jr_aloadn 253 254 rfl rfl rfl
  (jr_iload 254 256 rfl rfl rfl
  (jr_iconst 256 257 (2 : Int32) rfl jc_i_2 rfl
  (jr_iadd 257 258 rfl rfl
  (jr_ia 258 259 rfl rfl (fun v9 =>
  jr_aloadn 259 260 rfl rfl rfl
  (jr_iload 260 262 rfl rfl rfl
  (jr_iconst 262 263 (3 : Int32) rfl jc_i_3 rfl
  (jr_iadd 263 264 rfl rfl
  (jr_ia 264 265 rfl rfl (fun v10 =>
  jr_aloadn 265 266 rfl rfl rfl
  (jr_iload 266 268 rfl rfl rfl
  (jr_iconst 268 269 (4 : Int32) rfl jc_i_4 rfl
  (jr_iadd 269 270 rfl rfl
  (jr_ia 270 271 rfl rfl (fun v11 =>
  jr_aloadn 271 272 rfl rfl rfl
  (jr_iload 272 274 rfl rfl rfl
  (jr_iconst 274 275 (5 : Int32) rfl jc_i_5 rfl
  (jr_iadd 275 276 rfl rfl
  (jr_ia 276 277 rfl rfl (fun v12 =>
  jr_cVi 277 280 [.int v6] rfl rfl rfl rfl rfl rfl rfl rfl (as := [.int v8, .int v9, .int v10, .int v11, .int v12]) (F_Mod_feed_ok (Nat.le_trans (by decide : 1 ≤ 201) hd)) (fun v13 h14 =>
  jr_icmp_eq 280 2405 283 rfl rfl rfl
  ((F_Chk_law2_b2405_ok hd hk23))
  (jr_iconst 283 284 (0 : Int32) rfl jc_i_0 rfl
  (jr_rz 284 rfl rfl))))))))))))))))))))))))))))))))))))))))))))))))))))))))
noncomputable def F_Chk_law2_b338 (k23 : Nat → Nat → Nat → Nat → Int32 → LH → Option (Int32 × LH)) (l0 : Nat) (l1 : Nat) (l2 : Nat) (l3 : Nat) (l4 : Int32) (h : LH) : Option (Int32 × LH) :=
 F_Chk_law2_b2405 k23 l0 l1 l2 l3 l4 h
set_option maxHeartbeats 8000000 in
set_option maxRecDepth 100000 in
theorem F_Chk_law2_b338_ok {d : Nat} {q : (Int32 × LH)} {k23 : Nat → Nat → Nat → Nat → Int32 → LH → Option (Int32 × LH)} (hd : 201 ≤ d) (hk23 : ∀ (l0 : Nat) (l1 : Nat) (l2 : Nat) (l3 : Nat) (l4 : Int32) (u5 : Value) (u6 : Value) (h : LH), k23 l0 l1 l2 l3 l4 h = some q → JR d jM_320 23 [.ref l0, .ref l1, .ref l2, .ref l3, .int l4, u5, u6] [] h (jo_i q)) {l0 : Nat} {l1 : Nat} {l2 : Nat} {l3 : Nat} {l4 : Int32} {u5 : Value} {u6 : Value} {h : LH} : F_Chk_law2_b338 k23 l0 l1 l2 l3 l4 h = some q → JR d jM_320 338 [.ref l0, .ref l1, .ref l2, .ref l3, .int l4, u5, u6] [] h (jo_i q) := by
 unfold F_Chk_law2_b338
 exact jr_goto 338 2405 rfl rfl
  ((F_Chk_law2_b2405_ok hd hk23))
noncomputable def F_Chk_law2_b285 (k23 : Nat → Nat → Nat → Nat → Int32 → LH → Option (Int32 × LH)) (l0 : Nat) (l1 : Nat) (l2 : Nat) (l3 : Nat) (l4 : Int32) (h : LH) : Option (Int32 × LH) :=
 jf_ia h l0 (l4 + (1 : Int32)) fun v1 =>
 jf_bi (F_Chk_town l1 v1 l3 h) fun v2 h3 =>
 jf_ia h3 l0 (l4 + (1 : Int32)) fun v4 =>
 jf_kd h3 l2 11
 (jf_bi (F_Mod_town l2 v4 h3) fun v5 h6 =>
 jf_kd h6 l2 11
 (jf_bi (F_Mod_thrown l2 h6) fun v7 h8 =>
 if v7 = v2 then
 if v2 = 0 then
 jf_la h8 l3 (0 : Int32) fun v9 =>
 if (lg_cmp v9 (v5).toInt64) = 0 then
 F_Chk_law2_b338 k23 l0 l1 l2 l3 l4 h8
else
 jf_rz (0 : Int32) (some ((0 : Int32), h8))
else
 F_Chk_law2_b338 k23 l0 l1 l2 l3 l4 h8
else
 jf_rz (0 : Int32) (some ((0 : Int32), h8))))
set_option maxHeartbeats 8000000 in
set_option maxRecDepth 100000 in
theorem F_Chk_law2_b285_ok {d : Nat} {q : (Int32 × LH)} {k23 : Nat → Nat → Nat → Nat → Int32 → LH → Option (Int32 × LH)} (hd : 201 ≤ d) (hk23 : ∀ (l0 : Nat) (l1 : Nat) (l2 : Nat) (l3 : Nat) (l4 : Int32) (u5 : Value) (u6 : Value) (h : LH), k23 l0 l1 l2 l3 l4 h = some q → JR d jM_320 23 [.ref l0, .ref l1, .ref l2, .ref l3, .int l4, u5, u6] [] h (jo_i q)) {l0 : Nat} {l1 : Nat} {l2 : Nat} {l3 : Nat} {l4 : Int32} {u5 : Value} {u6 : Value} {h : LH} : F_Chk_law2_b285 k23 l0 l1 l2 l3 l4 h = some q → JR d jM_320 285 [.ref l0, .ref l1, .ref l2, .ref l3, .int l4, u5, u6] [] h (jo_i q) := by
 unfold F_Chk_law2_b285
 exact jr_aloadn 285 286 rfl rfl rfl
  (jr_aloadn 286 287 rfl rfl rfl
  (jr_iload 287 289 rfl rfl rfl
  (jr_iconst 289 290 (1 : Int32) rfl jc_i_1 rfl
  (jr_iadd 290 291 rfl rfl
  (jr_ia 291 292 rfl rfl (fun v1 =>
  jr_aloadn 292 293 rfl rfl rfl
  (jr_cSi 293 296 [] rfl rfl rfl rfl rfl rfl rfl (as := [.ref l1, .int v1, .ref l3]) (F_Chk_town_ok (Nat.le_trans (by decide : 9 ≤ 201) hd)) (fun v2 h3 =>
  jr_istore 296 298 [.ref l0, .ref l1, .ref l2, .ref l3, .int l4, .int v2, u6] rfl rfl rfl rfl
  (jr_aloadn 298 299 rfl rfl rfl
  (jr_aloadn 299 300 rfl rfl rfl
  (jr_iload 300 302 rfl rfl rfl
  (jr_iconst 302 303 (1 : Int32) rfl jc_i_1 rfl
  (jr_iadd 303 304 rfl rfl
  (jr_ia 304 305 rfl rfl (fun v4 =>
  jr_cVi 305 308 [] rfl rfl rfl rfl rfl rfl rfl rfl (as := [.int v4]) (F_Mod_town_ok (Nat.le_trans (by decide : 7 ≤ 201) hd)) (fun v5 h6 =>
  jr_istore 308 310 [.ref l0, .ref l1, .ref l2, .ref l3, .int l4, .int v2, .int v5] rfl rfl rfl rfl
  (jr_aloadn 310 311 rfl rfl rfl
  (jr_cVi 311 314 [] rfl rfl rfl rfl rfl rfl rfl rfl (as := []) (F_Mod_thrown_ok (Nat.le_trans (by decide : 1 ≤ 201) hd)) (fun v7 h8 =>
  jr_iload 314 316 rfl rfl rfl
  (jr_icmp_eq 316 321 319 rfl rfl rfl
  (jr_iload 321 323 rfl rfl rfl
  (jr_if_ne 323 338 326 rfl rfl rfl
  ((F_Chk_law2_b338_ok hd hk23))
  (jr_aloadn 326 327 rfl rfl rfl
  (jr_iconst 327 328 (0 : Int32) rfl jc_i_0 rfl
  (jr_la 328 329 rfl rfl (fun v9 =>
  jr_iload 329 331 rfl rfl rfl
  (jr_i2l 331 332 rfl rfl
  (jr_lcmp 332 333 rfl rfl
  (jr_if_eq 333 338 336 rfl rfl rfl
  ((F_Chk_law2_b338_ok hd hk23))
  (jr_iconst 336 337 (0 : Int32) rfl jc_i_0 rfl
  (jr_rz 337 rfl rfl)))))))))))
  (jr_iconst 319 320 (0 : Int32) rfl jc_i_0 rfl
  (jr_rz 320 rfl rfl))))))))))))))))))))))
noncomputable def F_Chk_law2_b394 (k23 : Nat → Nat → Nat → Nat → Int32 → LH → Option (Int32 × LH)) (l0 : Nat) (l1 : Nat) (l2 : Nat) (l3 : Nat) (l4 : Int32) (h : LH) : Option (Int32 × LH) :=
 F_Chk_law2_b2405 k23 l0 l1 l2 l3 l4 h
set_option maxHeartbeats 8000000 in
set_option maxRecDepth 100000 in
theorem F_Chk_law2_b394_ok {d : Nat} {q : (Int32 × LH)} {k23 : Nat → Nat → Nat → Nat → Int32 → LH → Option (Int32 × LH)} (hd : 201 ≤ d) (hk23 : ∀ (l0 : Nat) (l1 : Nat) (l2 : Nat) (l3 : Nat) (l4 : Int32) (u5 : Value) (u6 : Value) (h : LH), k23 l0 l1 l2 l3 l4 h = some q → JR d jM_320 23 [.ref l0, .ref l1, .ref l2, .ref l3, .int l4, u5, u6] [] h (jo_i q)) {l0 : Nat} {l1 : Nat} {l2 : Nat} {l3 : Nat} {l4 : Int32} {u5 : Value} {u6 : Value} {h : LH} : F_Chk_law2_b394 k23 l0 l1 l2 l3 l4 h = some q → JR d jM_320 394 [.ref l0, .ref l1, .ref l2, .ref l3, .int l4, u5, u6] [] h (jo_i q) := by
 unfold F_Chk_law2_b394
 exact jr_goto 394 2405 rfl rfl
  ((F_Chk_law2_b2405_ok hd hk23))
noncomputable def F_Chk_law2_b341 (k23 : Nat → Nat → Nat → Nat → Int32 → LH → Option (Int32 × LH)) (l0 : Nat) (l1 : Nat) (l2 : Nat) (l3 : Nat) (l4 : Int32) (h : LH) : Option (Int32 × LH) :=
 jf_ia h l0 (l4 + (1 : Int32)) fun v1 =>
 jf_bi (F_Chk_law l1 v1 l3 h) fun v2 h3 =>
 jf_ia h3 l0 (l4 + (1 : Int32)) fun v4 =>
 jf_kd h3 l2 11
 (jf_bi (F_Mod_law l2 v4 h3) fun v5 h6 =>
 jf_kd h6 l2 11
 (jf_bi (F_Mod_thrown l2 h6) fun v7 h8 =>
 if v7 = v2 then
 if v2 = 0 then
 jf_la h8 l3 (0 : Int32) fun v9 =>
 if (lg_cmp v9 (v5).toInt64) = 0 then
 F_Chk_law2_b394 k23 l0 l1 l2 l3 l4 h8
else
 jf_rz (0 : Int32) (some ((0 : Int32), h8))
else
 F_Chk_law2_b394 k23 l0 l1 l2 l3 l4 h8
else
 jf_rz (0 : Int32) (some ((0 : Int32), h8))))
set_option maxHeartbeats 8000000 in
set_option maxRecDepth 100000 in
theorem F_Chk_law2_b341_ok {d : Nat} {q : (Int32 × LH)} {k23 : Nat → Nat → Nat → Nat → Int32 → LH → Option (Int32 × LH)} (hd : 201 ≤ d) (hk23 : ∀ (l0 : Nat) (l1 : Nat) (l2 : Nat) (l3 : Nat) (l4 : Int32) (u5 : Value) (u6 : Value) (h : LH), k23 l0 l1 l2 l3 l4 h = some q → JR d jM_320 23 [.ref l0, .ref l1, .ref l2, .ref l3, .int l4, u5, u6] [] h (jo_i q)) {l0 : Nat} {l1 : Nat} {l2 : Nat} {l3 : Nat} {l4 : Int32} {u5 : Value} {u6 : Value} {h : LH} : F_Chk_law2_b341 k23 l0 l1 l2 l3 l4 h = some q → JR d jM_320 341 [.ref l0, .ref l1, .ref l2, .ref l3, .int l4, u5, u6] [] h (jo_i q) := by
 unfold F_Chk_law2_b341
 exact jr_aloadn 341 342 rfl rfl rfl
  (jr_aloadn 342 343 rfl rfl rfl
  (jr_iload 343 345 rfl rfl rfl
  (jr_iconst 345 346 (1 : Int32) rfl jc_i_1 rfl
  (jr_iadd 346 347 rfl rfl
  (jr_ia 347 348 rfl rfl (fun v1 =>
  jr_aloadn 348 349 rfl rfl rfl
  (jr_cSi 349 352 [] rfl rfl rfl rfl rfl rfl rfl (as := [.ref l1, .int v1, .ref l3]) (F_Chk_law_ok (Nat.le_trans (by decide : 183 ≤ 201) hd)) (fun v2 h3 =>
  jr_istore 352 354 [.ref l0, .ref l1, .ref l2, .ref l3, .int l4, .int v2, u6] rfl rfl rfl rfl
  (jr_aloadn 354 355 rfl rfl rfl
  (jr_aloadn 355 356 rfl rfl rfl
  (jr_iload 356 358 rfl rfl rfl
  (jr_iconst 358 359 (1 : Int32) rfl jc_i_1 rfl
  (jr_iadd 359 360 rfl rfl
  (jr_ia 360 361 rfl rfl (fun v4 =>
  jr_cVi 361 364 [] rfl rfl rfl rfl rfl rfl rfl rfl (as := [.int v4]) (F_Mod_law_ok (Nat.le_trans (by decide : 181 ≤ 201) hd)) (fun v5 h6 =>
  jr_istore 364 366 [.ref l0, .ref l1, .ref l2, .ref l3, .int l4, .int v2, .int v5] rfl rfl rfl rfl
  (jr_aloadn 366 367 rfl rfl rfl
  (jr_cVi 367 370 [] rfl rfl rfl rfl rfl rfl rfl rfl (as := []) (F_Mod_thrown_ok (Nat.le_trans (by decide : 1 ≤ 201) hd)) (fun v7 h8 =>
  jr_iload 370 372 rfl rfl rfl
  (jr_icmp_eq 372 377 375 rfl rfl rfl
  (jr_iload 377 379 rfl rfl rfl
  (jr_if_ne 379 394 382 rfl rfl rfl
  ((F_Chk_law2_b394_ok hd hk23))
  (jr_aloadn 382 383 rfl rfl rfl
  (jr_iconst 383 384 (0 : Int32) rfl jc_i_0 rfl
  (jr_la 384 385 rfl rfl (fun v9 =>
  jr_iload 385 387 rfl rfl rfl
  (jr_i2l 387 388 rfl rfl
  (jr_lcmp 388 389 rfl rfl
  (jr_if_eq 389 394 392 rfl rfl rfl
  ((F_Chk_law2_b394_ok hd hk23))
  (jr_iconst 392 393 (0 : Int32) rfl jc_i_0 rfl
  (jr_rz 393 rfl rfl)))))))))))
  (jr_iconst 375 376 (0 : Int32) rfl jc_i_0 rfl
  (jr_rz 376 rfl rfl))))))))))))))))))))))
noncomputable def F_Chk_law2_b450 (k23 : Nat → Nat → Nat → Nat → Int32 → LH → Option (Int32 × LH)) (l0 : Nat) (l1 : Nat) (l2 : Nat) (l3 : Nat) (l4 : Int32) (h : LH) : Option (Int32 × LH) :=
 F_Chk_law2_b2405 k23 l0 l1 l2 l3 l4 h
set_option maxHeartbeats 8000000 in
set_option maxRecDepth 100000 in
theorem F_Chk_law2_b450_ok {d : Nat} {q : (Int32 × LH)} {k23 : Nat → Nat → Nat → Nat → Int32 → LH → Option (Int32 × LH)} (hd : 201 ≤ d) (hk23 : ∀ (l0 : Nat) (l1 : Nat) (l2 : Nat) (l3 : Nat) (l4 : Int32) (u5 : Value) (u6 : Value) (h : LH), k23 l0 l1 l2 l3 l4 h = some q → JR d jM_320 23 [.ref l0, .ref l1, .ref l2, .ref l3, .int l4, u5, u6] [] h (jo_i q)) {l0 : Nat} {l1 : Nat} {l2 : Nat} {l3 : Nat} {l4 : Int32} {u5 : Value} {u6 : Value} {h : LH} : F_Chk_law2_b450 k23 l0 l1 l2 l3 l4 h = some q → JR d jM_320 450 [.ref l0, .ref l1, .ref l2, .ref l3, .int l4, u5, u6] [] h (jo_i q) := by
 unfold F_Chk_law2_b450
 exact jr_goto 450 2405 rfl rfl
  ((F_Chk_law2_b2405_ok hd hk23))
noncomputable def F_Chk_law2_b397 (k23 : Nat → Nat → Nat → Nat → Int32 → LH → Option (Int32 × LH)) (l0 : Nat) (l1 : Nat) (l2 : Nat) (l3 : Nat) (l4 : Int32) (h : LH) : Option (Int32 × LH) :=
 jf_ia h l0 (l4 + (1 : Int32)) fun v1 =>
 jf_bi (F_Chk_work l1 v1 l3 h) fun v2 h3 =>
 jf_ia h3 l0 (l4 + (1 : Int32)) fun v4 =>
 jf_kd h3 l2 11
 (jf_bi (F_Mod_work l2 v4 h3) fun v5 h6 =>
 jf_kd h6 l2 11
 (jf_bi (F_Mod_thrown l2 h6) fun v7 h8 =>
 if v7 = v2 then
 if v2 = 0 then
 jf_la h8 l3 (0 : Int32) fun v9 =>
 if (lg_cmp v9 (v5).toInt64) = 0 then
 F_Chk_law2_b450 k23 l0 l1 l2 l3 l4 h8
else
 jf_rz (0 : Int32) (some ((0 : Int32), h8))
else
 F_Chk_law2_b450 k23 l0 l1 l2 l3 l4 h8
else
 jf_rz (0 : Int32) (some ((0 : Int32), h8))))
set_option maxHeartbeats 8000000 in
set_option maxRecDepth 100000 in
theorem F_Chk_law2_b397_ok {d : Nat} {q : (Int32 × LH)} {k23 : Nat → Nat → Nat → Nat → Int32 → LH → Option (Int32 × LH)} (hd : 201 ≤ d) (hk23 : ∀ (l0 : Nat) (l1 : Nat) (l2 : Nat) (l3 : Nat) (l4 : Int32) (u5 : Value) (u6 : Value) (h : LH), k23 l0 l1 l2 l3 l4 h = some q → JR d jM_320 23 [.ref l0, .ref l1, .ref l2, .ref l3, .int l4, u5, u6] [] h (jo_i q)) {l0 : Nat} {l1 : Nat} {l2 : Nat} {l3 : Nat} {l4 : Int32} {u5 : Value} {u6 : Value} {h : LH} : F_Chk_law2_b397 k23 l0 l1 l2 l3 l4 h = some q → JR d jM_320 397 [.ref l0, .ref l1, .ref l2, .ref l3, .int l4, u5, u6] [] h (jo_i q) := by
 unfold F_Chk_law2_b397
 exact jr_aloadn 397 398 rfl rfl rfl
  (jr_aloadn 398 399 rfl rfl rfl
  (jr_iload 399 401 rfl rfl rfl
  (jr_iconst 401 402 (1 : Int32) rfl jc_i_1 rfl
  (jr_iadd 402 403 rfl rfl
  (jr_ia 403 404 rfl rfl (fun v1 =>
  jr_aloadn 404 405 rfl rfl rfl
  (jr_cSi 405 408 [] rfl rfl rfl rfl rfl rfl rfl (as := [.ref l1, .int v1, .ref l3]) (F_Chk_work_ok (Nat.le_trans (by decide : 143 ≤ 201) hd)) (fun v2 h3 =>
  jr_istore 408 410 [.ref l0, .ref l1, .ref l2, .ref l3, .int l4, .int v2, u6] rfl rfl rfl rfl
  (jr_aloadn 410 411 rfl rfl rfl
  (jr_aloadn 411 412 rfl rfl rfl
  (jr_iload 412 414 rfl rfl rfl
  (jr_iconst 414 415 (1 : Int32) rfl jc_i_1 rfl
  (jr_iadd 415 416 rfl rfl
  (jr_ia 416 417 rfl rfl (fun v4 =>
  jr_cVi 417 420 [] rfl rfl rfl rfl rfl rfl rfl rfl (as := [.int v4]) (F_Mod_work_ok (Nat.le_trans (by decide : 201 ≤ 201) hd)) (fun v5 h6 =>
  jr_istore 420 422 [.ref l0, .ref l1, .ref l2, .ref l3, .int l4, .int v2, .int v5] rfl rfl rfl rfl
  (jr_aloadn 422 423 rfl rfl rfl
  (jr_cVi 423 426 [] rfl rfl rfl rfl rfl rfl rfl rfl (as := []) (F_Mod_thrown_ok (Nat.le_trans (by decide : 1 ≤ 201) hd)) (fun v7 h8 =>
  jr_iload 426 428 rfl rfl rfl
  (jr_icmp_eq 428 433 431 rfl rfl rfl
  (jr_iload 433 435 rfl rfl rfl
  (jr_if_ne 435 450 438 rfl rfl rfl
  ((F_Chk_law2_b450_ok hd hk23))
  (jr_aloadn 438 439 rfl rfl rfl
  (jr_iconst 439 440 (0 : Int32) rfl jc_i_0 rfl
  (jr_la 440 441 rfl rfl (fun v9 =>
  jr_iload 441 443 rfl rfl rfl
  (jr_i2l 443 444 rfl rfl
  (jr_lcmp 444 445 rfl rfl
  (jr_if_eq 445 450 448 rfl rfl rfl
  ((F_Chk_law2_b450_ok hd hk23))
  (jr_iconst 448 449 (0 : Int32) rfl jc_i_0 rfl
  (jr_rz 449 rfl rfl)))))))))))
  (jr_iconst 431 432 (0 : Int32) rfl jc_i_0 rfl
  (jr_rz 432 rfl rfl))))))))))))))))))))))
noncomputable def F_Chk_law2_b506 (k23 : Nat → Nat → Nat → Nat → Int32 → LH → Option (Int32 × LH)) (l0 : Nat) (l1 : Nat) (l2 : Nat) (l3 : Nat) (l4 : Int32) (h : LH) : Option (Int32 × LH) :=
 F_Chk_law2_b2405 k23 l0 l1 l2 l3 l4 h
set_option maxHeartbeats 8000000 in
set_option maxRecDepth 100000 in
theorem F_Chk_law2_b506_ok {d : Nat} {q : (Int32 × LH)} {k23 : Nat → Nat → Nat → Nat → Int32 → LH → Option (Int32 × LH)} (hd : 201 ≤ d) (hk23 : ∀ (l0 : Nat) (l1 : Nat) (l2 : Nat) (l3 : Nat) (l4 : Int32) (u5 : Value) (u6 : Value) (h : LH), k23 l0 l1 l2 l3 l4 h = some q → JR d jM_320 23 [.ref l0, .ref l1, .ref l2, .ref l3, .int l4, u5, u6] [] h (jo_i q)) {l0 : Nat} {l1 : Nat} {l2 : Nat} {l3 : Nat} {l4 : Int32} {u5 : Value} {u6 : Value} {h : LH} : F_Chk_law2_b506 k23 l0 l1 l2 l3 l4 h = some q → JR d jM_320 506 [.ref l0, .ref l1, .ref l2, .ref l3, .int l4, u5, u6] [] h (jo_i q) := by
 unfold F_Chk_law2_b506
 exact jr_goto 506 2405 rfl rfl
  ((F_Chk_law2_b2405_ok hd hk23))
noncomputable def F_Chk_law2_b453 (k23 : Nat → Nat → Nat → Nat → Int32 → LH → Option (Int32 × LH)) (l0 : Nat) (l1 : Nat) (l2 : Nat) (l3 : Nat) (l4 : Int32) (h : LH) : Option (Int32 × LH) :=
 jf_ia h l0 (l4 + (1 : Int32)) fun v1 =>
 jf_bi (F_Chk_book l1 v1 l3 h) fun v2 h3 =>
 jf_ia h3 l0 (l4 + (1 : Int32)) fun v4 =>
 jf_kd h3 l2 11
 (jf_bi (F_Mod_book l2 v4 h3) fun v5 h6 =>
 jf_kd h6 l2 11
 (jf_bi (F_Mod_thrown l2 h6) fun v7 h8 =>
 if v7 = v2 then
 if v2 = 0 then
 jf_la h8 l3 (0 : Int32) fun v9 =>
 if (lg_cmp v9 (v5).toInt64) = 0 then
 F_Chk_law2_b506 k23 l0 l1 l2 l3 l4 h8
else
 jf_rz (0 : Int32) (some ((0 : Int32), h8))
else
 F_Chk_law2_b506 k23 l0 l1 l2 l3 l4 h8
else
 jf_rz (0 : Int32) (some ((0 : Int32), h8))))
set_option maxHeartbeats 8000000 in
set_option maxRecDepth 100000 in
theorem F_Chk_law2_b453_ok {d : Nat} {q : (Int32 × LH)} {k23 : Nat → Nat → Nat → Nat → Int32 → LH → Option (Int32 × LH)} (hd : 201 ≤ d) (hk23 : ∀ (l0 : Nat) (l1 : Nat) (l2 : Nat) (l3 : Nat) (l4 : Int32) (u5 : Value) (u6 : Value) (h : LH), k23 l0 l1 l2 l3 l4 h = some q → JR d jM_320 23 [.ref l0, .ref l1, .ref l2, .ref l3, .int l4, u5, u6] [] h (jo_i q)) {l0 : Nat} {l1 : Nat} {l2 : Nat} {l3 : Nat} {l4 : Int32} {u5 : Value} {u6 : Value} {h : LH} : F_Chk_law2_b453 k23 l0 l1 l2 l3 l4 h = some q → JR d jM_320 453 [.ref l0, .ref l1, .ref l2, .ref l3, .int l4, u5, u6] [] h (jo_i q) := by
 unfold F_Chk_law2_b453
 exact jr_aloadn 453 454 rfl rfl rfl
  (jr_aloadn 454 455 rfl rfl rfl
  (jr_iload 455 457 rfl rfl rfl
  (jr_iconst 457 458 (1 : Int32) rfl jc_i_1 rfl
  (jr_iadd 458 459 rfl rfl
  (jr_ia 459 460 rfl rfl (fun v1 =>
  jr_aloadn 460 461 rfl rfl rfl
  (jr_cSi 461 464 [] rfl rfl rfl rfl rfl rfl rfl (as := [.ref l1, .int v1, .ref l3]) (F_Chk_book_ok (Nat.le_trans (by decide : 7 ≤ 201) hd)) (fun v2 h3 =>
  jr_istore 464 466 [.ref l0, .ref l1, .ref l2, .ref l3, .int l4, .int v2, u6] rfl rfl rfl rfl
  (jr_aloadn 466 467 rfl rfl rfl
  (jr_aloadn 467 468 rfl rfl rfl
  (jr_iload 468 470 rfl rfl rfl
  (jr_iconst 470 471 (1 : Int32) rfl jc_i_1 rfl
  (jr_iadd 471 472 rfl rfl
  (jr_ia 472 473 rfl rfl (fun v4 =>
  jr_cVi 473 476 [] rfl rfl rfl rfl rfl rfl rfl rfl (as := [.int v4]) (F_Mod_book_ok (Nat.le_trans (by decide : 4 ≤ 201) hd)) (fun v5 h6 =>
  jr_istore 476 478 [.ref l0, .ref l1, .ref l2, .ref l3, .int l4, .int v2, .int v5] rfl rfl rfl rfl
  (jr_aloadn 478 479 rfl rfl rfl
  (jr_cVi 479 482 [] rfl rfl rfl rfl rfl rfl rfl rfl (as := []) (F_Mod_thrown_ok (Nat.le_trans (by decide : 1 ≤ 201) hd)) (fun v7 h8 =>
  jr_iload 482 484 rfl rfl rfl
  (jr_icmp_eq 484 489 487 rfl rfl rfl
  (jr_iload 489 491 rfl rfl rfl
  (jr_if_ne 491 506 494 rfl rfl rfl
  ((F_Chk_law2_b506_ok hd hk23))
  (jr_aloadn 494 495 rfl rfl rfl
  (jr_iconst 495 496 (0 : Int32) rfl jc_i_0 rfl
  (jr_la 496 497 rfl rfl (fun v9 =>
  jr_iload 497 499 rfl rfl rfl
  (jr_i2l 499 500 rfl rfl
  (jr_lcmp 500 501 rfl rfl
  (jr_if_eq 501 506 504 rfl rfl rfl
  ((F_Chk_law2_b506_ok hd hk23))
  (jr_iconst 504 505 (0 : Int32) rfl jc_i_0 rfl
  (jr_rz 505 rfl rfl)))))))))))
  (jr_iconst 487 488 (0 : Int32) rfl jc_i_0 rfl
  (jr_rz 488 rfl rfl))))))))))))))))))))))
noncomputable def F_Chk_law2_b509 (k23 : Nat → Nat → Nat → Nat → Int32 → LH → Option (Int32 × LH)) (l0 : Nat) (l1 : Nat) (l2 : Nat) (l3 : Nat) (l4 : Int32) (h : LH) : Option (Int32 × LH) :=
 jf_kd h l1 10
 (jf_bi (F_SG_fault l1 h) fun v1 h2 =>
 jf_kd h2 l2 11
 (jf_bi (F_Mod_fault l2 h2) fun v3 h4 =>
 if v1 = v3 then
 F_Chk_law2_b2405 k23 l0 l1 l2 l3 l4 h4
else
 jf_rz (0 : Int32) (some ((0 : Int32), h4))))
set_option maxHeartbeats 8000000 in
set_option maxRecDepth 100000 in
theorem F_Chk_law2_b509_ok {d : Nat} {q : (Int32 × LH)} {k23 : Nat → Nat → Nat → Nat → Int32 → LH → Option (Int32 × LH)} (hd : 201 ≤ d) (hk23 : ∀ (l0 : Nat) (l1 : Nat) (l2 : Nat) (l3 : Nat) (l4 : Int32) (u5 : Value) (u6 : Value) (h : LH), k23 l0 l1 l2 l3 l4 h = some q → JR d jM_320 23 [.ref l0, .ref l1, .ref l2, .ref l3, .int l4, u5, u6] [] h (jo_i q)) {l0 : Nat} {l1 : Nat} {l2 : Nat} {l3 : Nat} {l4 : Int32} {u5 : Value} {u6 : Value} {h : LH} : F_Chk_law2_b509 k23 l0 l1 l2 l3 l4 h = some q → JR d jM_320 509 [.ref l0, .ref l1, .ref l2, .ref l3, .int l4, u5, u6] [] h (jo_i q) := by
 unfold F_Chk_law2_b509
 exact jr_aloadn 509 510 rfl rfl rfl
  (jr_cVi 510 513 [] rfl rfl rfl rfl rfl rfl rfl rfl (as := []) (F_SG_fault_ok (Nat.le_trans (by decide : 1 ≤ 201) hd)) (fun v1 h2 =>
  jr_aloadn 513 514 rfl rfl rfl
  (jr_cVi 514 517 [.int v1] rfl rfl rfl rfl rfl rfl rfl rfl (as := []) (F_Mod_fault_ok (Nat.le_trans (by decide : 1 ≤ 201) hd)) (fun v3 h4 =>
  jr_icmp_eq 517 2405 520 rfl rfl rfl
  ((F_Chk_law2_b2405_ok hd hk23))
  (jr_iconst 520 521 (0 : Int32) rfl jc_i_0 rfl
  (jr_rz 521 rfl rfl))))))
noncomputable def F_Chk_law2_b522 (k23 : Nat → Nat → Nat → Nat → Int32 → LH → Option (Int32 × LH)) (l0 : Nat) (l1 : Nat) (l2 : Nat) (l3 : Nat) (l4 : Int32) (h : LH) : Option (Int32 × LH) :=
 jf_kd h l1 10
 (jf_bi (F_SG_undo l1 h) fun v1 h2 =>
 jf_kd h2 l2 11
 (jf_bi (F_Mod_undo l2 h2) fun v3 h4 =>
 if v1 = v3 then
 F_Chk_law2_b2405 k23 l0 l1 l2 l3 l4 h4
else
 jf_rz (0 : Int32) (some ((0 : Int32), h4))))
set_option maxHeartbeats 8000000 in
set_option maxRecDepth 100000 in
theorem F_Chk_law2_b522_ok {d : Nat} {q : (Int32 × LH)} {k23 : Nat → Nat → Nat → Nat → Int32 → LH → Option (Int32 × LH)} (hd : 201 ≤ d) (hk23 : ∀ (l0 : Nat) (l1 : Nat) (l2 : Nat) (l3 : Nat) (l4 : Int32) (u5 : Value) (u6 : Value) (h : LH), k23 l0 l1 l2 l3 l4 h = some q → JR d jM_320 23 [.ref l0, .ref l1, .ref l2, .ref l3, .int l4, u5, u6] [] h (jo_i q)) {l0 : Nat} {l1 : Nat} {l2 : Nat} {l3 : Nat} {l4 : Int32} {u5 : Value} {u6 : Value} {h : LH} : F_Chk_law2_b522 k23 l0 l1 l2 l3 l4 h = some q → JR d jM_320 522 [.ref l0, .ref l1, .ref l2, .ref l3, .int l4, u5, u6] [] h (jo_i q) := by
 unfold F_Chk_law2_b522
 exact jr_aloadn 522 523 rfl rfl rfl
  (jr_cVi 523 526 [] rfl rfl rfl rfl rfl rfl rfl rfl (as := []) (F_SG_undo_ok (Nat.le_trans (by decide : 3 ≤ 201) hd)) (fun v1 h2 =>
  jr_aloadn 526 527 rfl rfl rfl
  (jr_cVi 527 530 [.int v1] rfl rfl rfl rfl rfl rfl rfl rfl (as := []) (F_Mod_undo_ok (Nat.le_trans (by decide : 2 ≤ 201) hd)) (fun v3 h4 =>
  jr_icmp_eq 530 2405 533 rfl rfl rfl
  ((F_Chk_law2_b2405_ok hd hk23))
  (jr_iconst 533 534 (0 : Int32) rfl jc_i_0 rfl
  (jr_rz 534 rfl rfl))))))
noncomputable def F_Chk_law2_b588 (k23 : Nat → Nat → Nat → Nat → Int32 → LH → Option (Int32 × LH)) (l0 : Nat) (l1 : Nat) (l2 : Nat) (l3 : Nat) (l4 : Int32) (h : LH) : Option (Int32 × LH) :=
 F_Chk_law2_b2405 k23 l0 l1 l2 l3 l4 h
set_option maxHeartbeats 8000000 in
set_option maxRecDepth 100000 in
theorem F_Chk_law2_b588_ok {d : Nat} {q : (Int32 × LH)} {k23 : Nat → Nat → Nat → Nat → Int32 → LH → Option (Int32 × LH)} (hd : 201 ≤ d) (hk23 : ∀ (l0 : Nat) (l1 : Nat) (l2 : Nat) (l3 : Nat) (l4 : Int32) (u5 : Value) (u6 : Value) (h : LH), k23 l0 l1 l2 l3 l4 h = some q → JR d jM_320 23 [.ref l0, .ref l1, .ref l2, .ref l3, .int l4, u5, u6] [] h (jo_i q)) {l0 : Nat} {l1 : Nat} {l2 : Nat} {l3 : Nat} {l4 : Int32} {u5 : Value} {u6 : Value} {h : LH} : F_Chk_law2_b588 k23 l0 l1 l2 l3 l4 h = some q → JR d jM_320 588 [.ref l0, .ref l1, .ref l2, .ref l3, .int l4, u5, u6] [] h (jo_i q) := by
 unfold F_Chk_law2_b588
 exact jr_goto 588 2405 rfl rfl
  ((F_Chk_law2_b2405_ok hd hk23))
noncomputable def F_Chk_law2_b535 (k23 : Nat → Nat → Nat → Nat → Int32 → LH → Option (Int32 × LH)) (l0 : Nat) (l1 : Nat) (l2 : Nat) (l3 : Nat) (l4 : Int32) (h : LH) : Option (Int32 × LH) :=
 jf_ia h l0 (l4 + (1 : Int32)) fun v1 =>
 jf_bi (F_Chk_told l1 v1 l3 h) fun v2 h3 =>
 jf_ia h3 l0 (l4 + (1 : Int32)) fun v4 =>
 jf_kd h3 l2 11
 (jf_bi (F_Mod_told l2 v4 h3) fun v5 h6 =>
 jf_kd h6 l2 11
 (jf_bi (F_Mod_thrown l2 h6) fun v7 h8 =>
 if v7 = v2 then
 if v2 = 0 then
 jf_la h8 l3 (0 : Int32) fun v9 =>
 if (lg_cmp v9 (v5).toInt64) = 0 then
 F_Chk_law2_b588 k23 l0 l1 l2 l3 l4 h8
else
 jf_rz (0 : Int32) (some ((0 : Int32), h8))
else
 F_Chk_law2_b588 k23 l0 l1 l2 l3 l4 h8
else
 jf_rz (0 : Int32) (some ((0 : Int32), h8))))
set_option maxHeartbeats 8000000 in
set_option maxRecDepth 100000 in
theorem F_Chk_law2_b535_ok {d : Nat} {q : (Int32 × LH)} {k23 : Nat → Nat → Nat → Nat → Int32 → LH → Option (Int32 × LH)} (hd : 201 ≤ d) (hk23 : ∀ (l0 : Nat) (l1 : Nat) (l2 : Nat) (l3 : Nat) (l4 : Int32) (u5 : Value) (u6 : Value) (h : LH), k23 l0 l1 l2 l3 l4 h = some q → JR d jM_320 23 [.ref l0, .ref l1, .ref l2, .ref l3, .int l4, u5, u6] [] h (jo_i q)) {l0 : Nat} {l1 : Nat} {l2 : Nat} {l3 : Nat} {l4 : Int32} {u5 : Value} {u6 : Value} {h : LH} : F_Chk_law2_b535 k23 l0 l1 l2 l3 l4 h = some q → JR d jM_320 535 [.ref l0, .ref l1, .ref l2, .ref l3, .int l4, u5, u6] [] h (jo_i q) := by
 unfold F_Chk_law2_b535
 exact jr_aloadn 535 536 rfl rfl rfl
  (jr_aloadn 536 537 rfl rfl rfl
  (jr_iload 537 539 rfl rfl rfl
  (jr_iconst 539 540 (1 : Int32) rfl jc_i_1 rfl
  (jr_iadd 540 541 rfl rfl
  (jr_ia 541 542 rfl rfl (fun v1 =>
  jr_aloadn 542 543 rfl rfl rfl
  (jr_cSi 543 546 [] rfl rfl rfl rfl rfl rfl rfl (as := [.ref l1, .int v1, .ref l3]) (F_Chk_told_ok (Nat.le_trans (by decide : 6 ≤ 201) hd)) (fun v2 h3 =>
  jr_istore 546 548 [.ref l0, .ref l1, .ref l2, .ref l3, .int l4, .int v2, u6] rfl rfl rfl rfl
  (jr_aloadn 548 549 rfl rfl rfl
  (jr_aloadn 549 550 rfl rfl rfl
  (jr_iload 550 552 rfl rfl rfl
  (jr_iconst 552 553 (1 : Int32) rfl jc_i_1 rfl
  (jr_iadd 553 554 rfl rfl
  (jr_ia 554 555 rfl rfl (fun v4 =>
  jr_cVi 555 558 [] rfl rfl rfl rfl rfl rfl rfl rfl (as := [.int v4]) (F_Mod_told_ok (Nat.le_trans (by decide : 8 ≤ 201) hd)) (fun v5 h6 =>
  jr_istore 558 560 [.ref l0, .ref l1, .ref l2, .ref l3, .int l4, .int v2, .int v5] rfl rfl rfl rfl
  (jr_aloadn 560 561 rfl rfl rfl
  (jr_cVi 561 564 [] rfl rfl rfl rfl rfl rfl rfl rfl (as := []) (F_Mod_thrown_ok (Nat.le_trans (by decide : 1 ≤ 201) hd)) (fun v7 h8 =>
  jr_iload 564 566 rfl rfl rfl
  (jr_icmp_eq 566 571 569 rfl rfl rfl
  (jr_iload 571 573 rfl rfl rfl
  (jr_if_ne 573 588 576 rfl rfl rfl
  ((F_Chk_law2_b588_ok hd hk23))
  (jr_aloadn 576 577 rfl rfl rfl
  (jr_iconst 577 578 (0 : Int32) rfl jc_i_0 rfl
  (jr_la 578 579 rfl rfl (fun v9 =>
  jr_iload 579 581 rfl rfl rfl
  (jr_i2l 581 582 rfl rfl
  (jr_lcmp 582 583 rfl rfl
  (jr_if_eq 583 588 586 rfl rfl rfl
  ((F_Chk_law2_b588_ok hd hk23))
  (jr_iconst 586 587 (0 : Int32) rfl jc_i_0 rfl
  (jr_rz 587 rfl rfl)))))))))))
  (jr_iconst 569 570 (0 : Int32) rfl jc_i_0 rfl
  (jr_rz 570 rfl rfl))))))))))))))))))))))
noncomputable def F_Chk_law2_b656 (k23 : Nat → Nat → Nat → Nat → Int32 → LH → Option (Int32 × LH)) (l0 : Nat) (l1 : Nat) (l2 : Nat) (l3 : Nat) (l4 : Int32) (h : LH) : Option (Int32 × LH) :=
 F_Chk_law2_b2405 k23 l0 l1 l2 l3 l4 h
set_option maxHeartbeats 8000000 in
set_option maxRecDepth 100000 in
theorem F_Chk_law2_b656_ok {d : Nat} {q : (Int32 × LH)} {k23 : Nat → Nat → Nat → Nat → Int32 → LH → Option (Int32 × LH)} (hd : 201 ≤ d) (hk23 : ∀ (l0 : Nat) (l1 : Nat) (l2 : Nat) (l3 : Nat) (l4 : Int32) (u5 : Value) (u6 : Value) (h : LH), k23 l0 l1 l2 l3 l4 h = some q → JR d jM_320 23 [.ref l0, .ref l1, .ref l2, .ref l3, .int l4, u5, u6] [] h (jo_i q)) {l0 : Nat} {l1 : Nat} {l2 : Nat} {l3 : Nat} {l4 : Int32} {u5 : Value} {u6 : Value} {h : LH} : F_Chk_law2_b656 k23 l0 l1 l2 l3 l4 h = some q → JR d jM_320 656 [.ref l0, .ref l1, .ref l2, .ref l3, .int l4, u5, u6] [] h (jo_i q) := by
 unfold F_Chk_law2_b656
 exact jr_goto 656 2405 rfl rfl
  ((F_Chk_law2_b2405_ok hd hk23))
noncomputable def F_Chk_law2_b591 (k23 : Nat → Nat → Nat → Nat → Int32 → LH → Option (Int32 × LH)) (l0 : Nat) (l1 : Nat) (l2 : Nat) (l3 : Nat) (l4 : Int32) (h : LH) : Option (Int32 × LH) :=
 jf_ia h l0 (l4 + (1 : Int32)) fun v1 =>
 jf_ia h l0 (l4 + (2 : Int32)) fun v2 =>
 jf_bi (F_Chk_gate l1 v1 v2 l3 h) fun v3 h4 =>
 jf_ia h4 l0 (l4 + (1 : Int32)) fun v5 =>
 jf_ia h4 l0 (l4 + (2 : Int32)) fun v6 =>
 jf_kd h4 l2 11
 (jf_bi (F_Mod_gate l2 v5 v6 h4) fun v7 h8 =>
 jf_kd h8 l2 11
 (jf_bi (F_Mod_thrown l2 h8) fun v9 h10 =>
 if v9 = v3 then
 if v3 = 0 then
 jf_la h10 l3 (0 : Int32) fun v11 =>
 if (lg_cmp v11 (v7).toInt64) = 0 then
 F_Chk_law2_b656 k23 l0 l1 l2 l3 l4 h10
else
 jf_rz (0 : Int32) (some ((0 : Int32), h10))
else
 F_Chk_law2_b656 k23 l0 l1 l2 l3 l4 h10
else
 jf_rz (0 : Int32) (some ((0 : Int32), h10))))
set_option maxHeartbeats 8000000 in
set_option maxRecDepth 100000 in
theorem F_Chk_law2_b591_ok {d : Nat} {q : (Int32 × LH)} {k23 : Nat → Nat → Nat → Nat → Int32 → LH → Option (Int32 × LH)} (hd : 201 ≤ d) (hk23 : ∀ (l0 : Nat) (l1 : Nat) (l2 : Nat) (l3 : Nat) (l4 : Int32) (u5 : Value) (u6 : Value) (h : LH), k23 l0 l1 l2 l3 l4 h = some q → JR d jM_320 23 [.ref l0, .ref l1, .ref l2, .ref l3, .int l4, u5, u6] [] h (jo_i q)) {l0 : Nat} {l1 : Nat} {l2 : Nat} {l3 : Nat} {l4 : Int32} {u5 : Value} {u6 : Value} {h : LH} : F_Chk_law2_b591 k23 l0 l1 l2 l3 l4 h = some q → JR d jM_320 591 [.ref l0, .ref l1, .ref l2, .ref l3, .int l4, u5, u6] [] h (jo_i q) := by
 unfold F_Chk_law2_b591
 exact jr_aloadn 591 592 rfl rfl rfl
  (jr_aloadn 592 593 rfl rfl rfl
  (jr_iload 593 595 rfl rfl rfl
  (jr_iconst 595 596 (1 : Int32) rfl jc_i_1 rfl
  (jr_iadd 596 597 rfl rfl
  (jr_ia 597 598 rfl rfl (fun v1 =>
  jr_aloadn 598 599 rfl rfl rfl
  (jr_iload 599 601 rfl rfl rfl
  (jr_iconst 601 602 (2 : Int32) rfl jc_i_2 rfl
  (jr_iadd 602 603 rfl rfl
  (jr_ia 603 604 rfl rfl (fun v2 =>
  jr_aloadn 604 605 rfl rfl rfl
  (jr_cSi 605 608 [] rfl rfl rfl rfl rfl rfl rfl (as := [.ref l1, .int v1, .int v2, .ref l3]) (F_Chk_gate_ok (Nat.le_trans (by decide : 5 ≤ 201) hd)) (fun v3 h4 =>
  jr_istore 608 610 [.ref l0, .ref l1, .ref l2, .ref l3, .int l4, .int v3, u6] rfl rfl rfl rfl
  (jr_aloadn 610 611 rfl rfl rfl
  (jr_aloadn 611 612 rfl rfl rfl
  (jr_iload 612 614 rfl rfl rfl
  (jr_iconst 614 615 (1 : Int32) rfl jc_i_1 rfl
  (jr_iadd 615 616 rfl rfl
  (jr_ia 616 617 rfl rfl (fun v5 =>
  jr_aloadn 617 618 rfl rfl rfl
  (jr_iload 618 620 rfl rfl rfl
  (jr_iconst 620 621 (2 : Int32) rfl jc_i_2 rfl
  (jr_iadd 621 622 rfl rfl
  (jr_ia 622 623 rfl rfl (fun v6 =>
  jr_cVi 623 626 [] rfl rfl rfl rfl rfl rfl rfl rfl (as := [.int v5, .int v6]) (F_Mod_gate_ok (Nat.le_trans (by decide : 7 ≤ 201) hd)) (fun v7 h8 =>
  jr_istore 626 628 [.ref l0, .ref l1, .ref l2, .ref l3, .int l4, .int v3, .int v7] rfl rfl rfl rfl
  (jr_aloadn 628 629 rfl rfl rfl
  (jr_cVi 629 632 [] rfl rfl rfl rfl rfl rfl rfl rfl (as := []) (F_Mod_thrown_ok (Nat.le_trans (by decide : 1 ≤ 201) hd)) (fun v9 h10 =>
  jr_iload 632 634 rfl rfl rfl
  (jr_icmp_eq 634 639 637 rfl rfl rfl
  (jr_iload 639 641 rfl rfl rfl
  (jr_if_ne 641 656 644 rfl rfl rfl
  ((F_Chk_law2_b656_ok hd hk23))
  (jr_aloadn 644 645 rfl rfl rfl
  (jr_iconst 645 646 (0 : Int32) rfl jc_i_0 rfl
  (jr_la 646 647 rfl rfl (fun v11 =>
  jr_iload 647 649 rfl rfl rfl
  (jr_i2l 649 650 rfl rfl
  (jr_lcmp 650 651 rfl rfl
  (jr_if_eq 651 656 654 rfl rfl rfl
  ((F_Chk_law2_b656_ok hd hk23))
  (jr_iconst 654 655 (0 : Int32) rfl jc_i_0 rfl
  (jr_rz 655 rfl rfl)))))))))))
  (jr_iconst 637 638 (0 : Int32) rfl jc_i_0 rfl
  (jr_rz 638 rfl rfl))))))))))))))))))))))))))))))))
noncomputable def F_Chk_law2_b724 (k23 : Nat → Nat → Nat → Nat → Int32 → LH → Option (Int32 × LH)) (l0 : Nat) (l1 : Nat) (l2 : Nat) (l3 : Nat) (l4 : Int32) (h : LH) : Option (Int32 × LH) :=
 F_Chk_law2_b2405 k23 l0 l1 l2 l3 l4 h
set_option maxHeartbeats 8000000 in
set_option maxRecDepth 100000 in
theorem F_Chk_law2_b724_ok {d : Nat} {q : (Int32 × LH)} {k23 : Nat → Nat → Nat → Nat → Int32 → LH → Option (Int32 × LH)} (hd : 201 ≤ d) (hk23 : ∀ (l0 : Nat) (l1 : Nat) (l2 : Nat) (l3 : Nat) (l4 : Int32) (u5 : Value) (u6 : Value) (h : LH), k23 l0 l1 l2 l3 l4 h = some q → JR d jM_320 23 [.ref l0, .ref l1, .ref l2, .ref l3, .int l4, u5, u6] [] h (jo_i q)) {l0 : Nat} {l1 : Nat} {l2 : Nat} {l3 : Nat} {l4 : Int32} {u5 : Value} {u6 : Value} {h : LH} : F_Chk_law2_b724 k23 l0 l1 l2 l3 l4 h = some q → JR d jM_320 724 [.ref l0, .ref l1, .ref l2, .ref l3, .int l4, u5, u6] [] h (jo_i q) := by
 unfold F_Chk_law2_b724
 exact jr_goto 724 2405 rfl rfl
  ((F_Chk_law2_b2405_ok hd hk23))
noncomputable def F_Chk_law2_b659 (k23 : Nat → Nat → Nat → Nat → Int32 → LH → Option (Int32 × LH)) (l0 : Nat) (l1 : Nat) (l2 : Nat) (l3 : Nat) (l4 : Int32) (h : LH) : Option (Int32 × LH) :=
 jf_ia h l0 (l4 + (1 : Int32)) fun v1 =>
 jf_ia h l0 (l4 + (2 : Int32)) fun v2 =>
 jf_bi (F_Chk_wood l1 v1 v2 l3 h) fun v3 h4 =>
 jf_ia h4 l0 (l4 + (1 : Int32)) fun v5 =>
 jf_ia h4 l0 (l4 + (2 : Int32)) fun v6 =>
 jf_kd h4 l2 11
 (jf_bi (F_Mod_wood l2 v5 v6 h4) fun v7 h8 =>
 jf_kd h8 l2 11
 (jf_bi (F_Mod_thrown l2 h8) fun v9 h10 =>
 if v9 = v3 then
 if v3 = 0 then
 jf_la h10 l3 (0 : Int32) fun v11 =>
 if (lg_cmp v11 (v7).toInt64) = 0 then
 F_Chk_law2_b724 k23 l0 l1 l2 l3 l4 h10
else
 jf_rz (0 : Int32) (some ((0 : Int32), h10))
else
 F_Chk_law2_b724 k23 l0 l1 l2 l3 l4 h10
else
 jf_rz (0 : Int32) (some ((0 : Int32), h10))))
set_option maxHeartbeats 8000000 in
set_option maxRecDepth 100000 in
theorem F_Chk_law2_b659_ok {d : Nat} {q : (Int32 × LH)} {k23 : Nat → Nat → Nat → Nat → Int32 → LH → Option (Int32 × LH)} (hd : 201 ≤ d) (hk23 : ∀ (l0 : Nat) (l1 : Nat) (l2 : Nat) (l3 : Nat) (l4 : Int32) (u5 : Value) (u6 : Value) (h : LH), k23 l0 l1 l2 l3 l4 h = some q → JR d jM_320 23 [.ref l0, .ref l1, .ref l2, .ref l3, .int l4, u5, u6] [] h (jo_i q)) {l0 : Nat} {l1 : Nat} {l2 : Nat} {l3 : Nat} {l4 : Int32} {u5 : Value} {u6 : Value} {h : LH} : F_Chk_law2_b659 k23 l0 l1 l2 l3 l4 h = some q → JR d jM_320 659 [.ref l0, .ref l1, .ref l2, .ref l3, .int l4, u5, u6] [] h (jo_i q) := by
 unfold F_Chk_law2_b659
 exact jr_aloadn 659 660 rfl rfl rfl
  (jr_aloadn 660 661 rfl rfl rfl
  (jr_iload 661 663 rfl rfl rfl
  (jr_iconst 663 664 (1 : Int32) rfl jc_i_1 rfl
  (jr_iadd 664 665 rfl rfl
  (jr_ia 665 666 rfl rfl (fun v1 =>
  jr_aloadn 666 667 rfl rfl rfl
  (jr_iload 667 669 rfl rfl rfl
  (jr_iconst 669 670 (2 : Int32) rfl jc_i_2 rfl
  (jr_iadd 670 671 rfl rfl
  (jr_ia 671 672 rfl rfl (fun v2 =>
  jr_aloadn 672 673 rfl rfl rfl
  (jr_cSi 673 676 [] rfl rfl rfl rfl rfl rfl rfl (as := [.ref l1, .int v1, .int v2, .ref l3]) (F_Chk_wood_ok (Nat.le_trans (by decide : 4 ≤ 201) hd)) (fun v3 h4 =>
  jr_istore 676 678 [.ref l0, .ref l1, .ref l2, .ref l3, .int l4, .int v3, u6] rfl rfl rfl rfl
  (jr_aloadn 678 679 rfl rfl rfl
  (jr_aloadn 679 680 rfl rfl rfl
  (jr_iload 680 682 rfl rfl rfl
  (jr_iconst 682 683 (1 : Int32) rfl jc_i_1 rfl
  (jr_iadd 683 684 rfl rfl
  (jr_ia 684 685 rfl rfl (fun v5 =>
  jr_aloadn 685 686 rfl rfl rfl
  (jr_iload 686 688 rfl rfl rfl
  (jr_iconst 688 689 (2 : Int32) rfl jc_i_2 rfl
  (jr_iadd 689 690 rfl rfl
  (jr_ia 690 691 rfl rfl (fun v6 =>
  jr_cVi 691 694 [] rfl rfl rfl rfl rfl rfl rfl rfl (as := [.int v5, .int v6]) (F_Mod_wood_ok (Nat.le_trans (by decide : 3 ≤ 201) hd)) (fun v7 h8 =>
  jr_istore 694 696 [.ref l0, .ref l1, .ref l2, .ref l3, .int l4, .int v3, .int v7] rfl rfl rfl rfl
  (jr_aloadn 696 697 rfl rfl rfl
  (jr_cVi 697 700 [] rfl rfl rfl rfl rfl rfl rfl rfl (as := []) (F_Mod_thrown_ok (Nat.le_trans (by decide : 1 ≤ 201) hd)) (fun v9 h10 =>
  jr_iload 700 702 rfl rfl rfl
  (jr_icmp_eq 702 707 705 rfl rfl rfl
  (jr_iload 707 709 rfl rfl rfl
  (jr_if_ne 709 724 712 rfl rfl rfl
  ((F_Chk_law2_b724_ok hd hk23))
  (jr_aloadn 712 713 rfl rfl rfl
  (jr_iconst 713 714 (0 : Int32) rfl jc_i_0 rfl
  (jr_la 714 715 rfl rfl (fun v11 =>
  jr_iload 715 717 rfl rfl rfl
  (jr_i2l 717 718 rfl rfl
  (jr_lcmp 718 719 rfl rfl
  (jr_if_eq 719 724 722 rfl rfl rfl
  ((F_Chk_law2_b724_ok hd hk23))
  (jr_iconst 722 723 (0 : Int32) rfl jc_i_0 rfl
  (jr_rz 723 rfl rfl)))))))))))
  (jr_iconst 705 706 (0 : Int32) rfl jc_i_0 rfl
  (jr_rz 706 rfl rfl))))))))))))))))))))))))))))))))
noncomputable def F_Chk_law2_b792 (k23 : Nat → Nat → Nat → Nat → Int32 → LH → Option (Int32 × LH)) (l0 : Nat) (l1 : Nat) (l2 : Nat) (l3 : Nat) (l4 : Int32) (h : LH) : Option (Int32 × LH) :=
 F_Chk_law2_b2405 k23 l0 l1 l2 l3 l4 h
set_option maxHeartbeats 8000000 in
set_option maxRecDepth 100000 in
theorem F_Chk_law2_b792_ok {d : Nat} {q : (Int32 × LH)} {k23 : Nat → Nat → Nat → Nat → Int32 → LH → Option (Int32 × LH)} (hd : 201 ≤ d) (hk23 : ∀ (l0 : Nat) (l1 : Nat) (l2 : Nat) (l3 : Nat) (l4 : Int32) (u5 : Value) (u6 : Value) (h : LH), k23 l0 l1 l2 l3 l4 h = some q → JR d jM_320 23 [.ref l0, .ref l1, .ref l2, .ref l3, .int l4, u5, u6] [] h (jo_i q)) {l0 : Nat} {l1 : Nat} {l2 : Nat} {l3 : Nat} {l4 : Int32} {u5 : Value} {u6 : Value} {h : LH} : F_Chk_law2_b792 k23 l0 l1 l2 l3 l4 h = some q → JR d jM_320 792 [.ref l0, .ref l1, .ref l2, .ref l3, .int l4, u5, u6] [] h (jo_i q) := by
 unfold F_Chk_law2_b792
 exact jr_goto 792 2405 rfl rfl
  ((F_Chk_law2_b2405_ok hd hk23))
noncomputable def F_Chk_law2_b727 (k23 : Nat → Nat → Nat → Nat → Int32 → LH → Option (Int32 × LH)) (l0 : Nat) (l1 : Nat) (l2 : Nat) (l3 : Nat) (l4 : Int32) (h : LH) : Option (Int32 × LH) :=
 jf_ia h l0 (l4 + (1 : Int32)) fun v1 =>
 jf_ia h l0 (l4 + (2 : Int32)) fun v2 =>
 jf_bi (F_Chk_comer l1 v1 v2 l3 h) fun v3 h4 =>
 jf_ia h4 l0 (l4 + (1 : Int32)) fun v5 =>
 jf_ia h4 l0 (l4 + (2 : Int32)) fun v6 =>
 jf_kd h4 l2 11
 (jf_bi (F_Mod_comer l2 v5 v6 h4) fun v7 h8 =>
 jf_kd h8 l2 11
 (jf_bi (F_Mod_thrown l2 h8) fun v9 h10 =>
 if v9 = v3 then
 if v3 = 0 then
 jf_la h10 l3 (0 : Int32) fun v11 =>
 if (lg_cmp v11 (v7).toInt64) = 0 then
 F_Chk_law2_b792 k23 l0 l1 l2 l3 l4 h10
else
 jf_rz (0 : Int32) (some ((0 : Int32), h10))
else
 F_Chk_law2_b792 k23 l0 l1 l2 l3 l4 h10
else
 jf_rz (0 : Int32) (some ((0 : Int32), h10))))
set_option maxHeartbeats 8000000 in
set_option maxRecDepth 100000 in
theorem F_Chk_law2_b727_ok {d : Nat} {q : (Int32 × LH)} {k23 : Nat → Nat → Nat → Nat → Int32 → LH → Option (Int32 × LH)} (hd : 201 ≤ d) (hk23 : ∀ (l0 : Nat) (l1 : Nat) (l2 : Nat) (l3 : Nat) (l4 : Int32) (u5 : Value) (u6 : Value) (h : LH), k23 l0 l1 l2 l3 l4 h = some q → JR d jM_320 23 [.ref l0, .ref l1, .ref l2, .ref l3, .int l4, u5, u6] [] h (jo_i q)) {l0 : Nat} {l1 : Nat} {l2 : Nat} {l3 : Nat} {l4 : Int32} {u5 : Value} {u6 : Value} {h : LH} : F_Chk_law2_b727 k23 l0 l1 l2 l3 l4 h = some q → JR d jM_320 727 [.ref l0, .ref l1, .ref l2, .ref l3, .int l4, u5, u6] [] h (jo_i q) := by
 unfold F_Chk_law2_b727
 exact jr_aloadn 727 728 rfl rfl rfl
  (jr_aloadn 728 729 rfl rfl rfl
  (jr_iload 729 731 rfl rfl rfl
  (jr_iconst 731 732 (1 : Int32) rfl jc_i_1 rfl
  (jr_iadd 732 733 rfl rfl
  (jr_ia 733 734 rfl rfl (fun v1 =>
  jr_aloadn 734 735 rfl rfl rfl
  (jr_iload 735 737 rfl rfl rfl
  (jr_iconst 737 738 (2 : Int32) rfl jc_i_2 rfl
  (jr_iadd 738 739 rfl rfl
  (jr_ia 739 740 rfl rfl (fun v2 =>
  jr_aloadn 740 741 rfl rfl rfl
  (jr_cSi 741 744 [] rfl rfl rfl rfl rfl rfl rfl (as := [.ref l1, .int v1, .int v2, .ref l3]) (F_Chk_comer_ok (Nat.le_trans (by decide : 3 ≤ 201) hd)) (fun v3 h4 =>
  jr_istore 744 746 [.ref l0, .ref l1, .ref l2, .ref l3, .int l4, .int v3, u6] rfl rfl rfl rfl
  (jr_aloadn 746 747 rfl rfl rfl
  (jr_aloadn 747 748 rfl rfl rfl
  (jr_iload 748 750 rfl rfl rfl
  (jr_iconst 750 751 (1 : Int32) rfl jc_i_1 rfl
  (jr_iadd 751 752 rfl rfl
  (jr_ia 752 753 rfl rfl (fun v5 =>
  jr_aloadn 753 754 rfl rfl rfl
  (jr_iload 754 756 rfl rfl rfl
  (jr_iconst 756 757 (2 : Int32) rfl jc_i_2 rfl
  (jr_iadd 757 758 rfl rfl
  (jr_ia 758 759 rfl rfl (fun v6 =>
  jr_cVi 759 762 [] rfl rfl rfl rfl rfl rfl rfl rfl (as := [.int v5, .int v6]) (F_Mod_comer_ok (Nat.le_trans (by decide : 2 ≤ 201) hd)) (fun v7 h8 =>
  jr_istore 762 764 [.ref l0, .ref l1, .ref l2, .ref l3, .int l4, .int v3, .int v7] rfl rfl rfl rfl
  (jr_aloadn 764 765 rfl rfl rfl
  (jr_cVi 765 768 [] rfl rfl rfl rfl rfl rfl rfl rfl (as := []) (F_Mod_thrown_ok (Nat.le_trans (by decide : 1 ≤ 201) hd)) (fun v9 h10 =>
  jr_iload 768 770 rfl rfl rfl
  (jr_icmp_eq 770 775 773 rfl rfl rfl
  (jr_iload 775 777 rfl rfl rfl
  (jr_if_ne 777 792 780 rfl rfl rfl
  ((F_Chk_law2_b792_ok hd hk23))
  (jr_aloadn 780 781 rfl rfl rfl
  (jr_iconst 781 782 (0 : Int32) rfl jc_i_0 rfl
  (jr_la 782 783 rfl rfl (fun v11 =>
  jr_iload 783 785 rfl rfl rfl
  (jr_i2l 785 786 rfl rfl
  (jr_lcmp 786 787 rfl rfl
  (jr_if_eq 787 792 790 rfl rfl rfl
  ((F_Chk_law2_b792_ok hd hk23))
  (jr_iconst 790 791 (0 : Int32) rfl jc_i_0 rfl
  (jr_rz 791 rfl rfl)))))))))))
  (jr_iconst 773 774 (0 : Int32) rfl jc_i_0 rfl
  (jr_rz 774 rfl rfl))))))))))))))))))))))))))))))))
noncomputable def F_Chk_law2_b872 (k23 : Nat → Nat → Nat → Nat → Int32 → LH → Option (Int32 × LH)) (l0 : Nat) (l1 : Nat) (l2 : Nat) (l3 : Nat) (l4 : Int32) (h : LH) : Option (Int32 × LH) :=
 F_Chk_law2_b2405 k23 l0 l1 l2 l3 l4 h
set_option maxHeartbeats 8000000 in
set_option maxRecDepth 100000 in
theorem F_Chk_law2_b872_ok {d : Nat} {q : (Int32 × LH)} {k23 : Nat → Nat → Nat → Nat → Int32 → LH → Option (Int32 × LH)} (hd : 201 ≤ d) (hk23 : ∀ (l0 : Nat) (l1 : Nat) (l2 : Nat) (l3 : Nat) (l4 : Int32) (u5 : Value) (u6 : Value) (h : LH), k23 l0 l1 l2 l3 l4 h = some q → JR d jM_320 23 [.ref l0, .ref l1, .ref l2, .ref l3, .int l4, u5, u6] [] h (jo_i q)) {l0 : Nat} {l1 : Nat} {l2 : Nat} {l3 : Nat} {l4 : Int32} {u5 : Value} {u6 : Value} {h : LH} : F_Chk_law2_b872 k23 l0 l1 l2 l3 l4 h = some q → JR d jM_320 872 [.ref l0, .ref l1, .ref l2, .ref l3, .int l4, u5, u6] [] h (jo_i q) := by
 unfold F_Chk_law2_b872
 exact jr_goto 872 2405 rfl rfl
  ((F_Chk_law2_b2405_ok hd hk23))
noncomputable def F_Chk_law2_b795 (k23 : Nat → Nat → Nat → Nat → Int32 → LH → Option (Int32 × LH)) (l0 : Nat) (l1 : Nat) (l2 : Nat) (l3 : Nat) (l4 : Int32) (h : LH) : Option (Int32 × LH) :=
 jf_ia h l0 (l4 + (1 : Int32)) fun v1 =>
 jf_ia h l0 (l4 + (2 : Int32)) fun v2 =>
 jf_ia h l0 (l4 + (3 : Int32)) fun v3 =>
 jf_bi (F_Chk_log l1 v1 v2 v3 l3 h) fun v4 h5 =>
 jf_ia h5 l0 (l4 + (1 : Int32)) fun v6 =>
 jf_ia h5 l0 (l4 + (2 : Int32)) fun v7 =>
 jf_ia h5 l0 (l4 + (3 : Int32)) fun v8 =>
 jf_kd h5 l2 11
 (jf_bi (F_Mod_log l2 v6 v7 v8 h5) fun v9 h10 =>
 jf_kd h10 l2 11
 (jf_bi (F_Mod_thrown l2 h10) fun v11 h12 =>
 if v11 = v4 then
 if v4 = 0 then
 jf_la h12 l3 (0 : Int32) fun v13 =>
 if (lg_cmp v13 (v9).toInt64) = 0 then
 F_Chk_law2_b872 k23 l0 l1 l2 l3 l4 h12
else
 jf_rz (0 : Int32) (some ((0 : Int32), h12))
else
 F_Chk_law2_b872 k23 l0 l1 l2 l3 l4 h12
else
 jf_rz (0 : Int32) (some ((0 : Int32), h12))))
set_option maxHeartbeats 8000000 in
set_option maxRecDepth 100000 in
theorem F_Chk_law2_b795_ok {d : Nat} {q : (Int32 × LH)} {k23 : Nat → Nat → Nat → Nat → Int32 → LH → Option (Int32 × LH)} (hd : 201 ≤ d) (hk23 : ∀ (l0 : Nat) (l1 : Nat) (l2 : Nat) (l3 : Nat) (l4 : Int32) (u5 : Value) (u6 : Value) (h : LH), k23 l0 l1 l2 l3 l4 h = some q → JR d jM_320 23 [.ref l0, .ref l1, .ref l2, .ref l3, .int l4, u5, u6] [] h (jo_i q)) {l0 : Nat} {l1 : Nat} {l2 : Nat} {l3 : Nat} {l4 : Int32} {u5 : Value} {u6 : Value} {h : LH} : F_Chk_law2_b795 k23 l0 l1 l2 l3 l4 h = some q → JR d jM_320 795 [.ref l0, .ref l1, .ref l2, .ref l3, .int l4, u5, u6] [] h (jo_i q) := by
 unfold F_Chk_law2_b795
 exact jr_aloadn 795 796 rfl rfl rfl
  (jr_aloadn 796 797 rfl rfl rfl
  (jr_iload 797 799 rfl rfl rfl
  (jr_iconst 799 800 (1 : Int32) rfl jc_i_1 rfl
  (jr_iadd 800 801 rfl rfl
  (jr_ia 801 802 rfl rfl (fun v1 =>
  jr_aloadn 802 803 rfl rfl rfl
  (jr_iload 803 805 rfl rfl rfl
  (jr_iconst 805 806 (2 : Int32) rfl jc_i_2 rfl
  (jr_iadd 806 807 rfl rfl
  (jr_ia 807 808 rfl rfl (fun v2 =>
  jr_aloadn 808 809 rfl rfl rfl
  (jr_iload 809 811 rfl rfl rfl
  (jr_iconst 811 812 (3 : Int32) rfl jc_i_3 rfl
  (jr_iadd 812 813 rfl rfl
  (jr_ia 813 814 rfl rfl (fun v3 =>
  jr_aloadn 814 815 rfl rfl rfl
  (jr_cSi 815 818 [] rfl rfl rfl rfl rfl rfl rfl (as := [.ref l1, .int v1, .int v2, .int v3, .ref l3]) (F_Chk_log_ok (Nat.le_trans (by decide : 4 ≤ 201) hd)) (fun v4 h5 =>
  jr_istore 818 820 [.ref l0, .ref l1, .ref l2, .ref l3, .int l4, .int v4, u6] rfl rfl rfl rfl
  (jr_aloadn 820 821 rfl rfl rfl
  (jr_aloadn 821 822 rfl rfl rfl
  (jr_iload 822 824 rfl rfl rfl
  (jr_iconst 824 825 (1 : Int32) rfl jc_i_1 rfl
  (jr_iadd 825 826 rfl rfl
  (jr_ia 826 827 rfl rfl (fun v6 =>
  jr_aloadn 827 828 rfl rfl rfl
  (jr_iload 828 830 rfl rfl rfl
  (jr_iconst 830 831 (2 : Int32) rfl jc_i_2 rfl
  (jr_iadd 831 832 rfl rfl
  (jr_ia 832 833 rfl rfl (fun v7 =>
  jr_aloadn 833 834 rfl rfl rfl
  (jr_iload 834 836 rfl rfl rfl
  (jr_iconst 836 837 (3 : Int32) rfl jc_i_3 rfl
  (jr_iadd 837 838 rfl rfl
  (jr_ia 838 839 rfl rfl (fun v8 =>
  jr_cVi 839 842 [] rfl rfl rfl rfl rfl rfl rfl rfl (as := [.int v6, .int v7, .int v8]) (F_Mod_log_ok (Nat.le_trans (by decide : 3 ≤ 201) hd)) (fun v9 h10 =>
  jr_istore 842 844 [.ref l0, .ref l1, .ref l2, .ref l3, .int l4, .int v4, .int v9] rfl rfl rfl rfl
  (jr_aloadn 844 845 rfl rfl rfl
  (jr_cVi 845 848 [] rfl rfl rfl rfl rfl rfl rfl rfl (as := []) (F_Mod_thrown_ok (Nat.le_trans (by decide : 1 ≤ 201) hd)) (fun v11 h12 =>
  jr_iload 848 850 rfl rfl rfl
  (jr_icmp_eq 850 855 853 rfl rfl rfl
  (jr_iload 855 857 rfl rfl rfl
  (jr_if_ne 857 872 860 rfl rfl rfl
  ((F_Chk_law2_b872_ok hd hk23))
  (jr_aloadn 860 861 rfl rfl rfl
  (jr_iconst 861 862 (0 : Int32) rfl jc_i_0 rfl
  (jr_la 862 863 rfl rfl (fun v13 =>
  jr_iload 863 865 rfl rfl rfl
  (jr_i2l 865 866 rfl rfl
  (jr_lcmp 866 867 rfl rfl
  (jr_if_eq 867 872 870 rfl rfl rfl
  ((F_Chk_law2_b872_ok hd hk23))
  (jr_iconst 870 871 (0 : Int32) rfl jc_i_0 rfl
  (jr_rz 871 rfl rfl)))))))))))
  (jr_iconst 853 854 (0 : Int32) rfl jc_i_0 rfl
  (jr_rz 854 rfl rfl))))))))))))))))))))))))))))))))))))))))))
noncomputable def F_Chk_law2_b959 (k23 : Nat → Nat → Nat → Nat → Int32 → LH → Option (Int32 × LH)) (l0 : Nat) (l1 : Nat) (l2 : Nat) (l3 : Nat) (l4 : Int32) (h : LH) : Option (Int32 × LH) :=
 F_Chk_law2_b2405 k23 l0 l1 l2 l3 l4 h
set_option maxHeartbeats 8000000 in
set_option maxRecDepth 100000 in
theorem F_Chk_law2_b959_ok {d : Nat} {q : (Int32 × LH)} {k23 : Nat → Nat → Nat → Nat → Int32 → LH → Option (Int32 × LH)} (hd : 201 ≤ d) (hk23 : ∀ (l0 : Nat) (l1 : Nat) (l2 : Nat) (l3 : Nat) (l4 : Int32) (u5 : Value) (u6 : Value) (h : LH), k23 l0 l1 l2 l3 l4 h = some q → JR d jM_320 23 [.ref l0, .ref l1, .ref l2, .ref l3, .int l4, u5, u6] [] h (jo_i q)) {l0 : Nat} {l1 : Nat} {l2 : Nat} {l3 : Nat} {l4 : Int32} {u5 : Value} {u6 : Value} {h : LH} : F_Chk_law2_b959 k23 l0 l1 l2 l3 l4 h = some q → JR d jM_320 959 [.ref l0, .ref l1, .ref l2, .ref l3, .int l4, u5, u6] [] h (jo_i q) := by
 unfold F_Chk_law2_b959
 exact jr_goto 959 2405 rfl rfl
  ((F_Chk_law2_b2405_ok hd hk23))
noncomputable def F_Chk_law2_b953 (k23 : Nat → Nat → Nat → Nat → Int32 → LH → Option (Int32 × LH)) (l0 : Nat) (l1 : Nat) (l2 : Nat) (l3 : Nat) (l4 : Int32) (s0 : Int64) (s1 : Int64) (h : LH) : Option (Int32 × LH) :=
 if (lg_cmp s0 s1) = 0 then
 F_Chk_law2_b959 k23 l0 l1 l2 l3 l4 h
else
 jf_rz (0 : Int32) (some ((0 : Int32), h))
set_option maxHeartbeats 8000000 in
set_option maxRecDepth 100000 in
theorem F_Chk_law2_b953_ok {d : Nat} {q : (Int32 × LH)} {k23 : Nat → Nat → Nat → Nat → Int32 → LH → Option (Int32 × LH)} (hd : 201 ≤ d) (hk23 : ∀ (l0 : Nat) (l1 : Nat) (l2 : Nat) (l3 : Nat) (l4 : Int32) (u5 : Value) (u6 : Value) (h : LH), k23 l0 l1 l2 l3 l4 h = some q → JR d jM_320 23 [.ref l0, .ref l1, .ref l2, .ref l3, .int l4, u5, u6] [] h (jo_i q)) {l0 : Nat} {l1 : Nat} {l2 : Nat} {l3 : Nat} {l4 : Int32} {s0 : Int64} {s1 : Int64} {u5 : Value} {u6 : Value} {h : LH} : F_Chk_law2_b953 k23 l0 l1 l2 l3 l4 s0 s1 h = some q → JR d jM_320 953 [.ref l0, .ref l1, .ref l2, .ref l3, .int l4, u5, u6] [.long s1, .long s0] h (jo_i q) := by
 unfold F_Chk_law2_b953
 exact jr_lcmp 953 954 rfl rfl
  (jr_if_eq 954 959 957 rfl rfl rfl
  ((F_Chk_law2_b959_ok hd hk23))
  (jr_iconst 957 958 (0 : Int32) rfl jc_i_0 rfl
  (jr_rz 958 rfl rfl)))
noncomputable def F_Chk_law2_b875 (k23 : Nat → Nat → Nat → Nat → Int32 → LH → Option (Int32 × LH)) (l0 : Nat) (l1 : Nat) (l2 : Nat) (l3 : Nat) (l4 : Int32) (h : LH) : Option (Int32 × LH) :=
 jf_ia h l0 (l4 + (1 : Int32)) fun v1 =>
 jf_ia h l0 (l4 + (2 : Int32)) fun v2 =>
 jf_ia h l0 (l4 + (3 : Int32)) fun v3 =>
 jf_bi (F_Chk_would l1 v1 v2 v3 l3 h) fun v4 h5 =>
 jf_ia h5 l0 (l4 + (1 : Int32)) fun v6 =>
 jf_ia h5 l0 (l4 + (2 : Int32)) fun v7 =>
 jf_ia h5 l0 (l4 + (3 : Int32)) fun v8 =>
 jf_kd h5 l2 11
 (jf_bi (F_Mod_would l2 v6 v7 v8 h5) fun v9 h10 =>
 jf_kd h10 l2 11
 (jf_bi (F_Mod_thrown l2 h10) fun v11 h12 =>
 if v11 = v4 then
 if v4 = 0 then
 jf_la h12 l3 (0 : Int32) fun v13 =>
 if v9 = 0 then
 F_Chk_law2_b953 k23 l0 l1 l2 l3 l4 v13 (0 : Int64) h12
else
 F_Chk_law2_b953 k23 l0 l1 l2 l3 l4 v13 (1 : Int64) h12
else
 F_Chk_law2_b959 k23 l0 l1 l2 l3 l4 h12
else
 jf_rz (0 : Int32) (some ((0 : Int32), h12))))
set_option maxHeartbeats 8000000 in
set_option maxRecDepth 100000 in
theorem F_Chk_law2_b875_ok {d : Nat} {q : (Int32 × LH)} {k23 : Nat → Nat → Nat → Nat → Int32 → LH → Option (Int32 × LH)} (hd : 201 ≤ d) (hk23 : ∀ (l0 : Nat) (l1 : Nat) (l2 : Nat) (l3 : Nat) (l4 : Int32) (u5 : Value) (u6 : Value) (h : LH), k23 l0 l1 l2 l3 l4 h = some q → JR d jM_320 23 [.ref l0, .ref l1, .ref l2, .ref l3, .int l4, u5, u6] [] h (jo_i q)) {l0 : Nat} {l1 : Nat} {l2 : Nat} {l3 : Nat} {l4 : Int32} {u5 : Value} {u6 : Value} {h : LH} : F_Chk_law2_b875 k23 l0 l1 l2 l3 l4 h = some q → JR d jM_320 875 [.ref l0, .ref l1, .ref l2, .ref l3, .int l4, u5, u6] [] h (jo_i q) := by
 unfold F_Chk_law2_b875
 exact jr_aloadn 875 876 rfl rfl rfl
  (jr_aloadn 876 877 rfl rfl rfl
  (jr_iload 877 879 rfl rfl rfl
  (jr_iconst 879 880 (1 : Int32) rfl jc_i_1 rfl
  (jr_iadd 880 881 rfl rfl
  (jr_ia 881 882 rfl rfl (fun v1 =>
  jr_aloadn 882 883 rfl rfl rfl
  (jr_iload 883 885 rfl rfl rfl
  (jr_iconst 885 886 (2 : Int32) rfl jc_i_2 rfl
  (jr_iadd 886 887 rfl rfl
  (jr_ia 887 888 rfl rfl (fun v2 =>
  jr_aloadn 888 889 rfl rfl rfl
  (jr_iload 889 891 rfl rfl rfl
  (jr_iconst 891 892 (3 : Int32) rfl jc_i_3 rfl
  (jr_iadd 892 893 rfl rfl
  (jr_ia 893 894 rfl rfl (fun v3 =>
  jr_aloadn 894 895 rfl rfl rfl
  (jr_cSi 895 898 [] rfl rfl rfl rfl rfl rfl rfl (as := [.ref l1, .int v1, .int v2, .int v3, .ref l3]) (F_Chk_would_ok (Nat.le_trans (by decide : 5 ≤ 201) hd)) (fun v4 h5 =>
  jr_istore 898 900 [.ref l0, .ref l1, .ref l2, .ref l3, .int l4, .int v4, u6] rfl rfl rfl rfl
  (jr_aloadn 900 901 rfl rfl rfl
  (jr_aloadn 901 902 rfl rfl rfl
  (jr_iload 902 904 rfl rfl rfl
  (jr_iconst 904 905 (1 : Int32) rfl jc_i_1 rfl
  (jr_iadd 905 906 rfl rfl
  (jr_ia 906 907 rfl rfl (fun v6 =>
  jr_aloadn 907 908 rfl rfl rfl
  (jr_iload 908 910 rfl rfl rfl
  (jr_iconst 910 911 (2 : Int32) rfl jc_i_2 rfl
  (jr_iadd 911 912 rfl rfl
  (jr_ia 912 913 rfl rfl (fun v7 =>
  jr_aloadn 913 914 rfl rfl rfl
  (jr_iload 914 916 rfl rfl rfl
  (jr_iconst 916 917 (3 : Int32) rfl jc_i_3 rfl
  (jr_iadd 917 918 rfl rfl
  (jr_ia 918 919 rfl rfl (fun v8 =>
  jr_cVi 919 922 [] rfl rfl rfl rfl rfl rfl rfl rfl (as := [.int v6, .int v7, .int v8]) (F_Mod_would_ok (Nat.le_trans (by decide : 6 ≤ 201) hd)) (fun v9 h10 =>
  jr_istore 922 924 [.ref l0, .ref l1, .ref l2, .ref l3, .int l4, .int v4, .int v9] rfl rfl rfl rfl
  (jr_aloadn 924 925 rfl rfl rfl
  (jr_cVi 925 928 [] rfl rfl rfl rfl rfl rfl rfl rfl (as := []) (F_Mod_thrown_ok (Nat.le_trans (by decide : 1 ≤ 201) hd)) (fun v11 h12 =>
  jr_iload 928 930 rfl rfl rfl
  (jr_icmp_eq 930 935 933 rfl rfl rfl
  (jr_iload 935 937 rfl rfl rfl
  (jr_if_ne 937 959 940 rfl rfl rfl
  ((F_Chk_law2_b959_ok hd hk23))
  (jr_aloadn 940 941 rfl rfl rfl
  (jr_iconst 941 942 (0 : Int32) rfl jc_i_0 rfl
  (jr_la 942 943 rfl rfl (fun v13 =>
  jr_iload 943 945 rfl rfl rfl
  (jr_if_eq 945 952 948 rfl rfl rfl
  (jr_lconst 952 953 (0 : Int64) rfl rfl rfl
  ((F_Chk_law2_b953_ok hd hk23)))
  (jr_lconst 948 949 (1 : Int64) rfl rfl rfl
  (jr_goto 949 953 rfl rfl
  ((F_Chk_law2_b953_ok hd hk23)))))))))))
  (jr_iconst 933 934 (0 : Int32) rfl jc_i_0 rfl
  (jr_rz 934 rfl rfl))))))))))))))))))))))))))))))))))))))))))
noncomputable def F_Chk_law2_b1027 (k23 : Nat → Nat → Nat → Nat → Int32 → LH → Option (Int32 × LH)) (l0 : Nat) (l1 : Nat) (l2 : Nat) (l3 : Nat) (l4 : Int32) (h : LH) : Option (Int32 × LH) :=
 F_Chk_law2_b2405 k23 l0 l1 l2 l3 l4 h
set_option maxHeartbeats 8000000 in
set_option maxRecDepth 100000 in
theorem F_Chk_law2_b1027_ok {d : Nat} {q : (Int32 × LH)} {k23 : Nat → Nat → Nat → Nat → Int32 → LH → Option (Int32 × LH)} (hd : 201 ≤ d) (hk23 : ∀ (l0 : Nat) (l1 : Nat) (l2 : Nat) (l3 : Nat) (l4 : Int32) (u5 : Value) (u6 : Value) (h : LH), k23 l0 l1 l2 l3 l4 h = some q → JR d jM_320 23 [.ref l0, .ref l1, .ref l2, .ref l3, .int l4, u5, u6] [] h (jo_i q)) {l0 : Nat} {l1 : Nat} {l2 : Nat} {l3 : Nat} {l4 : Int32} {u5 : Value} {u6 : Value} {h : LH} : F_Chk_law2_b1027 k23 l0 l1 l2 l3 l4 h = some q → JR d jM_320 1027 [.ref l0, .ref l1, .ref l2, .ref l3, .int l4, u5, u6] [] h (jo_i q) := by
 unfold F_Chk_law2_b1027
 exact jr_goto 1027 2405 rfl rfl
  ((F_Chk_law2_b2405_ok hd hk23))
noncomputable def F_Chk_law2_b962 (k23 : Nat → Nat → Nat → Nat → Int32 → LH → Option (Int32 × LH)) (l0 : Nat) (l1 : Nat) (l2 : Nat) (l3 : Nat) (l4 : Int32) (h : LH) : Option (Int32 × LH) :=
 jf_ia h l0 (l4 + (1 : Int32)) fun v1 =>
 jf_ia h l0 (l4 + (2 : Int32)) fun v2 =>
 jf_bi (F_Chk_when l1 v1 v2 l3 h) fun v3 h4 =>
 jf_ia h4 l0 (l4 + (1 : Int32)) fun v5 =>
 jf_ia h4 l0 (l4 + (2 : Int32)) fun v6 =>
 jf_kd h4 l2 11
 (jf_bi (F_Mod_when l2 v5 v6 h4) fun v7 h8 =>
 jf_kd h8 l2 11
 (jf_bi (F_Mod_thrown l2 h8) fun v9 h10 =>
 if v9 = v3 then
 if v3 = 0 then
 jf_la h10 l3 (0 : Int32) fun v11 =>
 if (lg_cmp v11 (v7).toInt64) = 0 then
 F_Chk_law2_b1027 k23 l0 l1 l2 l3 l4 h10
else
 jf_rz (0 : Int32) (some ((0 : Int32), h10))
else
 F_Chk_law2_b1027 k23 l0 l1 l2 l3 l4 h10
else
 jf_rz (0 : Int32) (some ((0 : Int32), h10))))
set_option maxHeartbeats 8000000 in
set_option maxRecDepth 100000 in
theorem F_Chk_law2_b962_ok {d : Nat} {q : (Int32 × LH)} {k23 : Nat → Nat → Nat → Nat → Int32 → LH → Option (Int32 × LH)} (hd : 201 ≤ d) (hk23 : ∀ (l0 : Nat) (l1 : Nat) (l2 : Nat) (l3 : Nat) (l4 : Int32) (u5 : Value) (u6 : Value) (h : LH), k23 l0 l1 l2 l3 l4 h = some q → JR d jM_320 23 [.ref l0, .ref l1, .ref l2, .ref l3, .int l4, u5, u6] [] h (jo_i q)) {l0 : Nat} {l1 : Nat} {l2 : Nat} {l3 : Nat} {l4 : Int32} {u5 : Value} {u6 : Value} {h : LH} : F_Chk_law2_b962 k23 l0 l1 l2 l3 l4 h = some q → JR d jM_320 962 [.ref l0, .ref l1, .ref l2, .ref l3, .int l4, u5, u6] [] h (jo_i q) := by
 unfold F_Chk_law2_b962
 exact jr_aloadn 962 963 rfl rfl rfl
  (jr_aloadn 963 964 rfl rfl rfl
  (jr_iload 964 966 rfl rfl rfl
  (jr_iconst 966 967 (1 : Int32) rfl jc_i_1 rfl
  (jr_iadd 967 968 rfl rfl
  (jr_ia 968 969 rfl rfl (fun v1 =>
  jr_aloadn 969 970 rfl rfl rfl
  (jr_iload 970 972 rfl rfl rfl
  (jr_iconst 972 973 (2 : Int32) rfl jc_i_2 rfl
  (jr_iadd 973 974 rfl rfl
  (jr_ia 974 975 rfl rfl (fun v2 =>
  jr_aloadn 975 976 rfl rfl rfl
  (jr_cSi 976 979 [] rfl rfl rfl rfl rfl rfl rfl (as := [.ref l1, .int v1, .int v2, .ref l3]) (F_Chk_when_ok (Nat.le_trans (by decide : 6 ≤ 201) hd)) (fun v3 h4 =>
  jr_istore 979 981 [.ref l0, .ref l1, .ref l2, .ref l3, .int l4, .int v3, u6] rfl rfl rfl rfl
  (jr_aloadn 981 982 rfl rfl rfl
  (jr_aloadn 982 983 rfl rfl rfl
  (jr_iload 983 985 rfl rfl rfl
  (jr_iconst 985 986 (1 : Int32) rfl jc_i_1 rfl
  (jr_iadd 986 987 rfl rfl
  (jr_ia 987 988 rfl rfl (fun v5 =>
  jr_aloadn 988 989 rfl rfl rfl
  (jr_iload 989 991 rfl rfl rfl
  (jr_iconst 991 992 (2 : Int32) rfl jc_i_2 rfl
  (jr_iadd 992 993 rfl rfl
  (jr_ia 993 994 rfl rfl (fun v6 =>
  jr_cVi 994 997 [] rfl rfl rfl rfl rfl rfl rfl rfl (as := [.int v5, .int v6]) (F_Mod_when_ok (Nat.le_trans (by decide : 9 ≤ 201) hd)) (fun v7 h8 =>
  jr_istore 997 999 [.ref l0, .ref l1, .ref l2, .ref l3, .int l4, .int v3, .int v7] rfl rfl rfl rfl
  (jr_aloadn 999 1000 rfl rfl rfl
  (jr_cVi 1000 1003 [] rfl rfl rfl rfl rfl rfl rfl rfl (as := []) (F_Mod_thrown_ok (Nat.le_trans (by decide : 1 ≤ 201) hd)) (fun v9 h10 =>
  jr_iload 1003 1005 rfl rfl rfl
  (jr_icmp_eq 1005 1010 1008 rfl rfl rfl
  (jr_iload 1010 1012 rfl rfl rfl
  (jr_if_ne 1012 1027 1015 rfl rfl rfl
  ((F_Chk_law2_b1027_ok hd hk23))
  (jr_aloadn 1015 1016 rfl rfl rfl
  (jr_iconst 1016 1017 (0 : Int32) rfl jc_i_0 rfl
  (jr_la 1017 1018 rfl rfl (fun v11 =>
  jr_iload 1018 1020 rfl rfl rfl
  (jr_i2l 1020 1021 rfl rfl
  (jr_lcmp 1021 1022 rfl rfl
  (jr_if_eq 1022 1027 1025 rfl rfl rfl
  ((F_Chk_law2_b1027_ok hd hk23))
  (jr_iconst 1025 1026 (0 : Int32) rfl jc_i_0 rfl
  (jr_rz 1026 rfl rfl)))))))))))
  (jr_iconst 1008 1009 (0 : Int32) rfl jc_i_0 rfl
  (jr_rz 1009 rfl rfl))))))))))))))))))))))))))))))))
noncomputable def F_Chk_law2_b1095 (k23 : Nat → Nat → Nat → Nat → Int32 → LH → Option (Int32 × LH)) (l0 : Nat) (l1 : Nat) (l2 : Nat) (l3 : Nat) (l4 : Int32) (h : LH) : Option (Int32 × LH) :=
 F_Chk_law2_b2405 k23 l0 l1 l2 l3 l4 h
set_option maxHeartbeats 8000000 in
set_option maxRecDepth 100000 in
theorem F_Chk_law2_b1095_ok {d : Nat} {q : (Int32 × LH)} {k23 : Nat → Nat → Nat → Nat → Int32 → LH → Option (Int32 × LH)} (hd : 201 ≤ d) (hk23 : ∀ (l0 : Nat) (l1 : Nat) (l2 : Nat) (l3 : Nat) (l4 : Int32) (u5 : Value) (u6 : Value) (h : LH), k23 l0 l1 l2 l3 l4 h = some q → JR d jM_320 23 [.ref l0, .ref l1, .ref l2, .ref l3, .int l4, u5, u6] [] h (jo_i q)) {l0 : Nat} {l1 : Nat} {l2 : Nat} {l3 : Nat} {l4 : Int32} {u5 : Value} {u6 : Value} {h : LH} : F_Chk_law2_b1095 k23 l0 l1 l2 l3 l4 h = some q → JR d jM_320 1095 [.ref l0, .ref l1, .ref l2, .ref l3, .int l4, u5, u6] [] h (jo_i q) := by
 unfold F_Chk_law2_b1095
 exact jr_goto 1095 2405 rfl rfl
  ((F_Chk_law2_b2405_ok hd hk23))
noncomputable def F_Chk_law2_b1030 (k23 : Nat → Nat → Nat → Nat → Int32 → LH → Option (Int32 × LH)) (l0 : Nat) (l1 : Nat) (l2 : Nat) (l3 : Nat) (l4 : Int32) (h : LH) : Option (Int32 × LH) :=
 jf_ia h l0 (l4 + (1 : Int32)) fun v1 =>
 jf_ia h l0 (l4 + (2 : Int32)) fun v2 =>
 jf_bi (F_Chk_shut l1 v1 v2 l3 h) fun v3 h4 =>
 jf_ia h4 l0 (l4 + (1 : Int32)) fun v5 =>
 jf_ia h4 l0 (l4 + (2 : Int32)) fun v6 =>
 jf_kd h4 l2 11
 (jf_bi (F_Mod_shut l2 v5 v6 h4) fun v7 h8 =>
 jf_kd h8 l2 11
 (jf_bi (F_Mod_thrown l2 h8) fun v9 h10 =>
 if v9 = v3 then
 if v3 = 0 then
 jf_la h10 l3 (0 : Int32) fun v11 =>
 if (lg_cmp v11 (v7).toInt64) = 0 then
 F_Chk_law2_b1095 k23 l0 l1 l2 l3 l4 h10
else
 jf_rz (0 : Int32) (some ((0 : Int32), h10))
else
 F_Chk_law2_b1095 k23 l0 l1 l2 l3 l4 h10
else
 jf_rz (0 : Int32) (some ((0 : Int32), h10))))
set_option maxHeartbeats 8000000 in
set_option maxRecDepth 100000 in
theorem F_Chk_law2_b1030_ok {d : Nat} {q : (Int32 × LH)} {k23 : Nat → Nat → Nat → Nat → Int32 → LH → Option (Int32 × LH)} (hd : 201 ≤ d) (hk23 : ∀ (l0 : Nat) (l1 : Nat) (l2 : Nat) (l3 : Nat) (l4 : Int32) (u5 : Value) (u6 : Value) (h : LH), k23 l0 l1 l2 l3 l4 h = some q → JR d jM_320 23 [.ref l0, .ref l1, .ref l2, .ref l3, .int l4, u5, u6] [] h (jo_i q)) {l0 : Nat} {l1 : Nat} {l2 : Nat} {l3 : Nat} {l4 : Int32} {u5 : Value} {u6 : Value} {h : LH} : F_Chk_law2_b1030 k23 l0 l1 l2 l3 l4 h = some q → JR d jM_320 1030 [.ref l0, .ref l1, .ref l2, .ref l3, .int l4, u5, u6] [] h (jo_i q) := by
 unfold F_Chk_law2_b1030
 exact jr_aloadn 1030 1031 rfl rfl rfl
  (jr_aloadn 1031 1032 rfl rfl rfl
  (jr_iload 1032 1034 rfl rfl rfl
  (jr_iconst 1034 1035 (1 : Int32) rfl jc_i_1 rfl
  (jr_iadd 1035 1036 rfl rfl
  (jr_ia 1036 1037 rfl rfl (fun v1 =>
  jr_aloadn 1037 1038 rfl rfl rfl
  (jr_iload 1038 1040 rfl rfl rfl
  (jr_iconst 1040 1041 (2 : Int32) rfl jc_i_2 rfl
  (jr_iadd 1041 1042 rfl rfl
  (jr_ia 1042 1043 rfl rfl (fun v2 =>
  jr_aloadn 1043 1044 rfl rfl rfl
  (jr_cSi 1044 1047 [] rfl rfl rfl rfl rfl rfl rfl (as := [.ref l1, .int v1, .int v2, .ref l3]) (F_Chk_shut_ok (Nat.le_trans (by decide : 6 ≤ 201) hd)) (fun v3 h4 =>
  jr_istore 1047 1049 [.ref l0, .ref l1, .ref l2, .ref l3, .int l4, .int v3, u6] rfl rfl rfl rfl
  (jr_aloadn 1049 1050 rfl rfl rfl
  (jr_aloadn 1050 1051 rfl rfl rfl
  (jr_iload 1051 1053 rfl rfl rfl
  (jr_iconst 1053 1054 (1 : Int32) rfl jc_i_1 rfl
  (jr_iadd 1054 1055 rfl rfl
  (jr_ia 1055 1056 rfl rfl (fun v5 =>
  jr_aloadn 1056 1057 rfl rfl rfl
  (jr_iload 1057 1059 rfl rfl rfl
  (jr_iconst 1059 1060 (2 : Int32) rfl jc_i_2 rfl
  (jr_iadd 1060 1061 rfl rfl
  (jr_ia 1061 1062 rfl rfl (fun v6 =>
  jr_cVi 1062 1065 [] rfl rfl rfl rfl rfl rfl rfl rfl (as := [.int v5, .int v6]) (F_Mod_shut_ok (Nat.le_trans (by decide : 9 ≤ 201) hd)) (fun v7 h8 =>
  jr_istore 1065 1067 [.ref l0, .ref l1, .ref l2, .ref l3, .int l4, .int v3, .int v7] rfl rfl rfl rfl
  (jr_aloadn 1067 1068 rfl rfl rfl
  (jr_cVi 1068 1071 [] rfl rfl rfl rfl rfl rfl rfl rfl (as := []) (F_Mod_thrown_ok (Nat.le_trans (by decide : 1 ≤ 201) hd)) (fun v9 h10 =>
  jr_iload 1071 1073 rfl rfl rfl
  (jr_icmp_eq 1073 1078 1076 rfl rfl rfl
  (jr_iload 1078 1080 rfl rfl rfl
  (jr_if_ne 1080 1095 1083 rfl rfl rfl
  ((F_Chk_law2_b1095_ok hd hk23))
  (jr_aloadn 1083 1084 rfl rfl rfl
  (jr_iconst 1084 1085 (0 : Int32) rfl jc_i_0 rfl
  (jr_la 1085 1086 rfl rfl (fun v11 =>
  jr_iload 1086 1088 rfl rfl rfl
  (jr_i2l 1088 1089 rfl rfl
  (jr_lcmp 1089 1090 rfl rfl
  (jr_if_eq 1090 1095 1093 rfl rfl rfl
  ((F_Chk_law2_b1095_ok hd hk23))
  (jr_iconst 1093 1094 (0 : Int32) rfl jc_i_0 rfl
  (jr_rz 1094 rfl rfl)))))))))))
  (jr_iconst 1076 1077 (0 : Int32) rfl jc_i_0 rfl
  (jr_rz 1077 rfl rfl))))))))))))))))))))))))))))))))
noncomputable def F_Chk_law2_b1199 (k23 : Nat → Nat → Nat → Nat → Int32 → LH → Option (Int32 × LH)) (l0 : Nat) (l1 : Nat) (l2 : Nat) (l3 : Nat) (l4 : Int32) (h : LH) : Option (Int32 × LH) :=
 F_Chk_law2_b2405 k23 l0 l1 l2 l3 l4 h
set_option maxHeartbeats 8000000 in
set_option maxRecDepth 100000 in
theorem F_Chk_law2_b1199_ok {d : Nat} {q : (Int32 × LH)} {k23 : Nat → Nat → Nat → Nat → Int32 → LH → Option (Int32 × LH)} (hd : 201 ≤ d) (hk23 : ∀ (l0 : Nat) (l1 : Nat) (l2 : Nat) (l3 : Nat) (l4 : Int32) (u5 : Value) (u6 : Value) (h : LH), k23 l0 l1 l2 l3 l4 h = some q → JR d jM_320 23 [.ref l0, .ref l1, .ref l2, .ref l3, .int l4, u5, u6] [] h (jo_i q)) {l0 : Nat} {l1 : Nat} {l2 : Nat} {l3 : Nat} {l4 : Int32} {u5 : Value} {u6 : Value} {h : LH} : F_Chk_law2_b1199 k23 l0 l1 l2 l3 l4 h = some q → JR d jM_320 1199 [.ref l0, .ref l1, .ref l2, .ref l3, .int l4, u5, u6] [] h (jo_i q) := by
 unfold F_Chk_law2_b1199
 exact jr_goto 1199 2405 rfl rfl
  ((F_Chk_law2_b2405_ok hd hk23))
noncomputable def F_Chk_law2_b1098 (k23 : Nat → Nat → Nat → Nat → Int32 → LH → Option (Int32 × LH)) (l0 : Nat) (l1 : Nat) (l2 : Nat) (l3 : Nat) (l4 : Int32) (h : LH) : Option (Int32 × LH) :=
 jf_ia h l0 (l4 + (1 : Int32)) fun v1 =>
 jf_ia h l0 (l4 + (2 : Int32)) fun v2 =>
 jf_ia h l0 (l4 + (3 : Int32)) fun v3 =>
 jf_ia h l0 (l4 + (4 : Int32)) fun v4 =>
 jf_ia h l0 (l4 + (5 : Int32)) fun v5 =>
 jf_bi (F_Chk_keeps l1 v1 v2 v3 v4 v5 l3 h) fun v6 h7 =>
 jf_ia h7 l0 (l4 + (1 : Int32)) fun v8 =>
 jf_ia h7 l0 (l4 + (2 : Int32)) fun v9 =>
 jf_ia h7 l0 (l4 + (3 : Int32)) fun v10 =>
 jf_ia h7 l0 (l4 + (4 : Int32)) fun v11 =>
 jf_ia h7 l0 (l4 + (5 : Int32)) fun v12 =>
 jf_kd h7 l2 11
 (jf_bi (F_Mod_keeps l2 v8 v9 v10 v11 v12 h7) fun v13 h14 =>
 jf_kd h14 l2 11
 (jf_bi (F_Mod_thrown l2 h14) fun v15 h16 =>
 if v15 = v6 then
 if v6 = 0 then
 jf_la h16 l3 (0 : Int32) fun v17 =>
 if (lg_cmp v17 (v13).toInt64) = 0 then
 F_Chk_law2_b1199 k23 l0 l1 l2 l3 l4 h16
else
 jf_rz (0 : Int32) (some ((0 : Int32), h16))
else
 F_Chk_law2_b1199 k23 l0 l1 l2 l3 l4 h16
else
 jf_rz (0 : Int32) (some ((0 : Int32), h16))))
set_option maxHeartbeats 8000000 in
set_option maxRecDepth 100000 in
theorem F_Chk_law2_b1098_ok {d : Nat} {q : (Int32 × LH)} {k23 : Nat → Nat → Nat → Nat → Int32 → LH → Option (Int32 × LH)} (hd : 201 ≤ d) (hk23 : ∀ (l0 : Nat) (l1 : Nat) (l2 : Nat) (l3 : Nat) (l4 : Int32) (u5 : Value) (u6 : Value) (h : LH), k23 l0 l1 l2 l3 l4 h = some q → JR d jM_320 23 [.ref l0, .ref l1, .ref l2, .ref l3, .int l4, u5, u6] [] h (jo_i q)) {l0 : Nat} {l1 : Nat} {l2 : Nat} {l3 : Nat} {l4 : Int32} {u5 : Value} {u6 : Value} {h : LH} : F_Chk_law2_b1098 k23 l0 l1 l2 l3 l4 h = some q → JR d jM_320 1098 [.ref l0, .ref l1, .ref l2, .ref l3, .int l4, u5, u6] [] h (jo_i q) := by
 unfold F_Chk_law2_b1098
 exact jr_aloadn 1098 1099 rfl rfl rfl
  (jr_aloadn 1099 1100 rfl rfl rfl
  (jr_iload 1100 1102 rfl rfl rfl
  (jr_iconst 1102 1103 (1 : Int32) rfl jc_i_1 rfl
  (jr_iadd 1103 1104 rfl rfl
  (jr_ia 1104 1105 rfl rfl (fun v1 =>
  jr_aloadn 1105 1106 rfl rfl rfl
  (jr_iload 1106 1108 rfl rfl rfl
  (jr_iconst 1108 1109 (2 : Int32) rfl jc_i_2 rfl
  (jr_iadd 1109 1110 rfl rfl
  (jr_ia 1110 1111 rfl rfl (fun v2 =>
  jr_aloadn 1111 1112 rfl rfl rfl
  (jr_iload 1112 1114 rfl rfl rfl
  (jr_iconst 1114 1115 (3 : Int32) rfl jc_i_3 rfl
  (jr_iadd 1115 1116 rfl rfl
  (jr_ia 1116 1117 rfl rfl (fun v3 =>
  jr_aloadn 1117 1118 rfl rfl rfl
  (jr_iload 1118 1120 rfl rfl rfl
  (jr_iconst 1120 1121 (4 : Int32) rfl jc_i_4 rfl
  (jr_iadd 1121 1122 rfl rfl
  (jr_ia 1122 1123 rfl rfl (fun v4 =>
  jr_aloadn 1123 1124 rfl rfl rfl
  (jr_iload 1124 1126 rfl rfl rfl
  (jr_iconst 1126 1127 (5 : Int32) rfl jc_i_5 rfl
  (jr_iadd 1127 1128 rfl rfl
  (jr_ia 1128 1129 rfl rfl (fun v5 =>
  jr_aloadn 1129 1130 rfl rfl rfl
  (jr_cSi 1130 1133 [] rfl rfl rfl rfl rfl rfl rfl (as := [.ref l1, .int v1, .int v2, .int v3, .int v4, .int v5, .ref l3]) (F_Chk_keeps_ok (Nat.le_trans (by decide : 103 ≤ 201) hd)) (fun v6 h7 =>
  jr_istore 1133 1135 [.ref l0, .ref l1, .ref l2, .ref l3, .int l4, .int v6, u6] rfl rfl rfl rfl
  (jr_aloadn 1135 1136 rfl rfl rfl
  (jr_aloadn 1136 1137 rfl rfl rfl
  (jr_iload 1137 1139 rfl rfl rfl
  (jr_iconst 1139 1140 (1 : Int32) rfl jc_i_1 rfl
  (jr_iadd 1140 1141 rfl rfl
  (jr_ia 1141 1142 rfl rfl (fun v8 =>
  jr_aloadn 1142 1143 rfl rfl rfl
  (jr_iload 1143 1145 rfl rfl rfl
  (jr_iconst 1145 1146 (2 : Int32) rfl jc_i_2 rfl
  (jr_iadd 1146 1147 rfl rfl
  (jr_ia 1147 1148 rfl rfl (fun v9 =>
  jr_aloadn 1148 1149 rfl rfl rfl
  (jr_iload 1149 1151 rfl rfl rfl
  (jr_iconst 1151 1152 (3 : Int32) rfl jc_i_3 rfl
  (jr_iadd 1152 1153 rfl rfl
  (jr_ia 1153 1154 rfl rfl (fun v10 =>
  jr_aloadn 1154 1155 rfl rfl rfl
  (jr_iload 1155 1157 rfl rfl rfl
  (jr_iconst 1157 1158 (4 : Int32) rfl jc_i_4 rfl
  (jr_iadd 1158 1159 rfl rfl
  (jr_ia 1159 1160 rfl rfl (fun v11 =>
  jr_aloadn 1160 1161 rfl rfl rfl
  (jr_iload 1161 1163 rfl rfl rfl
  (jr_iconst 1163 1164 (5 : Int32) rfl jc_i_5 rfl
  (jr_iadd 1164 1165 rfl rfl
  (jr_ia 1165 1166 rfl rfl (fun v12 =>
  jr_cVi 1166 1169 [] rfl rfl rfl rfl rfl rfl rfl rfl (as := [.int v8, .int v9, .int v10, .int v11, .int v12]) (F_Mod_keeps_ok (Nat.le_trans (by decide : 10 ≤ 201) hd)) (fun v13 h14 =>
  jr_istore 1169 1171 [.ref l0, .ref l1, .ref l2, .ref l3, .int l4, .int v6, .int v13] rfl rfl rfl rfl
  (jr_aloadn 1171 1172 rfl rfl rfl
  (jr_cVi 1172 1175 [] rfl rfl rfl rfl rfl rfl rfl rfl (as := []) (F_Mod_thrown_ok (Nat.le_trans (by decide : 1 ≤ 201) hd)) (fun v15 h16 =>
  jr_iload 1175 1177 rfl rfl rfl
  (jr_icmp_eq 1177 1182 1180 rfl rfl rfl
  (jr_iload 1182 1184 rfl rfl rfl
  (jr_if_ne 1184 1199 1187 rfl rfl rfl
  ((F_Chk_law2_b1199_ok hd hk23))
  (jr_aloadn 1187 1188 rfl rfl rfl
  (jr_iconst 1188 1189 (0 : Int32) rfl jc_i_0 rfl
  (jr_la 1189 1190 rfl rfl (fun v17 =>
  jr_iload 1190 1192 rfl rfl rfl
  (jr_i2l 1192 1193 rfl rfl
  (jr_lcmp 1193 1194 rfl rfl
  (jr_if_eq 1194 1199 1197 rfl rfl rfl
  ((F_Chk_law2_b1199_ok hd hk23))
  (jr_iconst 1197 1198 (0 : Int32) rfl jc_i_0 rfl
  (jr_rz 1198 rfl rfl)))))))))))
  (jr_iconst 1180 1181 (0 : Int32) rfl jc_i_0 rfl
  (jr_rz 1181 rfl rfl))))))))))))))))))))))))))))))))))))))))))))))))))))))))))))))
noncomputable def F_Chk_law2_b1267 (k23 : Nat → Nat → Nat → Nat → Int32 → LH → Option (Int32 × LH)) (l0 : Nat) (l1 : Nat) (l2 : Nat) (l3 : Nat) (l4 : Int32) (h : LH) : Option (Int32 × LH) :=
 F_Chk_law2_b2405 k23 l0 l1 l2 l3 l4 h
set_option maxHeartbeats 8000000 in
set_option maxRecDepth 100000 in
theorem F_Chk_law2_b1267_ok {d : Nat} {q : (Int32 × LH)} {k23 : Nat → Nat → Nat → Nat → Int32 → LH → Option (Int32 × LH)} (hd : 201 ≤ d) (hk23 : ∀ (l0 : Nat) (l1 : Nat) (l2 : Nat) (l3 : Nat) (l4 : Int32) (u5 : Value) (u6 : Value) (h : LH), k23 l0 l1 l2 l3 l4 h = some q → JR d jM_320 23 [.ref l0, .ref l1, .ref l2, .ref l3, .int l4, u5, u6] [] h (jo_i q)) {l0 : Nat} {l1 : Nat} {l2 : Nat} {l3 : Nat} {l4 : Int32} {u5 : Value} {u6 : Value} {h : LH} : F_Chk_law2_b1267 k23 l0 l1 l2 l3 l4 h = some q → JR d jM_320 1267 [.ref l0, .ref l1, .ref l2, .ref l3, .int l4, u5, u6] [] h (jo_i q) := by
 unfold F_Chk_law2_b1267
 exact jr_goto 1267 2405 rfl rfl
  ((F_Chk_law2_b2405_ok hd hk23))
noncomputable def F_Chk_law2_b1202 (k23 : Nat → Nat → Nat → Nat → Int32 → LH → Option (Int32 × LH)) (l0 : Nat) (l1 : Nat) (l2 : Nat) (l3 : Nat) (l4 : Int32) (h : LH) : Option (Int32 × LH) :=
 jf_ia h l0 (l4 + (1 : Int32)) fun v1 =>
 jf_ia h l0 (l4 + (2 : Int32)) fun v2 =>
 jf_bi (F_Chk_thief l1 v1 v2 l3 h) fun v3 h4 =>
 jf_ia h4 l0 (l4 + (1 : Int32)) fun v5 =>
 jf_ia h4 l0 (l4 + (2 : Int32)) fun v6 =>
 jf_kd h4 l2 11
 (jf_bi (F_Mod_thief l2 v5 v6 h4) fun v7 h8 =>
 jf_kd h8 l2 11
 (jf_bi (F_Mod_thrown l2 h8) fun v9 h10 =>
 if v9 = v3 then
 if v3 = 0 then
 jf_la h10 l3 (0 : Int32) fun v11 =>
 if (lg_cmp v11 (v7).toInt64) = 0 then
 F_Chk_law2_b1267 k23 l0 l1 l2 l3 l4 h10
else
 jf_rz (0 : Int32) (some ((0 : Int32), h10))
else
 F_Chk_law2_b1267 k23 l0 l1 l2 l3 l4 h10
else
 jf_rz (0 : Int32) (some ((0 : Int32), h10))))
set_option maxHeartbeats 8000000 in
set_option maxRecDepth 100000 in
theorem F_Chk_law2_b1202_ok {d : Nat} {q : (Int32 × LH)} {k23 : Nat → Nat → Nat → Nat → Int32 → LH → Option (Int32 × LH)} (hd : 201 ≤ d) (hk23 : ∀ (l0 : Nat) (l1 : Nat) (l2 : Nat) (l3 : Nat) (l4 : Int32) (u5 : Value) (u6 : Value) (h : LH), k23 l0 l1 l2 l3 l4 h = some q → JR d jM_320 23 [.ref l0, .ref l1, .ref l2, .ref l3, .int l4, u5, u6] [] h (jo_i q)) {l0 : Nat} {l1 : Nat} {l2 : Nat} {l3 : Nat} {l4 : Int32} {u5 : Value} {u6 : Value} {h : LH} : F_Chk_law2_b1202 k23 l0 l1 l2 l3 l4 h = some q → JR d jM_320 1202 [.ref l0, .ref l1, .ref l2, .ref l3, .int l4, u5, u6] [] h (jo_i q) := by
 unfold F_Chk_law2_b1202
 exact jr_aloadn 1202 1203 rfl rfl rfl
  (jr_aloadn 1203 1204 rfl rfl rfl
  (jr_iload 1204 1206 rfl rfl rfl
  (jr_iconst 1206 1207 (1 : Int32) rfl jc_i_1 rfl
  (jr_iadd 1207 1208 rfl rfl
  (jr_ia 1208 1209 rfl rfl (fun v1 =>
  jr_aloadn 1209 1210 rfl rfl rfl
  (jr_iload 1210 1212 rfl rfl rfl
  (jr_iconst 1212 1213 (2 : Int32) rfl jc_i_2 rfl
  (jr_iadd 1213 1214 rfl rfl
  (jr_ia 1214 1215 rfl rfl (fun v2 =>
  jr_aloadn 1215 1216 rfl rfl rfl
  (jr_cSi 1216 1219 [] rfl rfl rfl rfl rfl rfl rfl (as := [.ref l1, .int v1, .int v2, .ref l3]) (F_Chk_thief_ok (Nat.le_trans (by decide : 6 ≤ 201) hd)) (fun v3 h4 =>
  jr_istore 1219 1221 [.ref l0, .ref l1, .ref l2, .ref l3, .int l4, .int v3, u6] rfl rfl rfl rfl
  (jr_aloadn 1221 1222 rfl rfl rfl
  (jr_aloadn 1222 1223 rfl rfl rfl
  (jr_iload 1223 1225 rfl rfl rfl
  (jr_iconst 1225 1226 (1 : Int32) rfl jc_i_1 rfl
  (jr_iadd 1226 1227 rfl rfl
  (jr_ia 1227 1228 rfl rfl (fun v5 =>
  jr_aloadn 1228 1229 rfl rfl rfl
  (jr_iload 1229 1231 rfl rfl rfl
  (jr_iconst 1231 1232 (2 : Int32) rfl jc_i_2 rfl
  (jr_iadd 1232 1233 rfl rfl
  (jr_ia 1233 1234 rfl rfl (fun v6 =>
  jr_cVi 1234 1237 [] rfl rfl rfl rfl rfl rfl rfl rfl (as := [.int v5, .int v6]) (F_Mod_thief_ok (Nat.le_trans (by decide : 9 ≤ 201) hd)) (fun v7 h8 =>
  jr_istore 1237 1239 [.ref l0, .ref l1, .ref l2, .ref l3, .int l4, .int v3, .int v7] rfl rfl rfl rfl
  (jr_aloadn 1239 1240 rfl rfl rfl
  (jr_cVi 1240 1243 [] rfl rfl rfl rfl rfl rfl rfl rfl (as := []) (F_Mod_thrown_ok (Nat.le_trans (by decide : 1 ≤ 201) hd)) (fun v9 h10 =>
  jr_iload 1243 1245 rfl rfl rfl
  (jr_icmp_eq 1245 1250 1248 rfl rfl rfl
  (jr_iload 1250 1252 rfl rfl rfl
  (jr_if_ne 1252 1267 1255 rfl rfl rfl
  ((F_Chk_law2_b1267_ok hd hk23))
  (jr_aloadn 1255 1256 rfl rfl rfl
  (jr_iconst 1256 1257 (0 : Int32) rfl jc_i_0 rfl
  (jr_la 1257 1258 rfl rfl (fun v11 =>
  jr_iload 1258 1260 rfl rfl rfl
  (jr_i2l 1260 1261 rfl rfl
  (jr_lcmp 1261 1262 rfl rfl
  (jr_if_eq 1262 1267 1265 rfl rfl rfl
  ((F_Chk_law2_b1267_ok hd hk23))
  (jr_iconst 1265 1266 (0 : Int32) rfl jc_i_0 rfl
  (jr_rz 1266 rfl rfl)))))))))))
  (jr_iconst 1248 1249 (0 : Int32) rfl jc_i_0 rfl
  (jr_rz 1249 rfl rfl))))))))))))))))))))))))))))))))
noncomputable def F_Chk_law2_b1335 (k23 : Nat → Nat → Nat → Nat → Int32 → LH → Option (Int32 × LH)) (l0 : Nat) (l1 : Nat) (l2 : Nat) (l3 : Nat) (l4 : Int32) (h : LH) : Option (Int32 × LH) :=
 F_Chk_law2_b2405 k23 l0 l1 l2 l3 l4 h
set_option maxHeartbeats 8000000 in
set_option maxRecDepth 100000 in
theorem F_Chk_law2_b1335_ok {d : Nat} {q : (Int32 × LH)} {k23 : Nat → Nat → Nat → Nat → Int32 → LH → Option (Int32 × LH)} (hd : 201 ≤ d) (hk23 : ∀ (l0 : Nat) (l1 : Nat) (l2 : Nat) (l3 : Nat) (l4 : Int32) (u5 : Value) (u6 : Value) (h : LH), k23 l0 l1 l2 l3 l4 h = some q → JR d jM_320 23 [.ref l0, .ref l1, .ref l2, .ref l3, .int l4, u5, u6] [] h (jo_i q)) {l0 : Nat} {l1 : Nat} {l2 : Nat} {l3 : Nat} {l4 : Int32} {u5 : Value} {u6 : Value} {h : LH} : F_Chk_law2_b1335 k23 l0 l1 l2 l3 l4 h = some q → JR d jM_320 1335 [.ref l0, .ref l1, .ref l2, .ref l3, .int l4, u5, u6] [] h (jo_i q) := by
 unfold F_Chk_law2_b1335
 exact jr_goto 1335 2405 rfl rfl
  ((F_Chk_law2_b2405_ok hd hk23))
noncomputable def F_Chk_law2_b1270 (k23 : Nat → Nat → Nat → Nat → Int32 → LH → Option (Int32 × LH)) (l0 : Nat) (l1 : Nat) (l2 : Nat) (l3 : Nat) (l4 : Int32) (h : LH) : Option (Int32 × LH) :=
 jf_ia h l0 (l4 + (1 : Int32)) fun v1 =>
 jf_ia h l0 (l4 + (2 : Int32)) fun v2 =>
 jf_bi (F_Chk_guard l1 v1 v2 l3 h) fun v3 h4 =>
 jf_ia h4 l0 (l4 + (1 : Int32)) fun v5 =>
 jf_ia h4 l0 (l4 + (2 : Int32)) fun v6 =>
 jf_kd h4 l2 11
 (jf_bi (F_Mod_guard l2 v5 v6 h4) fun v7 h8 =>
 jf_kd h8 l2 11
 (jf_bi (F_Mod_thrown l2 h8) fun v9 h10 =>
 if v9 = v3 then
 if v3 = 0 then
 jf_la h10 l3 (0 : Int32) fun v11 =>
 if (lg_cmp v11 (v7).toInt64) = 0 then
 F_Chk_law2_b1335 k23 l0 l1 l2 l3 l4 h10
else
 jf_rz (0 : Int32) (some ((0 : Int32), h10))
else
 F_Chk_law2_b1335 k23 l0 l1 l2 l3 l4 h10
else
 jf_rz (0 : Int32) (some ((0 : Int32), h10))))
set_option maxHeartbeats 8000000 in
set_option maxRecDepth 100000 in
theorem F_Chk_law2_b1270_ok {d : Nat} {q : (Int32 × LH)} {k23 : Nat → Nat → Nat → Nat → Int32 → LH → Option (Int32 × LH)} (hd : 201 ≤ d) (hk23 : ∀ (l0 : Nat) (l1 : Nat) (l2 : Nat) (l3 : Nat) (l4 : Int32) (u5 : Value) (u6 : Value) (h : LH), k23 l0 l1 l2 l3 l4 h = some q → JR d jM_320 23 [.ref l0, .ref l1, .ref l2, .ref l3, .int l4, u5, u6] [] h (jo_i q)) {l0 : Nat} {l1 : Nat} {l2 : Nat} {l3 : Nat} {l4 : Int32} {u5 : Value} {u6 : Value} {h : LH} : F_Chk_law2_b1270 k23 l0 l1 l2 l3 l4 h = some q → JR d jM_320 1270 [.ref l0, .ref l1, .ref l2, .ref l3, .int l4, u5, u6] [] h (jo_i q) := by
 unfold F_Chk_law2_b1270
 exact jr_aloadn 1270 1271 rfl rfl rfl
  (jr_aloadn 1271 1272 rfl rfl rfl
  (jr_iload 1272 1274 rfl rfl rfl
  (jr_iconst 1274 1275 (1 : Int32) rfl jc_i_1 rfl
  (jr_iadd 1275 1276 rfl rfl
  (jr_ia 1276 1277 rfl rfl (fun v1 =>
  jr_aloadn 1277 1278 rfl rfl rfl
  (jr_iload 1278 1280 rfl rfl rfl
  (jr_iconst 1280 1281 (2 : Int32) rfl jc_i_2 rfl
  (jr_iadd 1281 1282 rfl rfl
  (jr_ia 1282 1283 rfl rfl (fun v2 =>
  jr_aloadn 1283 1284 rfl rfl rfl
  (jr_cSi 1284 1287 [] rfl rfl rfl rfl rfl rfl rfl (as := [.ref l1, .int v1, .int v2, .ref l3]) (F_Chk_guard_ok (Nat.le_trans (by decide : 8 ≤ 201) hd)) (fun v3 h4 =>
  jr_istore 1287 1289 [.ref l0, .ref l1, .ref l2, .ref l3, .int l4, .int v3, u6] rfl rfl rfl rfl
  (jr_aloadn 1289 1290 rfl rfl rfl
  (jr_aloadn 1290 1291 rfl rfl rfl
  (jr_iload 1291 1293 rfl rfl rfl
  (jr_iconst 1293 1294 (1 : Int32) rfl jc_i_1 rfl
  (jr_iadd 1294 1295 rfl rfl
  (jr_ia 1295 1296 rfl rfl (fun v5 =>
  jr_aloadn 1296 1297 rfl rfl rfl
  (jr_iload 1297 1299 rfl rfl rfl
  (jr_iconst 1299 1300 (2 : Int32) rfl jc_i_2 rfl
  (jr_iadd 1300 1301 rfl rfl
  (jr_ia 1301 1302 rfl rfl (fun v6 =>
  jr_cVi 1302 1305 [] rfl rfl rfl rfl rfl rfl rfl rfl (as := [.int v5, .int v6]) (F_Mod_guard_ok (Nat.le_trans (by decide : 9 ≤ 201) hd)) (fun v7 h8 =>
  jr_istore 1305 1307 [.ref l0, .ref l1, .ref l2, .ref l3, .int l4, .int v3, .int v7] rfl rfl rfl rfl
  (jr_aloadn 1307 1308 rfl rfl rfl
  (jr_cVi 1308 1311 [] rfl rfl rfl rfl rfl rfl rfl rfl (as := []) (F_Mod_thrown_ok (Nat.le_trans (by decide : 1 ≤ 201) hd)) (fun v9 h10 =>
  jr_iload 1311 1313 rfl rfl rfl
  (jr_icmp_eq 1313 1318 1316 rfl rfl rfl
  (jr_iload 1318 1320 rfl rfl rfl
  (jr_if_ne 1320 1335 1323 rfl rfl rfl
  ((F_Chk_law2_b1335_ok hd hk23))
  (jr_aloadn 1323 1324 rfl rfl rfl
  (jr_iconst 1324 1325 (0 : Int32) rfl jc_i_0 rfl
  (jr_la 1325 1326 rfl rfl (fun v11 =>
  jr_iload 1326 1328 rfl rfl rfl
  (jr_i2l 1328 1329 rfl rfl
  (jr_lcmp 1329 1330 rfl rfl
  (jr_if_eq 1330 1335 1333 rfl rfl rfl
  ((F_Chk_law2_b1335_ok hd hk23))
  (jr_iconst 1333 1334 (0 : Int32) rfl jc_i_0 rfl
  (jr_rz 1334 rfl rfl)))))))))))
  (jr_iconst 1316 1317 (0 : Int32) rfl jc_i_0 rfl
  (jr_rz 1317 rfl rfl))))))))))))))))))))))))))))))))
noncomputable def F_Chk_law2_b1415 (k23 : Nat → Nat → Nat → Nat → Int32 → LH → Option (Int32 × LH)) (l0 : Nat) (l1 : Nat) (l2 : Nat) (l3 : Nat) (l4 : Int32) (h : LH) : Option (Int32 × LH) :=
 F_Chk_law2_b2405 k23 l0 l1 l2 l3 l4 h
set_option maxHeartbeats 8000000 in
set_option maxRecDepth 100000 in
theorem F_Chk_law2_b1415_ok {d : Nat} {q : (Int32 × LH)} {k23 : Nat → Nat → Nat → Nat → Int32 → LH → Option (Int32 × LH)} (hd : 201 ≤ d) (hk23 : ∀ (l0 : Nat) (l1 : Nat) (l2 : Nat) (l3 : Nat) (l4 : Int32) (u5 : Value) (u6 : Value) (h : LH), k23 l0 l1 l2 l3 l4 h = some q → JR d jM_320 23 [.ref l0, .ref l1, .ref l2, .ref l3, .int l4, u5, u6] [] h (jo_i q)) {l0 : Nat} {l1 : Nat} {l2 : Nat} {l3 : Nat} {l4 : Int32} {u5 : Value} {u6 : Value} {h : LH} : F_Chk_law2_b1415 k23 l0 l1 l2 l3 l4 h = some q → JR d jM_320 1415 [.ref l0, .ref l1, .ref l2, .ref l3, .int l4, u5, u6] [] h (jo_i q) := by
 unfold F_Chk_law2_b1415
 exact jr_goto 1415 2405 rfl rfl
  ((F_Chk_law2_b2405_ok hd hk23))
noncomputable def F_Chk_law2_b1338 (k23 : Nat → Nat → Nat → Nat → Int32 → LH → Option (Int32 × LH)) (l0 : Nat) (l1 : Nat) (l2 : Nat) (l3 : Nat) (l4 : Int32) (h : LH) : Option (Int32 × LH) :=
 jf_ia h l0 (l4 + (1 : Int32)) fun v1 =>
 jf_ia h l0 (l4 + (2 : Int32)) fun v2 =>
 jf_ia h l0 (l4 + (3 : Int32)) fun v3 =>
 jf_bi (F_Chk_lean l1 v1 v2 v3 l3 h) fun v4 h5 =>
 jf_ia h5 l0 (l4 + (1 : Int32)) fun v6 =>
 jf_ia h5 l0 (l4 + (2 : Int32)) fun v7 =>
 jf_ia h5 l0 (l4 + (3 : Int32)) fun v8 =>
 jf_kd h5 l2 11
 (jf_bi (F_Mod_lean l2 v6 v7 v8 h5) fun v9 h10 =>
 jf_kd h10 l2 11
 (jf_bi (F_Mod_thrown l2 h10) fun v11 h12 =>
 if v11 = v4 then
 if v4 = 0 then
 jf_la h12 l3 (0 : Int32) fun v13 =>
 if (lg_cmp v13 (v9).toInt64) = 0 then
 F_Chk_law2_b1415 k23 l0 l1 l2 l3 l4 h12
else
 jf_rz (0 : Int32) (some ((0 : Int32), h12))
else
 F_Chk_law2_b1415 k23 l0 l1 l2 l3 l4 h12
else
 jf_rz (0 : Int32) (some ((0 : Int32), h12))))
set_option maxHeartbeats 8000000 in
set_option maxRecDepth 100000 in
theorem F_Chk_law2_b1338_ok {d : Nat} {q : (Int32 × LH)} {k23 : Nat → Nat → Nat → Nat → Int32 → LH → Option (Int32 × LH)} (hd : 201 ≤ d) (hk23 : ∀ (l0 : Nat) (l1 : Nat) (l2 : Nat) (l3 : Nat) (l4 : Int32) (u5 : Value) (u6 : Value) (h : LH), k23 l0 l1 l2 l3 l4 h = some q → JR d jM_320 23 [.ref l0, .ref l1, .ref l2, .ref l3, .int l4, u5, u6] [] h (jo_i q)) {l0 : Nat} {l1 : Nat} {l2 : Nat} {l3 : Nat} {l4 : Int32} {u5 : Value} {u6 : Value} {h : LH} : F_Chk_law2_b1338 k23 l0 l1 l2 l3 l4 h = some q → JR d jM_320 1338 [.ref l0, .ref l1, .ref l2, .ref l3, .int l4, u5, u6] [] h (jo_i q) := by
 unfold F_Chk_law2_b1338
 exact jr_aloadn 1338 1339 rfl rfl rfl
  (jr_aloadn 1339 1340 rfl rfl rfl
  (jr_iload 1340 1342 rfl rfl rfl
  (jr_iconst 1342 1343 (1 : Int32) rfl jc_i_1 rfl
  (jr_iadd 1343 1344 rfl rfl
  (jr_ia 1344 1345 rfl rfl (fun v1 =>
  jr_aloadn 1345 1346 rfl rfl rfl
  (jr_iload 1346 1348 rfl rfl rfl
  (jr_iconst 1348 1349 (2 : Int32) rfl jc_i_2 rfl
  (jr_iadd 1349 1350 rfl rfl
  (jr_ia 1350 1351 rfl rfl (fun v2 =>
  jr_aloadn 1351 1352 rfl rfl rfl
  (jr_iload 1352 1354 rfl rfl rfl
  (jr_iconst 1354 1355 (3 : Int32) rfl jc_i_3 rfl
  (jr_iadd 1355 1356 rfl rfl
  (jr_ia 1356 1357 rfl rfl (fun v3 =>
  jr_aloadn 1357 1358 rfl rfl rfl
  (jr_cSi 1358 1361 [] rfl rfl rfl rfl rfl rfl rfl (as := [.ref l1, .int v1, .int v2, .int v3, .ref l3]) (F_Chk_lean_ok (Nat.le_trans (by decide : 5 ≤ 201) hd)) (fun v4 h5 =>
  jr_istore 1361 1363 [.ref l0, .ref l1, .ref l2, .ref l3, .int l4, .int v4, u6] rfl rfl rfl rfl
  (jr_aloadn 1363 1364 rfl rfl rfl
  (jr_aloadn 1364 1365 rfl rfl rfl
  (jr_iload 1365 1367 rfl rfl rfl
  (jr_iconst 1367 1368 (1 : Int32) rfl jc_i_1 rfl
  (jr_iadd 1368 1369 rfl rfl
  (jr_ia 1369 1370 rfl rfl (fun v6 =>
  jr_aloadn 1370 1371 rfl rfl rfl
  (jr_iload 1371 1373 rfl rfl rfl
  (jr_iconst 1373 1374 (2 : Int32) rfl jc_i_2 rfl
  (jr_iadd 1374 1375 rfl rfl
  (jr_ia 1375 1376 rfl rfl (fun v7 =>
  jr_aloadn 1376 1377 rfl rfl rfl
  (jr_iload 1377 1379 rfl rfl rfl
  (jr_iconst 1379 1380 (3 : Int32) rfl jc_i_3 rfl
  (jr_iadd 1380 1381 rfl rfl
  (jr_ia 1381 1382 rfl rfl (fun v8 =>
  jr_cVi 1382 1385 [] rfl rfl rfl rfl rfl rfl rfl rfl (as := [.int v6, .int v7, .int v8]) (F_Mod_lean_ok (Nat.le_trans (by decide : 4 ≤ 201) hd)) (fun v9 h10 =>
  jr_istore 1385 1387 [.ref l0, .ref l1, .ref l2, .ref l3, .int l4, .int v4, .int v9] rfl rfl rfl rfl
  (jr_aloadn 1387 1388 rfl rfl rfl
  (jr_cVi 1388 1391 [] rfl rfl rfl rfl rfl rfl rfl rfl (as := []) (F_Mod_thrown_ok (Nat.le_trans (by decide : 1 ≤ 201) hd)) (fun v11 h12 =>
  jr_iload 1391 1393 rfl rfl rfl
  (jr_icmp_eq 1393 1398 1396 rfl rfl rfl
  (jr_iload 1398 1400 rfl rfl rfl
  (jr_if_ne 1400 1415 1403 rfl rfl rfl
  ((F_Chk_law2_b1415_ok hd hk23))
  (jr_aloadn 1403 1404 rfl rfl rfl
  (jr_iconst 1404 1405 (0 : Int32) rfl jc_i_0 rfl
  (jr_la 1405 1406 rfl rfl (fun v13 =>
  jr_iload 1406 1408 rfl rfl rfl
  (jr_i2l 1408 1409 rfl rfl
  (jr_lcmp 1409 1410 rfl rfl
  (jr_if_eq 1410 1415 1413 rfl rfl rfl
  ((F_Chk_law2_b1415_ok hd hk23))
  (jr_iconst 1413 1414 (0 : Int32) rfl jc_i_0 rfl
  (jr_rz 1414 rfl rfl)))))))))))
  (jr_iconst 1396 1397 (0 : Int32) rfl jc_i_0 rfl
  (jr_rz 1397 rfl rfl))))))))))))))))))))))))))))))))))))))))))
noncomputable def F_Chk_law2_b1471 (k23 : Nat → Nat → Nat → Nat → Int32 → LH → Option (Int32 × LH)) (l0 : Nat) (l1 : Nat) (l2 : Nat) (l3 : Nat) (l4 : Int32) (h : LH) : Option (Int32 × LH) :=
 F_Chk_law2_b2405 k23 l0 l1 l2 l3 l4 h
set_option maxHeartbeats 8000000 in
set_option maxRecDepth 100000 in
theorem F_Chk_law2_b1471_ok {d : Nat} {q : (Int32 × LH)} {k23 : Nat → Nat → Nat → Nat → Int32 → LH → Option (Int32 × LH)} (hd : 201 ≤ d) (hk23 : ∀ (l0 : Nat) (l1 : Nat) (l2 : Nat) (l3 : Nat) (l4 : Int32) (u5 : Value) (u6 : Value) (h : LH), k23 l0 l1 l2 l3 l4 h = some q → JR d jM_320 23 [.ref l0, .ref l1, .ref l2, .ref l3, .int l4, u5, u6] [] h (jo_i q)) {l0 : Nat} {l1 : Nat} {l2 : Nat} {l3 : Nat} {l4 : Int32} {u5 : Value} {u6 : Value} {h : LH} : F_Chk_law2_b1471 k23 l0 l1 l2 l3 l4 h = some q → JR d jM_320 1471 [.ref l0, .ref l1, .ref l2, .ref l3, .int l4, u5, u6] [] h (jo_i q) := by
 unfold F_Chk_law2_b1471
 exact jr_goto 1471 2405 rfl rfl
  ((F_Chk_law2_b2405_ok hd hk23))
noncomputable def F_Chk_law2_b1418 (k23 : Nat → Nat → Nat → Nat → Int32 → LH → Option (Int32 × LH)) (l0 : Nat) (l1 : Nat) (l2 : Nat) (l3 : Nat) (l4 : Int32) (h : LH) : Option (Int32 × LH) :=
 jf_ia h l0 (l4 + (1 : Int32)) fun v1 =>
 jf_bi (F_Chk_burnt l1 v1 l3 h) fun v2 h3 =>
 jf_ia h3 l0 (l4 + (1 : Int32)) fun v4 =>
 jf_kd h3 l2 11
 (jf_bi (F_Mod_burnt l2 v4 h3) fun v5 h6 =>
 jf_kd h6 l2 11
 (jf_bi (F_Mod_thrown l2 h6) fun v7 h8 =>
 if v7 = v2 then
 if v2 = 0 then
 jf_la h8 l3 (0 : Int32) fun v9 =>
 if (lg_cmp v9 (v5).toInt64) = 0 then
 F_Chk_law2_b1471 k23 l0 l1 l2 l3 l4 h8
else
 jf_rz (0 : Int32) (some ((0 : Int32), h8))
else
 F_Chk_law2_b1471 k23 l0 l1 l2 l3 l4 h8
else
 jf_rz (0 : Int32) (some ((0 : Int32), h8))))
set_option maxHeartbeats 8000000 in
set_option maxRecDepth 100000 in
theorem F_Chk_law2_b1418_ok {d : Nat} {q : (Int32 × LH)} {k23 : Nat → Nat → Nat → Nat → Int32 → LH → Option (Int32 × LH)} (hd : 201 ≤ d) (hk23 : ∀ (l0 : Nat) (l1 : Nat) (l2 : Nat) (l3 : Nat) (l4 : Int32) (u5 : Value) (u6 : Value) (h : LH), k23 l0 l1 l2 l3 l4 h = some q → JR d jM_320 23 [.ref l0, .ref l1, .ref l2, .ref l3, .int l4, u5, u6] [] h (jo_i q)) {l0 : Nat} {l1 : Nat} {l2 : Nat} {l3 : Nat} {l4 : Int32} {u5 : Value} {u6 : Value} {h : LH} : F_Chk_law2_b1418 k23 l0 l1 l2 l3 l4 h = some q → JR d jM_320 1418 [.ref l0, .ref l1, .ref l2, .ref l3, .int l4, u5, u6] [] h (jo_i q) := by
 unfold F_Chk_law2_b1418
 exact jr_aloadn 1418 1419 rfl rfl rfl
  (jr_aloadn 1419 1420 rfl rfl rfl
  (jr_iload 1420 1422 rfl rfl rfl
  (jr_iconst 1422 1423 (1 : Int32) rfl jc_i_1 rfl
  (jr_iadd 1423 1424 rfl rfl
  (jr_ia 1424 1425 rfl rfl (fun v1 =>
  jr_aloadn 1425 1426 rfl rfl rfl
  (jr_cSi 1426 1429 [] rfl rfl rfl rfl rfl rfl rfl (as := [.ref l1, .int v1, .ref l3]) (F_Chk_burnt_ok (Nat.le_trans (by decide : 6 ≤ 201) hd)) (fun v2 h3 =>
  jr_istore 1429 1431 [.ref l0, .ref l1, .ref l2, .ref l3, .int l4, .int v2, u6] rfl rfl rfl rfl
  (jr_aloadn 1431 1432 rfl rfl rfl
  (jr_aloadn 1432 1433 rfl rfl rfl
  (jr_iload 1433 1435 rfl rfl rfl
  (jr_iconst 1435 1436 (1 : Int32) rfl jc_i_1 rfl
  (jr_iadd 1436 1437 rfl rfl
  (jr_ia 1437 1438 rfl rfl (fun v4 =>
  jr_cVi 1438 1441 [] rfl rfl rfl rfl rfl rfl rfl rfl (as := [.int v4]) (F_Mod_burnt_ok (Nat.le_trans (by decide : 6 ≤ 201) hd)) (fun v5 h6 =>
  jr_istore 1441 1443 [.ref l0, .ref l1, .ref l2, .ref l3, .int l4, .int v2, .int v5] rfl rfl rfl rfl
  (jr_aloadn 1443 1444 rfl rfl rfl
  (jr_cVi 1444 1447 [] rfl rfl rfl rfl rfl rfl rfl rfl (as := []) (F_Mod_thrown_ok (Nat.le_trans (by decide : 1 ≤ 201) hd)) (fun v7 h8 =>
  jr_iload 1447 1449 rfl rfl rfl
  (jr_icmp_eq 1449 1454 1452 rfl rfl rfl
  (jr_iload 1454 1456 rfl rfl rfl
  (jr_if_ne 1456 1471 1459 rfl rfl rfl
  ((F_Chk_law2_b1471_ok hd hk23))
  (jr_aloadn 1459 1460 rfl rfl rfl
  (jr_iconst 1460 1461 (0 : Int32) rfl jc_i_0 rfl
  (jr_la 1461 1462 rfl rfl (fun v9 =>
  jr_iload 1462 1464 rfl rfl rfl
  (jr_i2l 1464 1465 rfl rfl
  (jr_lcmp 1465 1466 rfl rfl
  (jr_if_eq 1466 1471 1469 rfl rfl rfl
  ((F_Chk_law2_b1471_ok hd hk23))
  (jr_iconst 1469 1470 (0 : Int32) rfl jc_i_0 rfl
  (jr_rz 1470 rfl rfl)))))))))))
  (jr_iconst 1452 1453 (0 : Int32) rfl jc_i_0 rfl
  (jr_rz 1453 rfl rfl))))))))))))))))))))))
noncomputable def F_Chk_law2_b1527 (k23 : Nat → Nat → Nat → Nat → Int32 → LH → Option (Int32 × LH)) (l0 : Nat) (l1 : Nat) (l2 : Nat) (l3 : Nat) (l4 : Int32) (h : LH) : Option (Int32 × LH) :=
 F_Chk_law2_b2405 k23 l0 l1 l2 l3 l4 h
set_option maxHeartbeats 8000000 in
set_option maxRecDepth 100000 in
theorem F_Chk_law2_b1527_ok {d : Nat} {q : (Int32 × LH)} {k23 : Nat → Nat → Nat → Nat → Int32 → LH → Option (Int32 × LH)} (hd : 201 ≤ d) (hk23 : ∀ (l0 : Nat) (l1 : Nat) (l2 : Nat) (l3 : Nat) (l4 : Int32) (u5 : Value) (u6 : Value) (h : LH), k23 l0 l1 l2 l3 l4 h = some q → JR d jM_320 23 [.ref l0, .ref l1, .ref l2, .ref l3, .int l4, u5, u6] [] h (jo_i q)) {l0 : Nat} {l1 : Nat} {l2 : Nat} {l3 : Nat} {l4 : Int32} {u5 : Value} {u6 : Value} {h : LH} : F_Chk_law2_b1527 k23 l0 l1 l2 l3 l4 h = some q → JR d jM_320 1527 [.ref l0, .ref l1, .ref l2, .ref l3, .int l4, u5, u6] [] h (jo_i q) := by
 unfold F_Chk_law2_b1527
 exact jr_goto 1527 2405 rfl rfl
  ((F_Chk_law2_b2405_ok hd hk23))
noncomputable def F_Chk_law2_b1474 (k23 : Nat → Nat → Nat → Nat → Int32 → LH → Option (Int32 × LH)) (l0 : Nat) (l1 : Nat) (l2 : Nat) (l3 : Nat) (l4 : Int32) (h : LH) : Option (Int32 × LH) :=
 jf_ia h l0 (l4 + (1 : Int32)) fun v1 =>
 jf_bi (F_Chk_fits l1 v1 l3 h) fun v2 h3 =>
 jf_ia h3 l0 (l4 + (1 : Int32)) fun v4 =>
 jf_kd h3 l2 11
 (jf_bi (F_Mod_fits l2 v4 h3) fun v5 h6 =>
 jf_kd h6 l2 11
 (jf_bi (F_Mod_thrown l2 h6) fun v7 h8 =>
 if v7 = v2 then
 if v2 = 0 then
 jf_la h8 l3 (0 : Int32) fun v9 =>
 if (lg_cmp v9 (v5).toInt64) = 0 then
 F_Chk_law2_b1527 k23 l0 l1 l2 l3 l4 h8
else
 jf_rz (0 : Int32) (some ((0 : Int32), h8))
else
 F_Chk_law2_b1527 k23 l0 l1 l2 l3 l4 h8
else
 jf_rz (0 : Int32) (some ((0 : Int32), h8))))
set_option maxHeartbeats 8000000 in
set_option maxRecDepth 100000 in
theorem F_Chk_law2_b1474_ok {d : Nat} {q : (Int32 × LH)} {k23 : Nat → Nat → Nat → Nat → Int32 → LH → Option (Int32 × LH)} (hd : 201 ≤ d) (hk23 : ∀ (l0 : Nat) (l1 : Nat) (l2 : Nat) (l3 : Nat) (l4 : Int32) (u5 : Value) (u6 : Value) (h : LH), k23 l0 l1 l2 l3 l4 h = some q → JR d jM_320 23 [.ref l0, .ref l1, .ref l2, .ref l3, .int l4, u5, u6] [] h (jo_i q)) {l0 : Nat} {l1 : Nat} {l2 : Nat} {l3 : Nat} {l4 : Int32} {u5 : Value} {u6 : Value} {h : LH} : F_Chk_law2_b1474 k23 l0 l1 l2 l3 l4 h = some q → JR d jM_320 1474 [.ref l0, .ref l1, .ref l2, .ref l3, .int l4, u5, u6] [] h (jo_i q) := by
 unfold F_Chk_law2_b1474
 exact jr_aloadn 1474 1475 rfl rfl rfl
  (jr_aloadn 1475 1476 rfl rfl rfl
  (jr_iload 1476 1478 rfl rfl rfl
  (jr_iconst 1478 1479 (1 : Int32) rfl jc_i_1 rfl
  (jr_iadd 1479 1480 rfl rfl
  (jr_ia 1480 1481 rfl rfl (fun v1 =>
  jr_aloadn 1481 1482 rfl rfl rfl
  (jr_cSi 1482 1485 [] rfl rfl rfl rfl rfl rfl rfl (as := [.ref l1, .int v1, .ref l3]) (F_Chk_fits_ok (Nat.le_trans (by decide : 6 ≤ 201) hd)) (fun v2 h3 =>
  jr_istore 1485 1487 [.ref l0, .ref l1, .ref l2, .ref l3, .int l4, .int v2, u6] rfl rfl rfl rfl
  (jr_aloadn 1487 1488 rfl rfl rfl
  (jr_aloadn 1488 1489 rfl rfl rfl
  (jr_iload 1489 1491 rfl rfl rfl
  (jr_iconst 1491 1492 (1 : Int32) rfl jc_i_1 rfl
  (jr_iadd 1492 1493 rfl rfl
  (jr_ia 1493 1494 rfl rfl (fun v4 =>
  jr_cVi 1494 1497 [] rfl rfl rfl rfl rfl rfl rfl rfl (as := [.int v4]) (F_Mod_fits_ok (Nat.le_trans (by decide : 5 ≤ 201) hd)) (fun v5 h6 =>
  jr_istore 1497 1499 [.ref l0, .ref l1, .ref l2, .ref l3, .int l4, .int v2, .int v5] rfl rfl rfl rfl
  (jr_aloadn 1499 1500 rfl rfl rfl
  (jr_cVi 1500 1503 [] rfl rfl rfl rfl rfl rfl rfl rfl (as := []) (F_Mod_thrown_ok (Nat.le_trans (by decide : 1 ≤ 201) hd)) (fun v7 h8 =>
  jr_iload 1503 1505 rfl rfl rfl
  (jr_icmp_eq 1505 1510 1508 rfl rfl rfl
  (jr_iload 1510 1512 rfl rfl rfl
  (jr_if_ne 1512 1527 1515 rfl rfl rfl
  ((F_Chk_law2_b1527_ok hd hk23))
  (jr_aloadn 1515 1516 rfl rfl rfl
  (jr_iconst 1516 1517 (0 : Int32) rfl jc_i_0 rfl
  (jr_la 1517 1518 rfl rfl (fun v9 =>
  jr_iload 1518 1520 rfl rfl rfl
  (jr_i2l 1520 1521 rfl rfl
  (jr_lcmp 1521 1522 rfl rfl
  (jr_if_eq 1522 1527 1525 rfl rfl rfl
  ((F_Chk_law2_b1527_ok hd hk23))
  (jr_iconst 1525 1526 (0 : Int32) rfl jc_i_0 rfl
  (jr_rz 1526 rfl rfl)))))))))))
  (jr_iconst 1508 1509 (0 : Int32) rfl jc_i_0 rfl
  (jr_rz 1509 rfl rfl))))))))))))))))))))))
noncomputable def F_Chk_law2_b1583 (k23 : Nat → Nat → Nat → Nat → Int32 → LH → Option (Int32 × LH)) (l0 : Nat) (l1 : Nat) (l2 : Nat) (l3 : Nat) (l4 : Int32) (h : LH) : Option (Int32 × LH) :=
 F_Chk_law2_b2405 k23 l0 l1 l2 l3 l4 h
set_option maxHeartbeats 8000000 in
set_option maxRecDepth 100000 in
theorem F_Chk_law2_b1583_ok {d : Nat} {q : (Int32 × LH)} {k23 : Nat → Nat → Nat → Nat → Int32 → LH → Option (Int32 × LH)} (hd : 201 ≤ d) (hk23 : ∀ (l0 : Nat) (l1 : Nat) (l2 : Nat) (l3 : Nat) (l4 : Int32) (u5 : Value) (u6 : Value) (h : LH), k23 l0 l1 l2 l3 l4 h = some q → JR d jM_320 23 [.ref l0, .ref l1, .ref l2, .ref l3, .int l4, u5, u6] [] h (jo_i q)) {l0 : Nat} {l1 : Nat} {l2 : Nat} {l3 : Nat} {l4 : Int32} {u5 : Value} {u6 : Value} {h : LH} : F_Chk_law2_b1583 k23 l0 l1 l2 l3 l4 h = some q → JR d jM_320 1583 [.ref l0, .ref l1, .ref l2, .ref l3, .int l4, u5, u6] [] h (jo_i q) := by
 unfold F_Chk_law2_b1583
 exact jr_goto 1583 2405 rfl rfl
  ((F_Chk_law2_b2405_ok hd hk23))
noncomputable def F_Chk_law2_b1530 (k23 : Nat → Nat → Nat → Nat → Int32 → LH → Option (Int32 × LH)) (l0 : Nat) (l1 : Nat) (l2 : Nat) (l3 : Nat) (l4 : Int32) (h : LH) : Option (Int32 × LH) :=
 jf_ia h l0 (l4 + (1 : Int32)) fun v1 =>
 jf_bi (F_Chk_nose l1 v1 l3 h) fun v2 h3 =>
 jf_ia h3 l0 (l4 + (1 : Int32)) fun v4 =>
 jf_kd h3 l2 11
 (jf_bi (F_Mod_nose l2 v4 h3) fun v5 h6 =>
 jf_kd h6 l2 11
 (jf_bi (F_Mod_thrown l2 h6) fun v7 h8 =>
 if v7 = v2 then
 if v2 = 0 then
 jf_la h8 l3 (0 : Int32) fun v9 =>
 if (lg_cmp v9 (v5).toInt64) = 0 then
 F_Chk_law2_b1583 k23 l0 l1 l2 l3 l4 h8
else
 jf_rz (0 : Int32) (some ((0 : Int32), h8))
else
 F_Chk_law2_b1583 k23 l0 l1 l2 l3 l4 h8
else
 jf_rz (0 : Int32) (some ((0 : Int32), h8))))
set_option maxHeartbeats 8000000 in
set_option maxRecDepth 100000 in
theorem F_Chk_law2_b1530_ok {d : Nat} {q : (Int32 × LH)} {k23 : Nat → Nat → Nat → Nat → Int32 → LH → Option (Int32 × LH)} (hd : 201 ≤ d) (hk23 : ∀ (l0 : Nat) (l1 : Nat) (l2 : Nat) (l3 : Nat) (l4 : Int32) (u5 : Value) (u6 : Value) (h : LH), k23 l0 l1 l2 l3 l4 h = some q → JR d jM_320 23 [.ref l0, .ref l1, .ref l2, .ref l3, .int l4, u5, u6] [] h (jo_i q)) {l0 : Nat} {l1 : Nat} {l2 : Nat} {l3 : Nat} {l4 : Int32} {u5 : Value} {u6 : Value} {h : LH} : F_Chk_law2_b1530 k23 l0 l1 l2 l3 l4 h = some q → JR d jM_320 1530 [.ref l0, .ref l1, .ref l2, .ref l3, .int l4, u5, u6] [] h (jo_i q) := by
 unfold F_Chk_law2_b1530
 exact jr_aloadn 1530 1531 rfl rfl rfl
  (jr_aloadn 1531 1532 rfl rfl rfl
  (jr_iload 1532 1534 rfl rfl rfl
  (jr_iconst 1534 1535 (1 : Int32) rfl jc_i_1 rfl
  (jr_iadd 1535 1536 rfl rfl
  (jr_ia 1536 1537 rfl rfl (fun v1 =>
  jr_aloadn 1537 1538 rfl rfl rfl
  (jr_cSi 1538 1541 [] rfl rfl rfl rfl rfl rfl rfl (as := [.ref l1, .int v1, .ref l3]) (F_Chk_nose_ok (Nat.le_trans (by decide : 6 ≤ 201) hd)) (fun v2 h3 =>
  jr_istore 1541 1543 [.ref l0, .ref l1, .ref l2, .ref l3, .int l4, .int v2, u6] rfl rfl rfl rfl
  (jr_aloadn 1543 1544 rfl rfl rfl
  (jr_aloadn 1544 1545 rfl rfl rfl
  (jr_iload 1545 1547 rfl rfl rfl
  (jr_iconst 1547 1548 (1 : Int32) rfl jc_i_1 rfl
  (jr_iadd 1548 1549 rfl rfl
  (jr_ia 1549 1550 rfl rfl (fun v4 =>
  jr_cVi 1550 1553 [] rfl rfl rfl rfl rfl rfl rfl rfl (as := [.int v4]) (F_Mod_nose_ok (Nat.le_trans (by decide : 6 ≤ 201) hd)) (fun v5 h6 =>
  jr_istore 1553 1555 [.ref l0, .ref l1, .ref l2, .ref l3, .int l4, .int v2, .int v5] rfl rfl rfl rfl
  (jr_aloadn 1555 1556 rfl rfl rfl
  (jr_cVi 1556 1559 [] rfl rfl rfl rfl rfl rfl rfl rfl (as := []) (F_Mod_thrown_ok (Nat.le_trans (by decide : 1 ≤ 201) hd)) (fun v7 h8 =>
  jr_iload 1559 1561 rfl rfl rfl
  (jr_icmp_eq 1561 1566 1564 rfl rfl rfl
  (jr_iload 1566 1568 rfl rfl rfl
  (jr_if_ne 1568 1583 1571 rfl rfl rfl
  ((F_Chk_law2_b1583_ok hd hk23))
  (jr_aloadn 1571 1572 rfl rfl rfl
  (jr_iconst 1572 1573 (0 : Int32) rfl jc_i_0 rfl
  (jr_la 1573 1574 rfl rfl (fun v9 =>
  jr_iload 1574 1576 rfl rfl rfl
  (jr_i2l 1576 1577 rfl rfl
  (jr_lcmp 1577 1578 rfl rfl
  (jr_if_eq 1578 1583 1581 rfl rfl rfl
  ((F_Chk_law2_b1583_ok hd hk23))
  (jr_iconst 1581 1582 (0 : Int32) rfl jc_i_0 rfl
  (jr_rz 1582 rfl rfl)))))))))))
  (jr_iconst 1564 1565 (0 : Int32) rfl jc_i_0 rfl
  (jr_rz 1565 rfl rfl))))))))))))))))))))))
noncomputable def F_Chk_law2_b1651 (k23 : Nat → Nat → Nat → Nat → Int32 → LH → Option (Int32 × LH)) (l0 : Nat) (l1 : Nat) (l2 : Nat) (l3 : Nat) (l4 : Int32) (h : LH) : Option (Int32 × LH) :=
 F_Chk_law2_b2405 k23 l0 l1 l2 l3 l4 h
set_option maxHeartbeats 8000000 in
set_option maxRecDepth 100000 in
theorem F_Chk_law2_b1651_ok {d : Nat} {q : (Int32 × LH)} {k23 : Nat → Nat → Nat → Nat → Int32 → LH → Option (Int32 × LH)} (hd : 201 ≤ d) (hk23 : ∀ (l0 : Nat) (l1 : Nat) (l2 : Nat) (l3 : Nat) (l4 : Int32) (u5 : Value) (u6 : Value) (h : LH), k23 l0 l1 l2 l3 l4 h = some q → JR d jM_320 23 [.ref l0, .ref l1, .ref l2, .ref l3, .int l4, u5, u6] [] h (jo_i q)) {l0 : Nat} {l1 : Nat} {l2 : Nat} {l3 : Nat} {l4 : Int32} {u5 : Value} {u6 : Value} {h : LH} : F_Chk_law2_b1651 k23 l0 l1 l2 l3 l4 h = some q → JR d jM_320 1651 [.ref l0, .ref l1, .ref l2, .ref l3, .int l4, u5, u6] [] h (jo_i q) := by
 unfold F_Chk_law2_b1651
 exact jr_goto 1651 2405 rfl rfl
  ((F_Chk_law2_b2405_ok hd hk23))
noncomputable def F_Chk_law2_b1586 (k23 : Nat → Nat → Nat → Nat → Int32 → LH → Option (Int32 × LH)) (l0 : Nat) (l1 : Nat) (l2 : Nat) (l3 : Nat) (l4 : Int32) (h : LH) : Option (Int32 × LH) :=
 jf_ia h l0 (l4 + (1 : Int32)) fun v1 =>
 jf_ia h l0 (l4 + (2 : Int32)) fun v2 =>
 jf_bi (F_Chk_siege l1 v1 v2 l3 h) fun v3 h4 =>
 jf_ia h4 l0 (l4 + (1 : Int32)) fun v5 =>
 jf_ia h4 l0 (l4 + (2 : Int32)) fun v6 =>
 jf_kd h4 l2 11
 (jf_bi (F_Mod_siege l2 v5 v6 h4) fun v7 h8 =>
 jf_kd h8 l2 11
 (jf_bi (F_Mod_thrown l2 h8) fun v9 h10 =>
 if v9 = v3 then
 if v3 = 0 then
 jf_la h10 l3 (0 : Int32) fun v11 =>
 if (lg_cmp v11 (v7).toInt64) = 0 then
 F_Chk_law2_b1651 k23 l0 l1 l2 l3 l4 h10
else
 jf_rz (0 : Int32) (some ((0 : Int32), h10))
else
 F_Chk_law2_b1651 k23 l0 l1 l2 l3 l4 h10
else
 jf_rz (0 : Int32) (some ((0 : Int32), h10))))
set_option maxHeartbeats 8000000 in
set_option maxRecDepth 100000 in
theorem F_Chk_law2_b1586_ok {d : Nat} {q : (Int32 × LH)} {k23 : Nat → Nat → Nat → Nat → Int32 → LH → Option (Int32 × LH)} (hd : 201 ≤ d) (hk23 : ∀ (l0 : Nat) (l1 : Nat) (l2 : Nat) (l3 : Nat) (l4 : Int32) (u5 : Value) (u6 : Value) (h : LH), k23 l0 l1 l2 l3 l4 h = some q → JR d jM_320 23 [.ref l0, .ref l1, .ref l2, .ref l3, .int l4, u5, u6] [] h (jo_i q)) {l0 : Nat} {l1 : Nat} {l2 : Nat} {l3 : Nat} {l4 : Int32} {u5 : Value} {u6 : Value} {h : LH} : F_Chk_law2_b1586 k23 l0 l1 l2 l3 l4 h = some q → JR d jM_320 1586 [.ref l0, .ref l1, .ref l2, .ref l3, .int l4, u5, u6] [] h (jo_i q) := by
 unfold F_Chk_law2_b1586
 exact jr_aloadn 1586 1587 rfl rfl rfl
  (jr_aloadn 1587 1588 rfl rfl rfl
  (jr_iload 1588 1590 rfl rfl rfl
  (jr_iconst 1590 1591 (1 : Int32) rfl jc_i_1 rfl
  (jr_iadd 1591 1592 rfl rfl
  (jr_ia 1592 1593 rfl rfl (fun v1 =>
  jr_aloadn 1593 1594 rfl rfl rfl
  (jr_iload 1594 1596 rfl rfl rfl
  (jr_iconst 1596 1597 (2 : Int32) rfl jc_i_2 rfl
  (jr_iadd 1597 1598 rfl rfl
  (jr_ia 1598 1599 rfl rfl (fun v2 =>
  jr_aloadn 1599 1600 rfl rfl rfl
  (jr_cSi 1600 1603 [] rfl rfl rfl rfl rfl rfl rfl (as := [.ref l1, .int v1, .int v2, .ref l3]) (F_Chk_siege_ok (Nat.le_trans (by decide : 4 ≤ 201) hd)) (fun v3 h4 =>
  jr_istore 1603 1605 [.ref l0, .ref l1, .ref l2, .ref l3, .int l4, .int v3, u6] rfl rfl rfl rfl
  (jr_aloadn 1605 1606 rfl rfl rfl
  (jr_aloadn 1606 1607 rfl rfl rfl
  (jr_iload 1607 1609 rfl rfl rfl
  (jr_iconst 1609 1610 (1 : Int32) rfl jc_i_1 rfl
  (jr_iadd 1610 1611 rfl rfl
  (jr_ia 1611 1612 rfl rfl (fun v5 =>
  jr_aloadn 1612 1613 rfl rfl rfl
  (jr_iload 1613 1615 rfl rfl rfl
  (jr_iconst 1615 1616 (2 : Int32) rfl jc_i_2 rfl
  (jr_iadd 1616 1617 rfl rfl
  (jr_ia 1617 1618 rfl rfl (fun v6 =>
  jr_cVi 1618 1621 [] rfl rfl rfl rfl rfl rfl rfl rfl (as := [.int v5, .int v6]) (F_Mod_siege_ok (Nat.le_trans (by decide : 2 ≤ 201) hd)) (fun v7 h8 =>
  jr_istore 1621 1623 [.ref l0, .ref l1, .ref l2, .ref l3, .int l4, .int v3, .int v7] rfl rfl rfl rfl
  (jr_aloadn 1623 1624 rfl rfl rfl
  (jr_cVi 1624 1627 [] rfl rfl rfl rfl rfl rfl rfl rfl (as := []) (F_Mod_thrown_ok (Nat.le_trans (by decide : 1 ≤ 201) hd)) (fun v9 h10 =>
  jr_iload 1627 1629 rfl rfl rfl
  (jr_icmp_eq 1629 1634 1632 rfl rfl rfl
  (jr_iload 1634 1636 rfl rfl rfl
  (jr_if_ne 1636 1651 1639 rfl rfl rfl
  ((F_Chk_law2_b1651_ok hd hk23))
  (jr_aloadn 1639 1640 rfl rfl rfl
  (jr_iconst 1640 1641 (0 : Int32) rfl jc_i_0 rfl
  (jr_la 1641 1642 rfl rfl (fun v11 =>
  jr_iload 1642 1644 rfl rfl rfl
  (jr_i2l 1644 1645 rfl rfl
  (jr_lcmp 1645 1646 rfl rfl
  (jr_if_eq 1646 1651 1649 rfl rfl rfl
  ((F_Chk_law2_b1651_ok hd hk23))
  (jr_iconst 1649 1650 (0 : Int32) rfl jc_i_0 rfl
  (jr_rz 1650 rfl rfl)))))))))))
  (jr_iconst 1632 1633 (0 : Int32) rfl jc_i_0 rfl
  (jr_rz 1633 rfl rfl))))))))))))))))))))))))))))))))
noncomputable def F_Chk_law2_b1719 (k23 : Nat → Nat → Nat → Nat → Int32 → LH → Option (Int32 × LH)) (l0 : Nat) (l1 : Nat) (l2 : Nat) (l3 : Nat) (l4 : Int32) (h : LH) : Option (Int32 × LH) :=
 F_Chk_law2_b2405 k23 l0 l1 l2 l3 l4 h
set_option maxHeartbeats 8000000 in
set_option maxRecDepth 100000 in
theorem F_Chk_law2_b1719_ok {d : Nat} {q : (Int32 × LH)} {k23 : Nat → Nat → Nat → Nat → Int32 → LH → Option (Int32 × LH)} (hd : 201 ≤ d) (hk23 : ∀ (l0 : Nat) (l1 : Nat) (l2 : Nat) (l3 : Nat) (l4 : Int32) (u5 : Value) (u6 : Value) (h : LH), k23 l0 l1 l2 l3 l4 h = some q → JR d jM_320 23 [.ref l0, .ref l1, .ref l2, .ref l3, .int l4, u5, u6] [] h (jo_i q)) {l0 : Nat} {l1 : Nat} {l2 : Nat} {l3 : Nat} {l4 : Int32} {u5 : Value} {u6 : Value} {h : LH} : F_Chk_law2_b1719 k23 l0 l1 l2 l3 l4 h = some q → JR d jM_320 1719 [.ref l0, .ref l1, .ref l2, .ref l3, .int l4, u5, u6] [] h (jo_i q) := by
 unfold F_Chk_law2_b1719
 exact jr_goto 1719 2405 rfl rfl
  ((F_Chk_law2_b2405_ok hd hk23))
noncomputable def F_Chk_law2_b1654 (k23 : Nat → Nat → Nat → Nat → Int32 → LH → Option (Int32 × LH)) (l0 : Nat) (l1 : Nat) (l2 : Nat) (l3 : Nat) (l4 : Int32) (h : LH) : Option (Int32 × LH) :=
 jf_ia h l0 (l4 + (1 : Int32)) fun v1 =>
 jf_ia h l0 (l4 + (2 : Int32)) fun v2 =>
 jf_bi (F_Chk_distance l1 v1 v2 l3 h) fun v3 h4 =>
 jf_ia h4 l0 (l4 + (1 : Int32)) fun v5 =>
 jf_ia h4 l0 (l4 + (2 : Int32)) fun v6 =>
 jf_kd h4 l2 11
 (jf_bi (F_Mod_distance l2 v5 v6 h4) fun v7 h8 =>
 jf_kd h8 l2 11
 (jf_bi (F_Mod_thrown l2 h8) fun v9 h10 =>
 if v9 = v3 then
 if v3 = 0 then
 jf_la h10 l3 (0 : Int32) fun v11 =>
 if (lg_cmp v11 (v7).toInt64) = 0 then
 F_Chk_law2_b1719 k23 l0 l1 l2 l3 l4 h10
else
 jf_rz (0 : Int32) (some ((0 : Int32), h10))
else
 F_Chk_law2_b1719 k23 l0 l1 l2 l3 l4 h10
else
 jf_rz (0 : Int32) (some ((0 : Int32), h10))))
set_option maxHeartbeats 8000000 in
set_option maxRecDepth 100000 in
theorem F_Chk_law2_b1654_ok {d : Nat} {q : (Int32 × LH)} {k23 : Nat → Nat → Nat → Nat → Int32 → LH → Option (Int32 × LH)} (hd : 201 ≤ d) (hk23 : ∀ (l0 : Nat) (l1 : Nat) (l2 : Nat) (l3 : Nat) (l4 : Int32) (u5 : Value) (u6 : Value) (h : LH), k23 l0 l1 l2 l3 l4 h = some q → JR d jM_320 23 [.ref l0, .ref l1, .ref l2, .ref l3, .int l4, u5, u6] [] h (jo_i q)) {l0 : Nat} {l1 : Nat} {l2 : Nat} {l3 : Nat} {l4 : Int32} {u5 : Value} {u6 : Value} {h : LH} : F_Chk_law2_b1654 k23 l0 l1 l2 l3 l4 h = some q → JR d jM_320 1654 [.ref l0, .ref l1, .ref l2, .ref l3, .int l4, u5, u6] [] h (jo_i q) := by
 unfold F_Chk_law2_b1654
 exact jr_aloadn 1654 1655 rfl rfl rfl
  (jr_aloadn 1655 1656 rfl rfl rfl
  (jr_iload 1656 1658 rfl rfl rfl
  (jr_iconst 1658 1659 (1 : Int32) rfl jc_i_1 rfl
  (jr_iadd 1659 1660 rfl rfl
  (jr_ia 1660 1661 rfl rfl (fun v1 =>
  jr_aloadn 1661 1662 rfl rfl rfl
  (jr_iload 1662 1664 rfl rfl rfl
  (jr_iconst 1664 1665 (2 : Int32) rfl jc_i_2 rfl
  (jr_iadd 1665 1666 rfl rfl
  (jr_ia 1666 1667 rfl rfl (fun v2 =>
  jr_aloadn 1667 1668 rfl rfl rfl
  (jr_cSi 1668 1671 [] rfl rfl rfl rfl rfl rfl rfl (as := [.ref l1, .int v1, .int v2, .ref l3]) (F_Chk_distance_ok (Nat.le_trans (by decide : 3 ≤ 201) hd)) (fun v3 h4 =>
  jr_istore 1671 1673 [.ref l0, .ref l1, .ref l2, .ref l3, .int l4, .int v3, u6] rfl rfl rfl rfl
  (jr_aloadn 1673 1674 rfl rfl rfl
  (jr_aloadn 1674 1675 rfl rfl rfl
  (jr_iload 1675 1677 rfl rfl rfl
  (jr_iconst 1677 1678 (1 : Int32) rfl jc_i_1 rfl
  (jr_iadd 1678 1679 rfl rfl
  (jr_ia 1679 1680 rfl rfl (fun v5 =>
  jr_aloadn 1680 1681 rfl rfl rfl
  (jr_iload 1681 1683 rfl rfl rfl
  (jr_iconst 1683 1684 (2 : Int32) rfl jc_i_2 rfl
  (jr_iadd 1684 1685 rfl rfl
  (jr_ia 1685 1686 rfl rfl (fun v6 =>
  jr_cVi 1686 1689 [] rfl rfl rfl rfl rfl rfl rfl rfl (as := [.int v5, .int v6]) (F_Mod_distance_ok (Nat.le_trans (by decide : 3 ≤ 201) hd)) (fun v7 h8 =>
  jr_istore 1689 1691 [.ref l0, .ref l1, .ref l2, .ref l3, .int l4, .int v3, .int v7] rfl rfl rfl rfl
  (jr_aloadn 1691 1692 rfl rfl rfl
  (jr_cVi 1692 1695 [] rfl rfl rfl rfl rfl rfl rfl rfl (as := []) (F_Mod_thrown_ok (Nat.le_trans (by decide : 1 ≤ 201) hd)) (fun v9 h10 =>
  jr_iload 1695 1697 rfl rfl rfl
  (jr_icmp_eq 1697 1702 1700 rfl rfl rfl
  (jr_iload 1702 1704 rfl rfl rfl
  (jr_if_ne 1704 1719 1707 rfl rfl rfl
  ((F_Chk_law2_b1719_ok hd hk23))
  (jr_aloadn 1707 1708 rfl rfl rfl
  (jr_iconst 1708 1709 (0 : Int32) rfl jc_i_0 rfl
  (jr_la 1709 1710 rfl rfl (fun v11 =>
  jr_iload 1710 1712 rfl rfl rfl
  (jr_i2l 1712 1713 rfl rfl
  (jr_lcmp 1713 1714 rfl rfl
  (jr_if_eq 1714 1719 1717 rfl rfl rfl
  ((F_Chk_law2_b1719_ok hd hk23))
  (jr_iconst 1717 1718 (0 : Int32) rfl jc_i_0 rfl
  (jr_rz 1718 rfl rfl)))))))))))
  (jr_iconst 1700 1701 (0 : Int32) rfl jc_i_0 rfl
  (jr_rz 1701 rfl rfl))))))))))))))))))))))))))))))))
noncomputable def F_Chk_law2_b1722 (k23 : Nat → Nat → Nat → Nat → Int32 → LH → Option (Int32 × LH)) (l0 : Nat) (l1 : Nat) (l2 : Nat) (l3 : Nat) (l4 : Int32) (h : LH) : Option (Int32 × LH) :=
 jf_kd h l1 10
 (jf_bi (F_SG_closest l1 h) fun v1 h2 =>
 jf_kd h2 l2 11
 (jf_bi (F_Mod_closest l2 h2) fun v3 h4 =>
 if v1 = v3 then
 F_Chk_law2_b2405 k23 l0 l1 l2 l3 l4 h4
else
 jf_rz (0 : Int32) (some ((0 : Int32), h4))))
set_option maxHeartbeats 8000000 in
set_option maxRecDepth 100000 in
theorem F_Chk_law2_b1722_ok {d : Nat} {q : (Int32 × LH)} {k23 : Nat → Nat → Nat → Nat → Int32 → LH → Option (Int32 × LH)} (hd : 201 ≤ d) (hk23 : ∀ (l0 : Nat) (l1 : Nat) (l2 : Nat) (l3 : Nat) (l4 : Int32) (u5 : Value) (u6 : Value) (h : LH), k23 l0 l1 l2 l3 l4 h = some q → JR d jM_320 23 [.ref l0, .ref l1, .ref l2, .ref l3, .int l4, u5, u6] [] h (jo_i q)) {l0 : Nat} {l1 : Nat} {l2 : Nat} {l3 : Nat} {l4 : Int32} {u5 : Value} {u6 : Value} {h : LH} : F_Chk_law2_b1722 k23 l0 l1 l2 l3 l4 h = some q → JR d jM_320 1722 [.ref l0, .ref l1, .ref l2, .ref l3, .int l4, u5, u6] [] h (jo_i q) := by
 unfold F_Chk_law2_b1722
 exact jr_aloadn 1722 1723 rfl rfl rfl
  (jr_cVi 1723 1726 [] rfl rfl rfl rfl rfl rfl rfl rfl (as := []) (F_SG_closest_ok (Nat.le_trans (by decide : 2 ≤ 201) hd)) (fun v1 h2 =>
  jr_aloadn 1726 1727 rfl rfl rfl
  (jr_cVi 1727 1730 [.int v1] rfl rfl rfl rfl rfl rfl rfl rfl (as := []) (F_Mod_closest_ok (Nat.le_trans (by decide : 3 ≤ 201) hd)) (fun v3 h4 =>
  jr_icmp_eq 1730 2405 1733 rfl rfl rfl
  ((F_Chk_law2_b2405_ok hd hk23))
  (jr_iconst 1733 1734 (0 : Int32) rfl jc_i_0 rfl
  (jr_rz 1734 rfl rfl))))))
noncomputable def F_Chk_law2_b1788 (k23 : Nat → Nat → Nat → Nat → Int32 → LH → Option (Int32 × LH)) (l0 : Nat) (l1 : Nat) (l2 : Nat) (l3 : Nat) (l4 : Int32) (h : LH) : Option (Int32 × LH) :=
 F_Chk_law2_b2405 k23 l0 l1 l2 l3 l4 h
set_option maxHeartbeats 8000000 in
set_option maxRecDepth 100000 in
theorem F_Chk_law2_b1788_ok {d : Nat} {q : (Int32 × LH)} {k23 : Nat → Nat → Nat → Nat → Int32 → LH → Option (Int32 × LH)} (hd : 201 ≤ d) (hk23 : ∀ (l0 : Nat) (l1 : Nat) (l2 : Nat) (l3 : Nat) (l4 : Int32) (u5 : Value) (u6 : Value) (h : LH), k23 l0 l1 l2 l3 l4 h = some q → JR d jM_320 23 [.ref l0, .ref l1, .ref l2, .ref l3, .int l4, u5, u6] [] h (jo_i q)) {l0 : Nat} {l1 : Nat} {l2 : Nat} {l3 : Nat} {l4 : Int32} {u5 : Value} {u6 : Value} {h : LH} : F_Chk_law2_b1788 k23 l0 l1 l2 l3 l4 h = some q → JR d jM_320 1788 [.ref l0, .ref l1, .ref l2, .ref l3, .int l4, u5, u6] [] h (jo_i q) := by
 unfold F_Chk_law2_b1788
 exact jr_goto 1788 2405 rfl rfl
  ((F_Chk_law2_b2405_ok hd hk23))
noncomputable def F_Chk_law2_b1735 (k23 : Nat → Nat → Nat → Nat → Int32 → LH → Option (Int32 × LH)) (l0 : Nat) (l1 : Nat) (l2 : Nat) (l3 : Nat) (l4 : Int32) (h : LH) : Option (Int32 × LH) :=
 jf_ia h l0 (l4 + (1 : Int32)) fun v1 =>
 jf_bi (F_Chk_read l1 v1 l3 h) fun v2 h3 =>
 jf_ia h3 l0 (l4 + (1 : Int32)) fun v4 =>
 jf_kd h3 l2 11
 (jf_bi (F_Mod_read l2 v4 h3) fun v5 h6 =>
 jf_kd h6 l2 11
 (jf_bi (F_Mod_thrown l2 h6) fun v7 h8 =>
 if v7 = v2 then
 if v2 = 0 then
 jf_la h8 l3 (0 : Int32) fun v9 =>
 if (lg_cmp v9 (v5).toInt64) = 0 then
 F_Chk_law2_b1788 k23 l0 l1 l2 l3 l4 h8
else
 jf_rz (0 : Int32) (some ((0 : Int32), h8))
else
 F_Chk_law2_b1788 k23 l0 l1 l2 l3 l4 h8
else
 jf_rz (0 : Int32) (some ((0 : Int32), h8))))
set_option maxHeartbeats 8000000 in
set_option maxRecDepth 100000 in
theorem F_Chk_law2_b1735_ok {d : Nat} {q : (Int32 × LH)} {k23 : Nat → Nat → Nat → Nat → Int32 → LH → Option (Int32 × LH)} (hd : 201 ≤ d) (hk23 : ∀ (l0 : Nat) (l1 : Nat) (l2 : Nat) (l3 : Nat) (l4 : Int32) (u5 : Value) (u6 : Value) (h : LH), k23 l0 l1 l2 l3 l4 h = some q → JR d jM_320 23 [.ref l0, .ref l1, .ref l2, .ref l3, .int l4, u5, u6] [] h (jo_i q)) {l0 : Nat} {l1 : Nat} {l2 : Nat} {l3 : Nat} {l4 : Int32} {u5 : Value} {u6 : Value} {h : LH} : F_Chk_law2_b1735 k23 l0 l1 l2 l3 l4 h = some q → JR d jM_320 1735 [.ref l0, .ref l1, .ref l2, .ref l3, .int l4, u5, u6] [] h (jo_i q) := by
 unfold F_Chk_law2_b1735
 exact jr_aloadn 1735 1736 rfl rfl rfl
  (jr_aloadn 1736 1737 rfl rfl rfl
  (jr_iload 1737 1739 rfl rfl rfl
  (jr_iconst 1739 1740 (1 : Int32) rfl jc_i_1 rfl
  (jr_iadd 1740 1741 rfl rfl
  (jr_ia 1741 1742 rfl rfl (fun v1 =>
  jr_aloadn 1742 1743 rfl rfl rfl
  (jr_cSi 1743 1746 [] rfl rfl rfl rfl rfl rfl rfl (as := [.ref l1, .int v1, .ref l3]) (F_Chk_read_ok (Nat.le_trans (by decide : 4 ≤ 201) hd)) (fun v2 h3 =>
  jr_istore 1746 1748 [.ref l0, .ref l1, .ref l2, .ref l3, .int l4, .int v2, u6] rfl rfl rfl rfl
  (jr_aloadn 1748 1749 rfl rfl rfl
  (jr_aloadn 1749 1750 rfl rfl rfl
  (jr_iload 1750 1752 rfl rfl rfl
  (jr_iconst 1752 1753 (1 : Int32) rfl jc_i_1 rfl
  (jr_iadd 1753 1754 rfl rfl
  (jr_ia 1754 1755 rfl rfl (fun v4 =>
  jr_cVi 1755 1758 [] rfl rfl rfl rfl rfl rfl rfl rfl (as := [.int v4]) (F_Mod_read_ok (Nat.le_trans (by decide : 4 ≤ 201) hd)) (fun v5 h6 =>
  jr_istore 1758 1760 [.ref l0, .ref l1, .ref l2, .ref l3, .int l4, .int v2, .int v5] rfl rfl rfl rfl
  (jr_aloadn 1760 1761 rfl rfl rfl
  (jr_cVi 1761 1764 [] rfl rfl rfl rfl rfl rfl rfl rfl (as := []) (F_Mod_thrown_ok (Nat.le_trans (by decide : 1 ≤ 201) hd)) (fun v7 h8 =>
  jr_iload 1764 1766 rfl rfl rfl
  (jr_icmp_eq 1766 1771 1769 rfl rfl rfl
  (jr_iload 1771 1773 rfl rfl rfl
  (jr_if_ne 1773 1788 1776 rfl rfl rfl
  ((F_Chk_law2_b1788_ok hd hk23))
  (jr_aloadn 1776 1777 rfl rfl rfl
  (jr_iconst 1777 1778 (0 : Int32) rfl jc_i_0 rfl
  (jr_la 1778 1779 rfl rfl (fun v9 =>
  jr_iload 1779 1781 rfl rfl rfl
  (jr_i2l 1781 1782 rfl rfl
  (jr_lcmp 1782 1783 rfl rfl
  (jr_if_eq 1783 1788 1786 rfl rfl rfl
  ((F_Chk_law2_b1788_ok hd hk23))
  (jr_iconst 1786 1787 (0 : Int32) rfl jc_i_0 rfl
  (jr_rz 1787 rfl rfl)))))))))))
  (jr_iconst 1769 1770 (0 : Int32) rfl jc_i_0 rfl
  (jr_rz 1770 rfl rfl))))))))))))))))))))))
noncomputable def F_Chk_law2_b1791 (k23 : Nat → Nat → Nat → Nat → Int32 → LH → Option (Int32 × LH)) (l0 : Nat) (l1 : Nat) (l2 : Nat) (l3 : Nat) (l4 : Int32) (h : LH) : Option (Int32 × LH) :=
 jf_kd h l1 10
 (jf_bi (F_SG_seems l1 h) fun v1 h2 =>
 jf_kd h2 l2 11
 (jf_bi (F_Mod_seems l2 h2) fun v3 h4 =>
 if v1 = v3 then
 F_Chk_law2_b2405 k23 l0 l1 l2 l3 l4 h4
else
 jf_rz (0 : Int32) (some ((0 : Int32), h4))))
set_option maxHeartbeats 8000000 in
set_option maxRecDepth 100000 in
theorem F_Chk_law2_b1791_ok {d : Nat} {q : (Int32 × LH)} {k23 : Nat → Nat → Nat → Nat → Int32 → LH → Option (Int32 × LH)} (hd : 201 ≤ d) (hk23 : ∀ (l0 : Nat) (l1 : Nat) (l2 : Nat) (l3 : Nat) (l4 : Int32) (u5 : Value) (u6 : Value) (h : LH), k23 l0 l1 l2 l3 l4 h = some q → JR d jM_320 23 [.ref l0, .ref l1, .ref l2, .ref l3, .int l4, u5, u6] [] h (jo_i q)) {l0 : Nat} {l1 : Nat} {l2 : Nat} {l3 : Nat} {l4 : Int32} {u5 : Value} {u6 : Value} {h : LH} : F_Chk_law2_b1791 k23 l0 l1 l2 l3 l4 h = some q → JR d jM_320 1791 [.ref l0, .ref l1, .ref l2, .ref l3, .int l4, u5, u6] [] h (jo_i q) := by
 unfold F_Chk_law2_b1791
 exact jr_aloadn 1791 1792 rfl rfl rfl
  (jr_cVi 1792 1795 [] rfl rfl rfl rfl rfl rfl rfl rfl (as := []) (F_SG_seems_ok (Nat.le_trans (by decide : 3 ≤ 201) hd)) (fun v1 h2 =>
  jr_aloadn 1795 1796 rfl rfl rfl
  (jr_cVi 1796 1799 [.int v1] rfl rfl rfl rfl rfl rfl rfl rfl (as := []) (F_Mod_seems_ok (Nat.le_trans (by decide : 4 ≤ 201) hd)) (fun v3 h4 =>
  jr_icmp_eq 1799 2405 1802 rfl rfl rfl
  ((F_Chk_law2_b2405_ok hd hk23))
  (jr_iconst 1802 1803 (0 : Int32) rfl jc_i_0 rfl
  (jr_rz 1803 rfl rfl))))))
noncomputable def F_Chk_law2_b1881 (k23 : Nat → Nat → Nat → Nat → Int32 → LH → Option (Int32 × LH)) (l0 : Nat) (l1 : Nat) (l2 : Nat) (l3 : Nat) (l4 : Int32) (h : LH) : Option (Int32 × LH) :=
 F_Chk_law2_b2405 k23 l0 l1 l2 l3 l4 h
set_option maxHeartbeats 8000000 in
set_option maxRecDepth 100000 in
theorem F_Chk_law2_b1881_ok {d : Nat} {q : (Int32 × LH)} {k23 : Nat → Nat → Nat → Nat → Int32 → LH → Option (Int32 × LH)} (hd : 201 ≤ d) (hk23 : ∀ (l0 : Nat) (l1 : Nat) (l2 : Nat) (l3 : Nat) (l4 : Int32) (u5 : Value) (u6 : Value) (h : LH), k23 l0 l1 l2 l3 l4 h = some q → JR d jM_320 23 [.ref l0, .ref l1, .ref l2, .ref l3, .int l4, u5, u6] [] h (jo_i q)) {l0 : Nat} {l1 : Nat} {l2 : Nat} {l3 : Nat} {l4 : Int32} {u5 : Value} {u6 : Value} {h : LH} : F_Chk_law2_b1881 k23 l0 l1 l2 l3 l4 h = some q → JR d jM_320 1881 [.ref l0, .ref l1, .ref l2, .ref l3, .int l4, u5, u6] [] h (jo_i q) := by
 unfold F_Chk_law2_b1881
 exact jr_goto 1881 2405 rfl rfl
  ((F_Chk_law2_b2405_ok hd hk23))
noncomputable def F_Chk_law2_b1804 (k23 : Nat → Nat → Nat → Nat → Int32 → LH → Option (Int32 × LH)) (l0 : Nat) (l1 : Nat) (l2 : Nat) (l3 : Nat) (l4 : Int32) (h : LH) : Option (Int32 × LH) :=
 jf_ia h l0 (l4 + (1 : Int32)) fun v1 =>
 jf_ia h l0 (l4 + (2 : Int32)) fun v2 =>
 jf_ia h l0 (l4 + (3 : Int32)) fun v3 =>
 jf_bi (F_Chk_share l1 v1 v2 v3 l3 h) fun v4 h5 =>
 jf_ia h5 l0 (l4 + (1 : Int32)) fun v6 =>
 jf_ia h5 l0 (l4 + (2 : Int32)) fun v7 =>
 jf_ia h5 l0 (l4 + (3 : Int32)) fun v8 =>
 jf_kd h5 l2 11
 (jf_bi (F_Mod_share l2 v6 v7 v8 h5) fun v9 h10 =>
 jf_kd h10 l2 11
 (jf_bi (F_Mod_thrown l2 h10) fun v11 h12 =>
 if v11 = v4 then
 if v4 = 0 then
 jf_la h12 l3 (0 : Int32) fun v13 =>
 if (lg_cmp v13 (v9).toInt64) = 0 then
 F_Chk_law2_b1881 k23 l0 l1 l2 l3 l4 h12
else
 jf_rz (0 : Int32) (some ((0 : Int32), h12))
else
 F_Chk_law2_b1881 k23 l0 l1 l2 l3 l4 h12
else
 jf_rz (0 : Int32) (some ((0 : Int32), h12))))
set_option maxHeartbeats 8000000 in
set_option maxRecDepth 100000 in
theorem F_Chk_law2_b1804_ok {d : Nat} {q : (Int32 × LH)} {k23 : Nat → Nat → Nat → Nat → Int32 → LH → Option (Int32 × LH)} (hd : 201 ≤ d) (hk23 : ∀ (l0 : Nat) (l1 : Nat) (l2 : Nat) (l3 : Nat) (l4 : Int32) (u5 : Value) (u6 : Value) (h : LH), k23 l0 l1 l2 l3 l4 h = some q → JR d jM_320 23 [.ref l0, .ref l1, .ref l2, .ref l3, .int l4, u5, u6] [] h (jo_i q)) {l0 : Nat} {l1 : Nat} {l2 : Nat} {l3 : Nat} {l4 : Int32} {u5 : Value} {u6 : Value} {h : LH} : F_Chk_law2_b1804 k23 l0 l1 l2 l3 l4 h = some q → JR d jM_320 1804 [.ref l0, .ref l1, .ref l2, .ref l3, .int l4, u5, u6] [] h (jo_i q) := by
 unfold F_Chk_law2_b1804
 exact jr_aloadn 1804 1805 rfl rfl rfl
  (jr_aloadn 1805 1806 rfl rfl rfl
  (jr_iload 1806 1808 rfl rfl rfl
  (jr_iconst 1808 1809 (1 : Int32) rfl jc_i_1 rfl
  (jr_iadd 1809 1810 rfl rfl
  (jr_ia 1810 1811 rfl rfl (fun v1 =>
  jr_aloadn 1811 1812 rfl rfl rfl
  (jr_iload 1812 1814 rfl rfl rfl
  (jr_iconst 1814 1815 (2 : Int32) rfl jc_i_2 rfl
  (jr_iadd 1815 1816 rfl rfl
  (jr_ia 1816 1817 rfl rfl (fun v2 =>
  jr_aloadn 1817 1818 rfl rfl rfl
  (jr_iload 1818 1820 rfl rfl rfl
  (jr_iconst 1820 1821 (3 : Int32) rfl jc_i_3 rfl
  (jr_iadd 1821 1822 rfl rfl
  (jr_ia 1822 1823 rfl rfl (fun v3 =>
  jr_aloadn 1823 1824 rfl rfl rfl
  (jr_cSi 1824 1827 [] rfl rfl rfl rfl rfl rfl rfl (as := [.ref l1, .int v1, .int v2, .int v3, .ref l3]) (F_Chk_share_ok (Nat.le_trans (by decide : 4 ≤ 201) hd)) (fun v4 h5 =>
  jr_istore 1827 1829 [.ref l0, .ref l1, .ref l2, .ref l3, .int l4, .int v4, u6] rfl rfl rfl rfl
  (jr_aloadn 1829 1830 rfl rfl rfl
  (jr_aloadn 1830 1831 rfl rfl rfl
  (jr_iload 1831 1833 rfl rfl rfl
  (jr_iconst 1833 1834 (1 : Int32) rfl jc_i_1 rfl
  (jr_iadd 1834 1835 rfl rfl
  (jr_ia 1835 1836 rfl rfl (fun v6 =>
  jr_aloadn 1836 1837 rfl rfl rfl
  (jr_iload 1837 1839 rfl rfl rfl
  (jr_iconst 1839 1840 (2 : Int32) rfl jc_i_2 rfl
  (jr_iadd 1840 1841 rfl rfl
  (jr_ia 1841 1842 rfl rfl (fun v7 =>
  jr_aloadn 1842 1843 rfl rfl rfl
  (jr_iload 1843 1845 rfl rfl rfl
  (jr_iconst 1845 1846 (3 : Int32) rfl jc_i_3 rfl
  (jr_iadd 1846 1847 rfl rfl
  (jr_ia 1847 1848 rfl rfl (fun v8 =>
  jr_cVi 1848 1851 [] rfl rfl rfl rfl rfl rfl rfl rfl (as := [.int v6, .int v7, .int v8]) (F_Mod_share_ok (Nat.le_trans (by decide : 3 ≤ 201) hd)) (fun v9 h10 =>
  jr_istore 1851 1853 [.ref l0, .ref l1, .ref l2, .ref l3, .int l4, .int v4, .int v9] rfl rfl rfl rfl
  (jr_aloadn 1853 1854 rfl rfl rfl
  (jr_cVi 1854 1857 [] rfl rfl rfl rfl rfl rfl rfl rfl (as := []) (F_Mod_thrown_ok (Nat.le_trans (by decide : 1 ≤ 201) hd)) (fun v11 h12 =>
  jr_iload 1857 1859 rfl rfl rfl
  (jr_icmp_eq 1859 1864 1862 rfl rfl rfl
  (jr_iload 1864 1866 rfl rfl rfl
  (jr_if_ne 1866 1881 1869 rfl rfl rfl
  ((F_Chk_law2_b1881_ok hd hk23))
  (jr_aloadn 1869 1870 rfl rfl rfl
  (jr_iconst 1870 1871 (0 : Int32) rfl jc_i_0 rfl
  (jr_la 1871 1872 rfl rfl (fun v13 =>
  jr_iload 1872 1874 rfl rfl rfl
  (jr_i2l 1874 1875 rfl rfl
  (jr_lcmp 1875 1876 rfl rfl
  (jr_if_eq 1876 1881 1879 rfl rfl rfl
  ((F_Chk_law2_b1881_ok hd hk23))
  (jr_iconst 1879 1880 (0 : Int32) rfl jc_i_0 rfl
  (jr_rz 1880 rfl rfl)))))))))))
  (jr_iconst 1862 1863 (0 : Int32) rfl jc_i_0 rfl
  (jr_rz 1863 rfl rfl))))))))))))))))))))))))))))))))))))))))))
noncomputable def F_Chk_law2_b1937 (k23 : Nat → Nat → Nat → Nat → Int32 → LH → Option (Int32 × LH)) (l0 : Nat) (l1 : Nat) (l2 : Nat) (l3 : Nat) (l4 : Int32) (h : LH) : Option (Int32 × LH) :=
 F_Chk_law2_b2405 k23 l0 l1 l2 l3 l4 h
set_option maxHeartbeats 8000000 in
set_option maxRecDepth 100000 in
theorem F_Chk_law2_b1937_ok {d : Nat} {q : (Int32 × LH)} {k23 : Nat → Nat → Nat → Nat → Int32 → LH → Option (Int32 × LH)} (hd : 201 ≤ d) (hk23 : ∀ (l0 : Nat) (l1 : Nat) (l2 : Nat) (l3 : Nat) (l4 : Int32) (u5 : Value) (u6 : Value) (h : LH), k23 l0 l1 l2 l3 l4 h = some q → JR d jM_320 23 [.ref l0, .ref l1, .ref l2, .ref l3, .int l4, u5, u6] [] h (jo_i q)) {l0 : Nat} {l1 : Nat} {l2 : Nat} {l3 : Nat} {l4 : Int32} {u5 : Value} {u6 : Value} {h : LH} : F_Chk_law2_b1937 k23 l0 l1 l2 l3 l4 h = some q → JR d jM_320 1937 [.ref l0, .ref l1, .ref l2, .ref l3, .int l4, u5, u6] [] h (jo_i q) := by
 unfold F_Chk_law2_b1937
 exact jr_goto 1937 2405 rfl rfl
  ((F_Chk_law2_b2405_ok hd hk23))
noncomputable def F_Chk_law2_b1884 (k23 : Nat → Nat → Nat → Nat → Int32 → LH → Option (Int32 × LH)) (l0 : Nat) (l1 : Nat) (l2 : Nat) (l3 : Nat) (l4 : Int32) (h : LH) : Option (Int32 × LH) :=
 jf_ia h l0 (l4 + (1 : Int32)) fun v1 =>
 jf_bi (F_Chk_crowd l1 v1 l3 h) fun v2 h3 =>
 jf_ia h3 l0 (l4 + (1 : Int32)) fun v4 =>
 jf_kd h3 l2 11
 (jf_bi (F_Mod_crowd l2 v4 h3) fun v5 h6 =>
 jf_kd h6 l2 11
 (jf_bi (F_Mod_thrown l2 h6) fun v7 h8 =>
 if v7 = v2 then
 if v2 = 0 then
 jf_la h8 l3 (0 : Int32) fun v9 =>
 if (lg_cmp v9 (v5).toInt64) = 0 then
 F_Chk_law2_b1937 k23 l0 l1 l2 l3 l4 h8
else
 jf_rz (0 : Int32) (some ((0 : Int32), h8))
else
 F_Chk_law2_b1937 k23 l0 l1 l2 l3 l4 h8
else
 jf_rz (0 : Int32) (some ((0 : Int32), h8))))
set_option maxHeartbeats 8000000 in
set_option maxRecDepth 100000 in
theorem F_Chk_law2_b1884_ok {d : Nat} {q : (Int32 × LH)} {k23 : Nat → Nat → Nat → Nat → Int32 → LH → Option (Int32 × LH)} (hd : 201 ≤ d) (hk23 : ∀ (l0 : Nat) (l1 : Nat) (l2 : Nat) (l3 : Nat) (l4 : Int32) (u5 : Value) (u6 : Value) (h : LH), k23 l0 l1 l2 l3 l4 h = some q → JR d jM_320 23 [.ref l0, .ref l1, .ref l2, .ref l3, .int l4, u5, u6] [] h (jo_i q)) {l0 : Nat} {l1 : Nat} {l2 : Nat} {l3 : Nat} {l4 : Int32} {u5 : Value} {u6 : Value} {h : LH} : F_Chk_law2_b1884 k23 l0 l1 l2 l3 l4 h = some q → JR d jM_320 1884 [.ref l0, .ref l1, .ref l2, .ref l3, .int l4, u5, u6] [] h (jo_i q) := by
 unfold F_Chk_law2_b1884
 exact jr_aloadn 1884 1885 rfl rfl rfl
  (jr_aloadn 1885 1886 rfl rfl rfl
  (jr_iload 1886 1888 rfl rfl rfl
  (jr_iconst 1888 1889 (1 : Int32) rfl jc_i_1 rfl
  (jr_iadd 1889 1890 rfl rfl
  (jr_ia 1890 1891 rfl rfl (fun v1 =>
  jr_aloadn 1891 1892 rfl rfl rfl
  (jr_cSi 1892 1895 [] rfl rfl rfl rfl rfl rfl rfl (as := [.ref l1, .int v1, .ref l3]) (F_Chk_crowd_ok (Nat.le_trans (by decide : 6 ≤ 201) hd)) (fun v2 h3 =>
  jr_istore 1895 1897 [.ref l0, .ref l1, .ref l2, .ref l3, .int l4, .int v2, u6] rfl rfl rfl rfl
  (jr_aloadn 1897 1898 rfl rfl rfl
  (jr_aloadn 1898 1899 rfl rfl rfl
  (jr_iload 1899 1901 rfl rfl rfl
  (jr_iconst 1901 1902 (1 : Int32) rfl jc_i_1 rfl
  (jr_iadd 1902 1903 rfl rfl
  (jr_ia 1903 1904 rfl rfl (fun v4 =>
  jr_cVi 1904 1907 [] rfl rfl rfl rfl rfl rfl rfl rfl (as := [.int v4]) (F_Mod_crowd_ok (Nat.le_trans (by decide : 4 ≤ 201) hd)) (fun v5 h6 =>
  jr_istore 1907 1909 [.ref l0, .ref l1, .ref l2, .ref l3, .int l4, .int v2, .int v5] rfl rfl rfl rfl
  (jr_aloadn 1909 1910 rfl rfl rfl
  (jr_cVi 1910 1913 [] rfl rfl rfl rfl rfl rfl rfl rfl (as := []) (F_Mod_thrown_ok (Nat.le_trans (by decide : 1 ≤ 201) hd)) (fun v7 h8 =>
  jr_iload 1913 1915 rfl rfl rfl
  (jr_icmp_eq 1915 1920 1918 rfl rfl rfl
  (jr_iload 1920 1922 rfl rfl rfl
  (jr_if_ne 1922 1937 1925 rfl rfl rfl
  ((F_Chk_law2_b1937_ok hd hk23))
  (jr_aloadn 1925 1926 rfl rfl rfl
  (jr_iconst 1926 1927 (0 : Int32) rfl jc_i_0 rfl
  (jr_la 1927 1928 rfl rfl (fun v9 =>
  jr_iload 1928 1930 rfl rfl rfl
  (jr_i2l 1930 1931 rfl rfl
  (jr_lcmp 1931 1932 rfl rfl
  (jr_if_eq 1932 1937 1935 rfl rfl rfl
  ((F_Chk_law2_b1937_ok hd hk23))
  (jr_iconst 1935 1936 (0 : Int32) rfl jc_i_0 rfl
  (jr_rz 1936 rfl rfl)))))))))))
  (jr_iconst 1918 1919 (0 : Int32) rfl jc_i_0 rfl
  (jr_rz 1919 rfl rfl))))))))))))))))))))))
noncomputable def F_Chk_law2_b1993 (k23 : Nat → Nat → Nat → Nat → Int32 → LH → Option (Int32 × LH)) (l0 : Nat) (l1 : Nat) (l2 : Nat) (l3 : Nat) (l4 : Int32) (h : LH) : Option (Int32 × LH) :=
 F_Chk_law2_b2405 k23 l0 l1 l2 l3 l4 h
set_option maxHeartbeats 8000000 in
set_option maxRecDepth 100000 in
theorem F_Chk_law2_b1993_ok {d : Nat} {q : (Int32 × LH)} {k23 : Nat → Nat → Nat → Nat → Int32 → LH → Option (Int32 × LH)} (hd : 201 ≤ d) (hk23 : ∀ (l0 : Nat) (l1 : Nat) (l2 : Nat) (l3 : Nat) (l4 : Int32) (u5 : Value) (u6 : Value) (h : LH), k23 l0 l1 l2 l3 l4 h = some q → JR d jM_320 23 [.ref l0, .ref l1, .ref l2, .ref l3, .int l4, u5, u6] [] h (jo_i q)) {l0 : Nat} {l1 : Nat} {l2 : Nat} {l3 : Nat} {l4 : Int32} {u5 : Value} {u6 : Value} {h : LH} : F_Chk_law2_b1993 k23 l0 l1 l2 l3 l4 h = some q → JR d jM_320 1993 [.ref l0, .ref l1, .ref l2, .ref l3, .int l4, u5, u6] [] h (jo_i q) := by
 unfold F_Chk_law2_b1993
 exact jr_goto 1993 2405 rfl rfl
  ((F_Chk_law2_b2405_ok hd hk23))
noncomputable def F_Chk_law2_b1940 (k23 : Nat → Nat → Nat → Nat → Int32 → LH → Option (Int32 × LH)) (l0 : Nat) (l1 : Nat) (l2 : Nat) (l3 : Nat) (l4 : Int32) (h : LH) : Option (Int32 × LH) :=
 jf_ia h l0 (l4 + (1 : Int32)) fun v1 =>
 jf_bi (F_Chk_turned l1 v1 l3 h) fun v2 h3 =>
 jf_ia h3 l0 (l4 + (1 : Int32)) fun v4 =>
 jf_kd h3 l2 11
 (jf_bi (F_Mod_turned l2 v4 h3) fun v5 h6 =>
 jf_kd h6 l2 11
 (jf_bi (F_Mod_thrown l2 h6) fun v7 h8 =>
 if v7 = v2 then
 if v2 = 0 then
 jf_la h8 l3 (0 : Int32) fun v9 =>
 if (lg_cmp v9 (v5).toInt64) = 0 then
 F_Chk_law2_b1993 k23 l0 l1 l2 l3 l4 h8
else
 jf_rz (0 : Int32) (some ((0 : Int32), h8))
else
 F_Chk_law2_b1993 k23 l0 l1 l2 l3 l4 h8
else
 jf_rz (0 : Int32) (some ((0 : Int32), h8))))
set_option maxHeartbeats 8000000 in
set_option maxRecDepth 100000 in
theorem F_Chk_law2_b1940_ok {d : Nat} {q : (Int32 × LH)} {k23 : Nat → Nat → Nat → Nat → Int32 → LH → Option (Int32 × LH)} (hd : 201 ≤ d) (hk23 : ∀ (l0 : Nat) (l1 : Nat) (l2 : Nat) (l3 : Nat) (l4 : Int32) (u5 : Value) (u6 : Value) (h : LH), k23 l0 l1 l2 l3 l4 h = some q → JR d jM_320 23 [.ref l0, .ref l1, .ref l2, .ref l3, .int l4, u5, u6] [] h (jo_i q)) {l0 : Nat} {l1 : Nat} {l2 : Nat} {l3 : Nat} {l4 : Int32} {u5 : Value} {u6 : Value} {h : LH} : F_Chk_law2_b1940 k23 l0 l1 l2 l3 l4 h = some q → JR d jM_320 1940 [.ref l0, .ref l1, .ref l2, .ref l3, .int l4, u5, u6] [] h (jo_i q) := by
 unfold F_Chk_law2_b1940
 exact jr_aloadn 1940 1941 rfl rfl rfl
  (jr_aloadn 1941 1942 rfl rfl rfl
  (jr_iload 1942 1944 rfl rfl rfl
  (jr_iconst 1944 1945 (1 : Int32) rfl jc_i_1 rfl
  (jr_iadd 1945 1946 rfl rfl
  (jr_ia 1946 1947 rfl rfl (fun v1 =>
  jr_aloadn 1947 1948 rfl rfl rfl
  (jr_cSi 1948 1951 [] rfl rfl rfl rfl rfl rfl rfl (as := [.ref l1, .int v1, .ref l3]) (F_Chk_turned_ok (Nat.le_trans (by decide : 7 ≤ 201) hd)) (fun v2 h3 =>
  jr_istore 1951 1953 [.ref l0, .ref l1, .ref l2, .ref l3, .int l4, .int v2, u6] rfl rfl rfl rfl
  (jr_aloadn 1953 1954 rfl rfl rfl
  (jr_aloadn 1954 1955 rfl rfl rfl
  (jr_iload 1955 1957 rfl rfl rfl
  (jr_iconst 1957 1958 (1 : Int32) rfl jc_i_1 rfl
  (jr_iadd 1958 1959 rfl rfl
  (jr_ia 1959 1960 rfl rfl (fun v4 =>
  jr_cVi 1960 1963 [] rfl rfl rfl rfl rfl rfl rfl rfl (as := [.int v4]) (F_Mod_turned_ok (Nat.le_trans (by decide : 9 ≤ 201) hd)) (fun v5 h6 =>
  jr_istore 1963 1965 [.ref l0, .ref l1, .ref l2, .ref l3, .int l4, .int v2, .int v5] rfl rfl rfl rfl
  (jr_aloadn 1965 1966 rfl rfl rfl
  (jr_cVi 1966 1969 [] rfl rfl rfl rfl rfl rfl rfl rfl (as := []) (F_Mod_thrown_ok (Nat.le_trans (by decide : 1 ≤ 201) hd)) (fun v7 h8 =>
  jr_iload 1969 1971 rfl rfl rfl
  (jr_icmp_eq 1971 1976 1974 rfl rfl rfl
  (jr_iload 1976 1978 rfl rfl rfl
  (jr_if_ne 1978 1993 1981 rfl rfl rfl
  ((F_Chk_law2_b1993_ok hd hk23))
  (jr_aloadn 1981 1982 rfl rfl rfl
  (jr_iconst 1982 1983 (0 : Int32) rfl jc_i_0 rfl
  (jr_la 1983 1984 rfl rfl (fun v9 =>
  jr_iload 1984 1986 rfl rfl rfl
  (jr_i2l 1986 1987 rfl rfl
  (jr_lcmp 1987 1988 rfl rfl
  (jr_if_eq 1988 1993 1991 rfl rfl rfl
  ((F_Chk_law2_b1993_ok hd hk23))
  (jr_iconst 1991 1992 (0 : Int32) rfl jc_i_0 rfl
  (jr_rz 1992 rfl rfl)))))))))))
  (jr_iconst 1974 1975 (0 : Int32) rfl jc_i_0 rfl
  (jr_rz 1975 rfl rfl))))))))))))))))))))))
noncomputable def F_Chk_law2_b2049 (k23 : Nat → Nat → Nat → Nat → Int32 → LH → Option (Int32 × LH)) (l0 : Nat) (l1 : Nat) (l2 : Nat) (l3 : Nat) (l4 : Int32) (h : LH) : Option (Int32 × LH) :=
 F_Chk_law2_b2405 k23 l0 l1 l2 l3 l4 h
set_option maxHeartbeats 8000000 in
set_option maxRecDepth 100000 in
theorem F_Chk_law2_b2049_ok {d : Nat} {q : (Int32 × LH)} {k23 : Nat → Nat → Nat → Nat → Int32 → LH → Option (Int32 × LH)} (hd : 201 ≤ d) (hk23 : ∀ (l0 : Nat) (l1 : Nat) (l2 : Nat) (l3 : Nat) (l4 : Int32) (u5 : Value) (u6 : Value) (h : LH), k23 l0 l1 l2 l3 l4 h = some q → JR d jM_320 23 [.ref l0, .ref l1, .ref l2, .ref l3, .int l4, u5, u6] [] h (jo_i q)) {l0 : Nat} {l1 : Nat} {l2 : Nat} {l3 : Nat} {l4 : Int32} {u5 : Value} {u6 : Value} {h : LH} : F_Chk_law2_b2049 k23 l0 l1 l2 l3 l4 h = some q → JR d jM_320 2049 [.ref l0, .ref l1, .ref l2, .ref l3, .int l4, u5, u6] [] h (jo_i q) := by
 unfold F_Chk_law2_b2049
 exact jr_goto 2049 2405 rfl rfl
  ((F_Chk_law2_b2405_ok hd hk23))
noncomputable def F_Chk_law2_b1996 (k23 : Nat → Nat → Nat → Nat → Int32 → LH → Option (Int32 × LH)) (l0 : Nat) (l1 : Nat) (l2 : Nat) (l3 : Nat) (l4 : Int32) (h : LH) : Option (Int32 × LH) :=
 jf_ia h l0 (l4 + (1 : Int32)) fun v1 =>
 jf_bi (F_Chk_thickest l1 v1 l3 h) fun v2 h3 =>
 jf_ia h3 l0 (l4 + (1 : Int32)) fun v4 =>
 jf_kd h3 l2 11
 (jf_bi (F_Mod_thickest l2 v4 h3) fun v5 h6 =>
 jf_kd h6 l2 11
 (jf_bi (F_Mod_thrown l2 h6) fun v7 h8 =>
 if v7 = v2 then
 if v2 = 0 then
 jf_la h8 l3 (0 : Int32) fun v9 =>
 if (lg_cmp v9 (v5).toInt64) = 0 then
 F_Chk_law2_b2049 k23 l0 l1 l2 l3 l4 h8
else
 jf_rz (0 : Int32) (some ((0 : Int32), h8))
else
 F_Chk_law2_b2049 k23 l0 l1 l2 l3 l4 h8
else
 jf_rz (0 : Int32) (some ((0 : Int32), h8))))
set_option maxHeartbeats 8000000 in
set_option maxRecDepth 100000 in
theorem F_Chk_law2_b1996_ok {d : Nat} {q : (Int32 × LH)} {k23 : Nat → Nat → Nat → Nat → Int32 → LH → Option (Int32 × LH)} (hd : 201 ≤ d) (hk23 : ∀ (l0 : Nat) (l1 : Nat) (l2 : Nat) (l3 : Nat) (l4 : Int32) (u5 : Value) (u6 : Value) (h : LH), k23 l0 l1 l2 l3 l4 h = some q → JR d jM_320 23 [.ref l0, .ref l1, .ref l2, .ref l3, .int l4, u5, u6] [] h (jo_i q)) {l0 : Nat} {l1 : Nat} {l2 : Nat} {l3 : Nat} {l4 : Int32} {u5 : Value} {u6 : Value} {h : LH} : F_Chk_law2_b1996 k23 l0 l1 l2 l3 l4 h = some q → JR d jM_320 1996 [.ref l0, .ref l1, .ref l2, .ref l3, .int l4, u5, u6] [] h (jo_i q) := by
 unfold F_Chk_law2_b1996
 exact jr_aloadn 1996 1997 rfl rfl rfl
  (jr_aloadn 1997 1998 rfl rfl rfl
  (jr_iload 1998 2000 rfl rfl rfl
  (jr_iconst 2000 2001 (1 : Int32) rfl jc_i_1 rfl
  (jr_iadd 2001 2002 rfl rfl
  (jr_ia 2002 2003 rfl rfl (fun v1 =>
  jr_aloadn 2003 2004 rfl rfl rfl
  (jr_cSi 2004 2007 [] rfl rfl rfl rfl rfl rfl rfl (as := [.ref l1, .int v1, .ref l3]) (F_Chk_thickest_ok (Nat.le_trans (by decide : 6 ≤ 201) hd)) (fun v2 h3 =>
  jr_istore 2007 2009 [.ref l0, .ref l1, .ref l2, .ref l3, .int l4, .int v2, u6] rfl rfl rfl rfl
  (jr_aloadn 2009 2010 rfl rfl rfl
  (jr_aloadn 2010 2011 rfl rfl rfl
  (jr_iload 2011 2013 rfl rfl rfl
  (jr_iconst 2013 2014 (1 : Int32) rfl jc_i_1 rfl
  (jr_iadd 2014 2015 rfl rfl
  (jr_ia 2015 2016 rfl rfl (fun v4 =>
  jr_cVi 2016 2019 [] rfl rfl rfl rfl rfl rfl rfl rfl (as := [.int v4]) (F_Mod_thickest_ok (Nat.le_trans (by decide : 9 ≤ 201) hd)) (fun v5 h6 =>
  jr_istore 2019 2021 [.ref l0, .ref l1, .ref l2, .ref l3, .int l4, .int v2, .int v5] rfl rfl rfl rfl
  (jr_aloadn 2021 2022 rfl rfl rfl
  (jr_cVi 2022 2025 [] rfl rfl rfl rfl rfl rfl rfl rfl (as := []) (F_Mod_thrown_ok (Nat.le_trans (by decide : 1 ≤ 201) hd)) (fun v7 h8 =>
  jr_iload 2025 2027 rfl rfl rfl
  (jr_icmp_eq 2027 2032 2030 rfl rfl rfl
  (jr_iload 2032 2034 rfl rfl rfl
  (jr_if_ne 2034 2049 2037 rfl rfl rfl
  ((F_Chk_law2_b2049_ok hd hk23))
  (jr_aloadn 2037 2038 rfl rfl rfl
  (jr_iconst 2038 2039 (0 : Int32) rfl jc_i_0 rfl
  (jr_la 2039 2040 rfl rfl (fun v9 =>
  jr_iload 2040 2042 rfl rfl rfl
  (jr_i2l 2042 2043 rfl rfl
  (jr_lcmp 2043 2044 rfl rfl
  (jr_if_eq 2044 2049 2047 rfl rfl rfl
  ((F_Chk_law2_b2049_ok hd hk23))
  (jr_iconst 2047 2048 (0 : Int32) rfl jc_i_0 rfl
  (jr_rz 2048 rfl rfl)))))))))))
  (jr_iconst 2030 2031 (0 : Int32) rfl jc_i_0 rfl
  (jr_rz 2031 rfl rfl))))))))))))))))))))))
noncomputable def F_Chk_law2_b2052 (k23 : Nat → Nat → Nat → Nat → Int32 → LH → Option (Int32 × LH)) (l0 : Nat) (l1 : Nat) (l2 : Nat) (l3 : Nat) (l4 : Int32) (h : LH) : Option (Int32 × LH) :=
 jf_kd h l1 10
 (jf_bi (F_SG_burnsOut l1 h) fun v1 h2 =>
 jf_kd h2 l2 11
 (jf_bi (F_Mod_burnsOut l2 h2) fun v3 h4 =>
 if v1 = v3 then
 F_Chk_law2_b2405 k23 l0 l1 l2 l3 l4 h4
else
 jf_rz (0 : Int32) (some ((0 : Int32), h4))))
set_option maxHeartbeats 8000000 in
set_option maxRecDepth 100000 in
theorem F_Chk_law2_b2052_ok {d : Nat} {q : (Int32 × LH)} {k23 : Nat → Nat → Nat → Nat → Int32 → LH → Option (Int32 × LH)} (hd : 201 ≤ d) (hk23 : ∀ (l0 : Nat) (l1 : Nat) (l2 : Nat) (l3 : Nat) (l4 : Int32) (u5 : Value) (u6 : Value) (h : LH), k23 l0 l1 l2 l3 l4 h = some q → JR d jM_320 23 [.ref l0, .ref l1, .ref l2, .ref l3, .int l4, u5, u6] [] h (jo_i q)) {l0 : Nat} {l1 : Nat} {l2 : Nat} {l3 : Nat} {l4 : Int32} {u5 : Value} {u6 : Value} {h : LH} : F_Chk_law2_b2052 k23 l0 l1 l2 l3 l4 h = some q → JR d jM_320 2052 [.ref l0, .ref l1, .ref l2, .ref l3, .int l4, u5, u6] [] h (jo_i q) := by
 unfold F_Chk_law2_b2052
 exact jr_aloadn 2052 2053 rfl rfl rfl
  (jr_cVi 2053 2056 [] rfl rfl rfl rfl rfl rfl rfl rfl (as := []) (F_SG_burnsOut_ok (Nat.le_trans (by decide : 2 ≤ 201) hd)) (fun v1 h2 =>
  jr_aloadn 2056 2057 rfl rfl rfl
  (jr_cVi 2057 2060 [.int v1] rfl rfl rfl rfl rfl rfl rfl rfl (as := []) (F_Mod_burnsOut_ok (Nat.le_trans (by decide : 2 ≤ 201) hd)) (fun v3 h4 =>
  jr_icmp_eq 2060 2405 2063 rfl rfl rfl
  ((F_Chk_law2_b2405_ok hd hk23))
  (jr_iconst 2063 2064 (0 : Int32) rfl jc_i_0 rfl
  (jr_rz 2064 rfl rfl))))))
noncomputable def F_Chk_law2_b2130 (k23 : Nat → Nat → Nat → Nat → Int32 → LH → Option (Int32 × LH)) (l0 : Nat) (l1 : Nat) (l2 : Nat) (l3 : Nat) (l4 : Int32) (h : LH) : Option (Int32 × LH) :=
 F_Chk_law2_b2405 k23 l0 l1 l2 l3 l4 h
set_option maxHeartbeats 8000000 in
set_option maxRecDepth 100000 in
theorem F_Chk_law2_b2130_ok {d : Nat} {q : (Int32 × LH)} {k23 : Nat → Nat → Nat → Nat → Int32 → LH → Option (Int32 × LH)} (hd : 201 ≤ d) (hk23 : ∀ (l0 : Nat) (l1 : Nat) (l2 : Nat) (l3 : Nat) (l4 : Int32) (u5 : Value) (u6 : Value) (h : LH), k23 l0 l1 l2 l3 l4 h = some q → JR d jM_320 23 [.ref l0, .ref l1, .ref l2, .ref l3, .int l4, u5, u6] [] h (jo_i q)) {l0 : Nat} {l1 : Nat} {l2 : Nat} {l3 : Nat} {l4 : Int32} {u5 : Value} {u6 : Value} {h : LH} : F_Chk_law2_b2130 k23 l0 l1 l2 l3 l4 h = some q → JR d jM_320 2130 [.ref l0, .ref l1, .ref l2, .ref l3, .int l4, u5, u6] [] h (jo_i q) := by
 unfold F_Chk_law2_b2130
 exact jr_goto 2130 2405 rfl rfl
  ((F_Chk_law2_b2405_ok hd hk23))
noncomputable def F_Chk_law2_b2065 (k23 : Nat → Nat → Nat → Nat → Int32 → LH → Option (Int32 × LH)) (l0 : Nat) (l1 : Nat) (l2 : Nat) (l3 : Nat) (l4 : Int32) (h : LH) : Option (Int32 × LH) :=
 jf_ia h l0 (l4 + (1 : Int32)) fun v1 =>
 jf_ia h l0 (l4 + (2 : Int32)) fun v2 =>
 jf_bi (F_Chk_ahead l1 v1 v2 l3 h) fun v3 h4 =>
 jf_ia h4 l0 (l4 + (1 : Int32)) fun v5 =>
 jf_ia h4 l0 (l4 + (2 : Int32)) fun v6 =>
 jf_kd h4 l2 11
 (jf_bi (F_Mod_ahead l2 v5 v6 h4) fun v7 h8 =>
 jf_kd h8 l2 11
 (jf_bi (F_Mod_thrown l2 h8) fun v9 h10 =>
 if v9 = v3 then
 if v3 = 0 then
 jf_la h10 l3 (0 : Int32) fun v11 =>
 if (lg_cmp v11 (v7).toInt64) = 0 then
 F_Chk_law2_b2130 k23 l0 l1 l2 l3 l4 h10
else
 jf_rz (0 : Int32) (some ((0 : Int32), h10))
else
 F_Chk_law2_b2130 k23 l0 l1 l2 l3 l4 h10
else
 jf_rz (0 : Int32) (some ((0 : Int32), h10))))
set_option maxHeartbeats 8000000 in
set_option maxRecDepth 100000 in
theorem F_Chk_law2_b2065_ok {d : Nat} {q : (Int32 × LH)} {k23 : Nat → Nat → Nat → Nat → Int32 → LH → Option (Int32 × LH)} (hd : 201 ≤ d) (hk23 : ∀ (l0 : Nat) (l1 : Nat) (l2 : Nat) (l3 : Nat) (l4 : Int32) (u5 : Value) (u6 : Value) (h : LH), k23 l0 l1 l2 l3 l4 h = some q → JR d jM_320 23 [.ref l0, .ref l1, .ref l2, .ref l3, .int l4, u5, u6] [] h (jo_i q)) {l0 : Nat} {l1 : Nat} {l2 : Nat} {l3 : Nat} {l4 : Int32} {u5 : Value} {u6 : Value} {h : LH} : F_Chk_law2_b2065 k23 l0 l1 l2 l3 l4 h = some q → JR d jM_320 2065 [.ref l0, .ref l1, .ref l2, .ref l3, .int l4, u5, u6] [] h (jo_i q) := by
 unfold F_Chk_law2_b2065
 exact jr_aloadn 2065 2066 rfl rfl rfl
  (jr_aloadn 2066 2067 rfl rfl rfl
  (jr_iload 2067 2069 rfl rfl rfl
  (jr_iconst 2069 2070 (1 : Int32) rfl jc_i_1 rfl
  (jr_iadd 2070 2071 rfl rfl
  (jr_ia 2071 2072 rfl rfl (fun v1 =>
  jr_aloadn 2072 2073 rfl rfl rfl
  (jr_iload 2073 2075 rfl rfl rfl
  (jr_iconst 2075 2076 (2 : Int32) rfl jc_i_2 rfl
  (jr_iadd 2076 2077 rfl rfl
  (jr_ia 2077 2078 rfl rfl (fun v2 =>
  jr_aloadn 2078 2079 rfl rfl rfl
  (jr_cSi 2079 2082 [] rfl rfl rfl rfl rfl rfl rfl (as := [.ref l1, .int v1, .int v2, .ref l3]) (F_Chk_ahead_ok (Nat.le_trans (by decide : 7 ≤ 201) hd)) (fun v3 h4 =>
  jr_istore 2082 2084 [.ref l0, .ref l1, .ref l2, .ref l3, .int l4, .int v3, u6] rfl rfl rfl rfl
  (jr_aloadn 2084 2085 rfl rfl rfl
  (jr_aloadn 2085 2086 rfl rfl rfl
  (jr_iload 2086 2088 rfl rfl rfl
  (jr_iconst 2088 2089 (1 : Int32) rfl jc_i_1 rfl
  (jr_iadd 2089 2090 rfl rfl
  (jr_ia 2090 2091 rfl rfl (fun v5 =>
  jr_aloadn 2091 2092 rfl rfl rfl
  (jr_iload 2092 2094 rfl rfl rfl
  (jr_iconst 2094 2095 (2 : Int32) rfl jc_i_2 rfl
  (jr_iadd 2095 2096 rfl rfl
  (jr_ia 2096 2097 rfl rfl (fun v6 =>
  jr_cVi 2097 2100 [] rfl rfl rfl rfl rfl rfl rfl rfl (as := [.int v5, .int v6]) (F_Mod_ahead_ok (Nat.le_trans (by decide : 9 ≤ 201) hd)) (fun v7 h8 =>
  jr_istore 2100 2102 [.ref l0, .ref l1, .ref l2, .ref l3, .int l4, .int v3, .int v7] rfl rfl rfl rfl
  (jr_aloadn 2102 2103 rfl rfl rfl
  (jr_cVi 2103 2106 [] rfl rfl rfl rfl rfl rfl rfl rfl (as := []) (F_Mod_thrown_ok (Nat.le_trans (by decide : 1 ≤ 201) hd)) (fun v9 h10 =>
  jr_iload 2106 2108 rfl rfl rfl
  (jr_icmp_eq 2108 2113 2111 rfl rfl rfl
  (jr_iload 2113 2115 rfl rfl rfl
  (jr_if_ne 2115 2130 2118 rfl rfl rfl
  ((F_Chk_law2_b2130_ok hd hk23))
  (jr_aloadn 2118 2119 rfl rfl rfl
  (jr_iconst 2119 2120 (0 : Int32) rfl jc_i_0 rfl
  (jr_la 2120 2121 rfl rfl (fun v11 =>
  jr_iload 2121 2123 rfl rfl rfl
  (jr_i2l 2123 2124 rfl rfl
  (jr_lcmp 2124 2125 rfl rfl
  (jr_if_eq 2125 2130 2128 rfl rfl rfl
  ((F_Chk_law2_b2130_ok hd hk23))
  (jr_iconst 2128 2129 (0 : Int32) rfl jc_i_0 rfl
  (jr_rz 2129 rfl rfl)))))))))))
  (jr_iconst 2111 2112 (0 : Int32) rfl jc_i_0 rfl
  (jr_rz 2112 rfl rfl))))))))))))))))))))))))))))))))
noncomputable def F_Chk_law2_b2222 (k23 : Nat → Nat → Nat → Nat → Int32 → LH → Option (Int32 × LH)) (l0 : Nat) (l1 : Nat) (l2 : Nat) (l3 : Nat) (l4 : Int32) (h : LH) : Option (Int32 × LH) :=
 F_Chk_law2_b2405 k23 l0 l1 l2 l3 l4 h
set_option maxHeartbeats 8000000 in
set_option maxRecDepth 100000 in
theorem F_Chk_law2_b2222_ok {d : Nat} {q : (Int32 × LH)} {k23 : Nat → Nat → Nat → Nat → Int32 → LH → Option (Int32 × LH)} (hd : 201 ≤ d) (hk23 : ∀ (l0 : Nat) (l1 : Nat) (l2 : Nat) (l3 : Nat) (l4 : Int32) (u5 : Value) (u6 : Value) (h : LH), k23 l0 l1 l2 l3 l4 h = some q → JR d jM_320 23 [.ref l0, .ref l1, .ref l2, .ref l3, .int l4, u5, u6] [] h (jo_i q)) {l0 : Nat} {l1 : Nat} {l2 : Nat} {l3 : Nat} {l4 : Int32} {u5 : Value} {u6 : Value} {h : LH} : F_Chk_law2_b2222 k23 l0 l1 l2 l3 l4 h = some q → JR d jM_320 2222 [.ref l0, .ref l1, .ref l2, .ref l3, .int l4, u5, u6] [] h (jo_i q) := by
 unfold F_Chk_law2_b2222
 exact jr_goto 2222 2405 rfl rfl
  ((F_Chk_law2_b2405_ok hd hk23))
noncomputable def F_Chk_law2_b2133 (k23 : Nat → Nat → Nat → Nat → Int32 → LH → Option (Int32 × LH)) (l0 : Nat) (l1 : Nat) (l2 : Nat) (l3 : Nat) (l4 : Int32) (h : LH) : Option (Int32 × LH) :=
 jf_ia h l0 (l4 + (1 : Int32)) fun v1 =>
 jf_ia h l0 (l4 + (2 : Int32)) fun v2 =>
 jf_ia h l0 (l4 + (3 : Int32)) fun v3 =>
 jf_ia h l0 (l4 + (4 : Int32)) fun v4 =>
 jf_bi (F_Chk_days l1 v1 v2 v3 v4 l3 h) fun v5 h6 =>
 jf_ia h6 l0 (l4 + (1 : Int32)) fun v7 =>
 jf_ia h6 l0 (l4 + (2 : Int32)) fun v8 =>
 jf_ia h6 l0 (l4 + (3 : Int32)) fun v9 =>
 jf_ia h6 l0 (l4 + (4 : Int32)) fun v10 =>
 jf_kd h6 l2 11
 (jf_bi (F_Mod_days l2 v7 v8 v9 v10 h6) fun v11 h12 =>
 jf_kd h12 l2 11
 (jf_bi (F_Mod_thrown l2 h12) fun v13 h14 =>
 if v13 = v5 then
 if v5 = 0 then
 jf_la h14 l3 (0 : Int32) fun v15 =>
 if (lg_cmp v15 (v11).toInt64) = 0 then
 F_Chk_law2_b2222 k23 l0 l1 l2 l3 l4 h14
else
 jf_rz (0 : Int32) (some ((0 : Int32), h14))
else
 F_Chk_law2_b2222 k23 l0 l1 l2 l3 l4 h14
else
 jf_rz (0 : Int32) (some ((0 : Int32), h14))))
set_option maxHeartbeats 8000000 in
set_option maxRecDepth 100000 in
theorem F_Chk_law2_b2133_ok {d : Nat} {q : (Int32 × LH)} {k23 : Nat → Nat → Nat → Nat → Int32 → LH → Option (Int32 × LH)} (hd : 201 ≤ d) (hk23 : ∀ (l0 : Nat) (l1 : Nat) (l2 : Nat) (l3 : Nat) (l4 : Int32) (u5 : Value) (u6 : Value) (h : LH), k23 l0 l1 l2 l3 l4 h = some q → JR d jM_320 23 [.ref l0, .ref l1, .ref l2, .ref l3, .int l4, u5, u6] [] h (jo_i q)) {l0 : Nat} {l1 : Nat} {l2 : Nat} {l3 : Nat} {l4 : Int32} {u5 : Value} {u6 : Value} {h : LH} : F_Chk_law2_b2133 k23 l0 l1 l2 l3 l4 h = some q → JR d jM_320 2133 [.ref l0, .ref l1, .ref l2, .ref l3, .int l4, u5, u6] [] h (jo_i q) := by
 unfold F_Chk_law2_b2133
 exact jr_aloadn 2133 2134 rfl rfl rfl
  (jr_aloadn 2134 2135 rfl rfl rfl
  (jr_iload 2135 2137 rfl rfl rfl
  (jr_iconst 2137 2138 (1 : Int32) rfl jc_i_1 rfl
  (jr_iadd 2138 2139 rfl rfl
  (jr_ia 2139 2140 rfl rfl (fun v1 =>
  jr_aloadn 2140 2141 rfl rfl rfl
  (jr_iload 2141 2143 rfl rfl rfl
  (jr_iconst 2143 2144 (2 : Int32) rfl jc_i_2 rfl
  (jr_iadd 2144 2145 rfl rfl
  (jr_ia 2145 2146 rfl rfl (fun v2 =>
  jr_aloadn 2146 2147 rfl rfl rfl
  (jr_iload 2147 2149 rfl rfl rfl
  (jr_iconst 2149 2150 (3 : Int32) rfl jc_i_3 rfl
  (jr_iadd 2150 2151 rfl rfl
  (jr_ia 2151 2152 rfl rfl (fun v3 =>
  jr_aloadn 2152 2153 rfl rfl rfl
  (jr_iload 2153 2155 rfl rfl rfl
  (jr_iconst 2155 2156 (4 : Int32) rfl jc_i_4 rfl
  (jr_iadd 2156 2157 rfl rfl
  (jr_ia 2157 2158 rfl rfl (fun v4 =>
  jr_aloadn 2158 2159 rfl rfl rfl
  (jr_cSi 2159 2162 [] rfl rfl rfl rfl rfl rfl rfl (as := [.ref l1, .int v1, .int v2, .int v3, .int v4, .ref l3]) (F_Chk_days_ok (Nat.le_trans (by decide : 7 ≤ 201) hd)) (fun v5 h6 =>
  jr_istore 2162 2164 [.ref l0, .ref l1, .ref l2, .ref l3, .int l4, .int v5, u6] rfl rfl rfl rfl
  (jr_aloadn 2164 2165 rfl rfl rfl
  (jr_aloadn 2165 2166 rfl rfl rfl
  (jr_iload 2166 2168 rfl rfl rfl
  (jr_iconst 2168 2169 (1 : Int32) rfl jc_i_1 rfl
  (jr_iadd 2169 2170 rfl rfl
  (jr_ia 2170 2171 rfl rfl (fun v7 =>
  jr_aloadn 2171 2172 rfl rfl rfl
  (jr_iload 2172 2174 rfl rfl rfl
  (jr_iconst 2174 2175 (2 : Int32) rfl jc_i_2 rfl
  (jr_iadd 2175 2176 rfl rfl
  (jr_ia 2176 2177 rfl rfl (fun v8 =>
  jr_aloadn 2177 2178 rfl rfl rfl
  (jr_iload 2178 2180 rfl rfl rfl
  (jr_iconst 2180 2181 (3 : Int32) rfl jc_i_3 rfl
  (jr_iadd 2181 2182 rfl rfl
  (jr_ia 2182 2183 rfl rfl (fun v9 =>
  jr_aloadn 2183 2184 rfl rfl rfl
  (jr_iload 2184 2186 rfl rfl rfl
  (jr_iconst 2186 2187 (4 : Int32) rfl jc_i_4 rfl
  (jr_iadd 2187 2188 rfl rfl
  (jr_ia 2188 2189 rfl rfl (fun v10 =>
  jr_cVi 2189 2192 [] rfl rfl rfl rfl rfl rfl rfl rfl (as := [.int v7, .int v8, .int v9, .int v10]) (F_Mod_days_ok (Nat.le_trans (by decide : 10 ≤ 201) hd)) (fun v11 h12 =>
  jr_istore 2192 2194 [.ref l0, .ref l1, .ref l2, .ref l3, .int l4, .int v5, .int v11] rfl rfl rfl rfl
  (jr_aloadn 2194 2195 rfl rfl rfl
  (jr_cVi 2195 2198 [] rfl rfl rfl rfl rfl rfl rfl rfl (as := []) (F_Mod_thrown_ok (Nat.le_trans (by decide : 1 ≤ 201) hd)) (fun v13 h14 =>
  jr_iload 2198 2200 rfl rfl rfl
  (jr_icmp_eq 2200 2205 2203 rfl rfl rfl
  (jr_iload 2205 2207 rfl rfl rfl
  (jr_if_ne 2207 2222 2210 rfl rfl rfl
  ((F_Chk_law2_b2222_ok hd hk23))
  (jr_aloadn 2210 2211 rfl rfl rfl
  (jr_iconst 2211 2212 (0 : Int32) rfl jc_i_0 rfl
  (jr_la 2212 2213 rfl rfl (fun v15 =>
  jr_iload 2213 2215 rfl rfl rfl
  (jr_i2l 2215 2216 rfl rfl
  (jr_lcmp 2216 2217 rfl rfl
  (jr_if_eq 2217 2222 2220 rfl rfl rfl
  ((F_Chk_law2_b2222_ok hd hk23))
  (jr_iconst 2220 2221 (0 : Int32) rfl jc_i_0 rfl
  (jr_rz 2221 rfl rfl)))))))))))
  (jr_iconst 2203 2204 (0 : Int32) rfl jc_i_0 rfl
  (jr_rz 2204 rfl rfl))))))))))))))))))))))))))))))))))))))))))))))))))))
noncomputable def F_Chk_law2_b2326 (k23 : Nat → Nat → Nat → Nat → Int32 → LH → Option (Int32 × LH)) (l0 : Nat) (l1 : Nat) (l2 : Nat) (l3 : Nat) (l4 : Int32) (h : LH) : Option (Int32 × LH) :=
 F_Chk_law2_b2405 k23 l0 l1 l2 l3 l4 h
set_option maxHeartbeats 8000000 in
set_option maxRecDepth 100000 in
theorem F_Chk_law2_b2326_ok {d : Nat} {q : (Int32 × LH)} {k23 : Nat → Nat → Nat → Nat → Int32 → LH → Option (Int32 × LH)} (hd : 201 ≤ d) (hk23 : ∀ (l0 : Nat) (l1 : Nat) (l2 : Nat) (l3 : Nat) (l4 : Int32) (u5 : Value) (u6 : Value) (h : LH), k23 l0 l1 l2 l3 l4 h = some q → JR d jM_320 23 [.ref l0, .ref l1, .ref l2, .ref l3, .int l4, u5, u6] [] h (jo_i q)) {l0 : Nat} {l1 : Nat} {l2 : Nat} {l3 : Nat} {l4 : Int32} {u5 : Value} {u6 : Value} {h : LH} : F_Chk_law2_b2326 k23 l0 l1 l2 l3 l4 h = some q → JR d jM_320 2326 [.ref l0, .ref l1, .ref l2, .ref l3, .int l4, u5, u6] [] h (jo_i q) := by
 unfold F_Chk_law2_b2326
 exact jr_goto 2326 2405 rfl rfl
  ((F_Chk_law2_b2405_ok hd hk23))
noncomputable def F_Chk_law2_b2225 (k23 : Nat → Nat → Nat → Nat → Int32 → LH → Option (Int32 × LH)) (l0 : Nat) (l1 : Nat) (l2 : Nat) (l3 : Nat) (l4 : Int32) (h : LH) : Option (Int32 × LH) :=
 jf_ia h l0 (l4 + (1 : Int32)) fun v1 =>
 jf_ia h l0 (l4 + (2 : Int32)) fun v2 =>
 jf_ia h l0 (l4 + (3 : Int32)) fun v3 =>
 jf_ia h l0 (l4 + (4 : Int32)) fun v4 =>
 jf_ia h l0 (l4 + (5 : Int32)) fun v5 =>
 jf_bi (F_Chk_span l1 v1 v2 v3 v4 v5 l3 h) fun v6 h7 =>
 jf_ia h7 l0 (l4 + (1 : Int32)) fun v8 =>
 jf_ia h7 l0 (l4 + (2 : Int32)) fun v9 =>
 jf_ia h7 l0 (l4 + (3 : Int32)) fun v10 =>
 jf_ia h7 l0 (l4 + (4 : Int32)) fun v11 =>
 jf_ia h7 l0 (l4 + (5 : Int32)) fun v12 =>
 jf_kd h7 l2 11
 (jf_bi (F_Mod_span l2 v8 v9 v10 v11 v12 h7) fun v13 h14 =>
 jf_kd h14 l2 11
 (jf_bi (F_Mod_thrown l2 h14) fun v15 h16 =>
 if v15 = v6 then
 if v6 = 0 then
 jf_la h16 l3 (0 : Int32) fun v17 =>
 if (lg_cmp v17 (v13).toInt64) = 0 then
 F_Chk_law2_b2326 k23 l0 l1 l2 l3 l4 h16
else
 jf_rz (0 : Int32) (some ((0 : Int32), h16))
else
 F_Chk_law2_b2326 k23 l0 l1 l2 l3 l4 h16
else
 jf_rz (0 : Int32) (some ((0 : Int32), h16))))
set_option maxHeartbeats 8000000 in
set_option maxRecDepth 100000 in
theorem F_Chk_law2_b2225_ok {d : Nat} {q : (Int32 × LH)} {k23 : Nat → Nat → Nat → Nat → Int32 → LH → Option (Int32 × LH)} (hd : 201 ≤ d) (hk23 : ∀ (l0 : Nat) (l1 : Nat) (l2 : Nat) (l3 : Nat) (l4 : Int32) (u5 : Value) (u6 : Value) (h : LH), k23 l0 l1 l2 l3 l4 h = some q → JR d jM_320 23 [.ref l0, .ref l1, .ref l2, .ref l3, .int l4, u5, u6] [] h (jo_i q)) {l0 : Nat} {l1 : Nat} {l2 : Nat} {l3 : Nat} {l4 : Int32} {u5 : Value} {u6 : Value} {h : LH} : F_Chk_law2_b2225 k23 l0 l1 l2 l3 l4 h = some q → JR d jM_320 2225 [.ref l0, .ref l1, .ref l2, .ref l3, .int l4, u5, u6] [] h (jo_i q) := by
 unfold F_Chk_law2_b2225
 exact jr_aloadn 2225 2226 rfl rfl rfl
  (jr_aloadn 2226 2227 rfl rfl rfl
  (jr_iload 2227 2229 rfl rfl rfl
  (jr_iconst 2229 2230 (1 : Int32) rfl jc_i_1 rfl
  (jr_iadd 2230 2231 rfl rfl
  (jr_ia 2231 2232 rfl rfl (fun v1 =>
  jr_aloadn 2232 2233 rfl rfl rfl
  (jr_iload 2233 2235 rfl rfl rfl
  (jr_iconst 2235 2236 (2 : Int32) rfl jc_i_2 rfl
  (jr_iadd 2236 2237 rfl rfl
  (jr_ia 2237 2238 rfl rfl (fun v2 =>
  jr_aloadn 2238 2239 rfl rfl rfl
  (jr_iload 2239 2241 rfl rfl rfl
  (jr_iconst 2241 2242 (3 : Int32) rfl jc_i_3 rfl
  (jr_iadd 2242 2243 rfl rfl
  (jr_ia 2243 2244 rfl rfl (fun v3 =>
  jr_aloadn 2244 2245 rfl rfl rfl
  (jr_iload 2245 2247 rfl rfl rfl
  (jr_iconst 2247 2248 (4 : Int32) rfl jc_i_4 rfl
  (jr_iadd 2248 2249 rfl rfl
  (jr_ia 2249 2250 rfl rfl (fun v4 =>
  jr_aloadn 2250 2251 rfl rfl rfl
  (jr_iload 2251 2253 rfl rfl rfl
  (jr_iconst 2253 2254 (5 : Int32) rfl jc_i_5 rfl
  (jr_iadd 2254 2255 rfl rfl
  (jr_ia 2255 2256 rfl rfl (fun v5 =>
  jr_aloadn 2256 2257 rfl rfl rfl
  (jr_cSi 2257 2260 [] rfl rfl rfl rfl rfl rfl rfl (as := [.ref l1, .int v1, .int v2, .int v3, .int v4, .int v5, .ref l3]) (F_Chk_span_ok (Nat.le_trans (by decide : 7 ≤ 201) hd)) (fun v6 h7 =>
  jr_istore 2260 2262 [.ref l0, .ref l1, .ref l2, .ref l3, .int l4, .int v6, u6] rfl rfl rfl rfl
  (jr_aloadn 2262 2263 rfl rfl rfl
  (jr_aloadn 2263 2264 rfl rfl rfl
  (jr_iload 2264 2266 rfl rfl rfl
  (jr_iconst 2266 2267 (1 : Int32) rfl jc_i_1 rfl
  (jr_iadd 2267 2268 rfl rfl
  (jr_ia 2268 2269 rfl rfl (fun v8 =>
  jr_aloadn 2269 2270 rfl rfl rfl
  (jr_iload 2270 2272 rfl rfl rfl
  (jr_iconst 2272 2273 (2 : Int32) rfl jc_i_2 rfl
  (jr_iadd 2273 2274 rfl rfl
  (jr_ia 2274 2275 rfl rfl (fun v9 =>
  jr_aloadn 2275 2276 rfl rfl rfl
  (jr_iload 2276 2278 rfl rfl rfl
  (jr_iconst 2278 2279 (3 : Int32) rfl jc_i_3 rfl
  (jr_iadd 2279 2280 rfl rfl
  (jr_ia 2280 2281 rfl rfl (fun v10 =>
  jr_aloadn 2281 2282 rfl rfl rfl
  (jr_iload 2282 2284 rfl rfl rfl
  (jr_iconst 2284 2285 (4 : Int32) rfl jc_i_4 rfl
  (jr_iadd 2285 2286 rfl rfl
  (jr_ia 2286 2287 rfl rfl (fun v11 =>
  jr_aloadn 2287 2288 rfl rfl rfl
  (jr_iload 2288 2290 rfl rfl rfl
  (jr_iconst 2290 2291 (5 : Int32) rfl jc_i_5 rfl
  (jr_iadd 2291 2292 rfl rfl
  (jr_ia 2292 2293 rfl rfl (fun v12 =>
  jr_cVi 2293 2296 [] rfl rfl rfl rfl rfl rfl rfl rfl (as := [.int v8, .int v9, .int v10, .int v11, .int v12]) (F_Mod_span_ok (Nat.le_trans (by decide : 10 ≤ 201) hd)) (fun v13 h14 =>
  jr_istore 2296 2298 [.ref l0, .ref l1, .ref l2, .ref l3, .int l4, .int v6, .int v13] rfl rfl rfl rfl
  (jr_aloadn 2298 2299 rfl rfl rfl
  (jr_cVi 2299 2302 [] rfl rfl rfl rfl rfl rfl rfl rfl (as := []) (F_Mod_thrown_ok (Nat.le_trans (by decide : 1 ≤ 201) hd)) (fun v15 h16 =>
  jr_iload 2302 2304 rfl rfl rfl
  (jr_icmp_eq 2304 2309 2307 rfl rfl rfl
  (jr_iload 2309 2311 rfl rfl rfl
  (jr_if_ne 2311 2326 2314 rfl rfl rfl
  ((F_Chk_law2_b2326_ok hd hk23))
  (jr_aloadn 2314 2315 rfl rfl rfl
  (jr_iconst 2315 2316 (0 : Int32) rfl jc_i_0 rfl
  (jr_la 2316 2317 rfl rfl (fun v17 =>
  jr_iload 2317 2319 rfl rfl rfl
  (jr_i2l 2319 2320 rfl rfl
  (jr_lcmp 2320 2321 rfl rfl
  (jr_if_eq 2321 2326 2324 rfl rfl rfl
  ((F_Chk_law2_b2326_ok hd hk23))
  (jr_iconst 2324 2325 (0 : Int32) rfl jc_i_0 rfl
  (jr_rz 2325 rfl rfl)))))))))))
  (jr_iconst 2307 2308 (0 : Int32) rfl jc_i_0 rfl
  (jr_rz 2308 rfl rfl))))))))))))))))))))))))))))))))))))))))))))))))))))))))))))))
noncomputable def F_Chk_law2_b2329 (k23 : Nat → Nat → Nat → Nat → Int32 → LH → Option (Int32 × LH)) (l0 : Nat) (l1 : Nat) (l2 : Nat) (l3 : Nat) (l4 : Int32) (h : LH) : Option (Int32 × LH) :=
 jf_kd h l1 10
 (jf_bi (F_SG_image l1 h) fun v1 h2 =>
 jf_kd h2 l2 11
 (jf_bi (F_Mod_image l2 h2) fun v3 h4 =>
 if v1 = v3 then
 F_Chk_law2_b2405 k23 l0 l1 l2 l3 l4 h4
else
 jf_rz (0 : Int32) (some ((0 : Int32), h4))))
set_option maxHeartbeats 8000000 in
set_option maxRecDepth 100000 in
theorem F_Chk_law2_b2329_ok {d : Nat} {q : (Int32 × LH)} {k23 : Nat → Nat → Nat → Nat → Int32 → LH → Option (Int32 × LH)} (hd : 201 ≤ d) (hk23 : ∀ (l0 : Nat) (l1 : Nat) (l2 : Nat) (l3 : Nat) (l4 : Int32) (u5 : Value) (u6 : Value) (h : LH), k23 l0 l1 l2 l3 l4 h = some q → JR d jM_320 23 [.ref l0, .ref l1, .ref l2, .ref l3, .int l4, u5, u6] [] h (jo_i q)) {l0 : Nat} {l1 : Nat} {l2 : Nat} {l3 : Nat} {l4 : Int32} {u5 : Value} {u6 : Value} {h : LH} : F_Chk_law2_b2329 k23 l0 l1 l2 l3 l4 h = some q → JR d jM_320 2329 [.ref l0, .ref l1, .ref l2, .ref l3, .int l4, u5, u6] [] h (jo_i q) := by
 unfold F_Chk_law2_b2329
 exact jr_aloadn 2329 2330 rfl rfl rfl
  (jr_cVi 2330 2333 [] rfl rfl rfl rfl rfl rfl rfl rfl (as := []) (F_SG_image_ok (Nat.le_trans (by decide : 2 ≤ 201) hd)) (fun v1 h2 =>
  jr_aloadn 2333 2334 rfl rfl rfl
  (jr_cVi 2334 2337 [.int v1] rfl rfl rfl rfl rfl rfl rfl rfl (as := []) (F_Mod_image_ok (Nat.le_trans (by decide : 3 ≤ 201) hd)) (fun v3 h4 =>
  jr_icmp_eq 2337 2405 2340 rfl rfl rfl
  ((F_Chk_law2_b2405_ok hd hk23))
  (jr_iconst 2340 2341 (0 : Int32) rfl jc_i_0 rfl
  (jr_rz 2341 rfl rfl))))))
noncomputable def F_Chk_law2_b2342 (k23 : Nat → Nat → Nat → Nat → Int32 → LH → Option (Int32 × LH)) (l0 : Nat) (l1 : Nat) (l2 : Nat) (l3 : Nat) (l4 : Int32) (h : LH) : Option (Int32 × LH) :=
 jf_kd h l1 10
 (jf_bi (F_SG_restore l1 h) fun v1 h2 =>
 jf_kd h2 l2 11
 (jf_bi (F_Mod_restore l2 h2) fun v3 h4 =>
 if v1 = v3 then
 F_Chk_law2_b2405 k23 l0 l1 l2 l3 l4 h4
else
 jf_rz (0 : Int32) (some ((0 : Int32), h4))))
set_option maxHeartbeats 8000000 in
set_option maxRecDepth 100000 in
theorem F_Chk_law2_b2342_ok {d : Nat} {q : (Int32 × LH)} {k23 : Nat → Nat → Nat → Nat → Int32 → LH → Option (Int32 × LH)} (hd : 201 ≤ d) (hk23 : ∀ (l0 : Nat) (l1 : Nat) (l2 : Nat) (l3 : Nat) (l4 : Int32) (u5 : Value) (u6 : Value) (h : LH), k23 l0 l1 l2 l3 l4 h = some q → JR d jM_320 23 [.ref l0, .ref l1, .ref l2, .ref l3, .int l4, u5, u6] [] h (jo_i q)) {l0 : Nat} {l1 : Nat} {l2 : Nat} {l3 : Nat} {l4 : Int32} {u5 : Value} {u6 : Value} {h : LH} : F_Chk_law2_b2342 k23 l0 l1 l2 l3 l4 h = some q → JR d jM_320 2342 [.ref l0, .ref l1, .ref l2, .ref l3, .int l4, u5, u6] [] h (jo_i q) := by
 unfold F_Chk_law2_b2342
 exact jr_aloadn 2342 2343 rfl rfl rfl
  (jr_cVi 2343 2346 [] rfl rfl rfl rfl rfl rfl rfl rfl (as := []) (F_SG_restore_ok (Nat.le_trans (by decide : 2 ≤ 201) hd)) (fun v1 h2 =>
  jr_aloadn 2346 2347 rfl rfl rfl
  (jr_cVi 2347 2350 [.int v1] rfl rfl rfl rfl rfl rfl rfl rfl (as := []) (F_Mod_restore_ok (Nat.le_trans (by decide : 3 ≤ 201) hd)) (fun v3 h4 =>
  jr_icmp_eq 2350 2405 2353 rfl rfl rfl
  ((F_Chk_law2_b2405_ok hd hk23))
  (jr_iconst 2353 2354 (0 : Int32) rfl jc_i_0 rfl
  (jr_rz 2354 rfl rfl))))))
noncomputable def F_Chk_law2_b2355 (k23 : Nat → Nat → Nat → Nat → Int32 → LH → Option (Int32 × LH)) (l0 : Nat) (l1 : Nat) (l2 : Nat) (l3 : Nat) (l4 : Int32) (h : LH) : Option (Int32 × LH) :=
 jf_ia h l0 (l4 + (1 : Int32)) fun v1 =>
 jf_kd h l1 10
 (jf_bi (F_SG_status l1 v1 h) fun v2 h3 =>
 jf_ia h3 l0 (l4 + (1 : Int32)) fun v4 =>
 jf_kd h3 l2 11
 (jf_bi (F_Mod_status l2 v4 h3) fun v5 h6 =>
 if v2 = v5 then
 F_Chk_law2_b2405 k23 l0 l1 l2 l3 l4 h6
else
 jf_rz (0 : Int32) (some ((0 : Int32), h6))))
set_option maxHeartbeats 8000000 in
set_option maxRecDepth 100000 in
theorem F_Chk_law2_b2355_ok {d : Nat} {q : (Int32 × LH)} {k23 : Nat → Nat → Nat → Nat → Int32 → LH → Option (Int32 × LH)} (hd : 201 ≤ d) (hk23 : ∀ (l0 : Nat) (l1 : Nat) (l2 : Nat) (l3 : Nat) (l4 : Int32) (u5 : Value) (u6 : Value) (h : LH), k23 l0 l1 l2 l3 l4 h = some q → JR d jM_320 23 [.ref l0, .ref l1, .ref l2, .ref l3, .int l4, u5, u6] [] h (jo_i q)) {l0 : Nat} {l1 : Nat} {l2 : Nat} {l3 : Nat} {l4 : Int32} {u5 : Value} {u6 : Value} {h : LH} : F_Chk_law2_b2355 k23 l0 l1 l2 l3 l4 h = some q → JR d jM_320 2355 [.ref l0, .ref l1, .ref l2, .ref l3, .int l4, u5, u6] [] h (jo_i q) := by
 unfold F_Chk_law2_b2355
 exact jr_aloadn 2355 2356 rfl rfl rfl
  (jr_aloadn 2356 2357 rfl rfl rfl
  (jr_iload 2357 2359 rfl rfl rfl
  (jr_iconst 2359 2360 (1 : Int32) rfl jc_i_1 rfl
  (jr_iadd 2360 2361 rfl rfl
  (jr_ia 2361 2362 rfl rfl (fun v1 =>
  jr_cVi 2362 2365 [] rfl rfl rfl rfl rfl rfl rfl rfl (as := [.int v1]) (F_SG_status_ok (Nat.le_trans (by decide : 1 ≤ 201) hd)) (fun v2 h3 =>
  jr_aloadn 2365 2366 rfl rfl rfl
  (jr_aloadn 2366 2367 rfl rfl rfl
  (jr_iload 2367 2369 rfl rfl rfl
  (jr_iconst 2369 2370 (1 : Int32) rfl jc_i_1 rfl
  (jr_iadd 2370 2371 rfl rfl
  (jr_ia 2371 2372 rfl rfl (fun v4 =>
  jr_cVi 2372 2375 [.int v2] rfl rfl rfl rfl rfl rfl rfl rfl (as := [.int v4]) (F_Mod_status_ok (Nat.le_trans (by decide : 2 ≤ 201) hd)) (fun v5 h6 =>
  jr_icmp_eq 2375 2405 2378 rfl rfl rfl
  ((F_Chk_law2_b2405_ok hd hk23))
  (jr_iconst 2378 2379 (0 : Int32) rfl jc_i_0 rfl
  (jr_rz 2379 rfl rfl))))))))))))))))
noncomputable def F_Chk_law2_b2380 (k23 : Nat → Nat → Nat → Nat → Int32 → LH → Option (Int32 × LH)) (l0 : Nat) (l1 : Nat) (l2 : Nat) (l3 : Nat) (l4 : Int32) (h : LH) : Option (Int32 × LH) :=
 jf_ia h l0 (l4 + (1 : Int32)) fun v1 =>
 jf_kd h l1 10
 (jf_bi (F_SG_count l1 v1 h) fun v2 h3 =>
 jf_ia h3 l0 (l4 + (1 : Int32)) fun v4 =>
 jf_kd h3 l2 11
 (jf_bi (F_Mod_count l2 v4 h3) fun v5 h6 =>
 if v2 = v5 then
 F_Chk_law2_b2405 k23 l0 l1 l2 l3 l4 h6
else
 jf_rz (0 : Int32) (some ((0 : Int32), h6))))
set_option maxHeartbeats 8000000 in
set_option maxRecDepth 100000 in
theorem F_Chk_law2_b2380_ok {d : Nat} {q : (Int32 × LH)} {k23 : Nat → Nat → Nat → Nat → Int32 → LH → Option (Int32 × LH)} (hd : 201 ≤ d) (hk23 : ∀ (l0 : Nat) (l1 : Nat) (l2 : Nat) (l3 : Nat) (l4 : Int32) (u5 : Value) (u6 : Value) (h : LH), k23 l0 l1 l2 l3 l4 h = some q → JR d jM_320 23 [.ref l0, .ref l1, .ref l2, .ref l3, .int l4, u5, u6] [] h (jo_i q)) {l0 : Nat} {l1 : Nat} {l2 : Nat} {l3 : Nat} {l4 : Int32} {u5 : Value} {u6 : Value} {h : LH} : F_Chk_law2_b2380 k23 l0 l1 l2 l3 l4 h = some q → JR d jM_320 2380 [.ref l0, .ref l1, .ref l2, .ref l3, .int l4, u5, u6] [] h (jo_i q) := by
 unfold F_Chk_law2_b2380
 exact jr_aloadn 2380 2381 rfl rfl rfl
  (jr_aloadn 2381 2382 rfl rfl rfl
  (jr_iload 2382 2384 rfl rfl rfl
  (jr_iconst 2384 2385 (1 : Int32) rfl jc_i_1 rfl
  (jr_iadd 2385 2386 rfl rfl
  (jr_ia 2386 2387 rfl rfl (fun v1 =>
  jr_cVi 2387 2390 [] rfl rfl rfl rfl rfl rfl rfl rfl (as := [.int v1]) (F_SG_count_ok (Nat.le_trans (by decide : 1 ≤ 201) hd)) (fun v2 h3 =>
  jr_aloadn 2390 2391 rfl rfl rfl
  (jr_aloadn 2391 2392 rfl rfl rfl
  (jr_iload 2392 2394 rfl rfl rfl
  (jr_iconst 2394 2395 (1 : Int32) rfl jc_i_1 rfl
  (jr_iadd 2395 2396 rfl rfl
  (jr_ia 2396 2397 rfl rfl (fun v4 =>
  jr_cVi 2397 2400 [.int v2] rfl rfl rfl rfl rfl rfl rfl rfl (as := [.int v4]) (F_Mod_count_ok (Nat.le_trans (by decide : 1 ≤ 201) hd)) (fun v5 h6 =>
  jr_icmp_eq 2400 2405 2403 rfl rfl rfl
  ((F_Chk_law2_b2405_ok hd hk23))
  (jr_iconst 2403 2404 (0 : Int32) rfl jc_i_0 rfl
  (jr_rz 2404 rfl rfl))))))))))))))))
noncomputable def F_Chk_law2_c23 (k23 : Nat → Nat → Nat → Nat → Int32 → LH → Option (Int32 × LH)) (l0 : Nat) (l1 : Nat) (l2 : Nat) (l3 : Nat) (l4 : Int32) (h : LH) : Option (Int32 × LH) :=
 jf_al h l0 fun v1 =>
 if (v1 - (6 : Int32)) < l4 then
 jf_rz (1 : Int32) (some ((1 : Int32), h))
else
 jf_ia h l0 l4 fun v2 =>
 if (v2 &&& (63 : Int32)) = (0 : Int32) then
 F_Chk_law2_b212 k23 l0 l1 l2 l3 l4 h
else
 if (v2 &&& (63 : Int32)) = (1 : Int32) then
 F_Chk_law2_b285 k23 l0 l1 l2 l3 l4 h
else
 if (v2 &&& (63 : Int32)) = (2 : Int32) then
 F_Chk_law2_b341 k23 l0 l1 l2 l3 l4 h
else
 if (v2 &&& (63 : Int32)) = (3 : Int32) then
 F_Chk_law2_b397 k23 l0 l1 l2 l3 l4 h
else
 if (v2 &&& (63 : Int32)) = (4 : Int32) then
 F_Chk_law2_b453 k23 l0 l1 l2 l3 l4 h
else
 if (v2 &&& (63 : Int32)) = (5 : Int32) then
 F_Chk_law2_b509 k23 l0 l1 l2 l3 l4 h
else
 if (v2 &&& (63 : Int32)) = (6 : Int32) then
 F_Chk_law2_b522 k23 l0 l1 l2 l3 l4 h
else
 if (v2 &&& (63 : Int32)) = (7 : Int32) then
 F_Chk_law2_b535 k23 l0 l1 l2 l3 l4 h
else
 if (v2 &&& (63 : Int32)) = (8 : Int32) then
 F_Chk_law2_b591 k23 l0 l1 l2 l3 l4 h
else
 if (v2 &&& (63 : Int32)) = (9 : Int32) then
 F_Chk_law2_b659 k23 l0 l1 l2 l3 l4 h
else
 if (v2 &&& (63 : Int32)) = (10 : Int32) then
 F_Chk_law2_b727 k23 l0 l1 l2 l3 l4 h
else
 if (v2 &&& (63 : Int32)) = (11 : Int32) then
 F_Chk_law2_b795 k23 l0 l1 l2 l3 l4 h
else
 if (v2 &&& (63 : Int32)) = (12 : Int32) then
 F_Chk_law2_b875 k23 l0 l1 l2 l3 l4 h
else
 if (v2 &&& (63 : Int32)) = (13 : Int32) then
 F_Chk_law2_b962 k23 l0 l1 l2 l3 l4 h
else
 if (v2 &&& (63 : Int32)) = (14 : Int32) then
 F_Chk_law2_b1030 k23 l0 l1 l2 l3 l4 h
else
 if (v2 &&& (63 : Int32)) = (15 : Int32) then
 F_Chk_law2_b1098 k23 l0 l1 l2 l3 l4 h
else
 if (v2 &&& (63 : Int32)) = (16 : Int32) then
 F_Chk_law2_b1202 k23 l0 l1 l2 l3 l4 h
else
 if (v2 &&& (63 : Int32)) = (17 : Int32) then
 F_Chk_law2_b1270 k23 l0 l1 l2 l3 l4 h
else
 if (v2 &&& (63 : Int32)) = (18 : Int32) then
 F_Chk_law2_b1338 k23 l0 l1 l2 l3 l4 h
else
 if (v2 &&& (63 : Int32)) = (19 : Int32) then
 F_Chk_law2_b1418 k23 l0 l1 l2 l3 l4 h
else
 if (v2 &&& (63 : Int32)) = (20 : Int32) then
 F_Chk_law2_b1474 k23 l0 l1 l2 l3 l4 h
else
 if (v2 &&& (63 : Int32)) = (21 : Int32) then
 F_Chk_law2_b1530 k23 l0 l1 l2 l3 l4 h
else
 if (v2 &&& (63 : Int32)) = (22 : Int32) then
 F_Chk_law2_b1586 k23 l0 l1 l2 l3 l4 h
else
 if (v2 &&& (63 : Int32)) = (23 : Int32) then
 F_Chk_law2_b1654 k23 l0 l1 l2 l3 l4 h
else
 if (v2 &&& (63 : Int32)) = (24 : Int32) then
 F_Chk_law2_b1722 k23 l0 l1 l2 l3 l4 h
else
 if (v2 &&& (63 : Int32)) = (25 : Int32) then
 F_Chk_law2_b1735 k23 l0 l1 l2 l3 l4 h
else
 if (v2 &&& (63 : Int32)) = (26 : Int32) then
 F_Chk_law2_b1791 k23 l0 l1 l2 l3 l4 h
else
 if (v2 &&& (63 : Int32)) = (27 : Int32) then
 F_Chk_law2_b1804 k23 l0 l1 l2 l3 l4 h
else
 if (v2 &&& (63 : Int32)) = (28 : Int32) then
 F_Chk_law2_b1884 k23 l0 l1 l2 l3 l4 h
else
 if (v2 &&& (63 : Int32)) = (29 : Int32) then
 F_Chk_law2_b1940 k23 l0 l1 l2 l3 l4 h
else
 if (v2 &&& (63 : Int32)) = (30 : Int32) then
 F_Chk_law2_b1996 k23 l0 l1 l2 l3 l4 h
else
 if (v2 &&& (63 : Int32)) = (31 : Int32) then
 F_Chk_law2_b2052 k23 l0 l1 l2 l3 l4 h
else
 if (v2 &&& (63 : Int32)) = (32 : Int32) then
 F_Chk_law2_b2065 k23 l0 l1 l2 l3 l4 h
else
 if (v2 &&& (63 : Int32)) = (33 : Int32) then
 F_Chk_law2_b2133 k23 l0 l1 l2 l3 l4 h
else
 if (v2 &&& (63 : Int32)) = (34 : Int32) then
 F_Chk_law2_b2225 k23 l0 l1 l2 l3 l4 h
else
 if (v2 &&& (63 : Int32)) = (35 : Int32) then
 F_Chk_law2_b2329 k23 l0 l1 l2 l3 l4 h
else
 if (v2 &&& (63 : Int32)) = (36 : Int32) then
 F_Chk_law2_b2342 k23 l0 l1 l2 l3 l4 h
else
 if (v2 &&& (63 : Int32)) = (37 : Int32) then
 F_Chk_law2_b2355 k23 l0 l1 l2 l3 l4 h
else
 if (v2 &&& (63 : Int32)) = (38 : Int32) then
 F_Chk_law2_b2380 k23 l0 l1 l2 l3 l4 h
else
 F_Chk_law2_b2405 k23 l0 l1 l2 l3 l4 h
set_option maxHeartbeats 8000000 in
set_option maxRecDepth 100000 in
theorem F_Chk_law2_c23_ok {d : Nat} {q : (Int32 × LH)} {k23 : Nat → Nat → Nat → Nat → Int32 → LH → Option (Int32 × LH)} (hd : 201 ≤ d) (hk23 : ∀ (l0 : Nat) (l1 : Nat) (l2 : Nat) (l3 : Nat) (l4 : Int32) (u5 : Value) (u6 : Value) (h : LH), k23 l0 l1 l2 l3 l4 h = some q → JR d jM_320 23 [.ref l0, .ref l1, .ref l2, .ref l3, .int l4, u5, u6] [] h (jo_i q)) {l0 : Nat} {l1 : Nat} {l2 : Nat} {l3 : Nat} {l4 : Int32} {u5 : Value} {u6 : Value} {h : LH} : F_Chk_law2_c23 k23 l0 l1 l2 l3 l4 h = some q → JR d jM_320 23 [.ref l0, .ref l1, .ref l2, .ref l3, .int l4, u5, u6] [] h (jo_i q) := by
 unfold F_Chk_law2_c23
 exact jr_iload 23 25 rfl rfl rfl
  (jr_aloadn 25 26 rfl rfl rfl
  (jr_al 26 27 rfl rfl (fun v1 =>
  jr_bipush 27 29 (6 : Int32) rfl jc_b_6 rfl
  (jr_isub 29 30 rfl rfl
  (jr_icmp_gt 30 2411 33 rfl rfl rfl
  (jr_iconst 2411 2412 (1 : Int32) rfl jc_i_1 rfl
  (jr_rz 2412 rfl rfl))
  (jr_aloadn 33 34 rfl rfl rfl
  (jr_iload 34 36 rfl rfl rfl
  (jr_ia 36 37 rfl rfl (fun v2 =>
  jr_bipush 37 39 (63 : Int32) rfl jc_b_63 rfl
  (jr_iand 39 40 rfl rfl
  (jr_ite (fun hx40_0 => jr_tsI 40 212 hx40_0 rfl rfl rfl rfl
  ((F_Chk_law2_b212_ok hd hk23)))
  (fun hx40_0 =>
  jr_ite (fun hx40_1 => jr_tsI 40 285 hx40_1 rfl rfl rfl rfl
  ((F_Chk_law2_b285_ok hd hk23)))
  (fun hx40_1 =>
  jr_ite (fun hx40_2 => jr_tsI 40 341 hx40_2 rfl rfl rfl rfl
  ((F_Chk_law2_b341_ok hd hk23)))
  (fun hx40_2 =>
  jr_ite (fun hx40_3 => jr_tsI 40 397 hx40_3 rfl rfl rfl rfl
  ((F_Chk_law2_b397_ok hd hk23)))
  (fun hx40_3 =>
  jr_ite (fun hx40_4 => jr_tsI 40 453 hx40_4 rfl rfl rfl rfl
  ((F_Chk_law2_b453_ok hd hk23)))
  (fun hx40_4 =>
  jr_ite (fun hx40_5 => jr_tsI 40 509 hx40_5 rfl rfl rfl rfl
  ((F_Chk_law2_b509_ok hd hk23)))
  (fun hx40_5 =>
  jr_ite (fun hx40_6 => jr_tsI 40 522 hx40_6 rfl rfl rfl rfl
  ((F_Chk_law2_b522_ok hd hk23)))
  (fun hx40_6 =>
  jr_ite (fun hx40_7 => jr_tsI 40 535 hx40_7 rfl rfl rfl rfl
  ((F_Chk_law2_b535_ok hd hk23)))
  (fun hx40_7 =>
  jr_ite (fun hx40_8 => jr_tsI 40 591 hx40_8 rfl rfl rfl rfl
  ((F_Chk_law2_b591_ok hd hk23)))
  (fun hx40_8 =>
  jr_ite (fun hx40_9 => jr_tsI 40 659 hx40_9 rfl rfl rfl rfl
  ((F_Chk_law2_b659_ok hd hk23)))
  (fun hx40_9 =>
  jr_ite (fun hx40_10 => jr_tsI 40 727 hx40_10 rfl rfl rfl rfl
  ((F_Chk_law2_b727_ok hd hk23)))
  (fun hx40_10 =>
  jr_ite (fun hx40_11 => jr_tsI 40 795 hx40_11 rfl rfl rfl rfl
  ((F_Chk_law2_b795_ok hd hk23)))
  (fun hx40_11 =>
  jr_ite (fun hx40_12 => jr_tsI 40 875 hx40_12 rfl rfl rfl rfl
  ((F_Chk_law2_b875_ok hd hk23)))
  (fun hx40_12 =>
  jr_ite (fun hx40_13 => jr_tsI 40 962 hx40_13 rfl rfl rfl rfl
  ((F_Chk_law2_b962_ok hd hk23)))
  (fun hx40_13 =>
  jr_ite (fun hx40_14 => jr_tsI 40 1030 hx40_14 rfl rfl rfl rfl
  ((F_Chk_law2_b1030_ok hd hk23)))
  (fun hx40_14 =>
  jr_ite (fun hx40_15 => jr_tsI 40 1098 hx40_15 rfl rfl rfl rfl
  ((F_Chk_law2_b1098_ok hd hk23)))
  (fun hx40_15 =>
  jr_ite (fun hx40_16 => jr_tsI 40 1202 hx40_16 rfl rfl rfl rfl
  ((F_Chk_law2_b1202_ok hd hk23)))
  (fun hx40_16 =>
  jr_ite (fun hx40_17 => jr_tsI 40 1270 hx40_17 rfl rfl rfl rfl
  ((F_Chk_law2_b1270_ok hd hk23)))
  (fun hx40_17 =>
  jr_ite (fun hx40_18 => jr_tsI 40 1338 hx40_18 rfl rfl rfl rfl
  ((F_Chk_law2_b1338_ok hd hk23)))
  (fun hx40_18 =>
  jr_ite (fun hx40_19 => jr_tsI 40 1418 hx40_19 rfl rfl rfl rfl
  ((F_Chk_law2_b1418_ok hd hk23)))
  (fun hx40_19 =>
  jr_ite (fun hx40_20 => jr_tsI 40 1474 hx40_20 rfl rfl rfl rfl
  ((F_Chk_law2_b1474_ok hd hk23)))
  (fun hx40_20 =>
  jr_ite (fun hx40_21 => jr_tsI 40 1530 hx40_21 rfl rfl rfl rfl
  ((F_Chk_law2_b1530_ok hd hk23)))
  (fun hx40_21 =>
  jr_ite (fun hx40_22 => jr_tsI 40 1586 hx40_22 rfl rfl rfl rfl
  ((F_Chk_law2_b1586_ok hd hk23)))
  (fun hx40_22 =>
  jr_ite (fun hx40_23 => jr_tsI 40 1654 hx40_23 rfl rfl rfl rfl
  ((F_Chk_law2_b1654_ok hd hk23)))
  (fun hx40_23 =>
  jr_ite (fun hx40_24 => jr_tsI 40 1722 hx40_24 rfl rfl rfl rfl
  ((F_Chk_law2_b1722_ok hd hk23)))
  (fun hx40_24 =>
  jr_ite (fun hx40_25 => jr_tsI 40 1735 hx40_25 rfl rfl rfl rfl
  ((F_Chk_law2_b1735_ok hd hk23)))
  (fun hx40_25 =>
  jr_ite (fun hx40_26 => jr_tsI 40 1791 hx40_26 rfl rfl rfl rfl
  ((F_Chk_law2_b1791_ok hd hk23)))
  (fun hx40_26 =>
  jr_ite (fun hx40_27 => jr_tsI 40 1804 hx40_27 rfl rfl rfl rfl
  ((F_Chk_law2_b1804_ok hd hk23)))
  (fun hx40_27 =>
  jr_ite (fun hx40_28 => jr_tsI 40 1884 hx40_28 rfl rfl rfl rfl
  ((F_Chk_law2_b1884_ok hd hk23)))
  (fun hx40_28 =>
  jr_ite (fun hx40_29 => jr_tsI 40 1940 hx40_29 rfl rfl rfl rfl
  ((F_Chk_law2_b1940_ok hd hk23)))
  (fun hx40_29 =>
  jr_ite (fun hx40_30 => jr_tsI 40 1996 hx40_30 rfl rfl rfl rfl
  ((F_Chk_law2_b1996_ok hd hk23)))
  (fun hx40_30 =>
  jr_ite (fun hx40_31 => jr_tsI 40 2052 hx40_31 rfl rfl rfl rfl
  ((F_Chk_law2_b2052_ok hd hk23)))
  (fun hx40_31 =>
  jr_ite (fun hx40_32 => jr_tsI 40 2065 hx40_32 rfl rfl rfl rfl
  ((F_Chk_law2_b2065_ok hd hk23)))
  (fun hx40_32 =>
  jr_ite (fun hx40_33 => jr_tsI 40 2133 hx40_33 rfl rfl rfl rfl
  ((F_Chk_law2_b2133_ok hd hk23)))
  (fun hx40_33 =>
  jr_ite (fun hx40_34 => jr_tsI 40 2225 hx40_34 rfl rfl rfl rfl
  ((F_Chk_law2_b2225_ok hd hk23)))
  (fun hx40_34 =>
  jr_ite (fun hx40_35 => jr_tsI 40 2329 hx40_35 rfl rfl rfl rfl
  ((F_Chk_law2_b2329_ok hd hk23)))
  (fun hx40_35 =>
  jr_ite (fun hx40_36 => jr_tsI 40 2342 hx40_36 rfl rfl rfl rfl
  ((F_Chk_law2_b2342_ok hd hk23)))
  (fun hx40_36 =>
  jr_ite (fun hx40_37 => jr_tsI 40 2355 hx40_37 rfl rfl rfl rfl
  ((F_Chk_law2_b2355_ok hd hk23)))
  (fun hx40_37 =>
  jr_ite (fun hx40_38 => jr_tsI 40 2380 hx40_38 rfl rfl rfl rfl
  ((F_Chk_law2_b2380_ok hd hk23)))
  (fun hx40_38 =>
  jr_tsD 40 2405 rfl (by have := jr_ne (k := 0) jc_t_0 hx40_0; have := jr_ne (k := 1) jc_t_1 hx40_1; have := jr_ne (k := 2) jc_t_2 hx40_2; have := jr_ne (k := 3) jc_t_3 hx40_3; have := jr_ne (k := 4) jc_t_4 hx40_4; have := jr_ne (k := 5) jc_t_5 hx40_5; have := jr_ne (k := 6) jc_t_6 hx40_6; have := jr_ne (k := 7) jc_t_7 hx40_7; have := jr_ne (k := 8) jc_t_8 hx40_8; have := jr_ne (k := 9) jc_t_9 hx40_9; have := jr_ne (k := 10) jc_t_10 hx40_10; have := jr_ne (k := 11) jc_t_11 hx40_11; have := jr_ne (k := 12) jc_t_12 hx40_12; have := jr_ne (k := 13) jc_t_13 hx40_13; have := jr_ne (k := 14) jc_t_14 hx40_14; have := jr_ne (k := 15) jc_t_15 hx40_15; have := jr_ne (k := 16) jc_t_16 hx40_16; have := jr_ne (k := 17) jc_t_17 hx40_17; have := jr_ne (k := 18) jc_t_18 hx40_18; have := jr_ne (k := 19) jc_t_19 hx40_19; have := jr_ne (k := 20) jc_t_20 hx40_20; have := jr_ne (k := 21) jc_t_21 hx40_21; have := jr_ne (k := 22) jc_t_22 hx40_22; have := jr_ne (k := 23) jc_t_23 hx40_23; have := jr_ne (k := 24) jc_t_24 hx40_24; have := jr_ne (k := 25) jc_t_25 hx40_25; have := jr_ne (k := 26) jc_t_26 hx40_26; have := jr_ne (k := 27) jc_t_27 hx40_27; have := jr_ne (k := 28) jc_t_28 hx40_28; have := jr_ne (k := 29) jc_t_29 hx40_29; have := jr_ne (k := 30) jc_t_30 hx40_30; have := jr_ne (k := 31) jc_t_31 hx40_31; have := jr_ne (k := 32) jc_t_32 hx40_32; have := jr_ne (k := 33) jc_t_33 hx40_33; have := jr_ne (k := 34) jc_t_34 hx40_34; have := jr_ne (k := 35) jc_t_35 hx40_35; have := jr_ne (k := 36) jc_t_36 hx40_36; have := jr_ne (k := 37) jc_t_37 hx40_37; have := jr_ne (k := 38) jc_t_38 hx40_38; omega) rfl
  ((F_Chk_law2_b2405_ok hd hk23))))))))))))))))))))))))))))))))))))))))))))))))))))
noncomputable def F_Chk_law2_l23 : Nat → Nat → Nat → Nat → Nat → Int32 → LH → Option (Int32 × LH)
 | 0, _, _, _, _, _, _ => none
 | n + 1, l0, l1, l2, l3, l4, h => F_Chk_law2_c23 (F_Chk_law2_l23 n) l0 l1 l2 l3 l4 h
theorem F_Chk_law2_l23_ok {d : Nat} {q : (Int32 × LH)} (hd : 201 ≤ d) : ∀ (n : Nat) (l0 : Nat) (l1 : Nat) (l2 : Nat) (l3 : Nat) (l4 : Int32) (u5 : Value) (u6 : Value) (h : LH), F_Chk_law2_l23 n l0 l1 l2 l3 l4 h = some q → JR d jM_320 23 [.ref l0, .ref l1, .ref l2, .ref l3, .int l4, u5, u6] [] h (jo_i q)
 | 0 => fun _ _ _ _ _ _ _ _ hq => nomatch (show (none : Option (Int32 × LH)) = some q from hq)
 | n + 1 => fun _ _ _ _ _ _ _ _ hq => F_Chk_law2_c23_ok hd (F_Chk_law2_l23_ok hd n) hq
noncomputable def F_Chk_law2 (l0 : Nat) (h : LH) : Option (Int32 × LH) :=
 jf_nw h 10 18 fun v1 h2 =>
 jf_kd h2 v1 10
 ((F_SG_init v1 h2).bind fun h3 =>
 jf_nw h3 11 53 fun v4 h5 =>
 jf_kd h5 v4 11
 ((F_Mod_init v4 h5).bind fun h6 =>
 jf_na h6 23 (1 : Int32) fun v7 h8 =>
 F_Chk_law2_l23  jF l0 v1 v4 v7 (0 : Int32) h8))
set_option maxRecDepth 100000 in
theorem F_Chk_law2_ok {d : Nat} (hd : 202 ≤ d) {l0 : Nat} {h : LH} {q : (Int32 × LH)} : F_Chk_law2 l0 h = some q → jl_Sem jt_T jt_Ms d 320 [.ref l0] h (jo_i q) := by
 unfold F_Chk_law2
 exact jr_enter (D := 201) hd jM_320_at rfl rfl rfl (fun d hd =>
  jr_nw 0 3 rfl rfl rfl rfl rfl (fun v1 h2 =>
  jr_dup 3 4 rfl rfl rfl
  (jr_cIv 4 7 [.ref v1] rfl rfl rfl rfl rfl rfl rfl rfl (as := []) (F_SG_init_ok (Nat.le_trans (by decide : 4 ≤ 201) hd)) (fun h3 =>
  jr_astoren 7 8 [.ref l0, .ref v1, .retAddr 0, .retAddr 0, .retAddr 0, .retAddr 0, .retAddr 0] rfl rfl rfl rfl
  (jr_nw 8 11 rfl rfl rfl rfl rfl (fun v4 h5 =>
  jr_dup 11 12 rfl rfl rfl
  (jr_cIv 12 15 [.ref v4] rfl rfl rfl rfl rfl rfl rfl rfl (as := []) (F_Mod_init_ok (Nat.le_trans (by decide : 3 ≤ 201) hd)) (fun h6 =>
  jr_astoren 15 16 [.ref l0, .ref v1, .ref v4, .retAddr 0, .retAddr 0, .retAddr 0, .retAddr 0] rfl rfl rfl rfl
  (jr_iconst 16 17 (1 : Int32) rfl jc_i_1 rfl
  (jr_na 17 19 rfl rfl rfl rfl (fun v7 h8 =>
  jr_astoren 19 20 [.ref l0, .ref v1, .ref v4, .ref v7, .retAddr 0, .retAddr 0, .retAddr 0] rfl rfl rfl rfl
  (jr_iconst 20 21 (0 : Int32) rfl jc_i_0 rfl
  (jr_istore 21 23 [.ref l0, .ref v1, .ref v4, .ref v7, .int (0 : Int32), .retAddr 0, .retAddr 0] rfl rfl rfl rfl
  ((F_Chk_law2_l23_ok hd  jF _ _ _ _ _ _ _ _)))))))))))))))
