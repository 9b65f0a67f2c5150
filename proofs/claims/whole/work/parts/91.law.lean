set_option maxHeartbeats 4000000 in
set_option maxRecDepth 100000 in
theorem law_feed (l : Launch) (g : GG) (x hm b L : Nat) (xs : Nat → Int32) : LawCase l g x hm b L xs 184 := by
  intro p e s m args below meth c Q Aw i w H locs ls cells slots hC hK hX hbl hbA hL hi hcc hW hS hl K
  obtain ⟨ad, F, A, E, tl, S, nm, T, nt, nd, ar, F2, A2, hx, hw, hSA, hLI⟩ := hW
  subst hx
  rw [hw] at hS
  have hLI0 := hLI
  obtain ⟨hSh, hInv, h66, h3, hTk, hld, hcd, hde, htE, htr⟩ := hLI0
  have hInv0 := hInv
  obtain ⟨hI, hH, hL0, hC0, hG, hTS, hMI⟩ := hInv0
  have h5 := hTS.2.1; have hq2 := hL0.1; have hq3 := hL0.2.1; have hq4 := hL0.2.2.1; have hD0 := hI.1
  have htq : F 1 = F2 24 := htE.1
  obtain ⟨v1, hv1⟩ : ∃ z : Int, z = xI xs (i + 1) := ⟨_, rfl⟩
  have hr1 : rng v1 := by rw [hv1]; exact xI_rng _ _
  refine li_aload_n hC hl 1 rfl dL_law_184 ?_
  refine li_aload_n hC hl 0 rfl dL_law_185 ?_
  refine li_iload_n hC hl 3 rfl dL_law_186 ?_
  refine li_iconst hC dL_law_187 ?_
  refine li_iadd hC dL_law_188 ?_
  refine li_sld hC hX hbl hbA hS.2.2 (by omega) hL dL_law_189 ?_
  rw [← hv1]
  refine fr_callVi hC (c_X11_feed l g ad F A E tl S nm hSh hI v1 hr1 hH (by omega) (by omega) (by omega) (by omega) _) mk_X11_feed ml_L_13 ⟨Nat.le_of_ble_eq_true rfl, Nat.le_of_ble_eq_true rfl⟩ ⟨by show cells + 0 ≤ 600000; omega, by show slots + 0 ≤ 7302250; omega⟩ hK hS (li_recv hK.1 ck_X11 (hS.1 0 _ rfl)) rfl hl.1 rfl (Nat.le_of_ble_eq_true rfl) dL_law_190 (fun v w H locs hp hS => ?_)
  obtain ⟨hv, Fc, Ac, hw9, hkp, hsh⟩ := hp
  rw [hw9] at hS; rw [hv]
  refine li_aload_n hC hl 2 rfl dL_law_193 ?_
  refine li_aload_n hC hl 0 rfl dL_law_194 ?_
  refine li_iload_n hC hl 3 rfl dL_law_195 ?_
  refine li_iconst hC dL_law_196 ?_
  refine li_iadd hC dL_law_197 ?_
  refine li_sld hC hX hbl hbA hS.2.2 (by omega) hL dL_law_198 ?_
  rw [← hv1]
  have hS := st_swap hS
  refine fr_callVi hC (c_X12_feed l g hm ar F2 A2 S hSA v1 hr1 (by omega) _) mk_X12_feed ml_L_17 ⟨Nat.le_of_ble_eq_true rfl, Nat.le_of_ble_eq_true rfl⟩ ⟨by show cells + 0 + 0 ≤ 600000; omega, by show slots + 0 + 0 ≤ 7302250; omega⟩ hK hS (li_recv hK.1 ck_X12 (hS.1 0 _ rfl)) rfl hl.1 rfl (Nat.le_of_ble_eq_true rfl) dL_law_199 (fun v w H locs hp hS => ?_)
  obtain ⟨hv, hw9⟩ := hp
  rw [hw9] at hS; rw [hv]
  have hS := st_swap hS
  refine li_same (tgt := 1154) hC (by decide) dL_law_202 ?_
  exact K _ _ _ _ _ _ ⟨ad, Fc, Ac, E, tl, (feedS S v1), nm, T, nt, nd, ar, F2, (va_up A2 1 (feedS S v1)), rfl, rfl, rfl, lw_ref (lw_step hLI hkp hsh (inv_feed hInv v1)) rfl rfl rfl rfl⟩ hS hl (by omega) (by omega)
set_option maxHeartbeats 4000000 in
set_option maxRecDepth 100000 in
theorem law_map (l : Launch) (g : GG) (x hm b L : Nat) (xs : Nat → Int32) : LawCase l g x hm b L xs 207 := by
  intro p e s m args below meth c Q Aw i w H locs ls cells slots hC hK hX hbl hbA hL hi hcc hW hS hl K
  obtain ⟨ad, F, A, E, tl, S, nm, T, nt, nd, ar, F2, A2, hx, hw, hSA, hLI⟩ := hW
  subst hx
  rw [hw] at hS
  have hLI0 := hLI
  obtain ⟨hSh, hInv, h66, h3, hTk, hld, hcd, hde, htE, htr⟩ := hLI0
  have hInv0 := hInv
  obtain ⟨hI, hH, hL0, hC0, hG, hTS, hMI⟩ := hInv0
  have h5 := hTS.2.1; have hq2 := hL0.1; have hq3 := hL0.2.1; have hq4 := hL0.2.2.1; have hD0 := hI.1
  have htq : F 1 = F2 24 := htE.1
  refine li_aload_n hC hl 1 rfl dL_law_207 ?_
  refine fr_callVi hC (c_X11_map l g ad F A E tl S nm hSh hI hH (by omega) (by omega) (by omega) (by omega) hTS hMI hC0 _) mk_X11_map ml_L_18 ⟨Nat.le_of_ble_eq_true rfl, Nat.le_of_ble_eq_true rfl⟩ ⟨by show cells + 0 ≤ 600000; omega, by show slots + 0 ≤ 7302250; omega⟩ hK hS (li_recv hK.1 ck_X11 (hS.1 0 _ rfl)) rfl hl.1 rfl (Nat.le_of_ble_eq_true rfl) dL_law_208 (fun v w H locs hp hS => ?_)
  obtain ⟨hv, Fc, Ac, hw9, hkp, hsh⟩ := hp
  rw [hw9] at hS; rw [hv]
  refine li_aload_n hC hl 2 rfl dL_law_211 ?_
  have hS := st_swap hS
  refine fr_callVi hC (c_X12_map l g hm ar F2 A2 S hSA hTS _) mk_X12_map ml_L_22 ⟨Nat.le_of_ble_eq_true rfl, Nat.le_of_ble_eq_true rfl⟩ ⟨by show cells + 0 + 0 ≤ 600000; omega, by show slots + 0 + 0 ≤ 7302250; omega⟩ hK hS (li_recv hK.1 ck_X12 (hS.1 0 _ rfl)) rfl hl.1 rfl (Nat.le_of_ble_eq_true rfl) dL_law_212 (fun v w H locs hp hS => ?_)
  obtain ⟨hv, Fr, ⟨hf3, hf24⟩, hw9⟩ := hp
  rw [hw9] at hS; rw [hv]
  have hS := st_swap hS
  refine li_same (tgt := 1154) hC (by decide) dL_law_215 ?_
  exact K _ _ _ _ _ _ ⟨ad, Fc, Ac, E, tl, (mapS S), nm, T, nt, nd, ar, Fr, (va_up A2 1 (mapS S)), rfl, rfl, rfl, lw_ref (lw_step hLI hkp hsh (inv_map hInv)) hf3 hf24 rfl rfl⟩ hS hl (by omega) (by omega)
set_option maxHeartbeats 4000000 in
set_option maxRecDepth 100000 in
theorem law_dot (l : Launch) (g : GG) (x hm b L : Nat) (xs : Nat → Int32) : LawCase l g x hm b L xs 220 := by
  intro p e s m args below meth c Q Aw i w H locs ls cells slots hC hK hX hbl hbA hL hi hcc hW hS hl K
  obtain ⟨ad, F, A, E, tl, S, nm, T, nt, nd, ar, F2, A2, hx, hw, hSA, hLI⟩ := hW
  subst hx
  rw [hw] at hS
  have hLI0 := hLI
  obtain ⟨hSh, hInv, h66, h3, hTk, hld, hcd, hde, htE, htr⟩ := hLI0
  have hInv0 := hInv
  obtain ⟨hI, hH, hL0, hC0, hG, hTS, hMI⟩ := hInv0
  have h5 := hTS.2.1; have hq2 := hL0.1; have hq3 := hL0.2.1; have hq4 := hL0.2.2.1; have hD0 := hI.1
  have htq : F 1 = F2 24 := htE.1
  obtain ⟨v1, hv1⟩ : ∃ z : Int, z = xI xs (i + 1) := ⟨_, rfl⟩
  have hr1 : rng v1 := by rw [hv1]; exact xI_rng _ _
  obtain ⟨v2, hv2⟩ : ∃ z : Int, z = xI xs (i + 2) := ⟨_, rfl⟩
  have hr2 : rng v2 := by rw [hv2]; exact xI_rng _ _
  obtain ⟨v3, hv3⟩ : ∃ z : Int, z = xI xs (i + 3) := ⟨_, rfl⟩
  have hr3 : rng v3 := by rw [hv3]; exact xI_rng _ _
  obtain ⟨v4, hv4⟩ : ∃ z : Int, z = xI xs (i + 4) := ⟨_, rfl⟩
  have hr4 : rng v4 := by rw [hv4]; exact xI_rng _ _
  obtain ⟨v5, hv5⟩ : ∃ z : Int, z = xI xs (i + 5) := ⟨_, rfl⟩
  have hr5 : rng v5 := by rw [hv5]; exact xI_rng _ _
  refine li_aload_n hC hl 1 rfl dL_law_220 ?_
  refine li_aload_n hC hl 0 rfl dL_law_221 ?_
  refine li_iload_n hC hl 3 rfl dL_law_222 ?_
  refine li_iconst hC dL_law_223 ?_
  refine li_iadd hC dL_law_224 ?_
  refine li_sld hC hX hbl hbA hS.2.2 (by omega) hL dL_law_225 ?_
  rw [← hv1]
  refine li_aload_n hC hl 0 rfl dL_law_226 ?_
  refine li_iload_n hC hl 3 rfl dL_law_227 ?_
  refine li_iconst hC dL_law_228 ?_
  refine li_iadd hC dL_law_229 ?_
  refine li_sld hC hX hbl hbA hS.2.2 (by omega) hL dL_law_230 ?_
  rw [← hv2]
  refine li_aload_n hC hl 0 rfl dL_law_231 ?_
  refine li_iload_n hC hl 3 rfl dL_law_232 ?_
  refine li_iconst hC dL_law_233 ?_
  refine li_iadd hC dL_law_234 ?_
  refine li_sld hC hX hbl hbA hS.2.2 (by omega) hL dL_law_235 ?_
  rw [← hv3]
  refine li_aload_n hC hl 0 rfl dL_law_236 ?_
  refine li_iload_n hC hl 3 rfl dL_law_237 ?_
  refine li_iconst hC dL_law_238 ?_
  refine li_iadd hC dL_law_239 ?_
  refine li_sld hC hX hbl hbA hS.2.2 (by omega) hL dL_law_240 ?_
  rw [← hv4]
  refine li_aload_n hC hl 0 rfl dL_law_241 ?_
  refine li_iload_n hC hl 3 rfl dL_law_242 ?_
  refine li_iconst hC dL_law_243 ?_
  refine li_iadd hC dL_law_244 ?_
  refine li_sld hC hX hbl hbA hS.2.2 (by omega) hL dL_law_245 ?_
  rw [← hv5]
  refine fr_callVi hC (c_X11_dot l g ad F A E tl S nm hSh hI v1 v2 v3 v4 v5 hr1 hr2 hr3 hr4 hr5 hH (by omega) (by omega) (by omega) (by omega) nd hld hcd hde _) mk_X11_dot ml_L_23 ⟨Nat.le_of_ble_eq_true rfl, Nat.le_of_ble_eq_true rfl⟩ ⟨by show cells + 2 ≤ 600000; omega, by show slots + 16 ≤ 7302250; omega⟩ hK hS (li_recv hK.1 ck_X11 (hS.1 0 _ rfl)) rfl hl.1 rfl (Nat.le_of_ble_eq_true rfl) dL_law_246 (fun v w H locs hp hS => ?_)
  obtain ⟨hv, Fc, Ac, rc, tc, nm2, hw9, hkp, htl, hsh, hne, hls⟩ := hp
  rw [hw9] at hS; rw [hv]
  refine li_aload_n hC hl 2 rfl dL_law_249 ?_
  refine li_aload_n hC hl 0 rfl dL_law_250 ?_
  refine li_iload_n hC hl 3 rfl dL_law_251 ?_
  refine li_iconst hC dL_law_252 ?_
  refine li_iadd hC dL_law_253 ?_
  refine li_sld hC hX hbl hbA hS.2.2 (by omega) hL dL_law_254 ?_
  rw [← hv1]
  refine li_aload_n hC hl 0 rfl dL_law_255 ?_
  refine li_iload_n hC hl 3 rfl dL_law_256 ?_
  refine li_iconst hC dL_law_257 ?_
  refine li_iadd hC dL_law_258 ?_
  refine li_sld hC hX hbl hbA hS.2.2 (by omega) hL dL_law_259 ?_
  rw [← hv2]
  refine li_aload_n hC hl 0 rfl dL_law_260 ?_
  refine li_iload_n hC hl 3 rfl dL_law_261 ?_
  refine li_iconst hC dL_law_262 ?_
  refine li_iadd hC dL_law_263 ?_
  refine li_sld hC hX hbl hbA hS.2.2 (by omega) hL dL_law_264 ?_
  rw [← hv3]
  refine li_aload_n hC hl 0 rfl dL_law_265 ?_
  refine li_iload_n hC hl 3 rfl dL_law_266 ?_
  refine li_iconst hC dL_law_267 ?_
  refine li_iadd hC dL_law_268 ?_
  refine li_sld hC hX hbl hbA hS.2.2 (by omega) hL dL_law_269 ?_
  rw [← hv4]
  refine li_aload_n hC hl 0 rfl dL_law_270 ?_
  refine li_iload_n hC hl 3 rfl dL_law_271 ?_
  refine li_iconst hC dL_law_272 ?_
  refine li_iadd hC dL_law_273 ?_
  refine li_sld hC hX hbl hbA hS.2.2 (by omega) hL dL_law_274 ?_
  rw [← hv5]
  have hS := st_swap hS
  refine fr_callVi hC (c_X12_dot l g hm ar F2 A2 S hSA v1 v2 v3 v4 v5 hr1 hr2 hr3 hr4 hr5 hI _) mk_X12_dot ml_L_27 ⟨Nat.le_of_ble_eq_true rfl, Nat.le_of_ble_eq_true rfl⟩ ⟨by show cells + 2 + 0 ≤ 600000; omega, by show slots + 16 + 0 ≤ 7302250; omega⟩ hK hS (li_recv hK.1 ck_X12 (hS.1 0 _ rfl)) rfl hl.1 rfl (Nat.le_of_ble_eq_true rfl) dL_law_275 (fun v w H locs hp hS => ?_)
  obtain ⟨hv, hw9⟩ := hp
  rw [hw9] at hS; rw [hv]
  have hS := st_swap hS
  refine li_same (tgt := 1154) hC (by decide) dL_law_278 ?_
  exact K _ _ _ _ _ _ ⟨ad, Fc, Ac, (va_up E 0 rc), tc, (dotS S v1 v2 v3 v4 v5), nm2, T, nt, nd, ar, F2, (va_up A2 1 (dotS S v1 v2 v3 v4 v5)), rfl, rfl, rfl, lw_ref (lw_dot hLI hkp htl hsh hne hls (inv_dot hInv _ _ _ _ _)) rfl rfl rfl rfl⟩ hS hl (by omega) (by omega)
set_option maxHeartbeats 4000000 in
set_option maxRecDepth 100000 in
theorem law_of (l : Launch) (g : GG) (x hm b L : Nat) (xs : Nat → Int32) : LawCase l g x hm b L xs 283 := by
  intro p e s m args below meth c Q Aw i w H locs ls cells slots hC hK hX hbl hbA hL hi hcc hW hS hl K
  obtain ⟨ad, F, A, E, tl, S, nm, T, nt, nd, ar, F2, A2, hx, hw, hSA, hLI⟩ := hW
  subst hx
  rw [hw] at hS
  have hLI0 := hLI
  obtain ⟨hSh, hInv, h66, h3, hTk, hld, hcd, hde, htE, htr⟩ := hLI0
  have hInv0 := hInv
  obtain ⟨hI, hH, hL0, hC0, hG, hTS, hMI⟩ := hInv0
  have h5 := hTS.2.1; have hq2 := hL0.1; have hq3 := hL0.2.1; have hq4 := hL0.2.2.1; have hD0 := hI.1
  have htq : F 1 = F2 24 := htE.1
  obtain ⟨v1, hv1⟩ : ∃ z : Int, z = xI xs (i + 1) := ⟨_, rfl⟩
  have hr1 : rng v1 := by rw [hv1]; exact xI_rng _ _
  obtain ⟨v2, hv2⟩ : ∃ z : Int, z = xI xs (i + 2) := ⟨_, rfl⟩
  have hr2 : rng v2 := by rw [hv2]; exact xI_rng _ _
  refine li_aload_n hC hl 1 rfl dL_law_283 ?_
  refine li_aload_n hC hl 0 rfl dL_law_284 ?_
  refine li_iload_n hC hl 3 rfl dL_law_285 ?_
  refine li_iconst hC dL_law_286 ?_
  refine li_iadd hC dL_law_287 ?_
  refine li_sld hC hX hbl hbA hS.2.2 (by omega) hL dL_law_288 ?_
  rw [← hv1]
  refine li_aload_n hC hl 0 rfl dL_law_289 ?_
  refine li_iload_n hC hl 3 rfl dL_law_290 ?_
  refine li_iconst hC dL_law_291 ?_
  refine li_iadd hC dL_law_292 ?_
  refine li_sld hC hX hbl hbA hS.2.2 (by omega) hL dL_law_293 ?_
  rw [← hv2]
  refine ro_callVi hC (c_X11_of l g ad F A E tl S nm hSh hI v1 v2 hr1 hr2 hH) mk_X11_of ml_L_28 ⟨Nat.le_of_ble_eq_true rfl, Nat.le_of_ble_eq_true rfl⟩ ⟨by show cells ≤ 600000; omega, by show slots ≤ 7302250; omega⟩ hK.1 (hS.ro hK) (st_l hS).1 (li_recv hK.1 ck_X11 (hS.1 0 _ rfl)) rfl hl.1 rfl (Nat.le_of_ble_eq_true rfl) dL_law_294 ?_
  refine li_aload_n hC hl 2 rfl dL_law_297 ?_
  refine li_aload_n hC hl 0 rfl dL_law_298 ?_
  refine li_iload_n hC hl 3 rfl dL_law_299 ?_
  refine li_iconst hC dL_law_300 ?_
  refine li_iadd hC dL_law_301 ?_
  refine li_sld hC hX hbl hbA hS.2.2 (by omega) hL dL_law_302 ?_
  rw [← hv1]
  refine li_aload_n hC hl 0 rfl dL_law_303 ?_
  refine li_iload_n hC hl 3 rfl dL_law_304 ?_
  refine li_iconst hC dL_law_305 ?_
  refine li_iadd hC dL_law_306 ?_
  refine li_sld hC hX hbl hbA hS.2.2 (by omega) hL dL_law_307 ?_
  rw [← hv2]
  refine ro_callVi hC (c_X12_of l g hm S v1 v2 hr1 hr2 hI hH) mk_X12_of ml_L_32 ⟨Nat.le_of_ble_eq_true rfl, Nat.le_of_ble_eq_true rfl⟩ ⟨by show cells ≤ 600000; omega, by show slots ≤ 7302250; omega⟩ hK.1 (hS.ro hK) (show RPic g hm S H by rw [← hSA]; exact RW_pic (st_r hS)) (li_recv hK.1 ck_X12 ((st_r hS).1 0 _ rfl)) rfl hl.1 rfl (Nat.le_of_ble_eq_true rfl) dL_law_308 ?_
  refine li_same (tgt := 1154) hC (by decide) dL_law_311 ?_
  exact K _ _ _ _ _ _ ⟨ad, F, A, E, tl, S, nm, T, nt, nd, ar, F2, A2, rfl, rfl, hSA, hLI⟩ hS hl (by omega) (by omega)
set_option maxHeartbeats 4000000 in
set_option maxRecDepth 100000 in
theorem law_row (l : Launch) (g : GG) (x hm b L : Nat) (xs : Nat → Int32) : LawCase l g x hm b L xs 316 := by
  intro p e s m args below meth c Q Aw i w H locs ls cells slots hC hK hX hbl hbA hL hi hcc hW hS hl K
  obtain ⟨ad, F, A, E, tl, S, nm, T, nt, nd, ar, F2, A2, hx, hw, hSA, hLI⟩ := hW
  subst hx
  rw [hw] at hS
  have hLI0 := hLI
  obtain ⟨hSh, hInv, h66, h3, hTk, hld, hcd, hde, htE, htr⟩ := hLI0
  have hInv0 := hInv
  obtain ⟨hI, hH, hL0, hC0, hG, hTS, hMI⟩ := hInv0
  have h5 := hTS.2.1; have hq2 := hL0.1; have hq3 := hL0.2.1; have hq4 := hL0.2.2.1; have hD0 := hI.1
  have htq : F 1 = F2 24 := htE.1
  obtain ⟨v1, hv1⟩ : ∃ z : Int, z = xI xs (i + 1) := ⟨_, rfl⟩
  have hr1 : rng v1 := by rw [hv1]; exact xI_rng _ _
  obtain ⟨v2, hv2⟩ : ∃ z : Int, z = xI xs (i + 2) := ⟨_, rfl⟩
  have hr2 : rng v2 := by rw [hv2]; exact xI_rng _ _
  obtain ⟨v3, hv3⟩ : ∃ z : Int, z = xI xs (i + 3) := ⟨_, rfl⟩
  have hr3 : rng v3 := by rw [hv3]; exact xI_rng _ _
  refine li_aload_n hC hl 1 rfl dL_law_316 ?_
  refine li_aload_n hC hl 0 rfl dL_law_317 ?_
  refine li_iload_n hC hl 3 rfl dL_law_318 ?_
  refine li_iconst hC dL_law_319 ?_
  refine li_iadd hC dL_law_320 ?_
  refine li_sld hC hX hbl hbA hS.2.2 (by omega) hL dL_law_321 ?_
  rw [← hv1]
  refine li_aload_n hC hl 0 rfl dL_law_322 ?_
  refine li_iload_n hC hl 3 rfl dL_law_323 ?_
  refine li_iconst hC dL_law_324 ?_
  refine li_iadd hC dL_law_325 ?_
  refine li_sld hC hX hbl hbA hS.2.2 (by omega) hL dL_law_326 ?_
  rw [← hv2]
  refine li_aload_n hC hl 0 rfl dL_law_327 ?_
  refine li_iload_n hC hl 3 rfl dL_law_328 ?_
  refine li_iconst hC dL_law_329 ?_
  refine li_iadd hC dL_law_330 ?_
  refine li_sld hC hX hbl hbA hS.2.2 (by omega) hL dL_law_331 ?_
  rw [← hv3]
  refine fr_callVi hC (c_X11_row l g ad F A E tl S nm hSh hI v1 v2 v3 hr1 hr2 hr3 hH (by omega) (by omega) (by omega) (by omega) _) mk_X11_row ml_L_33 ⟨Nat.le_of_ble_eq_true rfl, Nat.le_of_ble_eq_true rfl⟩ ⟨by show cells + 0 ≤ 600000; omega, by show slots + 0 ≤ 7302250; omega⟩ hK hS (li_recv hK.1 ck_X11 (hS.1 0 _ rfl)) rfl hl.1 rfl (Nat.le_of_ble_eq_true rfl) dL_law_332 (fun v w H locs hp hS => ?_)
  obtain ⟨hv, Fc, Ac, hw9, hkp, hsh⟩ := hp
  rw [hw9] at hS; rw [hv]
  refine li_aload_n hC hl 2 rfl dL_law_335 ?_
  refine li_aload_n hC hl 0 rfl dL_law_336 ?_
  refine li_iload_n hC hl 3 rfl dL_law_337 ?_
  refine li_iconst hC dL_law_338 ?_
  refine li_iadd hC dL_law_339 ?_
  refine li_sld hC hX hbl hbA hS.2.2 (by omega) hL dL_law_340 ?_
  rw [← hv1]
  refine li_aload_n hC hl 0 rfl dL_law_341 ?_
  refine li_iload_n hC hl 3 rfl dL_law_342 ?_
  refine li_iconst hC dL_law_343 ?_
  refine li_iadd hC dL_law_344 ?_
  refine li_sld hC hX hbl hbA hS.2.2 (by omega) hL dL_law_345 ?_
  rw [← hv2]
  refine li_aload_n hC hl 0 rfl dL_law_346 ?_
  refine li_iload_n hC hl 3 rfl dL_law_347 ?_
  refine li_iconst hC dL_law_348 ?_
  refine li_iadd hC dL_law_349 ?_
  refine li_sld hC hX hbl hbA hS.2.2 (by omega) hL dL_law_350 ?_
  rw [← hv3]
  have hS := st_swap hS
  refine fr_callVi hC (c_X12_row l g hm ar F2 A2 S hSA v1 v2 v3 hr1 hr2 hr3 hI _) mk_X12_row ml_L_37 ⟨Nat.le_of_ble_eq_true rfl, Nat.le_of_ble_eq_true rfl⟩ ⟨by show cells + 0 + 0 ≤ 600000; omega, by show slots + 0 + 0 ≤ 7302250; omega⟩ hK hS (li_recv hK.1 ck_X12 (hS.1 0 _ rfl)) rfl hl.1 rfl (Nat.le_of_ble_eq_true rfl) dL_law_351 (fun v w H locs hp hS => ?_)
  obtain ⟨hv, hw9⟩ := hp
  rw [hw9] at hS; rw [hv]
  have hS := st_swap hS
  refine li_same (tgt := 1154) hC (by decide) dL_law_354 ?_
  exact K _ _ _ _ _ _ ⟨ad, Fc, Ac, E, tl, (rowFS S v1 v2 v3), nm, T, nt, nd, ar, F2, (va_up A2 1 (rowFS S v1 v2 v3)), rfl, rfl, rfl, lw_ref (lw_step hLI hkp hsh (inv_row hInv v1 v2 v3)) rfl rfl rfl rfl⟩ hS hl (by omega) (by omega)
set_option maxHeartbeats 4000000 in
set_option maxRecDepth 100000 in
theorem law_good (l : Launch) (g : GG) (x hm b L : Nat) (xs : Nat → Int32) : LawCase l g x hm b L xs 359 := by
  intro p e s m args below meth c Q Aw i w H locs ls cells slots hC hK hX hbl hbA hL hi hcc hW hS hl K
  obtain ⟨ad, F, A, E, tl, S, nm, T, nt, nd, ar, F2, A2, hx, hw, hSA, hLI⟩ := hW
  subst hx
  rw [hw] at hS
  have hLI0 := hLI
  obtain ⟨hSh, hInv, h66, h3, hTk, hld, hcd, hde, htE, htr⟩ := hLI0
  have hInv0 := hInv
  obtain ⟨hI, hH, hL0, hC0, hG, hTS, hMI⟩ := hInv0
  have h5 := hTS.2.1; have hq2 := hL0.1; have hq3 := hL0.2.1; have hq4 := hL0.2.2.1; have hD0 := hI.1
  have htq : F 1 = F2 24 := htE.1
  obtain ⟨v1, hv1⟩ : ∃ z : Int, z = xI xs (i + 1) := ⟨_, rfl⟩
  have hr1 : rng v1 := by rw [hv1]; exact xI_rng _ _
  obtain ⟨v2, hv2⟩ : ∃ z : Int, z = xI xs (i + 2) := ⟨_, rfl⟩
  have hr2 : rng v2 := by rw [hv2]; exact xI_rng _ _
  refine li_aload_n hC hl 1 rfl dL_law_359 ?_
  refine li_aload_n hC hl 0 rfl dL_law_360 ?_
  refine li_iload_n hC hl 3 rfl dL_law_361 ?_
  refine li_iconst hC dL_law_362 ?_
  refine li_iadd hC dL_law_363 ?_
  refine li_sld hC hX hbl hbA hS.2.2 (by omega) hL dL_law_364 ?_
  rw [← hv1]
  refine li_aload_n hC hl 0 rfl dL_law_365 ?_
  refine li_iload_n hC hl 3 rfl dL_law_366 ?_
  refine li_iconst hC dL_law_367 ?_
  refine li_iadd hC dL_law_368 ?_
  refine li_sld hC hX hbl hbA hS.2.2 (by omega) hL dL_law_369 ?_
  rw [← hv2]
  refine ro_callVi hC (c_X11_good l g ad F A E tl S nm hSh hI v1 v2 hr1 hr2 hH hC0 hG) mk_X11_good ml_L_38 ⟨Nat.le_of_ble_eq_true rfl, Nat.le_of_ble_eq_true rfl⟩ ⟨by show cells ≤ 600000; omega, by show slots ≤ 7302250; omega⟩ hK.1 (hS.ro hK) (st_l hS).1 (li_recv hK.1 ck_X11 (hS.1 0 _ rfl)) rfl hl.1 rfl (Nat.le_of_ble_eq_true rfl) dL_law_370 ?_
  refine li_aload_n hC hl 2 rfl dL_law_373 ?_
  refine li_aload_n hC hl 0 rfl dL_law_374 ?_
  refine li_iload_n hC hl 3 rfl dL_law_375 ?_
  refine li_iconst hC dL_law_376 ?_
  refine li_iadd hC dL_law_377 ?_
  refine li_sld hC hX hbl hbA hS.2.2 (by omega) hL dL_law_378 ?_
  rw [← hv1]
  refine li_aload_n hC hl 0 rfl dL_law_379 ?_
  refine li_iload_n hC hl 3 rfl dL_law_380 ?_
  refine li_iconst hC dL_law_381 ?_
  refine li_iadd hC dL_law_382 ?_
  refine li_sld hC hX hbl hbA hS.2.2 (by omega) hL dL_law_383 ?_
  rw [← hv2]
  have hS := st_swap hS
  refine fr_callVi hC (c_X12_good l g hm ar F2 A2 S hSA v1 v2 hr1 hr2 hI hH hC0 _) mk_X12_good ml_L_41 ⟨Nat.le_of_ble_eq_true rfl, Nat.le_of_ble_eq_true rfl⟩ ⟨by show cells + 0 ≤ 600000; omega, by show slots + 0 ≤ 7302250; omega⟩ hK hS (li_recv hK.1 ck_X12 (hS.1 0 _ rfl)) rfl hl.1 rfl (Nat.le_of_ble_eq_true rfl) dL_law_384 (fun v w H locs hp hS => ?_)
  obtain ⟨hv, f9, f10, hw9⟩ := hp
  rw [hw9] at hS; rw [hv]
  have hS := st_swap hS
  refine li_same (tgt := 1154) hC (by decide) dL_law_387 ?_
  exact K _ _ _ _ _ _ ⟨ad, F, A, E, tl, S, nm, T, nt, nd, ar, F2, (va_up (va_up A2 9 f9) 10 f10), rfl, rfl, hSA, lw_ref (hLI) rfl rfl rfl rfl⟩ hS hl (by omega) (by omega)
set_option maxHeartbeats 4000000 in
set_option maxRecDepth 100000 in
theorem law_lay (l : Launch) (g : GG) (x hm b L : Nat) (xs : Nat → Int32) : LawCase l g x hm b L xs 392 := by
  intro p e s m args below meth c Q Aw i w H locs ls cells slots hC hK hX hbl hbA hL hi hcc hW hS hl K
  obtain ⟨ad, F, A, E, tl, S, nm, T, nt, nd, ar, F2, A2, hx, hw, hSA, hLI⟩ := hW
  subst hx
  rw [hw] at hS
  have hLI0 := hLI
  obtain ⟨hSh, hInv, h66, h3, hTk, hld, hcd, hde, htE, htr⟩ := hLI0
  have hInv0 := hInv
  obtain ⟨hI, hH, hL0, hC0, hG, hTS, hMI⟩ := hInv0
  have h5 := hTS.2.1; have hq2 := hL0.1; have hq3 := hL0.2.1; have hq4 := hL0.2.2.1; have hD0 := hI.1
  have htq : F 1 = F2 24 := htE.1
  obtain ⟨v1, hv1⟩ : ∃ z : Int, z = xI xs (i + 1) := ⟨_, rfl⟩
  have hr1 : rng v1 := by rw [hv1]; exact xI_rng _ _
  obtain ⟨v2, hv2⟩ : ∃ z : Int, z = xI xs (i + 2) := ⟨_, rfl⟩
  have hr2 : rng v2 := by rw [hv2]; exact xI_rng _ _
  refine li_aload_n hC hl 1 rfl dL_law_392 ?_
  refine li_aload_n hC hl 0 rfl dL_law_393 ?_
  refine li_iload_n hC hl 3 rfl dL_law_394 ?_
  refine li_iconst hC dL_law_395 ?_
  refine li_iadd hC dL_law_396 ?_
  refine li_sld hC hX hbl hbA hS.2.2 (by omega) hL dL_law_397 ?_
  rw [← hv1]
  refine li_aload_n hC hl 0 rfl dL_law_398 ?_
  refine li_iload_n hC hl 3 rfl dL_law_399 ?_
  refine li_iconst hC dL_law_400 ?_
  refine li_iadd hC dL_law_401 ?_
  refine li_sld hC hX hbl hbA hS.2.2 (by omega) hL dL_law_402 ?_
  rw [← hv2]
  refine fr_callVi hC (c_X11_lay l g ad F A E tl S nm hSh hI v1 v2 hr1 hr2 hH (by omega) (by omega) (by omega) (by omega) _) mk_X11_lay ml_L_42 ⟨Nat.le_of_ble_eq_true rfl, Nat.le_of_ble_eq_true rfl⟩ ⟨by show cells + 0 ≤ 600000; omega, by show slots + 0 ≤ 7302250; omega⟩ hK hS (li_recv hK.1 ck_X11 (hS.1 0 _ rfl)) rfl hl.1 rfl (Nat.le_of_ble_eq_true rfl) dL_law_403 (fun v w H locs hp hS => ?_)
  obtain ⟨hv, Fc, Ac, hw9, hkp, hsh⟩ := hp
  rw [hw9] at hS; rw [hv]
  refine li_aload_n hC hl 2 rfl dL_law_406 ?_
  refine li_aload_n hC hl 0 rfl dL_law_407 ?_
  refine li_iload_n hC hl 3 rfl dL_law_408 ?_
  refine li_iconst hC dL_law_409 ?_
  refine li_iadd hC dL_law_410 ?_
  refine li_sld hC hX hbl hbA hS.2.2 (by omega) hL dL_law_411 ?_
  rw [← hv1]
  refine li_aload_n hC hl 0 rfl dL_law_412 ?_
  refine li_iload_n hC hl 3 rfl dL_law_413 ?_
  refine li_iconst hC dL_law_414 ?_
  refine li_iadd hC dL_law_415 ?_
  refine li_sld hC hX hbl hbA hS.2.2 (by omega) hL dL_law_416 ?_
  rw [← hv2]
  have hS := st_swap hS
  refine fr_callVi hC (c_X12_lay l g hm ar F2 A2 S hSA v1 v2 hr1 hr2 hI hH _) mk_X12_lay ml_L_45 ⟨Nat.le_of_ble_eq_true rfl, Nat.le_of_ble_eq_true rfl⟩ ⟨by show cells + 0 + 0 ≤ 600000; omega, by show slots + 0 + 0 ≤ 7302250; omega⟩ hK hS (li_recv hK.1 ck_X12 (hS.1 0 _ rfl)) rfl hl.1 rfl (Nat.le_of_ble_eq_true rfl) dL_law_417 (fun v w H locs hp hS => ?_)
  obtain ⟨hv, hw9⟩ := hp
  rw [hw9] at hS; rw [hv]
  have hS := st_swap hS
  refine li_same (tgt := 1154) hC (by decide) dL_law_420 ?_
  exact K _ _ _ _ _ _ ⟨ad, Fc, Ac, E, tl, (layS S v1 v2), nm, T, nt, nd, ar, F2, (va_up A2 1 (layS S v1 v2)), rfl, rfl, rfl, lw_ref (lw_step hLI hkp hsh (inv_lay hInv v1 v2)) rfl rfl rfl rfl⟩ hS hl (by omega) (by omega)
set_option maxHeartbeats 4000000 in
set_option maxRecDepth 100000 in
theorem law_lift (l : Launch) (g : GG) (x hm b L : Nat) (xs : Nat → Int32) : LawCase l g x hm b L xs 425 := by
  intro p e s m args below meth c Q Aw i w H locs ls cells slots hC hK hX hbl hbA hL hi hcc hW hS hl K
  obtain ⟨ad, F, A, E, tl, S, nm, T, nt, nd, ar, F2, A2, hx, hw, hSA, hLI⟩ := hW
  subst hx
  rw [hw] at hS
  have hLI0 := hLI
  obtain ⟨hSh, hInv, h66, h3, hTk, hld, hcd, hde, htE, htr⟩ := hLI0
  have hInv0 := hInv
  obtain ⟨hI, hH, hL0, hC0, hG, hTS, hMI⟩ := hInv0
  have h5 := hTS.2.1; have hq2 := hL0.1; have hq3 := hL0.2.1; have hq4 := hL0.2.2.1; have hD0 := hI.1
  have htq : F 1 = F2 24 := htE.1
  obtain ⟨v1, hv1⟩ : ∃ z : Int, z = xI xs (i + 1) := ⟨_, rfl⟩
  have hr1 : rng v1 := by rw [hv1]; exact xI_rng _ _
  refine li_aload_n hC hl 1 rfl dL_law_425 ?_
  refine li_aload_n hC hl 0 rfl dL_law_426 ?_
  refine li_iload_n hC hl 3 rfl dL_law_427 ?_
  refine li_iconst hC dL_law_428 ?_
  refine li_iadd hC dL_law_429 ?_
  refine li_sld hC hX hbl hbA hS.2.2 (by omega) hL dL_law_430 ?_
  rw [← hv1]
  refine fr_callVi hC (c_X11_lift l g ad F A E tl S nm hSh hI v1 hr1 hH (by omega) (by omega) (by omega) (by omega) _) mk_X11_lift ml_L_46 ⟨Nat.le_of_ble_eq_true rfl, Nat.le_of_ble_eq_true rfl⟩ ⟨by show cells + 0 ≤ 600000; omega, by show slots + 0 ≤ 7302250; omega⟩ hK hS (li_recv hK.1 ck_X11 (hS.1 0 _ rfl)) rfl hl.1 rfl (Nat.le_of_ble_eq_true rfl) dL_law_431 (fun v w H locs hp hS => ?_)
  obtain ⟨hv, Fc, Ac, hw9, hkp, hsh⟩ := hp
  rw [hw9] at hS; rw [hv]
  refine li_aload_n hC hl 2 rfl dL_law_434 ?_
  refine li_aload_n hC hl 0 rfl dL_law_435 ?_
  refine li_iload_n hC hl 3 rfl dL_law_436 ?_
  refine li_iconst hC dL_law_437 ?_
  refine li_iadd hC dL_law_438 ?_
  refine li_sld hC hX hbl hbA hS.2.2 (by omega) hL dL_law_439 ?_
  rw [← hv1]
  have hS := st_swap hS
  refine fr_callVi hC (c_X12_lift l g hm ar F2 A2 S hSA v1 hr1 hI _) mk_X12_lift ml_L_49 ⟨Nat.le_of_ble_eq_true rfl, Nat.le_of_ble_eq_true rfl⟩ ⟨by show cells + 0 + 0 ≤ 600000; omega, by show slots + 0 + 0 ≤ 7302250; omega⟩ hK hS (li_recv hK.1 ck_X12 (hS.1 0 _ rfl)) rfl hl.1 rfl (Nat.le_of_ble_eq_true rfl) dL_law_440 (fun v w H locs hp hS => ?_)
  obtain ⟨hv, hw9⟩ := hp
  rw [hw9] at hS; rw [hv]
  have hS := st_swap hS
  refine li_same (tgt := 1154) hC (by decide) dL_law_443 ?_
  exact K _ _ _ _ _ _ ⟨ad, Fc, Ac, E, tl, (liftS S v1), nm, T, nt, nd, ar, F2, (va_up A2 1 (liftS S v1)), rfl, rfl, rfl, lw_ref (lw_step hLI hkp hsh (inv_lift hInv v1)) rfl rfl rfl rfl⟩ hS hl (by omega) (by omega)
set_option maxHeartbeats 4000000 in
set_option maxRecDepth 100000 in
theorem law_told (l : Launch) (g : GG) (x hm b L : Nat) (xs : Nat → Int32) : LawCase l g x hm b L xs 448 := by
  intro p e s m args below meth c Q Aw i w H locs ls cells slots hC hK hX hbl hbA hL hi hcc hW hS hl K
  obtain ⟨ad, F, A, E, tl, S, nm, T, nt, nd, ar, F2, A2, hx, hw, hSA, hLI⟩ := hW
  subst hx
  rw [hw] at hS
  have hLI0 := hLI
  obtain ⟨hSh, hInv, h66, h3, hTk, hld, hcd, hde, htE, htr⟩ := hLI0
  have hInv0 := hInv
  obtain ⟨hI, hH, hL0, hC0, hG, hTS, hMI⟩ := hInv0
  have h5 := hTS.2.1; have hq2 := hL0.1; have hq3 := hL0.2.1; have hq4 := hL0.2.2.1; have hD0 := hI.1
  have htq : F 1 = F2 24 := htE.1
  obtain ⟨v1, hv1⟩ : ∃ z : Int, z = xI xs (i + 1) := ⟨_, rfl⟩
  have hr1 : rng v1 := by rw [hv1]; exact xI_rng _ _
  refine li_aload_n hC hl 1 rfl dL_law_448 ?_
  refine li_aload_n hC hl 0 rfl dL_law_449 ?_
  refine li_iload_n hC hl 3 rfl dL_law_450 ?_
  refine li_iconst hC dL_law_451 ?_
  refine li_iadd hC dL_law_452 ?_
  refine li_sld hC hX hbl hbA hS.2.2 (by omega) hL dL_law_453 ?_
  rw [← hv1]
  refine ro_callVi hC (c_X11_told l g ad F A E tl S nm hSh hI v1 hr1 hH hC0 hG) mk_X11_told ml_L_50 ⟨Nat.le_of_ble_eq_true rfl, Nat.le_of_ble_eq_true rfl⟩ ⟨by show cells ≤ 600000; omega, by show slots ≤ 7302250; omega⟩ hK.1 (hS.ro hK) (st_l hS).1 (li_recv hK.1 ck_X11 (hS.1 0 _ rfl)) rfl hl.1 rfl (Nat.le_of_ble_eq_true rfl) dL_law_454 ?_
  refine li_aload_n hC hl 2 rfl dL_law_457 ?_
  refine li_aload_n hC hl 0 rfl dL_law_458 ?_
  refine li_iload_n hC hl 3 rfl dL_law_459 ?_
  refine li_iconst hC dL_law_460 ?_
  refine li_iadd hC dL_law_461 ?_
  refine li_sld hC hX hbl hbA hS.2.2 (by omega) hL dL_law_462 ?_
  rw [← hv1]
  have hS := st_swap hS
  refine fr_callVi hC (c_X12_told l g hm ar F2 A2 S hSA v1 hr1 hI hH hC0 _) mk_X12_told ml_L_53 ⟨Nat.le_of_ble_eq_true rfl, Nat.le_of_ble_eq_true rfl⟩ ⟨by show cells + 0 ≤ 600000; omega, by show slots + 0 ≤ 7302250; omega⟩ hK hS (li_recv hK.1 ck_X12 (hS.1 0 _ rfl)) rfl hl.1 rfl (Nat.le_of_ble_eq_true rfl) dL_law_463 (fun v w H locs hp hS => ?_)
  obtain ⟨hv, f9, f10, hw9⟩ := hp
  rw [hw9] at hS; rw [hv]
  have hS := st_swap hS
  refine li_same (tgt := 1154) hC (by decide) dL_law_466 ?_
  exact K _ _ _ _ _ _ ⟨ad, F, A, E, tl, S, nm, T, nt, nd, ar, F2, (va_up (va_up A2 9 f9) 10 f10), rfl, rfl, hSA, lw_ref (hLI) rfl rfl rfl rfl⟩ hS hl (by omega) (by omega)
set_option maxHeartbeats 4000000 in
set_option maxRecDepth 100000 in
theorem law_clash (l : Launch) (g : GG) (x hm b L : Nat) (xs : Nat → Int32) : LawCase l g x hm b L xs 471 := by
  intro p e s m args below meth c Q Aw i w H locs ls cells slots hC hK hX hbl hbA hL hi hcc hW hS hl K
  obtain ⟨ad, F, A, E, tl, S, nm, T, nt, nd, ar, F2, A2, hx, hw, hSA, hLI⟩ := hW
  subst hx
  rw [hw] at hS
  have hLI0 := hLI
  obtain ⟨hSh, hInv, h66, h3, hTk, hld, hcd, hde, htE, htr⟩ := hLI0
  have hInv0 := hInv
  obtain ⟨hI, hH, hL0, hC0, hG, hTS, hMI⟩ := hInv0
  have h5 := hTS.2.1; have hq2 := hL0.1; have hq3 := hL0.2.1; have hq4 := hL0.2.2.1; have hD0 := hI.1
  have htq : F 1 = F2 24 := htE.1
  obtain ⟨v1, hv1⟩ : ∃ z : Int, z = xI xs (i + 1) := ⟨_, rfl⟩
  have hr1 : rng v1 := by rw [hv1]; exact xI_rng _ _
  obtain ⟨v2, hv2⟩ : ∃ z : Int, z = xI xs (i + 2) := ⟨_, rfl⟩
  have hr2 : rng v2 := by rw [hv2]; exact xI_rng _ _
  obtain ⟨v3, hv3⟩ : ∃ z : Int, z = xI xs (i + 3) := ⟨_, rfl⟩
  have hr3 : rng v3 := by rw [hv3]; exact xI_rng _ _
  obtain ⟨v4, hv4⟩ : ∃ z : Int, z = xI xs (i + 4) := ⟨_, rfl⟩
  have hr4 : rng v4 := by rw [hv4]; exact xI_rng _ _
  refine li_aload_n hC hl 1 rfl dL_law_471 ?_
  refine li_aload_n hC hl 0 rfl dL_law_472 ?_
  refine li_iload_n hC hl 3 rfl dL_law_473 ?_
  refine li_iconst hC dL_law_474 ?_
  refine li_iadd hC dL_law_475 ?_
  refine li_sld hC hX hbl hbA hS.2.2 (by omega) hL dL_law_476 ?_
  rw [← hv1]
  refine li_aload_n hC hl 0 rfl dL_law_477 ?_
  refine li_iload_n hC hl 3 rfl dL_law_478 ?_
  refine li_iconst hC dL_law_479 ?_
  refine li_iadd hC dL_law_480 ?_
  refine li_sld hC hX hbl hbA hS.2.2 (by omega) hL dL_law_481 ?_
  rw [← hv2]
  refine li_aload_n hC hl 0 rfl dL_law_482 ?_
  refine li_iload_n hC hl 3 rfl dL_law_483 ?_
  refine li_iconst hC dL_law_484 ?_
  refine li_iadd hC dL_law_485 ?_
  refine li_sld hC hX hbl hbA hS.2.2 (by omega) hL dL_law_486 ?_
  rw [← hv3]
  refine li_aload_n hC hl 0 rfl dL_law_487 ?_
  refine li_iload_n hC hl 3 rfl dL_law_488 ?_
  refine li_iconst hC dL_law_489 ?_
  refine li_iadd hC dL_law_490 ?_
  refine li_sld hC hX hbl hbA hS.2.2 (by omega) hL dL_law_491 ?_
  rw [← hv4]
  refine ro_callVi hC (c_X11_clash l g ad F A E tl S nm hSh hI v1 v2 v3 v4 hr1 hr2 hr3 hr4) mk_X11_clash ml_L_54 ⟨Nat.le_of_ble_eq_true rfl, Nat.le_of_ble_eq_true rfl⟩ ⟨by show cells ≤ 600000; omega, by show slots ≤ 7302250; omega⟩ hK.1 (hS.ro hK) (st_l hS).1 (li_recv hK.1 ck_X11 (hS.1 0 _ rfl)) rfl hl.1 rfl (Nat.le_of_ble_eq_true rfl) dL_law_492 ?_
  refine li_aload_n hC hl 2 rfl dL_law_495 ?_
  refine li_aload_n hC hl 0 rfl dL_law_496 ?_
  refine li_iload_n hC hl 3 rfl dL_law_497 ?_
  refine li_iconst hC dL_law_498 ?_
  refine li_iadd hC dL_law_499 ?_
  refine li_sld hC hX hbl hbA hS.2.2 (by omega) hL dL_law_500 ?_
  rw [← hv1]
  refine li_aload_n hC hl 0 rfl dL_law_501 ?_
  refine li_iload_n hC hl 3 rfl dL_law_502 ?_
  refine li_iconst hC dL_law_503 ?_
  refine li_iadd hC dL_law_504 ?_
  refine li_sld hC hX hbl hbA hS.2.2 (by omega) hL dL_law_505 ?_
  rw [← hv2]
  refine li_aload_n hC hl 0 rfl dL_law_506 ?_
  refine li_iload_n hC hl 3 rfl dL_law_507 ?_
  refine li_iconst hC dL_law_508 ?_
  refine li_iadd hC dL_law_509 ?_
  refine li_sld hC hX hbl hbA hS.2.2 (by omega) hL dL_law_510 ?_
  rw [← hv3]
  refine li_aload_n hC hl 0 rfl dL_law_511 ?_
  refine li_iload_n hC hl 3 rfl dL_law_512 ?_
  refine li_iconst hC dL_law_513 ?_
  refine li_iadd hC dL_law_514 ?_
  refine li_sld hC hX hbl hbA hS.2.2 (by omega) hL dL_law_515 ?_
  rw [← hv4]
  refine ro_callVi hC (c_X12_clash l g hm S v1 v2 v3 v4 hr1 hr2 hr3 hr4 hI) mk_X12_clash ml_L_58 ⟨Nat.le_of_ble_eq_true rfl, Nat.le_of_ble_eq_true rfl⟩ ⟨by show cells ≤ 600000; omega, by show slots ≤ 7302250; omega⟩ hK.1 (hS.ro hK) (show RPic g hm S H by rw [← hSA]; exact RW_pic (st_r hS)) (li_recv hK.1 ck_X12 ((st_r hS).1 0 _ rfl)) rfl hl.1 rfl (Nat.le_of_ble_eq_true rfl) dL_law_516 ?_
  refine li_same (tgt := 1154) hC (by decide) dL_law_519 ?_
  exact K _ _ _ _ _ _ ⟨ad, F, A, E, tl, S, nm, T, nt, nd, ar, F2, A2, rfl, rfl, hSA, hLI⟩ hS hl (by omega) (by omega)
set_option maxHeartbeats 4000000 in
set_option maxRecDepth 100000 in
theorem law_at (l : Launch) (g : GG) (x hm b L : Nat) (xs : Nat → Int32) : LawCase l g x hm b L xs 524 := by
  intro p e s m args below meth c Q Aw i w H locs ls cells slots hC hK hX hbl hbA hL hi hcc hW hS hl K
  obtain ⟨ad, F, A, E, tl, S, nm, T, nt, nd, ar, F2, A2, hx, hw, hSA, hLI⟩ := hW
  subst hx
  rw [hw] at hS
  have hLI0 := hLI
  obtain ⟨hSh, hInv, h66, h3, hTk, hld, hcd, hde, htE, htr⟩ := hLI0
  have hInv0 := hInv
  obtain ⟨hI, hH, hL0, hC0, hG, hTS, hMI⟩ := hInv0
  have h5 := hTS.2.1; have hq2 := hL0.1; have hq3 := hL0.2.1; have hq4 := hL0.2.2.1; have hD0 := hI.1
  have htq : F 1 = F2 24 := htE.1
  obtain ⟨v1, hv1⟩ : ∃ z : Int, z = xI xs (i + 1) := ⟨_, rfl⟩
  have hr1 : rng v1 := by rw [hv1]; exact xI_rng _ _
  obtain ⟨v2, hv2⟩ : ∃ z : Int, z = xI xs (i + 2) := ⟨_, rfl⟩
  have hr2 : rng v2 := by rw [hv2]; exact xI_rng _ _
  refine li_aload_n hC hl 1 rfl dL_law_524 ?_
  refine li_aload_n hC hl 0 rfl dL_law_525 ?_
  refine li_iload_n hC hl 3 rfl dL_law_526 ?_
  refine li_iconst hC dL_law_527 ?_
  refine li_iadd hC dL_law_528 ?_
  refine li_sld hC hX hbl hbA hS.2.2 (by omega) hL dL_law_529 ?_
  rw [← hv1]
  refine li_aload_n hC hl 0 rfl dL_law_530 ?_
  refine li_iload_n hC hl 3 rfl dL_law_531 ?_
  refine li_iconst hC dL_law_532 ?_
  refine li_iadd hC dL_law_533 ?_
  refine li_sld hC hX hbl hbA hS.2.2 (by omega) hL dL_law_534 ?_
  rw [← hv2]
  refine ro_callVi hC (c_X11_at l g ad F A E tl S nm hSh hI v1 v2 hr1 hr2) mk_X11_at ml_L_59 ⟨Nat.le_of_ble_eq_true rfl, Nat.le_of_ble_eq_true rfl⟩ ⟨by show cells ≤ 600000; omega, by show slots ≤ 7302250; omega⟩ hK.1 (hS.ro hK) (st_l hS).1 (li_recv hK.1 ck_X11 (hS.1 0 _ rfl)) rfl hl.1 rfl (Nat.le_of_ble_eq_true rfl) dL_law_535 ?_
  refine li_aload_n hC hl 2 rfl dL_law_538 ?_
  refine li_aload_n hC hl 0 rfl dL_law_539 ?_
  refine li_iload_n hC hl 3 rfl dL_law_540 ?_
  refine li_iconst hC dL_law_541 ?_
  refine li_iadd hC dL_law_542 ?_
  refine li_sld hC hX hbl hbA hS.2.2 (by omega) hL dL_law_543 ?_
  rw [← hv1]
  refine li_aload_n hC hl 0 rfl dL_law_544 ?_
  refine li_iload_n hC hl 3 rfl dL_law_545 ?_
  refine li_iconst hC dL_law_546 ?_
  refine li_iadd hC dL_law_547 ?_
  refine li_sld hC hX hbl hbA hS.2.2 (by omega) hL dL_law_548 ?_
  rw [← hv2]
  refine ro_callVi hC (c_X12_at l g hm S v1 v2 hr1 hr2 hI) mk_X12_at ml_L_62 ⟨Nat.le_of_ble_eq_true rfl, Nat.le_of_ble_eq_true rfl⟩ ⟨by show cells ≤ 600000; omega, by show slots ≤ 7302250; omega⟩ hK.1 (hS.ro hK) (show RPic g hm S H by rw [← hSA]; exact RW_pic (st_r hS)) (li_recv hK.1 ck_X12 ((st_r hS).1 0 _ rfl)) rfl hl.1 rfl (Nat.le_of_ble_eq_true rfl) dL_law_549 ?_
  refine li_same (tgt := 1154) hC (by decide) dL_law_552 ?_
  exact K _ _ _ _ _ _ ⟨ad, F, A, E, tl, S, nm, T, nt, nd, ar, F2, A2, rfl, rfl, hSA, hLI⟩ hS hl (by omega) (by omega)
set_option maxHeartbeats 4000000 in
set_option maxRecDepth 100000 in
theorem law_most (l : Launch) (g : GG) (x hm b L : Nat) (xs : Nat → Int32) : LawCase l g x hm b L xs 557 := by
  intro p e s m args below meth c Q Aw i w H locs ls cells slots hC hK hX hbl hbA hL hi hcc hW hS hl K
  obtain ⟨ad, F, A, E, tl, S, nm, T, nt, nd, ar, F2, A2, hx, hw, hSA, hLI⟩ := hW
  subst hx
  rw [hw] at hS
  have hLI0 := hLI
  obtain ⟨hSh, hInv, h66, h3, hTk, hld, hcd, hde, htE, htr⟩ := hLI0
  have hInv0 := hInv
  obtain ⟨hI, hH, hL0, hC0, hG, hTS, hMI⟩ := hInv0
  have h5 := hTS.2.1; have hq2 := hL0.1; have hq3 := hL0.2.1; have hq4 := hL0.2.2.1; have hD0 := hI.1
  have htq : F 1 = F2 24 := htE.1
  obtain ⟨v1, hv1⟩ : ∃ z : Int, z = xI xs (i + 1) := ⟨_, rfl⟩
  have hr1 : rng v1 := by rw [hv1]; exact xI_rng _ _
  refine li_aload_n hC hl 1 rfl dL_law_557 ?_
  refine li_aload_n hC hl 0 rfl dL_law_558 ?_
  refine li_iload_n hC hl 3 rfl dL_law_559 ?_
  refine li_iconst hC dL_law_560 ?_
  refine li_iadd hC dL_law_561 ?_
  refine li_sld hC hX hbl hbA hS.2.2 (by omega) hL dL_law_562 ?_
  rw [← hv1]
  refine fr_callVi hC (c_X11_most l g ad F A E tl S nm hSh hI v1 hr1 hH hC0 hG _) mk_X11_most ml_L_63 ⟨Nat.le_of_ble_eq_true rfl, Nat.le_of_ble_eq_true rfl⟩ ⟨by show cells + 0 ≤ 600000; omega, by show slots + 0 ≤ 7302250; omega⟩ hK hS (li_recv hK.1 ck_X11 (hS.1 0 _ rfl)) rfl hl.1 rfl (Nat.le_of_ble_eq_true rfl) dL_law_563 (fun v w H locs hp hS => ?_)
  obtain ⟨hv, Fc, Ac, hw9, hkp, hsh⟩ := hp
  rw [hw9] at hS; rw [hv]
  refine li_aload_n hC hl 2 rfl dL_law_566 ?_
  refine li_aload_n hC hl 0 rfl dL_law_567 ?_
  refine li_iload_n hC hl 3 rfl dL_law_568 ?_
  refine li_iconst hC dL_law_569 ?_
  refine li_iadd hC dL_law_570 ?_
  refine li_sld hC hX hbl hbA hS.2.2 (by omega) hL dL_law_571 ?_
  rw [← hv1]
  have hS := st_swap hS
  refine fr_callVi hC (c_X12_most l g hm ar F2 A2 S hSA v1 hr1 hI hH hC0 _) mk_X12_most ml_L_66 ⟨Nat.le_of_ble_eq_true rfl, Nat.le_of_ble_eq_true rfl⟩ ⟨by show cells + 0 + 0 ≤ 600000; omega, by show slots + 0 + 0 ≤ 7302250; omega⟩ hK hS (li_recv hK.1 ck_X12 (hS.1 0 _ rfl)) rfl hl.1 rfl (Nat.le_of_ble_eq_true rfl) dL_law_572 (fun v w H locs hp hS => ?_)
  obtain ⟨hv, Fr, Ar, hkr, hw9⟩ := hp
  rw [hw9] at hS; rw [hv]
  have hS := st_swap hS
  refine li_same (tgt := 1154) hC (by decide) dL_law_575 ?_
  exact K _ _ _ _ _ _ ⟨ad, Fc, Ac, E, tl, S, nm, T, nt, nd, ar, Fr, Ar, rfl, rfl, hkr.2.1, lw_ref (lw_step hLI hkp hsh hInv) hkr.1.1 hkr.1.2 hkr.2.2.1 hkr.2.2.2⟩ hS hl (by omega) (by omega)
set_option maxHeartbeats 4000000 in
set_option maxRecDepth 100000 in
theorem law_best (l : Launch) (g : GG) (x hm b L : Nat) (xs : Nat → Int32) : LawCase l g x hm b L xs 580 := by
  intro p e s m args below meth c Q Aw i w H locs ls cells slots hC hK hX hbl hbA hL hi hcc hW hS hl K
  obtain ⟨ad, F, A, E, tl, S, nm, T, nt, nd, ar, F2, A2, hx, hw, hSA, hLI⟩ := hW
  subst hx
  rw [hw] at hS
  have hLI0 := hLI
  obtain ⟨hSh, hInv, h66, h3, hTk, hld, hcd, hde, htE, htr⟩ := hLI0
  have hInv0 := hInv
  obtain ⟨hI, hH, hL0, hC0, hG, hTS, hMI⟩ := hInv0
  have h5 := hTS.2.1; have hq2 := hL0.1; have hq3 := hL0.2.1; have hq4 := hL0.2.2.1; have hD0 := hI.1
  have htq : F 1 = F2 24 := htE.1
  obtain ⟨v1, hv1⟩ : ∃ z : Int, z = xI xs (i + 1) := ⟨_, rfl⟩
  have hr1 : rng v1 := by rw [hv1]; exact xI_rng _ _
  refine li_aload_n hC hl 1 rfl dL_law_580 ?_
  refine li_aload_n hC hl 0 rfl dL_law_581 ?_
  refine li_iload_n hC hl 3 rfl dL_law_582 ?_
  refine li_iconst hC dL_law_583 ?_
  refine li_iadd hC dL_law_584 ?_
  refine li_sld hC hX hbl hbA hS.2.2 (by omega) hL dL_law_585 ?_
  rw [← hv1]
  refine fr_callVi hC (c_X11_best l g ad F A E tl S nm hSh hI v1 hr1 hH hC0 hG _) mk_X11_best ml_L_67 ⟨Nat.le_of_ble_eq_true rfl, Nat.le_of_ble_eq_true rfl⟩ ⟨by show cells + 0 ≤ 600000; omega, by show slots + 0 ≤ 7302250; omega⟩ hK hS (li_recv hK.1 ck_X11 (hS.1 0 _ rfl)) rfl hl.1 rfl (Nat.le_of_ble_eq_true rfl) dL_law_586 (fun v w H locs hp hS => ?_)
  obtain ⟨hv, Fc, Ac, hw9, hkp, hsh⟩ := hp
  rw [hw9] at hS; rw [hv]
  refine li_aload_n hC hl 2 rfl dL_law_589 ?_
  refine li_aload_n hC hl 0 rfl dL_law_590 ?_
  refine li_iload_n hC hl 3 rfl dL_law_591 ?_
  refine li_iconst hC dL_law_592 ?_
  refine li_iadd hC dL_law_593 ?_
  refine li_sld hC hX hbl hbA hS.2.2 (by omega) hL dL_law_594 ?_
  rw [← hv1]
  have hS := st_swap hS
  refine fr_callVi hC (c_X12_best l g hm ar F2 A2 S hSA v1 hr1 hI hH hC0 _) mk_X12_best ml_L_70 ⟨Nat.le_of_ble_eq_true rfl, Nat.le_of_ble_eq_true rfl⟩ ⟨by show cells + 0 + 0 ≤ 600000; omega, by show slots + 0 + 0 ≤ 7302250; omega⟩ hK hS (li_recv hK.1 ck_X12 (hS.1 0 _ rfl)) rfl hl.1 rfl (Nat.le_of_ble_eq_true rfl) dL_law_595 (fun v w H locs hp hS => ?_)
  obtain ⟨hv, Fr, Ar, hkr, hw9⟩ := hp
  rw [hw9] at hS; rw [hv]
  have hS := st_swap hS
  refine li_same (tgt := 1154) hC (by decide) dL_law_598 ?_
  exact K _ _ _ _ _ _ ⟨ad, Fc, Ac, E, tl, S, nm, T, nt, nd, ar, Fr, Ar, rfl, rfl, hkr.2.1, lw_ref (lw_step hLI hkp hsh hInv) hkr.1.1 hkr.1.2 hkr.2.2.1 hkr.2.2.2⟩ hS hl (by omega) (by omega)
set_option maxHeartbeats 4000000 in
set_option maxRecDepth 100000 in
theorem law_all (l : Launch) (g : GG) (x hm b L : Nat) (xs : Nat → Int32) : LawCase l g x hm b L xs 603 := by
  intro p e s m args below meth c Q Aw i w H locs ls cells slots hC hK hX hbl hbA hL hi hcc hW hS hl K
  obtain ⟨ad, F, A, E, tl, S, nm, T, nt, nd, ar, F2, A2, hx, hw, hSA, hLI⟩ := hW
  subst hx
  rw [hw] at hS
  have hLI0 := hLI
  obtain ⟨hSh, hInv, h66, h3, hTk, hld, hcd, hde, htE, htr⟩ := hLI0
  have hInv0 := hInv
  obtain ⟨hI, hH, hL0, hC0, hG, hTS, hMI⟩ := hInv0
  have h5 := hTS.2.1; have hq2 := hL0.1; have hq3 := hL0.2.1; have hq4 := hL0.2.2.1; have hD0 := hI.1
  have htq : F 1 = F2 24 := htE.1
  obtain ⟨v1, hv1⟩ : ∃ z : Int, z = xI xs (i + 1) := ⟨_, rfl⟩
  have hr1 : rng v1 := by rw [hv1]; exact xI_rng _ _
  refine li_aload_n hC hl 1 rfl dL_law_603 ?_
  refine li_aload_n hC hl 0 rfl dL_law_604 ?_
  refine li_iload_n hC hl 3 rfl dL_law_605 ?_
  refine li_iconst hC dL_law_606 ?_
  refine li_iadd hC dL_law_607 ?_
  refine li_sld hC hX hbl hbA hS.2.2 (by omega) hL dL_law_608 ?_
  rw [← hv1]
  refine fr_callVi hC (c_X11_all l g ad F A E tl S nm hSh hI v1 hr1 _) mk_X11_all ml_L_71 ⟨Nat.le_of_ble_eq_true rfl, Nat.le_of_ble_eq_true rfl⟩ ⟨by show cells + 0 ≤ 600000; omega, by show slots + 0 ≤ 7302250; omega⟩ hK hS (li_recv hK.1 ck_X11 (hS.1 0 _ rfl)) rfl hl.1 rfl (Nat.le_of_ble_eq_true rfl) dL_law_609 (fun v w H locs hp hS => ?_)
  obtain ⟨hv, Fc, Ac, hw9, hkp, hsh⟩ := hp
  rw [hw9] at hS; rw [hv]
  refine li_aload_n hC hl 2 rfl dL_law_612 ?_
  refine li_aload_n hC hl 0 rfl dL_law_613 ?_
  refine li_iload_n hC hl 3 rfl dL_law_614 ?_
  refine li_iconst hC dL_law_615 ?_
  refine li_iadd hC dL_law_616 ?_
  refine li_sld hC hX hbl hbA hS.2.2 (by omega) hL dL_law_617 ?_
  rw [← hv1]
  have hS := st_swap hS
  refine fr_callVi hC (c_X12_all l g hm ar F2 A2 S hSA v1 hr1 hI hH _) mk_X12_all ml_L_74 ⟨Nat.le_of_ble_eq_true rfl, Nat.le_of_ble_eq_true rfl⟩ ⟨by show cells + 0 + 0 ≤ 600000; omega, by show slots + 0 + 0 ≤ 7302250; omega⟩ hK hS (li_recv hK.1 ck_X12 (hS.1 0 _ rfl)) rfl hl.1 rfl (Nat.le_of_ble_eq_true rfl) dL_law_618 (fun v w H locs hp hS => ?_)
  obtain ⟨hv, Fr, Ar, hkr, hw9⟩ := hp
  rw [hw9] at hS; rw [hv]
  have hS := st_swap hS
  refine li_same (tgt := 1154) hC (by decide) dL_law_621 ?_
  exact K _ _ _ _ _ _ ⟨ad, Fc, Ac, E, tl, S, nm, T, nt, nd, ar, Fr, Ar, rfl, rfl, hkr.2.1, lw_ref (lw_step hLI hkp hsh hInv) hkr.1.1 hkr.1.2 hkr.2.2.1 hkr.2.2.2⟩ hS hl (by omega) (by omega)
set_option maxHeartbeats 4000000 in
set_option maxRecDepth 100000 in
theorem law_room (l : Launch) (g : GG) (x hm b L : Nat) (xs : Nat → Int32) : LawCase l g x hm b L xs 626 := by
  intro p e s m args below meth c Q Aw i w H locs ls cells slots hC hK hX hbl hbA hL hi hcc hW hS hl K
  obtain ⟨ad, F, A, E, tl, S, nm, T, nt, nd, ar, F2, A2, hx, hw, hSA, hLI⟩ := hW
  subst hx
  rw [hw] at hS
  have hLI0 := hLI
  obtain ⟨hSh, hInv, h66, h3, hTk, hld, hcd, hde, htE, htr⟩ := hLI0
  have hInv0 := hInv
  obtain ⟨hI, hH, hL0, hC0, hG, hTS, hMI⟩ := hInv0
  have h5 := hTS.2.1; have hq2 := hL0.1; have hq3 := hL0.2.1; have hq4 := hL0.2.2.1; have hD0 := hI.1
  have htq : F 1 = F2 24 := htE.1
  refine li_aload_n hC hl 1 rfl dL_law_626 ?_
  refine fr_callVi hC (c_X11_room l g ad F A E tl S nm hSh hI _) mk_X11_room ml_L_75 ⟨Nat.le_of_ble_eq_true rfl, Nat.le_of_ble_eq_true rfl⟩ ⟨by show cells + 0 ≤ 600000; omega, by show slots + 0 ≤ 7302250; omega⟩ hK hS (li_recv hK.1 ck_X11 (hS.1 0 _ rfl)) rfl hl.1 rfl (Nat.le_of_ble_eq_true rfl) dL_law_627 (fun v w H locs hp hS => ?_)
  obtain ⟨hv, Fc, Ac, hw9, hkp, hsh⟩ := hp
  rw [hw9] at hS; rw [hv]
  refine li_aload_n hC hl 2 rfl dL_law_630 ?_
  have hS := st_swap hS
  refine fr_callVi hC (c_X12_room l g hm ar F2 A2 S hSA hI hH _) mk_X12_room ml_L_78 ⟨Nat.le_of_ble_eq_true rfl, Nat.le_of_ble_eq_true rfl⟩ ⟨by show cells + 0 + 0 ≤ 600000; omega, by show slots + 0 + 0 ≤ 7302250; omega⟩ hK hS (li_recv hK.1 ck_X12 (hS.1 0 _ rfl)) rfl hl.1 rfl (Nat.le_of_ble_eq_true rfl) dL_law_631 (fun v w H locs hp hS => ?_)
  obtain ⟨hv, Fr, Ar, hkr, hw9⟩ := hp
  rw [hw9] at hS; rw [hv]
  have hS := st_swap hS
  refine li_same (tgt := 1154) hC (by decide) dL_law_634 ?_
  exact K _ _ _ _ _ _ ⟨ad, Fc, Ac, E, tl, S, nm, T, nt, nd, ar, Fr, Ar, rfl, rfl, hkr.2.1, lw_ref (lw_step hLI hkp hsh hInv) hkr.1.1 hkr.1.2 hkr.2.2.1 hkr.2.2.2⟩ hS hl (by omega) (by omega)
set_option maxHeartbeats 4000000 in
set_option maxRecDepth 100000 in
theorem law_moved (l : Launch) (g : GG) (x hm b L : Nat) (xs : Nat → Int32) : LawCase l g x hm b L xs 639 := by
  intro p e s m args below meth c Q Aw i w H locs ls cells slots hC hK hX hbl hbA hL hi hcc hW hS hl K
  obtain ⟨ad, F, A, E, tl, S, nm, T, nt, nd, ar, F2, A2, hx, hw, hSA, hLI⟩ := hW
  subst hx
  rw [hw] at hS
  have hLI0 := hLI
  obtain ⟨hSh, hInv, h66, h3, hTk, hld, hcd, hde, htE, htr⟩ := hLI0
  have hInv0 := hInv
  obtain ⟨hI, hH, hL0, hC0, hG, hTS, hMI⟩ := hInv0
  have h5 := hTS.2.1; have hq2 := hL0.1; have hq3 := hL0.2.1; have hq4 := hL0.2.2.1; have hD0 := hI.1
  have htq : F 1 = F2 24 := htE.1
  obtain ⟨v1, hv1⟩ : ∃ z : Int, z = xI xs (i + 1) := ⟨_, rfl⟩
  have hr1 : rng v1 := by rw [hv1]; exact xI_rng _ _
  refine li_aload_n hC hl 1 rfl dL_law_639 ?_
  refine li_aload_n hC hl 0 rfl dL_law_640 ?_
  refine li_iload_n hC hl 3 rfl dL_law_641 ?_
  refine li_iconst hC dL_law_642 ?_
  refine li_iadd hC dL_law_643 ?_
  refine li_sld hC hX hbl hbA hS.2.2 (by omega) hL dL_law_644 ?_
  rw [← hv1]
  refine fr_callVi hC (c_X11_moved l g ad F A E tl S nm hSh hI v1 hr1 _) mk_X11_moved ml_L_79 ⟨Nat.le_of_ble_eq_true rfl, Nat.le_of_ble_eq_true rfl⟩ ⟨by show cells + 0 ≤ 600000; omega, by show slots + 0 ≤ 7302250; omega⟩ hK hS (li_recv hK.1 ck_X11 (hS.1 0 _ rfl)) rfl hl.1 rfl (Nat.le_of_ble_eq_true rfl) dL_law_645 (fun v w H locs hp hS => ?_)
  obtain ⟨hv, Fc, Ac, hw9, hkp, hsh⟩ := hp
  rw [hw9] at hS; rw [hv]
  refine li_aload_n hC hl 2 rfl dL_law_648 ?_
  refine li_aload_n hC hl 0 rfl dL_law_649 ?_
  refine li_iload_n hC hl 3 rfl dL_law_650 ?_
  refine li_iconst hC dL_law_651 ?_
  refine li_iadd hC dL_law_652 ?_
  refine li_sld hC hX hbl hbA hS.2.2 (by omega) hL dL_law_653 ?_
  rw [← hv1]
  have hS := st_swap hS
  refine fr_callVi hC (c_X12_moved l g hm ar F2 A2 S hSA v1 hr1 hI hH _) mk_X12_moved ml_L_82 ⟨Nat.le_of_ble_eq_true rfl, Nat.le_of_ble_eq_true rfl⟩ ⟨by show cells + 0 + 0 ≤ 600000; omega, by show slots + 0 + 0 ≤ 7302250; omega⟩ hK hS (li_recv hK.1 ck_X12 (hS.1 0 _ rfl)) rfl hl.1 rfl (Nat.le_of_ble_eq_true rfl) dL_law_654 (fun v w H locs hp hS => ?_)
  obtain ⟨hv, Fr, Ar, hkr, hw9⟩ := hp
  rw [hw9] at hS; rw [hv]
  have hS := st_swap hS
  refine li_same (tgt := 1154) hC (by decide) dL_law_657 ?_
  exact K _ _ _ _ _ _ ⟨ad, Fc, Ac, E, tl, S, nm, T, nt, nd, ar, Fr, Ar, rfl, rfl, hkr.2.1, lw_ref (lw_step hLI hkp hsh hInv) hkr.1.1 hkr.1.2 hkr.2.2.1 hkr.2.2.2⟩ hS hl (by omega) (by omega)
set_option maxHeartbeats 4000000 in
set_option maxRecDepth 100000 in
theorem law_inline (l : Launch) (g : GG) (x hm b L : Nat) (xs : Nat → Int32) : LawCase l g x hm b L xs 662 := by
  intro p e s m args below meth c Q Aw i w H locs ls cells slots hC hK hX hbl hbA hL hi hcc hW hS hl K
  obtain ⟨ad, F, A, E, tl, S, nm, T, nt, nd, ar, F2, A2, hx, hw, hSA, hLI⟩ := hW
  subst hx
  rw [hw] at hS
  have hLI0 := hLI
  obtain ⟨hSh, hInv, h66, h3, hTk, hld, hcd, hde, htE, htr⟩ := hLI0
  have hInv0 := hInv
  obtain ⟨hI, hH, hL0, hC0, hG, hTS, hMI⟩ := hInv0
  have h5 := hTS.2.1; have hq2 := hL0.1; have hq3 := hL0.2.1; have hq4 := hL0.2.2.1; have hD0 := hI.1
  have htq : F 1 = F2 24 := htE.1
  obtain ⟨v1, hv1⟩ : ∃ z : Int, z = xI xs (i + 1) := ⟨_, rfl⟩
  have hr1 : rng v1 := by rw [hv1]; exact xI_rng _ _
  refine li_aload_n hC hl 1 rfl dL_law_662 ?_
  refine li_aload_n hC hl 0 rfl dL_law_663 ?_
  refine li_iload_n hC hl 3 rfl dL_law_664 ?_
  refine li_iconst hC dL_law_665 ?_
  refine li_iadd hC dL_law_666 ?_
  refine li_sld hC hX hbl hbA hS.2.2 (by omega) hL dL_law_667 ?_
  rw [← hv1]
  refine fr_callVi hC (c_X11_inline l g ad F A E tl S nm hSh hI v1 hr1 hH hC0 hG _) mk_X11_inline ml_L_83 ⟨Nat.le_of_ble_eq_true rfl, Nat.le_of_ble_eq_true rfl⟩ ⟨by show cells + 0 ≤ 600000; omega, by show slots + 0 ≤ 7302250; omega⟩ hK hS (li_recv hK.1 ck_X11 (hS.1 0 _ rfl)) rfl hl.1 rfl (Nat.le_of_ble_eq_true rfl) dL_law_668 (fun v w H locs hp hS => ?_)
  obtain ⟨hv, Fc, Ac, hw9, hkp, hsh⟩ := hp
  rw [hw9] at hS; rw [hv]
  refine li_aload_n hC hl 2 rfl dL_law_671 ?_
  refine li_aload_n hC hl 0 rfl dL_law_672 ?_
  refine li_iload_n hC hl 3 rfl dL_law_673 ?_
  refine li_iconst hC dL_law_674 ?_
  refine li_iadd hC dL_law_675 ?_
  refine li_sld hC hX hbl hbA hS.2.2 (by omega) hL dL_law_676 ?_
  rw [← hv1]
  have hS := st_swap hS
  refine fr_callVi hC (c_X12_inline l g hm ar F2 A2 S hSA v1 hr1 hI hH hC0 _) mk_X12_inline ml_L_86 ⟨Nat.le_of_ble_eq_true rfl, Nat.le_of_ble_eq_true rfl⟩ ⟨by show cells + 0 + 0 ≤ 600000; omega, by show slots + 0 + 0 ≤ 7302250; omega⟩ hK hS (li_recv hK.1 ck_X12 (hS.1 0 _ rfl)) rfl hl.1 rfl (Nat.le_of_ble_eq_true rfl) dL_law_677 (fun v w H locs hp hS => ?_)
  obtain ⟨hv, Fr, Ar, hkr, hw9⟩ := hp
  rw [hw9] at hS; rw [hv]
  have hS := st_swap hS
  refine li_same (tgt := 1154) hC (by decide) dL_law_680 ?_
  exact K _ _ _ _ _ _ ⟨ad, Fc, Ac, E, tl, S, nm, T, nt, nd, ar, Fr, Ar, rfl, rfl, hkr.2.1, lw_ref (lw_step hLI hkp hsh hInv) hkr.1.1 hkr.1.2 hkr.2.2.1 hkr.2.2.2⟩ hS hl (by omega) (by omega)
set_option maxHeartbeats 4000000 in
set_option maxRecDepth 100000 in
theorem law_order (l : Launch) (g : GG) (x hm b L : Nat) (xs : Nat → Int32) : LawCase l g x hm b L xs 685 := by
  intro p e s m args below meth c Q Aw i w H locs ls cells slots hC hK hX hbl hbA hL hi hcc hW hS hl K
  obtain ⟨ad, F, A, E, tl, S, nm, T, nt, nd, ar, F2, A2, hx, hw, hSA, hLI⟩ := hW
  subst hx
  rw [hw] at hS
  have hLI0 := hLI
  obtain ⟨hSh, hInv, h66, h3, hTk, hld, hcd, hde, htE, htr⟩ := hLI0
  have hInv0 := hInv
  obtain ⟨hI, hH, hL0, hC0, hG, hTS, hMI⟩ := hInv0
  have h5 := hTS.2.1; have hq2 := hL0.1; have hq3 := hL0.2.1; have hq4 := hL0.2.2.1; have hD0 := hI.1
  have htq : F 1 = F2 24 := htE.1
  obtain ⟨v1, hv1⟩ : ∃ z : Int, z = xI xs (i + 1) := ⟨_, rfl⟩
  have hr1 : rng v1 := by rw [hv1]; exact xI_rng _ _
  refine li_aload_n hC hl 1 rfl dL_law_685 ?_
  refine li_aload_n hC hl 0 rfl dL_law_686 ?_
  refine li_iload_n hC hl 3 rfl dL_law_687 ?_
  refine li_iconst hC dL_law_688 ?_
  refine li_iadd hC dL_law_689 ?_
  refine li_sld hC hX hbl hbA hS.2.2 (by omega) hL dL_law_690 ?_
  rw [← hv1]
  refine fr_callVi hC (c_X11_order l g ad F A E tl S nm hSh hI v1 hr1 hH hC0 hG _) mk_X11_order ml_L_87 ⟨Nat.le_of_ble_eq_true rfl, Nat.le_of_ble_eq_true rfl⟩ ⟨by show cells + 0 ≤ 600000; omega, by show slots + 0 ≤ 7302250; omega⟩ hK hS (li_recv hK.1 ck_X11 (hS.1 0 _ rfl)) rfl hl.1 rfl (Nat.le_of_ble_eq_true rfl) dL_law_691 (fun v w H locs hp hS => ?_)
  obtain ⟨hv, Fc, Ac, hw9, hkp, hsh⟩ := hp
  rw [hw9] at hS; rw [hv]
  refine li_aload_n hC hl 2 rfl dL_law_694 ?_
  refine li_aload_n hC hl 0 rfl dL_law_695 ?_
  refine li_iload_n hC hl 3 rfl dL_law_696 ?_
  refine li_iconst hC dL_law_697 ?_
  refine li_iadd hC dL_law_698 ?_
  refine li_sld hC hX hbl hbA hS.2.2 (by omega) hL dL_law_699 ?_
  rw [← hv1]
  have hS := st_swap hS
  refine fr_callVi hC (c_X12_order l g hm ar F2 A2 S hSA v1 hr1 hI hH hC0 _) mk_X12_order ml_L_90 ⟨Nat.le_of_ble_eq_true rfl, Nat.le_of_ble_eq_true rfl⟩ ⟨by show cells + 0 + 0 ≤ 600000; omega, by show slots + 0 + 0 ≤ 7302250; omega⟩ hK hS (li_recv hK.1 ck_X12 (hS.1 0 _ rfl)) rfl hl.1 rfl (Nat.le_of_ble_eq_true rfl) dL_law_700 (fun v w H locs hp hS => ?_)
  obtain ⟨hv, Fr, Ar, hkr, hw9⟩ := hp
  rw [hw9] at hS; rw [hv]
  have hS := st_swap hS
  refine li_same (tgt := 1154) hC (by decide) dL_law_703 ?_
  exact K _ _ _ _ _ _ ⟨ad, Fc, Ac, E, tl, S, nm, T, nt, nd, ar, Fr, Ar, rfl, rfl, hkr.2.1, lw_ref (lw_step hLI hkp hsh hInv) hkr.1.1 hkr.1.2 hkr.2.2.1 hkr.2.2.2⟩ hS hl (by omega) (by omega)
set_option maxHeartbeats 4000000 in
set_option maxRecDepth 100000 in
theorem law_far (l : Launch) (g : GG) (x hm b L : Nat) (xs : Nat → Int32) : LawCase l g x hm b L xs 708 := by
  intro p e s m args below meth c Q Aw i w H locs ls cells slots hC hK hX hbl hbA hL hi hcc hW hS hl K
  obtain ⟨ad, F, A, E, tl, S, nm, T, nt, nd, ar, F2, A2, hx, hw, hSA, hLI⟩ := hW
  subst hx
  rw [hw] at hS
  have hLI0 := hLI
  obtain ⟨hSh, hInv, h66, h3, hTk, hld, hcd, hde, htE, htr⟩ := hLI0
  have hInv0 := hInv
  obtain ⟨hI, hH, hL0, hC0, hG, hTS, hMI⟩ := hInv0
  have h5 := hTS.2.1; have hq2 := hL0.1; have hq3 := hL0.2.1; have hq4 := hL0.2.2.1; have hD0 := hI.1
  have htq : F 1 = F2 24 := htE.1
  obtain ⟨v1, hv1⟩ : ∃ z : Int, z = xI xs (i + 1) := ⟨_, rfl⟩
  have hr1 : rng v1 := by rw [hv1]; exact xI_rng _ _
  refine li_aload_n hC hl 1 rfl dL_law_708 ?_
  refine li_aload_n hC hl 0 rfl dL_law_709 ?_
  refine li_iload_n hC hl 3 rfl dL_law_710 ?_
  refine li_iconst hC dL_law_711 ?_
  refine li_iadd hC dL_law_712 ?_
  refine li_sld hC hX hbl hbA hS.2.2 (by omega) hL dL_law_713 ?_
  rw [← hv1]
  refine ro_callVi hC (c_X11_far l g ad F A E tl S nm hSh hI v1 hr1) mk_X11_far ml_L_91 ⟨Nat.le_of_ble_eq_true rfl, Nat.le_of_ble_eq_true rfl⟩ ⟨by show cells ≤ 600000; omega, by show slots ≤ 7302250; omega⟩ hK.1 (hS.ro hK) (st_l hS).1 (li_recv hK.1 ck_X11 (hS.1 0 _ rfl)) rfl hl.1 rfl (Nat.le_of_ble_eq_true rfl) dL_law_714 ?_
  refine li_aload_n hC hl 2 rfl dL_law_717 ?_
  refine li_aload_n hC hl 0 rfl dL_law_718 ?_
  refine li_iload_n hC hl 3 rfl dL_law_719 ?_
  refine li_iconst hC dL_law_720 ?_
  refine li_iadd hC dL_law_721 ?_
  refine li_sld hC hX hbl hbA hS.2.2 (by omega) hL dL_law_722 ?_
  rw [← hv1]
  refine ro_callVi hC (c_X12_far l g hm S v1 hr1 hI) mk_X12_far ml_L_94 ⟨Nat.le_of_ble_eq_true rfl, Nat.le_of_ble_eq_true rfl⟩ ⟨by show cells ≤ 600000; omega, by show slots ≤ 7302250; omega⟩ hK.1 (hS.ro hK) (show RPic g hm S H by rw [← hSA]; exact RW_pic (st_r hS)) (li_recv hK.1 ck_X12 ((st_r hS).1 0 _ rfl)) rfl hl.1 rfl (Nat.le_of_ble_eq_true rfl) dL_law_723 ?_
  refine li_same (tgt := 1154) hC (by decide) dL_law_726 ?_
  exact K _ _ _ _ _ _ ⟨ad, F, A, E, tl, S, nm, T, nt, nd, ar, F2, A2, rfl, rfl, hSA, hLI⟩ hS hl (by omega) (by omega)
set_option maxHeartbeats 4000000 in
set_option maxRecDepth 100000 in
theorem law_see (l : Launch) (g : GG) (x hm b L : Nat) (xs : Nat → Int32) : LawCase l g x hm b L xs 731 := by
  intro p e s m args below meth c Q Aw i w H locs ls cells slots hC hK hX hbl hbA hL hi hcc hW hS hl K
  obtain ⟨ad, F, A, E, tl, S, nm, T, nt, nd, ar, F2, A2, hx, hw, hSA, hLI⟩ := hW
  subst hx
  rw [hw] at hS
  have hLI0 := hLI
  obtain ⟨hSh, hInv, h66, h3, hTk, hld, hcd, hde, htE, htr⟩ := hLI0
  have hInv0 := hInv
  obtain ⟨hI, hH, hL0, hC0, hG, hTS, hMI⟩ := hInv0
  have h5 := hTS.2.1; have hq2 := hL0.1; have hq3 := hL0.2.1; have hq4 := hL0.2.2.1; have hD0 := hI.1
  have htq : F 1 = F2 24 := htE.1
  obtain ⟨v1, hv1⟩ : ∃ z : Int, z = xI xs (i + 1) := ⟨_, rfl⟩
  have hr1 : rng v1 := by rw [hv1]; exact xI_rng _ _
  obtain ⟨v2, hv2⟩ : ∃ z : Int, z = xI xs (i + 2) := ⟨_, rfl⟩
  have hr2 : rng v2 := by rw [hv2]; exact xI_rng _ _
  obtain ⟨v3, hv3⟩ : ∃ z : Int, z = xI xs (i + 3) := ⟨_, rfl⟩
  have hr3 : rng v3 := by rw [hv3]; exact xI_rng _ _
  by_cases hz0 : v3 = 0
  · refine li_aload_n hC hl 1 rfl dL_law_731 ?_
    refine li_aload_n hC hl 0 rfl dL_law_732 ?_
    refine li_iload_n hC hl 3 rfl dL_law_733 ?_
    refine li_iconst hC dL_law_734 ?_
    refine li_iadd hC dL_law_735 ?_
    refine li_sld hC hX hbl hbA hS.2.2 (by omega) hL dL_law_736 ?_
    rw [← hv1]
    refine li_aload_n hC hl 0 rfl dL_law_737 ?_
    refine li_iload_n hC hl 3 rfl dL_law_738 ?_
    refine li_iconst hC dL_law_739 ?_
    refine li_iadd hC dL_law_740 ?_
    refine li_sld hC hX hbl hbA hS.2.2 (by omega) hL dL_law_741 ?_
    rw [← hv2]
    refine li_aload_n hC hl 0 rfl dL_law_742 ?_
    refine li_iload_n hC hl 3 rfl dL_law_743 ?_
    refine li_iconst hC dL_law_744 ?_
    refine li_iadd hC dL_law_745 ?_
    refine li_sld hC hX hbl hbA hS.2.2 (by omega) hL dL_law_746 ?_
    rw [← hv3]
    refine li_if_eq (tgt := 754) hC (by decide) hr3 dL_law_747 (fun _ => ?_) (fun h9 => absurd hz0 h9)
    refine li_iconst hC dL_law_754 ?_
    refine fr_callVi hC (c_X11_see l g ad F A E tl S nm hSh hI v1 v2 0 hr1 hr2 (by omega) hH (by omega) (by omega) (by omega) (by omega) _) mk_X11_see ml_L_95 ⟨Nat.le_of_ble_eq_true rfl, Nat.le_of_ble_eq_true rfl⟩ ⟨by show cells + 0 ≤ 600000; omega, by show slots + 0 ≤ 7302250; omega⟩ hK hS (li_recv hK.1 ck_X11 (hS.1 0 _ rfl)) rfl hl.1 rfl (Nat.le_of_ble_eq_true rfl) dL_law_755 (fun v w H locs hp hS => ?_)
    obtain ⟨hv, Fc, Ac, hw9, hkp, hsh⟩ := hp
    rw [hw9] at hS; rw [hv]
    refine li_aload_n hC hl 2 rfl dL_law_758 ?_
    refine li_aload_n hC hl 0 rfl dL_law_759 ?_
    refine li_iload_n hC hl 3 rfl dL_law_760 ?_
    refine li_iconst hC dL_law_761 ?_
    refine li_iadd hC dL_law_762 ?_
    refine li_sld hC hX hbl hbA hS.2.2 (by omega) hL dL_law_763 ?_
    rw [← hv1]
    refine li_aload_n hC hl 0 rfl dL_law_764 ?_
    refine li_iload_n hC hl 3 rfl dL_law_765 ?_
    refine li_iconst hC dL_law_766 ?_
    refine li_iadd hC dL_law_767 ?_
    refine li_sld hC hX hbl hbA hS.2.2 (by omega) hL dL_law_768 ?_
    rw [← hv2]
    refine li_aload_n hC hl 0 rfl dL_law_769 ?_
    refine li_iload_n hC hl 3 rfl dL_law_770 ?_
    refine li_iconst hC dL_law_771 ?_
    refine li_iadd hC dL_law_772 ?_
    refine li_sld hC hX hbl hbA hS.2.2 (by omega) hL dL_law_773 ?_
    rw [← hv3]
    refine li_if_eq (tgt := 781) hC (by decide) hr3 dL_law_774 (fun _ => ?_) (fun h9 => absurd hz0 h9)
    refine li_iconst hC dL_law_781 ?_
    have hS := st_swap hS
    refine fr_callVi hC (c_X12_see l g hm ar F2 A2 S hSA v1 v2 0 hr1 hr2 (by omega) (by omega) _) mk_X12_see ml_L_99 ⟨Nat.le_of_ble_eq_true rfl, Nat.le_of_ble_eq_true rfl⟩ ⟨by show cells + 0 + 0 ≤ 600000; omega, by show slots + 0 + 0 ≤ 7302250; omega⟩ hK hS (li_recv hK.1 ck_X12 (hS.1 0 _ rfl)) rfl hl.1 rfl (Nat.le_of_ble_eq_true rfl) dL_law_782 (fun v w H locs hp hS => ?_)
    obtain ⟨hv, hw9⟩ := hp
    rw [hw9] at hS; rw [hv]
    have hS := st_swap hS
    refine li_same (tgt := 1154) hC (by decide) dL_law_785 ?_
    exact K _ _ _ _ _ _ ⟨ad, Fc, Ac, E, tl, (seeS S v1 v2 0), nm, T, nt, nd, ar, F2, (va_up A2 1 (seeS S v1 v2 0)), rfl, rfl, rfl, lw_ref (lw_step hLI hkp hsh (inv_see hInv _ _ _)) rfl rfl rfl rfl⟩ hS hl (by omega) (by omega)
  · refine li_aload_n hC hl 1 rfl dL_law_731 ?_
    refine li_aload_n hC hl 0 rfl dL_law_732 ?_
    refine li_iload_n hC hl 3 rfl dL_law_733 ?_
    refine li_iconst hC dL_law_734 ?_
    refine li_iadd hC dL_law_735 ?_
    refine li_sld hC hX hbl hbA hS.2.2 (by omega) hL dL_law_736 ?_
    rw [← hv1]
    refine li_aload_n hC hl 0 rfl dL_law_737 ?_
    refine li_iload_n hC hl 3 rfl dL_law_738 ?_
    refine li_iconst hC dL_law_739 ?_
    refine li_iadd hC dL_law_740 ?_
    refine li_sld hC hX hbl hbA hS.2.2 (by omega) hL dL_law_741 ?_
    rw [← hv2]
    refine li_aload_n hC hl 0 rfl dL_law_742 ?_
    refine li_iload_n hC hl 3 rfl dL_law_743 ?_
    refine li_iconst hC dL_law_744 ?_
    refine li_iadd hC dL_law_745 ?_
    refine li_sld hC hX hbl hbA hS.2.2 (by omega) hL dL_law_746 ?_
    rw [← hv3]
    refine li_if_eq (tgt := 754) hC (by decide) hr3 dL_law_747 (fun h9 => absurd h9 hz0) (fun _ => ?_)
    refine li_iconst hC dL_law_750 ?_
    refine li_goto (tgt := 755) hC (by decide) dL_law_751 ?_
    refine fr_callVi hC (c_X11_see l g ad F A E tl S nm hSh hI v1 v2 1 hr1 hr2 (by omega) hH (by omega) (by omega) (by omega) (by omega) _) mk_X11_see ml_L_95 ⟨Nat.le_of_ble_eq_true rfl, Nat.le_of_ble_eq_true rfl⟩ ⟨by show cells + 0 ≤ 600000; omega, by show slots + 0 ≤ 7302250; omega⟩ hK hS (li_recv hK.1 ck_X11 (hS.1 0 _ rfl)) rfl hl.1 rfl (Nat.le_of_ble_eq_true rfl) dL_law_755 (fun v w H locs hp hS => ?_)
    obtain ⟨hv, Fc, Ac, hw9, hkp, hsh⟩ := hp
    rw [hw9] at hS; rw [hv]
    refine li_aload_n hC hl 2 rfl dL_law_758 ?_
    refine li_aload_n hC hl 0 rfl dL_law_759 ?_
    refine li_iload_n hC hl 3 rfl dL_law_760 ?_
    refine li_iconst hC dL_law_761 ?_
    refine li_iadd hC dL_law_762 ?_
    refine li_sld hC hX hbl hbA hS.2.2 (by omega) hL dL_law_763 ?_
    rw [← hv1]
    refine li_aload_n hC hl 0 rfl dL_law_764 ?_
    refine li_iload_n hC hl 3 rfl dL_law_765 ?_
    refine li_iconst hC dL_law_766 ?_
    refine li_iadd hC dL_law_767 ?_
    refine li_sld hC hX hbl hbA hS.2.2 (by omega) hL dL_law_768 ?_
    rw [← hv2]
    refine li_aload_n hC hl 0 rfl dL_law_769 ?_
    refine li_iload_n hC hl 3 rfl dL_law_770 ?_
    refine li_iconst hC dL_law_771 ?_
    refine li_iadd hC dL_law_772 ?_
    refine li_sld hC hX hbl hbA hS.2.2 (by omega) hL dL_law_773 ?_
    rw [← hv3]
    refine li_if_eq (tgt := 781) hC (by decide) hr3 dL_law_774 (fun h9 => absurd h9 hz0) (fun _ => ?_)
    refine li_iconst hC dL_law_777 ?_
    refine li_goto (tgt := 782) hC (by decide) dL_law_778 ?_
    have hS := st_swap hS
    refine fr_callVi hC (c_X12_see l g hm ar F2 A2 S hSA v1 v2 1 hr1 hr2 (by omega) (by omega) _) mk_X12_see ml_L_99 ⟨Nat.le_of_ble_eq_true rfl, Nat.le_of_ble_eq_true rfl⟩ ⟨by show cells + 0 + 0 ≤ 600000; omega, by show slots + 0 + 0 ≤ 7302250; omega⟩ hK hS (li_recv hK.1 ck_X12 (hS.1 0 _ rfl)) rfl hl.1 rfl (Nat.le_of_ble_eq_true rfl) dL_law_782 (fun v w H locs hp hS => ?_)
    obtain ⟨hv, hw9⟩ := hp
    rw [hw9] at hS; rw [hv]
    have hS := st_swap hS
    refine li_same (tgt := 1154) hC (by decide) dL_law_785 ?_
    exact K _ _ _ _ _ _ ⟨ad, Fc, Ac, E, tl, (seeS S v1 v2 1), nm, T, nt, nd, ar, F2, (va_up A2 1 (seeS S v1 v2 1)), rfl, rfl, rfl, lw_ref (lw_step hLI hkp hsh (inv_see hInv _ _ _)) rfl rfl rfl rfl⟩ hS hl (by omega) (by omega)
set_option maxHeartbeats 4000000 in
set_option maxRecDepth 100000 in
theorem law_can (l : Launch) (g : GG) (x hm b L : Nat) (xs : Nat → Int32) : LawCase l g x hm b L xs 790 := by
  intro p e s m args below meth c Q Aw i w H locs ls cells slots hC hK hX hbl hbA hL hi hcc hW hS hl K
  obtain ⟨ad, F, A, E, tl, S, nm, T, nt, nd, ar, F2, A2, hx, hw, hSA, hLI⟩ := hW
  subst hx
  rw [hw] at hS
  have hLI0 := hLI
  obtain ⟨hSh, hInv, h66, h3, hTk, hld, hcd, hde, htE, htr⟩ := hLI0
  have hInv0 := hInv
  obtain ⟨hI, hH, hL0, hC0, hG, hTS, hMI⟩ := hInv0
  have h5 := hTS.2.1; have hq2 := hL0.1; have hq3 := hL0.2.1; have hq4 := hL0.2.2.1; have hD0 := hI.1
  have htq : F 1 = F2 24 := htE.1
  obtain ⟨v1, hv1⟩ : ∃ z : Int, z = xI xs (i + 1) := ⟨_, rfl⟩
  have hr1 : rng v1 := by rw [hv1]; exact xI_rng _ _
  refine li_aload_n hC hl 1 rfl dL_law_790 ?_
  refine li_aload_n hC hl 0 rfl dL_law_791 ?_
  refine li_iload_n hC hl 3 rfl dL_law_792 ?_
  refine li_iconst hC dL_law_793 ?_
  refine li_iadd hC dL_law_794 ?_
  refine li_sld hC hX hbl hbA hS.2.2 (by omega) hL dL_law_795 ?_
  rw [← hv1]
  refine ro_callVi hC (c_X11_can l g ad F A E tl S nm hSh hI v1 hr1 hL0) mk_X11_can ml_L_100 ⟨Nat.le_of_ble_eq_true rfl, Nat.le_of_ble_eq_true rfl⟩ ⟨by show cells ≤ 600000; omega, by show slots ≤ 7302250; omega⟩ hK.1 (hS.ro hK) (st_l hS).1 (li_recv hK.1 ck_X11 (hS.1 0 _ rfl)) rfl hl.1 rfl (Nat.le_of_ble_eq_true rfl) dL_law_796 ?_
  refine li_aload_n hC hl 2 rfl dL_law_799 ?_
  refine li_aload_n hC hl 0 rfl dL_law_800 ?_
  refine li_iload_n hC hl 3 rfl dL_law_801 ?_
  refine li_iconst hC dL_law_802 ?_
  refine li_iadd hC dL_law_803 ?_
  refine li_sld hC hX hbl hbA hS.2.2 (by omega) hL dL_law_804 ?_
  rw [← hv1]
  have hS := st_swap hS
  refine fr_callVi hC (c_X12_can l g hm ar F2 A2 S hSA v1 hr1 hI hL0 _) mk_X12_can ml_L_103 ⟨Nat.le_of_ble_eq_true rfl, Nat.le_of_ble_eq_true rfl⟩ ⟨by show cells + 0 ≤ 600000; omega, by show slots + 0 ≤ 7302250; omega⟩ hK hS (li_recv hK.1 ck_X12 (hS.1 0 _ rfl)) rfl hl.1 rfl (Nat.le_of_ble_eq_true rfl) dL_law_805 (fun v w H locs hp hS => ?_)
  obtain ⟨hv, hw9⟩ := hp
  rw [hw9] at hS; rw [hv]
  have hS := st_swap hS
  refine li_same (tgt := 1154) hC (by decide) dL_law_808 ?_
  exact K _ _ _ _ _ _ ⟨ad, F, A, E, tl, S, nm, T, nt, nd, ar, F2, A2, rfl, rfl, hSA, hLI⟩ hS hl (by omega) (by omega)
set_option maxHeartbeats 4000000 in
set_option maxRecDepth 100000 in
theorem law_firm (l : Launch) (g : GG) (x hm b L : Nat) (xs : Nat → Int32) : LawCase l g x hm b L xs 813 := by
  intro p e s m args below meth c Q Aw i w H locs ls cells slots hC hK hX hbl hbA hL hi hcc hW hS hl K
  obtain ⟨ad, F, A, E, tl, S, nm, T, nt, nd, ar, F2, A2, hx, hw, hSA, hLI⟩ := hW
  subst hx
  rw [hw] at hS
  have hLI0 := hLI
  obtain ⟨hSh, hInv, h66, h3, hTk, hld, hcd, hde, htE, htr⟩ := hLI0
  have hInv0 := hInv
  obtain ⟨hI, hH, hL0, hC0, hG, hTS, hMI⟩ := hInv0
  have h5 := hTS.2.1; have hq2 := hL0.1; have hq3 := hL0.2.1; have hq4 := hL0.2.2.1; have hD0 := hI.1
  have htq : F 1 = F2 24 := htE.1
  obtain ⟨v1, hv1⟩ : ∃ z : Int, z = xI xs (i + 1) := ⟨_, rfl⟩
  have hr1 : rng v1 := by rw [hv1]; exact xI_rng _ _
  obtain ⟨v2, hv2⟩ : ∃ z : Int, z = xI xs (i + 2) := ⟨_, rfl⟩
  have hr2 : rng v2 := by rw [hv2]; exact xI_rng _ _
  refine li_aload_n hC hl 1 rfl dL_law_813 ?_
  refine li_aload_n hC hl 0 rfl dL_law_814 ?_
  refine li_iload_n hC hl 3 rfl dL_law_815 ?_
  refine li_iconst hC dL_law_816 ?_
  refine li_iadd hC dL_law_817 ?_
  refine li_sld hC hX hbl hbA hS.2.2 (by omega) hL dL_law_818 ?_
  rw [← hv1]
  refine li_aload_n hC hl 0 rfl dL_law_819 ?_
  refine li_iload_n hC hl 3 rfl dL_law_820 ?_
  refine li_iconst hC dL_law_821 ?_
  refine li_iadd hC dL_law_822 ?_
  refine li_sld hC hX hbl hbA hS.2.2 (by omega) hL dL_law_823 ?_
  rw [← hv2]
  refine ro_callVi hC (c_X11_firm l g ad F A E tl S nm hSh hI v1 v2 hr1 hr2 hL0) mk_X11_firm ml_L_104 ⟨Nat.le_of_ble_eq_true rfl, Nat.le_of_ble_eq_true rfl⟩ ⟨by show cells ≤ 600000; omega, by show slots ≤ 7302250; omega⟩ hK.1 (hS.ro hK) (st_l hS).1 (li_recv hK.1 ck_X11 (hS.1 0 _ rfl)) rfl hl.1 rfl (Nat.le_of_ble_eq_true rfl) dL_law_824 ?_
  refine li_aload_n hC hl 2 rfl dL_law_827 ?_
  refine li_aload_n hC hl 0 rfl dL_law_828 ?_
  refine li_iload_n hC hl 3 rfl dL_law_829 ?_
  refine li_iconst hC dL_law_830 ?_
  refine li_iadd hC dL_law_831 ?_
  refine li_sld hC hX hbl hbA hS.2.2 (by omega) hL dL_law_832 ?_
  rw [← hv1]
  refine li_aload_n hC hl 0 rfl dL_law_833 ?_
  refine li_iload_n hC hl 3 rfl dL_law_834 ?_
  refine li_iconst hC dL_law_835 ?_
  refine li_iadd hC dL_law_836 ?_
  refine li_sld hC hX hbl hbA hS.2.2 (by omega) hL dL_law_837 ?_
  rw [← hv2]
  have hS := st_swap hS
  refine fr_callVi hC (c_X12_firm l g hm ar F2 A2 S hSA v1 v2 hr1 hr2 hI hL0 _) mk_X12_firm ml_L_107 ⟨Nat.le_of_ble_eq_true rfl, Nat.le_of_ble_eq_true rfl⟩ ⟨by show cells + 0 ≤ 600000; omega, by show slots + 0 ≤ 7302250; omega⟩ hK hS (li_recv hK.1 ck_X12 (hS.1 0 _ rfl)) rfl hl.1 rfl (Nat.le_of_ble_eq_true rfl) dL_law_838 (fun v w H locs hp hS => ?_)
  obtain ⟨hv, hw9⟩ := hp
  rw [hw9] at hS; rw [hv]
  have hS := st_swap hS
  refine li_same (tgt := 1154) hC (by decide) dL_law_841 ?_
  exact K _ _ _ _ _ _ ⟨ad, F, A, E, tl, S, nm, T, nt, nd, ar, F2, A2, rfl, rfl, hSA, hLI⟩ hS hl (by omega) (by omega)
set_option maxHeartbeats 4000000 in
set_option maxRecDepth 100000 in
theorem law_odds (l : Launch) (g : GG) (x hm b L : Nat) (xs : Nat → Int32) : LawCase l g x hm b L xs 846 := by
  intro p e s m args below meth c Q Aw i w H locs ls cells slots hC hK hX hbl hbA hL hi hcc hW hS hl K
  obtain ⟨ad, F, A, E, tl, S, nm, T, nt, nd, ar, F2, A2, hx, hw, hSA, hLI⟩ := hW
  subst hx
  rw [hw] at hS
  have hLI0 := hLI
  obtain ⟨hSh, hInv, h66, h3, hTk, hld, hcd, hde, htE, htr⟩ := hLI0
  have hInv0 := hInv
  obtain ⟨hI, hH, hL0, hC0, hG, hTS, hMI⟩ := hInv0
  have h5 := hTS.2.1; have hq2 := hL0.1; have hq3 := hL0.2.1; have hq4 := hL0.2.2.1; have hD0 := hI.1
  have htq : F 1 = F2 24 := htE.1
  obtain ⟨v1, hv1⟩ : ∃ z : Int, z = xI xs (i + 1) := ⟨_, rfl⟩
  have hr1 : rng v1 := by rw [hv1]; exact xI_rng _ _
  obtain ⟨v2, hv2⟩ : ∃ z : Int, z = xI xs (i + 2) := ⟨_, rfl⟩
  have hr2 : rng v2 := by rw [hv2]; exact xI_rng _ _
  refine li_aload_n hC hl 1 rfl dL_law_846 ?_
  refine li_aload_n hC hl 0 rfl dL_law_847 ?_
  refine li_iload_n hC hl 3 rfl dL_law_848 ?_
  refine li_iconst hC dL_law_849 ?_
  refine li_iadd hC dL_law_850 ?_
  refine li_sld hC hX hbl hbA hS.2.2 (by omega) hL dL_law_851 ?_
  rw [← hv1]
  refine li_aload_n hC hl 0 rfl dL_law_852 ?_
  refine li_iload_n hC hl 3 rfl dL_law_853 ?_
  refine li_iconst hC dL_law_854 ?_
  refine li_iadd hC dL_law_855 ?_
  refine li_sld hC hX hbl hbA hS.2.2 (by omega) hL dL_law_856 ?_
  rw [← hv2]
  refine ro_callVl hC (c_X11_odds l g ad F A E tl S nm hSh hI v1 v2 hr1 hr2 hH) mk_X11_odds ml_L_108 ⟨Nat.le_of_ble_eq_true rfl, Nat.le_of_ble_eq_true rfl⟩ ⟨by show cells ≤ 600000; omega, by show slots ≤ 7302250; omega⟩ hK.1 (hS.ro hK) (st_l hS).1 (li_recv hK.1 ck_X11 (hS.1 0 _ rfl)) rfl hl.1 rfl (Nat.le_of_ble_eq_true rfl) dL_law_857 ?_
  refine li_aload_n hC hl 2 rfl dL_law_860 ?_
  refine li_aload_n hC hl 0 rfl dL_law_861 ?_
  refine li_iload_n hC hl 3 rfl dL_law_862 ?_
  refine li_iconst hC dL_law_863 ?_
  refine li_iadd hC dL_law_864 ?_
  refine li_sld hC hX hbl hbA hS.2.2 (by omega) hL dL_law_865 ?_
  rw [← hv1]
  refine li_aload_n hC hl 0 rfl dL_law_866 ?_
  refine li_iload_n hC hl 3 rfl dL_law_867 ?_
  refine li_iconst hC dL_law_868 ?_
  refine li_iadd hC dL_law_869 ?_
  refine li_sld hC hX hbl hbA hS.2.2 (by omega) hL dL_law_870 ?_
  rw [← hv2]
  refine ro_callVl hC (c_X12_odds l g hm S v1 v2 hr1 hr2 hI hH) mk_X12_odds ml_L_112 ⟨Nat.le_of_ble_eq_true rfl, Nat.le_of_ble_eq_true rfl⟩ ⟨by show cells ≤ 600000; omega, by show slots ≤ 7302250; omega⟩ hK.1 (hS.ro hK) (show RPic g hm S H by rw [← hSA]; exact RW_pic (st_r hS)) (li_recv hK.1 ck_X12 ((st_r hS).1 0 _ rfl)) rfl hl.1 rfl (Nat.le_of_ble_eq_true rfl) dL_law_871 ?_
  refine li_sameJ (tgt := 1154) hC (by decide) dL_law_874 dL_law_875 ?_
  exact K _ _ _ _ _ _ ⟨ad, F, A, E, tl, S, nm, T, nt, nd, ar, F2, A2, rfl, rfl, hSA, hLI⟩ hS hl (by omega) (by omega)
set_option maxHeartbeats 4000000 in
set_option maxRecDepth 100000 in
theorem law_mean (l : Launch) (g : GG) (x hm b L : Nat) (xs : Nat → Int32) : LawCase l g x hm b L xs 880 := by
  intro p e s m args below meth c Q Aw i w H locs ls cells slots hC hK hX hbl hbA hL hi hcc hW hS hl K
  obtain ⟨ad, F, A, E, tl, S, nm, T, nt, nd, ar, F2, A2, hx, hw, hSA, hLI⟩ := hW
  subst hx
  rw [hw] at hS
  have hLI0 := hLI
  obtain ⟨hSh, hInv, h66, h3, hTk, hld, hcd, hde, htE, htr⟩ := hLI0
  have hInv0 := hInv
  obtain ⟨hI, hH, hL0, hC0, hG, hTS, hMI⟩ := hInv0
  have h5 := hTS.2.1; have hq2 := hL0.1; have hq3 := hL0.2.1; have hq4 := hL0.2.2.1; have hD0 := hI.1
  have htq : F 1 = F2 24 := htE.1
  obtain ⟨v1, hv1⟩ : ∃ z : Int, z = xI xs (i + 1) := ⟨_, rfl⟩
  have hr1 : rng v1 := by rw [hv1]; exact xI_rng _ _
  refine li_aload_n hC hl 1 rfl dL_law_880 ?_
  refine li_aload_n hC hl 0 rfl dL_law_881 ?_
  refine li_iload_n hC hl 3 rfl dL_law_882 ?_
  refine li_iconst hC dL_law_883 ?_
  refine li_iadd hC dL_law_884 ?_
  refine li_sld hC hX hbl hbA hS.2.2 (by omega) hL dL_law_885 ?_
  rw [← hv1]
  refine ro_callVl hC (c_X11_mean l g ad F A E tl S nm hSh hI v1 hr1 hH hC0 hG) mk_X11_mean ml_L_113 ⟨Nat.le_of_ble_eq_true rfl, Nat.le_of_ble_eq_true rfl⟩ ⟨by show cells ≤ 600000; omega, by show slots ≤ 7302250; omega⟩ hK.1 (hS.ro hK) (st_l hS).1 (li_recv hK.1 ck_X11 (hS.1 0 _ rfl)) rfl hl.1 rfl (Nat.le_of_ble_eq_true rfl) dL_law_886 ?_
  refine li_aload_n hC hl 2 rfl dL_law_889 ?_
  refine li_aload_n hC hl 0 rfl dL_law_890 ?_
  refine li_iload_n hC hl 3 rfl dL_law_891 ?_
  refine li_iconst hC dL_law_892 ?_
  refine li_iadd hC dL_law_893 ?_
  refine li_sld hC hX hbl hbA hS.2.2 (by omega) hL dL_law_894 ?_
  rw [← hv1]
  have hS := st_swap hS
  refine fr_callVl hC (c_X12_mean l g hm ar F2 A2 S hSA v1 hr1 hI hH hC0 _) mk_X12_mean ml_L_117 ⟨Nat.le_of_ble_eq_true rfl, Nat.le_of_ble_eq_true rfl⟩ ⟨by show cells + 0 ≤ 600000; omega, by show slots + 0 ≤ 7302250; omega⟩ hK hS (li_recv hK.1 ck_X12 (hS.1 0 _ rfl)) rfl hl.1 rfl (Nat.le_of_ble_eq_true rfl) dL_law_895 (fun v w H locs hp hS => ?_)
  obtain ⟨hv, f9, f10, hw9⟩ := hp
  rw [hw9] at hS; rw [hv]
  have hS := st_swap hS
  refine li_sameJ (tgt := 1154) hC (by decide) dL_law_898 dL_law_899 ?_
  exact K _ _ _ _ _ _ ⟨ad, F, A, E, tl, S, nm, T, nt, nd, ar, F2, (va_up (va_up A2 9 f9) 10 f10), rfl, rfl, hSA, lw_ref (hLI) rfl rfl rfl rfl⟩ hS hl (by omega) (by omega)
set_option maxHeartbeats 4000000 in
set_option maxRecDepth 100000 in
theorem law_plan (l : Launch) (g : GG) (x hm b L : Nat) (xs : Nat → Int32) : LawCase l g x hm b L xs 904 := by
  intro p e s m args below meth c Q Aw i w H locs ls cells slots hC hK hX hbl hbA hL hi hcc hW hS hl K
  obtain ⟨ad, F, A, E, tl, S, nm, T, nt, nd, ar, F2, A2, hx, hw, hSA, hLI⟩ := hW
  subst hx
  rw [hw] at hS
  have hLI0 := hLI
  obtain ⟨hSh, hInv, h66, h3, hTk, hld, hcd, hde, htE, htr⟩ := hLI0
  have hInv0 := hInv
  obtain ⟨hI, hH, hL0, hC0, hG, hTS, hMI⟩ := hInv0
  have h5 := hTS.2.1; have hq2 := hL0.1; have hq3 := hL0.2.1; have hq4 := hL0.2.2.1; have hD0 := hI.1
  have htq : F 1 = F2 24 := htE.1
  obtain ⟨v1, hv1⟩ : ∃ z : Int, z = xI xs (i + 1) := ⟨_, rfl⟩
  have hr1 : rng v1 := by rw [hv1]; exact xI_rng _ _
  obtain ⟨v2, hv2⟩ : ∃ z : Int, z = xI xs (i + 2) := ⟨_, rfl⟩
  have hr2 : rng v2 := by rw [hv2]; exact xI_rng _ _
  refine li_aload_n hC hl 1 rfl dL_law_904 ?_
  refine li_aload_n hC hl 0 rfl dL_law_905 ?_
  refine li_iload_n hC hl 3 rfl dL_law_906 ?_
  refine li_iconst hC dL_law_907 ?_
  refine li_iadd hC dL_law_908 ?_
  refine li_sld hC hX hbl hbA hS.2.2 (by omega) hL dL_law_909 ?_
  rw [← hv1]
  refine li_aload_n hC hl 0 rfl dL_law_910 ?_
  refine li_iload_n hC hl 3 rfl dL_law_911 ?_
  refine li_iconst hC dL_law_912 ?_
  refine li_iadd hC dL_law_913 ?_
  refine li_sld hC hX hbl hbA hS.2.2 (by omega) hL dL_law_914 ?_
  rw [← hv2]
  refine fr_callVi hC (c_X11_plan l g ad F A E tl S nm hSh hI v1 v2 hr1 hr2 hH (by omega) (by omega) (by omega) (by omega) _) mk_X11_plan ml_L_118 ⟨Nat.le_of_ble_eq_true rfl, Nat.le_of_ble_eq_true rfl⟩ ⟨by show cells + 0 ≤ 600000; omega, by show slots + 0 ≤ 7302250; omega⟩ hK hS (li_recv hK.1 ck_X11 (hS.1 0 _ rfl)) rfl hl.1 rfl (Nat.le_of_ble_eq_true rfl) dL_law_915 (fun v w H locs hp hS => ?_)
  obtain ⟨hv, Fc, Ac, hw9, hkp, hsh⟩ := hp
  rw [hw9] at hS; rw [hv]
  refine li_aload_n hC hl 2 rfl dL_law_918 ?_
  refine li_aload_n hC hl 0 rfl dL_law_919 ?_
  refine li_iload_n hC hl 3 rfl dL_law_920 ?_
  refine li_iconst hC dL_law_921 ?_
  refine li_iadd hC dL_law_922 ?_
  refine li_sld hC hX hbl hbA hS.2.2 (by omega) hL dL_law_923 ?_
  rw [← hv1]
  refine li_aload_n hC hl 0 rfl dL_law_924 ?_
  refine li_iload_n hC hl 3 rfl dL_law_925 ?_
  refine li_iconst hC dL_law_926 ?_
  refine li_iadd hC dL_law_927 ?_
  refine li_sld hC hX hbl hbA hS.2.2 (by omega) hL dL_law_928 ?_
  rw [← hv2]
  have hS := st_swap hS
  refine fr_callVi hC (c_X12_plan l g hm ar F2 A2 S hSA v1 v2 hr1 hr2 (by omega) hI _) mk_X12_plan ml_L_121 ⟨Nat.le_of_ble_eq_true rfl, Nat.le_of_ble_eq_true rfl⟩ ⟨by show cells + 0 + 0 ≤ 600000; omega, by show slots + 0 + 0 ≤ 7302250; omega⟩ hK hS (li_recv hK.1 ck_X12 (hS.1 0 _ rfl)) rfl hl.1 rfl (Nat.le_of_ble_eq_true rfl) dL_law_929 (fun v w H locs hp hS => ?_)
  obtain ⟨hv, hw9⟩ := hp
  rw [hw9] at hS; rw [hv]
  have hS := st_swap hS
  refine li_same (tgt := 1154) hC (by decide) dL_law_932 ?_
  exact K _ _ _ _ _ _ ⟨ad, Fc, Ac, E, tl, (listS 3 92 100 S v1 v2), nm, T, nt, nd, ar, F2, (va_up A2 1 (listS 3 92 100 S v1 v2)), rfl, rfl, rfl, lw_ref (lw_step hLI hkp hsh (inv_plan hInv v1 v2)) rfl rfl rfl rfl⟩ hS hl (by omega) (by omega)
set_option maxHeartbeats 4000000 in
set_option maxRecDepth 100000 in
theorem law_done (l : Launch) (g : GG) (x hm b L : Nat) (xs : Nat → Int32) : LawCase l g x hm b L xs 937 := by
  intro p e s m args below meth c Q Aw i w H locs ls cells slots hC hK hX hbl hbA hL hi hcc hW hS hl K
  obtain ⟨ad, F, A, E, tl, S, nm, T, nt, nd, ar, F2, A2, hx, hw, hSA, hLI⟩ := hW
  subst hx
  rw [hw] at hS
  have hLI0 := hLI
  obtain ⟨hSh, hInv, h66, h3, hTk, hld, hcd, hde, htE, htr⟩ := hLI0
  have hInv0 := hInv
  obtain ⟨hI, hH, hL0, hC0, hG, hTS, hMI⟩ := hInv0
  have h5 := hTS.2.1; have hq2 := hL0.1; have hq3 := hL0.2.1; have hq4 := hL0.2.2.1; have hD0 := hI.1
  have htq : F 1 = F2 24 := htE.1
  obtain ⟨v1, hv1⟩ : ∃ z : Int, z = xI xs (i + 1) := ⟨_, rfl⟩
  have hr1 : rng v1 := by rw [hv1]; exact xI_rng _ _
  refine li_aload_n hC hl 1 rfl dL_law_937 ?_
  refine li_aload_n hC hl 0 rfl dL_law_938 ?_
  refine li_iload_n hC hl 3 rfl dL_law_939 ?_
  refine li_iconst hC dL_law_940 ?_
  refine li_iadd hC dL_law_941 ?_
  refine li_sld hC hX hbl hbA hS.2.2 (by omega) hL dL_law_942 ?_
  rw [← hv1]
  refine fr_callVi hC (c_X11_done l g ad F A E tl S nm hSh hI v1 hr1 hH (by omega) (by omega) (by omega) (by omega) hL0 hC0 hG _) mk_X11_done ml_L_122 ⟨Nat.le_of_ble_eq_true rfl, Nat.le_of_ble_eq_true rfl⟩ ⟨by show cells + 0 ≤ 600000; omega, by show slots + 0 ≤ 7302250; omega⟩ hK hS (li_recv hK.1 ck_X11 (hS.1 0 _ rfl)) rfl hl.1 rfl (Nat.le_of_ble_eq_true rfl) dL_law_943 (fun v w H locs hp hS => ?_)
  obtain ⟨hv, Fc, Ac, hw9, hkp, hsh⟩ := hp
  rw [hw9] at hS; rw [hv]
  refine li_aload_n hC hl 2 rfl dL_law_946 ?_
  refine li_aload_n hC hl 0 rfl dL_law_947 ?_
  refine li_iload_n hC hl 3 rfl dL_law_948 ?_
  refine li_iconst hC dL_law_949 ?_
  refine li_iadd hC dL_law_950 ?_
  refine li_sld hC hX hbl hbA hS.2.2 (by omega) hL dL_law_951 ?_
  rw [← hv1]
  have hS := st_swap hS
  refine fr_callVi hC (c_X12_done l g hm ar F2 A2 S hSA v1 hr1 hI hL0 hH hC0 _) mk_X12_done ml_L_125 ⟨Nat.le_of_ble_eq_true rfl, Nat.le_of_ble_eq_true rfl⟩ ⟨by show cells + 0 + 0 ≤ 600000; omega, by show slots + 0 + 0 ≤ 7302250; omega⟩ hK hS (li_recv hK.1 ck_X12 (hS.1 0 _ rfl)) rfl hl.1 rfl (Nat.le_of_ble_eq_true rfl) dL_law_952 (fun v w H locs hp hS => ?_)
  obtain ⟨hv, f9, f10, f22, hw9⟩ := hp
  rw [hw9] at hS; rw [hv]
  have hS := st_swap hS
  refine li_same (tgt := 1154) hC (by decide) dL_law_955 ?_
  exact K _ _ _ _ _ _ ⟨ad, Fc, Ac, E, tl, S, nm, T, nt, nd, ar, F2, (va_up (va_up (va_up A2 9 f9) 10 f10) 22 f22), rfl, rfl, hSA, lw_ref (lw_step hLI hkp hsh hInv) rfl rfl rfl rfl⟩ hS hl (by omega) (by omega)
set_option maxHeartbeats 4000000 in
set_option maxRecDepth 100000 in
theorem law_book (l : Launch) (g : GG) (x hm b L : Nat) (xs : Nat → Int32) : LawCase l g x hm b L xs 960 := by
  intro p e s m args below meth c Q Aw i w H locs ls cells slots hC hK hX hbl hbA hL hi hcc hW hS hl K
  obtain ⟨ad, F, A, E, tl, S, nm, T, nt, nd, ar, F2, A2, hx, hw, hSA, hLI⟩ := hW
  subst hx
  rw [hw] at hS
  have hLI0 := hLI
  obtain ⟨hSh, hInv, h66, h3, hTk, hld, hcd, hde, htE, htr⟩ := hLI0
  have hInv0 := hInv
  obtain ⟨hI, hH, hL0, hC0, hG, hTS, hMI⟩ := hInv0
  have h5 := hTS.2.1; have hq2 := hL0.1; have hq3 := hL0.2.1; have hq4 := hL0.2.2.1; have hD0 := hI.1
  have htq : F 1 = F2 24 := htE.1
  obtain ⟨v1, hv1⟩ : ∃ z : Int, z = xI xs (i + 1) := ⟨_, rfl⟩
  have hr1 : rng v1 := by rw [hv1]; exact xI_rng _ _
  obtain ⟨v2, hv2⟩ : ∃ z : Int, z = xI xs (i + 2) := ⟨_, rfl⟩
  have hr2 : rng v2 := by rw [hv2]; exact xI_rng _ _
  refine li_aload_n hC hl 1 rfl dL_law_960 ?_
  refine li_aload_n hC hl 0 rfl dL_law_961 ?_
  refine li_iload_n hC hl 3 rfl dL_law_962 ?_
  refine li_iconst hC dL_law_963 ?_
  refine li_iadd hC dL_law_964 ?_
  refine li_sld hC hX hbl hbA hS.2.2 (by omega) hL dL_law_965 ?_
  rw [← hv1]
  refine li_aload_n hC hl 0 rfl dL_law_966 ?_
  refine li_iload_n hC hl 3 rfl dL_law_967 ?_
  refine li_iconst hC dL_law_968 ?_
  refine li_iadd hC dL_law_969 ?_
  refine li_sld hC hX hbl hbA hS.2.2 (by omega) hL dL_law_970 ?_
  rw [← hv2]
  refine fr_callVi hC (c_X11_book l g ad F A E tl S nm hSh hI v1 v2 hr1 hr2 hH (by omega) (by omega) (by omega) (by omega) _) mk_X11_book ml_L_126 ⟨Nat.le_of_ble_eq_true rfl, Nat.le_of_ble_eq_true rfl⟩ ⟨by show cells + 0 ≤ 600000; omega, by show slots + 0 ≤ 7302250; omega⟩ hK hS (li_recv hK.1 ck_X11 (hS.1 0 _ rfl)) rfl hl.1 rfl (Nat.le_of_ble_eq_true rfl) dL_law_971 (fun v w H locs hp hS => ?_)
  obtain ⟨hv, Fc, Ac, hw9, hkp, hsh⟩ := hp
  rw [hw9] at hS; rw [hv]
  refine li_aload_n hC hl 2 rfl dL_law_974 ?_
  refine li_aload_n hC hl 0 rfl dL_law_975 ?_
  refine li_iload_n hC hl 3 rfl dL_law_976 ?_
  refine li_iconst hC dL_law_977 ?_
  refine li_iadd hC dL_law_978 ?_
  refine li_sld hC hX hbl hbA hS.2.2 (by omega) hL dL_law_979 ?_
  rw [← hv1]
  refine li_aload_n hC hl 0 rfl dL_law_980 ?_
  refine li_iload_n hC hl 3 rfl dL_law_981 ?_
  refine li_iconst hC dL_law_982 ?_
  refine li_iadd hC dL_law_983 ?_
  refine li_sld hC hX hbl hbA hS.2.2 (by omega) hL dL_law_984 ?_
  rw [← hv2]
  have hS := st_swap hS
  refine fr_callVi hC (c_X12_book l g hm ar F2 A2 S hSA v1 v2 hr1 hr2 (by omega) hI _) mk_X12_book ml_L_129 ⟨Nat.le_of_ble_eq_true rfl, Nat.le_of_ble_eq_true rfl⟩ ⟨by show cells + 0 + 0 ≤ 600000; omega, by show slots + 0 + 0 ≤ 7302250; omega⟩ hK hS (li_recv hK.1 ck_X12 (hS.1 0 _ rfl)) rfl hl.1 rfl (Nat.le_of_ble_eq_true rfl) dL_law_985 (fun v w H locs hp hS => ?_)
  obtain ⟨hv, hw9⟩ := hp
  rw [hw9] at hS; rw [hv]
  have hS := st_swap hS
  refine li_same (tgt := 1154) hC (by decide) dL_law_988 ?_
  exact K _ _ _ _ _ _ ⟨ad, Fc, Ac, E, tl, (listS 4 108 116 S v1 v2), nm, T, nt, nd, ar, F2, (va_up A2 1 (listS 4 108 116 S v1 v2)), rfl, rfl, rfl, lw_ref (lw_step hLI hkp hsh (inv_book hInv v1 v2)) rfl rfl rfl rfl⟩ hS hl (by omega) (by omega)
set_option maxHeartbeats 4000000 in
set_option maxRecDepth 100000 in
theorem law_looked (l : Launch) (g : GG) (x hm b L : Nat) (xs : Nat → Int32) : LawCase l g x hm b L xs 993 := by
  intro p e s m args below meth c Q Aw i w H locs ls cells slots hC hK hX hbl hbA hL hi hcc hW hS hl K
  obtain ⟨ad, F, A, E, tl, S, nm, T, nt, nd, ar, F2, A2, hx, hw, hSA, hLI⟩ := hW
  subst hx
  rw [hw] at hS
  have hLI0 := hLI
  obtain ⟨hSh, hInv, h66, h3, hTk, hld, hcd, hde, htE, htr⟩ := hLI0
  have hInv0 := hInv
  obtain ⟨hI, hH, hL0, hC0, hG, hTS, hMI⟩ := hInv0
  have h5 := hTS.2.1; have hq2 := hL0.1; have hq3 := hL0.2.1; have hq4 := hL0.2.2.1; have hD0 := hI.1
  have htq : F 1 = F2 24 := htE.1
  obtain ⟨r, hr⟩ : ∃ r : Int, firstLook (fun k => S (42 + S (108 + k).toNat).toNat = S (116 + k).toNat) (S 4) r := by have h9 := look_ex (fun k => S (42 + S (108 + k).toNat).toNat = S (116 + k).toNat) (S 4).toNat; rw [Int.toNat_of_nonneg (by omega)] at h9; exact h9
  refine li_aload_n hC hl 1 rfl dL_law_993 ?_
  refine ro_callVi hC (c_X11_looked l g ad F A E tl S nm hSh hI r hr hL0) mk_X11_looked ml_L_130 ⟨Nat.le_of_ble_eq_true rfl, Nat.le_of_ble_eq_true rfl⟩ ⟨by show cells ≤ 600000; omega, by show slots ≤ 7302250; omega⟩ hK.1 (hS.ro hK) (st_l hS).1 (li_recv hK.1 ck_X11 (hS.1 0 _ rfl)) rfl hl.1 rfl (Nat.le_of_ble_eq_true rfl) dL_law_994 ?_
  refine li_aload_n hC hl 2 rfl dL_law_997 ?_
  refine ro_callVi hC (c_X12_looked l g hm S r hr hI hL0) mk_X12_looked ml_L_133 ⟨Nat.le_of_ble_eq_true rfl, Nat.le_of_ble_eq_true rfl⟩ ⟨by show cells ≤ 600000; omega, by show slots ≤ 7302250; omega⟩ hK.1 (hS.ro hK) (show RPic g hm S H by rw [← hSA]; exact RW_pic (st_r hS)) (li_recv hK.1 ck_X12 ((st_r hS).1 0 _ rfl)) rfl hl.1 rfl (Nat.le_of_ble_eq_true rfl) dL_law_998 ?_
  refine li_same (tgt := 1154) hC (by decide) dL_law_1001 ?_
  exact K _ _ _ _ _ _ ⟨ad, F, A, E, tl, S, nm, T, nt, nd, ar, F2, A2, rfl, rfl, hSA, hLI⟩ hS hl (by omega) (by omega)
set_option maxHeartbeats 4000000 in
set_option maxRecDepth 100000 in
theorem law_act (l : Launch) (g : GG) (x hm b L : Nat) (xs : Nat → Int32) : LawCase l g x hm b L xs 1006 := by
  intro p e s m args below meth c Q Aw i w H locs ls cells slots hC hK hX hbl hbA hL hi hcc hW hS hl K
  obtain ⟨ad, F, A, E, tl, S, nm, T, nt, nd, ar, F2, A2, hx, hw, hSA, hLI⟩ := hW
  subst hx
  rw [hw] at hS
  have hLI0 := hLI
  obtain ⟨hSh, hInv, h66, h3, hTk, hld, hcd, hde, htE, htr⟩ := hLI0
  have hInv0 := hInv
  obtain ⟨hI, hH, hL0, hC0, hG, hTS, hMI⟩ := hInv0
  have h5 := hTS.2.1; have hq2 := hL0.1; have hq3 := hL0.2.1; have hq4 := hL0.2.2.1; have hD0 := hI.1
  have htq : F 1 = F2 24 := htE.1
  obtain ⟨v1, hv1⟩ : ∃ z : Int, z = xI xs (i + 1) := ⟨_, rfl⟩
  have hr1 : rng v1 := by rw [hv1]; exact xI_rng _ _
  obtain ⟨v2, hv2⟩ : ∃ z : Int, z = xI xs (i + 2) := ⟨_, rfl⟩
  have hr2 : rng v2 := by rw [hv2]; exact xI_rng _ _
  obtain ⟨v3, hv3⟩ : ∃ z : Int, z = xI xs (i + 3) := ⟨_, rfl⟩
  have hr3 : rng v3 := by rw [hv3]; exact xI_rng _ _
  refine li_aload_n hC hl 1 rfl dL_law_1006 ?_
  refine li_aload_n hC hl 0 rfl dL_law_1007 ?_
  refine li_iload_n hC hl 3 rfl dL_law_1008 ?_
  refine li_iconst hC dL_law_1009 ?_
  refine li_iadd hC dL_law_1010 ?_
  refine li_sld hC hX hbl hbA hS.2.2 (by omega) hL dL_law_1011 ?_
  rw [← hv1]
  refine li_aload_n hC hl 0 rfl dL_law_1012 ?_
  refine li_iload_n hC hl 3 rfl dL_law_1013 ?_
  refine li_iconst hC dL_law_1014 ?_
  refine li_iadd hC dL_law_1015 ?_
  refine li_sld hC hX hbl hbA hS.2.2 (by omega) hL dL_law_1016 ?_
  rw [← hv2]
  refine li_aload_n hC hl 0 rfl dL_law_1017 ?_
  refine li_iload_n hC hl 3 rfl dL_law_1018 ?_
  refine li_iconst hC dL_law_1019 ?_
  refine li_iadd hC dL_law_1020 ?_
  refine li_sld hC hX hbl hbA hS.2.2 (by omega) hL dL_law_1021 ?_
  rw [← hv3]
  refine fr_callVi hC (c_X11_act l g ad F A E tl S nm hSh hI v1 v2 v3 hr1 hr2 _) mk_X11_act ml_L_134 ⟨Nat.le_of_ble_eq_true rfl, Nat.le_of_ble_eq_true rfl⟩ ⟨by show cells + 0 ≤ 600000; omega, by show slots + 0 ≤ 7302250; omega⟩ hK hS (li_recv hK.1 ck_X11 (hS.1 0 _ rfl)) rfl hl.1 rfl (Nat.le_of_ble_eq_true rfl) dL_law_1022 (fun v w H locs hp hS => ?_)
  obtain ⟨hv, hw9⟩ := hp
  rw [hw9] at hS; rw [hv]
  refine li_aload_n hC hl 2 rfl dL_law_1025 ?_
  refine li_aload_n hC hl 0 rfl dL_law_1026 ?_
  refine li_iload_n hC hl 3 rfl dL_law_1027 ?_
  refine li_iconst hC dL_law_1028 ?_
  refine li_iadd hC dL_law_1029 ?_
  refine li_sld hC hX hbl hbA hS.2.2 (by omega) hL dL_law_1030 ?_
  rw [← hv1]
  refine li_aload_n hC hl 0 rfl dL_law_1031 ?_
  refine li_iload_n hC hl 3 rfl dL_law_1032 ?_
  refine li_iconst hC dL_law_1033 ?_
  refine li_iadd hC dL_law_1034 ?_
  refine li_sld hC hX hbl hbA hS.2.2 (by omega) hL dL_law_1035 ?_
  rw [← hv2]
  refine li_aload_n hC hl 0 rfl dL_law_1036 ?_
  refine li_iload_n hC hl 3 rfl dL_law_1037 ?_
  refine li_iconst hC dL_law_1038 ?_
  refine li_iadd hC dL_law_1039 ?_
  refine li_sld hC hX hbl hbA hS.2.2 (by omega) hL dL_law_1040 ?_
  rw [← hv3]
  have hS := st_swap hS
  refine fr_callVi hC (c_X12_act l g hm ar F2 A2 S hSA v1 v2 v3 hr1 hr2 hI _) mk_X12_act ml_L_137 ⟨Nat.le_of_ble_eq_true rfl, Nat.le_of_ble_eq_true rfl⟩ ⟨by show cells + 0 + 0 ≤ 600000; omega, by show slots + 0 + 0 ≤ 7302250; omega⟩ hK hS (li_recv hK.1 ck_X12 (hS.1 0 _ rfl)) rfl hl.1 rfl (Nat.le_of_ble_eq_true rfl) dL_law_1041 (fun v w H locs hp hS => ?_)
  obtain ⟨hv, k1, k2, k3, hw9⟩ := hp
  rw [hw9] at hS; rw [hv]
  have hS := st_swap hS
  refine li_same (tgt := 1154) hC (by decide) dL_law_1044 ?_
  exact K _ _ _ _ _ _ ⟨ad, (va_up F 1 (actT S v1 v2 (A 2)).1), (va_up A 2 (actT S v1 v2 (A 2)).2), E, tl, S, nm, T, nt, nd, ar, (va_up (va_up (va_up (va_up F2 24 (actT S v1 v2 (A2 23)).1) 25 k1) 26 k2) 27 k3), (va_up A2 23 (actT S v1 v2 (A2 23)).2), rfl, rfl, hSA, lw_act hLI _ _⟩ hS hl (by omega) (by omega)
set_option maxHeartbeats 4000000 in
set_option maxRecDepth 100000 in
theorem law_trace (l : Launch) (g : GG) (x hm b L : Nat) (xs : Nat → Int32) : LawCase l g x hm b L xs 1049 := by
  intro p e s m args below meth c Q Aw i w H locs ls cells slots hC hK hX hbl hbA hL hi hcc hW hS hl K
  obtain ⟨ad, F, A, E, tl, S, nm, T, nt, nd, ar, F2, A2, hx, hw, hSA, hLI⟩ := hW
  subst hx
  rw [hw] at hS
  have hLI0 := hLI
  obtain ⟨hSh, hInv, h66, h3, hTk, hld, hcd, hde, htE, htr⟩ := hLI0
  have hInv0 := hInv
  obtain ⟨hI, hH, hL0, hC0, hG, hTS, hMI⟩ := hInv0
  have h5 := hTS.2.1; have hq2 := hL0.1; have hq3 := hL0.2.1; have hq4 := hL0.2.2.1; have hD0 := hI.1
  have htq : F 1 = F2 24 := htE.1
  obtain ⟨v1, hv1⟩ : ∃ z : Int, z = xI xs (i + 1) := ⟨_, rfl⟩
  have hr1 : rng v1 := by rw [hv1]; exact xI_rng _ _
  refine li_aload_n hC hl 1 rfl dL_law_1049 ?_
  refine li_aload_n hC hl 0 rfl dL_law_1050 ?_
  refine li_iload_n hC hl 3 rfl dL_law_1051 ?_
  refine li_iconst hC dL_law_1052 ?_
  refine li_iadd hC dL_law_1053 ?_
  refine li_sld hC hX hbl hbA hS.2.2 (by omega) hL dL_law_1054 ?_
  rw [← hv1]
  refine ro_callVi hC (c_X11_trace l g ad F A E tl S nm hSh hI v1 hr1 (by omega)) mk_X11_trace ml_L_138 ⟨Nat.le_of_ble_eq_true rfl, Nat.le_of_ble_eq_true rfl⟩ ⟨by show cells ≤ 600000; omega, by show slots ≤ 7302250; omega⟩ hK.1 (hS.ro hK) (st_l hS).1 (li_recv hK.1 ck_X11 (hS.1 0 _ rfl)) rfl hl.1 rfl (Nat.le_of_ble_eq_true rfl) dL_law_1055 ?_
  refine li_aload_n hC hl 2 rfl dL_law_1058 ?_
  refine li_aload_n hC hl 0 rfl dL_law_1059 ?_
  refine li_iload_n hC hl 3 rfl dL_law_1060 ?_
  refine li_iconst hC dL_law_1061 ?_
  refine li_iadd hC dL_law_1062 ?_
  refine li_sld hC hX hbl hbA hS.2.2 (by omega) hL dL_law_1063 ?_
  rw [← hv1]
  have hS := st_swap hS
  refine fr_callVi hC (c_X12_trace l g hm ar F2 A2 S hSA v1 hr1 (F2 24) (A2 23) rfl rfl (by omega) _) mk_X12_trace ml_L_141 ⟨Nat.le_of_ble_eq_true rfl, Nat.le_of_ble_eq_true rfl⟩ ⟨by show cells + 0 ≤ 600000; omega, by show slots + 0 ≤ 7302250; omega⟩ hK hS (li_recv hK.1 ck_X12 (hS.1 0 _ rfl)) rfl hl.1 rfl (Nat.le_of_ble_eq_true rfl) dL_law_1064 (fun v w H locs hp hS => ?_)
  obtain ⟨hv, hw9⟩ := hp
  rw [hw9] at hS; rw [hv]
  have hS := st_swap hS
  rw [traceV_eq htE v1]
  refine li_same (tgt := 1154) hC (by decide) dL_law_1067 ?_
  exact K _ _ _ _ _ _ ⟨ad, F, A, E, tl, S, nm, T, nt, nd, ar, F2, A2, rfl, rfl, hSA, hLI⟩ hS hl (by omega) (by omega)
set_option maxHeartbeats 4000000 in
set_option maxRecDepth 100000 in
theorem law_as (l : Launch) (g : GG) (x hm b L : Nat) (xs : Nat → Int32) : LawCase l g x hm b L xs 1072 := by
  intro p e s m args below meth c Q Aw i w H locs ls cells slots hC hK hX hbl hbA hL hi hcc hW hS hl K
  obtain ⟨ad, F, A, E, tl, S, nm, T, nt, nd, ar, F2, A2, hx, hw, hSA, hLI⟩ := hW
  subst hx
  rw [hw] at hS
  have hLI0 := hLI
  obtain ⟨hSh, hInv, h66, h3, hTk, hld, hcd, hde, htE, htr⟩ := hLI0
  have hInv0 := hInv
  obtain ⟨hI, hH, hL0, hC0, hG, hTS, hMI⟩ := hInv0
  have h5 := hTS.2.1; have hq2 := hL0.1; have hq3 := hL0.2.1; have hq4 := hL0.2.2.1; have hD0 := hI.1
  have htq : F 1 = F2 24 := htE.1
  obtain ⟨v1, hv1⟩ : ∃ z : Int, z = xI xs (i + 1) := ⟨_, rfl⟩
  have hr1 : rng v1 := by rw [hv1]; exact xI_rng _ _
  obtain ⟨v2, hv2⟩ : ∃ z : Int, z = xI xs (i + 2) := ⟨_, rfl⟩
  have hr2 : rng v2 := by rw [hv2]; exact xI_rng _ _
  refine li_aload_n hC hl 1 rfl dL_law_1072 ?_
  refine li_aload_n hC hl 0 rfl dL_law_1073 ?_
  refine li_iload_n hC hl 3 rfl dL_law_1074 ?_
  refine li_iconst hC dL_law_1075 ?_
  refine li_iadd hC dL_law_1076 ?_
  refine li_sld hC hX hbl hbA hS.2.2 (by omega) hL dL_law_1077 ?_
  rw [← hv1]
  refine li_aload_n hC hl 0 rfl dL_law_1078 ?_
  refine li_iload_n hC hl 3 rfl dL_law_1079 ?_
  refine li_iconst hC dL_law_1080 ?_
  refine li_iadd hC dL_law_1081 ?_
  refine li_sld hC hX hbl hbA hS.2.2 (by omega) hL dL_law_1082 ?_
  rw [← hv2]
  refine ro_callVi hC (c_X11_as l g ad F A E tl S nm hSh hI v1 v2 hr1 hr2) mk_X11_as ml_L_142 ⟨Nat.le_of_ble_eq_true rfl, Nat.le_of_ble_eq_true rfl⟩ ⟨by show cells ≤ 600000; omega, by show slots ≤ 7302250; omega⟩ hK.1 (hS.ro hK) (st_l hS).1 (li_recv hK.1 ck_X11 (hS.1 0 _ rfl)) rfl hl.1 rfl (Nat.le_of_ble_eq_true rfl) dL_law_1083 ?_
  refine li_aload_n hC hl 2 rfl dL_law_1086 ?_
  refine li_aload_n hC hl 0 rfl dL_law_1087 ?_
  refine li_iload_n hC hl 3 rfl dL_law_1088 ?_
  refine li_iconst hC dL_law_1089 ?_
  refine li_iadd hC dL_law_1090 ?_
  refine li_sld hC hX hbl hbA hS.2.2 (by omega) hL dL_law_1091 ?_
  rw [← hv1]
  refine li_aload_n hC hl 0 rfl dL_law_1092 ?_
  refine li_iload_n hC hl 3 rfl dL_law_1093 ?_
  refine li_iconst hC dL_law_1094 ?_
  refine li_iadd hC dL_law_1095 ?_
  refine li_sld hC hX hbl hbA hS.2.2 (by omega) hL dL_law_1096 ?_
  rw [← hv2]
  refine ro_callVi hC (c_X12_as l g hm S v1 v2 hr1 hr2 hI) mk_X12_as ml_L_145 ⟨Nat.le_of_ble_eq_true rfl, Nat.le_of_ble_eq_true rfl⟩ ⟨by show cells ≤ 600000; omega, by show slots ≤ 7302250; omega⟩ hK.1 (hS.ro hK) (show RPic g hm S H by rw [← hSA]; exact RW_pic (st_r hS)) (li_recv hK.1 ck_X12 ((st_r hS).1 0 _ rfl)) rfl hl.1 rfl (Nat.le_of_ble_eq_true rfl) dL_law_1097 ?_
  refine li_same (tgt := 1154) hC (by decide) dL_law_1100 ?_
  exact K _ _ _ _ _ _ ⟨ad, F, A, E, tl, S, nm, T, nt, nd, ar, F2, A2, rfl, rfl, hSA, hLI⟩ hS hl (by omega) (by omega)
set_option maxHeartbeats 4000000 in
set_option maxRecDepth 100000 in
theorem law_image (l : Launch) (g : GG) (x hm b L : Nat) (xs : Nat → Int32) : LawCase l g x hm b L xs 1105 := by
  intro p e s m args below meth c Q Aw i w H locs ls cells slots hC hK hX hbl hbA hL hi hcc hW hS hl K
  obtain ⟨ad, F, A, E, tl, S, nm, T, nt, nd, ar, F2, A2, hx, hw, hSA, hLI⟩ := hW
  subst hx
  rw [hw] at hS
  have hLI0 := hLI
  obtain ⟨hSh, hInv, h66, h3, hTk, hld, hcd, hde, htE, htr⟩ := hLI0
  have hInv0 := hInv
  obtain ⟨hI, hH, hL0, hC0, hG, hTS, hMI⟩ := hInv0
  have h5 := hTS.2.1; have hq2 := hL0.1; have hq3 := hL0.2.1; have hq4 := hL0.2.2.1; have hD0 := hI.1
  have htq : F 1 = F2 24 := htE.1
  refine li_aload_n hC hl 1 rfl dL_law_1105 ?_
  refine fr_callVi hC (c_X11_image l g ad F A E tl S nm hSh hI nd hld hcd hde _) mk_X11_image ml_L_146 ⟨Nat.le_of_ble_eq_true rfl, Nat.le_of_ble_eq_true rfl⟩ ⟨by show cells + 1 ≤ 600000; omega, by show slots + 10 ≤ 7302250; omega⟩ hK hS (li_recv hK.1 ck_X11 (hS.1 0 _ rfl)) rfl hl.1 rfl (Nat.le_of_ble_eq_true rfl) dL_law_1106 (fun v w H locs hp hS => ?_)
  obtain ⟨hv, Fc, Ac, rc, tc, hw9, htl, hc66, ⟨hc1, hc2⟩, hsh, htk, hne⟩ := hp
  rw [hw9] at hS; rw [hv]
  refine li_aload_n hC hl 2 rfl dL_law_1109 ?_
  have hS := st_swap hS
  refine fr_callVi hC (c_X12_image l g hm ar F2 A2 S hSA (rg (by omega) (by omega)) _) mk_X12_image ml_L_149 ⟨Nat.le_of_ble_eq_true rfl, Nat.le_of_ble_eq_true rfl⟩ ⟨by show cells + 1 + 0 ≤ 600000; omega, by show slots + 10 + 0 ≤ 7302250; omega⟩ hK hS (li_recv hK.1 ck_X12 (hS.1 0 _ rfl)) rfl hl.1 rfl (Nat.le_of_ble_eq_true rfl) dL_law_1110 (fun v w H locs hp hS => ?_)
  obtain ⟨hv, hw9⟩ := hp
  rw [hw9] at hS; rw [hv]
  have hS := st_swap hS
  refine li_same (tgt := 1154) hC (by decide) dL_law_1113 ?_
  exact K _ _ _ _ _ _ ⟨ad, Fc, Ac, (va_up E 1 rc), tc, S, nm, S, nm, nm, ar, (va_up F2 3 1), (va_up A2 2 S), rfl, rfl, hSA, lw_image hLI hc66 hc1 hc2 hsh htk hne⟩ hS hl (by omega) (by omega)
set_option maxHeartbeats 4000000 in
set_option maxRecDepth 100000 in
theorem law_count (l : Launch) (g : GG) (x hm b L : Nat) (xs : Nat → Int32) : LawCase l g x hm b L xs 1131 := by
  intro p e s m args below meth c Q Aw i w H locs ls cells slots hC hK hX hbl hbA hL hi hcc hW hS hl K
  obtain ⟨ad, F, A, E, tl, S, nm, T, nt, nd, ar, F2, A2, hx, hw, hSA, hLI⟩ := hW
  subst hx
  rw [hw] at hS
  have hLI0 := hLI
  obtain ⟨hSh, hInv, h66, h3, hTk, hld, hcd, hde, htE, htr⟩ := hLI0
  have hInv0 := hInv
  obtain ⟨hI, hH, hL0, hC0, hG, hTS, hMI⟩ := hInv0
  have h5 := hTS.2.1; have hq2 := hL0.1; have hq3 := hL0.2.1; have hq4 := hL0.2.2.1; have hD0 := hI.1
  have htq : F 1 = F2 24 := htE.1
  obtain ⟨v1, hv1⟩ : ∃ z : Int, z = xI xs (i + 1) := ⟨_, rfl⟩
  have hr1 : rng v1 := by rw [hv1]; exact xI_rng _ _
  refine li_aload_n hC hl 1 rfl dL_law_1131 ?_
  refine li_aload_n hC hl 0 rfl dL_law_1132 ?_
  refine li_iload_n hC hl 3 rfl dL_law_1133 ?_
  refine li_iconst hC dL_law_1134 ?_
  refine li_iadd hC dL_law_1135 ?_
  refine li_sld hC hX hbl hbA hS.2.2 (by omega) hL dL_law_1136 ?_
  rw [← hv1]
  refine ro_callVi hC (c_X11_count l g ad F A E tl S nm hSh hI v1 hr1 (by omega) hL0 (by omega)) mk_X11_count ml_L_154 ⟨Nat.le_of_ble_eq_true rfl, Nat.le_of_ble_eq_true rfl⟩ ⟨by show cells ≤ 600000; omega, by show slots ≤ 7302250; omega⟩ hK.1 (hS.ro hK) (st_l hS).1 (li_recv hK.1 ck_X11 (hS.1 0 _ rfl)) rfl hl.1 rfl (Nat.le_of_ble_eq_true rfl) dL_law_1137 ?_
  refine li_aload_n hC hl 2 rfl dL_law_1140 ?_
  refine li_aload_n hC hl 0 rfl dL_law_1141 ?_
  refine li_iload_n hC hl 3 rfl dL_law_1142 ?_
  refine li_iconst hC dL_law_1143 ?_
  refine li_iadd hC dL_law_1144 ?_
  refine li_sld hC hX hbl hbA hS.2.2 (by omega) hL dL_law_1145 ?_
  rw [← hv1]
  have hS := st_swap hS
  refine fr_callVi hC (c_X12_count l g hm ar F2 A2 S hSA v1 hr1 (F2 24) rfl _) mk_X12_count ml_L_157 ⟨Nat.le_of_ble_eq_true rfl, Nat.le_of_ble_eq_true rfl⟩ ⟨by show cells + 0 ≤ 600000; omega, by show slots + 0 ≤ 7302250; omega⟩ hK hS (li_recv hK.1 ck_X12 (hS.1 0 _ rfl)) rfl hl.1 rfl (Nat.le_of_ble_eq_true rfl) dL_law_1146 (fun v w H locs hp hS => ?_)
  obtain ⟨hv, hw9⟩ := hp
  rw [hw9] at hS; rw [hv]
  have hS := st_swap hS
  rw [show F2 24 = F 1 from htE.1.symm]
  refine li_same (tgt := 1154) hC (by decide) dL_law_1149 ?_
  exact K _ _ _ _ _ _ ⟨ad, F, A, E, tl, S, nm, T, nt, nd, ar, F2, A2, rfl, rfl, hSA, hLI⟩ hS hl (by omega) (by omega)
