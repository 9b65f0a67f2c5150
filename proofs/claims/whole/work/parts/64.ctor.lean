set_option maxHeartbeats 4000000 in
set_option maxRecDepth 100000 in
theorem c_X4_init (l : Launch) (g : GG) (ws : va_W) (j : Nat) (q : Nat) (tr : Nat) (kd : Int) (i : Int) (v : Int) (lt : Int) (cl : Int) (r : Int) (hkd : 0 ≤ kd ∧ kd ≤ 6) (hj : ws[j]? = some (q, .inr (kci kd, nm0))) (sz : Nat) : MwrV l g yX4_init cX4_init 7 2 0 0 [.ref q, .ref tr, .int (iI i), .int (iI v), .int (iI lt), .int (iI cl), .int (iI r)] sz (ws) (fun w => w = ws.set j (q, .inr (kci kd, nmV tr i v lt cl r))) := by
  refine wr_startV (own := RX4) (by decide) rfl (Nat.le_of_ble_eq_true rfl) ?_
  intro Pg Ev s Mi args below Mt Cd ls Q Aw hC hK hS hnm hl hQ
  have hl : lv_has ls 7 [(0, .ref q), (1, .ref tr), (2, .int (iI i)), (3, .int (iI v)), (4, .int (iI lt)), (5, .int (iI cl)), (6, .int (iI r))] := hl
  obtain ⟨H, hH⟩ : ∃ H, H = s.heap := ⟨_, rfl⟩
  obtain ⟨locs, hlo⟩ : ∃ locs : List Loc, locs = [] := ⟨_, rfl⟩
  have hS : St g Aw s.heap H locs (ws) := by rw [hH, hlo]; exact hS
  have goal : W Pg l Ev (rmC 2 0 0) s Mi args below Mt Cd H locs 0 0 Q (F0 Mi 0 ls []) := ?goal
  · rw [hH, hlo] at goal; exact goal
  clear hH hlo
  refine li_aload_n hC hl 0 rfl dX4_init_0 ?_
  refine li_objInit hC oi_X4 hl.1 (by decide) ⟨by simp only [rmC]; omega, by simp only [rmC]; omega⟩ dX4_init_1 ?_
  refine li_aload_n hC hl 0 rfl dX4_init_4 ?_
  refine li_aload_n hC hl 1 rfl dX4_init_5 ?_
  refine li_putN0 hC hK hS j hkd (fs := [.null, .int (iI 0), .int (iI 0), .int (iI 0), .int (iI 0), .int (iI 0)]) hj fl_X4_9 (Nat.le_of_ble_eq_true rfl) hnm (ws' := ws.set j (q, .inr (kci kd, [.ref tr, .int (iI 0), .int (iI 0), .int (iI 0), .int (iI 0), .int (iI 0)]))) rfl dX4_init_6 (fun H locs hS => ?_)
  refine li_aload_n hC hl 0 rfl dX4_init_9 ?_
  refine li_iload_n hC hl 2 rfl dX4_init_10 ?_
  refine li_putN1 hC hK hS j hkd (fs := [.ref tr, .int (iI 0), .int (iI 0), .int (iI 0), .int (iI 0), .int (iI 0)]) (List.getElem?_set_self (List.getElem?_eq_some_iff.mp hj).1) fl_X4_15 (Nat.le_of_ble_eq_true rfl) hnm (ws' := ws.set j (q, .inr (kci kd, [.ref tr, .int (iI i), .int (iI 0), .int (iI 0), .int (iI 0), .int (iI 0)]))) (by rw [List.set_set]; rfl) dX4_init_11 (fun H locs hS => ?_)
  refine li_aload_n hC hl 0 rfl dX4_init_14 ?_
  refine li_iload_n hC hl 3 rfl dX4_init_15 ?_
  refine li_putN2 hC hK hS j hkd (fs := [.ref tr, .int (iI i), .int (iI 0), .int (iI 0), .int (iI 0), .int (iI 0)]) (List.getElem?_set_self (List.getElem?_eq_some_iff.mp hj).1) fl_X4_19 (Nat.le_of_ble_eq_true rfl) hnm (ws' := ws.set j (q, .inr (kci kd, [.ref tr, .int (iI i), .int (iI v), .int (iI 0), .int (iI 0), .int (iI 0)]))) (by rw [List.set_set]; rfl) dX4_init_16 (fun H locs hS => ?_)
  refine li_aload_n hC hl 0 rfl dX4_init_19 ?_
  refine li_iload hC hl 4 rfl dX4_init_20 ?_
  refine li_putN3 hC hK hS j hkd (fs := [.ref tr, .int (iI i), .int (iI v), .int (iI 0), .int (iI 0), .int (iI 0)]) (List.getElem?_set_self (List.getElem?_eq_some_iff.mp hj).1) fl_X4_22 (Nat.le_of_ble_eq_true rfl) hnm (ws' := ws.set j (q, .inr (kci kd, [.ref tr, .int (iI i), .int (iI v), .int (iI lt), .int (iI 0), .int (iI 0)]))) (by rw [List.set_set]; rfl) dX4_init_22 (fun H locs hS => ?_)
  refine li_aload_n hC hl 0 rfl dX4_init_25 ?_
  refine li_iload hC hl 5 rfl dX4_init_26 ?_
  refine li_putN4 hC hK hS j hkd (fs := [.ref tr, .int (iI i), .int (iI v), .int (iI lt), .int (iI 0), .int (iI 0)]) (List.getElem?_set_self (List.getElem?_eq_some_iff.mp hj).1) fl_X4_25 (Nat.le_of_ble_eq_true rfl) hnm (ws' := ws.set j (q, .inr (kci kd, [.ref tr, .int (iI i), .int (iI v), .int (iI lt), .int (iI cl), .int (iI 0)]))) (by rw [List.set_set]; rfl) dX4_init_28 (fun H locs hS => ?_)
  refine li_aload_n hC hl 0 rfl dX4_init_31 ?_
  refine li_iload hC hl 6 rfl dX4_init_32 ?_
  refine li_putN5 hC hK hS j hkd (fs := [.ref tr, .int (iI i), .int (iI v), .int (iI lt), .int (iI cl), .int (iI 0)]) (List.getElem?_set_self (List.getElem?_eq_some_iff.mp hj).1) fl_X4_28 (Nat.le_of_ble_eq_true rfl) hnm (ws' := ws.set j (q, .inr (kci kd, [.ref tr, .int (iI i), .int (iI v), .int (iI lt), .int (iI cl), .int (iI r)]))) (by rw [List.set_set]; rfl) dX4_init_34 (fun H locs hS => ?_)
  exact hQ _ _ _ _ _ _ _ dX4_init_37 hS (by omega) (by omega) (by rfl)
set_option maxHeartbeats 4000000 in
set_option maxRecDepth 100000 in
theorem c_X3_init (l : Launch) (g : GG) (ws : va_W) (j : Nat) (q : Nat) (tr : Nat) (kd : Int) (i : Int) (v : Int) (lt : Int) (cl : Int) (r : Int) (hkd : 0 ≤ kd ∧ kd ≤ 6) (hj : ws[j]? = some (q, .inr (kci kd, nm0))) (sz : Nat) : MwrV l g yX3_init cX3_init 7 3 0 0 [.ref q, .ref tr, .int (iI i), .int (iI v), .int (iI lt), .int (iI cl), .int (iI r)] sz (ws) (fun w => w = ws.set j (q, .inr (kci kd, nmV tr i v lt cl r))) := by
  refine wr_startV (own := RX3) (by decide) rfl (Nat.le_of_ble_eq_true rfl) ?_
  intro Pg Ev s Mi args below Mt Cd ls Q Aw hC hK hS hnm hl hQ
  have hl : lv_has ls 7 [(0, .ref q), (1, .ref tr), (2, .int (iI i)), (3, .int (iI v)), (4, .int (iI lt)), (5, .int (iI cl)), (6, .int (iI r))] := hl
  obtain ⟨H, hH⟩ : ∃ H, H = s.heap := ⟨_, rfl⟩
  obtain ⟨locs, hlo⟩ : ∃ locs : List Loc, locs = [] := ⟨_, rfl⟩
  have hS : St g Aw s.heap H locs (ws) := by rw [hH, hlo]; exact hS
  have goal : W Pg l Ev (rmC 3 0 0) s Mi args below Mt Cd H locs 0 0 Q (F0 Mi 0 ls []) := ?goal
  · rw [hH, hlo] at goal; exact goal
  clear hH hlo
  refine li_aload_n hC hl 0 rfl dX3_init_0 ?_
  refine li_aload_n hC hl 1 rfl dX3_init_1 ?_
  refine li_iload_n hC hl 2 rfl dX3_init_2 ?_
  refine li_iload_n hC hl 3 rfl dX3_init_3 ?_
  refine li_iload hC hl 4 rfl dX3_init_4 ?_
  refine li_iload hC hl 5 rfl dX3_init_6 ?_
  refine li_iload hC hl 6 rfl dX3_init_8 ?_
  refine wr_callIv (n := 6) hC (c_X4_init l g ws j q tr kd i v lt cl r hkd hj _) ⟨⟨mi_X4_init, ini_X4, mc_X4_init⟩, ⟨by decide +kernel, by decide +kernel, by decide +kernel⟩, by decide⟩ rfl ml_X3_3 (rr (by decide)) ⟨by simp only [rmC]; omega, by simp only [rmC]; omega⟩ hK hS rfl hl.1 rfl (Nat.le_of_ble_eq_true rfl) dX3_init_10 (fun w H locs hp hS => ?_)
  rw [hp] at hS
  exact hQ _ _ _ _ _ _ _ dX3_init_13 hS (by omega) (by omega) (by rfl)
set_option maxHeartbeats 4000000 in
set_option maxRecDepth 100000 in
theorem c_X1_init (l : Launch) (g : GG) (ws : va_W) (j : Nat) (q : Nat) (tr : Nat) (kd : Int) (i : Int) (v : Int) (lt : Int) (cl : Int) (r : Int) (hkd : 0 ≤ kd ∧ kd ≤ 6) (hj : ws[j]? = some (q, .inr (kci kd, nm0))) (sz : Nat) : MwrV l g yX1_init cX1_init 7 3 0 0 [.ref q, .ref tr, .int (iI i), .int (iI v), .int (iI lt), .int (iI cl), .int (iI r)] sz (ws) (fun w => w = ws.set j (q, .inr (kci kd, nmV tr i v lt cl r))) := by
  refine wr_startV (own := RX1) (by decide) rfl (Nat.le_of_ble_eq_true rfl) ?_
  intro Pg Ev s Mi args below Mt Cd ls Q Aw hC hK hS hnm hl hQ
  have hl : lv_has ls 7 [(0, .ref q), (1, .ref tr), (2, .int (iI i)), (3, .int (iI v)), (4, .int (iI lt)), (5, .int (iI cl)), (6, .int (iI r))] := hl
  obtain ⟨H, hH⟩ : ∃ H, H = s.heap := ⟨_, rfl⟩
  obtain ⟨locs, hlo⟩ : ∃ locs : List Loc, locs = [] := ⟨_, rfl⟩
  have hS : St g Aw s.heap H locs (ws) := by rw [hH, hlo]; exact hS
  have goal : W Pg l Ev (rmC 3 0 0) s Mi args below Mt Cd H locs 0 0 Q (F0 Mi 0 ls []) := ?goal
  · rw [hH, hlo] at goal; exact goal
  clear hH hlo
  refine li_aload_n hC hl 0 rfl dX1_init_0 ?_
  refine li_aload_n hC hl 1 rfl dX1_init_1 ?_
  refine li_iload_n hC hl 2 rfl dX1_init_2 ?_
  refine li_iload_n hC hl 3 rfl dX1_init_3 ?_
  refine li_iload hC hl 4 rfl dX1_init_4 ?_
  refine li_iload hC hl 5 rfl dX1_init_6 ?_
  refine li_iload hC hl 6 rfl dX1_init_8 ?_
  refine wr_callIv (n := 6) hC (c_X4_init l g ws j q tr kd i v lt cl r hkd hj _) ⟨⟨mi_X4_init, ini_X4, mc_X4_init⟩, ⟨by decide +kernel, by decide +kernel, by decide +kernel⟩, by decide⟩ rfl ml_X1_3 (rr (by decide)) ⟨by simp only [rmC]; omega, by simp only [rmC]; omega⟩ hK hS rfl hl.1 rfl (Nat.le_of_ble_eq_true rfl) dX1_init_10 (fun w H locs hp hS => ?_)
  rw [hp] at hS
  exact hQ _ _ _ _ _ _ _ dX1_init_13 hS (by omega) (by omega) (by rfl)
set_option maxHeartbeats 4000000 in
set_option maxRecDepth 100000 in
theorem c_X9_init (l : Launch) (g : GG) (ws : va_W) (j : Nat) (q : Nat) (tr : Nat) (kd : Int) (i : Int) (v : Int) (lt : Int) (cl : Int) (r : Int) (hkd : 0 ≤ kd ∧ kd ≤ 6) (hj : ws[j]? = some (q, .inr (kci kd, nm0))) (sz : Nat) : MwrV l g yX9_init cX9_init 7 3 0 0 [.ref q, .ref tr, .int (iI i), .int (iI v), .int (iI lt), .int (iI cl), .int (iI r)] sz (ws) (fun w => w = ws.set j (q, .inr (kci kd, nmV tr i v lt cl r))) := by
  refine wr_startV (own := RX9) (by decide) rfl (Nat.le_of_ble_eq_true rfl) ?_
  intro Pg Ev s Mi args below Mt Cd ls Q Aw hC hK hS hnm hl hQ
  have hl : lv_has ls 7 [(0, .ref q), (1, .ref tr), (2, .int (iI i)), (3, .int (iI v)), (4, .int (iI lt)), (5, .int (iI cl)), (6, .int (iI r))] := hl
  obtain ⟨H, hH⟩ : ∃ H, H = s.heap := ⟨_, rfl⟩
  obtain ⟨locs, hlo⟩ : ∃ locs : List Loc, locs = [] := ⟨_, rfl⟩
  have hS : St g Aw s.heap H locs (ws) := by rw [hH, hlo]; exact hS
  have goal : W Pg l Ev (rmC 3 0 0) s Mi args below Mt Cd H locs 0 0 Q (F0 Mi 0 ls []) := ?goal
  · rw [hH, hlo] at goal; exact goal
  clear hH hlo
  refine li_aload_n hC hl 0 rfl dX9_init_0 ?_
  refine li_aload_n hC hl 1 rfl dX9_init_1 ?_
  refine li_iload_n hC hl 2 rfl dX9_init_2 ?_
  refine li_iload_n hC hl 3 rfl dX9_init_3 ?_
  refine li_iload hC hl 4 rfl dX9_init_4 ?_
  refine li_iload hC hl 5 rfl dX9_init_6 ?_
  refine li_iload hC hl 6 rfl dX9_init_8 ?_
  refine wr_callIv (n := 6) hC (c_X4_init l g ws j q tr kd i v lt cl r hkd hj _) ⟨⟨mi_X4_init, ini_X4, mc_X4_init⟩, ⟨by decide +kernel, by decide +kernel, by decide +kernel⟩, by decide⟩ rfl ml_X9_3 (rr (by decide)) ⟨by simp only [rmC]; omega, by simp only [rmC]; omega⟩ hK hS rfl hl.1 rfl (Nat.le_of_ble_eq_true rfl) dX9_init_10 (fun w H locs hp hS => ?_)
  rw [hp] at hS
  exact hQ _ _ _ _ _ _ _ dX9_init_13 hS (by omega) (by omega) (by rfl)
set_option maxHeartbeats 4000000 in
set_option maxRecDepth 100000 in
theorem c_X0_init (l : Launch) (g : GG) (ws : va_W) (j : Nat) (q : Nat) (tr : Nat) (kd : Int) (i : Int) (v : Int) (lt : Int) (cl : Int) (r : Int) (hkd : 0 ≤ kd ∧ kd ≤ 6) (hj : ws[j]? = some (q, .inr (kci kd, nm0))) (sz : Nat) : MwrV l g yX0_init cX0_init 7 4 0 0 [.ref q, .ref tr, .int (iI i), .int (iI v), .int (iI lt), .int (iI cl), .int (iI r)] sz (ws) (fun w => w = ws.set j (q, .inr (kci kd, nmV tr i v lt cl r))) := by
  refine wr_startV (own := RX0) (by decide) rfl (Nat.le_of_ble_eq_true rfl) ?_
  intro Pg Ev s Mi args below Mt Cd ls Q Aw hC hK hS hnm hl hQ
  have hl : lv_has ls 7 [(0, .ref q), (1, .ref tr), (2, .int (iI i)), (3, .int (iI v)), (4, .int (iI lt)), (5, .int (iI cl)), (6, .int (iI r))] := hl
  obtain ⟨H, hH⟩ : ∃ H, H = s.heap := ⟨_, rfl⟩
  obtain ⟨locs, hlo⟩ : ∃ locs : List Loc, locs = [] := ⟨_, rfl⟩
  have hS : St g Aw s.heap H locs (ws) := by rw [hH, hlo]; exact hS
  have goal : W Pg l Ev (rmC 4 0 0) s Mi args below Mt Cd H locs 0 0 Q (F0 Mi 0 ls []) := ?goal
  · rw [hH, hlo] at goal; exact goal
  clear hH hlo
  refine li_aload_n hC hl 0 rfl dX0_init_0 ?_
  refine li_aload_n hC hl 1 rfl dX0_init_1 ?_
  refine li_iload_n hC hl 2 rfl dX0_init_2 ?_
  refine li_iload_n hC hl 3 rfl dX0_init_3 ?_
  refine li_iload hC hl 4 rfl dX0_init_4 ?_
  refine li_iload hC hl 5 rfl dX0_init_6 ?_
  refine li_iload hC hl 6 rfl dX0_init_8 ?_
  refine wr_callIv (n := 6) hC (c_X3_init l g ws j q tr kd i v lt cl r hkd hj _) ⟨⟨mi_X3_init, ini_X3, mc_X3_init⟩, ⟨by decide +kernel, by decide +kernel, by decide +kernel⟩, by decide⟩ rfl ml_X0_3 (rr (by decide)) ⟨by simp only [rmC]; omega, by simp only [rmC]; omega⟩ hK hS rfl hl.1 rfl (Nat.le_of_ble_eq_true rfl) dX0_init_10 (fun w H locs hp hS => ?_)
  rw [hp] at hS
  exact hQ _ _ _ _ _ _ _ dX0_init_13 hS (by omega) (by omega) (by rfl)
set_option maxHeartbeats 4000000 in
set_option maxRecDepth 100000 in
theorem c_X2_init (l : Launch) (g : GG) (ws : va_W) (j : Nat) (q : Nat) (tr : Nat) (kd : Int) (i : Int) (v : Int) (lt : Int) (cl : Int) (r : Int) (hkd : 0 ≤ kd ∧ kd ≤ 6) (hj : ws[j]? = some (q, .inr (kci kd, nm0))) (sz : Nat) : MwrV l g yX2_init cX2_init 7 4 0 0 [.ref q, .ref tr, .int (iI i), .int (iI v), .int (iI lt), .int (iI cl), .int (iI r)] sz (ws) (fun w => w = ws.set j (q, .inr (kci kd, nmV tr i v lt cl r))) := by
  refine wr_startV (own := RX2) (by decide) rfl (Nat.le_of_ble_eq_true rfl) ?_
  intro Pg Ev s Mi args below Mt Cd ls Q Aw hC hK hS hnm hl hQ
  have hl : lv_has ls 7 [(0, .ref q), (1, .ref tr), (2, .int (iI i)), (3, .int (iI v)), (4, .int (iI lt)), (5, .int (iI cl)), (6, .int (iI r))] := hl
  obtain ⟨H, hH⟩ : ∃ H, H = s.heap := ⟨_, rfl⟩
  obtain ⟨locs, hlo⟩ : ∃ locs : List Loc, locs = [] := ⟨_, rfl⟩
  have hS : St g Aw s.heap H locs (ws) := by rw [hH, hlo]; exact hS
  have goal : W Pg l Ev (rmC 4 0 0) s Mi args below Mt Cd H locs 0 0 Q (F0 Mi 0 ls []) := ?goal
  · rw [hH, hlo] at goal; exact goal
  clear hH hlo
  refine li_aload_n hC hl 0 rfl dX2_init_0 ?_
  refine li_aload_n hC hl 1 rfl dX2_init_1 ?_
  refine li_iload_n hC hl 2 rfl dX2_init_2 ?_
  refine li_iload_n hC hl 3 rfl dX2_init_3 ?_
  refine li_iload hC hl 4 rfl dX2_init_4 ?_
  refine li_iload hC hl 5 rfl dX2_init_6 ?_
  refine li_iload hC hl 6 rfl dX2_init_8 ?_
  refine wr_callIv (n := 6) hC (c_X1_init l g ws j q tr kd i v lt cl r hkd hj _) ⟨⟨mi_X1_init, ini_X1, mc_X1_init⟩, ⟨by decide +kernel, by decide +kernel, by decide +kernel⟩, by decide⟩ rfl ml_X2_3 (rr (by decide)) ⟨by simp only [rmC]; omega, by simp only [rmC]; omega⟩ hK hS rfl hl.1 rfl (Nat.le_of_ble_eq_true rfl) dX2_init_10 (fun w H locs hp hS => ?_)
  rw [hp] at hS
  exact hQ _ _ _ _ _ _ _ dX2_init_13 hS (by omega) (by omega) (by rfl)
set_option maxHeartbeats 4000000 in
set_option maxRecDepth 100000 in
theorem c_X10_init (l : Launch) (g : GG) (ws : va_W) (j : Nat) (q : Nat) (tr : Nat) (kd : Int) (i : Int) (v : Int) (lt : Int) (cl : Int) (r : Int) (hkd : 0 ≤ kd ∧ kd ≤ 6) (hj : ws[j]? = some (q, .inr (kci kd, nm0))) (sz : Nat) : MwrV l g yX10_init cX10_init 7 4 0 0 [.ref q, .ref tr, .int (iI i), .int (iI v), .int (iI lt), .int (iI cl), .int (iI r)] sz (ws) (fun w => w = ws.set j (q, .inr (kci kd, nmV tr i v lt cl r))) := by
  refine wr_startV (own := RX10) (by decide) rfl (Nat.le_of_ble_eq_true rfl) ?_
  intro Pg Ev s Mi args below Mt Cd ls Q Aw hC hK hS hnm hl hQ
  have hl : lv_has ls 7 [(0, .ref q), (1, .ref tr), (2, .int (iI i)), (3, .int (iI v)), (4, .int (iI lt)), (5, .int (iI cl)), (6, .int (iI r))] := hl
  obtain ⟨H, hH⟩ : ∃ H, H = s.heap := ⟨_, rfl⟩
  obtain ⟨locs, hlo⟩ : ∃ locs : List Loc, locs = [] := ⟨_, rfl⟩
  have hS : St g Aw s.heap H locs (ws) := by rw [hH, hlo]; exact hS
  have goal : W Pg l Ev (rmC 4 0 0) s Mi args below Mt Cd H locs 0 0 Q (F0 Mi 0 ls []) := ?goal
  · rw [hH, hlo] at goal; exact goal
  clear hH hlo
  refine li_aload_n hC hl 0 rfl dX10_init_0 ?_
  refine li_aload_n hC hl 1 rfl dX10_init_1 ?_
  refine li_iload_n hC hl 2 rfl dX10_init_2 ?_
  refine li_iload_n hC hl 3 rfl dX10_init_3 ?_
  refine li_iload hC hl 4 rfl dX10_init_4 ?_
  refine li_iload hC hl 5 rfl dX10_init_6 ?_
  refine li_iload hC hl 6 rfl dX10_init_8 ?_
  refine wr_callIv (n := 6) hC (c_X9_init l g ws j q tr kd i v lt cl r hkd hj _) ⟨⟨mi_X9_init, ini_X9, mc_X9_init⟩, ⟨by decide +kernel, by decide +kernel, by decide +kernel⟩, by decide⟩ rfl ml_X10_1 (rr (by decide)) ⟨by simp only [rmC]; omega, by simp only [rmC]; omega⟩ hK hS rfl hl.1 rfl (Nat.le_of_ble_eq_true rfl) dX10_init_10 (fun w H locs hp hS => ?_)
  rw [hp] at hS
  exact hQ _ _ _ _ _ _ _ dX10_init_13 hS (by omega) (by omega) (by rfl)
set_option maxHeartbeats 4000000 in
set_option maxRecDepth 100000 in
theorem c_X8_dots_r (l : Launch) (g : GG) (ad : Nat → Nat) (F : Nat → Int) (A : Nat → Nat → Int) (E : Nat → Nat) (tl : va_W) (S : Nat → Int) (nm : Nat → Nat) (D : Int) (hD : F 76 = D) : MroI l g yX8_dots cX8_dots 1 2 [.ref (ad 3)] (fun H => va_P g.1 vwCl (CW g ad F A E tl) H) (iI (D)) := by
  refine ro_startI (own := RX8) (by decide) rfl (Nat.le_of_ble_eq_true rfl) ?_
  intro Pg Ev s Mi args below Mt Cd ls Q hC hK hE hP hl hQ
  have hl : lv_has ls 1 [(0, .ref (ad 3))] := hl
  refine li_aload_n hC hl 0 rfl dX8_dots_0 ?_
  refine li_get hC hK ck_X8 (hP 3 _ rfl) 2 (by decide) fl_X8_26 rfl (v := .ref (ad 8)) rfl dX8_dots_1 ?_
  refine ro_callVi hC (c_Jx4a65c_size_8abf5 l g (ws := CW g ad F A E tl) (i := 8) (a := (ad 8)) (el := E 0) (m := F 75) (n := F 76) rfl) mk_Jx4a65c_size_8abf5 ml_X8_62 (rr (by decide)) ⟨Nat.zero_le _, Nat.zero_le _⟩ hK hE hP (li_recv hK ck_Jx4a65c (hP 8 _ rfl)) rfl hl.1 rfl (Nat.le_of_ble_eq_true rfl) dX8_dots_4 ?_
  exact hQ _ _ _ dX8_dots_7 (iI_inj (by exact hD))
set_option maxHeartbeats 4000000 in
set_option maxRecDepth 100000 in
theorem c_X11_named (l : Launch) (g : GG) (ad : Nat → Nat) (F : Nat → Int) (A : Nat → Nat → Int) (E : Nat → Nat) (tl : va_W) (S : Nat → Int) (nm : Nat → Nat) (hSh : ShW g ad F A E tl S nm) (hI : InvD S) (kind : Int) (v0 : Int) (lt : Int) (c : Int) (r : Int) (hk : 0 ≤ kind ∧ kind ≤ 6) (sz : Nat) : MwrQ l g yX11_named cX11_named 7 5 1 6 (.object "NamesNoTouch$Name") [.ref (ad 0), .int (iI kind), .int (iI v0), .int (iI lt), .int (iI c), .int (iI r)] sz (CW g ad F A E tl) (fun v w => ∃ q : Nat, v = some q ∧ w = CW g ad F A E (tl ++ [(q, nmc (ad 1) kind (S 0) v0 lt c r)])) := by
  refine wr_startQ (own := RX11) (by decide) rfl (Nat.le_of_ble_eq_true rfl) ?_
  intro Pg Ev s Mi args below Mt Cd ls Q Aw hC hK hS hnm hl hQ
  have hSh0 := hSh
  obtain ⟨hTp, hCd, hNs, hWh, hRw, hSn, hPl, hBk, hMp⟩ := hSh0
  have hNm := hNs.2.2
  have hD0 := hI.1
  have hNs0 := hNs.1
  have hl : lv_has ls 7 [(0, .ref (ad 0)), (1, .int (iI kind)), (2, .int (iI v0)), (3, .int (iI lt)), (4, .int (iI c)), (5, .int (iI r))] := hl
  obtain ⟨H, hH⟩ : ∃ H, H = s.heap := ⟨_, rfl⟩
  obtain ⟨locs, hlo⟩ : ∃ locs : List Loc, locs = [] := ⟨_, rfl⟩
  have hS : St g Aw s.heap H locs (CW g ad F A E tl) := by rw [hH, hlo]; exact hS
  have goal : W Pg l Ev (rmC 5 1 6) s Mi args below Mt Cd H locs 0 0 Q (F0 Mi 0 ls []) := ?goal
  · rw [hH, hlo] at goal; exact goal
  clear hH hlo
  refine li_aload_n hC hl 0 rfl dX11_named_0 ?_
  refine li_get hC hK.1 ck_X11 (hS.1 0 _ rfl) 1 (by decide) fl_X11_23 rfl (v := .ref (ad 3)) rfl dX11_named_1 ?_
  refine ro_callVi hC (c_X8_dots l g ad F A E tl S nm hSh hI) mk_X8_dots ml_X11_83 (rr (by decide)) ⟨by simp only [rmC]; omega, by simp only [rmC]; omega⟩ hK.1 (hS.ro hK) hS.1 (li_recv hK.1 ck_X8 (hS.1 3 _ rfl)) rfl hl.1 rfl (Nat.le_of_ble_eq_true rfl) dX11_named_4 ?_
  refine li_istore hC (lv' := [(6, .int (iI (S 0))), (0, .ref (ad 0)), (1, .int (iI kind)), (2, .int (iI v0)), (3, .int (iI lt)), (4, .int (iI c)), (5, .int (iI r))]) hl (by decide) rfl dX11_named_7 (fun ls hl => ?_)
  refine li_iload_n hC hl 2 rfl dX11_named_9 ?_
  by_cases c1 : kind = 1
  · refine li_tableIn (tgt := 48) hC (rg (by omega) (by omega)) (by omega) (by omega) (off := 38) (by rw [c1]; rfl) (by decide) dX11_named_10 ?_
    refine li_new hC hK hS ck_X3 cl_X11_271 it_X3 ini_X3 (fs := nm0) (fun j hj => by rcases (show j = 0 ∨ j = 1 ∨ j = 2 ∨ j = 3 ∨ j = 4 ∨ j = 5 by omega) with rfl | rfl | rfl | rfl | rfl | rfl <;> rfl) (by simp only [rmC]; omega) (by simp only [rmC]; omega) dX11_named_48 (fun q H hS => ?_)
    have hS : St g Aw s.heap H locs (CW g ad F A E (tl ++ [(q, nmn 1)])) := hS
    have hj : (CW g ad F A E (tl ++ [(q, nmn 1)]))[55 + tl.length]? = some (q, .inr (kci 1, nm0)) := by rw [CW_tl, List.getElem?_append_right (Nat.le_refl _), Nat.sub_self]; rfl
    refine li_dup hC rfl dX11_named_51 ?_
    refine li_aload_n hC hl 1 rfl dX11_named_52 ?_
    refine li_get hC hK.1 ck_X11 (hS.1 0 _ rfl) 0 (by decide) fl_X11_16 rfl (v := .ref (ad 1)) rfl dX11_named_53 ?_
    refine li_iload hC hl 0 rfl dX11_named_56 ?_
    refine li_iload_n hC hl 3 rfl dX11_named_58 ?_
    refine li_iload_n hC hl 4 rfl dX11_named_59 ?_
    refine li_iload hC hl 5 rfl dX11_named_60 ?_
    refine li_iload hC hl 6 rfl dX11_named_62 ?_
    refine wr_callIv (n := 6) hC (c_X3_init l g (CW g ad F A E (tl ++ [(q, nmn 1)])) (55 + tl.length) q (ad 1) 1 (S 0) v0 lt c r (by decide) hj _) ⟨⟨mi_X3_init, ini_X3, mc_X3_init⟩, ⟨by decide +kernel, by decide +kernel, by decide +kernel⟩, by decide⟩ rfl ml_X11_273 (rr (by decide)) ⟨by simp only [rmC]; omega, by simp only [rmC]; omega⟩ hK hS rfl hl.1 rfl (Nat.le_of_ble_eq_true rfl) dX11_named_64 (fun w H locs hp hS => ?_)
    rw [hp, CW_set, set_last] at hS
    exact hQ (some q) _ _ _ _ _ _ _ dX11_named_67 hS (by omega) (by omega) (⟨q, rfl, by rw [show kind = 1 by omega]⟩)
  by_cases c2 : kind = 2
  · refine li_tableIn (tgt := 68) hC (rg (by omega) (by omega)) (by omega) (by omega) (off := 58) (by rw [c2]; rfl) (by decide) dX11_named_10 ?_
    refine li_new hC hK hS ck_X1 cl_X11_276 it_X1 ini_X1 (fs := nm0) (fun j hj => by rcases (show j = 0 ∨ j = 1 ∨ j = 2 ∨ j = 3 ∨ j = 4 ∨ j = 5 by omega) with rfl | rfl | rfl | rfl | rfl | rfl <;> rfl) (by simp only [rmC]; omega) (by simp only [rmC]; omega) dX11_named_68 (fun q H hS => ?_)
    have hS : St g Aw s.heap H locs (CW g ad F A E (tl ++ [(q, nmn 2)])) := hS
    have hj : (CW g ad F A E (tl ++ [(q, nmn 2)]))[55 + tl.length]? = some (q, .inr (kci 2, nm0)) := by rw [CW_tl, List.getElem?_append_right (Nat.le_refl _), Nat.sub_self]; rfl
    refine li_dup hC rfl dX11_named_71 ?_
    refine li_aload_n hC hl 1 rfl dX11_named_72 ?_
    refine li_get hC hK.1 ck_X11 (hS.1 0 _ rfl) 0 (by decide) fl_X11_16 rfl (v := .ref (ad 1)) rfl dX11_named_73 ?_
    refine li_iload hC hl 0 rfl dX11_named_76 ?_
    refine li_iload_n hC hl 3 rfl dX11_named_78 ?_
    refine li_iload_n hC hl 4 rfl dX11_named_79 ?_
    refine li_iload hC hl 5 rfl dX11_named_80 ?_
    refine li_iload hC hl 6 rfl dX11_named_82 ?_
    refine wr_callIv (n := 6) hC (c_X1_init l g (CW g ad F A E (tl ++ [(q, nmn 2)])) (55 + tl.length) q (ad 1) 2 (S 0) v0 lt c r (by decide) hj _) ⟨⟨mi_X1_init, ini_X1, mc_X1_init⟩, ⟨by decide +kernel, by decide +kernel, by decide +kernel⟩, by decide⟩ rfl ml_X11_278 (rr (by decide)) ⟨by simp only [rmC]; omega, by simp only [rmC]; omega⟩ hK hS rfl hl.1 rfl (Nat.le_of_ble_eq_true rfl) dX11_named_84 (fun w H locs hp hS => ?_)
    rw [hp, CW_set, set_last] at hS
    exact hQ (some q) _ _ _ _ _ _ _ dX11_named_87 hS (by omega) (by omega) (⟨q, rfl, by rw [show kind = 2 by omega]⟩)
  by_cases c3 : kind = 3
  · refine li_tableIn (tgt := 88) hC (rg (by omega) (by omega)) (by omega) (by omega) (off := 78) (by rw [c3]; rfl) (by decide) dX11_named_10 ?_
    refine li_new hC hK hS ck_X9 cl_X11_279 it_X9 ini_X9 (fs := nm0) (fun j hj => by rcases (show j = 0 ∨ j = 1 ∨ j = 2 ∨ j = 3 ∨ j = 4 ∨ j = 5 by omega) with rfl | rfl | rfl | rfl | rfl | rfl <;> rfl) (by simp only [rmC]; omega) (by simp only [rmC]; omega) dX11_named_88 (fun q H hS => ?_)
    have hS : St g Aw s.heap H locs (CW g ad F A E (tl ++ [(q, nmn 3)])) := hS
    have hj : (CW g ad F A E (tl ++ [(q, nmn 3)]))[55 + tl.length]? = some (q, .inr (kci 3, nm0)) := by rw [CW_tl, List.getElem?_append_right (Nat.le_refl _), Nat.sub_self]; rfl
    refine li_dup hC rfl dX11_named_91 ?_
    refine li_aload_n hC hl 1 rfl dX11_named_92 ?_
    refine li_get hC hK.1 ck_X11 (hS.1 0 _ rfl) 0 (by decide) fl_X11_16 rfl (v := .ref (ad 1)) rfl dX11_named_93 ?_
    refine li_iload hC hl 0 rfl dX11_named_96 ?_
    refine li_iload_n hC hl 3 rfl dX11_named_98 ?_
    refine li_iload_n hC hl 4 rfl dX11_named_99 ?_
    refine li_iload hC hl 5 rfl dX11_named_100 ?_
    refine li_iload hC hl 6 rfl dX11_named_102 ?_
    refine wr_callIv (n := 6) hC (c_X9_init l g (CW g ad F A E (tl ++ [(q, nmn 3)])) (55 + tl.length) q (ad 1) 3 (S 0) v0 lt c r (by decide) hj _) ⟨⟨mi_X9_init, ini_X9, mc_X9_init⟩, ⟨by decide +kernel, by decide +kernel, by decide +kernel⟩, by decide⟩ rfl ml_X11_281 (rr (by decide)) ⟨by simp only [rmC]; omega, by simp only [rmC]; omega⟩ hK hS rfl hl.1 rfl (Nat.le_of_ble_eq_true rfl) dX11_named_104 (fun w H locs hp hS => ?_)
    rw [hp, CW_set, set_last] at hS
    exact hQ (some q) _ _ _ _ _ _ _ dX11_named_107 hS (by omega) (by omega) (⟨q, rfl, by rw [show kind = 3 by omega]⟩)
  by_cases c4 : kind = 4
  · refine li_tableIn (tgt := 108) hC (rg (by omega) (by omega)) (by omega) (by omega) (off := 98) (by rw [c4]; rfl) (by decide) dX11_named_10 ?_
    refine li_new hC hK hS ck_X0 cl_X11_282 it_X0 ini_X0 (fs := nm0) (fun j hj => by rcases (show j = 0 ∨ j = 1 ∨ j = 2 ∨ j = 3 ∨ j = 4 ∨ j = 5 by omega) with rfl | rfl | rfl | rfl | rfl | rfl <;> rfl) (by simp only [rmC]; omega) (by simp only [rmC]; omega) dX11_named_108 (fun q H hS => ?_)
    have hS : St g Aw s.heap H locs (CW g ad F A E (tl ++ [(q, nmn 4)])) := hS
    have hj : (CW g ad F A E (tl ++ [(q, nmn 4)]))[55 + tl.length]? = some (q, .inr (kci 4, nm0)) := by rw [CW_tl, List.getElem?_append_right (Nat.le_refl _), Nat.sub_self]; rfl
    refine li_dup hC rfl dX11_named_111 ?_
    refine li_aload_n hC hl 1 rfl dX11_named_112 ?_
    refine li_get hC hK.1 ck_X11 (hS.1 0 _ rfl) 0 (by decide) fl_X11_16 rfl (v := .ref (ad 1)) rfl dX11_named_113 ?_
    refine li_iload hC hl 0 rfl dX11_named_116 ?_
    refine li_iload_n hC hl 3 rfl dX11_named_118 ?_
    refine li_iload_n hC hl 4 rfl dX11_named_119 ?_
    refine li_iload hC hl 5 rfl dX11_named_120 ?_
    refine li_iload hC hl 6 rfl dX11_named_122 ?_
    refine wr_callIv (n := 6) hC (c_X0_init l g (CW g ad F A E (tl ++ [(q, nmn 4)])) (55 + tl.length) q (ad 1) 4 (S 0) v0 lt c r (by decide) hj _) ⟨⟨mi_X0_init, ini_X0, mc_X0_init⟩, ⟨by decide +kernel, by decide +kernel, by decide +kernel⟩, by decide⟩ rfl ml_X11_284 (rr (by decide)) ⟨by simp only [rmC]; omega, by simp only [rmC]; omega⟩ hK hS rfl hl.1 rfl (Nat.le_of_ble_eq_true rfl) dX11_named_124 (fun w H locs hp hS => ?_)
    rw [hp, CW_set, set_last] at hS
    exact hQ (some q) _ _ _ _ _ _ _ dX11_named_127 hS (by omega) (by omega) (⟨q, rfl, by rw [show kind = 4 by omega]⟩)
  by_cases c5 : kind = 5
  · refine li_tableIn (tgt := 128) hC (rg (by omega) (by omega)) (by omega) (by omega) (off := 118) (by rw [c5]; rfl) (by decide) dX11_named_10 ?_
    refine li_new hC hK hS ck_X2 cl_X11_285 it_X2 ini_X2 (fs := nm0) (fun j hj => by rcases (show j = 0 ∨ j = 1 ∨ j = 2 ∨ j = 3 ∨ j = 4 ∨ j = 5 by omega) with rfl | rfl | rfl | rfl | rfl | rfl <;> rfl) (by simp only [rmC]; omega) (by simp only [rmC]; omega) dX11_named_128 (fun q H hS => ?_)
    have hS : St g Aw s.heap H locs (CW g ad F A E (tl ++ [(q, nmn 5)])) := hS
    have hj : (CW g ad F A E (tl ++ [(q, nmn 5)]))[55 + tl.length]? = some (q, .inr (kci 5, nm0)) := by rw [CW_tl, List.getElem?_append_right (Nat.le_refl _), Nat.sub_self]; rfl
    refine li_dup hC rfl dX11_named_131 ?_
    refine li_aload_n hC hl 1 rfl dX11_named_132 ?_
    refine li_get hC hK.1 ck_X11 (hS.1 0 _ rfl) 0 (by decide) fl_X11_16 rfl (v := .ref (ad 1)) rfl dX11_named_133 ?_
    refine li_iload hC hl 0 rfl dX11_named_136 ?_
    refine li_iload_n hC hl 3 rfl dX11_named_138 ?_
    refine li_iload_n hC hl 4 rfl dX11_named_139 ?_
    refine li_iload hC hl 5 rfl dX11_named_140 ?_
    refine li_iload hC hl 6 rfl dX11_named_142 ?_
    refine wr_callIv (n := 6) hC (c_X2_init l g (CW g ad F A E (tl ++ [(q, nmn 5)])) (55 + tl.length) q (ad 1) 5 (S 0) v0 lt c r (by decide) hj _) ⟨⟨mi_X2_init, ini_X2, mc_X2_init⟩, ⟨by decide +kernel, by decide +kernel, by decide +kernel⟩, by decide⟩ rfl ml_X11_287 (rr (by decide)) ⟨by simp only [rmC]; omega, by simp only [rmC]; omega⟩ hK hS rfl hl.1 rfl (Nat.le_of_ble_eq_true rfl) dX11_named_144 (fun w H locs hp hS => ?_)
    rw [hp, CW_set, set_last] at hS
    exact hQ (some q) _ _ _ _ _ _ _ dX11_named_147 hS (by omega) (by omega) (⟨q, rfl, by rw [show kind = 5 by omega]⟩)
  by_cases c6 : kind = 6
  · refine li_tableIn (tgt := 148) hC (rg (by omega) (by omega)) (by omega) (by omega) (off := 138) (by rw [c6]; rfl) (by decide) dX11_named_10 ?_
    refine li_new hC hK hS ck_X10 cl_X11_158 it_X10 ini_X10 (fs := nm0) (fun j hj => by rcases (show j = 0 ∨ j = 1 ∨ j = 2 ∨ j = 3 ∨ j = 4 ∨ j = 5 by omega) with rfl | rfl | rfl | rfl | rfl | rfl <;> rfl) (by simp only [rmC]; omega) (by simp only [rmC]; omega) dX11_named_148 (fun q H hS => ?_)
    have hS : St g Aw s.heap H locs (CW g ad F A E (tl ++ [(q, nmn 6)])) := hS
    have hj : (CW g ad F A E (tl ++ [(q, nmn 6)]))[55 + tl.length]? = some (q, .inr (kci 6, nm0)) := by rw [CW_tl, List.getElem?_append_right (Nat.le_refl _), Nat.sub_self]; rfl
    refine li_dup hC rfl dX11_named_151 ?_
    refine li_aload_n hC hl 1 rfl dX11_named_152 ?_
    refine li_get hC hK.1 ck_X11 (hS.1 0 _ rfl) 0 (by decide) fl_X11_16 rfl (v := .ref (ad 1)) rfl dX11_named_153 ?_
    refine li_iload hC hl 0 rfl dX11_named_156 ?_
    refine li_iload_n hC hl 3 rfl dX11_named_158 ?_
    refine li_iload_n hC hl 4 rfl dX11_named_159 ?_
    refine li_iload hC hl 5 rfl dX11_named_160 ?_
    refine li_iload hC hl 6 rfl dX11_named_162 ?_
    refine wr_callIv (n := 6) hC (c_X10_init l g (CW g ad F A E (tl ++ [(q, nmn 6)])) (55 + tl.length) q (ad 1) 6 (S 0) v0 lt c r (by decide) hj _) ⟨⟨mi_X10_init, ini_X10, mc_X10_init⟩, ⟨by decide +kernel, by decide +kernel, by decide +kernel⟩, by decide⟩ rfl ml_X11_288 (rr (by decide)) ⟨by simp only [rmC]; omega, by simp only [rmC]; omega⟩ hK hS rfl hl.1 rfl (Nat.le_of_ble_eq_true rfl) dX11_named_164 (fun w H locs hp hS => ?_)
    rw [hp, CW_set, set_last] at hS
    exact hQ (some q) _ _ _ _ _ _ _ dX11_named_167 hS (by omega) (by omega) (⟨q, rfl, by rw [show kind = 6 by omega]⟩)
  refine li_tableOut (tgt := 168) hC (rg (by omega) (by omega)) (by omega) (by decide) dX11_named_10 ?_
  refine li_new hC hK hS ck_X4 cl_X11_111 it_X4 ini_X4 (fs := nm0) (fun j hj => by rcases (show j = 0 ∨ j = 1 ∨ j = 2 ∨ j = 3 ∨ j = 4 ∨ j = 5 by omega) with rfl | rfl | rfl | rfl | rfl | rfl <;> rfl) (by simp only [rmC]; omega) (by simp only [rmC]; omega) dX11_named_168 (fun q H hS => ?_)
  have hS : St g Aw s.heap H locs (CW g ad F A E (tl ++ [(q, nmn 0)])) := hS
  have hj : (CW g ad F A E (tl ++ [(q, nmn 0)]))[55 + tl.length]? = some (q, .inr (kci 0, nm0)) := by rw [CW_tl, List.getElem?_append_right (Nat.le_refl _), Nat.sub_self]; rfl
  refine li_dup hC rfl dX11_named_171 ?_
  refine li_aload_n hC hl 1 rfl dX11_named_172 ?_
  refine li_get hC hK.1 ck_X11 (hS.1 0 _ rfl) 0 (by decide) fl_X11_16 rfl (v := .ref (ad 1)) rfl dX11_named_173 ?_
  refine li_iload hC hl 0 rfl dX11_named_176 ?_
  refine li_iload_n hC hl 3 rfl dX11_named_178 ?_
  refine li_iload_n hC hl 4 rfl dX11_named_179 ?_
  refine li_iload hC hl 5 rfl dX11_named_180 ?_
  refine li_iload hC hl 6 rfl dX11_named_182 ?_
  refine wr_callIv (n := 6) hC (c_X4_init l g (CW g ad F A E (tl ++ [(q, nmn 0)])) (55 + tl.length) q (ad 1) 0 (S 0) v0 lt c r (by decide) hj _) ⟨⟨mi_X4_init, ini_X4, mc_X4_init⟩, ⟨by decide +kernel, by decide +kernel, by decide +kernel⟩, by decide⟩ rfl ml_X11_289 (rr (by decide)) ⟨by simp only [rmC]; omega, by simp only [rmC]; omega⟩ hK hS rfl hl.1 rfl (Nat.le_of_ble_eq_true rfl) dX11_named_184 (fun w H locs hp hS => ?_)
  rw [hp, CW_set, set_last] at hS
  exact hQ (some q) _ _ _ _ _ _ _ dX11_named_187 hS (by omega) (by omega) (⟨q, rfl, by rw [show kind = 0 by omega]⟩)
set_option maxHeartbeats 4000000 in
set_option maxRecDepth 100000 in
theorem c_X11_dot (l : Launch) (g : GG) (ad : Nat → Nat) (F : Nat → Int) (A : Nat → Nat → Int) (E : Nat → Nat) (tl : va_W) (S : Nat → Int) (nm : Nat → Nat) (hSh : ShW g ad F A E tl S nm) (hI : InvD S) (kind : Int) (v0 : Int) (lt : Int) (c : Int) (r : Int) (hkind : rng kind) (hv0 : rng v0) (hlt : rng lt) (hc : rng c) (hr : rng r) (hH : InvH S) (h5 : 0 ≤ S 5 ∧ S 5 ≤ 100) (h2 : 0 ≤ S 2 ∧ S 2 ≤ 5) (h3 : 0 ≤ S 3 ∧ S 3 ≤ 8) (h4 : 0 ≤ S 4 ∧ S 4 ≤ 8) (nd : Nat → Nat) (hld : LsP g tl (E 1) (F 78) nd) (hcd : 0 ≤ F 78 ∧ F 78 ≤ 7) (hde : E 1 = E 0 → E 1 = g.2.1 3) (sz : Nat) : MwrI l g yX11_dot cX11_dot 6 9 2 16 [.ref (ad 0), .int (iI kind), .int (iI v0), .int (iI lt), .int (iI c), .int (iI r)] sz (CW g ad F A E tl) (fun v w => v = iI (dotR S kind v0 lt c r) ∧ ∃ (F2 : Nat → Int) (A2 : Nat → Nat → Int) (r2 : Nat) (t : va_W) (nm2 : Nat → Nat), w = CW g ad F2 A2 (va_up E 0 r2) t ∧ KpS F F2 A A2 ∧ TlK tl t ∧ ShW g ad F2 A2 (va_up E 0 r2) t (dotS S kind v0 lt c r) nm2 ∧ (r2 = E 1 → r2 = g.2.1 3) ∧ (∀ (D : Int) (nt : Nat → Nat), LsP g tl (E 1) D nt → LsP g t (E 1) D nt)) := by
  refine wr_startI (own := RX11) (by decide) rfl (Nat.le_of_ble_eq_true rfl) ?_
  intro Pg Ev s Mi args below Mt Cd ls Q Aw hC hK hS hnm hl hQ
  have hSh0 := hSh
  obtain ⟨hTp, hCd, hNs, hWh, hRw, hSn, hPl, hBk, hMp⟩ := hSh0
  have hNm := hNs.2.2
  have hD0 := hI.1
  have hNs0 := hNs.1
  have e4 := hTp.1
  have e13 := hSn.1
  have e15 := hPl.1
  have e17 := hBk.1
  have hl : lv_has ls 6 [(0, .ref (ad 0)), (1, .int (iI kind)), (2, .int (iI v0)), (3, .int (iI lt)), (4, .int (iI c)), (5, .int (iI r))] := hl
  obtain ⟨H, hH⟩ : ∃ H, H = s.heap := ⟨_, rfl⟩
  obtain ⟨locs, hlo⟩ : ∃ locs : List Loc, locs = [] := ⟨_, rfl⟩
  have hS : St g Aw s.heap H locs (CW g ad F A E tl) := by rw [hH, hlo]; exact hS
  have goal : W Pg l Ev (rmC 9 2 16) s Mi args below Mt Cd H locs 0 0 Q (F0 Mi 0 ls []) := ?goal
  · rw [hH, hlo] at goal; exact goal
  clear hH hlo
  refine li_iload_n hC hl 1 rfl dX11_dot_0 ?_
  refine li_if_lt (tgt := 10) hC (by decide) hkind dX11_dot_1 (fun c1 => ?_) (fun c1 => ?_)
  · refine li_iconst hC dX11_dot_10 ?_
    exact hQ _ _ _ _ _ _ _ _ dX11_dot_11 hS (by omega) (by omega) (⟨iI_inj (by unfold dotR; rw [iteP_f (by omega)]), F, A, E 0, tl, nm, rfl, KpS.rf _ _, TlK.rf _, (by unfold dotS; rw [iteP_f (fun h9 => by have a1 := h9.1; omega)]; exact hSh), (fun e9 => e9.trans (hde e9.symm)), (fun _ _ h9 => h9)⟩)
  · refine li_iload_n hC hl 1 rfl dX11_dot_4 ?_
    refine li_bipush hC (z := 7) rfl dX11_dot_5 ?_
    refine li_icmp_lt (tgt := 12) hC (by decide) hkind (rg (by decide) (by decide)) dX11_dot_7 (fun c2 => ?_) (fun c2 => ?_)
    · refine li_iload_n hC hl 2 rfl dX11_dot_12 ?_
      refine li_if_lt (tgt := 57) hC (by decide) hv0 dX11_dot_13 (fun c3 => ?_) (fun c3 => ?_)
      · refine li_bipush hC (z := -2) rfl dX11_dot_57 ?_
        exact hQ _ _ _ _ _ _ _ _ dX11_dot_59 hS (by omega) (by omega) (⟨iI_inj (by unfold dotR; rw [iteP_t (by omega), iteP_f (by unfold dotOK; intro h9; first | omega | exact absurd (by assumption) h9.2)]), F, A, E 0, tl, nm, rfl, KpS.rf _ _, TlK.rf _, (by unfold dotS; rw [iteP_f (fun h9 => by have h8 := h9.2.1; unfold dotOK at h8; first | omega | exact absurd (by assumption) h8.2)]; exact hSh), (fun e9 => e9.trans (hde e9.symm)), (fun _ _ h9 => h9)⟩)
      · refine li_iload_n hC hl 2 rfl dX11_dot_16 ?_
        refine li_bipush hC (z := 9) rfl dX11_dot_17 ?_
        refine li_icmp_gt (tgt := 57) hC (by decide) hv0 (rg (by decide) (by decide)) dX11_dot_19 (fun c4 => ?_) (fun c4 => ?_)
        · refine li_bipush hC (z := -2) rfl dX11_dot_57 ?_
          exact hQ _ _ _ _ _ _ _ _ dX11_dot_59 hS (by omega) (by omega) (⟨iI_inj (by unfold dotR; rw [iteP_t (by omega), iteP_f (by unfold dotOK; intro h9; first | omega | exact absurd (by assumption) h9.2)]), F, A, E 0, tl, nm, rfl, KpS.rf _ _, TlK.rf _, (by unfold dotS; rw [iteP_f (fun h9 => by have h8 := h9.2.1; unfold dotOK at h8; first | omega | exact absurd (by assumption) h8.2)]; exact hSh), (fun e9 => e9.trans (hde e9.symm)), (fun _ _ h9 => h9)⟩)
        · refine li_iload_n hC hl 3 rfl dX11_dot_22 ?_
          refine li_iconst hC dX11_dot_23 ?_
          refine li_icmp_lt (tgt := 57) hC (by decide) hlt (rg (by decide) (by decide)) dX11_dot_24 (fun c5 => ?_) (fun c5 => ?_)
          · refine li_bipush hC (z := -2) rfl dX11_dot_57 ?_
            exact hQ _ _ _ _ _ _ _ _ dX11_dot_59 hS (by omega) (by omega) (⟨iI_inj (by unfold dotR; rw [iteP_t (by omega), iteP_f (by unfold dotOK; intro h9; first | omega | exact absurd (by assumption) h9.2)]), F, A, E 0, tl, nm, rfl, KpS.rf _ _, TlK.rf _, (by unfold dotS; rw [iteP_f (fun h9 => by have h8 := h9.2.1; unfold dotOK at h8; first | omega | exact absurd (by assumption) h8.2)]; exact hSh), (fun e9 => e9.trans (hde e9.symm)), (fun _ _ h9 => h9)⟩)
          · refine li_iload_n hC hl 3 rfl dX11_dot_27 ?_
            refine li_bipush hC (z := 9) rfl dX11_dot_28 ?_
            refine li_icmp_gt (tgt := 57) hC (by decide) hlt (rg (by decide) (by decide)) dX11_dot_30 (fun c6 => ?_) (fun c6 => ?_)
            · refine li_bipush hC (z := -2) rfl dX11_dot_57 ?_
              exact hQ _ _ _ _ _ _ _ _ dX11_dot_59 hS (by omega) (by omega) (⟨iI_inj (by unfold dotR; rw [iteP_t (by omega), iteP_f (by unfold dotOK; intro h9; first | omega | exact absurd (by assumption) h9.2)]), F, A, E 0, tl, nm, rfl, KpS.rf _ _, TlK.rf _, (by unfold dotS; rw [iteP_f (fun h9 => by have h8 := h9.2.1; unfold dotOK at h8; first | omega | exact absurd (by assumption) h8.2)]; exact hSh), (fun e9 => e9.trans (hde e9.symm)), (fun _ _ h9 => h9)⟩)
            · refine li_iload hC hl 4 rfl dX11_dot_33 ?_
              refine li_iload hC hl 5 rfl dX11_dot_35 ?_
              refine ro_callSi hC (c_X11_isSpot l g c r hc hr) mk_X11_isSpot ml_X11_76 (rr (by decide)) ⟨by simp only [rmC]; omega, by simp only [rmC]; omega⟩ hK.1 (hS.ro hK) trivial rfl hl.1 rfl (Nat.le_of_ble_eq_true rfl) dX11_dot_37 ?_
              refine li_ifeq_b (tgt := 57) hC (by decide) dX11_dot_40 (fun c7 => ?_) (fun c7 => ?_)
              · refine li_bipush hC (z := -2) rfl dX11_dot_57 ?_
                exact hQ _ _ _ _ _ _ _ _ dX11_dot_59 hS (by omega) (by omega) (⟨iI_inj (by unfold dotR; rw [iteP_t (by omega), iteP_f (by unfold dotOK; intro h9; first | omega | exact absurd (by assumption) h9.2)]), F, A, E 0, tl, nm, rfl, KpS.rf _ _, TlK.rf _, (by unfold dotS; rw [iteP_f (fun h9 => by have h8 := h9.2.1; unfold dotOK at h8; first | omega | exact absurd (by assumption) h8.2)]; exact hSh), (fun e9 => e9.trans (hde e9.symm)), (fun _ _ h9 => h9)⟩)
              · refine li_aload_n hC hl 0 rfl dX11_dot_43 ?_
                refine li_get hC hK.1 ck_X11 (hS.1 0 _ rfl) 1 (by decide) fl_X11_23 rfl (v := .ref (ad 3)) rfl dX11_dot_44 ?_
                refine li_iload hC hl 4 rfl dX11_dot_47 ?_
                refine li_iload hC hl 5 rfl dX11_dot_49 ?_
                refine ro_callVi hC (c_X8_hasDot l g ad F A E tl S nm hSh hI c r hc hr) mk_X8_hasDot ml_X11_80 (rr (by decide)) ⟨by simp only [rmC]; omega, by simp only [rmC]; omega⟩ hK.1 (hS.ro hK) hS.1 (li_recv hK.1 ck_X8 (hS.1 3 _ rfl)) rfl hl.1 rfl (Nat.le_of_ble_eq_true rfl) dX11_dot_51 ?_
                refine li_ifeq_b (tgt := 60) hC (by decide) dX11_dot_54 (fun c8 => ?_) (fun c8 => ?_)
                · refine li_aload_n hC hl 0 rfl dX11_dot_60 ?_
                  refine li_get hC hK.1 ck_X11 (hS.1 0 _ rfl) 1 (by decide) fl_X11_23 rfl (v := .ref (ad 3)) rfl dX11_dot_61 ?_
                  refine ro_callVi hC (c_X8_dots_r l g ad F A E tl S nm (F 76) rfl) mk_X8_dots ml_X11_83 (rr (by decide)) ⟨by simp only [rmC]; omega, by simp only [rmC]; omega⟩ hK.1 (hS.ro hK) hS.1 (li_recv hK.1 ck_X8 (hS.1 3 _ rfl)) rfl hl.1 rfl (Nat.le_of_ble_eq_true rfl) dX11_dot_64 ?_
                  refine li_bipush hC (z := 7) rfl dX11_dot_67 ?_
                  refine li_icmp_lt (tgt := 75) hC (by decide) (rg (by omega) (by omega)) (rg (by decide) (by decide)) dX11_dot_69 (fun c9 => ?_) (fun c9 => ?_)
                  · refine li_aload_n hC hl 0 rfl dX11_dot_75 ?_
                    refine li_get hC hK.1 ck_X11 (hS.1 0 _ rfl) 1 (by decide) fl_X11_23 rfl (v := .ref (ad 3)) rfl dX11_dot_76 ?_
                    refine li_get hC hK.1 ck_X8 (hS.1 3 _ rfl) 2 (by decide) fl_X11_86 rfl (v := .ref (ad 8)) rfl dX11_dot_79 ?_
                    refine li_aload_n hC hl 0 rfl dX11_dot_82 ?_
                    refine li_iload_n hC hl 1 rfl dX11_dot_83 ?_
                    refine li_iload_n hC hl 2 rfl dX11_dot_84 ?_
                    refine li_iload_n hC hl 3 rfl dX11_dot_85 ?_
                    refine li_iload hC hl 4 rfl dX11_dot_86 ?_
                    refine li_iload hC hl 5 rfl dX11_dot_88 ?_
                    refine wr_callVq hC (c_X11_named l g ad F A E tl S nm hSh hI kind v0 lt c r (by omega) _) mk_X11_named ml_X11_90 (rr (by decide)) ⟨by simp only [rmC]; omega, by simp only [rmC]; omega⟩ hK hS (li_recv hK.1 ck_X11 (hS.1 0 _ rfl)) rfl hl.1 rfl (Nat.le_of_ble_eq_true rfl) dX11_dot_90 (fun v w H locs hp hS => ?_)
                    obtain ⟨q, hv, hw⟩ := hp
                    rw [hw] at hS
                    rw [hv, show va_rf (some q) = .ref q from rfl]
                    have hkq : (tl ++ [(q, nmc (ad 1) kind (S 0) v0 lt c r)])[tl.length]? = some (q, .inr (kci kind, nmV (ad 1) (S 0) v0 lt c r)) := by rw [List.getElem?_append_right (Nat.le_refl _), Nat.sub_self]; rfl
                    rcases (show LsP g (tl ++ [(q, nmc (ad 1) kind (S 0) v0 lt c r)]) (E 0) (F 76) nm by rw [hNs0]; exact lsp_app hNs.2.1) with ⟨hz13, hL12⟩ | ⟨hn14, kL10, fL11, hL12a, hb15⟩
                    · refine wr_callVz hC (c_add0 l g (ws := CW g ad F A E (tl ++ [(q, nmc (ad 1) kind (S 0) v0 lt c r)])) (i := 8) (a := (ad 8)) (x := q) (qk := 55 + tl.length) (m := F 75) (n := F 76) (kd := kind) (fs := nmV (ad 1) (S 0) v0 lt c r) (by rw [← hL12]; rfl) hz13 (by rw [CW_tl]; exact hkq) (by omega) (by omega) _) mk_Jx4a65c_add_9ea2d ml_X11_94 (rr (by decide)) ⟨by simp only [rmC]; omega, by simp only [rmC]; omega⟩ hK hS (li_recv hK.1 ck_Jx4a65c (hS.1 8 _ rfl)) rfl hl.1 rfl (Nat.le_of_ble_eq_true rfl) dX11_dot_93 (fun v w H locs hp hS => ?_)
                      obtain ⟨hv, r16, hp⟩ := hp
                      rw [hp] at hS
                      have hS0 : St g Aw s.heap H locs ((CW g ad (va_up (va_up F 75 ((F 75) + 1)) 76 1) A (va_up E 0 r16) (tl ++ [(q, nmc (ad 1) kind (S 0) v0 lt c r)])) ++ [(r16, obA g 10 (va_up (fun _ => none) 0 (some q)))]) := hS
                      have hS : St g Aw s.heap H locs (CW g ad (va_up (va_up F 75 ((F 75) + 1)) 76 ((F 76) + 1)) A (va_up E 0 r16) ((tl ++ [(q, nmc (ad 1) kind (S 0) v0 lt c r)]) ++ [(r16, obA g 10 (va_up (fun _ => none) 0 (some q)))])) := by rw [show (F 76) + 1 = 1 by omega]; exact hS0
                      rw [hv]
                      refine li_pop hC rfl dX11_dot_96 ?_
                      refine li_aload_n hC hl 0 rfl dX11_dot_97 ?_
                      refine li_get hC hK.1 ck_X11 (hS.1 0 _ rfl) 1 (by decide) fl_X11_23 rfl (v := .ref (ad 3)) rfl dX11_dot_98 ?_
                      refine li_get hC hK.1 ck_X8 (hS.1 3 _ rfl) 3 (by decide) fl_X11_99 rfl (v := .ref (ad 9)) rfl dX11_dot_101 ?_
                      refine li_aload_n hC hl 0 rfl dX11_dot_104 ?_
                      refine li_get hC hK.1 ck_X11 (hS.1 0 _ rfl) 1 (by decide) fl_X11_23 rfl (v := .ref (ad 3)) rfl dX11_dot_105 ?_
                      refine ro_callVi hC (c_X8_dots_r l g ad (va_up (va_up F 75 ((F 75) + 1)) 76 ((F 76) + 1)) A (va_up E 0 r16) ((tl ++ [(q, nmc (ad 1) kind (S 0) v0 lt c r)]) ++ [(r16, obA g 10 (va_up (fun _ => none) 0 (some q)))]) S nm ((F 76) + 1) rfl) mk_X8_dots ml_X11_83 (rr (by decide)) ⟨by simp only [rmC]; omega, by simp only [rmC]; omega⟩ hK.1 (hS.ro hK) hS.1 (li_recv hK.1 ck_X8 (hS.1 3 _ rfl)) rfl hl.1 rfl (Nat.le_of_ble_eq_true rfl) dX11_dot_108 ?_
                      refine li_iconst hC dX11_dot_111 ?_
                      refine li_isub hC dX11_dot_112 ?_
                      refine li_iconst hC dX11_dot_113 ?_
                      refine wr_callVv hC (c_X6_set l g (ws := CW g ad (va_up (va_up F 75 ((F 75) + 1)) 76 ((F 76) + 1)) A (va_up E 0 r16) ((tl ++ [(q, nmc (ad 1) kind (S 0) v0 lt c r)]) ++ [(r16, obA g 10 (va_up (fun _ => none) 0 (some q)))])) (i := 9) (j := 10) (a := (ad 9)) (b := (ad 10)) (n := 7) (f := (A 10)) (sz := F 9) rfl rfl (Nat.le_of_ble_eq_true rfl) (k := ((F 76) + 1) - 1) (v := 4) ⟨by omega, by omega⟩ (ws2 := CW g ad (va_up (va_up F 75 ((F 75) + 1)) 76 ((F 76) + 1)) (va_up A 10 (va_up (A 10) ((((F 76) + 1) - 1).toNat) 4)) (va_up E 0 r16) ((tl ++ [(q, nmc (ad 1) kind (S 0) v0 lt c r)]) ++ [(r16, obA g 10 (va_up (fun _ => none) 0 (some q)))])) rfl _) mk_X6_set ml_X11_102 (rr (by decide)) ⟨by simp only [rmC]; omega, by simp only [rmC]; omega⟩ hK hS (li_recv hK.1 ck_X6 (hS.1 9 _ rfl)) rfl hl.1 rfl (Nat.le_of_ble_eq_true rfl) dX11_dot_114 (fun w H locs hp hS => ?_)
                      subst hp
                      refine li_aload_n hC hl 0 rfl dX11_dot_117 ?_
                      refine li_get hC hK.1 ck_X11 (hS.1 0 _ rfl) 1 (by decide) fl_X11_23 rfl (v := .ref (ad 3)) rfl dX11_dot_118 ?_
                      refine ro_callVi hC (c_X8_dots_r l g ad (va_up (va_up F 75 ((F 75) + 1)) 76 ((F 76) + 1)) (va_up A 10 (va_up (A 10) ((((F 76) + 1) - 1).toNat) 4)) (va_up E 0 r16) ((tl ++ [(q, nmc (ad 1) kind (S 0) v0 lt c r)]) ++ [(r16, obA g 10 (va_up (fun _ => none) 0 (some q)))]) S nm ((F 76) + 1) rfl) mk_X8_dots ml_X11_83 (rr (by decide)) ⟨by simp only [rmC]; omega, by simp only [rmC]; omega⟩ hK.1 (hS.ro hK) hS.1 (li_recv hK.1 ck_X8 (hS.1 3 _ rfl)) rfl hl.1 rfl (Nat.le_of_ble_eq_true rfl) dX11_dot_121 ?_
                      refine li_iconst hC dX11_dot_124 ?_
                      refine li_isub hC dX11_dot_125 ?_
                      exact hQ _ _ _ _ _ _ _ _ dX11_dot_126 hS (by omega) (by omega) (⟨iI_inj (by unfold dotR; rw [iteP_t (by omega), iteP_t (by unfold dotOK; exact ⟨by omega, by assumption⟩), iteP_f (by omega)]; omega), (va_up (va_up F 75 ((F 75) + 1)) 76 ((F 76) + 1)), (va_up A 10 (va_up (A 10) ((((F 76) + 1) - 1).toNat) 4)), r16, ((tl ++ [(q, nmc (ad 1) kind (S 0) v0 lt c r)]) ++ [(r16, obA g 10 (va_up (fun _ => none) 0 (some q)))]), va_up nm (S 0).toNat q, rfl, ⟨fun k hk => (by first | rfl | (repeat rw [up_ne _ _ (by omega)])), fun k hk => (by first | rfl | (repeat rw [up_ne _ _ (by omega)]))⟩, ((tlk_app _ _).tr (tlk_app _ _)), (by unfold dotS; rw [iteP_t ⟨by omega, (by unfold dotOK; exact ⟨by omega, by assumption⟩), by omega⟩]; unfold ShW ShP; exact ⟨sh1 (T := dotUp S kind v0 lt c r) (S := S) (fun j hj => dotU_out ⟨hD0.1, by omega⟩ (by omega)) h5.2 hTp, sh2 (T := dotUp S kind v0 lt c r) (S := S) (fun j hj => dotU_out ⟨hD0.1, by omega⟩ (by omega)) hH hCd, (by refine ⟨?_, (by rw [dotU_0]; refine Or.inr ⟨fresh_df hK hS0, (tl ++ [(q, nmc (ad 1) kind (S 0) v0 lt c r)]).length, va_up (fun _ => none) 0 (some q), by rw [List.getElem?_append_right (Nat.le_refl _), Nat.sub_self]; rfl, fun j hj => ?_⟩; rw [show j = 0 by omega, show (S 0).toNat = 0 by omega, up_same, up_same]), nmp_dot hNm ((tlk_app _ _).tr (tlk_app _ _)) ⟨hD0.1, by omega⟩ (by first | (rw [List.getElem?_append_left (by rw [List.length_append]; exact Nat.lt_succ_self _), List.getElem?_append_right (Nat.le_refl _), Nat.sub_self]; rfl) | exact tlk_set hL12 tl.length q _ hkq)⟩; show F 76 + 1 = _; rw [dotU_0]; omega), (by intro k h0 h1; rw [dotU_0] at h1; show va_up (A 10) ((F 76 + 1) - 1).toNat 4 k.toNat = _; rcases (show k < S 0 ∨ k = S 0 by omega) with q9 | q9; { rw [up_ne _ _ (by omega), dotU_out ⟨hD0.1, by omega⟩ (by omega)]; exact hWh k h0 q9 }; { rw [q9, show ((F 76 + 1) - 1).toNat = (S 0).toNat by omega, up_same]; exact (dotU_1 ⟨hD0.1, by omega⟩).2.2.2.2.2.symm }), (by intro i p h0 h1 h2 h3; rw [dotU_0]; have q8 := hRw i p h0 h1 h2 h3; rcases (show i < S 0 ∨ i = S 0 ∨ S 0 < i by omega) with q9 | q9 | q9; { rw [if_pos (by omega), dotU_out ⟨hD0.1, by omega⟩ (by omega)]; rw [if_pos (by omega)] at q8; exact q8 }; { rw [if_pos (by omega), q9, dotU_r ⟨hD0.1, by omega⟩ ⟨h2, h3⟩]; rw [if_neg (by omega), q9] at q8; exact q8 }; { rw [if_neg (by omega)]; rw [if_neg (by omega)] at q8; exact q8 }), sh6 (T := dotUp S kind v0 lt c r) (S := S) (fun j hj => dotU_out ⟨hD0.1, by omega⟩ (by omega)) h2.2 hSn, sh7 (T := dotUp S kind v0 lt c r) (S := S) (fun j hj => dotU_out ⟨hD0.1, by omega⟩ (by omega)) h3.2 hPl, sh8 (T := dotUp S kind v0 lt c r) (S := S) (fun j hj => dotU_out ⟨hD0.1, by omega⟩ (by omega)) h4.2 hBk, sh9 (T := dotUp S kind v0 lt c r) (S := S) (dotU_out ⟨hD0.1, by omega⟩ (by omega)) (fun j hj => dotU_out ⟨hD0.1, by omega⟩ (by omega)) hH hMp⟩), (by intro e9; rcases hld with h9 | h9; { rw [e9]; exact h9.2 }; { obtain ⟨h8, k7, f7, h7, -⟩ := h9; have hl7 := (List.getElem?_eq_some_iff.mp h7).1; exact absurd e9.symm (fresh_ne hS0 (k := 55 + k7) (by rw [CW_tl, List.getElem?_append_left hl7]; exact h7)) }), (fun _ _ h9 => lsp_app (lsp_app h9))⟩)
                    · refine wr_callVz hC (c_addA l g (ws := CW g ad F A E (tl ++ [(q, nmc (ad 1) kind (S 0) v0 lt c r)])) (i := 8) (j := 55 + kL10) (a := (ad 8)) (el := E 0) (x := q) (qk := 55 + tl.length) (m := F 75) (n := F 76) (kd := kind) (f := fL11) (fs := nmV (ad 1) (S 0) v0 lt c r) rfl (by rw [CW_tl]; exact hL12a) (by rw [CW_tl]; exact hkq) (by omega) (by omega) (by omega) (by omega) _) mk_Jx4a65c_add_9ea2d ml_X11_94 (rr (by decide)) ⟨by simp only [rmC]; omega, by simp only [rmC]; omega⟩ hK hS (li_recv hK.1 ck_Jx4a65c (hS.1 8 _ rfl)) rfl hl.1 rfl (Nat.le_of_ble_eq_true rfl) dX11_dot_93 (fun v w H locs hp hS => ?_)
                      obtain ⟨hv, hp⟩ := hp
                      rw [hp, CW_set] at hS
                      have hS : St g Aw s.heap H locs (CW g ad (va_up (va_up F 75 ((F 75) + 1)) 76 ((F 76) + 1)) A E ((tl ++ [(q, nmc (ad 1) kind (S 0) v0 lt c r)]).set kL10 (E 0, obA g 10 (va_up fL11 (F 76).toNat (some q))))) := hS
                      rw [hv]
                      refine li_pop hC rfl dX11_dot_96 ?_
                      refine li_aload_n hC hl 0 rfl dX11_dot_97 ?_
                      refine li_get hC hK.1 ck_X11 (hS.1 0 _ rfl) 1 (by decide) fl_X11_23 rfl (v := .ref (ad 3)) rfl dX11_dot_98 ?_
                      refine li_get hC hK.1 ck_X8 (hS.1 3 _ rfl) 3 (by decide) fl_X11_99 rfl (v := .ref (ad 9)) rfl dX11_dot_101 ?_
                      refine li_aload_n hC hl 0 rfl dX11_dot_104 ?_
                      refine li_get hC hK.1 ck_X11 (hS.1 0 _ rfl) 1 (by decide) fl_X11_23 rfl (v := .ref (ad 3)) rfl dX11_dot_105 ?_
                      refine ro_callVi hC (c_X8_dots_r l g ad (va_up (va_up F 75 ((F 75) + 1)) 76 ((F 76) + 1)) A E ((tl ++ [(q, nmc (ad 1) kind (S 0) v0 lt c r)]).set kL10 (E 0, obA g 10 (va_up fL11 (F 76).toNat (some q)))) S nm ((F 76) + 1) rfl) mk_X8_dots ml_X11_83 (rr (by decide)) ⟨by simp only [rmC]; omega, by simp only [rmC]; omega⟩ hK.1 (hS.ro hK) hS.1 (li_recv hK.1 ck_X8 (hS.1 3 _ rfl)) rfl hl.1 rfl (Nat.le_of_ble_eq_true rfl) dX11_dot_108 ?_
                      refine li_iconst hC dX11_dot_111 ?_
                      refine li_isub hC dX11_dot_112 ?_
                      refine li_iconst hC dX11_dot_113 ?_
                      refine wr_callVv hC (c_X6_set l g (ws := CW g ad (va_up (va_up F 75 ((F 75) + 1)) 76 ((F 76) + 1)) A E ((tl ++ [(q, nmc (ad 1) kind (S 0) v0 lt c r)]).set kL10 (E 0, obA g 10 (va_up fL11 (F 76).toNat (some q))))) (i := 9) (j := 10) (a := (ad 9)) (b := (ad 10)) (n := 7) (f := (A 10)) (sz := F 9) rfl rfl (Nat.le_of_ble_eq_true rfl) (k := ((F 76) + 1) - 1) (v := 4) ⟨by omega, by omega⟩ (ws2 := CW g ad (va_up (va_up F 75 ((F 75) + 1)) 76 ((F 76) + 1)) (va_up A 10 (va_up (A 10) ((((F 76) + 1) - 1).toNat) 4)) E ((tl ++ [(q, nmc (ad 1) kind (S 0) v0 lt c r)]).set kL10 (E 0, obA g 10 (va_up fL11 (F 76).toNat (some q))))) rfl _) mk_X6_set ml_X11_102 (rr (by decide)) ⟨by simp only [rmC]; omega, by simp only [rmC]; omega⟩ hK hS (li_recv hK.1 ck_X6 (hS.1 9 _ rfl)) rfl hl.1 rfl (Nat.le_of_ble_eq_true rfl) dX11_dot_114 (fun w H locs hp hS => ?_)
                      subst hp
                      refine li_aload_n hC hl 0 rfl dX11_dot_117 ?_
                      refine li_get hC hK.1 ck_X11 (hS.1 0 _ rfl) 1 (by decide) fl_X11_23 rfl (v := .ref (ad 3)) rfl dX11_dot_118 ?_
                      refine ro_callVi hC (c_X8_dots_r l g ad (va_up (va_up F 75 ((F 75) + 1)) 76 ((F 76) + 1)) (va_up A 10 (va_up (A 10) ((((F 76) + 1) - 1).toNat) 4)) E ((tl ++ [(q, nmc (ad 1) kind (S 0) v0 lt c r)]).set kL10 (E 0, obA g 10 (va_up fL11 (F 76).toNat (some q)))) S nm ((F 76) + 1) rfl) mk_X8_dots ml_X11_83 (rr (by decide)) ⟨by simp only [rmC]; omega, by simp only [rmC]; omega⟩ hK.1 (hS.ro hK) hS.1 (li_recv hK.1 ck_X8 (hS.1 3 _ rfl)) rfl hl.1 rfl (Nat.le_of_ble_eq_true rfl) dX11_dot_121 ?_
                      refine li_iconst hC dX11_dot_124 ?_
                      refine li_isub hC dX11_dot_125 ?_
                      exact hQ _ _ _ _ _ _ _ _ dX11_dot_126 hS (by omega) (by omega) (⟨iI_inj (by unfold dotR; rw [iteP_t (by omega), iteP_t (by unfold dotOK; exact ⟨by omega, by assumption⟩), iteP_f (by omega)]; omega), (va_up (va_up F 75 ((F 75) + 1)) 76 ((F 76) + 1)), (va_up A 10 (va_up (A 10) ((((F 76) + 1) - 1).toNat) 4)), (E 0), ((tl ++ [(q, nmc (ad 1) kind (S 0) v0 lt c r)]).set kL10 (E 0, obA g 10 (va_up fL11 (F 76).toNat (some q)))), va_up nm (S 0).toNat q, rfl, ⟨fun k hk => (by first | rfl | (repeat rw [up_ne _ _ (by omega)])), fun k hk => (by first | rfl | (repeat rw [up_ne _ _ (by omega)]))⟩, ((tlk_app _ _).tr (tlk_set hL12a)), (by unfold dotS; rw [iteP_t ⟨by omega, (by unfold dotOK; exact ⟨by omega, by assumption⟩), by omega⟩]; unfold ShW ShP; exact ⟨sh1 (T := dotUp S kind v0 lt c r) (S := S) (fun j hj => dotU_out ⟨hD0.1, by omega⟩ (by omega)) h5.2 hTp, sh2 (T := dotUp S kind v0 lt c r) (S := S) (fun j hj => dotU_out ⟨hD0.1, by omega⟩ (by omega)) hH hCd, (by refine ⟨?_, (by rw [dotU_0]; refine lsp_set_own hn14 hL12a (fun j hj => ?_); rcases (show (j : Int) < S 0 ∨ j = (S 0).toNat by omega) with h9 | h9; { rw [up_ne _ _ (by omega), up_ne _ _ (by omega)]; exact hb15 j (by omega) }; { rw [h9, show (F 76).toNat = (S 0).toNat by omega, up_same, up_same] }), nmp_dot hNm ((tlk_app _ _).tr (tlk_set hL12a)) ⟨hD0.1, by omega⟩ (by first | (rw [List.getElem?_append_left (by rw [List.length_append]; exact Nat.lt_succ_self _), List.getElem?_append_right (Nat.le_refl _), Nat.sub_self]; rfl) | exact tlk_set hL12a tl.length q _ hkq)⟩; show F 76 + 1 = _; rw [dotU_0]; omega), (by intro k h0 h1; rw [dotU_0] at h1; show va_up (A 10) ((F 76 + 1) - 1).toNat 4 k.toNat = _; rcases (show k < S 0 ∨ k = S 0 by omega) with q9 | q9; { rw [up_ne _ _ (by omega), dotU_out ⟨hD0.1, by omega⟩ (by omega)]; exact hWh k h0 q9 }; { rw [q9, show ((F 76 + 1) - 1).toNat = (S 0).toNat by omega, up_same]; exact (dotU_1 ⟨hD0.1, by omega⟩).2.2.2.2.2.symm }), (by intro i p h0 h1 h2 h3; rw [dotU_0]; have q8 := hRw i p h0 h1 h2 h3; rcases (show i < S 0 ∨ i = S 0 ∨ S 0 < i by omega) with q9 | q9 | q9; { rw [if_pos (by omega), dotU_out ⟨hD0.1, by omega⟩ (by omega)]; rw [if_pos (by omega)] at q8; exact q8 }; { rw [if_pos (by omega), q9, dotU_r ⟨hD0.1, by omega⟩ ⟨h2, h3⟩]; rw [if_neg (by omega), q9] at q8; exact q8 }; { rw [if_neg (by omega)]; rw [if_neg (by omega)] at q8; exact q8 }), sh6 (T := dotUp S kind v0 lt c r) (S := S) (fun j hj => dotU_out ⟨hD0.1, by omega⟩ (by omega)) h2.2 hSn, sh7 (T := dotUp S kind v0 lt c r) (S := S) (fun j hj => dotU_out ⟨hD0.1, by omega⟩ (by omega)) h3.2 hPl, sh8 (T := dotUp S kind v0 lt c r) (S := S) (fun j hj => dotU_out ⟨hD0.1, by omega⟩ (by omega)) h4.2 hBk, sh9 (T := dotUp S kind v0 lt c r) (S := S) (dotU_out ⟨hD0.1, by omega⟩ (by omega)) (fun j hj => dotU_out ⟨hD0.1, by omega⟩ (by omega)) hH hMp⟩), (fun e9 => e9.trans (hde e9.symm)), (fun _ _ h9 => by rcases h9 with h8 | h8; { exact Or.inl h8 }; { exact lsp_set (lsp_app (Or.inr h8)) hL12a (fun e9 => hn14 (e9.symm.trans (hde e9))) })⟩)
                  · refine li_bipush hC (z := -4) rfl dX11_dot_72 ?_
                    exact hQ _ _ _ _ _ _ _ _ dX11_dot_74 hS (by omega) (by omega) (⟨iI_inj (by unfold dotR; rw [iteP_t (by omega), iteP_t (by unfold dotOK; exact ⟨by omega, by assumption⟩), iteP_t (by omega)]), F, A, E 0, tl, nm, rfl, KpS.rf _ _, TlK.rf _, (by unfold dotS; rw [iteP_f (fun h9 => h9.2.2 (by omega))]; exact hSh), (fun e9 => e9.trans (hde e9.symm)), (fun _ _ h9 => h9)⟩)
                · refine li_bipush hC (z := -2) rfl dX11_dot_57 ?_
                  exact hQ _ _ _ _ _ _ _ _ dX11_dot_59 hS (by omega) (by omega) (⟨iI_inj (by unfold dotR; rw [iteP_t (by omega), iteP_f (by unfold dotOK; intro h9; first | omega | exact absurd (by assumption) h9.2)]), F, A, E 0, tl, nm, rfl, KpS.rf _ _, TlK.rf _, (by unfold dotS; rw [iteP_f (fun h9 => by have h8 := h9.2.1; unfold dotOK at h8; first | omega | exact absurd (by assumption) h8.2)]; exact hSh), (fun e9 => e9.trans (hde e9.symm)), (fun _ _ h9 => h9)⟩)
    · refine li_iconst hC dX11_dot_10 ?_
      exact hQ _ _ _ _ _ _ _ _ dX11_dot_11 hS (by omega) (by omega) (⟨iI_inj (by unfold dotR; rw [iteP_f (by omega)]), F, A, E 0, tl, nm, rfl, KpS.rf _ _, TlK.rf _, (by unfold dotS; rw [iteP_f (fun h9 => by have a1 := h9.1; omega)]; exact hSh), (fun e9 => e9.trans (hde e9.symm)), (fun _ _ h9 => h9)⟩)
