/-! NAMES' ACTS -/
def TrW (g : GG) (ad : Nat → Nat) (F : Nat → Int) (A : Nat → Nat → Int) (E : Nat → Nat) (tl : va_W) (t : TT) : va_W := CW g ad (va_up F 1 t.1) (va_up A 2 t.2) E tl
theorem TrW_tl {g : GG} {ad : Nat → Nat} {F : Nat → Int} {A : Nat → Nat → Int} {E : Nat → Nat} {tl : va_W} {t : TT} (k : Nat) : (TrW g ad F A E tl t)[55 + k]? = tl[k]? := CW_tl k
theorem trw_add {g : GG} {ad : Nat → Nat} {F : Nat → Int} {A : Nat → Nat → Int} {E : Nat → Nat} {tl : va_W} {t : TT} {v : Int} (h : t.1 < 20) : ((TrW g ad F A E tl t).set 2 (ad 2, .inl (g.2.1 0, 20, .inl (aI (va_up t.2 t.1.toNat v))))).set 1 (ad 1, .inr (7, [.ref (ad 2), .int (iI (t.1 + 1))])) = TrW g ad F A E tl (ranT t v) := by
  unfold TrW ranT
  rw [if_pos h]
  rfl
theorem RR.le {k k' : Nat} {R : Room} (h : RR k' R) (hk : k ≤ k') : RR k R := ⟨by have := h.1; omega, by have := h.2; omega⟩
set_option maxHeartbeats 4000000 in
set_option maxRecDepth 100000 in
theorem c_X4_lies (l : Launch) (g : GG) (ad : Nat → Nat) (F : Nat → Int) (A : Nat → Nat → Int) (E : Nat → Nat) (tl : va_W) (t : TT) (q : Nat) (k : Nat) (kd : Int) (i : Int) (v : Int) (lt : Int) (cl : Int) (r : Int) (x : Int) (hq : tl[k]? = some (q, .inr (kci kd, nmV (ad 1) i v lt cl r))) (hkd : 0 ≤ kd ∧ kd ≤ 6) (ht : 0 ≤ t.1 ∧ t.1 ≤ 19) (sz : Nat) : MwrI l g yX4_lies cX4_lies 2 3 0 0 [.ref q, .int (iI x)] sz (TrW g ad F A E tl t) (fun v2 w => v2 = iI (x + i) ∧ w = TrW g ad F A E tl (ranT t 1)) := by
  refine wr_startI (own := RX4) (by decide) rfl (Nat.le_of_ble_eq_true rfl) ?_
  intro Pg Ev s Mi args below Mt Cd ls Q Aw hC hK hS hnm hl hQ
  have hl : lv_has ls 2 [(0, .ref q), (1, .int (iI x))] := hl
  obtain ⟨H, hH⟩ : ∃ H, H = s.heap := ⟨_, rfl⟩
  obtain ⟨locs, hlo⟩ : ∃ locs : List Loc, locs = [] := ⟨_, rfl⟩
  have hS : St g Aw s.heap H locs (TrW g ad F A E tl t) := by rw [hH, hlo]; exact hS
  have goal : W Pg l Ev (rmC 3 0 0) s Mi args below Mt Cd H locs 0 0 Q (F0 Mi 0 ls []) := ?goal
  · rw [hH, hlo] at goal; exact goal
  clear hH hlo
  refine li_aload_n hC hl 0 rfl dX4_lies_0 ?_
  refine li_getN0 hC hK.1 ⟨hS.1 (55 + k) _ (by rw [TrW_tl]; exact hq), hkd⟩ fl_X4_9 dX4_lies_1 ?_
  refine li_iconst hC dX4_lies_4 ?_
  refine wr_callVv hC (c_X6_add l g (ws := TrW g ad F A E tl t) (i := 1) (j := 2) (a := (ad 1)) (b := (ad 2)) (n := 20) (f := t.2) (sz := t.1) rfl rfl (Nat.le_of_ble_eq_true rfl) (v := 1) ⟨by omega, by omega⟩ (by decide) (ws2 := TrW g ad F A E tl (ranT t 1)) (trw_add (by omega)) _) mk_X6_add ml_X4_31 (rr (by decide)) ⟨by simp only [rmC]; omega, by simp only [rmC]; omega⟩ hK hS (li_recv hK.1 ck_X6 (hS.1 1 _ rfl)) rfl hl.1 rfl (Nat.le_of_ble_eq_true rfl) dX4_lies_5 (fun w H locs hp hS => ?_)
  rw [hp] at hS
  have q1 := ranT_1 t 1
  refine li_iload_n hC hl 1 rfl dX4_lies_8 ?_
  refine li_aload_n hC hl 0 rfl dX4_lies_9 ?_
  refine li_getN1 hC hK.1 ⟨hS.1 (55 + k) _ (by rw [TrW_tl]; exact hq), hkd⟩ fl_X4_15 dX4_lies_10 ?_
  refine li_iadd hC dX4_lies_13 ?_
  exact hQ _ _ _ _ _ _ _ _ dX4_lies_14 hS (by omega) (by omega) (⟨rfl, rfl⟩)
set_option maxHeartbeats 4000000 in
set_option maxRecDepth 100000 in
theorem c_X3_lies (l : Launch) (g : GG) (ad : Nat → Nat) (F : Nat → Int) (A : Nat → Nat → Int) (E : Nat → Nat) (tl : va_W) (t : TT) (q : Nat) (k : Nat) (kd : Int) (i : Int) (v : Int) (lt : Int) (cl : Int) (r : Int) (x : Int) (hq : tl[k]? = some (q, .inr (kci kd, nmV (ad 1) i v lt cl r))) (hkd : 0 ≤ kd ∧ kd ≤ 6) (ht : 0 ≤ t.1 ∧ t.1 ≤ 18) (sz : Nat) : MwrI l g yX3_lies cX3_lies 2 4 0 0 [.ref q, .int (iI x)] sz (TrW g ad F A E tl t) (fun v2 w => v2 = iI ((x * 3) + i) ∧ w = TrW g ad F A E tl (ranT (ranT t 11) 1)) := by
  refine wr_startI (own := RX3) (by decide) rfl (Nat.le_of_ble_eq_true rfl) ?_
  intro Pg Ev s Mi args below Mt Cd ls Q Aw hC hK hS hnm hl hQ
  have hl : lv_has ls 2 [(0, .ref q), (1, .int (iI x))] := hl
  obtain ⟨H, hH⟩ : ∃ H, H = s.heap := ⟨_, rfl⟩
  obtain ⟨locs, hlo⟩ : ∃ locs : List Loc, locs = [] := ⟨_, rfl⟩
  have hS : St g Aw s.heap H locs (TrW g ad F A E tl t) := by rw [hH, hlo]; exact hS
  have goal : W Pg l Ev (rmC 4 0 0) s Mi args below Mt Cd H locs 0 0 Q (F0 Mi 0 ls []) := ?goal
  · rw [hH, hlo] at goal; exact goal
  clear hH hlo
  refine li_aload_n hC hl 0 rfl dX3_lies_0 ?_
  refine li_getNs0 hC hK.1 ⟨hS.1 (55 + k) _ (by rw [TrW_tl]; exact hq), hkd⟩ fl_X3_15 sf_X3_trail dX3_lies_1 ?_
  refine li_bipush hC (z := 11) rfl dX3_lies_4 ?_
  refine wr_callVv hC (c_X6_add l g (ws := TrW g ad F A E tl t) (i := 1) (j := 2) (a := (ad 1)) (b := (ad 2)) (n := 20) (f := t.2) (sz := t.1) rfl rfl (Nat.le_of_ble_eq_true rfl) (v := 11) ⟨by omega, by omega⟩ (by decide) (ws2 := TrW g ad F A E tl (ranT t 11)) (trw_add (by omega)) _) mk_X6_add ml_X3_19 (rr (by decide)) ⟨by simp only [rmC]; omega, by simp only [rmC]; omega⟩ hK hS (li_recv hK.1 ck_X6 (hS.1 1 _ rfl)) rfl hl.1 rfl (Nat.le_of_ble_eq_true rfl) dX3_lies_6 (fun w H locs hp hS => ?_)
  rw [hp] at hS
  have q1 := ranT_1 t 11
  refine li_aload_n hC hl 0 rfl dX3_lies_9 ?_
  refine li_iload_n hC hl 1 rfl dX3_lies_10 ?_
  refine li_iconst hC dX3_lies_11 ?_
  refine li_imul hC dX3_lies_12 ?_
  refine wr_callXi hC (c_X4_lies l g ad F A E tl (ranT t 11) q k kd i v lt cl r (x * 3) hq hkd (by omega) _) mx8_X3_X4_lies ml_X3_25 (rr (by decide)) ⟨by simp only [rmC]; omega, by simp only [rmC]; omega⟩ hK hS (li_recvN hK.1 ⟨hS.1 (55 + k) _ (by rw [TrW_tl]; exact hq), hkd⟩) rfl hl.1 rfl (Nat.le_of_ble_eq_true rfl) dX3_lies_13 (fun v2 w H locs hp hS => ?_)
  obtain ⟨hv2, hp⟩ := hp
  rw [hp] at hS
  rw [hv2]
  exact hQ _ _ _ _ _ _ _ _ dX3_lies_16 hS (by omega) (by omega) (⟨rfl, rfl⟩)
set_option maxHeartbeats 4000000 in
set_option maxRecDepth 100000 in
theorem c_X2_lies (l : Launch) (g : GG) (ad : Nat → Nat) (F : Nat → Int) (A : Nat → Nat → Int) (E : Nat → Nat) (tl : va_W) (t : TT) (q : Nat) (k : Nat) (kd : Int) (i : Int) (v : Int) (lt : Int) (cl : Int) (r : Int) (x : Int) (hq : tl[k]? = some (q, .inr (kci kd, nmV (ad 1) i v lt cl r))) (hkd : 0 ≤ kd ∧ kd ≤ 6) (ht : 0 ≤ t.1 ∧ t.1 ≤ 18) (sz : Nat) : MwrI l g yX2_lies cX2_lies 2 4 0 0 [.ref q, .int (iI x)] sz (TrW g ad F A E tl t) (fun v2 w => v2 = iI (ixor (x + i) i) ∧ w = TrW g ad F A E tl (ranT (ranT t 51) 1)) := by
  refine wr_startI (own := RX2) (by decide) rfl (Nat.le_of_ble_eq_true rfl) ?_
  intro Pg Ev s Mi args below Mt Cd ls Q Aw hC hK hS hnm hl hQ
  have hl : lv_has ls 2 [(0, .ref q), (1, .int (iI x))] := hl
  obtain ⟨H, hH⟩ : ∃ H, H = s.heap := ⟨_, rfl⟩
  obtain ⟨locs, hlo⟩ : ∃ locs : List Loc, locs = [] := ⟨_, rfl⟩
  have hS : St g Aw s.heap H locs (TrW g ad F A E tl t) := by rw [hH, hlo]; exact hS
  have goal : W Pg l Ev (rmC 4 0 0) s Mi args below Mt Cd H locs 0 0 Q (F0 Mi 0 ls []) := ?goal
  · rw [hH, hlo] at goal; exact goal
  clear hH hlo
  refine li_aload_n hC hl 0 rfl dX2_lies_0 ?_
  refine li_getNs0 hC hK.1 ⟨hS.1 (55 + k) _ (by rw [TrW_tl]; exact hq), hkd⟩ fl_X2_9 sf_X2_trail dX2_lies_1 ?_
  refine li_bipush hC (z := 51) rfl dX2_lies_4 ?_
  refine wr_callVv hC (c_X6_add l g (ws := TrW g ad F A E tl t) (i := 1) (j := 2) (a := (ad 1)) (b := (ad 2)) (n := 20) (f := t.2) (sz := t.1) rfl rfl (Nat.le_of_ble_eq_true rfl) (v := 51) ⟨by omega, by omega⟩ (by decide) (ws2 := TrW g ad F A E tl (ranT t 51)) (trw_add (by omega)) _) mk_X6_add ml_X2_15 (rr (by decide)) ⟨by simp only [rmC]; omega, by simp only [rmC]; omega⟩ hK hS (li_recv hK.1 ck_X6 (hS.1 1 _ rfl)) rfl hl.1 rfl (Nat.le_of_ble_eq_true rfl) dX2_lies_6 (fun w H locs hp hS => ?_)
  rw [hp] at hS
  have q1 := ranT_1 t 51
  refine li_aload_n hC hl 0 rfl dX2_lies_9 ?_
  refine li_iload_n hC hl 1 rfl dX2_lies_10 ?_
  refine wr_callXi hC (c_X4_lies l g ad F A E tl (ranT t 51) q k kd i v lt cl r x hq hkd (by omega) _) mx8_X2_X4_lies mlx_X2_21 (rr (by decide)) ⟨by simp only [rmC]; omega, by simp only [rmC]; omega⟩ hK hS (li_recvN hK.1 ⟨hS.1 (55 + k) _ (by rw [TrW_tl]; exact hq), hkd⟩) rfl hl.1 rfl (Nat.le_of_ble_eq_true rfl) dX2_lies_11 (fun v2 w H locs hp hS => ?_)
  obtain ⟨hv2, hp⟩ := hp
  rw [hp] at hS
  rw [hv2]
  refine li_aload_n hC hl 0 rfl dX2_lies_14 ?_
  refine li_getNs1 hC hK.1 ⟨hS.1 (55 + k) _ (by rw [TrW_tl]; exact hq), hkd⟩ fl_X2_25 sf_X2_number dX2_lies_15 ?_
  refine li_ixor hC dX2_lies_18 ?_
  exact hQ _ _ _ _ _ _ _ _ dX2_lies_19 hS (by omega) (by omega) (⟨rfl, rfl⟩)
theorem v_lies {p : Program} {l : Launch} {e : Env} {R : Room} {s : State} {m : MethodId} {args : Array Value} {below : List Frame} {meth : Method} {c : Code} {H : Heap} {locs : List Loc} {cells slots : Nat} {Q : State → Prop} {cc : ByteArray} {nL : Nat} {ret : Option FieldType} {own : String} {pc : Nat} {ls : Array Slot} {rest st0 : List Value} {g : GG} {Aw : Nat → Prop} (hC : Cx p s m args meth c cc nL ret own) {ad : Nat → Nat} {F : Nat → Int} {A : Nat → Nat → Int} {E : Nat → Nat} {tl : va_W} {q k : Nat} {kd i v lt cl r x : Int} (hq : tl[k]? = some (q, .inr (kci kd, nmV (ad 1) i v lt cl r))) (hkd : 0 ≤ kd ∧ kd ≤ 6) {t : TT} (ht : 0 ≤ t.1 ∧ t.1 ≤ 18) {ix : Nat} (hlink : Cond.methodLink own ix yX4_lies ∈ allW) (hR : RR 4 R) (hcs : cells + 0 ≤ R.cells ∧ slots + 0 ≤ R.slots) (hK : KW g Aw s) (hS : St g Aw s.heap H locs (TrW g ad F A E tl t)) (hsz : ls.size = nL) (hst : st0 = .int (iI x) :: .ref q :: rest) (hW : (rest.map fun v => v.category).sum ≤ 8) (hdg : decode cc pc = .ok (.invokevirtual ix, 3)) (kk : ∀ (H : Heap) (locs : List Loc), St g Aw s.heap H locs (TrW g ad F A E tl (liesT kd t)) → W p l e R s m args below meth c H locs cells slots Q (F0 m (pc + 3) ls (.int (iI (liesV kd i x)) :: rest))) : W p l e R s m args below meth c H locs cells slots Q (F0 m pc ls st0) := by
  subst hst
  have hrv := li_recvN hK.1 (i := i) (v := v) (lt := lt) (c := cl) (r := r) (tr := ad 1) (q := q) (H := H) ⟨hS.1 (55 + k) _ (by rw [TrW_tl]; exact hq), hkd⟩
  rcases kd_cases hkd with rfl | rfl | rfl | rfl | rfl | rfl | rfl
  · refine wr_callVi hC (c_X4_lies l g ad F A E tl t q k 0 i v lt cl r x hq (by decide) (by omega) _) mk_X4_lies hlink (hR.le (by decide)) hcs hK hS hrv (As := [.int (iI x)]) rfl hsz rfl hW hdg (fun v2 w H locs hp hS => ?_)
    obtain ⟨hv2, hp⟩ := hp
    rw [hp] at hS
    rw [hv2]
    exact kk H locs hS
  · refine wr_callUi hC (c_X3_lies l g ad F A E tl t q k 1 i v lt cl r x hq (by decide) (by omega) _) mu_X3_X4_lies hlink (hR.le (by decide)) hcs hK hS hrv (As := [.int (iI x)]) rfl hsz rfl hW hdg (fun v2 w H locs hp hS => ?_)
    obtain ⟨hv2, hp⟩ := hp
    rw [hp] at hS
    rw [hv2]
    exact kk H locs hS
  · refine wr_callUi hC (c_X4_lies l g ad F A E tl t q k 2 i v lt cl r x hq (by decide) (by omega) _) mu_X1_X4_lies hlink (hR.le (by decide)) hcs hK hS hrv (As := [.int (iI x)]) rfl hsz rfl hW hdg (fun v2 w H locs hp hS => ?_)
    obtain ⟨hv2, hp⟩ := hp
    rw [hp] at hS
    rw [hv2]
    exact kk H locs hS
  · refine wr_callUi hC (c_X4_lies l g ad F A E tl t q k 3 i v lt cl r x hq (by decide) (by omega) _) mu_X9_X4_lies hlink (hR.le (by decide)) hcs hK hS hrv (As := [.int (iI x)]) rfl hsz rfl hW hdg (fun v2 w H locs hp hS => ?_)
    obtain ⟨hv2, hp⟩ := hp
    rw [hp] at hS
    rw [hv2]
    exact kk H locs hS
  · refine wr_callUi hC (c_X3_lies l g ad F A E tl t q k 4 i v lt cl r x hq (by decide) (by omega) _) mu_X0_X4_lies hlink (hR.le (by decide)) hcs hK hS hrv (As := [.int (iI x)]) rfl hsz rfl hW hdg (fun v2 w H locs hp hS => ?_)
    obtain ⟨hv2, hp⟩ := hp
    rw [hp] at hS
    rw [hv2]
    exact kk H locs hS
  · refine wr_callUi hC (c_X2_lies l g ad F A E tl t q k 5 i v lt cl r x hq (by decide) (by omega) _) mu_X2_X4_lies hlink (hR.le (by decide)) hcs hK hS hrv (As := [.int (iI x)]) rfl hsz rfl hW hdg (fun v2 w H locs hp hS => ?_)
    obtain ⟨hv2, hp⟩ := hp
    rw [hp] at hS
    rw [hv2]
    exact kk H locs hS
  · refine wr_callUi hC (c_X4_lies l g ad F A E tl t q k 6 i v lt cl r x hq (by decide) (by omega) _) mu_X10_X4_lies hlink (hR.le (by decide)) hcs hK hS hrv (As := [.int (iI x)]) rfl hsz rfl hW hdg (fun v2 w H locs hp hS => ?_)
    obtain ⟨hv2, hp⟩ := hp
    rw [hp] at hS
    rw [hv2]
    exact kk H locs hS
set_option maxHeartbeats 4000000 in
set_option maxRecDepth 100000 in
theorem c_X4_reads (l : Launch) (g : GG) (ad : Nat → Nat) (F : Nat → Int) (A : Nat → Nat → Int) (E : Nat → Nat) (tl : va_W) (t : TT) (q : Nat) (k : Nat) (kd : Int) (i : Int) (v : Int) (lt : Int) (cl : Int) (r : Int) (x : Int) (hq : tl[k]? = some (q, .inr (kci kd, nmV (ad 1) i v lt cl r))) (hkd : 0 ≤ kd ∧ kd ≤ 6) (ht : 0 ≤ t.1 ∧ t.1 ≤ 17) (sz : Nat) : MwrI l g yX4_reads cX4_reads 2 5 0 0 [.ref q, .int (iI x)] sz (TrW g ad F A E tl t) (fun v2 w => v2 = iI ((liesV kd i x) - v) ∧ w = TrW g ad F A E tl (pReadsT kd t)) := by
  refine wr_startI (own := RX4) (by decide) rfl (Nat.le_of_ble_eq_true rfl) ?_
  intro Pg Ev s Mi args below Mt Cd ls Q Aw hC hK hS hnm hl hQ
  have hl : lv_has ls 2 [(0, .ref q), (1, .int (iI x))] := hl
  obtain ⟨H, hH⟩ : ∃ H, H = s.heap := ⟨_, rfl⟩
  obtain ⟨locs, hlo⟩ : ∃ locs : List Loc, locs = [] := ⟨_, rfl⟩
  have hS : St g Aw s.heap H locs (TrW g ad F A E tl t) := by rw [hH, hlo]; exact hS
  have goal : W Pg l Ev (rmC 5 0 0) s Mi args below Mt Cd H locs 0 0 Q (F0 Mi 0 ls []) := ?goal
  · rw [hH, hlo] at goal; exact goal
  clear hH hlo
  refine li_aload_n hC hl 0 rfl dX4_reads_0 ?_
  refine li_getN0 hC hK.1 ⟨hS.1 (55 + k) _ (by rw [TrW_tl]; exact hq), hkd⟩ fl_X4_9 dX4_reads_1 ?_
  refine li_iconst hC dX4_reads_4 ?_
  refine wr_callVv hC (c_X6_add l g (ws := TrW g ad F A E tl t) (i := 1) (j := 2) (a := (ad 1)) (b := (ad 2)) (n := 20) (f := t.2) (sz := t.1) rfl rfl (Nat.le_of_ble_eq_true rfl) (v := 2) ⟨by omega, by omega⟩ (by decide) (ws2 := TrW g ad F A E tl (ranT t 2)) (trw_add (by omega)) _) mk_X6_add ml_X4_31 (rr (by decide)) ⟨by simp only [rmC]; omega, by simp only [rmC]; omega⟩ hK hS (li_recv hK.1 ck_X6 (hS.1 1 _ rfl)) rfl hl.1 rfl (Nat.le_of_ble_eq_true rfl) dX4_reads_5 (fun w H locs hp hS => ?_)
  rw [hp] at hS
  have q1 := ranT_1 t 2
  refine li_aload_n hC hl 0 rfl dX4_reads_8 ?_
  refine li_iload_n hC hl 1 rfl dX4_reads_9 ?_
  refine v_lies hC (x := x) hq hkd (t := ranT t 2) (by omega) ml_X4_37 (rr (by decide)) ⟨by simp only [rmC]; omega, by simp only [rmC]; omega⟩ hK hS hl.1 rfl (Nat.le_of_ble_eq_true rfl) dX4_reads_10 (fun H locs hS => ?_)
  have q2 := liesT_1 kd (ranT t 2)
  refine li_aload_n hC hl 0 rfl dX4_reads_13 ?_
  refine li_getN2 hC hK.1 ⟨hS.1 (55 + k) _ (by rw [TrW_tl]; exact hq), hkd⟩ fl_X4_19 dX4_reads_14 ?_
  refine li_isub hC dX4_reads_17 ?_
  exact hQ _ _ _ _ _ _ _ _ dX4_reads_18 hS (by omega) (by omega) (⟨rfl, rfl⟩)
set_option maxHeartbeats 4000000 in
set_option maxRecDepth 100000 in
theorem c_X1_reads (l : Launch) (g : GG) (ad : Nat → Nat) (F : Nat → Int) (A : Nat → Nat → Int) (E : Nat → Nat) (tl : va_W) (t : TT) (q : Nat) (k : Nat) (kd : Int) (i : Int) (v : Int) (lt : Int) (cl : Int) (r : Int) (x : Int) (hq : tl[k]? = some (q, .inr (kci kd, nmV (ad 1) i v lt cl r))) (hkd : 0 ≤ kd ∧ kd ≤ 6) (ht : 0 ≤ t.1 ∧ t.1 ≤ 16) (sz : Nat) : MwrI l g yX1_reads cX1_reads 2 6 0 0 [.ref q, .int (iI x)] sz (TrW g ad F A E tl t) (fun v2 w => v2 = iI (-((liesV kd i x) - v)) ∧ w = TrW g ad F A E tl (pReadsT kd (ranT t 21))) := by
  refine wr_startI (own := RX1) (by decide) rfl (Nat.le_of_ble_eq_true rfl) ?_
  intro Pg Ev s Mi args below Mt Cd ls Q Aw hC hK hS hnm hl hQ
  have hl : lv_has ls 2 [(0, .ref q), (1, .int (iI x))] := hl
  obtain ⟨H, hH⟩ : ∃ H, H = s.heap := ⟨_, rfl⟩
  obtain ⟨locs, hlo⟩ : ∃ locs : List Loc, locs = [] := ⟨_, rfl⟩
  have hS : St g Aw s.heap H locs (TrW g ad F A E tl t) := by rw [hH, hlo]; exact hS
  have goal : W Pg l Ev (rmC 6 0 0) s Mi args below Mt Cd H locs 0 0 Q (F0 Mi 0 ls []) := ?goal
  · rw [hH, hlo] at goal; exact goal
  clear hH hlo
  refine li_aload_n hC hl 0 rfl dX1_reads_0 ?_
  refine li_getNs0 hC hK.1 ⟨hS.1 (55 + k) _ (by rw [TrW_tl]; exact hq), hkd⟩ fl_X1_9 sf_X1_trail dX1_reads_1 ?_
  refine li_bipush hC (z := 21) rfl dX1_reads_4 ?_
  refine wr_callVv hC (c_X6_add l g (ws := TrW g ad F A E tl t) (i := 1) (j := 2) (a := (ad 1)) (b := (ad 2)) (n := 20) (f := t.2) (sz := t.1) rfl rfl (Nat.le_of_ble_eq_true rfl) (v := 21) ⟨by omega, by omega⟩ (by decide) (ws2 := TrW g ad F A E tl (ranT t 21)) (trw_add (by omega)) _) mk_X6_add ml_X1_15 (rr (by decide)) ⟨by simp only [rmC]; omega, by simp only [rmC]; omega⟩ hK hS (li_recv hK.1 ck_X6 (hS.1 1 _ rfl)) rfl hl.1 rfl (Nat.le_of_ble_eq_true rfl) dX1_reads_6 (fun w H locs hp hS => ?_)
  rw [hp] at hS
  have q1 := ranT_1 t 21
  refine li_aload_n hC hl 0 rfl dX1_reads_9 ?_
  refine li_iload_n hC hl 1 rfl dX1_reads_10 ?_
  refine wr_callXi hC (c_X4_reads l g ad F A E tl (ranT t 21) q k kd i v lt cl r x hq hkd (by omega) _) mx8_X1_X4_reads ml_X1_21 (rr (by decide)) ⟨by simp only [rmC]; omega, by simp only [rmC]; omega⟩ hK hS (li_recvN hK.1 ⟨hS.1 (55 + k) _ (by rw [TrW_tl]; exact hq), hkd⟩) rfl hl.1 rfl (Nat.le_of_ble_eq_true rfl) dX1_reads_11 (fun v2 w H locs hp hS => ?_)
  obtain ⟨hv2, hp⟩ := hp
  rw [hp] at hS
  rw [hv2]
  refine li_ineg hC dX1_reads_14 ?_
  exact hQ _ _ _ _ _ _ _ _ dX1_reads_15 hS (by omega) (by omega) (⟨rfl, rfl⟩)
set_option maxHeartbeats 4000000 in
set_option maxRecDepth 100000 in
theorem c_X10_reads (l : Launch) (g : GG) (ad : Nat → Nat) (F : Nat → Int) (A : Nat → Nat → Int) (E : Nat → Nat) (tl : va_W) (t : TT) (q : Nat) (k : Nat) (kd : Int) (i : Int) (v : Int) (lt : Int) (cl : Int) (r : Int) (x : Int) (hq : tl[k]? = some (q, .inr (kci kd, nmV (ad 1) i v lt cl r))) (hkd : 0 ≤ kd ∧ kd ≤ 6) (ht : 0 ≤ t.1 ∧ t.1 ≤ 16) (sz : Nat) : MwrI l g yX10_reads cX10_reads 2 6 0 0 [.ref q, .int (iI x)] sz (TrW g ad F A E tl t) (fun v2 w => v2 = iI (((liesV kd i x) - v) + v) ∧ w = TrW g ad F A E tl (pReadsT kd (ranT t 61))) := by
  refine wr_startI (own := RX10) (by decide) rfl (Nat.le_of_ble_eq_true rfl) ?_
  intro Pg Ev s Mi args below Mt Cd ls Q Aw hC hK hS hnm hl hQ
  have hl : lv_has ls 2 [(0, .ref q), (1, .int (iI x))] := hl
  obtain ⟨H, hH⟩ : ∃ H, H = s.heap := ⟨_, rfl⟩
  obtain ⟨locs, hlo⟩ : ∃ locs : List Loc, locs = [] := ⟨_, rfl⟩
  have hS : St g Aw s.heap H locs (TrW g ad F A E tl t) := by rw [hH, hlo]; exact hS
  have goal : W Pg l Ev (rmC 6 0 0) s Mi args below Mt Cd H locs 0 0 Q (F0 Mi 0 ls []) := ?goal
  · rw [hH, hlo] at goal; exact goal
  clear hH hlo
  refine li_aload_n hC hl 0 rfl dX10_reads_0 ?_
  refine li_getNs0 hC hK.1 ⟨hS.1 (55 + k) _ (by rw [TrW_tl]; exact hq), hkd⟩ fl_X10_7 sf_X10_trail dX10_reads_1 ?_
  refine li_bipush hC (z := 61) rfl dX10_reads_4 ?_
  refine wr_callVv hC (c_X6_add l g (ws := TrW g ad F A E tl t) (i := 1) (j := 2) (a := (ad 1)) (b := (ad 2)) (n := 20) (f := t.2) (sz := t.1) rfl rfl (Nat.le_of_ble_eq_true rfl) (v := 61) ⟨by omega, by omega⟩ (by decide) (ws2 := TrW g ad F A E tl (ranT t 61)) (trw_add (by omega)) _) mk_X6_add ml_X10_13 (rr (by decide)) ⟨by simp only [rmC]; omega, by simp only [rmC]; omega⟩ hK hS (li_recv hK.1 ck_X6 (hS.1 1 _ rfl)) rfl hl.1 rfl (Nat.le_of_ble_eq_true rfl) dX10_reads_6 (fun w H locs hp hS => ?_)
  rw [hp] at hS
  have q1 := ranT_1 t 61
  refine li_aload_n hC hl 0 rfl dX10_reads_9 ?_
  refine li_iload_n hC hl 1 rfl dX10_reads_10 ?_
  refine wr_callXi hC (c_X4_reads l g ad F A E tl (ranT t 61) q k kd i v lt cl r x hq hkd (by omega) _) mx8_X10_X4_reads mlx_X10_19 (rr (by decide)) ⟨by simp only [rmC]; omega, by simp only [rmC]; omega⟩ hK hS (li_recvN hK.1 ⟨hS.1 (55 + k) _ (by rw [TrW_tl]; exact hq), hkd⟩) rfl hl.1 rfl (Nat.le_of_ble_eq_true rfl) dX10_reads_11 (fun v2 w H locs hp hS => ?_)
  obtain ⟨hv2, hp⟩ := hp
  rw [hp] at hS
  rw [hv2]
  refine li_aload_n hC hl 0 rfl dX10_reads_14 ?_
  refine li_getNs2 hC hK.1 ⟨hS.1 (55 + k) _ (by rw [TrW_tl]; exact hq), hkd⟩ fl_X10_23 sf_X10_v dX10_reads_15 ?_
  refine li_iadd hC dX10_reads_18 ?_
  exact hQ _ _ _ _ _ _ _ _ dX10_reads_19 hS (by omega) (by omega) (⟨rfl, rfl⟩)
theorem v_reads {p : Program} {l : Launch} {e : Env} {R : Room} {s : State} {m : MethodId} {args : Array Value} {below : List Frame} {meth : Method} {c : Code} {H : Heap} {locs : List Loc} {cells slots : Nat} {Q : State → Prop} {cc : ByteArray} {nL : Nat} {ret : Option FieldType} {own : String} {pc : Nat} {ls : Array Slot} {rest st0 : List Value} {g : GG} {Aw : Nat → Prop} (hC : Cx p s m args meth c cc nL ret own) {ad : Nat → Nat} {F : Nat → Int} {A : Nat → Nat → Int} {E : Nat → Nat} {tl : va_W} {q k : Nat} {kd i v lt cl r x : Int} (hq : tl[k]? = some (q, .inr (kci kd, nmV (ad 1) i v lt cl r))) (hkd : 0 ≤ kd ∧ kd ≤ 6) {t : TT} (ht : 0 ≤ t.1 ∧ t.1 ≤ 16) {ix : Nat} (hlink : Cond.methodLink own ix yX4_reads ∈ allW) (hR : RR 6 R) (hcs : cells + 0 ≤ R.cells ∧ slots + 0 ≤ R.slots) (hK : KW g Aw s) (hS : St g Aw s.heap H locs (TrW g ad F A E tl t)) (hsz : ls.size = nL) (hst : st0 = .int (iI x) :: .ref q :: rest) (hW : (rest.map fun v => v.category).sum ≤ 8) (hdg : decode cc pc = .ok (.invokevirtual ix, 3)) (kk : ∀ (H : Heap) (locs : List Loc), St g Aw s.heap H locs (TrW g ad F A E tl (readsT kd t)) → W p l e R s m args below meth c H locs cells slots Q (F0 m (pc + 3) ls (.int (iI (readsV kd i v x)) :: rest))) : W p l e R s m args below meth c H locs cells slots Q (F0 m pc ls st0) := by
  subst hst
  have hrv := li_recvN hK.1 (i := i) (v := v) (lt := lt) (c := cl) (r := r) (tr := ad 1) (q := q) (H := H) ⟨hS.1 (55 + k) _ (by rw [TrW_tl]; exact hq), hkd⟩
  rcases kd_cases hkd with rfl | rfl | rfl | rfl | rfl | rfl | rfl
  · refine wr_callVi hC (c_X4_reads l g ad F A E tl t q k 0 i v lt cl r x hq (by decide) (by omega) _) mk_X4_reads hlink (hR.le (by decide)) hcs hK hS hrv (As := [.int (iI x)]) rfl hsz rfl hW hdg (fun v2 w H locs hp hS => ?_)
    obtain ⟨hv2, hp⟩ := hp
    rw [hp] at hS
    rw [hv2]
    exact kk H locs hS
  · refine wr_callUi hC (c_X4_reads l g ad F A E tl t q k 1 i v lt cl r x hq (by decide) (by omega) _) mu_X3_X4_reads hlink (hR.le (by decide)) hcs hK hS hrv (As := [.int (iI x)]) rfl hsz rfl hW hdg (fun v2 w H locs hp hS => ?_)
    obtain ⟨hv2, hp⟩ := hp
    rw [hp] at hS
    rw [hv2]
    exact kk H locs hS
  · refine wr_callUi hC (c_X1_reads l g ad F A E tl t q k 2 i v lt cl r x hq (by decide) (by omega) _) mu_X1_X4_reads hlink (hR.le (by decide)) hcs hK hS hrv (As := [.int (iI x)]) rfl hsz rfl hW hdg (fun v2 w H locs hp hS => ?_)
    obtain ⟨hv2, hp⟩ := hp
    rw [hp] at hS
    rw [hv2]
    exact kk H locs hS
  · refine wr_callUi hC (c_X4_reads l g ad F A E tl t q k 3 i v lt cl r x hq (by decide) (by omega) _) mu_X9_X4_reads hlink (hR.le (by decide)) hcs hK hS hrv (As := [.int (iI x)]) rfl hsz rfl hW hdg (fun v2 w H locs hp hS => ?_)
    obtain ⟨hv2, hp⟩ := hp
    rw [hp] at hS
    rw [hv2]
    exact kk H locs hS
  · refine wr_callUi hC (c_X4_reads l g ad F A E tl t q k 4 i v lt cl r x hq (by decide) (by omega) _) mu_X0_X4_reads hlink (hR.le (by decide)) hcs hK hS hrv (As := [.int (iI x)]) rfl hsz rfl hW hdg (fun v2 w H locs hp hS => ?_)
    obtain ⟨hv2, hp⟩ := hp
    rw [hp] at hS
    rw [hv2]
    exact kk H locs hS
  · refine wr_callUi hC (c_X1_reads l g ad F A E tl t q k 5 i v lt cl r x hq (by decide) (by omega) _) mu_X2_X4_reads hlink (hR.le (by decide)) hcs hK hS hrv (As := [.int (iI x)]) rfl hsz rfl hW hdg (fun v2 w H locs hp hS => ?_)
    obtain ⟨hv2, hp⟩ := hp
    rw [hp] at hS
    rw [hv2]
    exact kk H locs hS
  · refine wr_callUi hC (c_X10_reads l g ad F A E tl t q k 6 i v lt cl r x hq (by decide) (by omega) _) mu_X10_X4_reads hlink (hR.le (by decide)) hcs hK hS hrv (As := [.int (iI x)]) rfl hsz rfl hW hdg (fun v2 w H locs hp hS => ?_)
    obtain ⟨hv2, hp⟩ := hp
    rw [hp] at hS
    rw [hv2]
    exact kk H locs hS
set_option maxHeartbeats 4000000 in
set_option maxRecDepth 100000 in
theorem c_X4_tells (l : Launch) (g : GG) (ad : Nat → Nat) (F : Nat → Int) (A : Nat → Nat → Int) (E : Nat → Nat) (tl : va_W) (t : TT) (q : Nat) (k : Nat) (kd : Int) (i : Int) (v : Int) (lt : Int) (cl : Int) (r : Int) (x : Int) (hq : tl[k]? = some (q, .inr (kci kd, nmV (ad 1) i v lt cl r))) (hkd : 0 ≤ kd ∧ kd ≤ 6) (ht : 0 ≤ t.1 ∧ t.1 ≤ 15) (sz : Nat) : MwrI l g yX4_tells cX4_tells 2 7 0 0 [.ref q, .int (iI x)] sz (TrW g ad F A E tl t) (fun v2 w => v2 = iI ((readsV kd i v x) * 2) ∧ w = TrW g ad F A E tl (pTellsT kd t)) := by
  refine wr_startI (own := RX4) (by decide) rfl (Nat.le_of_ble_eq_true rfl) ?_
  intro Pg Ev s Mi args below Mt Cd ls Q Aw hC hK hS hnm hl hQ
  have hl : lv_has ls 2 [(0, .ref q), (1, .int (iI x))] := hl
  obtain ⟨H, hH⟩ : ∃ H, H = s.heap := ⟨_, rfl⟩
  obtain ⟨locs, hlo⟩ : ∃ locs : List Loc, locs = [] := ⟨_, rfl⟩
  have hS : St g Aw s.heap H locs (TrW g ad F A E tl t) := by rw [hH, hlo]; exact hS
  have goal : W Pg l Ev (rmC 7 0 0) s Mi args below Mt Cd H locs 0 0 Q (F0 Mi 0 ls []) := ?goal
  · rw [hH, hlo] at goal; exact goal
  clear hH hlo
  refine li_aload_n hC hl 0 rfl dX4_tells_0 ?_
  refine li_getN0 hC hK.1 ⟨hS.1 (55 + k) _ (by rw [TrW_tl]; exact hq), hkd⟩ fl_X4_9 dX4_tells_1 ?_
  refine li_iconst hC dX4_tells_4 ?_
  refine wr_callVv hC (c_X6_add l g (ws := TrW g ad F A E tl t) (i := 1) (j := 2) (a := (ad 1)) (b := (ad 2)) (n := 20) (f := t.2) (sz := t.1) rfl rfl (Nat.le_of_ble_eq_true rfl) (v := 3) ⟨by omega, by omega⟩ (by decide) (ws2 := TrW g ad F A E tl (ranT t 3)) (trw_add (by omega)) _) mk_X6_add ml_X4_31 (rr (by decide)) ⟨by simp only [rmC]; omega, by simp only [rmC]; omega⟩ hK hS (li_recv hK.1 ck_X6 (hS.1 1 _ rfl)) rfl hl.1 rfl (Nat.le_of_ble_eq_true rfl) dX4_tells_5 (fun w H locs hp hS => ?_)
  rw [hp] at hS
  have q1 := ranT_1 t 3
  refine li_aload_n hC hl 0 rfl dX4_tells_8 ?_
  refine li_iload_n hC hl 1 rfl dX4_tells_9 ?_
  refine v_reads hC (x := x) hq hkd (t := ranT t 3) (by omega) ml_X4_41 (rr (by decide)) ⟨by simp only [rmC]; omega, by simp only [rmC]; omega⟩ hK hS hl.1 rfl (Nat.le_of_ble_eq_true rfl) dX4_tells_10 (fun H locs hS => ?_)
  have q2 := readsT_1 kd (ranT t 3)
  refine li_iconst hC dX4_tells_13 ?_
  refine li_imul hC dX4_tells_14 ?_
  exact hQ _ _ _ _ _ _ _ _ dX4_tells_15 hS (by omega) (by omega) (⟨rfl, rfl⟩)
set_option maxHeartbeats 4000000 in
set_option maxRecDepth 100000 in
theorem c_X9_tells (l : Launch) (g : GG) (ad : Nat → Nat) (F : Nat → Int) (A : Nat → Nat → Int) (E : Nat → Nat) (tl : va_W) (t : TT) (q : Nat) (k : Nat) (kd : Int) (i : Int) (v : Int) (lt : Int) (cl : Int) (r : Int) (x : Int) (hq : tl[k]? = some (q, .inr (kci kd, nmV (ad 1) i v lt cl r))) (hkd : 0 ≤ kd ∧ kd ≤ 6) (ht : 0 ≤ t.1 ∧ t.1 ≤ 14) (sz : Nat) : MwrI l g yX9_tells cX9_tells 2 8 0 0 [.ref q, .int (iI x)] sz (TrW g ad F A E tl t) (fun v2 w => v2 = iI (ixor ((readsV kd i v x) * 2) 7) ∧ w = TrW g ad F A E tl (pTellsT kd (ranT t 31))) := by
  refine wr_startI (own := RX9) (by decide) rfl (Nat.le_of_ble_eq_true rfl) ?_
  intro Pg Ev s Mi args below Mt Cd ls Q Aw hC hK hS hnm hl hQ
  have hl : lv_has ls 2 [(0, .ref q), (1, .int (iI x))] := hl
  obtain ⟨H, hH⟩ : ∃ H, H = s.heap := ⟨_, rfl⟩
  obtain ⟨locs, hlo⟩ : ∃ locs : List Loc, locs = [] := ⟨_, rfl⟩
  have hS : St g Aw s.heap H locs (TrW g ad F A E tl t) := by rw [hH, hlo]; exact hS
  have goal : W Pg l Ev (rmC 8 0 0) s Mi args below Mt Cd H locs 0 0 Q (F0 Mi 0 ls []) := ?goal
  · rw [hH, hlo] at goal; exact goal
  clear hH hlo
  refine li_aload_n hC hl 0 rfl dX9_tells_0 ?_
  refine li_getNs0 hC hK.1 ⟨hS.1 (55 + k) _ (by rw [TrW_tl]; exact hq), hkd⟩ fl_X9_15 sf_X9_trail dX9_tells_1 ?_
  refine li_bipush hC (z := 31) rfl dX9_tells_4 ?_
  refine wr_callVv hC (c_X6_add l g (ws := TrW g ad F A E tl t) (i := 1) (j := 2) (a := (ad 1)) (b := (ad 2)) (n := 20) (f := t.2) (sz := t.1) rfl rfl (Nat.le_of_ble_eq_true rfl) (v := 31) ⟨by omega, by omega⟩ (by decide) (ws2 := TrW g ad F A E tl (ranT t 31)) (trw_add (by omega)) _) mk_X6_add ml_X9_19 (rr (by decide)) ⟨by simp only [rmC]; omega, by simp only [rmC]; omega⟩ hK hS (li_recv hK.1 ck_X6 (hS.1 1 _ rfl)) rfl hl.1 rfl (Nat.le_of_ble_eq_true rfl) dX9_tells_6 (fun w H locs hp hS => ?_)
  rw [hp] at hS
  have q1 := ranT_1 t 31
  refine li_aload_n hC hl 0 rfl dX9_tells_9 ?_
  refine li_iload_n hC hl 1 rfl dX9_tells_10 ?_
  refine wr_callXi hC (c_X4_tells l g ad F A E tl (ranT t 31) q k kd i v lt cl r x hq hkd (by omega) _) mx8_X9_X4_tells ml_X9_25 (rr (by decide)) ⟨by simp only [rmC]; omega, by simp only [rmC]; omega⟩ hK hS (li_recvN hK.1 ⟨hS.1 (55 + k) _ (by rw [TrW_tl]; exact hq), hkd⟩) rfl hl.1 rfl (Nat.le_of_ble_eq_true rfl) dX9_tells_11 (fun v2 w H locs hp hS => ?_)
  obtain ⟨hv2, hp⟩ := hp
  rw [hp] at hS
  rw [hv2]
  refine li_bipush hC (z := 7) rfl dX9_tells_14 ?_
  refine li_ixor hC dX9_tells_16 ?_
  exact hQ _ _ _ _ _ _ _ _ dX9_tells_17 hS (by omega) (by omega) (⟨rfl, rfl⟩)
set_option maxHeartbeats 4000000 in
set_option maxRecDepth 100000 in
theorem c_X0_tells (l : Launch) (g : GG) (ad : Nat → Nat) (F : Nat → Int) (A : Nat → Nat → Int) (E : Nat → Nat) (tl : va_W) (t : TT) (q : Nat) (k : Nat) (i : Int) (v : Int) (lt : Int) (cl : Int) (r : Int) (x : Int) (hq : tl[k]? = some (q, .inr (kci 4, nmV (ad 1) i v lt cl r))) (hkd : 0 ≤ (4 : Int) ∧ (4 : Int) ≤ 6) (ht : 0 ≤ t.1 ∧ t.1 ≤ 12) (sz : Nat) : MwrI l g yX0_tells cX0_tells 2 8 0 0 [.ref q, .int (iI x)] sz (TrW g ad F A E tl t) (fun v2 w => v2 = iI (((readsV 4 i v (x - 1)) * 2) + ((2 * 3) + i)) ∧ w = TrW g ad F A E tl (ranT (ranT (pTellsT 4 (ranT t 41)) 11) 1)) := by
  refine wr_startI (own := RX0) (by decide) rfl (Nat.le_of_ble_eq_true rfl) ?_
  intro Pg Ev s Mi args below Mt Cd ls Q Aw hC hK hS hnm hl hQ
  have hl : lv_has ls 2 [(0, .ref q), (1, .int (iI x))] := hl
  obtain ⟨H, hH⟩ : ∃ H, H = s.heap := ⟨_, rfl⟩
  obtain ⟨locs, hlo⟩ : ∃ locs : List Loc, locs = [] := ⟨_, rfl⟩
  have hS : St g Aw s.heap H locs (TrW g ad F A E tl t) := by rw [hH, hlo]; exact hS
  have goal : W Pg l Ev (rmC 8 0 0) s Mi args below Mt Cd H locs 0 0 Q (F0 Mi 0 ls []) := ?goal
  · rw [hH, hlo] at goal; exact goal
  clear hH hlo
  refine li_aload_n hC hl 0 rfl dX0_tells_0 ?_
  refine li_getNs0 hC hK.1 ⟨hS.1 (55 + k) _ (by rw [TrW_tl]; exact hq), by decide⟩ fl_X0_15 sf_X0_trail dX0_tells_1 ?_
  refine li_bipush hC (z := 41) rfl dX0_tells_4 ?_
  refine wr_callVv hC (c_X6_add l g (ws := TrW g ad F A E tl t) (i := 1) (j := 2) (a := (ad 1)) (b := (ad 2)) (n := 20) (f := t.2) (sz := t.1) rfl rfl (Nat.le_of_ble_eq_true rfl) (v := 41) ⟨by omega, by omega⟩ (by decide) (ws2 := TrW g ad F A E tl (ranT t 41)) (trw_add (by omega)) _) mk_X6_add ml_X0_19 (rr (by decide)) ⟨by simp only [rmC]; omega, by simp only [rmC]; omega⟩ hK hS (li_recv hK.1 ck_X6 (hS.1 1 _ rfl)) rfl hl.1 rfl (Nat.le_of_ble_eq_true rfl) dX0_tells_6 (fun w H locs hp hS => ?_)
  rw [hp] at hS
  have q1 := ranT_1 t 41
  refine li_aload_n hC hl 0 rfl dX0_tells_9 ?_
  refine li_iload_n hC hl 1 rfl dX0_tells_10 ?_
  refine li_iconst hC dX0_tells_11 ?_
  refine li_isub hC dX0_tells_12 ?_
  refine wr_callXi hC (c_X4_tells l g ad F A E tl (ranT t 41) q k 4 i v lt cl r (x - 1) hq (by decide) (by omega) _) mx8_X0_X4_tells mlx_X0_25 (rr (by decide)) ⟨by simp only [rmC]; omega, by simp only [rmC]; omega⟩ hK hS (li_recvN hK.1 ⟨hS.1 (55 + k) _ (by rw [TrW_tl]; exact hq), by decide⟩) rfl hl.1 rfl (Nat.le_of_ble_eq_true rfl) dX0_tells_13 (fun v2 w H locs hp hS => ?_)
  obtain ⟨hv2, hp⟩ := hp
  rw [hp] at hS
  rw [hv2]
  refine li_aload_n hC hl 0 rfl dX0_tells_16 ?_
  refine li_iconst hC dX0_tells_17 ?_
  have q81 := pTellsT_1 4 (ranT t 41)
  refine wr_callWi hC (c_X3_lies l g ad F A E tl (pTellsT 4 (ranT t 41)) q k 4 i v lt cl r 2 hq (by decide) (by omega) _) mw_X0_lies mlx_X0_29 (rr (by decide)) ⟨by simp only [rmC]; omega, by simp only [rmC]; omega⟩ hK hS (li_recvN hK.1 ⟨hS.1 (55 + k) _ (by rw [TrW_tl]; exact hq), by decide⟩) rfl hl.1 rfl (Nat.le_of_ble_eq_true rfl) dX0_tells_18 (fun v2 w H locs hp hS => ?_)
  obtain ⟨hv2, hp⟩ := hp
  rw [hp] at hS
  rw [hv2]
  refine li_iadd hC dX0_tells_21 ?_
  exact hQ _ _ _ _ _ _ _ _ dX0_tells_22 hS (by omega) (by omega) (⟨rfl, rfl⟩)
theorem v_tells {p : Program} {l : Launch} {e : Env} {R : Room} {s : State} {m : MethodId} {args : Array Value} {below : List Frame} {meth : Method} {c : Code} {H : Heap} {locs : List Loc} {cells slots : Nat} {Q : State → Prop} {cc : ByteArray} {nL : Nat} {ret : Option FieldType} {own : String} {pc : Nat} {ls : Array Slot} {rest st0 : List Value} {g : GG} {Aw : Nat → Prop} (hC : Cx p s m args meth c cc nL ret own) {ad : Nat → Nat} {F : Nat → Int} {A : Nat → Nat → Int} {E : Nat → Nat} {tl : va_W} {q k : Nat} {kd i v lt cl r x : Int} (hq : tl[k]? = some (q, .inr (kci kd, nmV (ad 1) i v lt cl r))) (hkd : 0 ≤ kd ∧ kd ≤ 6) {t : TT} (ht : 0 ≤ t.1 ∧ t.1 ≤ 12) {ix : Nat} (hlink : Cond.methodLink own ix yX4_tells ∈ allW) (hR : RR 8 R) (hcs : cells + 0 ≤ R.cells ∧ slots + 0 ≤ R.slots) (hK : KW g Aw s) (hS : St g Aw s.heap H locs (TrW g ad F A E tl t)) (hsz : ls.size = nL) (hst : st0 = .int (iI x) :: .ref q :: rest) (hW : (rest.map fun v => v.category).sum ≤ 8) (hdg : decode cc pc = .ok (.invokevirtual ix, 3)) (kk : ∀ (H : Heap) (locs : List Loc), St g Aw s.heap H locs (TrW g ad F A E tl (tellsT kd t)) → W p l e R s m args below meth c H locs cells slots Q (F0 m (pc + 3) ls (.int (iI (tellsV kd i v x)) :: rest))) : W p l e R s m args below meth c H locs cells slots Q (F0 m pc ls st0) := by
  subst hst
  have hrv := li_recvN hK.1 (i := i) (v := v) (lt := lt) (c := cl) (r := r) (tr := ad 1) (q := q) (H := H) ⟨hS.1 (55 + k) _ (by rw [TrW_tl]; exact hq), hkd⟩
  rcases kd_cases hkd with rfl | rfl | rfl | rfl | rfl | rfl | rfl
  · refine wr_callVi hC (c_X4_tells l g ad F A E tl t q k 0 i v lt cl r x hq (by decide) (by omega) _) mk_X4_tells hlink (hR.le (by decide)) hcs hK hS hrv (As := [.int (iI x)]) rfl hsz rfl hW hdg (fun v2 w H locs hp hS => ?_)
    obtain ⟨hv2, hp⟩ := hp
    rw [hp] at hS
    rw [hv2]
    exact kk H locs hS
  · refine wr_callUi hC (c_X4_tells l g ad F A E tl t q k 1 i v lt cl r x hq (by decide) (by omega) _) mu_X3_X4_tells hlink (hR.le (by decide)) hcs hK hS hrv (As := [.int (iI x)]) rfl hsz rfl hW hdg (fun v2 w H locs hp hS => ?_)
    obtain ⟨hv2, hp⟩ := hp
    rw [hp] at hS
    rw [hv2]
    exact kk H locs hS
  · refine wr_callUi hC (c_X4_tells l g ad F A E tl t q k 2 i v lt cl r x hq (by decide) (by omega) _) mu_X1_X4_tells hlink (hR.le (by decide)) hcs hK hS hrv (As := [.int (iI x)]) rfl hsz rfl hW hdg (fun v2 w H locs hp hS => ?_)
    obtain ⟨hv2, hp⟩ := hp
    rw [hp] at hS
    rw [hv2]
    exact kk H locs hS
  · refine wr_callUi hC (c_X9_tells l g ad F A E tl t q k 3 i v lt cl r x hq (by decide) (by omega) _) mu_X9_X4_tells hlink (hR.le (by decide)) hcs hK hS hrv (As := [.int (iI x)]) rfl hsz rfl hW hdg (fun v2 w H locs hp hS => ?_)
    obtain ⟨hv2, hp⟩ := hp
    rw [hp] at hS
    rw [hv2]
    exact kk H locs hS
  · refine wr_callUi hC (c_X0_tells l g ad F A E tl t q k i v lt cl r x hq (by decide) (by omega) _) mu_X0_X4_tells hlink (hR.le (by decide)) hcs hK hS hrv (As := [.int (iI x)]) rfl hsz rfl hW hdg (fun v2 w H locs hp hS => ?_)
    obtain ⟨hv2, hp⟩ := hp
    rw [hp] at hS
    rw [hv2]
    exact kk H locs hS
  · refine wr_callUi hC (c_X4_tells l g ad F A E tl t q k 5 i v lt cl r x hq (by decide) (by omega) _) mu_X2_X4_tells hlink (hR.le (by decide)) hcs hK hS hrv (As := [.int (iI x)]) rfl hsz rfl hW hdg (fun v2 w H locs hp hS => ?_)
    obtain ⟨hv2, hp⟩ := hp
    rw [hp] at hS
    rw [hv2]
    exact kk H locs hS
  · refine wr_callUi hC (c_X9_tells l g ad F A E tl t q k 6 i v lt cl r x hq (by decide) (by omega) _) mu_X10_X4_tells hlink (hR.le (by decide)) hcs hK hS hrv (As := [.int (iI x)]) rfl hsz rfl hW hdg (fun v2 w H locs hp hS => ?_)
    obtain ⟨hv2, hp⟩ := hp
    rw [hp] at hS
    rw [hv2]
    exact kk H locs hS
