set_option maxHeartbeats 4000000 in
set_option maxRecDepth 100000 in
theorem c_X11_feed (l : Launch) (g : GG) (ad : Nat → Nat) (F : Nat → Int) (A : Nat → Nat → Int) (E : Nat → Nat) (tl : va_W) (S : Nat → Int) (nm : Nat → Nat) (hSh : ShW g ad F A E tl S nm) (hI : InvD S) (x : Int) (hx : rng x) (hH : InvH S) (h5 : 0 ≤ S 5 ∧ S 5 ≤ 100) (h2 : 0 ≤ S 2 ∧ S 2 ≤ 5) (h3 : 0 ≤ S 3 ∧ S 3 ≤ 8) (h4 : 0 ≤ S 4 ∧ S 4 ≤ 8) (sz : Nat) : MwrI l g yX11_feed cX11_feed 2 9 0 0 [.ref (ad 0), .int (iI x)] sz (CW g ad F A E tl) (fun v w => v = iI (feedR S x) ∧ ∃ F2 A2, w = CW g ad F2 A2 E tl ∧ KpS F F2 A A2 ∧ ShW g ad F2 A2 E tl (feedS S x) nm) := by
  refine wr_startI (own := RX11) (by decide) rfl (Nat.le_of_ble_eq_true rfl) ?_
  intro Pg Ev s Mi args below Mt Cd ls Q Aw hC hK hS hnm hl hQ
  have hSh0 := hSh
  obtain ⟨hTp, hCd, hNs, hWh, hRw, hSn, hPl, hBk, hMp⟩ := hSh0
  have hNm := hNs.2.2
  have hD0 := hI.1
  have hNs0 := hNs.1
  have e4 := hTp.1
  have e13 := hSn.1
  have e15 := hPl.1
  have e17 := hBk.1
  have hl : lv_has ls 2 [(0, .ref (ad 0)), (1, .int (iI x))] := hl
  obtain ⟨H, hH⟩ : ∃ H, H = s.heap := ⟨_, rfl⟩
  obtain ⟨locs, hlo⟩ : ∃ locs : List Loc, locs = [] := ⟨_, rfl⟩
  have hS : St g Aw s.heap H locs (CW g ad F A E tl) := by rw [hH, hlo]; exact hS
  have goal : W Pg l Ev (rmC 9 0 0) s Mi args below Mt Cd H locs 0 0 Q (F0 Mi 0 ls []) := ?goal
  · rw [hH, hlo] at goal; exact goal
  clear hH hlo
  refine li_iload_n hC hl 1 rfl dX11_feed_0 ?_
  refine li_if_lt (tgt := 10) hC (by decide) hx dX11_feed_1 (fun c1 => ?_) (fun c1 => ?_)
  · refine li_bipush hC (z := -2) rfl dX11_feed_10 ?_
    exact hQ _ _ _ _ _ _ _ _ dX11_feed_12 hS (by omega) (by omega) (⟨iI_inj (by unfold feedR; rw [iteP_f (by omega)]), F, A, rfl, (KpS.rf _ _), (by unfold feedS; rw [iteP_f (by omega)]; exact hSh)⟩)
  · refine li_iload_n hC hl 1 rfl dX11_feed_4 ?_
    refine li_bipush hC (z := 127) rfl dX11_feed_5 ?_
    refine li_icmp_le (tgt := 13) hC (by decide) hx (rg (by decide) (by decide)) dX11_feed_7 (fun c2 => ?_) (fun c2 => ?_)
    · refine li_aload_n hC hl 0 rfl dX11_feed_13 ?_
      refine li_get hC hK.1 ck_X11 (hS.1 0 _ rfl) 1 (by decide) fl_X11_23 rfl (v := .ref (ad 3)) rfl dX11_feed_14 ?_
      refine li_get hC hK.1 ck_X8 (hS.1 3 _ rfl) 0 (by decide) fl_X11_32 rfl (v := .ref (ad 4)) rfl dX11_feed_17 ?_
      refine ro_callVi hC (c_X6_size l g (ws := CW g ad F A E tl) (i := 4) (j := 5) (a := (ad 4)) (b := (ad 5)) (n := 100) (f := (A 5)) (sz := F 4) rfl rfl (Nat.le_of_ble_eq_true rfl)) mk_X6_size ml_X11_51 (rr (by decide)) ⟨Nat.zero_le _, Nat.zero_le _⟩ hK.1 (hS.ro hK) hS.1 (li_recv hK.1 ck_X6 (hS.1 4 _ rfl)) rfl hl.1 rfl (Nat.le_of_ble_eq_true rfl) dX11_feed_20 ?_
      rw [show F 4 = S 5 from hTp.1]
      refine li_bipush hC (z := 100) rfl dX11_feed_23 ?_
      refine li_icmp_lt (tgt := 31) hC (by decide) (rg (by omega) (by omega)) (rg (by decide) (by decide)) dX11_feed_25 (fun c3 => ?_) (fun c3 => ?_)
      · refine li_aload_n hC hl 0 rfl dX11_feed_31 ?_
        refine li_get hC hK.1 ck_X11 (hS.1 0 _ rfl) 1 (by decide) fl_X11_23 rfl (v := .ref (ad 3)) rfl dX11_feed_32 ?_
        refine li_get hC hK.1 ck_X8 (hS.1 3 _ rfl) 0 (by decide) fl_X11_32 rfl (v := .ref (ad 4)) rfl dX11_feed_35 ?_
        refine li_iload_n hC hl 1 rfl dX11_feed_38 ?_
        refine wr_callVv hC (c_X6_add l g (ws := CW g ad F A E tl) (i := 4) (j := 5) (a := (ad 4)) (b := (ad 5)) (n := 100) (f := (A 5)) (sz := F 4) rfl rfl (Nat.le_of_ble_eq_true rfl) (v := x) ⟨by omega, by omega⟩ (by decide) (ws2 := CW g ad (va_up F 4 ((F 4) + 1)) (va_up A 5 (va_up (A 5) ((F 4).toNat) x)) E tl) rfl _) mk_X6_add ml_X11_55 (rr (by decide)) ⟨by simp only [rmC]; omega, by simp only [rmC]; omega⟩ hK hS (li_recv hK.1 ck_X6 (hS.1 4 _ rfl)) rfl hl.1 rfl (Nat.le_of_ble_eq_true rfl) dX11_feed_39 (fun w H locs hp hS => ?_)
        subst hp
        refine li_aload_n hC hl 0 rfl dX11_feed_42 ?_
        refine li_get hC hK.1 ck_X11 (hS.1 0 _ rfl) 1 (by decide) fl_X11_23 rfl (v := .ref (ad 3)) rfl dX11_feed_43 ?_
        refine li_get hC hK.1 ck_X8 (hS.1 3 _ rfl) 0 (by decide) fl_X11_32 rfl (v := .ref (ad 4)) rfl dX11_feed_46 ?_
        refine ro_callVi hC (c_X6_size l g (ws := CW g ad (va_up F 4 ((F 4) + 1)) (va_up A 5 (va_up (A 5) ((F 4).toNat) x)) E tl) (i := 4) (j := 5) (a := (ad 4)) (b := (ad 5)) (n := 100) (f := va_up (A 5) ((F 4).toNat) x) (sz := (F 4) + 1) rfl rfl (Nat.le_of_ble_eq_true rfl)) mk_X6_size ml_X11_51 (rr (by decide)) ⟨Nat.zero_le _, Nat.zero_le _⟩ hK.1 (hS.ro hK) hS.1 (li_recv hK.1 ck_X6 (hS.1 4 _ rfl)) rfl hl.1 rfl (Nat.le_of_ble_eq_true rfl) dX11_feed_49 ?_
        exact hQ _ _ _ _ _ _ _ _ dX11_feed_52 hS (by omega) (by omega) (⟨iI_inj (by unfold feedR; rw [iteP_t (by omega), iteP_f (by omega)]; omega), (va_up F 4 ((F 4) + 1)), (va_up A 5 (va_up (A 5) ((F 4).toNat) x)), rfl, ⟨fun k hk => (by first | rfl | (repeat rw [up_ne _ _ (by omega)])), fun k hk => (by first | rfl | (repeat rw [up_ne _ _ (by omega)]))⟩, (by unfold feedS; rw [iteP_t (by omega)]; unfold ShW ShP; exact ⟨(by refine ⟨by show F 4 + 1 = _; rw [up_same]; omega, fun i h0 h1 => ?_⟩; rw [up_same] at h1; unfold tapS; rw [up_ne _ _ (show (124 + i).toNat ≠ 5 by omega)]; rcases (show i < S 5 ∨ i = S 5 by omega) with q | q; { rw [up_ne _ _ (show (124 + i).toNat ≠ (124 + S 5).toNat by omega)]; show va_up (A 5) (F 4).toNat x i.toNat = _; rw [up_ne _ _ (by omega)]; exact hTp.2 i h0 q }; { rw [q]; show va_up (A 5) (F 4).toNat x (S 5).toNat = _; rw [e4, up_same, up_same] }), (sh2 (fun j hj => by (repeat rw [up_ne _ _ (by omega)])) hH hCd), (sh3 (fun j hj => by (repeat rw [up_ne _ _ (by omega)])) hD0 hNs), (sh4 (fun j hj => by (repeat rw [up_ne _ _ (by omega)])) hD0 hWh), (sh5 (fun j hj => by (repeat rw [up_ne _ _ (by omega)])) hRw), (sh6 (fun j hj => by (repeat rw [up_ne _ _ (by omega)])) (by omega) hSn), (sh7 (fun j hj => by (repeat rw [up_ne _ _ (by omega)])) (by omega) hPl), (sh8 (fun j hj => by (repeat rw [up_ne _ _ (by omega)])) (by omega) hBk), (sh9 (by (repeat rw [up_ne _ _ (by omega)])) (fun j hj => by (repeat rw [up_ne _ _ (by omega)])) hH hMp)⟩)⟩)
      · refine li_bipush hC (z := -4) rfl dX11_feed_28 ?_
        exact hQ _ _ _ _ _ _ _ _ dX11_feed_30 hS (by omega) (by omega) (⟨iI_inj (by unfold feedR; rw [iteP_t (by omega), iteP_t (by omega)]), F, A, rfl, (KpS.rf _ _), (by unfold feedS; rw [iteP_f (by omega)]; exact hSh)⟩)
    · refine li_bipush hC (z := -2) rfl dX11_feed_10 ?_
      exact hQ _ _ _ _ _ _ _ _ dX11_feed_12 hS (by omega) (by omega) (⟨iI_inj (by unfold feedR; rw [iteP_f (by omega)]), F, A, rfl, (KpS.rf _ _), (by unfold feedS; rw [iteP_f (by omega)]; exact hSh)⟩)
set_option maxHeartbeats 4000000 in
set_option maxRecDepth 100000 in
theorem c_X11_row (l : Launch) (g : GG) (ad : Nat → Nat) (F : Nat → Int) (A : Nat → Nat → Int) (E : Nat → Nat) (tl : va_W) (S : Nat → Int) (nm : Nat → Nat) (hSh : ShW g ad F A E tl S nm) (hI : InvD S) (n : Int) (k : Int) (v0 : Int) (hn : rng n) (hk : rng k) (hv0 : rng v0) (hH : InvH S) (h5 : 0 ≤ S 5 ∧ S 5 ≤ 100) (h2 : 0 ≤ S 2 ∧ S 2 ≤ 5) (h3 : 0 ≤ S 3 ∧ S 3 ≤ 8) (h4 : 0 ≤ S 4 ∧ S 4 ≤ 8) (sz : Nat) : MwrI l g yX11_row cX11_row 5 9 0 0 [.ref (ad 0), .int (iI n), .int (iI k), .int (iI v0)] sz (CW g ad F A E tl) (fun v w => v = iI (rowFR S n k v0) ∧ ∃ F2 A2, w = CW g ad F2 A2 E tl ∧ KpS F F2 A A2 ∧ ShW g ad F2 A2 E tl (rowFS S n k v0) nm) := by
  refine wr_startI (own := RX11) (by decide) rfl (Nat.le_of_ble_eq_true rfl) ?_
  intro Pg Ev s Mi args below Mt Cd ls Q Aw hC hK hS hnm hl hQ
  have hSh0 := hSh
  obtain ⟨hTp, hCd, hNs, hWh, hRw, hSn, hPl, hBk, hMp⟩ := hSh0
  have hNm := hNs.2.2
  have hD0 := hI.1
  have hNs0 := hNs.1
  have e4 := hTp.1
  have e13 := hSn.1
  have e15 := hPl.1
  have e17 := hBk.1
  have hl : lv_has ls 5 [(0, .ref (ad 0)), (1, .int (iI n)), (2, .int (iI k)), (3, .int (iI v0))] := hl
  obtain ⟨H, hH⟩ : ∃ H, H = s.heap := ⟨_, rfl⟩
  obtain ⟨locs, hlo⟩ : ∃ locs : List Loc, locs = [] := ⟨_, rfl⟩
  have hS : St g Aw s.heap H locs (CW g ad F A E tl) := by rw [hH, hlo]; exact hS
  have goal : W Pg l Ev (rmC 9 0 0) s Mi args below Mt Cd H locs 0 0 Q (F0 Mi 0 ls []) := ?goal
  · rw [hH, hlo] at goal; exact goal
  clear hH hlo
  refine li_aload_n hC hl 0 rfl dX11_row_0 ?_
  refine li_get hC hK.1 ck_X11 (hS.1 0 _ rfl) 1 (by decide) fl_X11_23 rfl (v := .ref (ad 3)) rfl dX11_row_1 ?_
  refine li_iload_n hC hl 1 rfl dX11_row_4 ?_
  refine ro_callVi hC (c_X8_has l g ad F A E tl S nm hSh hI n hn) mk_X8_has ml_X11_151 (rr (by decide)) ⟨Nat.le_of_ble_eq_true rfl, Nat.le_of_ble_eq_true rfl⟩ hK.1 (hS.ro hK) hS.1 (li_recv hK.1 ck_X8 (hS.1 3 _ rfl)) rfl hl.1 rfl (Nat.le_of_ble_eq_true rfl) dX11_row_5 ?_
  refine li_ifeq_b (tgt := 18) hC (by decide) dX11_row_8 (fun c1 => ?_) (fun c1 => ?_)
  · refine li_iconst hC dX11_row_18 ?_
    exact hQ _ _ _ _ _ _ _ _ dX11_row_19 hS (by omega) (by omega) (⟨iI_inj (by unfold rowFR; rw [iteP_f (by omega)]), F, A, rfl, (KpS.rf _ _), (by unfold rowFS; rw [iteP_f (by omega)]; exact hSh)⟩)
  · refine li_iload_n hC hl 2 rfl dX11_row_11 ?_
    refine ro_callSi hC (c_X11_isPlace l g k hk) mk_X11_isPlace ml_X11_155 (rr (by decide)) ⟨Nat.le_of_ble_eq_true rfl, Nat.le_of_ble_eq_true rfl⟩ hK.1 (hS.ro hK) trivial rfl hl.1 rfl (Nat.le_of_ble_eq_true rfl) dX11_row_12 ?_
    refine li_ifne_b (tgt := 20) hC (by decide) dX11_row_15 (fun c2 => ?_) (fun c2 => ?_)
    · refine li_iload_n hC hl 3 rfl dX11_row_20 ?_
      refine li_if_lt (tgt := 30) hC (by decide) hv0 dX11_row_21 (fun c3 => ?_) (fun c3 => ?_)
      · refine li_bipush hC (z := -2) rfl dX11_row_30 ?_
        exact hQ _ _ _ _ _ _ _ _ dX11_row_32 hS (by omega) (by omega) (⟨iI_inj (by unfold rowFR; rw [iteP_t (by omega), iteP_f (by omega)]), F, A, rfl, (KpS.rf _ _), (by unfold rowFS; rw [iteP_f (by omega)]; exact hSh)⟩)
      · refine li_iload_n hC hl 3 rfl dX11_row_24 ?_
        refine li_bipush hC (z := 9) rfl dX11_row_25 ?_
        refine li_icmp_le (tgt := 33) hC (by decide) hv0 (rg (by decide) (by decide)) dX11_row_27 (fun c4 => ?_) (fun c4 => ?_)
        · refine li_aload_n hC hl 0 rfl dX11_row_33 ?_
          refine li_get hC hK.1 ck_X11 (hS.1 0 _ rfl) 1 (by decide) fl_X11_23 rfl (v := .ref (ad 3)) rfl dX11_row_34 ?_
          refine li_iload_n hC hl 1 rfl dX11_row_37 ?_
          refine ro_callVq hC (c_X8_name l g ad F A E tl S nm hSh hI n hn) mk_X8_name ml_X11_106 (rr (by decide)) ⟨Nat.zero_le _, Nat.zero_le _⟩ hK.1 (hS.ro hK) hS.1 (li_recv hK.1 ck_X8 (hS.1 3 _ rfl)) rfl hl.1 rfl (Nat.le_of_ble_eq_true rfl) dX11_row_38 ?_
          rw [iteP_t (by omega), show va_rf (some (nm n.toNat)) = .ref (nm n.toNat) from rfl]
          have q6 := hI.2 n (by omega) (by omega)
          refine li_inst6 hC hK.1 (nm_at hS.1 hNm hI (i := n) (by omega)) cl_X11_158 dX11_row_41 ?_
          refine li_ifne_b (tgt := 50) hC (by decide) dX11_row_44 (fun c7 => ?_) (fun c7 => ?_)
          · refine li_aload_n hC hl 0 rfl dX11_row_50 ?_
            refine li_get hC hK.1 ck_X11 (hS.1 0 _ rfl) 1 (by decide) fl_X11_23 rfl (v := .ref (ad 3)) rfl dX11_row_51 ?_
            refine li_get hC hK.1 ck_X8 (hS.1 3 _ rfl) 4 (by decide) fl_X11_160 rfl (v := .ref (ad 11)) rfl dX11_row_54 ?_
            refine li_iload_n hC hl 1 rfl dX11_row_57 ?_
            refine li_iconst hC dX11_row_58 ?_
            refine li_imul hC dX11_row_59 ?_
            refine li_iload_n hC hl 2 rfl dX11_row_60 ?_
            refine li_iadd hC dX11_row_61 ?_
            refine ro_callVi hC (c_X6_get l g (ws := CW g ad F A E tl) (i := 11) (j := 12) (a := (ad 11)) (b := (ad 12)) (n := 28) (f := (A 12)) (sz := F 11) rfl rfl (Nat.le_of_ble_eq_true rfl) (k := (n * 4) + k) ⟨by omega, by omega⟩) mk_X6_get ml_X11_131 (rr (by decide)) ⟨Nat.zero_le _, Nat.zero_le _⟩ hK.1 (hS.ro hK) hS.1 (li_recv hK.1 ck_X6 (hS.1 11 _ rfl)) rfl hl.1 rfl (Nat.le_of_ble_eq_true rfl) dX11_row_62 ?_
            rw [hRw n k (by omega) (by omega) (by omega) (by omega), if_pos (by omega)]
            refine li_istore hC (lv' := [(4, .int (iI (S ((49 + (4 * n)) + k).toNat))), (0, .ref (ad 0)), (1, .int (iI n)), (2, .int (iI k)), (3, .int (iI v0))]) hl (by decide) rfl dX11_row_65 (fun ls hl => ?_)
            refine li_aload_n hC hl 1 rfl dX11_row_67 ?_
            refine li_get hC hK.1 ck_X11 (hS.1 0 _ rfl) 1 (by decide) fl_X11_23 rfl (v := .ref (ad 3)) rfl dX11_row_68 ?_
            refine li_get hC hK.1 ck_X8 (hS.1 3 _ rfl) 4 (by decide) fl_X11_160 rfl (v := .ref (ad 11)) rfl dX11_row_71 ?_
            refine li_iload_n hC hl 2 rfl dX11_row_74 ?_
            refine li_iconst hC dX11_row_75 ?_
            refine li_imul hC dX11_row_76 ?_
            refine li_iload_n hC hl 3 rfl dX11_row_77 ?_
            refine li_iadd hC dX11_row_78 ?_
            refine li_iload_n hC hl 4 rfl dX11_row_79 ?_
            refine wr_callVv hC (c_X6_set l g (ws := CW g ad F A E tl) (i := 11) (j := 12) (a := (ad 11)) (b := (ad 12)) (n := 28) (f := (A 12)) (sz := F 11) rfl rfl (Nat.le_of_ble_eq_true rfl) (k := (n * 4) + k) (v := v0) ⟨by omega, by omega⟩ (ws2 := CW g ad F (va_up A 12 (va_up (A 12) (((n * 4) + k).toNat) v0)) E tl) rfl _) mk_X6_set ml_X11_102 (rr (by decide)) ⟨by simp only [rmC]; omega, by simp only [rmC]; omega⟩ hK hS (li_recv hK.1 ck_X6 (hS.1 11 _ rfl)) rfl hl.1 rfl (Nat.le_of_ble_eq_true rfl) dX11_row_80 (fun w H locs hp hS => ?_)
            subst hp
            refine li_iload hC hl 0 rfl dX11_row_83 ?_
            exact hQ _ _ _ _ _ _ _ _ dX11_row_85 hS (by omega) (by omega) (⟨iI_inj (by unfold rowFR; rw [iteP_t (by omega), iteP_t (by omega), iteP_t (by omega)]), F, (va_up A 12 (va_up (A 12) (((n * 4) + k).toNat) v0)), rfl, ⟨fun k hk => (by first | rfl | (repeat rw [up_ne _ _ (by omega)])), fun k hk => (by first | rfl | (repeat rw [up_ne _ _ (by omega)]))⟩, (by unfold rowFS; rw [iteP_t (by omega)]; unfold ShW ShP; exact ⟨(sh1 (fun j hj => by (repeat rw [up_ne _ _ (by omega)])) (by omega) hTp), (sh2 (fun j hj => by (repeat rw [up_ne _ _ (by omega)])) hH hCd), (sh3 (fun j hj => by (repeat rw [up_ne _ _ (by omega)])) hD0 hNs), (sh4 (fun j hj => by (repeat rw [up_ne _ _ (by omega)])) hD0 hWh), (by intro i p h0 h1 h2 h3; rw [up_ne _ _ (show 0 ≠ (49 + 4 * n + k).toNat by omega)]; show va_up (A 12) ((n * 4) + k).toNat v0 ((i * 4) + p).toNat = _; rcases (show (i = n ∧ p = k) ∨ ¬ (i = n ∧ p = k) by omega) with q | q; { rw [q.1, q.2, up_same, up_same, if_pos (by omega)] }; { rw [up_ne _ _ (show ((i * 4) + p).toNat ≠ ((n * 4) + k).toNat by omega), hRw i p h0 h1 h2 h3]; split; { rw [up_ne _ _ (by omega)] }; { rfl } }), (sh6 (fun j hj => by (repeat rw [up_ne _ _ (by omega)])) (by omega) hSn), (sh7 (fun j hj => by (repeat rw [up_ne _ _ (by omega)])) (by omega) hPl), (sh8 (fun j hj => by (repeat rw [up_ne _ _ (by omega)])) (by omega) hBk), (sh9 (by (repeat rw [up_ne _ _ (by omega)])) (fun j hj => by (repeat rw [up_ne _ _ (by omega)])) hH hMp)⟩)⟩)
          · refine li_bipush hC (z := -3) rfl dX11_row_47 ?_
            exact hQ _ _ _ _ _ _ _ _ dX11_row_49 hS (by omega) (by omega) (⟨iI_inj (by unfold rowFR; rw [iteP_t (by omega), iteP_t (by omega), iteP_f (by omega)]), F, A, rfl, (KpS.rf _ _), (by unfold rowFS; rw [iteP_f (by omega)]; exact hSh)⟩)
        · refine li_bipush hC (z := -2) rfl dX11_row_30 ?_
          exact hQ _ _ _ _ _ _ _ _ dX11_row_32 hS (by omega) (by omega) (⟨iI_inj (by unfold rowFR; rw [iteP_t (by omega), iteP_f (by omega)]), F, A, rfl, (KpS.rf _ _), (by unfold rowFS; rw [iteP_f (by omega)]; exact hSh)⟩)
    · refine li_iconst hC dX11_row_18 ?_
      exact hQ _ _ _ _ _ _ _ _ dX11_row_19 hS (by omega) (by omega) (⟨iI_inj (by unfold rowFR; rw [iteP_f (by omega)]), F, A, rfl, (KpS.rf _ _), (by unfold rowFS; rw [iteP_f (by omega)]; exact hSh)⟩)
set_option maxHeartbeats 4000000 in
set_option maxRecDepth 100000 in
theorem c_X11_put (l : Launch) (g : GG) (ad : Nat → Nat) (F : Nat → Int) (A : Nat → Nat → Int) (E : Nat → Nat) (tl : va_W) (S : Nat → Int) (nm : Nat → Nat) (hSh : ShW g ad F A E tl S nm) (hI : InvD S) (n : Int) (p : Int) (hn : 0 ≤ n ∧ n < S 0) (hp0 : 0 ≤ p ∧ p ≤ 4) (sz : Nat) : MwrI l g yX11_put cX11_put 4 8 0 0 [.ref (ad 0), .int (iI n), .int (iI p)] sz (CW g ad F A E tl) (fun v w => v = iI (orN (S (42 + n).toNat)) ∧ w = CW g ad F (va_up A 10 (va_up (A 10) n.toNat p)) E tl) := by
  refine wr_startI (own := RX11) (by decide) rfl (Nat.le_of_ble_eq_true rfl) ?_
  intro Pg Ev s Mi args below Mt Cd ls Q Aw hC hK hS hnm hl hQ
  have hSh0 := hSh
  obtain ⟨hTp, hCd, hNs, hWh, hRw, hSn, hPl, hBk, hMp⟩ := hSh0
  have hNm := hNs.2.2
  have hD0 := hI.1
  have hNs0 := hNs.1
  have hl : lv_has ls 4 [(0, .ref (ad 0)), (1, .int (iI n)), (2, .int (iI p))] := hl
  obtain ⟨H, hH⟩ : ∃ H, H = s.heap := ⟨_, rfl⟩
  obtain ⟨locs, hlo⟩ : ∃ locs : List Loc, locs = [] := ⟨_, rfl⟩
  have hS : St g Aw s.heap H locs (CW g ad F A E tl) := by rw [hH, hlo]; exact hS
  have goal : W Pg l Ev (rmC 8 0 0) s Mi args below Mt Cd H locs 0 0 Q (F0 Mi 0 ls []) := ?goal
  · rw [hH, hlo] at goal; exact goal
  clear hH hlo
  refine li_aload_n hC hl 0 rfl dX11_put_0 ?_
  refine li_get hC hK.1 ck_X11 (hS.1 0 _ rfl) 1 (by decide) fl_X11_23 rfl (v := .ref (ad 3)) rfl dX11_put_1 ?_
  refine li_get hC hK.1 ck_X8 (hS.1 3 _ rfl) 3 (by decide) fl_X11_99 rfl (v := .ref (ad 9)) rfl dX11_put_4 ?_
  refine li_iload_n hC hl 1 rfl dX11_put_7 ?_
  refine ro_callVi hC (c_X6_get l g (ws := CW g ad F A E tl) (i := 9) (j := 10) (a := (ad 9)) (b := (ad 10)) (n := 7) (f := (A 10)) (sz := F 9) rfl rfl (Nat.le_of_ble_eq_true rfl) (k := n) ⟨by omega, by omega⟩) mk_X6_get ml_X11_131 (rr (by decide)) ⟨Nat.zero_le _, Nat.zero_le _⟩ hK.1 (hS.ro hK) hS.1 (li_recv hK.1 ck_X6 (hS.1 9 _ rfl)) rfl hl.1 rfl (Nat.le_of_ble_eq_true rfl) dX11_put_8 ?_
  rw [hWh n (by omega) (by omega)]
  have q1 := hI.2 n (by omega) (by omega)
  refine li_istore_n hC (lv' := [(3, .int (iI (S (42 + n).toNat))), (0, .ref (ad 0)), (1, .int (iI n)), (2, .int (iI p))]) hl (by decide) rfl dX11_put_11 (fun ls hl => ?_)
  refine li_aload_n hC hl 1 rfl dX11_put_12 ?_
  refine li_get hC hK.1 ck_X11 (hS.1 0 _ rfl) 1 (by decide) fl_X11_23 rfl (v := .ref (ad 3)) rfl dX11_put_13 ?_
  refine li_get hC hK.1 ck_X8 (hS.1 3 _ rfl) 3 (by decide) fl_X11_99 rfl (v := .ref (ad 9)) rfl dX11_put_16 ?_
  refine li_iload_n hC hl 2 rfl dX11_put_19 ?_
  refine li_iload_n hC hl 3 rfl dX11_put_20 ?_
  refine wr_callVv hC (c_X6_set l g (ws := CW g ad F A E tl) (i := 9) (j := 10) (a := (ad 9)) (b := (ad 10)) (n := 7) (f := (A 10)) (sz := F 9) rfl rfl (Nat.le_of_ble_eq_true rfl) (k := n) (v := p) ⟨by omega, by omega⟩ (ws2 := CW g ad F (va_up A 10 (va_up (A 10) n.toNat p)) E tl) rfl _) mk_X6_set ml_X11_102 (rr (by decide)) ⟨by simp only [rmC]; omega, by simp only [rmC]; omega⟩ hK hS (li_recv hK.1 ck_X6 (hS.1 9 _ rfl)) rfl hl.1 rfl (Nat.le_of_ble_eq_true rfl) dX11_put_21 (fun w H locs hp hS => ?_)
  subst hp
  refine li_iload_n hC hl 0 rfl dX11_put_24 ?_
  refine ro_callSi hC (c_X11_outward l g (S (42 + n).toNat) (rg (by omega) (by omega))) mk_X11_outward ml_X11_134 (rr (by decide)) ⟨Nat.le_of_ble_eq_true rfl, Nat.le_of_ble_eq_true rfl⟩ hK.1 (hS.ro hK) trivial rfl hl.1 rfl (Nat.le_of_ble_eq_true rfl) dX11_put_25 ?_
  have q2 : -5 ≤ orN (S (42 + n).toNat) ∧ orN (S (42 + n).toNat) ≤ 3 := orN_rng (by omega)
  exact hQ _ _ _ _ _ _ _ _ dX11_put_28 hS (by omega) (by omega) (⟨rfl, rfl⟩)
set_option maxHeartbeats 4000000 in
set_option maxRecDepth 100000 in
theorem c_X11_lay (l : Launch) (g : GG) (ad : Nat → Nat) (F : Nat → Int) (A : Nat → Nat → Int) (E : Nat → Nat) (tl : va_W) (S : Nat → Int) (nm : Nat → Nat) (hSh : ShW g ad F A E tl S nm) (hI : InvD S) (n : Int) (p : Int) (hn : rng n) (hp : rng p) (hH : InvH S) (h5 : 0 ≤ S 5 ∧ S 5 ≤ 100) (h2 : 0 ≤ S 2 ∧ S 2 ≤ 5) (h3 : 0 ≤ S 3 ∧ S 3 ≤ 8) (h4 : 0 ≤ S 4 ∧ S 4 ≤ 8) (sz : Nat) : MwrI l g yX11_lay cX11_lay 3 9 0 0 [.ref (ad 0), .int (iI n), .int (iI p)] sz (CW g ad F A E tl) (fun v w => v = iI (layR S n p) ∧ ∃ F2 A2, w = CW g ad F2 A2 E tl ∧ KpS F F2 A A2 ∧ ShW g ad F2 A2 E tl (layS S n p) nm) := by
  refine wr_startI (own := RX11) (by decide) rfl (Nat.le_of_ble_eq_true rfl) ?_
  intro Pg Ev s Mi args below Mt Cd ls Q Aw hC hK hS hnm hl hQ
  have hSh0 := hSh
  obtain ⟨hTp, hCd, hNs, hWh, hRw, hSn, hPl, hBk, hMp⟩ := hSh0
  have hNm := hNs.2.2
  have hD0 := hI.1
  have hNs0 := hNs.1
  have e4 := hTp.1
  have e13 := hSn.1
  have e15 := hPl.1
  have e17 := hBk.1
  have hl : lv_has ls 3 [(0, .ref (ad 0)), (1, .int (iI n)), (2, .int (iI p))] := hl
  obtain ⟨H, hH⟩ : ∃ H, H = s.heap := ⟨_, rfl⟩
  obtain ⟨locs, hlo⟩ : ∃ locs : List Loc, locs = [] := ⟨_, rfl⟩
  have hS : St g Aw s.heap H locs (CW g ad F A E tl) := by rw [hH, hlo]; exact hS
  have goal : W Pg l Ev (rmC 9 0 0) s Mi args below Mt Cd H locs 0 0 Q (F0 Mi 0 ls []) := ?goal
  · rw [hH, hlo] at goal; exact goal
  clear hH hlo
  refine li_aload_n hC hl 0 rfl dX11_lay_0 ?_
  refine li_get hC hK.1 ck_X11 (hS.1 0 _ rfl) 1 (by decide) fl_X11_23 rfl (v := .ref (ad 3)) rfl dX11_lay_1 ?_
  refine li_iload_n hC hl 1 rfl dX11_lay_4 ?_
  refine ro_callVi hC (c_X8_has l g ad F A E tl S nm hSh hI n hn) mk_X8_has ml_X11_151 (rr (by decide)) ⟨Nat.le_of_ble_eq_true rfl, Nat.le_of_ble_eq_true rfl⟩ hK.1 (hS.ro hK) hS.1 (li_recv hK.1 ck_X8 (hS.1 3 _ rfl)) rfl hl.1 rfl (Nat.le_of_ble_eq_true rfl) dX11_lay_5 ?_
  refine li_ifeq_b (tgt := 18) hC (by decide) dX11_lay_8 (fun c1 => ?_) (fun c1 => ?_)
  · refine li_iconst hC dX11_lay_18 ?_
    exact hQ _ _ _ _ _ _ _ _ dX11_lay_19 hS (by omega) (by omega) (⟨iI_inj (by unfold layR; rw [iteP_f (by omega)]), F, A, rfl, (KpS.rf _ _), (by unfold layS; rw [iteP_f (fun h9 => by have a1 := h9.1; have a2 := h9.2.1; omega)]; exact hSh)⟩)
  · refine li_iload_n hC hl 2 rfl dX11_lay_11 ?_
    refine ro_callSi hC (c_X11_isPlace l g p hp) mk_X11_isPlace ml_X11_155 (rr (by decide)) ⟨Nat.le_of_ble_eq_true rfl, Nat.le_of_ble_eq_true rfl⟩ hK.1 (hS.ro hK) trivial rfl hl.1 rfl (Nat.le_of_ble_eq_true rfl) dX11_lay_12 ?_
    refine li_ifne_b (tgt := 20) hC (by decide) dX11_lay_15 (fun c2 => ?_) (fun c2 => ?_)
    · refine li_aload_n hC hl 0 rfl dX11_lay_20 ?_
      refine li_get hC hK.1 ck_X11 (hS.1 0 _ rfl) 1 (by decide) fl_X11_23 rfl (v := .ref (ad 3)) rfl dX11_lay_21 ?_
      refine li_iload_n hC hl 1 rfl dX11_lay_24 ?_
      refine li_aload_n hC hl 0 rfl dX11_lay_25 ?_
      refine li_get hC hK.1 ck_X11 (hS.1 0 _ rfl) 1 (by decide) fl_X11_23 rfl (v := .ref (ad 3)) rfl dX11_lay_26 ?_
      refine li_get hC hK.1 ck_X8 (hS.1 3 _ rfl) 3 (by decide) fl_X11_99 rfl (v := .ref (ad 9)) rfl dX11_lay_29 ?_
      refine ro_callVi hC (c_X8_free l g ad F A E tl S nm hSh hI n 9 (fun k => S (42 + k).toNat) (Or.inl rfl) hWh (fun k h0 h1 => (hI.2 k h0 h1).2.2.2.2.2.1) (by omega)) mk_X8_free ml_X11_147 (rr (by decide)) ⟨Nat.le_of_ble_eq_true rfl, Nat.le_of_ble_eq_true rfl⟩ hK.1 (hS.ro hK) hS.1 (li_recv hK.1 ck_X8 (hS.1 3 _ rfl)) rfl hl.1 rfl (Nat.le_of_ble_eq_true rfl) dX11_lay_32 ?_
      refine li_iload_n hC hl 2 rfl dX11_lay_35 ?_
      refine ro_callSi hC (c_X11_hasBit l g (setB (freeW S (fun k => S (42 + k).toNat) n) 4) p) mk_X11_hasBit ml_X11_166 (rr (by decide)) ⟨Nat.le_of_ble_eq_true rfl, Nat.le_of_ble_eq_true rfl⟩ hK.1 (hS.ro hK) trivial rfl hl.1 rfl (Nat.le_of_ble_eq_true rfl) dX11_lay_36 ?_
      refine li_ifne_b (tgt := 45) hC (by decide) dX11_lay_39 (fun c3 => ?_) (fun c3 => ?_)
      · refine li_aload_n hC hl 0 rfl dX11_lay_45 ?_
        refine li_iload_n hC hl 1 rfl dX11_lay_46 ?_
        refine li_iload_n hC hl 2 rfl dX11_lay_47 ?_
        refine wr_callVi hC (c_X11_put l g ad F A E tl S nm hSh hI n p (by omega) (by omega) _) mk_X11_put ml_X11_169 (rr (by decide)) ⟨by simp only [rmC]; omega, by simp only [rmC]; omega⟩ hK hS (li_recv hK.1 ck_X11 (hS.1 0 _ rfl)) rfl hl.1 rfl (Nat.le_of_ble_eq_true rfl) dX11_lay_48 (fun v w H locs hp hS => ?_)
        obtain ⟨hv, hw⟩ := hp
        rw [hw] at hS
        rw [hv]
        exact hQ _ _ _ _ _ _ _ _ dX11_lay_51 hS (by omega) (by omega) (⟨iI_inj (by unfold layR; rw [iteP_t (by omega), iteP_t (show freeS S n p from ((hasB (by decide) (by omega) (by omega)).mp c3).2)]), F, (va_up A 10 (va_up (A 10) n.toNat p)), rfl, ⟨fun k hk => (by first | rfl | (repeat rw [up_ne _ _ (by omega)])), fun k hk => (by first | rfl | (repeat rw [up_ne _ _ (by omega)]))⟩, (by unfold layS; rw [iteP_t ⟨by omega, by omega, (show freeS S n p from ((hasB (by decide) (by omega) (by omega)).mp c3).2)⟩]; unfold ShW ShP; exact ⟨(sh1 (fun j hj => by (repeat rw [up_ne _ _ (by omega)])) (by omega) hTp), (sh2 (fun j hj => by (repeat rw [up_ne _ _ (by omega)])) hH hCd), (sh3 (fun j hj => by (repeat rw [up_ne _ _ (by omega)])) hD0 hNs), (by intro k h0 h1; rw [up_ne _ _ (show 0 ≠ (42 + n).toNat by omega)] at h1; show va_up (A 10) n.toNat p k.toNat = _; rcases (show k = n ∨ k ≠ n by omega) with q | q; { rw [q, up_same, up_same] }; { rw [up_ne _ _ (by omega), up_ne _ _ (by omega)]; exact hWh k h0 h1 }), (sh5 (fun j hj => by (repeat rw [up_ne _ _ (by omega)])) hRw), (sh6 (fun j hj => by (repeat rw [up_ne _ _ (by omega)])) (by omega) hSn), (sh7 (fun j hj => by (repeat rw [up_ne _ _ (by omega)])) (by omega) hPl), (sh8 (fun j hj => by (repeat rw [up_ne _ _ (by omega)])) (by omega) hBk), (sh9 (by (repeat rw [up_ne _ _ (by omega)])) (fun j hj => by (repeat rw [up_ne _ _ (by omega)])) hH hMp)⟩)⟩)
      · refine li_bipush hC (z := -3) rfl dX11_lay_42 ?_
        exact hQ _ _ _ _ _ _ _ _ dX11_lay_44 hS (by omega) (by omega) (⟨iI_inj (by unfold layR; rw [iteP_t (by omega), iteP_f (fun (h9 : freeS S n p) => c3 ((hasB (by decide) (by omega) (by omega)).mpr ⟨by omega, h9⟩))]), F, A, rfl, (KpS.rf _ _), (by unfold layS; rw [iteP_f (fun h9 => (fun (h9 : freeS S n p) => c3 ((hasB (by decide) (by omega) (by omega)).mpr ⟨by omega, h9⟩)) h9.2.2)]; exact hSh)⟩)
    · refine li_iconst hC dX11_lay_18 ?_
      exact hQ _ _ _ _ _ _ _ _ dX11_lay_19 hS (by omega) (by omega) (⟨iI_inj (by unfold layR; rw [iteP_f (by omega)]), F, A, rfl, (KpS.rf _ _), (by unfold layS; rw [iteP_f (fun h9 => by have a1 := h9.1; have a2 := h9.2.1; omega)]; exact hSh)⟩)
set_option maxHeartbeats 4000000 in
set_option maxRecDepth 100000 in
theorem c_X11_lift (l : Launch) (g : GG) (ad : Nat → Nat) (F : Nat → Int) (A : Nat → Nat → Int) (E : Nat → Nat) (tl : va_W) (S : Nat → Int) (nm : Nat → Nat) (hSh : ShW g ad F A E tl S nm) (hI : InvD S) (n : Int) (hn : rng n) (hH : InvH S) (h5 : 0 ≤ S 5 ∧ S 5 ≤ 100) (h2 : 0 ≤ S 2 ∧ S 2 ≤ 5) (h3 : 0 ≤ S 3 ∧ S 3 ≤ 8) (h4 : 0 ≤ S 4 ∧ S 4 ≤ 8) (sz : Nat) : MwrI l g yX11_lift cX11_lift 2 9 0 0 [.ref (ad 0), .int (iI n)] sz (CW g ad F A E tl) (fun v w => v = iI (liftR S n) ∧ ∃ F2 A2, w = CW g ad F2 A2 E tl ∧ KpS F F2 A A2 ∧ ShW g ad F2 A2 E tl (liftS S n) nm) := by
  refine wr_startI (own := RX11) (by decide) rfl (Nat.le_of_ble_eq_true rfl) ?_
  intro Pg Ev s Mi args below Mt Cd ls Q Aw hC hK hS hnm hl hQ
  have hSh0 := hSh
  obtain ⟨hTp, hCd, hNs, hWh, hRw, hSn, hPl, hBk, hMp⟩ := hSh0
  have hNm := hNs.2.2
  have hD0 := hI.1
  have hNs0 := hNs.1
  have e4 := hTp.1
  have e13 := hSn.1
  have e15 := hPl.1
  have e17 := hBk.1
  have hl : lv_has ls 2 [(0, .ref (ad 0)), (1, .int (iI n))] := hl
  obtain ⟨H, hH⟩ : ∃ H, H = s.heap := ⟨_, rfl⟩
  obtain ⟨locs, hlo⟩ : ∃ locs : List Loc, locs = [] := ⟨_, rfl⟩
  have hS : St g Aw s.heap H locs (CW g ad F A E tl) := by rw [hH, hlo]; exact hS
  have goal : W Pg l Ev (rmC 9 0 0) s Mi args below Mt Cd H locs 0 0 Q (F0 Mi 0 ls []) := ?goal
  · rw [hH, hlo] at goal; exact goal
  clear hH hlo
  refine li_aload_n hC hl 0 rfl dX11_lift_0 ?_
  refine li_get hC hK.1 ck_X11 (hS.1 0 _ rfl) 1 (by decide) fl_X11_23 rfl (v := .ref (ad 3)) rfl dX11_lift_1 ?_
  refine li_iload_n hC hl 1 rfl dX11_lift_4 ?_
  refine ro_callVi hC (c_X8_has l g ad F A E tl S nm hSh hI n hn) mk_X8_has ml_X11_151 (rr (by decide)) ⟨Nat.le_of_ble_eq_true rfl, Nat.le_of_ble_eq_true rfl⟩ hK.1 (hS.ro hK) hS.1 (li_recv hK.1 ck_X8 (hS.1 3 _ rfl)) rfl hl.1 rfl (Nat.le_of_ble_eq_true rfl) dX11_lift_5 ?_
  refine li_ifeq_b (tgt := 20) hC (by decide) dX11_lift_8 (fun c1 => ?_) (fun c1 => ?_)
  · refine li_iconst hC dX11_lift_20 ?_
    exact hQ _ _ _ _ _ _ _ _ dX11_lift_21 hS (by omega) (by omega) (⟨iI_inj (by unfold liftR; rw [iteP_f (by omega)]), F, A, rfl, (KpS.rf _ _), (by unfold liftS; rw [iteP_f (by omega)]; exact hSh)⟩)
  · refine li_aload_n hC hl 0 rfl dX11_lift_11 ?_
    refine li_iload_n hC hl 1 rfl dX11_lift_12 ?_
    refine li_iconst hC dX11_lift_13 ?_
    refine wr_callVi hC (c_X11_put l g ad F A E tl S nm hSh hI n 4 (by omega) (by omega) _) mk_X11_put ml_X11_169 (rr (by decide)) ⟨by simp only [rmC]; omega, by simp only [rmC]; omega⟩ hK hS (li_recv hK.1 ck_X11 (hS.1 0 _ rfl)) rfl hl.1 rfl (Nat.le_of_ble_eq_true rfl) dX11_lift_14 (fun v w H locs hp hS => ?_)
    obtain ⟨hv, hw⟩ := hp
    rw [hw] at hS
    rw [hv]
    refine li_goto (tgt := 21) hC (by decide) dX11_lift_17 ?_
    exact hQ _ _ _ _ _ _ _ _ dX11_lift_21 hS (by omega) (by omega) (⟨iI_inj (by unfold liftR; rw [iteP_t (by omega)]), F, (va_up A 10 (va_up (A 10) n.toNat 4)), rfl, ⟨fun k hk => (by first | rfl | (repeat rw [up_ne _ _ (by omega)])), fun k hk => (by first | rfl | (repeat rw [up_ne _ _ (by omega)]))⟩, (by unfold liftS; rw [iteP_t (by omega)]; unfold ShW ShP; exact ⟨(sh1 (fun j hj => by (repeat rw [up_ne _ _ (by omega)])) (by omega) hTp), (sh2 (fun j hj => by (repeat rw [up_ne _ _ (by omega)])) hH hCd), (sh3 (fun j hj => by (repeat rw [up_ne _ _ (by omega)])) hD0 hNs), (by intro k h0 h1; rw [up_ne _ _ (show 0 ≠ (42 + n).toNat by omega)] at h1; show va_up (A 10) n.toNat 4 k.toNat = _; rcases (show k = n ∨ k ≠ n by omega) with q | q; { rw [q, up_same, up_same] }; { rw [up_ne _ _ (by omega), up_ne _ _ (by omega)]; exact hWh k h0 h1 }), (sh5 (fun j hj => by (repeat rw [up_ne _ _ (by omega)])) hRw), (sh6 (fun j hj => by (repeat rw [up_ne _ _ (by omega)])) (by omega) hSn), (sh7 (fun j hj => by (repeat rw [up_ne _ _ (by omega)])) (by omega) hPl), (sh8 (fun j hj => by (repeat rw [up_ne _ _ (by omega)])) (by omega) hBk), (sh9 (by (repeat rw [up_ne _ _ (by omega)])) (fun j hj => by (repeat rw [up_ne _ _ (by omega)])) hH hMp)⟩)⟩)
set_option maxHeartbeats 4000000 in
set_option maxRecDepth 100000 in
theorem c_X11_see (l : Launch) (g : GG) (ad : Nat → Nat) (F : Nat → Int) (A : Nat → Nat → Int) (E : Nat → Nat) (tl : va_W) (S : Nat → Int) (nm : Nat → Nat) (hSh : ShW g ad F A E tl S nm) (hI : InvD S) (c : Int) (r : Int) (z : Int) (hc : rng c) (hr : rng r) (hz : 0 ≤ z ∧ z ≤ 1) (hH : InvH S) (h5 : 0 ≤ S 5 ∧ S 5 ≤ 100) (h2 : 0 ≤ S 2 ∧ S 2 ≤ 5) (h3 : 0 ≤ S 3 ∧ S 3 ≤ 8) (h4 : 0 ≤ S 4 ∧ S 4 ≤ 8) (sz : Nat) : MwrI l g yX11_see cX11_see 4 9 0 0 [.ref (ad 0), .int (iI c), .int (iI r), .int (iI z)] sz (CW g ad F A E tl) (fun v w => v = iI (seeR S c r) ∧ ∃ F2 A2, w = CW g ad F2 A2 E tl ∧ KpS F F2 A A2 ∧ ShW g ad F2 A2 E tl (seeS S c r z) nm) := by
  refine wr_startI (own := RX11) (by decide) rfl (Nat.le_of_ble_eq_true rfl) ?_
  intro Pg Ev s Mi args below Mt Cd ls Q Aw hC hK hS hnm hl hQ
  have hSh0 := hSh
  obtain ⟨hTp, hCd, hNs, hWh, hRw, hSn, hPl, hBk, hMp⟩ := hSh0
  have hNm := hNs.2.2
  have hD0 := hI.1
  have hNs0 := hNs.1
  have e4 := hTp.1
  have e13 := hSn.1
  have e15 := hPl.1
  have e17 := hBk.1
  have hl : lv_has ls 4 [(0, .ref (ad 0)), (1, .int (iI c)), (2, .int (iI r)), (3, .int (iI z))] := hl
  obtain ⟨H, hH⟩ : ∃ H, H = s.heap := ⟨_, rfl⟩
  obtain ⟨locs, hlo⟩ : ∃ locs : List Loc, locs = [] := ⟨_, rfl⟩
  have hS : St g Aw s.heap H locs (CW g ad F A E tl) := by rw [hH, hlo]; exact hS
  have goal : W Pg l Ev (rmC 9 0 0) s Mi args below Mt Cd H locs 0 0 Q (F0 Mi 0 ls []) := ?goal
  · rw [hH, hlo] at goal; exact goal
  clear hH hlo
  refine li_iload_n hC hl 1 rfl dX11_see_0 ?_
  refine li_iconst hC dX11_see_1 ?_
  refine li_icmp_ne (tgt := 17) hC (by decide) hc (rg (by decide) (by decide)) dX11_see_2 (fun c1 => ?_) (fun c1 => ?_)
  · refine li_iload_n hC hl 1 rfl dX11_see_17 ?_
    refine li_iload_n hC hl 2 rfl dX11_see_18 ?_
    refine ro_callSi hC (c_X11_isSpot l g c r hc hr) mk_X11_isSpot ml_X11_76 (rr (by decide)) ⟨Nat.le_of_ble_eq_true rfl, Nat.le_of_ble_eq_true rfl⟩ hK.1 (hS.ro hK) trivial rfl hl.1 rfl (Nat.le_of_ble_eq_true rfl) dX11_see_19 ?_
    refine li_ifne_b (tgt := 27) hC (by decide) dX11_see_22 (fun c2 => ?_) (fun c2 => ?_)
    · refine li_aload_n hC hl 0 rfl dX11_see_27 ?_
      refine li_get hC hK.1 ck_X11 (hS.1 0 _ rfl) 1 (by decide) fl_X11_23 rfl (v := .ref (ad 3)) rfl dX11_see_28 ?_
      refine li_get hC hK.1 ck_X8 (hS.1 3 _ rfl) 5 (by decide) fl_X11_224 rfl (v := .ref (ad 13)) rfl dX11_see_31 ?_
      refine ro_callVi hC (c_X6_size l g (ws := CW g ad F A E tl) (i := 13) (j := 14) (a := (ad 13)) (b := (ad 14)) (n := 15) (f := (A 14)) (sz := F 13) rfl rfl (Nat.le_of_ble_eq_true rfl)) mk_X6_size ml_X11_51 (rr (by decide)) ⟨Nat.zero_le _, Nat.zero_le _⟩ hK.1 (hS.ro hK) hS.1 (li_recv hK.1 ck_X6 (hS.1 13 _ rfl)) rfl hl.1 rfl (Nat.le_of_ble_eq_true rfl) dX11_see_34 ?_
      rw [show F 13 = 3 * S 2 from hSn.1]
      refine li_bipush hC (z := 15) rfl dX11_see_37 ?_
      refine li_icmp_lt (tgt := 45) hC (by decide) (rg (by omega) (by omega)) (rg (by decide) (by decide)) dX11_see_39 (fun c3 => ?_) (fun c3 => ?_)
      · refine li_aload_n hC hl 0 rfl dX11_see_45 ?_
        refine li_get hC hK.1 ck_X11 (hS.1 0 _ rfl) 1 (by decide) fl_X11_23 rfl (v := .ref (ad 3)) rfl dX11_see_46 ?_
        refine li_get hC hK.1 ck_X8 (hS.1 3 _ rfl) 5 (by decide) fl_X11_224 rfl (v := .ref (ad 13)) rfl dX11_see_49 ?_
        refine li_iload_n hC hl 1 rfl dX11_see_52 ?_
        refine wr_callVv hC (c_X6_add l g (ws := CW g ad F A E tl) (i := 13) (j := 14) (a := (ad 13)) (b := (ad 14)) (n := 15) (f := (A 14)) (sz := F 13) rfl rfl (Nat.le_of_ble_eq_true rfl) (v := c) ⟨by omega, by omega⟩ (by decide) (ws2 := CW g ad (va_up F 13 ((F 13) + 1)) (va_up A 14 (va_up (A 14) ((F 13).toNat) c)) E tl) rfl _) mk_X6_add ml_X11_55 (rr (by decide)) ⟨by simp only [rmC]; omega, by simp only [rmC]; omega⟩ hK hS (li_recv hK.1 ck_X6 (hS.1 13 _ rfl)) rfl hl.1 rfl (Nat.le_of_ble_eq_true rfl) dX11_see_53 (fun w H locs hp hS => ?_)
        subst hp
        refine li_aload_n hC hl 0 rfl dX11_see_56 ?_
        refine li_get hC hK.1 ck_X11 (hS.1 0 _ rfl) 1 (by decide) fl_X11_23 rfl (v := .ref (ad 3)) rfl dX11_see_57 ?_
        refine li_get hC hK.1 ck_X8 (hS.1 3 _ rfl) 5 (by decide) fl_X11_224 rfl (v := .ref (ad 13)) rfl dX11_see_60 ?_
        refine li_iload_n hC hl 2 rfl dX11_see_63 ?_
        refine wr_callVv hC (c_X6_add l g (ws := CW g ad (va_up F 13 ((F 13) + 1)) (va_up A 14 (va_up (A 14) ((F 13).toNat) c)) E tl) (i := 13) (j := 14) (a := (ad 13)) (b := (ad 14)) (n := 15) (f := va_up (A 14) ((F 13).toNat) c) (sz := (F 13) + 1) rfl rfl (Nat.le_of_ble_eq_true rfl) (v := r) ⟨by omega, by omega⟩ (by decide) (ws2 := CW g ad (va_up F 13 (((F 13) + 1) + 1)) (va_up A 14 (va_up (va_up (A 14) ((F 13).toNat) c) (((F 13) + 1).toNat) r)) E tl) rfl _) mk_X6_add ml_X11_55 (rr (by decide)) ⟨by simp only [rmC]; omega, by simp only [rmC]; omega⟩ hK hS (li_recv hK.1 ck_X6 (hS.1 13 _ rfl)) rfl hl.1 rfl (Nat.le_of_ble_eq_true rfl) dX11_see_64 (fun w H locs hp hS => ?_)
        subst hp
        refine li_aload_n hC hl 0 rfl dX11_see_67 ?_
        refine li_get hC hK.1 ck_X11 (hS.1 0 _ rfl) 1 (by decide) fl_X11_23 rfl (v := .ref (ad 3)) rfl dX11_see_68 ?_
        refine li_get hC hK.1 ck_X8 (hS.1 3 _ rfl) 5 (by decide) fl_X11_224 rfl (v := .ref (ad 13)) rfl dX11_see_71 ?_
        refine li_iload_n hC hl 3 rfl dX11_see_74 ?_
        refine li_if_eq (tgt := 82) hC (by decide) (rg (by omega) (by omega)) dX11_see_75 (fun c4 => ?_) (fun c4 => ?_)
        · refine li_iconst hC dX11_see_82 ?_
          refine wr_callVv hC (c_X6_add l g (ws := CW g ad (va_up F 13 (((F 13) + 1) + 1)) (va_up A 14 (va_up (va_up (A 14) ((F 13).toNat) c) (((F 13) + 1).toNat) r)) E tl) (i := 13) (j := 14) (a := (ad 13)) (b := (ad 14)) (n := 15) (f := va_up (va_up (A 14) ((F 13).toNat) c) (((F 13) + 1).toNat) r) (sz := ((F 13) + 1) + 1) rfl rfl (Nat.le_of_ble_eq_true rfl) (v := 0) ⟨by omega, by omega⟩ (by decide) (ws2 := CW g ad (va_up F 13 ((((F 13) + 1) + 1) + 1)) (va_up A 14 (va_up (va_up (va_up (A 14) ((F 13).toNat) c) (((F 13) + 1).toNat) r) ((((F 13) + 1) + 1).toNat) 0)) E tl) rfl _) mk_X6_add ml_X11_55 (rr (by decide)) ⟨by simp only [rmC]; omega, by simp only [rmC]; omega⟩ hK hS (li_recv hK.1 ck_X6 (hS.1 13 _ rfl)) rfl hl.1 rfl (Nat.le_of_ble_eq_true rfl) dX11_see_83 (fun w H locs hp hS => ?_)
          subst hp
          refine li_aload_n hC hl 0 rfl dX11_see_86 ?_
          refine li_get hC hK.1 ck_X11 (hS.1 0 _ rfl) 1 (by decide) fl_X11_23 rfl (v := .ref (ad 3)) rfl dX11_see_87 ?_
          refine li_get hC hK.1 ck_X8 (hS.1 3 _ rfl) 5 (by decide) fl_X11_224 rfl (v := .ref (ad 13)) rfl dX11_see_90 ?_
          refine ro_callVi hC (c_X6_size l g (ws := CW g ad (va_up F 13 ((((F 13) + 1) + 1) + 1)) (va_up A 14 (va_up (va_up (va_up (A 14) ((F 13).toNat) c) (((F 13) + 1).toNat) r) ((((F 13) + 1) + 1).toNat) 0)) E tl) (i := 13) (j := 14) (a := (ad 13)) (b := (ad 14)) (n := 15) (f := va_up (va_up (va_up (A 14) ((F 13).toNat) c) (((F 13) + 1).toNat) r) ((((F 13) + 1) + 1).toNat) 0) (sz := (((F 13) + 1) + 1) + 1) rfl rfl (Nat.le_of_ble_eq_true rfl)) mk_X6_size ml_X11_51 (rr (by decide)) ⟨Nat.zero_le _, Nat.zero_le _⟩ hK.1 (hS.ro hK) hS.1 (li_recv hK.1 ck_X6 (hS.1 13 _ rfl)) rfl hl.1 rfl (Nat.le_of_ble_eq_true rfl) dX11_see_93 ?_
          refine li_iconst hC dX11_see_96 ?_
          refine li_idivN hC (by omega) (by omega) (by omega) (by omega) dX11_see_97 ?_
          exact hQ _ _ _ _ _ _ _ _ dX11_see_98 hS (by omega) (by omega) (⟨iI_inj (by unfold seeR; rw [iteP_f (by omega), iteP_t (by omega), iteP_f (by omega)]; omega), (va_up F 13 ((((F 13) + 1) + 1) + 1)), (va_up A 14 (va_up (va_up (va_up (A 14) ((F 13).toNat) c) (((F 13) + 1).toNat) r) ((((F 13) + 1) + 1).toNat) 0)), rfl, ⟨fun k hk => (by first | rfl | (repeat rw [up_ne _ _ (by omega)])), fun k hk => (by first | rfl | (repeat rw [up_ne _ _ (by omega)]))⟩, (by unfold seeS; rw [iteP_f (by omega), iteP_t (by omega)]; unfold ShW ShP; exact ⟨(sh1 (fun j hj => by (repeat rw [up_ne _ _ (by omega)])) (by omega) hTp), (sh2 (fun j hj => by (repeat rw [up_ne _ _ (by omega)])) hH hCd), (sh3 (fun j hj => by (repeat rw [up_ne _ _ (by omega)])) hD0 hNs), (sh4 (fun j hj => by (repeat rw [up_ne _ _ (by omega)])) hD0 hWh), (sh5 (fun j hj => by (repeat rw [up_ne _ _ (by omega)])) hRw), (by refine ⟨by show ((F 13 + 1) + 1) + 1 = _; rw [up_same]; omega, fun k h0 h1 => ?_⟩; rw [up_same] at h1; show ((va_up (va_up (va_up (A 14) (F 13).toNat c) (F 13 + 1).toNat r) ((F 13 + 1) + 1).toNat 0) (3 * k).toNat = _ ∧ (va_up (va_up (va_up (A 14) (F 13).toNat c) (F 13 + 1).toNat r) ((F 13 + 1) + 1).toNat 0) ((3 * k) + 1).toNat = _ ∧ (va_up (va_up (va_up (A 14) (F 13).toNat c) (F 13 + 1).toNat r) ((F 13 + 1) + 1).toNat 0) ((3 * k) + 2).toNat = _); rw [up_ne _ _ (show (77 + k).toNat ≠ 2 by omega), up_ne _ _ (show (82 + k).toNat ≠ 2 by omega), up_ne _ _ (show (87 + k).toNat ≠ 2 by omega)]; rcases (show k < S 2 ∨ k = S 2 by omega) with q | q; { rw [up_ne _ _ (show (3 * k).toNat ≠ ((F 13 + 1) + 1).toNat by omega), up_ne _ _ (show (3 * k).toNat ≠ (F 13 + 1).toNat by omega), up_ne _ _ (show (3 * k).toNat ≠ (F 13).toNat by omega), up_ne _ _ (show ((3 * k) + 1).toNat ≠ ((F 13 + 1) + 1).toNat by omega), up_ne _ _ (show ((3 * k) + 1).toNat ≠ (F 13 + 1).toNat by omega), up_ne _ _ (show ((3 * k) + 1).toNat ≠ (F 13).toNat by omega), up_ne _ _ (show ((3 * k) + 2).toNat ≠ ((F 13 + 1) + 1).toNat by omega), up_ne _ _ (show ((3 * k) + 2).toNat ≠ (F 13 + 1).toNat by omega), up_ne _ _ (show ((3 * k) + 2).toNat ≠ (F 13).toNat by omega)]; (repeat rw [up_ne _ _ (show (77 + k).toNat ≠ _ by omega)]); (repeat rw [up_ne _ _ (show (82 + k).toNat ≠ _ by omega)]); (repeat rw [up_ne _ _ (show (87 + k).toNat ≠ _ by omega)]); exact hSn.2 k h0 q }; { rw [q]; unfold iteP; refine ⟨?_, ?_, ?_⟩; { rw [up_ne _ _ (show (3 * S 2).toNat ≠ ((F 13 + 1) + 1).toNat by omega), up_ne _ _ (show (3 * S 2).toNat ≠ (F 13 + 1).toNat by omega), show (3 * S 2).toNat = (F 13).toNat by omega, up_same, up_ne _ _ (show (77 + S 2).toNat ≠ (87 + S 2).toNat by omega), up_ne _ _ (show (77 + S 2).toNat ≠ (82 + S 2).toNat by omega), up_same] }; { rw [up_ne _ _ (show ((3 * S 2) + 1).toNat ≠ ((F 13 + 1) + 1).toNat by omega), show ((3 * S 2) + 1).toNat = (F 13 + 1).toNat by omega, up_same, up_ne _ _ (show (82 + S 2).toNat ≠ (87 + S 2).toNat by omega), up_same] }; { rw [show ((3 * S 2) + 2).toNat = ((F 13 + 1) + 1).toNat by omega, up_same, up_same]; split <;> omega } }), (sh7 (fun j hj => by (repeat rw [up_ne _ _ (by omega)])) (by omega) hPl), (sh8 (fun j hj => by (repeat rw [up_ne _ _ (by omega)])) (by omega) hBk), (sh9 (by (repeat rw [up_ne _ _ (by omega)])) (fun j hj => by (repeat rw [up_ne _ _ (by omega)])) hH hMp)⟩)⟩)
        · refine li_iconst hC dX11_see_78 ?_
          refine li_goto (tgt := 83) hC (by decide) dX11_see_79 ?_
          refine wr_callVv hC (c_X6_add l g (ws := CW g ad (va_up F 13 (((F 13) + 1) + 1)) (va_up A 14 (va_up (va_up (A 14) ((F 13).toNat) c) (((F 13) + 1).toNat) r)) E tl) (i := 13) (j := 14) (a := (ad 13)) (b := (ad 14)) (n := 15) (f := va_up (va_up (A 14) ((F 13).toNat) c) (((F 13) + 1).toNat) r) (sz := ((F 13) + 1) + 1) rfl rfl (Nat.le_of_ble_eq_true rfl) (v := 1) ⟨by omega, by omega⟩ (by decide) (ws2 := CW g ad (va_up F 13 ((((F 13) + 1) + 1) + 1)) (va_up A 14 (va_up (va_up (va_up (A 14) ((F 13).toNat) c) (((F 13) + 1).toNat) r) ((((F 13) + 1) + 1).toNat) 1)) E tl) rfl _) mk_X6_add ml_X11_55 (rr (by decide)) ⟨by simp only [rmC]; omega, by simp only [rmC]; omega⟩ hK hS (li_recv hK.1 ck_X6 (hS.1 13 _ rfl)) rfl hl.1 rfl (Nat.le_of_ble_eq_true rfl) dX11_see_83 (fun w H locs hp hS => ?_)
          subst hp
          refine li_aload_n hC hl 0 rfl dX11_see_86 ?_
          refine li_get hC hK.1 ck_X11 (hS.1 0 _ rfl) 1 (by decide) fl_X11_23 rfl (v := .ref (ad 3)) rfl dX11_see_87 ?_
          refine li_get hC hK.1 ck_X8 (hS.1 3 _ rfl) 5 (by decide) fl_X11_224 rfl (v := .ref (ad 13)) rfl dX11_see_90 ?_
          refine ro_callVi hC (c_X6_size l g (ws := CW g ad (va_up F 13 ((((F 13) + 1) + 1) + 1)) (va_up A 14 (va_up (va_up (va_up (A 14) ((F 13).toNat) c) (((F 13) + 1).toNat) r) ((((F 13) + 1) + 1).toNat) 1)) E tl) (i := 13) (j := 14) (a := (ad 13)) (b := (ad 14)) (n := 15) (f := va_up (va_up (va_up (A 14) ((F 13).toNat) c) (((F 13) + 1).toNat) r) ((((F 13) + 1) + 1).toNat) 1) (sz := (((F 13) + 1) + 1) + 1) rfl rfl (Nat.le_of_ble_eq_true rfl)) mk_X6_size ml_X11_51 (rr (by decide)) ⟨Nat.zero_le _, Nat.zero_le _⟩ hK.1 (hS.ro hK) hS.1 (li_recv hK.1 ck_X6 (hS.1 13 _ rfl)) rfl hl.1 rfl (Nat.le_of_ble_eq_true rfl) dX11_see_93 ?_
          refine li_iconst hC dX11_see_96 ?_
          refine li_idivN hC (by omega) (by omega) (by omega) (by omega) dX11_see_97 ?_
          exact hQ _ _ _ _ _ _ _ _ dX11_see_98 hS (by omega) (by omega) (⟨iI_inj (by unfold seeR; rw [iteP_f (by omega), iteP_t (by omega), iteP_f (by omega)]; omega), (va_up F 13 ((((F 13) + 1) + 1) + 1)), (va_up A 14 (va_up (va_up (va_up (A 14) ((F 13).toNat) c) (((F 13) + 1).toNat) r) ((((F 13) + 1) + 1).toNat) 1)), rfl, ⟨fun k hk => (by first | rfl | (repeat rw [up_ne _ _ (by omega)])), fun k hk => (by first | rfl | (repeat rw [up_ne _ _ (by omega)]))⟩, (by unfold seeS; rw [iteP_f (by omega), iteP_t (by omega)]; unfold ShW ShP; exact ⟨(sh1 (fun j hj => by (repeat rw [up_ne _ _ (by omega)])) (by omega) hTp), (sh2 (fun j hj => by (repeat rw [up_ne _ _ (by omega)])) hH hCd), (sh3 (fun j hj => by (repeat rw [up_ne _ _ (by omega)])) hD0 hNs), (sh4 (fun j hj => by (repeat rw [up_ne _ _ (by omega)])) hD0 hWh), (sh5 (fun j hj => by (repeat rw [up_ne _ _ (by omega)])) hRw), (by refine ⟨by show ((F 13 + 1) + 1) + 1 = _; rw [up_same]; omega, fun k h0 h1 => ?_⟩; rw [up_same] at h1; show ((va_up (va_up (va_up (A 14) (F 13).toNat c) (F 13 + 1).toNat r) ((F 13 + 1) + 1).toNat 1) (3 * k).toNat = _ ∧ (va_up (va_up (va_up (A 14) (F 13).toNat c) (F 13 + 1).toNat r) ((F 13 + 1) + 1).toNat 1) ((3 * k) + 1).toNat = _ ∧ (va_up (va_up (va_up (A 14) (F 13).toNat c) (F 13 + 1).toNat r) ((F 13 + 1) + 1).toNat 1) ((3 * k) + 2).toNat = _); rw [up_ne _ _ (show (77 + k).toNat ≠ 2 by omega), up_ne _ _ (show (82 + k).toNat ≠ 2 by omega), up_ne _ _ (show (87 + k).toNat ≠ 2 by omega)]; rcases (show k < S 2 ∨ k = S 2 by omega) with q | q; { rw [up_ne _ _ (show (3 * k).toNat ≠ ((F 13 + 1) + 1).toNat by omega), up_ne _ _ (show (3 * k).toNat ≠ (F 13 + 1).toNat by omega), up_ne _ _ (show (3 * k).toNat ≠ (F 13).toNat by omega), up_ne _ _ (show ((3 * k) + 1).toNat ≠ ((F 13 + 1) + 1).toNat by omega), up_ne _ _ (show ((3 * k) + 1).toNat ≠ (F 13 + 1).toNat by omega), up_ne _ _ (show ((3 * k) + 1).toNat ≠ (F 13).toNat by omega), up_ne _ _ (show ((3 * k) + 2).toNat ≠ ((F 13 + 1) + 1).toNat by omega), up_ne _ _ (show ((3 * k) + 2).toNat ≠ (F 13 + 1).toNat by omega), up_ne _ _ (show ((3 * k) + 2).toNat ≠ (F 13).toNat by omega)]; (repeat rw [up_ne _ _ (show (77 + k).toNat ≠ _ by omega)]); (repeat rw [up_ne _ _ (show (82 + k).toNat ≠ _ by omega)]); (repeat rw [up_ne _ _ (show (87 + k).toNat ≠ _ by omega)]); exact hSn.2 k h0 q }; { rw [q]; unfold iteP; refine ⟨?_, ?_, ?_⟩; { rw [up_ne _ _ (show (3 * S 2).toNat ≠ ((F 13 + 1) + 1).toNat by omega), up_ne _ _ (show (3 * S 2).toNat ≠ (F 13 + 1).toNat by omega), show (3 * S 2).toNat = (F 13).toNat by omega, up_same, up_ne _ _ (show (77 + S 2).toNat ≠ (87 + S 2).toNat by omega), up_ne _ _ (show (77 + S 2).toNat ≠ (82 + S 2).toNat by omega), up_same] }; { rw [up_ne _ _ (show ((3 * S 2) + 1).toNat ≠ ((F 13 + 1) + 1).toNat by omega), show ((3 * S 2) + 1).toNat = (F 13 + 1).toNat by omega, up_same, up_ne _ _ (show (82 + S 2).toNat ≠ (87 + S 2).toNat by omega), up_same] }; { rw [show ((3 * S 2) + 2).toNat = ((F 13 + 1) + 1).toNat by omega, up_same, up_same]; split <;> omega } }), (sh7 (fun j hj => by (repeat rw [up_ne _ _ (by omega)])) (by omega) hPl), (sh8 (fun j hj => by (repeat rw [up_ne _ _ (by omega)])) (by omega) hBk), (sh9 (by (repeat rw [up_ne _ _ (by omega)])) (fun j hj => by (repeat rw [up_ne _ _ (by omega)])) hH hMp)⟩)⟩)
      · refine li_bipush hC (z := -4) rfl dX11_see_42 ?_
        exact hQ _ _ _ _ _ _ _ _ dX11_see_44 hS (by omega) (by omega) (⟨iI_inj (by unfold seeR; rw [iteP_f (by omega), iteP_t (by omega), iteP_t (by omega)]), F, A, rfl, (KpS.rf _ _), (by unfold seeS; rw [iteP_f (by omega), iteP_f (by omega)]; exact hSh)⟩)
    · refine li_iconst hC dX11_see_25 ?_
      exact hQ _ _ _ _ _ _ _ _ dX11_see_26 hS (by omega) (by omega) (⟨iI_inj (by unfold seeR; rw [iteP_f (by omega), iteP_f (by omega)]), F, A, rfl, (KpS.rf _ _), (by unfold seeS; rw [iteP_f (by omega), iteP_f (by omega)]; exact hSh)⟩)
  · refine li_aload_n hC hl 0 rfl dX11_see_5 ?_
    refine li_get hC hK.1 ck_X11 (hS.1 0 _ rfl) 1 (by decide) fl_X11_23 rfl (v := .ref (ad 3)) rfl dX11_see_6 ?_
    refine li_get hC hK.1 ck_X8 (hS.1 3 _ rfl) 5 (by decide) fl_X11_224 rfl (v := .ref (ad 13)) rfl dX11_see_9 ?_
    refine wr_callVv hC (c_X6_clear l g (ws := CW g ad F A E tl) (i := 13) (a := (ad 13)) (b := (ad 14)) (sz := F 13) rfl (ws2 := CW g ad (va_up F 13 0) A E tl) rfl _) mk_X6_clear ml_X11_66 (rr (by decide)) ⟨by simp only [rmC]; omega, by simp only [rmC]; omega⟩ hK hS (li_recv hK.1 ck_X6 (hS.1 13 _ rfl)) rfl hl.1 rfl (Nat.le_of_ble_eq_true rfl) dX11_see_12 (fun w H locs hp hS => ?_)
    subst hp
    refine li_iconst hC dX11_see_15 ?_
    exact hQ _ _ _ _ _ _ _ _ dX11_see_16 hS (by omega) (by omega) (⟨iI_inj (by unfold seeR; rw [iteP_t (by omega)]), (va_up F 13 0), A, rfl, ⟨fun k hk => (by first | rfl | (repeat rw [up_ne _ _ (by omega)])), fun k hk => (by first | rfl | (repeat rw [up_ne _ _ (by omega)]))⟩, (by unfold seeS; rw [iteP_t (by omega)]; unfold ShW ShP; exact ⟨(sh1 (fun j hj => by (repeat rw [up_ne _ _ (by omega)])) (by omega) hTp), (sh2 (fun j hj => by (repeat rw [up_ne _ _ (by omega)])) hH hCd), (sh3 (fun j hj => by (repeat rw [up_ne _ _ (by omega)])) hD0 hNs), (sh4 (fun j hj => by (repeat rw [up_ne _ _ (by omega)])) hD0 hWh), (sh5 (fun j hj => by (repeat rw [up_ne _ _ (by omega)])) hRw), (by refine ⟨by rw [up_same]; rfl, fun k h0 h1 => ?_⟩; rw [up_same] at h1; omega), (sh7 (fun j hj => by (repeat rw [up_ne _ _ (by omega)])) (by omega) hPl), (sh8 (fun j hj => by (repeat rw [up_ne _ _ (by omega)])) (by omega) hBk), (sh9 (by (repeat rw [up_ne _ _ (by omega)])) (fun j hj => by (repeat rw [up_ne _ _ (by omega)])) hH hMp)⟩)⟩)
set_option maxHeartbeats 4000000 in
set_option maxRecDepth 100000 in
theorem c_X11_written_15 (l : Launch) (g : GG) (ad : Nat → Nat) (F : Nat → Int) (A : Nat → Nat → Int) (E : Nat → Nat) (tl : va_W) (S : Nat → Int) (nm : Nat → Nat) (hSh : ShW g ad F A E tl S nm) (hI : InvD S) (n : Int) (p : Int) (hn : rng n) (hp : rng p) (hH : InvH S) (h5 : 0 ≤ S 5 ∧ S 5 ≤ 100) (h2 : 0 ≤ S 2 ∧ S 2 ≤ 5) (h3 : 0 ≤ S 3 ∧ S 3 ≤ 8) (h4 : 0 ≤ S 4 ∧ S 4 ≤ 8) (sz : Nat) : MwrI l g yX11_written cX11_written 4 9 0 0 [.ref (ad 0), .ref (ad 15), .int (iI n), .int (iI p)] sz (CW g ad F A E tl) (fun v w => v = iI (listR 3 S n p) ∧ ∃ F2 A2, w = CW g ad F2 A2 E tl ∧ KpS F F2 A A2 ∧ ShW g ad F2 A2 E tl (listS 3 92 100 S n p) nm) := by
  refine wr_startI (own := RX11) (by decide) rfl (Nat.le_of_ble_eq_true rfl) ?_
  intro Pg Ev s Mi args below Mt Cd ls Q Aw hC hK hS hnm hl hQ
  have hSh0 := hSh
  obtain ⟨hTp, hCd, hNs, hWh, hRw, hSn, hPl, hBk, hMp⟩ := hSh0
  have hNm := hNs.2.2
  have hD0 := hI.1
  have hNs0 := hNs.1
  have e4 := hTp.1
  have e13 := hSn.1
  have e15 := hPl.1
  have e17 := hBk.1
  have hl : lv_has ls 4 [(0, .ref (ad 0)), (1, .ref (ad 15)), (2, .int (iI n)), (3, .int (iI p))] := hl
  obtain ⟨H, hH⟩ : ∃ H, H = s.heap := ⟨_, rfl⟩
  obtain ⟨locs, hlo⟩ : ∃ locs : List Loc, locs = [] := ⟨_, rfl⟩
  have hS : St g Aw s.heap H locs (CW g ad F A E tl) := by rw [hH, hlo]; exact hS
  have goal : W Pg l Ev (rmC 9 0 0) s Mi args below Mt Cd H locs 0 0 Q (F0 Mi 0 ls []) := ?goal
  · rw [hH, hlo] at goal; exact goal
  clear hH hlo
  refine li_iload_n hC hl 2 rfl dX11_written_0 ?_
  refine li_iconst hC dX11_written_1 ?_
  refine li_icmp_ne (tgt := 11) hC (by decide) hn (rg (by decide) (by decide)) dX11_written_2 (fun c1 => ?_) (fun c1 => ?_)
  · refine li_aload_n hC hl 0 rfl dX11_written_11 ?_
    refine li_get hC hK.1 ck_X11 (hS.1 0 _ rfl) 1 (by decide) fl_X11_23 rfl (v := .ref (ad 3)) rfl dX11_written_12 ?_
    refine li_iload_n hC hl 2 rfl dX11_written_15 ?_
    refine ro_callVi hC (c_X8_has l g ad F A E tl S nm hSh hI n hn) mk_X8_has ml_X11_151 (rr (by decide)) ⟨Nat.le_of_ble_eq_true rfl, Nat.le_of_ble_eq_true rfl⟩ hK.1 (hS.ro hK) hS.1 (li_recv hK.1 ck_X8 (hS.1 3 _ rfl)) rfl hl.1 rfl (Nat.le_of_ble_eq_true rfl) dX11_written_16 ?_
    refine li_ifeq_b (tgt := 31) hC (by decide) dX11_written_19 (fun c2 => ?_) (fun c2 => ?_)
    · refine li_iconst hC dX11_written_31 ?_
      exact hQ _ _ _ _ _ _ _ _ dX11_written_32 hS (by omega) (by omega) (⟨iI_inj (by unfold listR; rw [iteP_f (by omega), iteP_f (by omega)]), F, A, rfl, (KpS.rf _ _), (by unfold listS; rw [iteP_f (by omega), iteP_f (fun h9 => by have a1 := h9.1; have a2 := h9.2.1; omega)]; exact hSh)⟩)
    · refine li_iload_n hC hl 3 rfl dX11_written_22 ?_
      refine li_if_lt (tgt := 31) hC (by decide) hp dX11_written_23 (fun c3 => ?_) (fun c3 => ?_)
      · refine li_iconst hC dX11_written_31 ?_
        exact hQ _ _ _ _ _ _ _ _ dX11_written_32 hS (by omega) (by omega) (⟨iI_inj (by unfold listR; rw [iteP_f (by omega), iteP_f (by omega)]), F, A, rfl, (KpS.rf _ _), (by unfold listS; rw [iteP_f (by omega), iteP_f (fun h9 => by have a1 := h9.1; have a2 := h9.2.1; omega)]; exact hSh)⟩)
      · refine li_iload_n hC hl 3 rfl dX11_written_26 ?_
        refine li_iconst hC dX11_written_27 ?_
        refine li_icmp_le (tgt := 33) hC (by decide) hp (rg (by decide) (by decide)) dX11_written_28 (fun c4 => ?_) (fun c4 => ?_)
        · refine li_aload_n hC hl 1 rfl dX11_written_33 ?_
          refine ro_callVi hC (c_X6_size l g (ws := CW g ad F A E tl) (i := 15) (j := 16) (a := (ad 15)) (b := (ad 16)) (n := 16) (f := (A 16)) (sz := F 15) rfl rfl (Nat.le_of_ble_eq_true rfl)) mk_X6_size ml_X11_51 (rr (by decide)) ⟨Nat.zero_le _, Nat.zero_le _⟩ hK.1 (hS.ro hK) hS.1 (li_recv hK.1 ck_X6 (hS.1 15 _ rfl)) rfl hl.1 rfl (Nat.le_of_ble_eq_true rfl) dX11_written_34 ?_
          rw [show F 15 = 2 * S 3 from hPl.1]
          refine li_bipush hC (z := 16) rfl dX11_written_37 ?_
          refine li_icmp_lt (tgt := 45) hC (by decide) (rg (by omega) (by omega)) (rg (by decide) (by decide)) dX11_written_39 (fun c5 => ?_) (fun c5 => ?_)
          · refine li_aload_n hC hl 1 rfl dX11_written_45 ?_
            refine li_iload_n hC hl 2 rfl dX11_written_46 ?_
            refine wr_callVv hC (c_X6_add l g (ws := CW g ad F A E tl) (i := 15) (j := 16) (a := (ad 15)) (b := (ad 16)) (n := 16) (f := (A 16)) (sz := F 15) rfl rfl (Nat.le_of_ble_eq_true rfl) (v := n) ⟨by omega, by omega⟩ (by decide) (ws2 := CW g ad (va_up F 15 ((F 15) + 1)) (va_up A 16 (va_up (A 16) ((F 15).toNat) n)) E tl) rfl _) mk_X6_add ml_X11_55 (rr (by decide)) ⟨by simp only [rmC]; omega, by simp only [rmC]; omega⟩ hK hS (li_recv hK.1 ck_X6 (hS.1 15 _ rfl)) rfl hl.1 rfl (Nat.le_of_ble_eq_true rfl) dX11_written_47 (fun w H locs hp hS => ?_)
            subst hp
            refine li_aload_n hC hl 1 rfl dX11_written_50 ?_
            refine li_iload_n hC hl 3 rfl dX11_written_51 ?_
            refine wr_callVv hC (c_X6_add l g (ws := CW g ad (va_up F 15 ((F 15) + 1)) (va_up A 16 (va_up (A 16) ((F 15).toNat) n)) E tl) (i := 15) (j := 16) (a := (ad 15)) (b := (ad 16)) (n := 16) (f := va_up (A 16) ((F 15).toNat) n) (sz := (F 15) + 1) rfl rfl (Nat.le_of_ble_eq_true rfl) (v := p) ⟨by omega, by omega⟩ (by decide) (ws2 := CW g ad (va_up F 15 (((F 15) + 1) + 1)) (va_up A 16 (va_up (va_up (A 16) ((F 15).toNat) n) (((F 15) + 1).toNat) p)) E tl) rfl _) mk_X6_add ml_X11_55 (rr (by decide)) ⟨by simp only [rmC]; omega, by simp only [rmC]; omega⟩ hK hS (li_recv hK.1 ck_X6 (hS.1 15 _ rfl)) rfl hl.1 rfl (Nat.le_of_ble_eq_true rfl) dX11_written_52 (fun w H locs hp hS => ?_)
            subst hp
            refine li_aload_n hC hl 1 rfl dX11_written_55 ?_
            refine ro_callVi hC (c_X6_size l g (ws := CW g ad (va_up F 15 (((F 15) + 1) + 1)) (va_up A 16 (va_up (va_up (A 16) ((F 15).toNat) n) (((F 15) + 1).toNat) p)) E tl) (i := 15) (j := 16) (a := (ad 15)) (b := (ad 16)) (n := 16) (f := va_up (va_up (A 16) ((F 15).toNat) n) (((F 15) + 1).toNat) p) (sz := ((F 15) + 1) + 1) rfl rfl (Nat.le_of_ble_eq_true rfl)) mk_X6_size ml_X11_51 (rr (by decide)) ⟨Nat.zero_le _, Nat.zero_le _⟩ hK.1 (hS.ro hK) hS.1 (li_recv hK.1 ck_X6 (hS.1 15 _ rfl)) rfl hl.1 rfl (Nat.le_of_ble_eq_true rfl) dX11_written_56 ?_
            refine li_iconst hC dX11_written_59 ?_
            refine li_idivN hC (by omega) (by omega) (by omega) (by omega) dX11_written_60 ?_
            exact hQ _ _ _ _ _ _ _ _ dX11_written_61 hS (by omega) (by omega) (⟨iI_inj (by unfold listR; rw [iteP_f (by omega), iteP_t (by omega), iteP_f (show ¬ S (Int.toNat 3) = 8 from (by show ¬ S 3 = 8; omega))]; show _ = S 3 + 1; omega), (va_up F 15 (((F 15) + 1) + 1)), (va_up A 16 (va_up (va_up (A 16) ((F 15).toNat) n) (((F 15) + 1).toNat) p)), rfl, ⟨fun k hk => (by first | rfl | (repeat rw [up_ne _ _ (by omega)])), fun k hk => (by first | rfl | (repeat rw [up_ne _ _ (by omega)]))⟩, (by unfold listS; rw [iteP_f (by omega), iteP_t ⟨by omega, by omega, (show S 3 ≠ 8 by omega)⟩]; show ShW g ad _ _ E tl (va_up (va_up (va_up S (92 + S 3).toNat n) (100 + S 3).toNat p) 3 (S 3 + 1)) nm; unfold ShW ShP; exact ⟨(sh1 (fun j hj => by (repeat rw [up_ne _ _ (by omega)])) (by omega) hTp), (sh2 (fun j hj => by (repeat rw [up_ne _ _ (by omega)])) hH hCd), (sh3 (fun j hj => by (repeat rw [up_ne _ _ (by omega)])) hD0 hNs), (sh4 (fun j hj => by (repeat rw [up_ne _ _ (by omega)])) hD0 hWh), (sh5 (fun j hj => by (repeat rw [up_ne _ _ (by omega)])) hRw), (sh6 (fun j hj => by (repeat rw [up_ne _ _ (by omega)])) (by omega) hSn), (by refine ⟨by show (F 15 + 1) + 1 = _; rw [up_same]; omega, fun k h0 h1 => ?_⟩; rw [up_same] at h1; show ((va_up (va_up (A 16) (F 15).toNat n) (F 15 + 1).toNat p) (2 * k).toNat = _ ∧ (va_up (va_up (A 16) (F 15).toNat n) (F 15 + 1).toNat p) ((2 * k) + 1).toNat = _); rw [up_ne _ _ (show (92 + k).toNat ≠ 3 by omega), up_ne _ _ (show (100 + k).toNat ≠ 3 by omega)]; rcases (show k < S 3 ∨ k = S 3 by omega) with q | q; { rw [up_ne _ _ (show (2 * k).toNat ≠ (F 15 + 1).toNat by omega), up_ne _ _ (show (2 * k).toNat ≠ (F 15).toNat by omega), up_ne _ _ (show ((2 * k) + 1).toNat ≠ (F 15 + 1).toNat by omega), up_ne _ _ (show ((2 * k) + 1).toNat ≠ (F 15).toNat by omega)]; (repeat rw [up_ne _ _ (show (92 + k).toNat ≠ _ by omega)]); (repeat rw [up_ne _ _ (show (100 + k).toNat ≠ _ by omega)]); exact hPl.2 k h0 q }; { rw [q]; refine ⟨?_, ?_⟩; { rw [up_ne _ _ (show (2 * S 3).toNat ≠ (F 15 + 1).toNat by omega), show (2 * S 3).toNat = (F 15).toNat by omega, up_same, up_ne _ _ (show (92 + S 3).toNat ≠ (100 + S 3).toNat by omega), up_same] }; { rw [show ((2 * S 3) + 1).toNat = (F 15 + 1).toNat by omega, up_same, up_same] } }), (sh8 (fun j hj => by (repeat rw [up_ne _ _ (by omega)])) (by omega) hBk), (sh9 (by (repeat rw [up_ne _ _ (by omega)])) (fun j hj => by (repeat rw [up_ne _ _ (by omega)])) hH hMp)⟩)⟩)
          · refine li_bipush hC (z := -4) rfl dX11_written_42 ?_
            exact hQ _ _ _ _ _ _ _ _ dX11_written_44 hS (by omega) (by omega) (⟨iI_inj (by unfold listR; rw [iteP_f (by omega), iteP_t (by omega), iteP_t (show S (Int.toNat 3) = 8 from (by show S 3 = 8; omega))]), F, A, rfl, (KpS.rf _ _), (by unfold listS; rw [iteP_f (by omega), iteP_f (fun h9 => h9.2.2 (show S 3 = 8 by omega))]; exact hSh)⟩)
        · refine li_iconst hC dX11_written_31 ?_
          exact hQ _ _ _ _ _ _ _ _ dX11_written_32 hS (by omega) (by omega) (⟨iI_inj (by unfold listR; rw [iteP_f (by omega), iteP_f (by omega)]), F, A, rfl, (KpS.rf _ _), (by unfold listS; rw [iteP_f (by omega), iteP_f (fun h9 => by have a1 := h9.1; have a2 := h9.2.1; omega)]; exact hSh)⟩)
  · refine li_aload_n hC hl 1 rfl dX11_written_5 ?_
    refine wr_callVv hC (c_X6_clear l g (ws := CW g ad F A E tl) (i := 15) (a := (ad 15)) (b := (ad 16)) (sz := F 15) rfl (ws2 := CW g ad (va_up F 15 0) A E tl) rfl _) mk_X6_clear ml_X11_66 (rr (by decide)) ⟨by simp only [rmC]; omega, by simp only [rmC]; omega⟩ hK hS (li_recv hK.1 ck_X6 (hS.1 15 _ rfl)) rfl hl.1 rfl (Nat.le_of_ble_eq_true rfl) dX11_written_6 (fun w H locs hp hS => ?_)
    subst hp
    refine li_iconst hC dX11_written_9 ?_
    exact hQ _ _ _ _ _ _ _ _ dX11_written_10 hS (by omega) (by omega) (⟨iI_inj (by unfold listR; rw [iteP_t (by omega)]), (va_up F 15 0), A, rfl, ⟨fun k hk => (by first | rfl | (repeat rw [up_ne _ _ (by omega)])), fun k hk => (by first | rfl | (repeat rw [up_ne _ _ (by omega)]))⟩, (by unfold listS; rw [iteP_t (by omega)]; show ShW g ad _ _ E tl (va_up S 3 0) nm; unfold ShW ShP; exact ⟨(sh1 (fun j hj => by (repeat rw [up_ne _ _ (by omega)])) (by omega) hTp), (sh2 (fun j hj => by (repeat rw [up_ne _ _ (by omega)])) hH hCd), (sh3 (fun j hj => by (repeat rw [up_ne _ _ (by omega)])) hD0 hNs), (sh4 (fun j hj => by (repeat rw [up_ne _ _ (by omega)])) hD0 hWh), (sh5 (fun j hj => by (repeat rw [up_ne _ _ (by omega)])) hRw), (sh6 (fun j hj => by (repeat rw [up_ne _ _ (by omega)])) (by omega) hSn), (by refine ⟨by rw [up_same]; rfl, fun k h0 h1 => ?_⟩; rw [up_same] at h1; omega), (sh8 (fun j hj => by (repeat rw [up_ne _ _ (by omega)])) (by omega) hBk), (sh9 (by (repeat rw [up_ne _ _ (by omega)])) (fun j hj => by (repeat rw [up_ne _ _ (by omega)])) hH hMp)⟩)⟩)
set_option maxHeartbeats 4000000 in
set_option maxRecDepth 100000 in
theorem c_X11_plan (l : Launch) (g : GG) (ad : Nat → Nat) (F : Nat → Int) (A : Nat → Nat → Int) (E : Nat → Nat) (tl : va_W) (S : Nat → Int) (nm : Nat → Nat) (hSh : ShW g ad F A E tl S nm) (hI : InvD S) (n : Int) (p : Int) (hn : rng n) (hp : rng p) (hH : InvH S) (h5 : 0 ≤ S 5 ∧ S 5 ≤ 100) (h2 : 0 ≤ S 2 ∧ S 2 ≤ 5) (h3 : 0 ≤ S 3 ∧ S 3 ≤ 8) (h4 : 0 ≤ S 4 ∧ S 4 ≤ 8) (sz : Nat) : MwrI l g yX11_plan cX11_plan 3 10 0 0 [.ref (ad 0), .int (iI n), .int (iI p)] sz (CW g ad F A E tl) (fun v w => v = iI (listR 3 S n p) ∧ ∃ F2 A2, w = CW g ad F2 A2 E tl ∧ KpS F F2 A A2 ∧ ShW g ad F2 A2 E tl (listS 3 92 100 S n p) nm) := by
  refine wr_startI (own := RX11) (by decide) rfl (Nat.le_of_ble_eq_true rfl) ?_
  intro Pg Ev s Mi args below Mt Cd ls Q Aw hC hK hS hnm hl hQ
  have hSh0 := hSh
  obtain ⟨hTp, hCd, hNs, hWh, hRw, hSn, hPl, hBk, hMp⟩ := hSh0
  have hNm := hNs.2.2
  have hD0 := hI.1
  have hNs0 := hNs.1
  have hl : lv_has ls 3 [(0, .ref (ad 0)), (1, .int (iI n)), (2, .int (iI p))] := hl
  obtain ⟨H, hH⟩ : ∃ H, H = s.heap := ⟨_, rfl⟩
  obtain ⟨locs, hlo⟩ : ∃ locs : List Loc, locs = [] := ⟨_, rfl⟩
  have hS : St g Aw s.heap H locs (CW g ad F A E tl) := by rw [hH, hlo]; exact hS
  have goal : W Pg l Ev (rmC 10 0 0) s Mi args below Mt Cd H locs 0 0 Q (F0 Mi 0 ls []) := ?goal
  · rw [hH, hlo] at goal; exact goal
  clear hH hlo
  refine li_aload_n hC hl 0 rfl dX11_plan_0 ?_
  refine li_aload_n hC hl 0 rfl dX11_plan_1 ?_
  refine li_get hC hK.1 ck_X11 (hS.1 0 _ rfl) 1 (by decide) fl_X11_23 rfl (v := .ref (ad 3)) rfl dX11_plan_2 ?_
  refine li_get hC hK.1 ck_X8 (hS.1 3 _ rfl) 6 (by decide) fl_X11_237 rfl (v := .ref (ad 15)) rfl dX11_plan_5 ?_
  refine li_iload_n hC hl 1 rfl dX11_plan_8 ?_
  refine li_iload_n hC hl 2 rfl dX11_plan_9 ?_
  refine wr_callVi hC (c_X11_written_15 l g ad F A E tl S nm hSh hI n p hn hp hH (by omega) (by omega) (by omega) (by omega) _) mk_X11_written ml_X11_240 (rr (by decide)) ⟨by simp only [rmC]; omega, by simp only [rmC]; omega⟩ hK hS (li_recv hK.1 ck_X11 (hS.1 0 _ rfl)) rfl hl.1 rfl (Nat.le_of_ble_eq_true rfl) dX11_plan_10 (fun v w H locs hp hS => ?_)
  obtain ⟨hv, F2, A2, hw, hk, hsh⟩ := hp
  rw [hw] at hS
  rw [hv]
  exact hQ _ _ _ _ _ _ _ _ dX11_plan_13 hS (by omega) (by omega) (⟨rfl, F2, A2, rfl, hk, hsh⟩)
set_option maxHeartbeats 4000000 in
set_option maxRecDepth 100000 in
theorem c_X11_written_17 (l : Launch) (g : GG) (ad : Nat → Nat) (F : Nat → Int) (A : Nat → Nat → Int) (E : Nat → Nat) (tl : va_W) (S : Nat → Int) (nm : Nat → Nat) (hSh : ShW g ad F A E tl S nm) (hI : InvD S) (n : Int) (p : Int) (hn : rng n) (hp : rng p) (hH : InvH S) (h5 : 0 ≤ S 5 ∧ S 5 ≤ 100) (h2 : 0 ≤ S 2 ∧ S 2 ≤ 5) (h3 : 0 ≤ S 3 ∧ S 3 ≤ 8) (h4 : 0 ≤ S 4 ∧ S 4 ≤ 8) (sz : Nat) : MwrI l g yX11_written cX11_written 4 9 0 0 [.ref (ad 0), .ref (ad 17), .int (iI n), .int (iI p)] sz (CW g ad F A E tl) (fun v w => v = iI (listR 4 S n p) ∧ ∃ F2 A2, w = CW g ad F2 A2 E tl ∧ KpS F F2 A A2 ∧ ShW g ad F2 A2 E tl (listS 4 108 116 S n p) nm) := by
  refine wr_startI (own := RX11) (by decide) rfl (Nat.le_of_ble_eq_true rfl) ?_
  intro Pg Ev s Mi args below Mt Cd ls Q Aw hC hK hS hnm hl hQ
  have hSh0 := hSh
  obtain ⟨hTp, hCd, hNs, hWh, hRw, hSn, hPl, hBk, hMp⟩ := hSh0
  have hNm := hNs.2.2
  have hD0 := hI.1
  have hNs0 := hNs.1
  have e4 := hTp.1
  have e13 := hSn.1
  have e15 := hPl.1
  have e17 := hBk.1
  have hl : lv_has ls 4 [(0, .ref (ad 0)), (1, .ref (ad 17)), (2, .int (iI n)), (3, .int (iI p))] := hl
  obtain ⟨H, hH⟩ : ∃ H, H = s.heap := ⟨_, rfl⟩
  obtain ⟨locs, hlo⟩ : ∃ locs : List Loc, locs = [] := ⟨_, rfl⟩
  have hS : St g Aw s.heap H locs (CW g ad F A E tl) := by rw [hH, hlo]; exact hS
  have goal : W Pg l Ev (rmC 9 0 0) s Mi args below Mt Cd H locs 0 0 Q (F0 Mi 0 ls []) := ?goal
  · rw [hH, hlo] at goal; exact goal
  clear hH hlo
  refine li_iload_n hC hl 2 rfl dX11_written_0 ?_
  refine li_iconst hC dX11_written_1 ?_
  refine li_icmp_ne (tgt := 11) hC (by decide) hn (rg (by decide) (by decide)) dX11_written_2 (fun c1 => ?_) (fun c1 => ?_)
  · refine li_aload_n hC hl 0 rfl dX11_written_11 ?_
    refine li_get hC hK.1 ck_X11 (hS.1 0 _ rfl) 1 (by decide) fl_X11_23 rfl (v := .ref (ad 3)) rfl dX11_written_12 ?_
    refine li_iload_n hC hl 2 rfl dX11_written_15 ?_
    refine ro_callVi hC (c_X8_has l g ad F A E tl S nm hSh hI n hn) mk_X8_has ml_X11_151 (rr (by decide)) ⟨Nat.le_of_ble_eq_true rfl, Nat.le_of_ble_eq_true rfl⟩ hK.1 (hS.ro hK) hS.1 (li_recv hK.1 ck_X8 (hS.1 3 _ rfl)) rfl hl.1 rfl (Nat.le_of_ble_eq_true rfl) dX11_written_16 ?_
    refine li_ifeq_b (tgt := 31) hC (by decide) dX11_written_19 (fun c2 => ?_) (fun c2 => ?_)
    · refine li_iconst hC dX11_written_31 ?_
      exact hQ _ _ _ _ _ _ _ _ dX11_written_32 hS (by omega) (by omega) (⟨iI_inj (by unfold listR; rw [iteP_f (by omega), iteP_f (by omega)]), F, A, rfl, (KpS.rf _ _), (by unfold listS; rw [iteP_f (by omega), iteP_f (fun h9 => by have a1 := h9.1; have a2 := h9.2.1; omega)]; exact hSh)⟩)
    · refine li_iload_n hC hl 3 rfl dX11_written_22 ?_
      refine li_if_lt (tgt := 31) hC (by decide) hp dX11_written_23 (fun c3 => ?_) (fun c3 => ?_)
      · refine li_iconst hC dX11_written_31 ?_
        exact hQ _ _ _ _ _ _ _ _ dX11_written_32 hS (by omega) (by omega) (⟨iI_inj (by unfold listR; rw [iteP_f (by omega), iteP_f (by omega)]), F, A, rfl, (KpS.rf _ _), (by unfold listS; rw [iteP_f (by omega), iteP_f (fun h9 => by have a1 := h9.1; have a2 := h9.2.1; omega)]; exact hSh)⟩)
      · refine li_iload_n hC hl 3 rfl dX11_written_26 ?_
        refine li_iconst hC dX11_written_27 ?_
        refine li_icmp_le (tgt := 33) hC (by decide) hp (rg (by decide) (by decide)) dX11_written_28 (fun c4 => ?_) (fun c4 => ?_)
        · refine li_aload_n hC hl 1 rfl dX11_written_33 ?_
          refine ro_callVi hC (c_X6_size l g (ws := CW g ad F A E tl) (i := 17) (j := 18) (a := (ad 17)) (b := (ad 18)) (n := 16) (f := (A 18)) (sz := F 17) rfl rfl (Nat.le_of_ble_eq_true rfl)) mk_X6_size ml_X11_51 (rr (by decide)) ⟨Nat.zero_le _, Nat.zero_le _⟩ hK.1 (hS.ro hK) hS.1 (li_recv hK.1 ck_X6 (hS.1 17 _ rfl)) rfl hl.1 rfl (Nat.le_of_ble_eq_true rfl) dX11_written_34 ?_
          rw [show F 17 = 2 * S 4 from hBk.1]
          refine li_bipush hC (z := 16) rfl dX11_written_37 ?_
          refine li_icmp_lt (tgt := 45) hC (by decide) (rg (by omega) (by omega)) (rg (by decide) (by decide)) dX11_written_39 (fun c5 => ?_) (fun c5 => ?_)
          · refine li_aload_n hC hl 1 rfl dX11_written_45 ?_
            refine li_iload_n hC hl 2 rfl dX11_written_46 ?_
            refine wr_callVv hC (c_X6_add l g (ws := CW g ad F A E tl) (i := 17) (j := 18) (a := (ad 17)) (b := (ad 18)) (n := 16) (f := (A 18)) (sz := F 17) rfl rfl (Nat.le_of_ble_eq_true rfl) (v := n) ⟨by omega, by omega⟩ (by decide) (ws2 := CW g ad (va_up F 17 ((F 17) + 1)) (va_up A 18 (va_up (A 18) ((F 17).toNat) n)) E tl) rfl _) mk_X6_add ml_X11_55 (rr (by decide)) ⟨by simp only [rmC]; omega, by simp only [rmC]; omega⟩ hK hS (li_recv hK.1 ck_X6 (hS.1 17 _ rfl)) rfl hl.1 rfl (Nat.le_of_ble_eq_true rfl) dX11_written_47 (fun w H locs hp hS => ?_)
            subst hp
            refine li_aload_n hC hl 1 rfl dX11_written_50 ?_
            refine li_iload_n hC hl 3 rfl dX11_written_51 ?_
            refine wr_callVv hC (c_X6_add l g (ws := CW g ad (va_up F 17 ((F 17) + 1)) (va_up A 18 (va_up (A 18) ((F 17).toNat) n)) E tl) (i := 17) (j := 18) (a := (ad 17)) (b := (ad 18)) (n := 16) (f := va_up (A 18) ((F 17).toNat) n) (sz := (F 17) + 1) rfl rfl (Nat.le_of_ble_eq_true rfl) (v := p) ⟨by omega, by omega⟩ (by decide) (ws2 := CW g ad (va_up F 17 (((F 17) + 1) + 1)) (va_up A 18 (va_up (va_up (A 18) ((F 17).toNat) n) (((F 17) + 1).toNat) p)) E tl) rfl _) mk_X6_add ml_X11_55 (rr (by decide)) ⟨by simp only [rmC]; omega, by simp only [rmC]; omega⟩ hK hS (li_recv hK.1 ck_X6 (hS.1 17 _ rfl)) rfl hl.1 rfl (Nat.le_of_ble_eq_true rfl) dX11_written_52 (fun w H locs hp hS => ?_)
            subst hp
            refine li_aload_n hC hl 1 rfl dX11_written_55 ?_
            refine ro_callVi hC (c_X6_size l g (ws := CW g ad (va_up F 17 (((F 17) + 1) + 1)) (va_up A 18 (va_up (va_up (A 18) ((F 17).toNat) n) (((F 17) + 1).toNat) p)) E tl) (i := 17) (j := 18) (a := (ad 17)) (b := (ad 18)) (n := 16) (f := va_up (va_up (A 18) ((F 17).toNat) n) (((F 17) + 1).toNat) p) (sz := ((F 17) + 1) + 1) rfl rfl (Nat.le_of_ble_eq_true rfl)) mk_X6_size ml_X11_51 (rr (by decide)) ⟨Nat.zero_le _, Nat.zero_le _⟩ hK.1 (hS.ro hK) hS.1 (li_recv hK.1 ck_X6 (hS.1 17 _ rfl)) rfl hl.1 rfl (Nat.le_of_ble_eq_true rfl) dX11_written_56 ?_
            refine li_iconst hC dX11_written_59 ?_
            refine li_idivN hC (by omega) (by omega) (by omega) (by omega) dX11_written_60 ?_
            exact hQ _ _ _ _ _ _ _ _ dX11_written_61 hS (by omega) (by omega) (⟨iI_inj (by unfold listR; rw [iteP_f (by omega), iteP_t (by omega), iteP_f (show ¬ S (Int.toNat 4) = 8 from (by show ¬ S 4 = 8; omega))]; show _ = S 4 + 1; omega), (va_up F 17 (((F 17) + 1) + 1)), (va_up A 18 (va_up (va_up (A 18) ((F 17).toNat) n) (((F 17) + 1).toNat) p)), rfl, ⟨fun k hk => (by first | rfl | (repeat rw [up_ne _ _ (by omega)])), fun k hk => (by first | rfl | (repeat rw [up_ne _ _ (by omega)]))⟩, (by unfold listS; rw [iteP_f (by omega), iteP_t ⟨by omega, by omega, (show S 4 ≠ 8 by omega)⟩]; show ShW g ad _ _ E tl (va_up (va_up (va_up S (108 + S 4).toNat n) (116 + S 4).toNat p) 4 (S 4 + 1)) nm; unfold ShW ShP; exact ⟨(sh1 (fun j hj => by (repeat rw [up_ne _ _ (by omega)])) (by omega) hTp), (sh2 (fun j hj => by (repeat rw [up_ne _ _ (by omega)])) hH hCd), (sh3 (fun j hj => by (repeat rw [up_ne _ _ (by omega)])) hD0 hNs), (sh4 (fun j hj => by (repeat rw [up_ne _ _ (by omega)])) hD0 hWh), (sh5 (fun j hj => by (repeat rw [up_ne _ _ (by omega)])) hRw), (sh6 (fun j hj => by (repeat rw [up_ne _ _ (by omega)])) (by omega) hSn), (sh7 (fun j hj => by (repeat rw [up_ne _ _ (by omega)])) (by omega) hPl), (by refine ⟨by show (F 17 + 1) + 1 = _; rw [up_same]; omega, fun k h0 h1 => ?_⟩; rw [up_same] at h1; show ((va_up (va_up (A 18) (F 17).toNat n) (F 17 + 1).toNat p) (2 * k).toNat = _ ∧ (va_up (va_up (A 18) (F 17).toNat n) (F 17 + 1).toNat p) ((2 * k) + 1).toNat = _); rw [up_ne _ _ (show (108 + k).toNat ≠ 4 by omega), up_ne _ _ (show (116 + k).toNat ≠ 4 by omega)]; rcases (show k < S 4 ∨ k = S 4 by omega) with q | q; { rw [up_ne _ _ (show (2 * k).toNat ≠ (F 17 + 1).toNat by omega), up_ne _ _ (show (2 * k).toNat ≠ (F 17).toNat by omega), up_ne _ _ (show ((2 * k) + 1).toNat ≠ (F 17 + 1).toNat by omega), up_ne _ _ (show ((2 * k) + 1).toNat ≠ (F 17).toNat by omega)]; (repeat rw [up_ne _ _ (show (108 + k).toNat ≠ _ by omega)]); (repeat rw [up_ne _ _ (show (116 + k).toNat ≠ _ by omega)]); exact hBk.2 k h0 q }; { rw [q]; refine ⟨?_, ?_⟩; { rw [up_ne _ _ (show (2 * S 4).toNat ≠ (F 17 + 1).toNat by omega), show (2 * S 4).toNat = (F 17).toNat by omega, up_same, up_ne _ _ (show (108 + S 4).toNat ≠ (116 + S 4).toNat by omega), up_same] }; { rw [show ((2 * S 4) + 1).toNat = (F 17 + 1).toNat by omega, up_same, up_same] } }), (sh9 (by (repeat rw [up_ne _ _ (by omega)])) (fun j hj => by (repeat rw [up_ne _ _ (by omega)])) hH hMp)⟩)⟩)
          · refine li_bipush hC (z := -4) rfl dX11_written_42 ?_
            exact hQ _ _ _ _ _ _ _ _ dX11_written_44 hS (by omega) (by omega) (⟨iI_inj (by unfold listR; rw [iteP_f (by omega), iteP_t (by omega), iteP_t (show S (Int.toNat 4) = 8 from (by show S 4 = 8; omega))]), F, A, rfl, (KpS.rf _ _), (by unfold listS; rw [iteP_f (by omega), iteP_f (fun h9 => h9.2.2 (show S 4 = 8 by omega))]; exact hSh)⟩)
        · refine li_iconst hC dX11_written_31 ?_
          exact hQ _ _ _ _ _ _ _ _ dX11_written_32 hS (by omega) (by omega) (⟨iI_inj (by unfold listR; rw [iteP_f (by omega), iteP_f (by omega)]), F, A, rfl, (KpS.rf _ _), (by unfold listS; rw [iteP_f (by omega), iteP_f (fun h9 => by have a1 := h9.1; have a2 := h9.2.1; omega)]; exact hSh)⟩)
  · refine li_aload_n hC hl 1 rfl dX11_written_5 ?_
    refine wr_callVv hC (c_X6_clear l g (ws := CW g ad F A E tl) (i := 17) (a := (ad 17)) (b := (ad 18)) (sz := F 17) rfl (ws2 := CW g ad (va_up F 17 0) A E tl) rfl _) mk_X6_clear ml_X11_66 (rr (by decide)) ⟨by simp only [rmC]; omega, by simp only [rmC]; omega⟩ hK hS (li_recv hK.1 ck_X6 (hS.1 17 _ rfl)) rfl hl.1 rfl (Nat.le_of_ble_eq_true rfl) dX11_written_6 (fun w H locs hp hS => ?_)
    subst hp
    refine li_iconst hC dX11_written_9 ?_
    exact hQ _ _ _ _ _ _ _ _ dX11_written_10 hS (by omega) (by omega) (⟨iI_inj (by unfold listR; rw [iteP_t (by omega)]), (va_up F 17 0), A, rfl, ⟨fun k hk => (by first | rfl | (repeat rw [up_ne _ _ (by omega)])), fun k hk => (by first | rfl | (repeat rw [up_ne _ _ (by omega)]))⟩, (by unfold listS; rw [iteP_t (by omega)]; show ShW g ad _ _ E tl (va_up S 4 0) nm; unfold ShW ShP; exact ⟨(sh1 (fun j hj => by (repeat rw [up_ne _ _ (by omega)])) (by omega) hTp), (sh2 (fun j hj => by (repeat rw [up_ne _ _ (by omega)])) hH hCd), (sh3 (fun j hj => by (repeat rw [up_ne _ _ (by omega)])) hD0 hNs), (sh4 (fun j hj => by (repeat rw [up_ne _ _ (by omega)])) hD0 hWh), (sh5 (fun j hj => by (repeat rw [up_ne _ _ (by omega)])) hRw), (sh6 (fun j hj => by (repeat rw [up_ne _ _ (by omega)])) (by omega) hSn), (sh7 (fun j hj => by (repeat rw [up_ne _ _ (by omega)])) (by omega) hPl), (by refine ⟨by rw [up_same]; rfl, fun k h0 h1 => ?_⟩; rw [up_same] at h1; omega), (sh9 (by (repeat rw [up_ne _ _ (by omega)])) (fun j hj => by (repeat rw [up_ne _ _ (by omega)])) hH hMp)⟩)⟩)
set_option maxHeartbeats 4000000 in
set_option maxRecDepth 100000 in
theorem c_X11_book (l : Launch) (g : GG) (ad : Nat → Nat) (F : Nat → Int) (A : Nat → Nat → Int) (E : Nat → Nat) (tl : va_W) (S : Nat → Int) (nm : Nat → Nat) (hSh : ShW g ad F A E tl S nm) (hI : InvD S) (n : Int) (p : Int) (hn : rng n) (hp : rng p) (hH : InvH S) (h5 : 0 ≤ S 5 ∧ S 5 ≤ 100) (h2 : 0 ≤ S 2 ∧ S 2 ≤ 5) (h3 : 0 ≤ S 3 ∧ S 3 ≤ 8) (h4 : 0 ≤ S 4 ∧ S 4 ≤ 8) (sz : Nat) : MwrI l g yX11_book cX11_book 3 10 0 0 [.ref (ad 0), .int (iI n), .int (iI p)] sz (CW g ad F A E tl) (fun v w => v = iI (listR 4 S n p) ∧ ∃ F2 A2, w = CW g ad F2 A2 E tl ∧ KpS F F2 A A2 ∧ ShW g ad F2 A2 E tl (listS 4 108 116 S n p) nm) := by
  refine wr_startI (own := RX11) (by decide) rfl (Nat.le_of_ble_eq_true rfl) ?_
  intro Pg Ev s Mi args below Mt Cd ls Q Aw hC hK hS hnm hl hQ
  have hSh0 := hSh
  obtain ⟨hTp, hCd, hNs, hWh, hRw, hSn, hPl, hBk, hMp⟩ := hSh0
  have hNm := hNs.2.2
  have hD0 := hI.1
  have hNs0 := hNs.1
  have hl : lv_has ls 3 [(0, .ref (ad 0)), (1, .int (iI n)), (2, .int (iI p))] := hl
  obtain ⟨H, hH⟩ : ∃ H, H = s.heap := ⟨_, rfl⟩
  obtain ⟨locs, hlo⟩ : ∃ locs : List Loc, locs = [] := ⟨_, rfl⟩
  have hS : St g Aw s.heap H locs (CW g ad F A E tl) := by rw [hH, hlo]; exact hS
  have goal : W Pg l Ev (rmC 10 0 0) s Mi args below Mt Cd H locs 0 0 Q (F0 Mi 0 ls []) := ?goal
  · rw [hH, hlo] at goal; exact goal
  clear hH hlo
  refine li_aload_n hC hl 0 rfl dX11_book_0 ?_
  refine li_aload_n hC hl 0 rfl dX11_book_1 ?_
  refine li_get hC hK.1 ck_X11 (hS.1 0 _ rfl) 1 (by decide) fl_X11_23 rfl (v := .ref (ad 3)) rfl dX11_book_2 ?_
  refine li_get hC hK.1 ck_X8 (hS.1 3 _ rfl) 7 (by decide) fl_X11_248 rfl (v := .ref (ad 17)) rfl dX11_book_5 ?_
  refine li_iload_n hC hl 1 rfl dX11_book_8 ?_
  refine li_iload_n hC hl 2 rfl dX11_book_9 ?_
  refine wr_callVi hC (c_X11_written_17 l g ad F A E tl S nm hSh hI n p hn hp hH (by omega) (by omega) (by omega) (by omega) _) mk_X11_written ml_X11_240 (rr (by decide)) ⟨by simp only [rmC]; omega, by simp only [rmC]; omega⟩ hK hS (li_recv hK.1 ck_X11 (hS.1 0 _ rfl)) rfl hl.1 rfl (Nat.le_of_ble_eq_true rfl) dX11_book_10 (fun v w H locs hp hS => ?_)
  obtain ⟨hv, F2, A2, hw, hk, hsh⟩ := hp
  rw [hw] at hS
  rw [hv]
  exact hQ _ _ _ _ _ _ _ _ dX11_book_13 hS (by omega) (by omega) (⟨rfl, F2, A2, rfl, hk, hsh⟩)
set_option maxHeartbeats 4000000 in
set_option maxRecDepth 100000 in
theorem c_X11_done (l : Launch) (g : GG) (ad : Nat → Nat) (F : Nat → Int) (A : Nat → Nat → Int) (E : Nat → Nat) (tl : va_W) (S : Nat → Int) (nm : Nat → Nat) (hSh : ShW g ad F A E tl S nm) (hI : InvD S) (what : Int) (hwhat : rng what) (hH : InvH S) (h5 : 0 ≤ S 5 ∧ S 5 ≤ 100) (h2 : 0 ≤ S 2 ∧ S 2 ≤ 5) (h3 : 0 ≤ S 3 ∧ S 3 ≤ 8) (h4 : 0 ≤ S 4 ∧ S 4 ≤ 8) (hL : InvL S) (hC0 : InvC S) (hG : InvG S) (sz : Nat) : MwrI l g yX11_done cX11_done 3 10 0 0 [.ref (ad 0), .int (iI what)] sz (CW g ad F A E tl) (fun v w => v = iI (doneS S what) ∧ ∃ F2 A2, w = CW g ad F2 A2 E tl ∧ KpS F F2 A A2 ∧ ShW g ad F2 A2 E tl (S) nm) := by
  refine wr_startI (own := RX11) (by decide) rfl (Nat.le_of_ble_eq_true rfl) ?_
  intro Pg Ev s Mi args below Mt Cd ls Q Aw hC hK hS hnm hl hQ
  have hSh0 := hSh
  obtain ⟨hTp, hCd, hNs, hWh, hRw, hSn, hPl, hBk, hMp⟩ := hSh0
  have hNm := hNs.2.2
  have hD0 := hI.1
  have hNs0 := hNs.1
  have e4 := hTp.1
  have e13 := hSn.1
  have e15 := hPl.1
  have e17 := hBk.1
  have hl : lv_has ls 3 [(0, .ref (ad 0)), (1, .int (iI what))] := hl
  obtain ⟨H, hH⟩ : ∃ H, H = s.heap := ⟨_, rfl⟩
  obtain ⟨locs, hlo⟩ : ∃ locs : List Loc, locs = [] := ⟨_, rfl⟩
  have hS : St g Aw s.heap H locs (CW g ad F A E tl) := by rw [hH, hlo]; exact hS
  have goal : W Pg l Ev (rmC 10 0 0) s Mi args below Mt Cd H locs 0 0 Q (F0 Mi 0 ls []) := ?goal
  · rw [hH, hlo] at goal; exact goal
  clear hH hlo
  refine li_iload_n hC hl 1 rfl dX11_done_0 ?_
  refine li_if_eq (tgt := 13) hC (by decide) hwhat dX11_done_1 (fun c1 => ?_) (fun c1 => ?_)
  · refine li_aload_n hC hl 0 rfl dX11_done_13 ?_
    refine li_get hC hK.1 ck_X11 (hS.1 0 _ rfl) 1 (by decide) fl_X11_23 rfl (v := .ref (ad 3)) rfl dX11_done_14 ?_
    refine wr_callVq hC (c_X8_planned l g ad F A E tl S nm hSh hI hH hL _) mk_X8_planned ml_X11_244 (rr (by decide)) ⟨by simp only [rmC]; omega, by simp only [rmC]; omega⟩ hK hS (li_recv hK.1 ck_X8 (hS.1 3 _ rfl)) rfl hl.1 rfl (Nat.le_of_ble_eq_true rfl) dX11_done_17 (fun v w H locs hp hS => ?_)
    obtain ⟨hv, f, hw, hf⟩ := hp
    rw [hw] at hS
    rw [hv, show va_rf (some (ad 19)) = .ref (ad 19) from rfl]
    refine li_astore_n hC (lv' := [(2, .ref (ad 19)), (0, .ref (ad 0)), (1, .int (iI what))]) hl (by decide) rfl dX11_done_20 (fun ls hl => ?_)
    refine li_iload_n hC hl 2 rfl dX11_done_21 ?_
    refine li_if_ne (tgt := 39) hC (by decide) hwhat dX11_done_22 (fun c2 => ?_) (fun c2 => ?_)
    · refine li_aload_n hC hl 1 rfl dX11_done_39 ?_
      refine li_get hC hK.1 ck_X11 (hS.1 0 _ rfl) 1 (by decide) fl_X11_23 rfl (v := .ref (ad 3)) rfl dX11_done_40 ?_
      refine li_aload_n hC hl 0 rfl dX11_done_43 ?_
      refine ro_callVi hC (c_X8_score l g ad (va_up F 19 (F 9)) (va_up A 20 f) E tl S nm hSh hI 19 (fun j => planS S (S 3).toNat (42 + j).toNat) (Or.inr rfl) hf (fun j h0 h1 => plan_rng hI hL (by omega) ⟨h0, h1⟩) hH hC0 hG) mk_X8_score ml_X11_184 (rr (by decide)) ⟨Nat.le_of_ble_eq_true rfl, Nat.le_of_ble_eq_true rfl⟩ hK.1 (hS.ro hK) hS.1 (li_recv hK.1 ck_X8 (hS.1 3 _ rfl)) rfl hl.1 rfl (Nat.le_of_ble_eq_true rfl) dX11_done_44 ?_
      exact hQ _ _ _ _ _ _ _ _ dX11_done_47 hS (by omega) (by omega) (⟨iI_inj (by rw [show what = 1 by omega, done_1 hI hL hH]), (va_up F 19 (F 9)), (va_up A 20 f), rfl, ⟨fun k hk => (by first | rfl | (repeat rw [up_ne _ _ (by omega)])), fun k hk => (by first | rfl | (repeat rw [up_ne _ _ (by omega)]))⟩, hSh⟩)
    · refine li_aload_n hC hl 1 rfl dX11_done_25 ?_
      refine li_get hC hK.1 ck_X11 (hS.1 0 _ rfl) 1 (by decide) fl_X11_23 rfl (v := .ref (ad 3)) rfl dX11_done_26 ?_
      refine li_aload_n hC hl 0 rfl dX11_done_29 ?_
      refine ro_callVi hC (c_X8_laid l g ad (va_up F 19 (F 9)) (va_up A 20 f) E tl S nm hSh hI 19 (fun j => planS S (S 3).toNat (42 + j).toNat) (Or.inr rfl) hf (fun j h0 h1 => plan_rng hI hL (by omega) ⟨h0, h1⟩)) mk_X8_laid ml_X11_175 (rr (by decide)) ⟨Nat.le_of_ble_eq_true rfl, Nat.le_of_ble_eq_true rfl⟩ hK.1 (hS.ro hK) hS.1 (li_recv hK.1 ck_X8 (hS.1 3 _ rfl)) rfl hl.1 rfl (Nat.le_of_ble_eq_true rfl) dX11_done_30 ?_
      refine ro_callSi hC (c_J6_bitCount_0f7a4 l g (setB (fun n => (fun j => planS S (S 3).toNat (42 + j).toNat) n ≠ 4) (S 0).toNat) (set7 _ (by omega))) mk_J6_bitCount_0f7a4 ml_X11_179 (rr (by decide)) ⟨Nat.zero_le _, Nat.zero_le _⟩ hK.1 (hS.ro hK) trivial rfl hl.1 rfl (Nat.le_of_ble_eq_true rfl) dX11_done_33 ?_
      rw [pc_set _ _ (by omega)]
      have q3 := cntB_rng (fun n => (fun j => planS S (S 3).toNat (42 + j).toNat) n ≠ 4) (S 0).toNat
      refine li_goto (tgt := 47) hC (by decide) dX11_done_36 ?_
      exact hQ _ _ _ _ _ _ _ _ dX11_done_47 hS (by omega) (by omega) (⟨iI_inj (by rw [show what = 0 by omega, done_0 hI hL]), (va_up F 19 (F 9)), (va_up A 20 f), rfl, ⟨fun k hk => (by first | rfl | (repeat rw [up_ne _ _ (by omega)])), fun k hk => (by first | rfl | (repeat rw [up_ne _ _ (by omega)]))⟩, hSh⟩)
  · refine li_iload_n hC hl 1 rfl dX11_done_4 ?_
    refine li_iconst hC dX11_done_5 ?_
    refine li_icmp_eq (tgt := 13) hC (by decide) hwhat (rg (by decide) (by decide)) dX11_done_6 (fun c4 => ?_) (fun c4 => ?_)
    · refine li_aload_n hC hl 0 rfl dX11_done_13 ?_
      refine li_get hC hK.1 ck_X11 (hS.1 0 _ rfl) 1 (by decide) fl_X11_23 rfl (v := .ref (ad 3)) rfl dX11_done_14 ?_
      refine wr_callVq hC (c_X8_planned l g ad F A E tl S nm hSh hI hH hL _) mk_X8_planned ml_X11_244 (rr (by decide)) ⟨by simp only [rmC]; omega, by simp only [rmC]; omega⟩ hK hS (li_recv hK.1 ck_X8 (hS.1 3 _ rfl)) rfl hl.1 rfl (Nat.le_of_ble_eq_true rfl) dX11_done_17 (fun v w H locs hp hS => ?_)
      obtain ⟨hv, f, hw, hf⟩ := hp
      rw [hw] at hS
      rw [hv, show va_rf (some (ad 19)) = .ref (ad 19) from rfl]
      refine li_astore_n hC (lv' := [(2, .ref (ad 19)), (0, .ref (ad 0)), (1, .int (iI what))]) hl (by decide) rfl dX11_done_20 (fun ls hl => ?_)
      refine li_iload_n hC hl 2 rfl dX11_done_21 ?_
      refine li_if_ne (tgt := 39) hC (by decide) hwhat dX11_done_22 (fun c5 => ?_) (fun c5 => ?_)
      · refine li_aload_n hC hl 1 rfl dX11_done_39 ?_
        refine li_get hC hK.1 ck_X11 (hS.1 0 _ rfl) 1 (by decide) fl_X11_23 rfl (v := .ref (ad 3)) rfl dX11_done_40 ?_
        refine li_aload_n hC hl 0 rfl dX11_done_43 ?_
        refine ro_callVi hC (c_X8_score l g ad (va_up F 19 (F 9)) (va_up A 20 f) E tl S nm hSh hI 19 (fun j => planS S (S 3).toNat (42 + j).toNat) (Or.inr rfl) hf (fun j h0 h1 => plan_rng hI hL (by omega) ⟨h0, h1⟩) hH hC0 hG) mk_X8_score ml_X11_184 (rr (by decide)) ⟨Nat.le_of_ble_eq_true rfl, Nat.le_of_ble_eq_true rfl⟩ hK.1 (hS.ro hK) hS.1 (li_recv hK.1 ck_X8 (hS.1 3 _ rfl)) rfl hl.1 rfl (Nat.le_of_ble_eq_true rfl) dX11_done_44 ?_
        exact hQ _ _ _ _ _ _ _ _ dX11_done_47 hS (by omega) (by omega) (⟨iI_inj (by rw [show what = 1 by omega, done_1 hI hL hH]), (va_up F 19 (F 9)), (va_up A 20 f), rfl, ⟨fun k hk => (by first | rfl | (repeat rw [up_ne _ _ (by omega)])), fun k hk => (by first | rfl | (repeat rw [up_ne _ _ (by omega)]))⟩, hSh⟩)
      · refine li_aload_n hC hl 1 rfl dX11_done_25 ?_
        refine li_get hC hK.1 ck_X11 (hS.1 0 _ rfl) 1 (by decide) fl_X11_23 rfl (v := .ref (ad 3)) rfl dX11_done_26 ?_
        refine li_aload_n hC hl 0 rfl dX11_done_29 ?_
        refine ro_callVi hC (c_X8_laid l g ad (va_up F 19 (F 9)) (va_up A 20 f) E tl S nm hSh hI 19 (fun j => planS S (S 3).toNat (42 + j).toNat) (Or.inr rfl) hf (fun j h0 h1 => plan_rng hI hL (by omega) ⟨h0, h1⟩)) mk_X8_laid ml_X11_175 (rr (by decide)) ⟨Nat.le_of_ble_eq_true rfl, Nat.le_of_ble_eq_true rfl⟩ hK.1 (hS.ro hK) hS.1 (li_recv hK.1 ck_X8 (hS.1 3 _ rfl)) rfl hl.1 rfl (Nat.le_of_ble_eq_true rfl) dX11_done_30 ?_
        refine ro_callSi hC (c_J6_bitCount_0f7a4 l g (setB (fun n => (fun j => planS S (S 3).toNat (42 + j).toNat) n ≠ 4) (S 0).toNat) (set7 _ (by omega))) mk_J6_bitCount_0f7a4 ml_X11_179 (rr (by decide)) ⟨Nat.zero_le _, Nat.zero_le _⟩ hK.1 (hS.ro hK) trivial rfl hl.1 rfl (Nat.le_of_ble_eq_true rfl) dX11_done_33 ?_
        rw [pc_set _ _ (by omega)]
        have q6 := cntB_rng (fun n => (fun j => planS S (S 3).toNat (42 + j).toNat) n ≠ 4) (S 0).toNat
        refine li_goto (tgt := 47) hC (by decide) dX11_done_36 ?_
        exact hQ _ _ _ _ _ _ _ _ dX11_done_47 hS (by omega) (by omega) (⟨iI_inj (by rw [show what = 0 by omega, done_0 hI hL]), (va_up F 19 (F 9)), (va_up A 20 f), rfl, ⟨fun k hk => (by first | rfl | (repeat rw [up_ne _ _ (by omega)])), fun k hk => (by first | rfl | (repeat rw [up_ne _ _ (by omega)]))⟩, hSh⟩)
    · refine li_sipush hC (z := -10001) rfl dX11_done_9 ?_
      exact hQ _ _ _ _ _ _ _ _ dX11_done_12 hS (by omega) (by omega) (⟨iI_inj (by unfold doneS; rw [iteP_f (by omega)]), F, A, rfl, KpS.rf _ _, hSh⟩)
set_option maxHeartbeats 4000000 in
set_option maxRecDepth 100000 in
theorem c_X11_act (l : Launch) (g : GG) (ad : Nat → Nat) (F : Nat → Int) (A : Nat → Nat → Int) (E : Nat → Nat) (tl : va_W) (S : Nat → Int) (nm : Nat → Nat) (hSh : ShW g ad F A E tl S nm) (hI : InvD S) (n : Int) (act : Int) (x : Int) (hn : rng n) (hact : rng act) (sz : Nat) : MwrI l g yX11_act cX11_act 5 10 0 0 [.ref (ad 0), .int (iI n), .int (iI act), .int (iI x)] sz (CW g ad F A E tl) (fun v w => v = iI (actV S n act x) ∧ w = CW g ad (va_up F 1 (actT S n act (A 2)).1) (va_up A 2 (actT S n act (A 2)).2) E tl) := by
  refine wr_startI (own := RX11) (by decide) rfl (Nat.le_of_ble_eq_true rfl) ?_
  intro Pg Ev s Mi args below Mt Cd ls Q Aw hC hK hS hnm hl hQ
  have hSh0 := hSh
  obtain ⟨hTp, hCd, hNs, hWh, hRw, hSn, hPl, hBk, hMp⟩ := hSh0
  have hNm := hNs.2.2
  have hD0 := hI.1
  have hNs0 := hNs.1
  have hl : lv_has ls 5 [(0, .ref (ad 0)), (1, .int (iI n)), (2, .int (iI act)), (3, .int (iI x))] := hl
  obtain ⟨H, hH⟩ : ∃ H, H = s.heap := ⟨_, rfl⟩
  obtain ⟨locs, hlo⟩ : ∃ locs : List Loc, locs = [] := ⟨_, rfl⟩
  have hS : St g Aw s.heap H locs (CW g ad F A E tl) := by rw [hH, hlo]; exact hS
  have goal : W Pg l Ev (rmC 10 0 0) s Mi args below Mt Cd H locs 0 0 Q (F0 Mi 0 ls []) := ?goal
  · rw [hH, hlo] at goal; exact goal
  clear hH hlo
  refine li_aload_n hC hl 0 rfl dX11_act_0 ?_
  refine li_get hC hK.1 ck_X11 (hS.1 0 _ rfl) 0 (by decide) fl_X11_16 rfl (v := .ref (ad 1)) rfl dX11_act_1 ?_
  refine wr_callVv hC (c_X6_clear l g (ws := CW g ad F A E tl) (i := 1) (a := (ad 1)) (b := (ad 2)) (sz := F 1) rfl (ws2 := CW g ad (va_up F 1 0) A E tl) rfl _) mk_X6_clear ml_X11_66 (rr (by decide)) ⟨by simp only [rmC]; omega, by simp only [rmC]; omega⟩ hK hS (li_recv hK.1 ck_X6 (hS.1 1 _ rfl)) rfl hl.1 rfl (Nat.le_of_ble_eq_true rfl) dX11_act_4 (fun w H locs hp hS => ?_)
  subst hp
  refine li_aload_n hC hl 0 rfl dX11_act_7 ?_
  refine li_get hC hK.1 ck_X11 (hS.1 0 _ rfl) 1 (by decide) fl_X11_23 rfl (v := .ref (ad 3)) rfl dX11_act_8 ?_
  refine li_iload_n hC hl 1 rfl dX11_act_11 ?_
  refine ro_callVq hC (c_X8_name l g ad (va_up F 1 0) A E tl S nm hSh hI n hn) mk_X8_name ml_X11_106 (rr (by decide)) ⟨Nat.zero_le _, Nat.zero_le _⟩ hK.1 (hS.ro hK) hS.1 (li_recv hK.1 ck_X8 (hS.1 3 _ rfl)) rfl hl.1 rfl (Nat.le_of_ble_eq_true rfl) dX11_act_12 ?_
  by_cases cN1 : 0 ≤ n ∧ n < S 0
  · rw [iteP_t cN1, show va_rf (some (nm n.toNat)) = .ref (nm n.toNat) from rfl]
    have q3 := hI.2 n (by omega) (by omega)
    refine li_astore hC (lv' := [(4, .ref (nm n.toNat)), (0, .ref (ad 0)), (1, .int (iI n)), (2, .int (iI act)), (3, .int (iI x))]) hl (by decide) rfl dX11_act_15 (fun ls hl => ?_)
    refine li_aload hC hl 0 rfl dX11_act_17 ?_
    refine li_ifnonnull (tgt := 24) hC (by decide) dX11_act_19 ?_
    refine li_iload_n hC hl 3 rfl dX11_act_24 ?_
    by_cases c4 : act = 0
    · refine li_tableIn (tgt := 52) hC hact (by omega) (by omega) (off := 27) (by rw [c4]; rfl) (by decide) dX11_act_25 ?_
      refine li_aload hC hl 0 rfl dX11_act_52 ?_
      refine li_iload_n hC hl 4 rfl dX11_act_54 ?_
      obtain ⟨kq, hkq⟩ := hNm n (by omega) (by omega)
      have hS : St g Aw s.heap H locs (TrW g ad F A E tl (0, A 2)) := hS
      refine v_lies hC (x := x) hkq (hI.2 n (by omega) (by omega)).1 (t := (0, A 2)) ⟨Int.le_refl _, by show (0 : Int) ≤ _; omega⟩ ml_X11_251 (rr (by decide)) ⟨by simp only [rmC]; omega, by simp only [rmC]; omega⟩ hK hS hl.1 rfl (Nat.le_of_ble_eq_true rfl) dX11_act_55 (fun H locs hS => ?_)
      exact hQ _ _ _ _ _ _ _ _ dX11_act_58 hS (by omega) (by omega) (⟨iI_inj (by unfold actV; rw [iteP_t (by omega), if_pos (by omega)]), by unfold actT; rw [iteP_t (by omega), if_pos (by omega)]; rfl⟩)
    by_cases c5 : act = 1
    · refine li_tableIn (tgt := 59) hC hact (by omega) (by omega) (off := 34) (by rw [c5]; rfl) (by decide) dX11_act_25 ?_
      refine li_aload hC hl 0 rfl dX11_act_59 ?_
      refine li_iload_n hC hl 4 rfl dX11_act_61 ?_
      obtain ⟨kq, hkq⟩ := hNm n (by omega) (by omega)
      have hS : St g Aw s.heap H locs (TrW g ad F A E tl (0, A 2)) := hS
      refine v_reads hC (x := x) hkq (hI.2 n (by omega) (by omega)).1 (t := (0, A 2)) ⟨Int.le_refl _, by show (0 : Int) ≤ _; omega⟩ ml_X11_254 (rr (by decide)) ⟨by simp only [rmC]; omega, by simp only [rmC]; omega⟩ hK hS hl.1 rfl (Nat.le_of_ble_eq_true rfl) dX11_act_62 (fun H locs hS => ?_)
      exact hQ _ _ _ _ _ _ _ _ dX11_act_65 hS (by omega) (by omega) (⟨iI_inj (by unfold actV; rw [iteP_t (by omega), if_neg (by omega), if_pos (by omega)]), by unfold actT; rw [iteP_t (by omega), if_neg (by omega), if_pos (by omega)]; rfl⟩)
    by_cases c6 : act = 2
    · refine li_tableIn (tgt := 66) hC hact (by omega) (by omega) (off := 41) (by rw [c6]; rfl) (by decide) dX11_act_25 ?_
      refine li_aload hC hl 0 rfl dX11_act_66 ?_
      refine li_iload_n hC hl 4 rfl dX11_act_68 ?_
      obtain ⟨kq, hkq⟩ := hNm n (by omega) (by omega)
      have hS : St g Aw s.heap H locs (TrW g ad F A E tl (0, A 2)) := hS
      refine v_tells hC (x := x) hkq (hI.2 n (by omega) (by omega)).1 (t := (0, A 2)) ⟨Int.le_refl _, by show (0 : Int) ≤ _; omega⟩ ml_X11_257 (rr (by decide)) ⟨by simp only [rmC]; omega, by simp only [rmC]; omega⟩ hK hS hl.1 rfl (Nat.le_of_ble_eq_true rfl) dX11_act_69 (fun H locs hS => ?_)
      exact hQ _ _ _ _ _ _ _ _ dX11_act_72 hS (by omega) (by omega) (⟨iI_inj (by unfold actV; rw [iteP_t (by omega), if_neg (by omega), if_neg (by omega)]), by unfold actT; rw [iteP_t (by omega), if_neg (by omega), if_neg (by omega)]; rfl⟩)
    refine li_tableOut (tgt := 73) hC hact (by omega) (by decide) dX11_act_25 ?_
    refine li_iconst hC dX11_act_73 ?_
    exact hQ _ _ _ _ _ _ _ _ dX11_act_74 hS (by omega) (by omega) (⟨iI_inj (by unfold actV; rw [iteP_f (by omega)]), by unfold actT; rw [iteP_f (by omega)]; rfl⟩)
  · rw [iteP_f cN1, show va_rf none = .null from rfl]
    refine li_astoreN hC (lv' := [(4, .null), (0, .ref (ad 0)), (1, .int (iI n)), (2, .int (iI act)), (3, .int (iI x))]) hl (by decide) rfl dX11_act_15 (fun ls hl => ?_)
    refine li_aloadN hC hl 0 rfl dX11_act_17 ?_
    refine li_ifnonnullN hC dX11_act_19 ?_
    refine li_iconst hC dX11_act_22 ?_
    exact hQ _ _ _ _ _ _ _ _ dX11_act_23 hS (by omega) (by omega) (⟨iI_inj (by unfold actV; rw [iteP_f (by omega)]), by unfold actT; rw [iteP_f (by omega)]; rfl⟩)
set_option maxHeartbeats 4000000 in
set_option maxRecDepth 100000 in
theorem c_X11_image (l : Launch) (g : GG) (ad : Nat → Nat) (F : Nat → Int) (A : Nat → Nat → Int) (E : Nat → Nat) (tl : va_W) (S : Nat → Int) (nm : Nat → Nat) (hSh : ShW g ad F A E tl S nm) (hI : InvD S) (nd : Nat → Nat) (hld : LsP g tl (E 1) (F 78) nd) (hcd : 0 ≤ F 78 ∧ F 78 ≤ 7) (hde : E 1 = E 0 → E 1 = g.2.1 3) (sz : Nat) : MwrI l g yX11_image cX11_image 1 9 1 10 [.ref (ad 0)] sz (CW g ad F A E tl) (fun v w => v = iI (S 0) ∧ ∃ (F2 : Nat → Int) (A2 : Nat → Nat → Int) (r : Nat) (t : va_W), w = CW g ad F2 A2 (va_up E 1 r) t ∧ TlK tl t ∧ F2 66 = 1 ∧ (F2 1 = F 1 ∧ A2 2 = A 2) ∧ ShW g ad F2 A2 (va_up E 1 r) t S nm ∧ TkW g ad F2 A2 (va_up E 1 r) t S nm ∧ (r = E 0 → r = g.2.1 3)) := by
  refine wr_startI (own := RX11) (by decide) rfl (Nat.le_of_ble_eq_true rfl) ?_
  intro Pg Ev s Mi args below Mt Cd ls Q Aw hC hK hS hnm hl hQ
  have hSh0 := hSh
  obtain ⟨hTp, hCd, hNs, hWh, hRw, hSn, hPl, hBk, hMp⟩ := hSh0
  have hNm := hNs.2.2
  have hD0 := hI.1
  have hNs0 := hNs.1
  have hl : lv_has ls 1 [(0, .ref (ad 0))] := hl
  obtain ⟨H, hH⟩ : ∃ H, H = s.heap := ⟨_, rfl⟩
  obtain ⟨locs, hlo⟩ : ∃ locs : List Loc, locs = [] := ⟨_, rfl⟩
  have hS : St g Aw s.heap H locs (CW g ad F A E tl) := by rw [hH, hlo]; exact hS
  have goal : W Pg l Ev (rmC 9 1 10) s Mi args below Mt Cd H locs 0 0 Q (F0 Mi 0 ls []) := ?goal
  · rw [hH, hlo] at goal; exact goal
  clear hH hlo
  refine li_aload_n hC hl 0 rfl dX11_image_0 ?_
  refine li_get hC hK.1 ck_X11 (hS.1 0 _ rfl) 2 (by decide) fl_X11_27 rfl (v := .ref (ad 21)) rfl dX11_image_1 ?_
  refine li_aload_n hC hl 0 rfl dX11_image_4 ?_
  refine li_get hC hK.1 ck_X11 (hS.1 0 _ rfl) 1 (by decide) fl_X11_23 rfl (v := .ref (ad 3)) rfl dX11_image_5 ?_
  refine wr_callVv hC (c_X8_become_t l g ad F A E tl S nm nd hI hNm hNs.2.1 hNs.1 hld hcd hde _) mk_X8_become ml_X11_264 (rr (by decide)) ⟨by simp only [rmC]; omega, by simp only [rmC]; omega⟩ hK hS (li_recv hK.1 ck_X8 (hS.1 21 _ rfl)) rfl hl.1 rfl (Nat.le_of_ble_eq_true rfl) dX11_image_8 (fun w H locs hp hS => ?_)
  obtain ⟨m, r, t, hp, hT, hl1, hl2, hne⟩ := hp
  rw [hp] at hS
  have hSh2 : ShW g ad (va_up (va_up (va_up (va_up (va_up (va_up (va_up (va_up (va_up (va_up (va_up (va_up F 22 (F 4)) 24 (F 6)) 27 (F 9)) 29 (F 11)) 31 (F 13)) 33 (F 15)) 35 (F 17)) 63 (F 60)) 64 (F 61)) 65 (F 62)) 77 m) 78 (S 0)) (va_up (va_up (va_up (va_up (va_up (va_up (va_up A 23 (A 5)) 25 (A 7)) 28 (A 10)) 30 (A 12)) 32 (A 14)) 34 (A 16)) 36 (A 18)) (va_up E 1 r) t S nm := ⟨hTp, hCd, ⟨hNs.1, hl2, nmp_k hNm hT⟩, hWh, hRw, hSn, hPl, hBk, hMp⟩
  have hTk2 : TkW g ad (va_up (va_up (va_up (va_up (va_up (va_up (va_up (va_up (va_up (va_up (va_up (va_up F 22 (F 4)) 24 (F 6)) 27 (F 9)) 29 (F 11)) 31 (F 13)) 33 (F 15)) 35 (F 17)) 63 (F 60)) 64 (F 61)) 65 (F 62)) 77 m) 78 (S 0)) (va_up (va_up (va_up (va_up (va_up (va_up (va_up A 23 (A 5)) 25 (A 7)) 28 (A 10)) 30 (A 12)) 32 (A 14)) 34 (A 16)) 36 (A 18)) (va_up E 1 r) t S nm := ⟨hTp, hCd, ⟨rfl, hl1, nmp_k hNm hT⟩, hWh, hRw, hSn, hPl, hBk, hMp⟩
  have hI2 := hI
  refine li_aload_n hC hl 0 rfl dX11_image_11 ?_
  refine li_iconst hC dX11_image_12 ?_
  refine li_put hC hK hS ck_X11 0 rfl 5 (by decide) fl_X11_267 rfl rfl (v := .int (iI 1)) (nar_01 (Or.inr rfl)) (fit_01 (Or.inr rfl)) (Nat.le_of_ble_eq_true rfl) (ws' := CW g ad (va_up (va_up (va_up (va_up (va_up (va_up (va_up (va_up (va_up (va_up (va_up (va_up (va_up F 22 (F 4)) 24 (F 6)) 27 (F 9)) 29 (F 11)) 31 (F 13)) 33 (F 15)) 35 (F 17)) 63 (F 60)) 64 (F 61)) 65 (F 62)) 66 1) 77 m) 78 (S 0)) (va_up (va_up (va_up (va_up (va_up (va_up (va_up A 23 (A 5)) 25 (A 7)) 28 (A 10)) 30 (A 12)) 32 (A 14)) 34 (A 16)) 36 (A 18)) (va_up E 1 r) t) rfl dX11_image_13 (fun H locs hS => ?_)
  refine li_aload_n hC hl 0 rfl dX11_image_16 ?_
  refine li_get hC hK.1 ck_X11 (hS.1 0 _ rfl) 1 (by decide) fl_X11_23 rfl (v := .ref (ad 3)) rfl dX11_image_17 ?_
  refine ro_callVi hC (c_X8_dots l g ad (va_up (va_up (va_up (va_up (va_up (va_up (va_up (va_up (va_up (va_up (va_up (va_up (va_up F 22 (F 4)) 24 (F 6)) 27 (F 9)) 29 (F 11)) 31 (F 13)) 33 (F 15)) 35 (F 17)) 63 (F 60)) 64 (F 61)) 65 (F 62)) 66 1) 77 m) 78 (S 0)) (va_up (va_up (va_up (va_up (va_up (va_up (va_up A 23 (A 5)) 25 (A 7)) 28 (A 10)) 30 (A 12)) 32 (A 14)) 34 (A 16)) 36 (A 18)) (va_up E 1 r) t S nm hSh2 hI2) mk_X8_dots ml_X11_83 (rr (by decide)) ⟨by simp only [rmC]; omega, by simp only [rmC]; omega⟩ hK.1 (hS.ro hK) hS.1 (li_recv hK.1 ck_X8 (hS.1 3 _ rfl)) rfl hl.1 rfl (Nat.le_of_ble_eq_true rfl) dX11_image_20 ?_
  exact hQ _ _ _ _ _ _ _ _ dX11_image_23 hS (by omega) (by omega) (⟨rfl, (va_up (va_up (va_up (va_up (va_up (va_up (va_up (va_up (va_up (va_up (va_up (va_up (va_up F 22 (F 4)) 24 (F 6)) 27 (F 9)) 29 (F 11)) 31 (F 13)) 33 (F 15)) 35 (F 17)) 63 (F 60)) 64 (F 61)) 65 (F 62)) 66 1) 77 m) 78 (S 0)), (va_up (va_up (va_up (va_up (va_up (va_up (va_up A 23 (A 5)) 25 (A 7)) 28 (A 10)) 30 (A 12)) 32 (A 14)) 34 (A 16)) 36 (A 18)), r, t, rfl, hT, rfl, ⟨rfl, rfl⟩, hSh2, hTk2, hne⟩)
set_option maxHeartbeats 4000000 in
set_option maxRecDepth 100000 in
theorem c_X11_undo (l : Launch) (g : GG) (ad : Nat → Nat) (F : Nat → Int) (A : Nat → Nat → Int) (E : Nat → Nat) (tl : va_W) (S : Nat → Int) (nm : Nat → Nat) (hSh : ShW g ad F A E tl S nm) (hI : InvD S) (T : Nat → Int) (nt : Nat → Nat) (h66 : F 66 = 0 ∨ F 66 = 1) (hTk : F 66 = 1 → TkW g ad F A E tl T nt) (hIT : F 66 = 1 → InvD T) (hde : E 1 = E 0 → E 1 = g.2.1 3) (sz : Nat) : MwrI l g yX11_undo cX11_undo 1 9 1 10 [.ref (ad 0)] sz (CW g ad F A E tl) (fun v w => (F 66 = 0 → v = iI (-3) ∧ w = CW g ad F A E tl) ∧ (F 66 = 1 → v = iI (T 0) ∧ ∃ (F2 : Nat → Int) (A2 : Nat → Nat → Int) (r : Nat) (t : va_W), w = CW g ad F2 A2 (va_up E 0 r) t ∧ TlK tl t ∧ F2 66 = F 66 ∧ (F2 1 = F 1 ∧ A2 2 = A 2) ∧ ShW g ad F2 A2 (va_up E 0 r) t T nt ∧ TkW g ad F2 A2 (va_up E 0 r) t T nt ∧ (r = E 1 → r = g.2.1 3))) := by
  refine wr_startI (own := RX11) (by decide) rfl (Nat.le_of_ble_eq_true rfl) ?_
  intro Pg Ev s Mi args below Mt Cd ls Q Aw hC hK hS hnm hl hQ
  have hSh0 := hSh
  obtain ⟨hTp, hCd, hNs, hWh, hRw, hSn, hPl, hBk, hMp⟩ := hSh0
  have hNm := hNs.2.2
  have hD0 := hI.1
  have hNs0 := hNs.1
  have hl : lv_has ls 1 [(0, .ref (ad 0))] := hl
  obtain ⟨H, hH⟩ : ∃ H, H = s.heap := ⟨_, rfl⟩
  obtain ⟨locs, hlo⟩ : ∃ locs : List Loc, locs = [] := ⟨_, rfl⟩
  have hS : St g Aw s.heap H locs (CW g ad F A E tl) := by rw [hH, hlo]; exact hS
  have goal : W Pg l Ev (rmC 9 1 10) s Mi args below Mt Cd H locs 0 0 Q (F0 Mi 0 ls []) := ?goal
  · rw [hH, hlo] at goal; exact goal
  clear hH hlo
  refine li_aload_n hC hl 0 rfl dX11_undo_0 ?_
  refine li_get hC hK.1 ck_X11 (hS.1 0 _ rfl) 5 (by decide) fl_X11_267 rfl (v := .int (iI (F 66))) rfl dX11_undo_1 ?_
  refine li_if_ne (tgt := 10) hC (by decide) (rg (by omega) (by omega)) dX11_undo_4 (fun c1 => ?_) (fun c1 => ?_)
  · refine li_aload_n hC hl 0 rfl dX11_undo_10 ?_
    refine li_get hC hK.1 ck_X11 (hS.1 0 _ rfl) 1 (by decide) fl_X11_23 rfl (v := .ref (ad 3)) rfl dX11_undo_11 ?_
    refine li_aload_n hC hl 0 rfl dX11_undo_14 ?_
    refine li_get hC hK.1 ck_X11 (hS.1 0 _ rfl) 2 (by decide) fl_X11_27 rfl (v := .ref (ad 21)) rfl dX11_undo_15 ?_
    obtain ⟨kTp, kCd, kNs, kWh, kRw, kSn, kPl, kBk, kMp⟩ := hTk (by omega)
    refine wr_callVv hC (c_X8_become_s l g ad F A E tl T nt nm (hIT (by omega)) kNs.2.2 kNs.2.1 kNs.1 (by rw [hNs.1]; exact hNs.2.1) (by omega) (fun e9 => e9.trans (hde e9.symm)) _) mk_X8_become ml_X11_264 (rr (by decide)) ⟨by simp only [rmC]; omega, by simp only [rmC]; omega⟩ hK hS (li_recv hK.1 ck_X8 (hS.1 3 _ rfl)) rfl hl.1 rfl (Nat.le_of_ble_eq_true rfl) dX11_undo_18 (fun w H locs hp hS => ?_)
    obtain ⟨m, r, t, hp, hT, hl1, hl2, hne⟩ := hp
    rw [hp] at hS
    have hSh2 : ShW g ad (va_up (va_up (va_up (va_up (va_up (va_up (va_up (va_up (va_up (va_up (va_up (va_up F 4 (F 22)) 6 (F 24)) 9 (F 27)) 11 (F 29)) 13 (F 31)) 15 (F 33)) 17 (F 35)) 60 (F 63)) 61 (F 64)) 62 (F 65)) 75 m) 76 (T 0)) (va_up (va_up (va_up (va_up (va_up (va_up (va_up A 5 (A 23)) 7 (A 25)) 10 (A 28)) 12 (A 30)) 14 (A 32)) 16 (A 34)) 18 (A 36)) (va_up E 0 r) t T nt := ⟨kTp, kCd, ⟨rfl, hl1, nmp_k kNs.2.2 hT⟩, kWh, kRw, kSn, kPl, kBk, kMp⟩
    have hTk2 : TkW g ad (va_up (va_up (va_up (va_up (va_up (va_up (va_up (va_up (va_up (va_up (va_up (va_up F 4 (F 22)) 6 (F 24)) 9 (F 27)) 11 (F 29)) 13 (F 31)) 15 (F 33)) 17 (F 35)) 60 (F 63)) 61 (F 64)) 62 (F 65)) 75 m) 76 (T 0)) (va_up (va_up (va_up (va_up (va_up (va_up (va_up A 5 (A 23)) 7 (A 25)) 10 (A 28)) 12 (A 30)) 14 (A 32)) 16 (A 34)) 18 (A 36)) (va_up E 0 r) t T nt := ⟨kTp, kCd, ⟨kNs.1, hl2, nmp_k kNs.2.2 hT⟩, kWh, kRw, kSn, kPl, kBk, kMp⟩
    have hI2 := hIT (by omega)
    refine li_aload_n hC hl 0 rfl dX11_undo_21 ?_
    refine li_get hC hK.1 ck_X11 (hS.1 0 _ rfl) 1 (by decide) fl_X11_23 rfl (v := .ref (ad 3)) rfl dX11_undo_22 ?_
    refine ro_callVi hC (c_X8_dots l g ad (va_up (va_up (va_up (va_up (va_up (va_up (va_up (va_up (va_up (va_up (va_up (va_up F 4 (F 22)) 6 (F 24)) 9 (F 27)) 11 (F 29)) 13 (F 31)) 15 (F 33)) 17 (F 35)) 60 (F 63)) 61 (F 64)) 62 (F 65)) 75 m) 76 (T 0)) (va_up (va_up (va_up (va_up (va_up (va_up (va_up A 5 (A 23)) 7 (A 25)) 10 (A 28)) 12 (A 30)) 14 (A 32)) 16 (A 34)) 18 (A 36)) (va_up E 0 r) t T nt hSh2 hI2) mk_X8_dots ml_X11_83 (rr (by decide)) ⟨by simp only [rmC]; omega, by simp only [rmC]; omega⟩ hK.1 (hS.ro hK) hS.1 (li_recv hK.1 ck_X8 (hS.1 3 _ rfl)) rfl hl.1 rfl (Nat.le_of_ble_eq_true rfl) dX11_undo_25 ?_
    exact hQ _ _ _ _ _ _ _ _ dX11_undo_28 hS (by omega) (by omega) (⟨fun h9 => by omega, fun _ => ⟨rfl, (va_up (va_up (va_up (va_up (va_up (va_up (va_up (va_up (va_up (va_up (va_up (va_up F 4 (F 22)) 6 (F 24)) 9 (F 27)) 11 (F 29)) 13 (F 31)) 15 (F 33)) 17 (F 35)) 60 (F 63)) 61 (F 64)) 62 (F 65)) 75 m) 76 (T 0)), (va_up (va_up (va_up (va_up (va_up (va_up (va_up A 5 (A 23)) 7 (A 25)) 10 (A 28)) 12 (A 30)) 14 (A 32)) 16 (A 34)) 18 (A 36)), r, t, rfl, hT, rfl, ⟨rfl, rfl⟩, hSh2, hTk2, hne⟩⟩)
  · refine li_bipush hC (z := -3) rfl dX11_undo_7 ?_
    exact hQ _ _ _ _ _ _ _ _ dX11_undo_9 hS (by omega) (by omega) (⟨fun _ => ⟨rfl, rfl⟩, fun h9 => by omega⟩)
