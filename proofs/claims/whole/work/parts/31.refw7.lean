set_option maxHeartbeats 4000000 in
set_option maxRecDepth 100000 in
theorem c_X12_looksForWay (l : Launch) (g : GG) (h0 : Nat) (ad : Nat → Nat) (F : Nat → Int) (A : Nat → Nat → Int) (S : Nat → Int) (hSA : A 1 = S) (z0 : Int) (hz0 : 0 ≤ z0 ∧ z0 ≤ 1) (hI : InvD S) (hH : InvH S) (hC0 : InvC S) (sz : Nat) : MwrV l g yX12_looksForWay cX12_looksForWay 2 10 0 0 [.ref h0, .int (iI z0)] sz (RW g h0 ad F A) (fun w => ∃ f9 f10 f11 f12 f13 f14, w = RW g h0 ad (va_up (va_up (va_up F 16 (foldK z0 (S 0) (goodS S) (cmp (okW S (wideS S)) (S 0).toNat []) (-1, -1000000, A 15)).1) 17 (foldK z0 (S 0) (goodS S) (cmp (okW S (wideS S)) (S 0).toNat []) (-1, -1000000, A 15)).2.1) 18 z0) (va_up (va_up (va_up (va_up (va_up (va_up (va_up A 9 f9) 10 f10) 11 f11) 12 f12) 13 f13) 14 f14) 15 (foldK z0 (S 0) (goodS S) (cmp (okW S (wideS S)) (S 0).toNat []) (-1, -1000000, A 15)).2.2)) := by
  subst hSA
  refine wr_startV (own := RX12) (by decide) rfl (Nat.le_of_ble_eq_true rfl) ?_
  intro Pg Ev s Mi args below Mt Cd ls Q Aw hC hK hS hnm hl hQ
  have hD0 := hI.1
  have hH0 := hH.1
  have hl : lv_has ls 2 [(0, .ref h0), (1, .int (iI z0))] := hl
  obtain ⟨H, hH⟩ : ∃ H, H = s.heap := ⟨_, rfl⟩
  obtain ⟨locs, hlo⟩ : ∃ locs : List Loc, locs = [] := ⟨_, rfl⟩
  have hS : St g Aw s.heap H locs (RW g h0 ad F A) := by rw [hH, hlo]; exact hS
  have goal : W Pg l Ev (rmC 10 0 0) s Mi args below Mt Cd H locs 0 0 Q (F0 Mi 0 ls []) := ?goal
  · rw [hH, hlo] at goal; exact goal
  clear hH hlo
  refine li_aload_n hC hl 0 rfl dX12_looksForWay_0 ?_
  refine wr_callVv hC (c_X12_looksForPairs l g h0 ad F A (A 1) rfl hI hH hC0 _) mk_X12_looksForPairs ml_X12_243 (rr (by decide)) ⟨by simp only [rmC]; omega, by simp only [rmC]; omega⟩ hK hS (li_recv hK.1 ck_X12 (hS.1 0 _ rfl)) rfl hl.1 rfl (Nat.le_of_ble_eq_true rfl) dX12_looksForWay_1 (fun w H locs hp hS => ?_)
  obtain ⟨u1, u2, u3, u4, u5, hft6, hgd7, hcl8, rfl⟩ := hp
  have hzb : z0 = 0 ∨ z0 = 1 := by omega
  refine li_aload_n hC hl 0 rfl dX12_looksForWay_4 ?_
  refine li_iload_n hC hl 1 rfl dX12_looksForWay_5 ?_
  refine li_put hC hK hS ck_X12 0 rfl 18 (by decide) fl_X12_226 rfl rfl (v := .int (iI z0)) (nar_01 hzb) (fit_01 hzb) (Nat.le_of_ble_eq_true rfl) (ws' := RW g h0 ad (va_up F 18 z0) (va_up (va_up (va_up (va_up (va_up A 9 u1) 10 u2) 11 u3) 12 u4) 13 u5)) rfl dX12_looksForWay_6 (fun H locs hS => ?_)
  refine li_aload_n hC hl 0 rfl dX12_looksForWay_9 ?_
  refine li_iconst hC dX12_looksForWay_10 ?_
  refine li_put hC hK hS ck_X12 0 rfl 16 (by decide) fl_X12_229 rfl rfl (v := .int (iI (-1))) rfl rfl (Nat.le_of_ble_eq_true rfl) (ws' := RW g h0 ad (va_up (va_up F 16 (-1)) 18 z0) (va_up (va_up (va_up (va_up (va_up A 9 u1) 10 u2) 11 u3) 12 u4) 13 u5)) rfl dX12_looksForWay_11 (fun H locs hS => ?_)
  refine li_aload_n hC hl 0 rfl dX12_looksForWay_14 ?_
  refine li_ldc hC (z := -1000000) kc_X12_246 rfl dX12_looksForWay_15 ?_
  refine li_put hC hK hS ck_X12 0 rfl 17 (by decide) fl_X12_232 rfl rfl (v := .int (iI (-1000000))) rfl rfl (Nat.le_of_ble_eq_true rfl) (ws' := RW g h0 ad (va_up (va_up (va_up F 16 (-1)) 17 (-1000000)) 18 z0) (va_up (va_up (va_up (va_up (va_up A 9 u1) 10 u2) 11 u3) 12 u4) 13 u5)) rfl dX12_looksForWay_17 (fun H locs hS => ?_)
  refine li_aload_n hC hl 0 rfl dX12_looksForWay_20 ?_
  refine li_iconst hC dX12_looksForWay_21 ?_
  refine li_iconst hC dX12_looksForWay_22 ?_
  refine li_iconst hC dX12_looksForWay_23 ?_
  refine li_iconst hC dX12_looksForWay_24 ?_
  have hws := wideS_rng (A 1)
  refine wr_callVv hC (c_X12_waysFrom l g (((A 1) 0).toNat) h0 ad (va_up (va_up (va_up F 16 (-1)) 17 (-1000000)) 18 z0) (va_up (va_up (va_up (va_up (va_up A 9 u1) 10 u2) 11 u3) 12 u4) 13 u5) (A 1) rfl (-1) (-1000000) (A 15) (A 14) z0 rfl rfl rfl rfl rfl 0 0 0 0 ([]) (wideS (A 1)) u3 u4 u5 rfl rfl rfl (by show ((0 : Nat) : Int) + _ = _; omega) rfl use_nil rfl rfl okL_nil (wyL_nil _) hft6 hgd7 hcl8 TB_start (by omega) (by omega) hI hC0 _) mk_X12_waysFrom ml_X12_239 (rr (by omega)) ⟨by simp only [rmC]; omega, by simp only [rmC]; omega⟩ hK hS (li_recv hK.1 ck_X12 (hS.1 0 _ rfl)) rfl hl.1 rfl (Nat.le_of_ble_eq_true rfl) dX12_looksForWay_25 (fun w H locs hp hS => ?_)
  obtain ⟨u9, hwy10, rfl⟩ := hp
  exact hQ _ _ _ _ _ _ _ dX12_looksForWay_28 hS (by omega) (by omega) (⟨u1, u2, u3, u4, u5, u9, rfl⟩)
set_option maxHeartbeats 4000000 in
set_option maxRecDepth 100000 in
theorem c_X12_most (l : Launch) (g : GG) (h0 : Nat) (ad : Nat → Nat) (F : Nat → Int) (A : Nat → Nat → Int) (S : Nat → Int) (hSA : A 1 = S) (what : Int) (hw : rng what) (hI : InvD S) (hH : InvH S) (hC0 : InvC S) (sz : Nat) : MwrI l g yX12_most cX12_most 2 11 0 0 [.ref h0, .int (iI what)] sz (RW g h0 ad F A) (fun v w => v = iI (mostR S what) ∧ ∃ F2 A2, KeepR S F F2 A A2 ∧ w = RW g h0 ad F2 A2) := by
  subst hSA
  refine wr_startI (own := RX12) (by decide) rfl (Nat.le_of_ble_eq_true rfl) ?_
  intro Pg Ev s Mi args below Mt Cd ls Q Aw hC hK hS hnm hl hQ
  have hD0 := hI.1
  have hH0 := hH.1
  have hl : lv_has ls 2 [(0, .ref h0), (1, .int (iI what))] := hl
  obtain ⟨H, hH⟩ : ∃ H, H = s.heap := ⟨_, rfl⟩
  obtain ⟨locs, hlo⟩ : ∃ locs : List Loc, locs = [] := ⟨_, rfl⟩
  have hS : St g Aw s.heap H locs (RW g h0 ad F A) := by rw [hH, hlo]; exact hS
  have goal : W Pg l Ev (rmC 11 0 0) s Mi args below Mt Cd H locs 0 0 Q (F0 Mi 0 ls []) := ?goal
  · rw [hH, hlo] at goal; exact goal
  clear hH hlo
  refine li_iload_n hC hl 1 rfl dX12_most_0 ?_
  refine li_iconst hC dX12_most_1 ?_
  refine li_iconst hC dX12_most_2 ?_
  refine ro_callSi hC (c_X12_in l g what 0 1 hw (rg (by decide) (by decide)) (rg (by decide) (by decide))) mk_X12_in ml_X12_56 (rr (by decide)) ⟨Nat.le_of_ble_eq_true rfl, Nat.le_of_ble_eq_true rfl⟩ hK.1 (hS.ro hK) trivial rfl hl.1 rfl (Nat.le_of_ble_eq_true rfl) dX12_most_3 ?_
  refine li_ifne_b (tgt := 24) hC (by decide) dX12_most_6 (fun c1 => ?_) (fun c1 => ?_)
  · refine li_aload_n hC hl 0 rfl dX12_most_24 ?_
    refine li_iconst hC dX12_most_25 ?_
    refine wr_callVv hC (c_X12_looksForWay l g h0 ad F A (A 1) rfl 1 (by omega) hI hH hC0 _) mk_X12_looksForWay ml_X12_247 (rr (by decide)) ⟨by simp only [rmC]; omega, by simp only [rmC]; omega⟩ hK hS (li_recv hK.1 ck_X12 (hS.1 0 _ rfl)) rfl hl.1 rfl (Nat.le_of_ble_eq_true rfl) dX12_most_26 (fun w H locs hp hS => ?_)
    obtain ⟨u2, u3, u4, u5, u6, u7, rfl⟩ := hp
    have hbe := bestT_at hI hC0 (by0 := 1) (b := A 15)
    have hbb := bestT_TB hI hC0 (by0 := 1)
    have hb16 := hbe.1
    have hb17 := hbe.2.1
    have hbb1 := hbb.1
    have hbb2 := hbb.2.1
    have hbb3 := hbb.2.2.1
    have hbb4 := hbb.2.2.2
    refine li_iload_n hC hl 1 rfl dX12_most_29 ?_
    refine li_if_ne (tgt := 40) hC (by decide) hw dX12_most_30 (fun c8 => ?_) (fun c8 => ?_)
    · refine li_iload_n hC hl 1 rfl dX12_most_40 ?_
      refine li_iconst hC dX12_most_41 ?_
      refine li_icmp_ne (tgt := 52) hC (by decide) hw (rg (by decide) (by decide)) dX12_most_42 (fun c9 => ?_) (fun c9 => ?_)
      · refine li_aload_n hC hl 0 rfl dX12_most_52 ?_
        refine li_get hC hK.1 ck_X12 (hS.1 0 _ rfl) 15 (by decide) fl_X12_37 rfl (v := .ref (ad 15)) rfl dX12_most_53 ?_
        refine li_iload_n hC hl 1 rfl dX12_most_56 ?_
        refine li_bipush hC (z := 10) rfl dX12_most_57 ?_
        refine li_isub hC dX12_most_59 ?_
        refine li_iald (f := (foldK 1 ((A 1) 0) (goodS (A 1)) (cmp (okW (A 1) (wideS (A 1))) ((A 1) 0).toNat []) (-1, -1000000, A 15)).2.2) hC hK.1 (hS.1 9 _ rfl) ⟨by omega, by omega⟩ (by decide) dX12_most_60 ?_
        have hpl := bestT_pl (S := A 1) (by0 := 1) (what - 10).toNat (by omega)
        rw [hbe.2.2 (what - 10).toNat (by omega)]
        refine ro_callSi hC (c_X12_orNone l g ((bestT (A 1) 1).2.2 (what - 10).toNat) (rg (by omega) (by omega))) mk_X12_orNone ml_X12_193 (rr (by decide)) ⟨Nat.le_of_ble_eq_true rfl, Nat.le_of_ble_eq_true rfl⟩ hK.1 (hS.ro hK) trivial rfl hl.1 rfl (Nat.le_of_ble_eq_true rfl) dX12_most_61 ?_
        exact hQ _ _ _ _ _ _ _ _ dX12_most_64 hS (by omega) (by omega) (⟨iI_inj (by unfold mostR; first | (rw [iteP_f (by omega)]; done) | (rw [iteP_t (by omega)]; unfold orN; (repeat' split) <;> first | rfl | omega | exact hb16 | exact hb17)), ⟨(va_up (va_up (va_up F 16 ((foldK 1 ((A 1) 0) (goodS (A 1)) (cmp (okW (A 1) (wideS (A 1))) ((A 1) 0).toNat []) (-1, -1000000, A 15)).1)) 17 ((foldK 1 ((A 1) 0) (goodS (A 1)) (cmp (okW (A 1) (wideS (A 1))) ((A 1) 0).toNat []) (-1, -1000000, A 15)).2.1)) 18 1), (va_up (va_up (va_up (va_up (va_up (va_up (va_up A 9 u2) 10 u3) 11 u4) 12 u5) 13 u6) 14 u7) 15 ((foldK 1 ((A 1) 0) (goodS (A 1)) (cmp (okW (A 1) (wideS (A 1))) ((A 1) 0).toNat []) (-1, -1000000, A 15)).2.2)), ⟨⟨rfl, rfl⟩, rfl, rfl, rfl⟩, rfl⟩⟩)
      · refine li_aload_n hC hl 0 rfl dX12_most_45 ?_
        refine li_get hC hK.1 ck_X12 (hS.1 0 _ rfl) 17 (by decide) fl_X12_232 rfl (v := .int (iI ((foldK 1 ((A 1) 0) (goodS (A 1)) (cmp (okW (A 1) (wideS (A 1))) ((A 1) 0).toNat []) (-1, -1000000, A 15)).2.1))) rfl dX12_most_46 ?_
        refine li_goto (tgt := 64) hC (by decide) dX12_most_49 ?_
        exact hQ _ _ _ _ _ _ _ _ dX12_most_64 hS (by omega) (by omega) (⟨iI_inj (by unfold mostR; first | (rw [iteP_f (by omega)]; done) | (rw [iteP_t (by omega)]; unfold orN; (repeat' split) <;> first | rfl | omega | exact hb16 | exact hb17)), ⟨(va_up (va_up (va_up F 16 ((foldK 1 ((A 1) 0) (goodS (A 1)) (cmp (okW (A 1) (wideS (A 1))) ((A 1) 0).toNat []) (-1, -1000000, A 15)).1)) 17 ((foldK 1 ((A 1) 0) (goodS (A 1)) (cmp (okW (A 1) (wideS (A 1))) ((A 1) 0).toNat []) (-1, -1000000, A 15)).2.1)) 18 1), (va_up (va_up (va_up (va_up (va_up (va_up (va_up A 9 u2) 10 u3) 11 u4) 12 u5) 13 u6) 14 u7) 15 ((foldK 1 ((A 1) 0) (goodS (A 1)) (cmp (okW (A 1) (wideS (A 1))) ((A 1) 0).toNat []) (-1, -1000000, A 15)).2.2)), ⟨⟨rfl, rfl⟩, rfl, rfl, rfl⟩, rfl⟩⟩)
    · refine li_aload_n hC hl 0 rfl dX12_most_33 ?_
      refine li_get hC hK.1 ck_X12 (hS.1 0 _ rfl) 16 (by decide) fl_X12_229 rfl (v := .int (iI ((foldK 1 ((A 1) 0) (goodS (A 1)) (cmp (okW (A 1) (wideS (A 1))) ((A 1) 0).toNat []) (-1, -1000000, A 15)).1))) rfl dX12_most_34 ?_
      refine li_goto (tgt := 64) hC (by decide) dX12_most_37 ?_
      exact hQ _ _ _ _ _ _ _ _ dX12_most_64 hS (by omega) (by omega) (⟨iI_inj (by unfold mostR; first | (rw [iteP_f (by omega)]; done) | (rw [iteP_t (by omega)]; unfold orN; (repeat' split) <;> first | rfl | omega | exact hb16 | exact hb17)), ⟨(va_up (va_up (va_up F 16 ((foldK 1 ((A 1) 0) (goodS (A 1)) (cmp (okW (A 1) (wideS (A 1))) ((A 1) 0).toNat []) (-1, -1000000, A 15)).1)) 17 ((foldK 1 ((A 1) 0) (goodS (A 1)) (cmp (okW (A 1) (wideS (A 1))) ((A 1) 0).toNat []) (-1, -1000000, A 15)).2.1)) 18 1), (va_up (va_up (va_up (va_up (va_up (va_up (va_up A 9 u2) 10 u3) 11 u4) 12 u5) 13 u6) 14 u7) 15 ((foldK 1 ((A 1) 0) (goodS (A 1)) (cmp (okW (A 1) (wideS (A 1))) ((A 1) 0).toNat []) (-1, -1000000, A 15)).2.2)), ⟨⟨rfl, rfl⟩, rfl, rfl, rfl⟩, rfl⟩⟩)
  · refine li_aload_n hC hl 0 rfl dX12_most_9 ?_
    refine li_iload_n hC hl 1 rfl dX12_most_10 ?_
    refine li_bipush hC (z := 10) rfl dX12_most_11 ?_
    refine li_isub hC dX12_most_13 ?_
    obtain ⟨n1, hnr, hn1, hn2⟩ := wrap10 hw
    rw [hn1]
    refine ro_callVi hC (c_X12_isName l g h0 (A 1) n1 hnr hI) mk_X12_isName ml_X12_189 (rr (by decide)) ⟨Nat.le_of_ble_eq_true rfl, Nat.le_of_ble_eq_true rfl⟩ hK.1 (hS.ro hK) (RW_pic (F := F) (A := A) hS) (li_recv hK.1 ck_X12 (hS.1 0 _ rfl)) rfl hl.1 rfl (Nat.le_of_ble_eq_true rfl) dX12_most_14 ?_
    refine li_ifne_b (tgt := 24) hC (by decide) dX12_most_17 (fun c10 => ?_) (fun c10 => ?_)
    · refine li_aload_n hC hl 0 rfl dX12_most_24 ?_
      refine li_iconst hC dX12_most_25 ?_
      refine wr_callVv hC (c_X12_looksForWay l g h0 ad F A (A 1) rfl 1 (by omega) hI hH hC0 _) mk_X12_looksForWay ml_X12_247 (rr (by decide)) ⟨by simp only [rmC]; omega, by simp only [rmC]; omega⟩ hK hS (li_recv hK.1 ck_X12 (hS.1 0 _ rfl)) rfl hl.1 rfl (Nat.le_of_ble_eq_true rfl) dX12_most_26 (fun w H locs hp hS => ?_)
      obtain ⟨u11, u12, u13, u14, u15, u16, rfl⟩ := hp
      have hbe := bestT_at hI hC0 (by0 := 1) (b := A 15)
      have hbb := bestT_TB hI hC0 (by0 := 1)
      have hb16 := hbe.1
      have hb17 := hbe.2.1
      have hbb1 := hbb.1
      have hbb2 := hbb.2.1
      have hbb3 := hbb.2.2.1
      have hbb4 := hbb.2.2.2
      refine li_iload_n hC hl 1 rfl dX12_most_29 ?_
      refine li_if_ne (tgt := 40) hC (by decide) hw dX12_most_30 (fun c17 => ?_) (fun c17 => ?_)
      · refine li_iload_n hC hl 1 rfl dX12_most_40 ?_
        refine li_iconst hC dX12_most_41 ?_
        refine li_icmp_ne (tgt := 52) hC (by decide) hw (rg (by decide) (by decide)) dX12_most_42 (fun c18 => ?_) (fun c18 => ?_)
        · refine li_aload_n hC hl 0 rfl dX12_most_52 ?_
          refine li_get hC hK.1 ck_X12 (hS.1 0 _ rfl) 15 (by decide) fl_X12_37 rfl (v := .ref (ad 15)) rfl dX12_most_53 ?_
          refine li_iload_n hC hl 1 rfl dX12_most_56 ?_
          refine li_bipush hC (z := 10) rfl dX12_most_57 ?_
          refine li_isub hC dX12_most_59 ?_
          refine li_iald (f := (foldK 1 ((A 1) 0) (goodS (A 1)) (cmp (okW (A 1) (wideS (A 1))) ((A 1) 0).toNat []) (-1, -1000000, A 15)).2.2) hC hK.1 (hS.1 9 _ rfl) ⟨by omega, by omega⟩ (by decide) dX12_most_60 ?_
          have hpl := bestT_pl (S := A 1) (by0 := 1) (what - 10).toNat (by omega)
          rw [hbe.2.2 (what - 10).toNat (by omega)]
          refine ro_callSi hC (c_X12_orNone l g ((bestT (A 1) 1).2.2 (what - 10).toNat) (rg (by omega) (by omega))) mk_X12_orNone ml_X12_193 (rr (by decide)) ⟨Nat.le_of_ble_eq_true rfl, Nat.le_of_ble_eq_true rfl⟩ hK.1 (hS.ro hK) trivial rfl hl.1 rfl (Nat.le_of_ble_eq_true rfl) dX12_most_61 ?_
          exact hQ _ _ _ _ _ _ _ _ dX12_most_64 hS (by omega) (by omega) (⟨iI_inj (by unfold mostR; first | (rw [iteP_f (by omega)]; done) | (rw [iteP_t (by omega)]; unfold orN; (repeat' split) <;> first | rfl | omega | exact hb16 | exact hb17)), ⟨(va_up (va_up (va_up F 16 ((foldK 1 ((A 1) 0) (goodS (A 1)) (cmp (okW (A 1) (wideS (A 1))) ((A 1) 0).toNat []) (-1, -1000000, A 15)).1)) 17 ((foldK 1 ((A 1) 0) (goodS (A 1)) (cmp (okW (A 1) (wideS (A 1))) ((A 1) 0).toNat []) (-1, -1000000, A 15)).2.1)) 18 1), (va_up (va_up (va_up (va_up (va_up (va_up (va_up A 9 u11) 10 u12) 11 u13) 12 u14) 13 u15) 14 u16) 15 ((foldK 1 ((A 1) 0) (goodS (A 1)) (cmp (okW (A 1) (wideS (A 1))) ((A 1) 0).toNat []) (-1, -1000000, A 15)).2.2)), ⟨⟨rfl, rfl⟩, rfl, rfl, rfl⟩, rfl⟩⟩)
        · refine li_aload_n hC hl 0 rfl dX12_most_45 ?_
          refine li_get hC hK.1 ck_X12 (hS.1 0 _ rfl) 17 (by decide) fl_X12_232 rfl (v := .int (iI ((foldK 1 ((A 1) 0) (goodS (A 1)) (cmp (okW (A 1) (wideS (A 1))) ((A 1) 0).toNat []) (-1, -1000000, A 15)).2.1))) rfl dX12_most_46 ?_
          refine li_goto (tgt := 64) hC (by decide) dX12_most_49 ?_
          exact hQ _ _ _ _ _ _ _ _ dX12_most_64 hS (by omega) (by omega) (⟨iI_inj (by unfold mostR; first | (rw [iteP_f (by omega)]; done) | (rw [iteP_t (by omega)]; unfold orN; (repeat' split) <;> first | rfl | omega | exact hb16 | exact hb17)), ⟨(va_up (va_up (va_up F 16 ((foldK 1 ((A 1) 0) (goodS (A 1)) (cmp (okW (A 1) (wideS (A 1))) ((A 1) 0).toNat []) (-1, -1000000, A 15)).1)) 17 ((foldK 1 ((A 1) 0) (goodS (A 1)) (cmp (okW (A 1) (wideS (A 1))) ((A 1) 0).toNat []) (-1, -1000000, A 15)).2.1)) 18 1), (va_up (va_up (va_up (va_up (va_up (va_up (va_up A 9 u11) 10 u12) 11 u13) 12 u14) 13 u15) 14 u16) 15 ((foldK 1 ((A 1) 0) (goodS (A 1)) (cmp (okW (A 1) (wideS (A 1))) ((A 1) 0).toNat []) (-1, -1000000, A 15)).2.2)), ⟨⟨rfl, rfl⟩, rfl, rfl, rfl⟩, rfl⟩⟩)
      · refine li_aload_n hC hl 0 rfl dX12_most_33 ?_
        refine li_get hC hK.1 ck_X12 (hS.1 0 _ rfl) 16 (by decide) fl_X12_229 rfl (v := .int (iI ((foldK 1 ((A 1) 0) (goodS (A 1)) (cmp (okW (A 1) (wideS (A 1))) ((A 1) 0).toNat []) (-1, -1000000, A 15)).1))) rfl dX12_most_34 ?_
        refine li_goto (tgt := 64) hC (by decide) dX12_most_37 ?_
        exact hQ _ _ _ _ _ _ _ _ dX12_most_64 hS (by omega) (by omega) (⟨iI_inj (by unfold mostR; first | (rw [iteP_f (by omega)]; done) | (rw [iteP_t (by omega)]; unfold orN; (repeat' split) <;> first | rfl | omega | exact hb16 | exact hb17)), ⟨(va_up (va_up (va_up F 16 ((foldK 1 ((A 1) 0) (goodS (A 1)) (cmp (okW (A 1) (wideS (A 1))) ((A 1) 0).toNat []) (-1, -1000000, A 15)).1)) 17 ((foldK 1 ((A 1) 0) (goodS (A 1)) (cmp (okW (A 1) (wideS (A 1))) ((A 1) 0).toNat []) (-1, -1000000, A 15)).2.1)) 18 1), (va_up (va_up (va_up (va_up (va_up (va_up (va_up A 9 u11) 10 u12) 11 u13) 12 u14) 13 u15) 14 u16) 15 ((foldK 1 ((A 1) 0) (goodS (A 1)) (cmp (okW (A 1) (wideS (A 1))) ((A 1) 0).toNat []) (-1, -1000000, A 15)).2.2)), ⟨⟨rfl, rfl⟩, rfl, rfl, rfl⟩, rfl⟩⟩)
    · refine li_sipush hC (z := -10001) rfl dX12_most_20 ?_
      exact hQ _ _ _ _ _ _ _ _ dX12_most_23 hS (by omega) (by omega) (⟨iI_inj (by unfold mostR; first | (rw [iteP_f (by omega)]; done) | (rw [iteP_t (by omega)]; unfold orN; (repeat' split) <;> first | rfl | omega | exact hb16 | exact hb17)), ⟨F, A, ⟨⟨rfl, rfl⟩, rfl, rfl, rfl⟩, rfl⟩⟩)
set_option maxHeartbeats 4000000 in
set_option maxRecDepth 100000 in
theorem c_X12_best (l : Launch) (g : GG) (h0 : Nat) (ad : Nat → Nat) (F : Nat → Int) (A : Nat → Nat → Int) (S : Nat → Int) (hSA : A 1 = S) (what : Int) (hw : rng what) (hI : InvD S) (hH : InvH S) (hC0 : InvC S) (sz : Nat) : MwrI l g yX12_best cX12_best 2 11 0 0 [.ref h0, .int (iI what)] sz (RW g h0 ad F A) (fun v w => v = iI (bestR S what) ∧ ∃ F2 A2, KeepR S F F2 A A2 ∧ w = RW g h0 ad F2 A2) := by
  subst hSA
  refine wr_startI (own := RX12) (by decide) rfl (Nat.le_of_ble_eq_true rfl) ?_
  intro Pg Ev s Mi args below Mt Cd ls Q Aw hC hK hS hnm hl hQ
  have hD0 := hI.1
  have hH0 := hH.1
  have hl : lv_has ls 2 [(0, .ref h0), (1, .int (iI what))] := hl
  obtain ⟨H, hH⟩ : ∃ H, H = s.heap := ⟨_, rfl⟩
  obtain ⟨locs, hlo⟩ : ∃ locs : List Loc, locs = [] := ⟨_, rfl⟩
  have hS : St g Aw s.heap H locs (RW g h0 ad F A) := by rw [hH, hlo]; exact hS
  have goal : W Pg l Ev (rmC 11 0 0) s Mi args below Mt Cd H locs 0 0 Q (F0 Mi 0 ls []) := ?goal
  · rw [hH, hlo] at goal; exact goal
  clear hH hlo
  refine li_iload_n hC hl 1 rfl dX12_best_0 ?_
  refine li_if_eq (tgt := 19) hC (by decide) hw dX12_best_1 (fun c1 => ?_) (fun c1 => ?_)
  · refine li_aload_n hC hl 0 rfl dX12_best_19 ?_
    refine li_iconst hC dX12_best_20 ?_
    refine wr_callVv hC (c_X12_looksForWay l g h0 ad F A (A 1) rfl 0 (by omega) hI hH hC0 _) mk_X12_looksForWay ml_X12_247 (rr (by decide)) ⟨by simp only [rmC]; omega, by simp only [rmC]; omega⟩ hK hS (li_recv hK.1 ck_X12 (hS.1 0 _ rfl)) rfl hl.1 rfl (Nat.le_of_ble_eq_true rfl) dX12_best_21 (fun w H locs hp hS => ?_)
    obtain ⟨u2, u3, u4, u5, u6, u7, rfl⟩ := hp
    have hbe := bestT_at hI hC0 (by0 := 0) (b := A 15)
    have hbb := bestT_TB hI hC0 (by0 := 0)
    have hb16 := hbe.1
    have hb17 := hbe.2.1
    have hbb1 := hbb.1
    have hbb2 := hbb.2.1
    have hbb3 := hbb.2.2.1
    have hbb4 := hbb.2.2.2
    refine li_iload_n hC hl 1 rfl dX12_best_24 ?_
    refine li_if_ne (tgt := 35) hC (by decide) hw dX12_best_25 (fun c8 => ?_) (fun c8 => ?_)
    · refine li_aload_n hC hl 0 rfl dX12_best_35 ?_
      refine li_get hC hK.1 ck_X12 (hS.1 0 _ rfl) 15 (by decide) fl_X12_37 rfl (v := .ref (ad 15)) rfl dX12_best_36 ?_
      refine li_iload_n hC hl 1 rfl dX12_best_39 ?_
      refine li_bipush hC (z := 10) rfl dX12_best_40 ?_
      refine li_isub hC dX12_best_42 ?_
      refine li_iald (f := (foldK 0 ((A 1) 0) (goodS (A 1)) (cmp (okW (A 1) (wideS (A 1))) ((A 1) 0).toNat []) (-1, -1000000, A 15)).2.2) hC hK.1 (hS.1 9 _ rfl) ⟨by omega, by omega⟩ (by decide) dX12_best_43 ?_
      have hpl := bestT_pl (S := A 1) (by0 := 0) (what - 10).toNat (by omega)
      rw [hbe.2.2 (what - 10).toNat (by omega)]
      refine ro_callSi hC (c_X12_orNone l g ((bestT (A 1) 0).2.2 (what - 10).toNat) (rg (by omega) (by omega))) mk_X12_orNone ml_X12_193 (rr (by decide)) ⟨Nat.le_of_ble_eq_true rfl, Nat.le_of_ble_eq_true rfl⟩ hK.1 (hS.ro hK) trivial rfl hl.1 rfl (Nat.le_of_ble_eq_true rfl) dX12_best_44 ?_
      exact hQ _ _ _ _ _ _ _ _ dX12_best_47 hS (by omega) (by omega) (⟨iI_inj (by unfold bestR; first | (rw [iteP_f (by omega)]; done) | (rw [iteP_t (by omega)]; unfold orN; (repeat' split) <;> first | rfl | omega | exact hb17)), ⟨(va_up (va_up (va_up F 16 ((foldK 0 ((A 1) 0) (goodS (A 1)) (cmp (okW (A 1) (wideS (A 1))) ((A 1) 0).toNat []) (-1, -1000000, A 15)).1)) 17 ((foldK 0 ((A 1) 0) (goodS (A 1)) (cmp (okW (A 1) (wideS (A 1))) ((A 1) 0).toNat []) (-1, -1000000, A 15)).2.1)) 18 0), (va_up (va_up (va_up (va_up (va_up (va_up (va_up A 9 u2) 10 u3) 11 u4) 12 u5) 13 u6) 14 u7) 15 ((foldK 0 ((A 1) 0) (goodS (A 1)) (cmp (okW (A 1) (wideS (A 1))) ((A 1) 0).toNat []) (-1, -1000000, A 15)).2.2)), ⟨⟨rfl, rfl⟩, rfl, rfl, rfl⟩, rfl⟩⟩)
    · refine li_aload_n hC hl 0 rfl dX12_best_28 ?_
      refine li_get hC hK.1 ck_X12 (hS.1 0 _ rfl) 17 (by decide) fl_X12_232 rfl (v := .int (iI ((foldK 0 ((A 1) 0) (goodS (A 1)) (cmp (okW (A 1) (wideS (A 1))) ((A 1) 0).toNat []) (-1, -1000000, A 15)).2.1))) rfl dX12_best_29 ?_
      refine li_goto (tgt := 47) hC (by decide) dX12_best_32 ?_
      exact hQ _ _ _ _ _ _ _ _ dX12_best_47 hS (by omega) (by omega) (⟨iI_inj (by unfold bestR; first | (rw [iteP_f (by omega)]; done) | (rw [iteP_t (by omega)]; unfold orN; (repeat' split) <;> first | rfl | omega | exact hb17)), ⟨(va_up (va_up (va_up F 16 ((foldK 0 ((A 1) 0) (goodS (A 1)) (cmp (okW (A 1) (wideS (A 1))) ((A 1) 0).toNat []) (-1, -1000000, A 15)).1)) 17 ((foldK 0 ((A 1) 0) (goodS (A 1)) (cmp (okW (A 1) (wideS (A 1))) ((A 1) 0).toNat []) (-1, -1000000, A 15)).2.1)) 18 0), (va_up (va_up (va_up (va_up (va_up (va_up (va_up A 9 u2) 10 u3) 11 u4) 12 u5) 13 u6) 14 u7) 15 ((foldK 0 ((A 1) 0) (goodS (A 1)) (cmp (okW (A 1) (wideS (A 1))) ((A 1) 0).toNat []) (-1, -1000000, A 15)).2.2)), ⟨⟨rfl, rfl⟩, rfl, rfl, rfl⟩, rfl⟩⟩)
  · refine li_aload_n hC hl 0 rfl dX12_best_4 ?_
    refine li_iload_n hC hl 1 rfl dX12_best_5 ?_
    refine li_bipush hC (z := 10) rfl dX12_best_6 ?_
    refine li_isub hC dX12_best_8 ?_
    obtain ⟨n1, hnr, hn1, hn2⟩ := wrap10 hw
    rw [hn1]
    refine ro_callVi hC (c_X12_isName l g h0 (A 1) n1 hnr hI) mk_X12_isName ml_X12_189 (rr (by decide)) ⟨Nat.le_of_ble_eq_true rfl, Nat.le_of_ble_eq_true rfl⟩ hK.1 (hS.ro hK) (RW_pic (F := F) (A := A) hS) (li_recv hK.1 ck_X12 (hS.1 0 _ rfl)) rfl hl.1 rfl (Nat.le_of_ble_eq_true rfl) dX12_best_9 ?_
    refine li_ifne_b (tgt := 19) hC (by decide) dX12_best_12 (fun c9 => ?_) (fun c9 => ?_)
    · refine li_aload_n hC hl 0 rfl dX12_best_19 ?_
      refine li_iconst hC dX12_best_20 ?_
      refine wr_callVv hC (c_X12_looksForWay l g h0 ad F A (A 1) rfl 0 (by omega) hI hH hC0 _) mk_X12_looksForWay ml_X12_247 (rr (by decide)) ⟨by simp only [rmC]; omega, by simp only [rmC]; omega⟩ hK hS (li_recv hK.1 ck_X12 (hS.1 0 _ rfl)) rfl hl.1 rfl (Nat.le_of_ble_eq_true rfl) dX12_best_21 (fun w H locs hp hS => ?_)
      obtain ⟨u10, u11, u12, u13, u14, u15, rfl⟩ := hp
      have hbe := bestT_at hI hC0 (by0 := 0) (b := A 15)
      have hbb := bestT_TB hI hC0 (by0 := 0)
      have hb16 := hbe.1
      have hb17 := hbe.2.1
      have hbb1 := hbb.1
      have hbb2 := hbb.2.1
      have hbb3 := hbb.2.2.1
      have hbb4 := hbb.2.2.2
      refine li_iload_n hC hl 1 rfl dX12_best_24 ?_
      refine li_if_ne (tgt := 35) hC (by decide) hw dX12_best_25 (fun c16 => ?_) (fun c16 => ?_)
      · refine li_aload_n hC hl 0 rfl dX12_best_35 ?_
        refine li_get hC hK.1 ck_X12 (hS.1 0 _ rfl) 15 (by decide) fl_X12_37 rfl (v := .ref (ad 15)) rfl dX12_best_36 ?_
        refine li_iload_n hC hl 1 rfl dX12_best_39 ?_
        refine li_bipush hC (z := 10) rfl dX12_best_40 ?_
        refine li_isub hC dX12_best_42 ?_
        refine li_iald (f := (foldK 0 ((A 1) 0) (goodS (A 1)) (cmp (okW (A 1) (wideS (A 1))) ((A 1) 0).toNat []) (-1, -1000000, A 15)).2.2) hC hK.1 (hS.1 9 _ rfl) ⟨by omega, by omega⟩ (by decide) dX12_best_43 ?_
        have hpl := bestT_pl (S := A 1) (by0 := 0) (what - 10).toNat (by omega)
        rw [hbe.2.2 (what - 10).toNat (by omega)]
        refine ro_callSi hC (c_X12_orNone l g ((bestT (A 1) 0).2.2 (what - 10).toNat) (rg (by omega) (by omega))) mk_X12_orNone ml_X12_193 (rr (by decide)) ⟨Nat.le_of_ble_eq_true rfl, Nat.le_of_ble_eq_true rfl⟩ hK.1 (hS.ro hK) trivial rfl hl.1 rfl (Nat.le_of_ble_eq_true rfl) dX12_best_44 ?_
        exact hQ _ _ _ _ _ _ _ _ dX12_best_47 hS (by omega) (by omega) (⟨iI_inj (by unfold bestR; first | (rw [iteP_f (by omega)]; done) | (rw [iteP_t (by omega)]; unfold orN; (repeat' split) <;> first | rfl | omega | exact hb17)), ⟨(va_up (va_up (va_up F 16 ((foldK 0 ((A 1) 0) (goodS (A 1)) (cmp (okW (A 1) (wideS (A 1))) ((A 1) 0).toNat []) (-1, -1000000, A 15)).1)) 17 ((foldK 0 ((A 1) 0) (goodS (A 1)) (cmp (okW (A 1) (wideS (A 1))) ((A 1) 0).toNat []) (-1, -1000000, A 15)).2.1)) 18 0), (va_up (va_up (va_up (va_up (va_up (va_up (va_up A 9 u10) 10 u11) 11 u12) 12 u13) 13 u14) 14 u15) 15 ((foldK 0 ((A 1) 0) (goodS (A 1)) (cmp (okW (A 1) (wideS (A 1))) ((A 1) 0).toNat []) (-1, -1000000, A 15)).2.2)), ⟨⟨rfl, rfl⟩, rfl, rfl, rfl⟩, rfl⟩⟩)
      · refine li_aload_n hC hl 0 rfl dX12_best_28 ?_
        refine li_get hC hK.1 ck_X12 (hS.1 0 _ rfl) 17 (by decide) fl_X12_232 rfl (v := .int (iI ((foldK 0 ((A 1) 0) (goodS (A 1)) (cmp (okW (A 1) (wideS (A 1))) ((A 1) 0).toNat []) (-1, -1000000, A 15)).2.1))) rfl dX12_best_29 ?_
        refine li_goto (tgt := 47) hC (by decide) dX12_best_32 ?_
        exact hQ _ _ _ _ _ _ _ _ dX12_best_47 hS (by omega) (by omega) (⟨iI_inj (by unfold bestR; first | (rw [iteP_f (by omega)]; done) | (rw [iteP_t (by omega)]; unfold orN; (repeat' split) <;> first | rfl | omega | exact hb17)), ⟨(va_up (va_up (va_up F 16 ((foldK 0 ((A 1) 0) (goodS (A 1)) (cmp (okW (A 1) (wideS (A 1))) ((A 1) 0).toNat []) (-1, -1000000, A 15)).1)) 17 ((foldK 0 ((A 1) 0) (goodS (A 1)) (cmp (okW (A 1) (wideS (A 1))) ((A 1) 0).toNat []) (-1, -1000000, A 15)).2.1)) 18 0), (va_up (va_up (va_up (va_up (va_up (va_up (va_up A 9 u10) 10 u11) 11 u12) 12 u13) 13 u14) 14 u15) 15 ((foldK 0 ((A 1) 0) (goodS (A 1)) (cmp (okW (A 1) (wideS (A 1))) ((A 1) 0).toNat []) (-1, -1000000, A 15)).2.2)), ⟨⟨rfl, rfl⟩, rfl, rfl, rfl⟩, rfl⟩⟩)
    · refine li_sipush hC (z := -10001) rfl dX12_best_15 ?_
      exact hQ _ _ _ _ _ _ _ _ dX12_best_18 hS (by omega) (by omega) (⟨iI_inj (by unfold bestR; first | (rw [iteP_f (by omega)]; done) | (rw [iteP_t (by omega)]; unfold orN; (repeat' split) <;> first | rfl | omega | exact hb17)), ⟨F, A, ⟨⟨rfl, rfl⟩, rfl, rfl, rfl⟩, rfl⟩⟩)
set_option maxHeartbeats 4000000 in
set_option maxRecDepth 100000 in
theorem c_X12_allFrom (l : Launch) (g : GG) : ∀ (d : Nat) (h0 : Nat) (ad : Nat → Nat) (F : Nat → Int) (A : Nat → Nat → Int) (S : Nat → Int) (hSA : A 1 = S) (n : Int) (used : Int) (set : Int) (u : List Int) (wide : Int) (ft : Nat → Int) (cl : Nat → Int) (e11 : A 11 = ft) (e13 : A 13 = cl) (hlen : (u.length : Int) + (d : Int) = S 0) (hn : n = (u.length : Int)) (hus : used = setB (useP u) 28) (hok : okL u) (hft : FitA S wide ft) (hcl : ClA S cl) (hst : 1 ≤ set ∧ set ≤ 15) (hI : InvD S) (sz : Nat), MwrZ l g yX12_allFrom cX12_allFrom 6 (2 + d) 0 0 [.ref h0, .int (iI n), .int (iI used), .int (iI set)] sz (RW g h0 ad F A) (fun v w => v = iI (b2 (cmp (okA S wide set) d u ≠ [])) ∧ w = RW g h0 ad F A) := by
  intro d
  induction d using Nat.strongRecOn with
  | _ d ih0 =>
  intro h0 ad F A S hSA n used set u wide ft cl e11 e13 hlen hn hus hok hft hcl hst hI sz
  subst hSA
  subst e11 e13
  refine wr_startZ (own := RX12) (by decide) rfl (Nat.le_of_ble_eq_true rfl) ?_
  intro Pg Ev s Mi args below Mt Cd ls Q Aw hC hK hS hnm hl hQ
  have hD0 := hI.1
  have hl : lv_has ls 6 [(0, .ref h0), (1, .int (iI n)), (2, .int (iI used)), (3, .int (iI set))] := hl
  obtain ⟨H, hH⟩ : ∃ H, H = s.heap := ⟨_, rfl⟩
  obtain ⟨locs, hlo⟩ : ∃ locs : List Loc, locs = [] := ⟨_, rfl⟩
  have hS : St g Aw s.heap H locs (RW g h0 ad F A) := by rw [hH, hlo]; exact hS
  have goal : W Pg l Ev (rmC (2 + d) 0 0) s Mi args below Mt Cd H locs 0 0 Q (F0 Mi 0 ls []) := ?goal
  · rw [hH, hlo] at goal; exact goal
  clear hH hlo
  refine li_iload_n hC hl 1 rfl dX12_allFrom_0 ?_
  refine li_aload_n hC hl 0 rfl dX12_allFrom_1 ?_
  refine li_get hC hK.1 ck_X12 (hS.1 0 _ rfl) 1 (by decide) fl_X12_9 rfl (v := .ref (ad 1)) rfl dX12_allFrom_2 ?_
  refine li_iconst hC dX12_allFrom_5 ?_
  refine li_iald_k (k := 0) (f := (A 1)) hC hK.1 (hS.1 1 _ rfl) rfl (by decide) (by decide) dX12_allFrom_6 ?_
  refine li_icmp_ne (tgt := 12) hC (by decide) (rg (by omega) (by omega)) (rg (by omega) (by omega)) dX12_allFrom_7 (fun c1 => ?_) (fun c1 => ?_)
  · refine li_iconst hC dX12_allFrom_12 ?_
    refine li_istore hC (lv' := [(4, .int (iI 0)), (0, .ref h0), (1, .int (iI n)), (2, .int (iI used)), (3, .int (iI set))]) hl (by decide) rfl dX12_allFrom_13 (fun ls hl => ?_)
    have L15_2 : ∀ (fuel : Nat) (p : Int) (ls : Array Slot) (H : Heap) (locs : List Loc), St g Aw s.heap H locs (RW g h0 ad F A) → lv_has ls 6 [(0, .ref h0), (1, .int (iI n)), (2, .int (iI used)), (3, .int (iI set)), (4, .int (iI p))] → (0 ≤ p ∧ p ≤ 4) → ((cmpP (fun p => cmp (okA (A 1) wide set) (d - 1) (u ++ [p])) (okA (A 1) wide set u) p.toNat) = []) → (((4 : Int) - p).toNat) < fuel → W Pg l Ev (rmC (2 + d) 0 0) s Mi args below Mt Cd H locs 0 0 Q (F0 Mi 15 ls []) := by
      intro fuel
      induction fuel with
      | zero => intro p ls H locs hS hl hp he hm; exact absurd hm (Nat.not_lt_zero _)
      | succ fuel ih15 =>
        intro p ls H locs hS hl hp he hm
        refine li_iload hC hl 4 rfl dX12_allFrom_15 ?_
        refine li_iconst hC dX12_allFrom_17 ?_
        refine li_icmp_ge (tgt := 86) hC (by decide) (rg (by omega) (by omega)) (rg (by decide) (by decide)) dX12_allFrom_18 (fun c3 => ?_) (fun c3 => ?_)
        · have hp4 : p = 4 := by omega
          have he4 := he
          rw [hp4] at he4
          refine li_iconst hC dX12_allFrom_86 ?_
          exact hQ _ _ _ _ _ _ _ _ dX12_allFrom_87 hS (by omega) (by omega) (by omega) (⟨iI_inj (b2_f (fun h9 => h9 (by rw [cmp_s (d := d) (by omega), show (5 : Nat) = ((4 : Int) + 1).toNat from rfl]; exact cmpP_e (by omega) he4 (Or.inl (fun h8 => absurd h8.1 (by omega)))))).symm, rfl⟩)
        · refine li_iconst hC dX12_allFrom_21 ?_
          refine li_iload_n hC hl 1 rfl dX12_allFrom_22 ?_
          refine li_imul hC dX12_allFrom_23 ?_
          refine li_iload hC hl 4 rfl dX12_allFrom_24 ?_
          refine li_iadd hC dX12_allFrom_26 ?_
          refine li_istore hC (lv' := [(5, .int (iI ((4 * n) + p))), (0, .ref h0), (1, .int (iI n)), (2, .int (iI used)), (3, .int (iI set)), (4, .int (iI p))]) hl (by decide) rfl dX12_allFrom_27 (fun ls hl => ?_)
          refine li_iload_n hC hl 4 rfl dX12_allFrom_29 ?_
          refine li_iload hC hl 5 rfl dX12_allFrom_30 ?_
          refine li_ishr hC dX12_allFrom_32 ?_
          refine li_iconst hC dX12_allFrom_33 ?_
          refine li_iand hC dX12_allFrom_34 ?_
          refine li_iconst hC dX12_allFrom_35 ?_
          refine li_icmp_ne (tgt := 80) hC (by decide) (rng_of _) (rg (by decide) (by decide)) dX12_allFrom_36 (fun c4 => ?_) (fun c4 => ?_)
          · try have hnf : ¬ freeL (A 1) u p := fun h9 => absurd (hfb.mpr h9) (by assumption)
            refine li_iinc hC (lv' := [(4, .int (iI (p + 1))), (5, .int (iI ((4 * n) + p))), (0, .ref h0), (1, .int (iI n)), (2, .int (iI used)), (3, .int (iI set))]) hl 5 rfl (by decide) rfl dX12_allFrom_80 (fun ls hl => ?_)
            refine li_goto (tgt := 15) hC (by decide) dX12_allFrom_83 ?_
            exact ih15 (p + 1) _ _ _ hS (lv_sub hl [2, 3, 4, 5, 0] rfl) (by omega) (by first | exact cmpP_e hp.1 he (Or.inl (fun h9 => absurd h9.2.1 (by assumption))) | exact cmpP_e hp.1 he (Or.inl (fun h9 => absurd h9.2.2.1 (by rw [← hn]; assumption))) | exact cmpP_e hp.1 he (Or.inl (fun h9 => absurd h9.2.2.2 (by assumption))) | exact cmpP_e hp.1 he (Or.inr (Classical.byContradiction (by assumption)))) (by omega)
          · refine li_aload_n hC hl 1 rfl dX12_allFrom_39 ?_
            refine li_get hC hK.1 ck_X12 (hS.1 0 _ rfl) 11 (by decide) fl_X12_25 rfl (v := .ref (ad 11)) rfl dX12_allFrom_40 ?_
            refine li_iload hC hl 0 rfl dX12_allFrom_43 ?_
            refine li_zald (f := (A 11)) hC hK.1 (hS.1 5 _ rfl) ⟨by omega, by omega⟩ (by decide) dX12_allFrom_45 ?_
            rw [FitA_at hft (by omega) (by omega)]
            refine li_ifeq_b (tgt := 80) hC (by decide) dX12_allFrom_46 (fun c5 => ?_) (fun c5 => ?_)
            · try have hnf : ¬ freeL (A 1) u p := fun h9 => absurd (hfb.mpr h9) (by assumption)
              refine li_iinc hC (lv' := [(4, .int (iI (p + 1))), (5, .int (iI ((4 * n) + p))), (0, .ref h0), (1, .int (iI n)), (2, .int (iI used)), (3, .int (iI set))]) hl 5 rfl (by decide) rfl dX12_allFrom_80 (fun ls hl => ?_)
              refine li_goto (tgt := 15) hC (by decide) dX12_allFrom_83 ?_
              exact ih15 (p + 1) _ _ _ hS (lv_sub hl [2, 3, 4, 5, 0] rfl) (by omega) (by first | exact cmpP_e hp.1 he (Or.inl (fun h9 => absurd h9.2.1 (by assumption))) | exact cmpP_e hp.1 he (Or.inl (fun h9 => absurd h9.2.2.1 (by rw [← hn]; assumption))) | exact cmpP_e hp.1 he (Or.inl (fun h9 => absurd h9.2.2.2 (by assumption))) | exact cmpP_e hp.1 he (Or.inr (Classical.byContradiction (by assumption)))) (by omega)
            · refine li_aload_n hC hl 1 rfl dX12_allFrom_49 ?_
              refine li_get hC hK.1 ck_X12 (hS.1 0 _ rfl) 13 (by decide) fl_X12_31 rfl (v := .ref (ad 13)) rfl dX12_allFrom_50 ?_
              refine li_iload hC hl 0 rfl dX12_allFrom_53 ?_
              refine li_iald (f := (A 13)) hC hK.1 (hS.1 7 _ rfl) ⟨by omega, by omega⟩ (by decide) dX12_allFrom_55 ?_
              rw [ClA_at hcl (by omega) (by omega)]
              refine li_iload_n hC hl 3 rfl dX12_allFrom_56 ?_
              refine li_iand hC dX12_allFrom_57 ?_
              have hfb := free_bits (S := A 1) (u := u) (p := p) (D := (A 1) 0) (by omega) (by omega) hok
              rw [← hn, ← hus] at hfb
              refine li_if_ne (tgt := 80) hC (by decide) (rng_of _) dX12_allFrom_58 (fun c6 => ?_) (fun c6 => ?_)
              · try have hnf : ¬ freeL (A 1) u p := fun h9 => absurd (hfb.mpr h9) (by assumption)
                refine li_iinc hC (lv' := [(4, .int (iI (p + 1))), (5, .int (iI ((4 * n) + p))), (0, .ref h0), (1, .int (iI n)), (2, .int (iI used)), (3, .int (iI set))]) hl 5 rfl (by decide) rfl dX12_allFrom_80 (fun ls hl => ?_)
                refine li_goto (tgt := 15) hC (by decide) dX12_allFrom_83 ?_
                exact ih15 (p + 1) _ _ _ hS (lv_sub hl [2, 3, 4, 5, 0] rfl) (by omega) (by first | exact cmpP_e hp.1 he (Or.inl (fun h9 => absurd h9.2.1 (by assumption))) | exact cmpP_e hp.1 he (Or.inl (fun h9 => absurd h9.2.2.1 (by rw [← hn]; assumption))) | exact cmpP_e hp.1 he (Or.inl (fun h9 => absurd h9.2.2.2 (by assumption))) | exact cmpP_e hp.1 he (Or.inr (Classical.byContradiction (by assumption)))) (by omega)
              · have hfr := hfb.mp (by assumption)
                refine li_aload_n hC hl 1 rfl dX12_allFrom_61 ?_
                refine li_iload_n hC hl 2 rfl dX12_allFrom_62 ?_
                refine li_iconst hC dX12_allFrom_63 ?_
                refine li_iadd hC dX12_allFrom_64 ?_
                refine li_iload_n hC hl 3 rfl dX12_allFrom_65 ?_
                refine li_iconst hC dX12_allFrom_66 ?_
                refine li_iload hC hl 0 rfl dX12_allFrom_67 ?_
                refine li_ishl hC dX12_allFrom_69 ?_
                refine li_ior hC dX12_allFrom_70 ?_
                refine li_iload_n hC hl 4 rfl dX12_allFrom_71 ?_
                refine wr_callVz hC (ih0 (d - 1) (by omega) h0 ad F A (A 1) rfl (n + 1) (ior used (ishl 1 ((4 * n) + p))) set (u ++ [p]) wide (A 11) (A 13) rfl rfl (by rw [len_app]; omega) (by rw [len_app]; omega) (by rw [hus, hn]; exact use_app (by omega) (by omega)) (okL_app hok (by omega)) hft hcl (by omega) hI _) mk_X12_allFrom ml_X12_251 (rr (by omega)) ⟨by simp only [rmC]; omega, by simp only [rmC]; omega⟩ hK hS (li_recv hK.1 ck_X12 (hS.1 0 _ rfl)) rfl hl.1 rfl (Nat.le_of_ble_eq_true rfl) dX12_allFrom_72 (fun v w H locs hp hS => ?_)
                obtain ⟨rfl, rfl⟩ := hp
                refine li_ifeq_b (tgt := 80) hC (by decide) dX12_allFrom_75 (fun c7 => ?_) (fun c7 => ?_)
                · try have hnf : ¬ freeL (A 1) u p := fun h9 => absurd (hfb.mpr h9) (by assumption)
                  refine li_iinc hC (lv' := [(4, .int (iI (p + 1))), (5, .int (iI ((4 * n) + p))), (0, .ref h0), (1, .int (iI n)), (2, .int (iI used)), (3, .int (iI set))]) hl 5 rfl (by decide) rfl dX12_allFrom_80 (fun ls hl => ?_)
                  refine li_goto (tgt := 15) hC (by decide) dX12_allFrom_83 ?_
                  exact ih15 (p + 1) _ _ _ hS (lv_sub hl [2, 3, 4, 5, 0] rfl) (by omega) (by first | exact cmpP_e hp.1 he (Or.inl (fun h9 => absurd h9.2.1 (by assumption))) | exact cmpP_e hp.1 he (Or.inl (fun h9 => absurd h9.2.2.1 (by rw [← hn]; assumption))) | exact cmpP_e hp.1 he (Or.inl (fun h9 => absurd h9.2.2.2 (by assumption))) | exact cmpP_e hp.1 he (Or.inr (Classical.byContradiction (by assumption)))) (by omega)
                · refine li_iconst hC dX12_allFrom_78 ?_
                  exact hQ _ _ _ _ _ _ _ _ dX12_allFrom_79 hS (by omega) (by omega) (by omega) (⟨iI_inj (b2_t (by rw [cmp_s (d := d) (by omega)]; exact cmpP_ne hp.1 ⟨by omega, by assumption, by rw [← hn]; assumption, by assumption⟩ (by assumption) 5 (by omega))).symm, rfl⟩)
    exact L15_2 ((((4 : Int) - 0).toNat) + 1) 0 _ _ _ hS (lv_sub hl [1, 2, 3, 4, 0] rfl) (by omega) (by rfl) (by omega)
  · refine li_iconst hC dX12_allFrom_10 ?_
    exact hQ _ _ _ _ _ _ _ _ dX12_allFrom_11 hS (by omega) (by omega) (by omega) (by obtain rfl : d = 0 := (by omega); exact ⟨iI_inj (b2_t (by simp [cmp])).symm, rfl⟩)
set_option maxHeartbeats 4000000 in
set_option maxRecDepth 100000 in
theorem c_X12_all (l : Launch) (g : GG) (h0 : Nat) (ad : Nat → Nat) (F : Nat → Int) (A : Nat → Nat → Int) (S : Nat → Int) (hSA : A 1 = S) (set : Int) (hw : rng set) (hI : InvD S) (hH : InvH S) (sz : Nat) : MwrI l g yX12_all cX12_all 2 10 0 0 [.ref h0, .int (iI set)] sz (RW g h0 ad F A) (fun v w => v = iI (iteP (1 ≤ set ∧ set ≤ 15) (b2 (allIn S (wideS S) set)) (-2)) ∧ ∃ F2 A2, KeepR S F F2 A A2 ∧ w = RW g h0 ad F2 A2) := by
  subst hSA
  refine wr_startI (own := RX12) (by decide) rfl (Nat.le_of_ble_eq_true rfl) ?_
  intro Pg Ev s Mi args below Mt Cd ls Q Aw hC hK hS hnm hl hQ
  have hD0 := hI.1
  have hH0 := hH.1
  have hl : lv_has ls 2 [(0, .ref h0), (1, .int (iI set))] := hl
  obtain ⟨H, hH⟩ : ∃ H, H = s.heap := ⟨_, rfl⟩
  obtain ⟨locs, hlo⟩ : ∃ locs : List Loc, locs = [] := ⟨_, rfl⟩
  have hS : St g Aw s.heap H locs (RW g h0 ad F A) := by rw [hH, hlo]; exact hS
  have goal : W Pg l Ev (rmC 10 0 0) s Mi args below Mt Cd H locs 0 0 Q (F0 Mi 0 ls []) := ?goal
  · rw [hH, hlo] at goal; exact goal
  clear hH hlo
  refine li_iload_n hC hl 1 rfl dX12_all_0 ?_
  refine li_iconst hC dX12_all_1 ?_
  refine li_bipush hC (z := 15) rfl dX12_all_2 ?_
  refine ro_callSi hC (c_X12_in l g set 1 15 hw (rg (by decide) (by decide)) (rg (by decide) (by decide))) mk_X12_in ml_X12_56 (rr (by decide)) ⟨Nat.le_of_ble_eq_true rfl, Nat.le_of_ble_eq_true rfl⟩ hK.1 (hS.ro hK) trivial rfl hl.1 rfl (Nat.le_of_ble_eq_true rfl) dX12_all_4 ?_
  refine li_ifne_b (tgt := 13) hC (by decide) dX12_all_7 (fun c1 => ?_) (fun c1 => ?_)
  · refine li_aload_n hC hl 0 rfl dX12_all_13 ?_
    refine li_aload_n hC hl 0 rfl dX12_all_14 ?_
    refine ro_callVi hC (c_X12_wideNow l g h0 (A 1) hH) mk_X12_wideNow ml_X12_164 (rr (by decide)) ⟨Nat.le_of_ble_eq_true rfl, Nat.le_of_ble_eq_true rfl⟩ hK.1 (hS.ro hK) (RW_pic (F := F) (A := A) hS) (li_recv hK.1 ck_X12 (hS.1 0 _ rfl)) rfl hl.1 rfl (Nat.le_of_ble_eq_true rfl) dX12_all_15 ?_
    have q2 := wideS_rng (A 1)
    refine wr_callVv hC (c_X12_looksForFits l g h0 ad F A (A 1) rfl (wideS (A 1)) (by omega) hI _) mk_X12_looksForFits ml_X12_217 (rr (by decide)) ⟨by simp only [rmC]; omega, by simp only [rmC]; omega⟩ hK hS (li_recv hK.1 ck_X12 (hS.1 0 _ rfl)) rfl hl.1 rfl (Nat.le_of_ble_eq_true rfl) dX12_all_18 (fun w H locs hp hS => ?_)
    obtain ⟨u3, hft4, rfl⟩ := hp
    refine li_aload_n hC hl 0 rfl dX12_all_21 ?_
    refine wr_callVv hC (c_X12_looksForClashes l g h0 ad F (va_up A 11 u3) (A 1) rfl hI _) mk_X12_looksForClashes ml_X12_223 (rr (by decide)) ⟨by simp only [rmC]; omega, by simp only [rmC]; omega⟩ hK hS (li_recv hK.1 ck_X12 (hS.1 0 _ rfl)) rfl hl.1 rfl (Nat.le_of_ble_eq_true rfl) dX12_all_22 (fun w H locs hp hS => ?_)
    obtain ⟨u5, hcl6, rfl⟩ := hp
    refine li_aload_n hC hl 0 rfl dX12_all_25 ?_
    refine li_iconst hC dX12_all_26 ?_
    refine li_iconst hC dX12_all_27 ?_
    refine li_iload_n hC hl 1 rfl dX12_all_28 ?_
    refine wr_callVz hC (c_X12_allFrom l g (((A 1) 0).toNat) h0 ad F (va_up (va_up A 11 u3) 13 u5) (A 1) rfl 0 0 set ([]) (wideS (A 1)) u3 u5 rfl rfl (by show ((0 : Nat) : Int) + _ = _; omega) rfl use_nil okL_nil hft4 hcl6 (by omega) hI _) mk_X12_allFrom ml_X12_251 (rr (by omega)) ⟨by simp only [rmC]; omega, by simp only [rmC]; omega⟩ hK hS (li_recv hK.1 ck_X12 (hS.1 0 _ rfl)) rfl hl.1 rfl (Nat.le_of_ble_eq_true rfl) dX12_all_29 (fun v w H locs hp hS => ?_)
    obtain ⟨rfl, rfl⟩ := hp
    refine li_ifeq_b (tgt := 39) hC (by decide) dX12_all_32 (fun c7 => ?_) (fun c7 => ?_)
    · refine li_iconst hC dX12_all_39 ?_
      exact hQ _ _ _ _ _ _ _ _ dX12_all_40 hS (by omega) (by omega) (⟨iI_inj (by first | (rw [iteP_f (by omega)]; done) | (rw [iteP_t (by omega)]; first | exact (b2_t (by assumption)).symm | exact (b2_f (by assumption)).symm)), ⟨F, (va_up (va_up A 11 u3) 13 u5), ⟨⟨rfl, rfl⟩, rfl, rfl, rfl⟩, rfl⟩⟩)
    · refine li_iconst hC dX12_all_35 ?_
      refine li_goto (tgt := 40) hC (by decide) dX12_all_36 ?_
      exact hQ _ _ _ _ _ _ _ _ dX12_all_40 hS (by omega) (by omega) (⟨iI_inj (by first | (rw [iteP_f (by omega)]; done) | (rw [iteP_t (by omega)]; first | exact (b2_t (by assumption)).symm | exact (b2_f (by assumption)).symm)), ⟨F, (va_up (va_up A 11 u3) 13 u5), ⟨⟨rfl, rfl⟩, rfl, rfl, rfl⟩, rfl⟩⟩)
  · refine li_bipush hC (z := -2) rfl dX12_all_10 ?_
    exact hQ _ _ _ _ _ _ _ _ dX12_all_12 hS (by omega) (by omega) (⟨iI_inj (by first | (rw [iteP_f (by omega)]; done) | (rw [iteP_t (by omega)]; first | exact (b2_t (by assumption)).symm | exact (b2_f (by assumption)).symm)), ⟨F, A, ⟨⟨rfl, rfl⟩, rfl, rfl, rfl⟩, rfl⟩⟩)
set_option maxHeartbeats 4000000 in
set_option maxRecDepth 100000 in
theorem c_X12_room (l : Launch) (g : GG) (h0 : Nat) (ad : Nat → Nat) (F : Nat → Int) (A : Nat → Nat → Int) (S : Nat → Int) (hSA : A 1 = S) (hI : InvD S) (hH : InvH S) (sz : Nat) : MwrI l g yX12_room cX12_room 2 10 0 0 [.ref h0] sz (RW g h0 ad F A) (fun v w => v = iI (roomS S) ∧ ∃ F2 A2, KeepR S F F2 A A2 ∧ w = RW g h0 ad F2 A2) := by
  subst hSA
  refine wr_startI (own := RX12) (by decide) rfl (Nat.le_of_ble_eq_true rfl) ?_
  intro Pg Ev s Mi args below Mt Cd ls Q Aw hC hK hS hnm hl hQ
  have hD0 := hI.1
  have hH0 := hH.1
  have hl : lv_has ls 2 [(0, .ref h0)] := hl
  obtain ⟨H, hH⟩ : ∃ H, H = s.heap := ⟨_, rfl⟩
  obtain ⟨locs, hlo⟩ : ∃ locs : List Loc, locs = [] := ⟨_, rfl⟩
  have hS : St g Aw s.heap H locs (RW g h0 ad F A) := by rw [hH, hlo]; exact hS
  have goal : W Pg l Ev (rmC 10 0 0) s Mi args below Mt Cd H locs 0 0 Q (F0 Mi 0 ls []) := ?goal
  · rw [hH, hlo] at goal; exact goal
  clear hH hlo
  refine li_aload_n hC hl 0 rfl dX12_room_0 ?_
  refine wr_callVv hC (c_X12_looksForClashes l g h0 ad F A (A 1) rfl hI _) mk_X12_looksForClashes ml_X12_223 (rr (by decide)) ⟨by simp only [rmC]; omega, by simp only [rmC]; omega⟩ hK hS (li_recv hK.1 ck_X12 (hS.1 0 _ rfl)) rfl hl.1 rfl (Nat.le_of_ble_eq_true rfl) dX12_room_1 (fun w H locs hp hS => ?_)
  obtain ⟨u1, hcl2, rfl⟩ := hp
  refine li_bipush hC (z := 10) rfl dX12_room_4 ?_
  refine li_istore_n hC (lv' := [(1, .int (iI 10)), (0, .ref h0)]) hl (by decide) rfl dX12_room_6 (fun ls hl => ?_)
  have L7_3 : ∀ (fuel : Nat) (wide : Int) (f11 : Nat → Int) (ls : Array Slot) (H : Heap) (locs : List Loc), St g Aw s.heap H locs (RW g h0 ad F (va_up (va_up A 11 f11) 13 u1)) → lv_has ls 2 [(0, .ref h0), (1, .int (iI wide))] → (10 ≤ wide ∧ wide ≤ 31) → (frU (fun wide => allIn (A 1) wide 15) 10 21 = frU (fun wide => allIn (A 1) wide 15) wide (31 - wide).toNat) → (((31 : Int) - wide).toNat) < fuel → W Pg l Ev (rmC 10 0 0) s Mi args below Mt Cd H locs 0 0 Q (F0 Mi 7 ls []) := by
    intro fuel
    induction fuel with
    | zero => intro wide f11 ls H locs hS hl hw hr hm; exact absurd hm (Nat.not_lt_zero _)
    | succ fuel ih7 =>
      intro wide f11 ls H locs hS hl hw hr hm
      refine li_iload_n hC hl 1 rfl dX12_room_7 ?_
      refine li_bipush hC (z := 30) rfl dX12_room_8 ?_
      refine li_icmp_gt (tgt := 37) hC (by decide) (rg (by omega) (by omega)) (rg (by decide) (by decide)) dX12_room_10 (fun c4 => ?_) (fun c4 => ?_)
      · refine li_bipush hC (z := -5) rfl dX12_room_37 ?_
        exact hQ _ _ _ _ _ _ _ _ dX12_room_39 hS (by omega) (by omega) (⟨iI_inj (by unfold roomS; rw [hr]; first | (rw [frU_s (by omega), iteP_t (by assumption)]; done) | (rw [show wide = 31 by omega]; rfl)), ⟨F, (va_up (va_up A 11 f11) 13 u1), ⟨⟨rfl, rfl⟩, rfl, rfl, rfl⟩, rfl⟩⟩)
      · refine li_aload_n hC hl 0 rfl dX12_room_13 ?_
        refine li_iload_n hC hl 1 rfl dX12_room_14 ?_
        refine wr_callVv hC (c_X12_looksForFits l g h0 ad F (va_up (va_up A 11 f11) 13 u1) (A 1) rfl wide (by omega) hI _) mk_X12_looksForFits ml_X12_217 (rr (by decide)) ⟨by simp only [rmC]; omega, by simp only [rmC]; omega⟩ hK hS (li_recv hK.1 ck_X12 (hS.1 0 _ rfl)) rfl hl.1 rfl (Nat.le_of_ble_eq_true rfl) dX12_room_15 (fun w H locs hp hS => ?_)
        obtain ⟨u5, hft6, rfl⟩ := hp
        refine li_aload_n hC hl 0 rfl dX12_room_18 ?_
        refine li_iconst hC dX12_room_19 ?_
        refine li_iconst hC dX12_room_20 ?_
        refine li_bipush hC (z := 15) rfl dX12_room_21 ?_
        refine wr_callVz hC (c_X12_allFrom l g (((A 1) 0).toNat) h0 ad F (va_up (va_up A 11 u5) 13 u1) (A 1) rfl 0 0 15 ([]) wide u5 u1 rfl rfl (by show ((0 : Nat) : Int) + _ = _; omega) rfl use_nil okL_nil hft6 hcl2 (by omega) hI _) mk_X12_allFrom ml_X12_251 (rr (by omega)) ⟨by simp only [rmC]; omega, by simp only [rmC]; omega⟩ hK hS (li_recv hK.1 ck_X12 (hS.1 0 _ rfl)) rfl hl.1 rfl (Nat.le_of_ble_eq_true rfl) dX12_room_23 (fun v w H locs hp hS => ?_)
        obtain ⟨rfl, rfl⟩ := hp
        refine li_ifeq_b (tgt := 31) hC (by decide) dX12_room_26 (fun c7 => ?_) (fun c7 => ?_)
        · refine li_iinc hC (lv' := [(1, .int (iI (wide + 1))), (0, .ref h0)]) hl 1 rfl (by decide) rfl dX12_room_31 (fun ls hl => ?_)
          refine li_goto (tgt := 7) hC (by decide) dX12_room_34 ?_
          exact ih7 (wide + 1) u5 _ _ _ hS (lv_sub hl [1, 0] rfl) (by omega) (by rw [hr, frU_s (by omega), iteP_f (by assumption)]) (by omega)
        · refine li_iload_n hC hl 1 rfl dX12_room_29 ?_
          exact hQ _ _ _ _ _ _ _ _ dX12_room_30 hS (by omega) (by omega) (⟨iI_inj (by unfold roomS; rw [hr]; first | (rw [frU_s (by omega), iteP_t (by assumption)]; done) | (rw [show wide = 31 by omega]; rfl)), ⟨F, (va_up (va_up A 11 u5) 13 u1), ⟨⟨rfl, rfl⟩, rfl, rfl, rfl⟩, rfl⟩⟩)
  exact L7_3 ((((31 : Int) - 10).toNat) + 1) 10 (A 11) _ _ _ hS (lv_sub hl [1, 0] rfl) (by omega) (by rfl) (by omega)
