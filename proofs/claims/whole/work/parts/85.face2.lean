set_option maxHeartbeats 4000000 in
set_option maxRecDepth 100000 in
theorem c_X11_most (l : Launch) (g : GG) (ad : Nat → Nat) (F : Nat → Int) (A : Nat → Nat → Int) (E : Nat → Nat) (tl : va_W) (S : Nat → Int) (nm : Nat → Nat) (hSh : ShW g ad F A E tl S nm) (hI : InvD S) (what : Int) (hwhat : rng what) (hH : InvH S) (hC0 : InvC S) (hG : InvG S) (sz : Nat) : MwrI l g yX11_most cX11_most 2 23 0 0 [.ref (ad 0), .int (iI what)] sz (CW g ad F A E tl) (fun v w => v = iI (mostR S what) ∧ ∃ F2 A2, w = CW g ad F2 A2 E tl ∧ KpS F F2 A A2 ∧ ShW g ad F2 A2 E tl (S) nm) := by
  refine wr_startI (own := RX11) (by decide) rfl (Nat.le_of_ble_eq_true rfl) ?_
  intro Pg Ev s Mi args below Mt Cd ls Q Aw hC hK hS hnm hl hQ
  have hSh0 := hSh
  obtain ⟨hTp, hCd, hNs, hWh, hRw, hSn, hPl, hBk, hMp⟩ := hSh0
  have hNm := hNs.2.2
  have hD0 := hI.1
  have hNs0 := hNs.1
  obtain ⟨n1, hnr, hn1, hn2⟩ := wrap10 hwhat
  have hl : lv_has ls 2 [(0, .ref (ad 0)), (1, .int (iI what))] := hl
  obtain ⟨H, hH⟩ : ∃ H, H = s.heap := ⟨_, rfl⟩
  obtain ⟨locs, hlo⟩ : ∃ locs : List Loc, locs = [] := ⟨_, rfl⟩
  have hS : St g Aw s.heap H locs (CW g ad F A E tl) := by rw [hH, hlo]; exact hS
  have goal : W Pg l Ev (rmC 23 0 0) s Mi args below Mt Cd H locs 0 0 Q (F0 Mi 0 ls []) := ?goal
  · rw [hH, hlo] at goal; exact goal
  clear hH hlo
  have J27_1 : ∀  (ls : Array Slot) (H : Heap) (locs : List Loc), St g Aw s.heap H locs (CW g ad F A E tl) → lv_has ls 2 [(0, .ref (ad 0)), (1, .int (iI what))] → (what = 0 ∨ what = 1 ∨ (0 ≤ n1 ∧ n1 < S 0)) → W Pg l Ev (rmC 23 0 0) s Mi args below Mt Cd H locs 0 0 Q (F0 Mi 27 ls []) := by
    intro  ls H locs hS hl hcs
    refine li_aload_n hC hl 0 rfl dX11_most_27 ?_
    refine li_get hC hK.1 ck_X11 (hS.1 0 _ rfl) 4 (by decide) fl_X11_47 rfl (v := .ref (ad 42)) rfl dX11_most_28 ?_
    refine li_ldc hC (z := 100000) kc_X11_197 rfl dX11_most_31 ?_
    refine wr_callVv hC (c_X7_bestWay l g ad F A E tl S nm hSh hI hH hC0 hG 100000 (by omega) _) mk_X7_bestWay ml_X11_198 (rr (by decide)) ⟨by simp only [rmC]; omega, by simp only [rmC]; omega⟩ hK hS (li_recv hK.1 ck_X7 (hS.1 42 _ rfl)) rfl hl.1 rfl (Nat.le_of_ble_eq_true rfl) dX11_most_33 (fun w H locs hp hS => ?_)
    obtain ⟨F2, A2, hw2, hKx2, hSh2, h712, h732, h742, h542⟩ := hp
    rw [hw2] at hS
    have hKp2 := KpS.tr (KpS.rf _ _) hKx2
    have hS : St g Aw s.heap H locs (CW g ad F2 A2 E tl) := hS
    obtain ⟨hM1, hM2, hM3, hM4, hM5⟩ := most_G hI hC0 (b := 100000) (by0 := 1) (Or.inl ⟨rfl, rfl⟩) (A 54)
    rw [← h732] at hM4
    refine li_iload_n hC hl 1 rfl dX11_most_36 ?_
    by_cases c3 : what = 0
    · refine li_lookup (tgt := 64) hC hwhat (by decide) (off := 27) (by rw [c3]; decide) (by decide) dX11_most_37 ?_
      refine li_aload_n hC hl 0 rfl dX11_most_64 ?_
      refine li_get hC hK.1 ck_X11 (hS.1 0 _ rfl) 4 (by decide) fl_X11_47 rfl (v := .ref (ad 42)) rfl dX11_most_65 ?_
      refine ro_callVi hC (c_X7_howMany l g ad F2 A2 E tl S nm (by omega) (fun _ => ⟨by omega, by omega⟩) (by omega)) mk_X7_howMany ml_X11_201 (rr (by decide)) ⟨Nat.le_of_ble_eq_true rfl, Nat.le_of_ble_eq_true rfl⟩ hK.1 (hS.ro hK) hS.1 (li_recv hK.1 ck_X7 (hS.1 42 _ rfl)) rfl hl.1 rfl (Nat.le_of_ble_eq_true rfl) dX11_most_68 ?_
      exact hQ _ _ _ _ _ _ _ _ dX11_most_71 hS (by omega) (by omega) (⟨iI_inj (by rw [if_neg (show ¬ F2 74 = 0 by omega)]; unfold mostR; rw [iteP_t (by omega), if_pos (by omega)]; omega), F2, A2, rfl, hKp2, hSh2⟩)
    by_cases c4 : what = 1
    · refine li_lookup (tgt := 72) hC hwhat (by decide) (off := 35) (by rw [c4]; decide) (by decide) dX11_most_37 ?_
      refine li_aload_n hC hl 0 rfl dX11_most_72 ?_
      refine li_get hC hK.1 ck_X11 (hS.1 0 _ rfl) 4 (by decide) fl_X11_47 rfl (v := .ref (ad 42)) rfl dX11_most_73 ?_
      refine ro_callVi hC (c_X7_score l g ad F2 A2 E tl S nm (by omega) (fun _ => ⟨by omega, by omega⟩) (by omega)) mk_X7_score ml_X11_204 (rr (by decide)) ⟨Nat.le_of_ble_eq_true rfl, Nat.le_of_ble_eq_true rfl⟩ hK.1 (hS.ro hK) hS.1 (li_recv hK.1 ck_X7 (hS.1 42 _ rfl)) rfl hl.1 rfl (Nat.le_of_ble_eq_true rfl) dX11_most_76 ?_
      exact hQ _ _ _ _ _ _ _ _ dX11_most_79 hS (by omega) (by omega) (⟨iI_inj (by rw [if_neg (show ¬ F2 74 = 0 by omega)]; unfold mostR; rw [iteP_t (by omega), if_neg (by omega), if_pos (by omega)]; omega), F2, A2, rfl, hKp2, hSh2⟩)
    refine li_lookup (tgt := 80) hC hwhat (by decide) (off := 43) (by simp only [Op.lookupswitch.offset]; simp [Ne.symm c3, c3, Ne.symm c4, c4]) (by decide) dX11_most_37 ?_
    refine li_aload_n hC hl 0 rfl dX11_most_80 ?_
    refine li_get hC hK.1 ck_X11 (hS.1 0 _ rfl) 4 (by decide) fl_X11_47 rfl (v := .ref (ad 42)) rfl dX11_most_81 ?_
    refine li_iload_n hC hl 1 rfl dX11_most_84 ?_
    refine li_bipush hC (z := 10) rfl dX11_most_85 ?_
    refine li_isub hC dX11_most_87 ?_
    rw [hn1]
    refine ro_callVi hC (c_X7_found l g ad F2 A2 E tl S nm n1 hI.1 (by omega)) mk_X7_found ml_X11_206 (rr (by decide)) ⟨Nat.le_of_ble_eq_true rfl, Nat.le_of_ble_eq_true rfl⟩ hK.1 (hS.ro hK) hS.1 (li_recv hK.1 ck_X7 (hS.1 42 _ rfl)) rfl hl.1 rfl (Nat.le_of_ble_eq_true rfl) dX11_most_88 ?_
    have hpl := bestT_pl (S := S) (by0 := 1) n1.toNat (by omega)
    have hfk : A2 54 n1.toNat = (bestT S 1).2.2 n1.toNat := (h542 _ (by omega)).trans (hM5 _ (by omega))
    refine ro_callSi hC (c_X11_outward l g ((A2 54) n1.toNat) (rg (by omega) (by omega))) mk_X11_outward ml_X11_134 (rr (by decide)) ⟨Nat.le_of_ble_eq_true rfl, Nat.le_of_ble_eq_true rfl⟩ hK.1 (hS.ro hK) trivial rfl hl.1 rfl (Nat.le_of_ble_eq_true rfl) dX11_most_91 ?_
    have q5 : -5 ≤ orN ((A2 54) n1.toNat) ∧ orN ((A2 54) n1.toNat) ≤ 3 := orN_rng (by omega)
    exact hQ _ _ _ _ _ _ _ _ dX11_most_94 hS (by omega) (by omega) (⟨iI_inj (by unfold mostR; rw [iteP_t (by omega), if_neg (by omega), if_neg (by omega), show what - 10 = n1 by omega, ← hfk]), F2, A2, rfl, hKp2, hSh2⟩)
  refine li_iload_n hC hl 1 rfl dX11_most_0 ?_
  refine li_if_eq (tgt := 27) hC (by decide) hwhat dX11_most_1 (fun c6 => ?_) (fun c6 => ?_)
  · exact J27_1  _ _ _ hS (lv_sub hl [0, 1] rfl) (by omega)
  · refine li_iload_n hC hl 1 rfl dX11_most_4 ?_
    refine li_iconst hC dX11_most_5 ?_
    refine li_icmp_eq (tgt := 27) hC (by decide) hwhat (rg (by decide) (by decide)) dX11_most_6 (fun c7 => ?_) (fun c7 => ?_)
    · exact J27_1  _ _ _ hS (lv_sub hl [0, 1] rfl) (by omega)
    · refine li_aload_n hC hl 0 rfl dX11_most_9 ?_
      refine li_get hC hK.1 ck_X11 (hS.1 0 _ rfl) 1 (by decide) fl_X11_23 rfl (v := .ref (ad 3)) rfl dX11_most_10 ?_
      refine li_iload_n hC hl 1 rfl dX11_most_13 ?_
      refine li_bipush hC (z := 10) rfl dX11_most_14 ?_
      refine li_isub hC dX11_most_16 ?_
      rw [hn1]
      refine ro_callVi hC (c_X8_has l g ad F A E tl S nm hSh hI n1 hnr) mk_X8_has ml_X11_151 (rr (by decide)) ⟨Nat.le_of_ble_eq_true rfl, Nat.le_of_ble_eq_true rfl⟩ hK.1 (hS.ro hK) hS.1 (li_recv hK.1 ck_X8 (hS.1 3 _ rfl)) rfl hl.1 rfl (Nat.le_of_ble_eq_true rfl) dX11_most_17 ?_
      refine li_ifne_b (tgt := 27) hC (by decide) dX11_most_20 (fun c8 => ?_) (fun c8 => ?_)
      · exact J27_1  _ _ _ hS (lv_sub hl [0, 1] rfl) (by omega)
      · refine li_sipush hC (z := -10001) rfl dX11_most_23 ?_
        exact hQ _ _ _ _ _ _ _ _ dX11_most_26 hS (by omega) (by omega) (⟨iI_inj (by unfold mostR; rw [iteP_f (by omega)]), F, A, rfl, KpS.rf _ _, hSh⟩)
set_option maxHeartbeats 4000000 in
set_option maxRecDepth 100000 in
theorem c_X11_best (l : Launch) (g : GG) (ad : Nat → Nat) (F : Nat → Int) (A : Nat → Nat → Int) (E : Nat → Nat) (tl : va_W) (S : Nat → Int) (nm : Nat → Nat) (hSh : ShW g ad F A E tl S nm) (hI : InvD S) (what : Int) (hwhat : rng what) (hH : InvH S) (hC0 : InvC S) (hG : InvG S) (sz : Nat) : MwrI l g yX11_best cX11_best 2 23 0 0 [.ref (ad 0), .int (iI what)] sz (CW g ad F A E tl) (fun v w => v = iI (bestR S what) ∧ ∃ F2 A2, w = CW g ad F2 A2 E tl ∧ KpS F F2 A A2 ∧ ShW g ad F2 A2 E tl (S) nm) := by
  refine wr_startI (own := RX11) (by decide) rfl (Nat.le_of_ble_eq_true rfl) ?_
  intro Pg Ev s Mi args below Mt Cd ls Q Aw hC hK hS hnm hl hQ
  have hSh0 := hSh
  obtain ⟨hTp, hCd, hNs, hWh, hRw, hSn, hPl, hBk, hMp⟩ := hSh0
  have hNm := hNs.2.2
  have hD0 := hI.1
  have hNs0 := hNs.1
  obtain ⟨n1, hnr, hn1, hn2⟩ := wrap10 hwhat
  have hl : lv_has ls 2 [(0, .ref (ad 0)), (1, .int (iI what))] := hl
  obtain ⟨H, hH⟩ : ∃ H, H = s.heap := ⟨_, rfl⟩
  obtain ⟨locs, hlo⟩ : ∃ locs : List Loc, locs = [] := ⟨_, rfl⟩
  have hS : St g Aw s.heap H locs (CW g ad F A E tl) := by rw [hH, hlo]; exact hS
  have goal : W Pg l Ev (rmC 23 0 0) s Mi args below Mt Cd H locs 0 0 Q (F0 Mi 0 ls []) := ?goal
  · rw [hH, hlo] at goal; exact goal
  clear hH hlo
  have J22_1 : ∀  (ls : Array Slot) (H : Heap) (locs : List Loc), St g Aw s.heap H locs (CW g ad F A E tl) → lv_has ls 2 [(0, .ref (ad 0)), (1, .int (iI what))] → (what = 0 ∨ (0 ≤ n1 ∧ n1 < S 0)) → W Pg l Ev (rmC 23 0 0) s Mi args below Mt Cd H locs 0 0 Q (F0 Mi 22 ls []) := by
    intro  ls H locs hS hl hcs
    refine li_aload_n hC hl 0 rfl dX11_best_22 ?_
    refine li_get hC hK.1 ck_X11 (hS.1 0 _ rfl) 4 (by decide) fl_X11_47 rfl (v := .ref (ad 42)) rfl dX11_best_23 ?_
    refine li_iconst hC dX11_best_26 ?_
    refine wr_callVv hC (c_X7_bestWay l g ad F A E tl S nm hSh hI hH hC0 hG 0 (by omega) _) mk_X7_bestWay ml_X11_198 (rr (by decide)) ⟨by simp only [rmC]; omega, by simp only [rmC]; omega⟩ hK hS (li_recv hK.1 ck_X7 (hS.1 42 _ rfl)) rfl hl.1 rfl (Nat.le_of_ble_eq_true rfl) dX11_best_27 (fun w H locs hp hS => ?_)
    obtain ⟨F2, A2, hw2, hKx2, hSh2, h712, h732, h742, h542⟩ := hp
    rw [hw2] at hS
    have hKp2 := KpS.tr (KpS.rf _ _) hKx2
    have hS : St g Aw s.heap H locs (CW g ad F2 A2 E tl) := hS
    obtain ⟨hM1, hM2, hM3, hM4, hM5⟩ := most_G hI hC0 (b := 0) (by0 := 0) (Or.inr ⟨rfl, rfl⟩) (A 54)
    rw [← h732] at hM4
    refine li_iload_n hC hl 1 rfl dX11_best_30 ?_
    refine li_if_ne (tgt := 44) hC (by decide) hwhat dX11_best_31 (fun c3 => ?_) (fun c3 => ?_)
    · refine li_aload_n hC hl 0 rfl dX11_best_44 ?_
      refine li_get hC hK.1 ck_X11 (hS.1 0 _ rfl) 4 (by decide) fl_X11_47 rfl (v := .ref (ad 42)) rfl dX11_best_45 ?_
      refine li_iload_n hC hl 1 rfl dX11_best_48 ?_
      refine li_bipush hC (z := 10) rfl dX11_best_49 ?_
      refine li_isub hC dX11_best_51 ?_
      rw [hn1]
      refine ro_callVi hC (c_X7_found l g ad F2 A2 E tl S nm n1 hI.1 (by omega)) mk_X7_found ml_X11_206 (rr (by decide)) ⟨Nat.le_of_ble_eq_true rfl, Nat.le_of_ble_eq_true rfl⟩ hK.1 (hS.ro hK) hS.1 (li_recv hK.1 ck_X7 (hS.1 42 _ rfl)) rfl hl.1 rfl (Nat.le_of_ble_eq_true rfl) dX11_best_52 ?_
      have hpl := bestT_pl (S := S) (by0 := 0) n1.toNat (by omega)
      have hfk : A2 54 n1.toNat = (bestT S 0).2.2 n1.toNat := (h542 _ (by omega)).trans (hM5 _ (by omega))
      refine ro_callSi hC (c_X11_outward l g ((A2 54) n1.toNat) (rg (by omega) (by omega))) mk_X11_outward ml_X11_134 (rr (by decide)) ⟨Nat.le_of_ble_eq_true rfl, Nat.le_of_ble_eq_true rfl⟩ hK.1 (hS.ro hK) trivial rfl hl.1 rfl (Nat.le_of_ble_eq_true rfl) dX11_best_55 ?_
      have q4 : -5 ≤ orN ((A2 54) n1.toNat) ∧ orN ((A2 54) n1.toNat) ≤ 3 := orN_rng (by omega)
      exact hQ _ _ _ _ _ _ _ _ dX11_best_58 hS (by omega) (by omega) (⟨iI_inj (by unfold bestR; rw [iteP_t (by omega), if_neg (by omega), show what - 10 = n1 by omega, ← hfk]), F2, A2, rfl, hKp2, hSh2⟩)
    · refine li_aload_n hC hl 0 rfl dX11_best_34 ?_
      refine li_get hC hK.1 ck_X11 (hS.1 0 _ rfl) 4 (by decide) fl_X11_47 rfl (v := .ref (ad 42)) rfl dX11_best_35 ?_
      refine ro_callVi hC (c_X7_score l g ad F2 A2 E tl S nm (by omega) (fun _ => ⟨by omega, by omega⟩) (by omega)) mk_X7_score ml_X11_204 (rr (by decide)) ⟨Nat.le_of_ble_eq_true rfl, Nat.le_of_ble_eq_true rfl⟩ hK.1 (hS.ro hK) hS.1 (li_recv hK.1 ck_X7 (hS.1 42 _ rfl)) rfl hl.1 rfl (Nat.le_of_ble_eq_true rfl) dX11_best_38 ?_
      refine li_goto (tgt := 58) hC (by decide) dX11_best_41 ?_
      exact hQ _ _ _ _ _ _ _ _ dX11_best_58 hS (by omega) (by omega) (⟨iI_inj (by rw [if_pos (show F2 74 = 0 by omega)]; unfold bestR; rw [iteP_t (by omega), if_pos (by omega)]; omega), F2, A2, rfl, hKp2, hSh2⟩)
  refine li_iload_n hC hl 1 rfl dX11_best_0 ?_
  refine li_if_eq (tgt := 22) hC (by decide) hwhat dX11_best_1 (fun c5 => ?_) (fun c5 => ?_)
  · exact J22_1  _ _ _ hS (lv_sub hl [0, 1] rfl) (by omega)
  · refine li_aload_n hC hl 0 rfl dX11_best_4 ?_
    refine li_get hC hK.1 ck_X11 (hS.1 0 _ rfl) 1 (by decide) fl_X11_23 rfl (v := .ref (ad 3)) rfl dX11_best_5 ?_
    refine li_iload_n hC hl 1 rfl dX11_best_8 ?_
    refine li_bipush hC (z := 10) rfl dX11_best_9 ?_
    refine li_isub hC dX11_best_11 ?_
    rw [hn1]
    refine ro_callVi hC (c_X8_has l g ad F A E tl S nm hSh hI n1 hnr) mk_X8_has ml_X11_151 (rr (by decide)) ⟨Nat.le_of_ble_eq_true rfl, Nat.le_of_ble_eq_true rfl⟩ hK.1 (hS.ro hK) hS.1 (li_recv hK.1 ck_X8 (hS.1 3 _ rfl)) rfl hl.1 rfl (Nat.le_of_ble_eq_true rfl) dX11_best_12 ?_
    refine li_ifne_b (tgt := 22) hC (by decide) dX11_best_15 (fun c6 => ?_) (fun c6 => ?_)
    · exact J22_1  _ _ _ hS (lv_sub hl [0, 1] rfl) (by omega)
    · refine li_sipush hC (z := -10001) rfl dX11_best_18 ?_
      exact hQ _ _ _ _ _ _ _ _ dX11_best_21 hS (by omega) (by omega) (⟨iI_inj (by unfold bestR; rw [iteP_f (by omega)]), F, A, rfl, KpS.rf _ _, hSh⟩)
set_option maxHeartbeats 4000000 in
set_option maxRecDepth 100000 in
theorem c_X11_all (l : Launch) (g : GG) (ad : Nat → Nat) (F : Nat → Int) (A : Nat → Nat → Int) (E : Nat → Nat) (tl : va_W) (S : Nat → Int) (nm : Nat → Nat) (hSh : ShW g ad F A E tl S nm) (hI : InvD S) (z : Int) (hz : rng z) (sz : Nat) : MwrI l g yX11_all cX11_all 2 23 0 0 [.ref (ad 0), .int (iI z)] sz (CW g ad F A E tl) (fun v w => v = iI (iteP (1 ≤ z ∧ z ≤ 15) (b2 (allIn S (wideS S) z)) (-2)) ∧ ∃ F2 A2, w = CW g ad F2 A2 E tl ∧ KpS F F2 A A2 ∧ ShW g ad F2 A2 E tl (S) nm) := by
  refine wr_startI (own := RX11) (by decide) rfl (Nat.le_of_ble_eq_true rfl) ?_
  intro Pg Ev s Mi args below Mt Cd ls Q Aw hC hK hS hnm hl hQ
  have hSh0 := hSh
  obtain ⟨hTp, hCd, hNs, hWh, hRw, hSn, hPl, hBk, hMp⟩ := hSh0
  have hNm := hNs.2.2
  have hD0 := hI.1
  have hNs0 := hNs.1
  have hws := wideS_rng S
  have hl : lv_has ls 2 [(0, .ref (ad 0)), (1, .int (iI z))] := hl
  obtain ⟨H, hH⟩ : ∃ H, H = s.heap := ⟨_, rfl⟩
  obtain ⟨locs, hlo⟩ : ∃ locs : List Loc, locs = [] := ⟨_, rfl⟩
  have hS : St g Aw s.heap H locs (CW g ad F A E tl) := by rw [hH, hlo]; exact hS
  have goal : W Pg l Ev (rmC 23 0 0) s Mi args below Mt Cd H locs 0 0 Q (F0 Mi 0 ls []) := ?goal
  · rw [hH, hlo] at goal; exact goal
  clear hH hlo
  refine li_iload_n hC hl 1 rfl dX11_all_0 ?_
  refine li_iconst hC dX11_all_1 ?_
  refine li_icmp_lt (tgt := 11) hC (by decide) hz (rg (by decide) (by decide)) dX11_all_2 (fun c1 => ?_) (fun c1 => ?_)
  · refine li_bipush hC (z := -2) rfl dX11_all_11 ?_
    exact hQ _ _ _ _ _ _ _ _ dX11_all_13 hS (by omega) (by omega) (⟨iI_inj (by rw [iteP_f (by omega)]), F, A, rfl, KpS.rf _ _, hSh⟩)
  · refine li_iload_n hC hl 1 rfl dX11_all_5 ?_
    refine li_bipush hC (z := 15) rfl dX11_all_6 ?_
    refine li_icmp_le (tgt := 14) hC (by decide) hz (rg (by decide) (by decide)) dX11_all_8 (fun c2 => ?_) (fun c2 => ?_)
    · refine li_aload_n hC hl 0 rfl dX11_all_14 ?_
      refine li_get hC hK.1 ck_X11 (hS.1 0 _ rfl) 4 (by decide) fl_X11_47 rfl (v := .ref (ad 42)) rfl dX11_all_15 ?_
      refine li_aload_n hC hl 0 rfl dX11_all_18 ?_
      refine li_get hC hK.1 ck_X11 (hS.1 0 _ rfl) 1 (by decide) fl_X11_23 rfl (v := .ref (ad 3)) rfl dX11_all_19 ?_
      refine li_get hC hK.1 ck_X8 (hS.1 3 _ rfl) 10 (by decide) fl_X11_140 rfl (v := .int (iI (wideS S))) (by rw [← show F 61 = wideS S from hMp.2.1]; rfl) dX11_all_22 ?_
      refine li_iload_n hC hl 1 rfl dX11_all_25 ?_
      refine wr_callVz hC (c_X7_canAllBeIn l g ad F A E tl S nm hSh hI (wideS S) z (by omega) (by omega) _) mk_X7_canAllBeIn ml_X11_209 (rr (by decide)) ⟨by simp only [rmC]; omega, by simp only [rmC]; omega⟩ hK hS (li_recv hK.1 ck_X7 (hS.1 42 _ rfl)) rfl hl.1 rfl (Nat.le_of_ble_eq_true rfl) dX11_all_26 (fun v w H locs hp hS => ?_)
      obtain ⟨hv3, F3, A3, hw3, hKx3, hSh3, h713, h733, h743, h543⟩ := hp
      rw [hw3] at hS
      have hKp3 := KpS.tr (KpS.rf _ _) hKx3
      have hS : St g Aw s.heap H locs (CW g ad F3 A3 E tl) := hS
      rw [hv3, all_G hI (wd := wideS S) (st := z) (by omega) (A 54)]
      refine li_ifeq_b (tgt := 36) hC (by decide) dX11_all_29 (fun c4 => ?_) (fun c4 => ?_)
      · refine li_iconst hC dX11_all_36 ?_
        exact hQ _ _ _ _ _ _ _ _ dX11_all_37 hS (by omega) (by omega) (⟨iI_inj (by rw [iteP_t (by omega)]; first | (rw [b2_t (by assumption)]; done) | (rw [b2_f (by assumption)]; done)), F3, A3, rfl, hKp3, hSh3⟩)
      · refine li_iconst hC dX11_all_32 ?_
        refine li_goto (tgt := 37) hC (by decide) dX11_all_33 ?_
        exact hQ _ _ _ _ _ _ _ _ dX11_all_37 hS (by omega) (by omega) (⟨iI_inj (by rw [iteP_t (by omega)]; first | (rw [b2_t (by assumption)]; done) | (rw [b2_f (by assumption)]; done)), F3, A3, rfl, hKp3, hSh3⟩)
    · refine li_bipush hC (z := -2) rfl dX11_all_11 ?_
      exact hQ _ _ _ _ _ _ _ _ dX11_all_13 hS (by omega) (by omega) (⟨iI_inj (by rw [iteP_f (by omega)]), F, A, rfl, KpS.rf _ _, hSh⟩)
set_option maxHeartbeats 4000000 in
set_option maxRecDepth 100000 in
theorem c_X11_room (l : Launch) (g : GG) (ad : Nat → Nat) (F : Nat → Int) (A : Nat → Nat → Int) (E : Nat → Nat) (tl : va_W) (S : Nat → Int) (nm : Nat → Nat) (hSh : ShW g ad F A E tl S nm) (hI : InvD S) (sz : Nat) : MwrI l g yX11_room cX11_room 2 23 0 0 [.ref (ad 0)] sz (CW g ad F A E tl) (fun v w => v = iI (roomS S) ∧ ∃ F2 A2, w = CW g ad F2 A2 E tl ∧ KpS F F2 A A2 ∧ ShW g ad F2 A2 E tl (S) nm) := by
  refine wr_startI (own := RX11) (by decide) rfl (Nat.le_of_ble_eq_true rfl) ?_
  intro Pg Ev s Mi args below Mt Cd ls Q Aw hC hK hS hnm hl hQ
  have hSh0 := hSh
  obtain ⟨hTp, hCd, hNs, hWh, hRw, hSn, hPl, hBk, hMp⟩ := hSh0
  have hNm := hNs.2.2
  have hD0 := hI.1
  have hNs0 := hNs.1
  have hl : lv_has ls 2 [(0, .ref (ad 0))] := hl
  obtain ⟨H, hH⟩ : ∃ H, H = s.heap := ⟨_, rfl⟩
  obtain ⟨locs, hlo⟩ : ∃ locs : List Loc, locs = [] := ⟨_, rfl⟩
  have hS : St g Aw s.heap H locs (CW g ad F A E tl) := by rw [hH, hlo]; exact hS
  have goal : W Pg l Ev (rmC 23 0 0) s Mi args below Mt Cd H locs 0 0 Q (F0 Mi 0 ls []) := ?goal
  · rw [hH, hlo] at goal; exact goal
  clear hH hlo
  refine li_aload_n hC hl 0 rfl dX11_room_0 ?_
  refine li_get hC hK.1 ck_X11 (hS.1 0 _ rfl) 4 (by decide) fl_X11_47 rfl (v := .ref (ad 42)) rfl dX11_room_1 ?_
  refine li_bipush hC (z := 30) rfl dX11_room_4 ?_
  refine li_bipush hC (z := 15) rfl dX11_room_6 ?_
  refine wr_callVz hC (c_X7_canAllBeIn l g ad F A E tl S nm hSh hI 30 15 (by omega) (by omega) _) mk_X7_canAllBeIn ml_X11_209 (rr (by decide)) ⟨by simp only [rmC]; omega, by simp only [rmC]; omega⟩ hK hS (li_recv hK.1 ck_X7 (hS.1 42 _ rfl)) rfl hl.1 rfl (Nat.le_of_ble_eq_true rfl) dX11_room_8 (fun v w H locs hp hS => ?_)
  obtain ⟨hv1, F1, A1, hw1, hKx1, hSh1, h711, h731, h741, h541⟩ := hp
  rw [hw1] at hS
  have hKp1 := KpS.tr (KpS.rf _ _) hKx1
  have hS : St g Aw s.heap H locs (CW g ad F1 A1 E tl) := hS
  rw [hv1, all_G hI (wd := 30) (st := 15) (by omega) (A 54)]
  refine li_ifne_b (tgt := 17) hC (by decide) dX11_room_11 (fun c2 => ?_) (fun c2 => ?_)
  · refine li_bipush hC (z := 10) rfl dX11_room_17 ?_
    refine li_istore_n hC (lv' := [(1, .int (iI 10)), (0, .ref (ad 0))]) hl (by decide) rfl dX11_room_19 (fun ls hl => ?_)
    have L20_3 : ∀ (fuel : Nat) (x : Int) (F3 : Nat → Int) (A3 : Nat → Nat → Int) (ls : Array Slot) (H : Heap) (locs : List Loc), St g Aw s.heap H locs (CW g ad F3 A3 E tl) → lv_has ls 2 [(0, .ref (ad 0)), (1, .int (iI x))] → (10 ≤ x ∧ x ≤ 30) → (KpS F F3 A A3) → (ShW g ad F3 A3 E tl S nm) → (roomS S = frU (fun wide => allIn S wide 15) x (31 - x).toNat) → (((31 : Int) - x).toNat) < fuel → W Pg l Ev (rmC 23 0 0) s Mi args below Mt Cd H locs 0 0 Q (F0 Mi 20 ls []) := by
      intro fuel
      induction fuel with
      | zero => intro x F3 A3 ls H locs hS hl hwr hKp3 hSh3 hzr hm; exact absurd hm (Nat.not_lt_zero _)
      | succ fuel ih20 =>
        intro x F3 A3 ls H locs hS hl hwr hKp3 hSh3 hzr hm
        refine li_iload_n hC hl 1 rfl dX11_room_20 ?_
        refine li_bipush hC (z := 30) rfl dX11_room_21 ?_
        refine li_icmp_ge (tgt := 47) hC (by decide) (rg (by omega) (by omega)) (rg (by decide) (by decide)) dX11_room_23 (fun c4 => ?_) (fun c4 => ?_)
        · refine li_bipush hC (z := 30) rfl dX11_room_47 ?_
          exact hQ _ _ _ _ _ _ _ _ dX11_room_49 hS (by omega) (by omega) (⟨iI_inj (by rw [hzr, show x = 30 by omega, frU_s (by omega), iteP_t c2]), F3, A3, rfl, hKp3, hSh3⟩)
        · refine li_aload_n hC hl 0 rfl dX11_room_26 ?_
          refine li_get hC hK.1 ck_X11 (hS.1 0 _ rfl) 4 (by decide) fl_X11_47 rfl (v := .ref (ad 42)) rfl dX11_room_27 ?_
          refine li_iload_n hC hl 1 rfl dX11_room_30 ?_
          refine li_bipush hC (z := 15) rfl dX11_room_31 ?_
          refine wr_callVz hC (c_X7_canAllBeIn l g ad F3 A3 E tl S nm hSh3 hI x 15 (by omega) (by omega) _) mk_X7_canAllBeIn ml_X11_209 (rr (by decide)) ⟨by simp only [rmC]; omega, by simp only [rmC]; omega⟩ hK hS (li_recv hK.1 ck_X7 (hS.1 42 _ rfl)) rfl hl.1 rfl (Nat.le_of_ble_eq_true rfl) dX11_room_33 (fun v w H locs hp hS => ?_)
          obtain ⟨hv5, F5, A5, hw5, hKx5, hSh5, h715, h735, h745, h545⟩ := hp
          rw [hw5] at hS
          have hKp5 := KpS.tr hKp3 hKx5
          have hS : St g Aw s.heap H locs (CW g ad F5 A5 E tl) := hS
          rw [hv5, all_G hI (wd := x) (st := 15) (by omega) (A3 54)]
          refine li_ifeq_b (tgt := 41) hC (by decide) dX11_room_36 (fun c6 => ?_) (fun c6 => ?_)
          · refine li_iinc hC (lv' := [(1, .int (iI (x + 1))), (0, .ref (ad 0))]) hl 1 rfl (by decide) rfl dX11_room_41 (fun ls hl => ?_)
            refine li_goto (tgt := 20) hC (by decide) dX11_room_44 ?_
            exact ih20 (x + 1) F5 A5 _ _ _ hS (lv_sub hl [1, 0] rfl) (by omega) (by exact hKp5) (by exact hSh5) (by rw [hzr, frU_s (by omega), iteP_f c6]) (by omega)
          · refine li_iload_n hC hl 1 rfl dX11_room_39 ?_
            exact hQ _ _ _ _ _ _ _ _ dX11_room_40 hS (by omega) (by omega) (⟨iI_inj (by rw [hzr, frU_s (by omega), iteP_t c6]), F5, A5, rfl, hKp5, hSh5⟩)
    exact L20_3 ((((31 : Int) - 10).toNat) + 1) 10 F1 A1 _ _ _ hS (lv_sub hl [1, 0] rfl) (by omega) (by exact hKp1) (by exact hSh1) (by rfl) (by omega)
  · refine li_bipush hC (z := -5) rfl dX11_room_14 ?_
    exact hQ _ _ _ _ _ _ _ _ dX11_room_16 hS (by omega) (by omega) (⟨iI_inj (by exact (room_no c2).symm), F1, A1, rfl, hKp1, hSh1⟩)
set_option maxHeartbeats 4000000 in
set_option maxRecDepth 100000 in
theorem c_X11_moved (l : Launch) (g : GG) (ad : Nat → Nat) (F : Nat → Int) (A : Nat → Nat → Int) (E : Nat → Nat) (tl : va_W) (S : Nat → Int) (nm : Nat → Nat) (hSh : ShW g ad F A E tl S nm) (hI : InvD S) (n : Int) (hn : rng n) (sz : Nat) : MwrI l g yX11_moved cX11_moved 3 23 0 0 [.ref (ad 0), .int (iI n)] sz (CW g ad F A E tl) (fun v w => v = iI (movedR S n) ∧ ∃ F2 A2, w = CW g ad F2 A2 E tl ∧ KpS F F2 A A2 ∧ ShW g ad F2 A2 E tl (S) nm) := by
  refine wr_startI (own := RX11) (by decide) rfl (Nat.le_of_ble_eq_true rfl) ?_
  intro Pg Ev s Mi args below Mt Cd ls Q Aw hC hK hS hnm hl hQ
  have hSh0 := hSh
  obtain ⟨hTp, hCd, hNs, hWh, hRw, hSn, hPl, hBk, hMp⟩ := hSh0
  have hNm := hNs.2.2
  have hD0 := hI.1
  have hNs0 := hNs.1
  have hl : lv_has ls 3 [(0, .ref (ad 0)), (1, .int (iI n))] := hl
  obtain ⟨H, hH⟩ : ∃ H, H = s.heap := ⟨_, rfl⟩
  obtain ⟨locs, hlo⟩ : ∃ locs : List Loc, locs = [] := ⟨_, rfl⟩
  have hS : St g Aw s.heap H locs (CW g ad F A E tl) := by rw [hH, hlo]; exact hS
  have goal : W Pg l Ev (rmC 23 0 0) s Mi args below Mt Cd H locs 0 0 Q (F0 Mi 0 ls []) := ?goal
  · rw [hH, hlo] at goal; exact goal
  clear hH hlo
  refine li_aload_n hC hl 0 rfl dX11_moved_0 ?_
  refine li_get hC hK.1 ck_X11 (hS.1 0 _ rfl) 1 (by decide) fl_X11_23 rfl (v := .ref (ad 3)) rfl dX11_moved_1 ?_
  refine li_iload_n hC hl 1 rfl dX11_moved_4 ?_
  refine ro_callVi hC (c_X8_has l g ad F A E tl S nm hSh hI n hn) mk_X8_has ml_X11_151 (rr (by decide)) ⟨Nat.le_of_ble_eq_true rfl, Nat.le_of_ble_eq_true rfl⟩ hK.1 (hS.ro hK) hS.1 (li_recv hK.1 ck_X8 (hS.1 3 _ rfl)) rfl hl.1 rfl (Nat.le_of_ble_eq_true rfl) dX11_moved_5 ?_
  refine li_ifne_b (tgt := 13) hC (by decide) dX11_moved_8 (fun c1 => ?_) (fun c1 => ?_)
  · refine li_aload_n hC hl 0 rfl dX11_moved_13 ?_
    refine li_get hC hK.1 ck_X11 (hS.1 0 _ rfl) 1 (by decide) fl_X11_23 rfl (v := .ref (ad 3)) rfl dX11_moved_14 ?_
    refine li_get hC hK.1 ck_X8 (hS.1 3 _ rfl) 3 (by decide) fl_X11_99 rfl (v := .ref (ad 9)) rfl dX11_moved_17 ?_
    refine li_iload_n hC hl 1 rfl dX11_moved_20 ?_
    refine ro_callVi hC (c_X6_get l g (ws := CW g ad F A E tl) (i := 9) (j := 10) (a := (ad 9)) (b := (ad 10)) (n := 7) (f := (A 10)) (sz := F 9) rfl rfl (Nat.le_of_ble_eq_true rfl) (k := n) ⟨by omega, by omega⟩) mk_X6_get ml_X11_131 (rr (by decide)) ⟨Nat.zero_le _, Nat.zero_le _⟩ hK.1 (hS.ro hK) hS.1 (li_recv hK.1 ck_X6 (hS.1 9 _ rfl)) rfl hl.1 rfl (Nat.le_of_ble_eq_true rfl) dX11_moved_21 ?_
    rw [hWh n (by omega) (by omega)]
    have q2 := hI.2 n (by omega) (by omega)
    refine li_iconst hC dX11_moved_24 ?_
    refine li_icmp_eq (tgt := 31) hC (by decide) (rg (by omega) (by omega)) (rg (by decide) (by decide)) dX11_moved_25 (fun c3 => ?_) (fun c3 => ?_)
    · refine li_aload_n hC hl 0 rfl dX11_moved_31 ?_
      refine li_get hC hK.1 ck_X11 (hS.1 0 _ rfl) 4 (by decide) fl_X11_47 rfl (v := .ref (ad 42)) rfl dX11_moved_32 ?_
      refine li_iload_n hC hl 1 rfl dX11_moved_35 ?_
      refine wr_callVi hC (c_X7_fewestMoves l g ad F A E tl S nm hSh hI n (by omega) _) mk_X7_fewestMoves ml_X11_212 (rr (by decide)) ⟨by simp only [rmC]; omega, by simp only [rmC]; omega⟩ hK hS (li_recv hK.1 ck_X7 (hS.1 42 _ rfl)) rfl hl.1 rfl (Nat.le_of_ble_eq_true rfl) dX11_moved_36 (fun v w H locs hp hS => ?_)
      obtain ⟨hv4, F4, A4, hw4, hKx4, hSh4, h714, h734, h744, h544⟩ := hp
      rw [hw4] at hS
      have hKp4 := KpS.tr (KpS.rf _ _) hKx4
      have hS : St g Aw s.heap H locs (CW g ad F4 A4 E tl) := hS
      rw [hv4]
      obtain ⟨mv, hmv⟩ : ∃ z : Int, z = (if (foldG (vlM S n) (cmp (okB S (alM S n)) (S 0).toNat []) (0, 0, A 54)).1 = 0 then -1 else -(foldG (vlM S n) (cmp (okB S (alM S n)) (S 0).toNat []) (0, 0, A 54)).2.1) := ⟨_, rfl⟩
      rw [← hmv]
      have hmv2 : (mv = -1 ∧ minL (costL S n) (cmp (okM S (wideS S) n) (S 0).toNat []) 99 = 99) ∨ (mv = minL (costL S n) (cmp (okM S (wideS S) n) (S 0).toNat []) 99 ∧ 0 ≤ minL (costL S n) (cmp (okM S (wideS S) n) (S 0).toNat []) 99 ∧ minL (costL S n) (cmp (okM S (wideS S) n) (S 0).toNat []) 99 ≤ 7) := by rw [hmv]; rcases moved_G hI (n := n) (A 54) with ⟨a1, a2⟩ | ⟨a1, a2, a3, a4⟩; { exact Or.inl ⟨if_pos a1, a2⟩ }; { refine Or.inr ⟨?_, a3, a4⟩; rw [if_neg (by omega), a2]; omega }
      refine li_istore_n hC (lv' := [(2, .int (iI mv)), (0, .ref (ad 0)), (1, .int (iI n))]) hl (by decide) rfl dX11_moved_39 (fun ls hl => ?_)
      refine li_iload_n hC hl 0 rfl dX11_moved_40 ?_
      refine li_if_ge (tgt := 49) hC (by decide) (rg (by omega) (by omega)) dX11_moved_41 (fun c5 => ?_) (fun c5 => ?_)
      · refine li_iload_n hC hl 0 rfl dX11_moved_49 ?_
        exact hQ _ _ _ _ _ _ _ _ dX11_moved_50 hS (by omega) (by omega) (⟨iI_inj (by unfold movedR; rw [iteP_t (by omega), iteP_t (by omega)]; rw [iteP_f (by omega)]; omega), F4, A4, rfl, hKp4, hSh4⟩)
      · refine li_bipush hC (z := -5) rfl dX11_moved_44 ?_
        refine li_goto (tgt := 50) hC (by decide) dX11_moved_46 ?_
        exact hQ _ _ _ _ _ _ _ _ dX11_moved_50 hS (by omega) (by omega) (⟨iI_inj (by unfold movedR; rw [iteP_t (by omega), iteP_t (by omega)]; rw [iteP_t (by omega)]), F4, A4, rfl, hKp4, hSh4⟩)
    · refine li_bipush hC (z := -5) rfl dX11_moved_28 ?_
      exact hQ _ _ _ _ _ _ _ _ dX11_moved_30 hS (by omega) (by omega) (⟨iI_inj (by unfold movedR; rw [iteP_t (by omega), iteP_f (by omega)]), F, A, rfl, KpS.rf _ _, hSh⟩)
  · refine li_iconst hC dX11_moved_11 ?_
    exact hQ _ _ _ _ _ _ _ _ dX11_moved_12 hS (by omega) (by omega) (⟨iI_inj (by unfold movedR; rw [iteP_f (by omega)]), F, A, rfl, KpS.rf _ _, hSh⟩)
set_option maxHeartbeats 4000000 in
set_option maxRecDepth 100000 in
theorem c_X11_inline (l : Launch) (g : GG) (ad : Nat → Nat) (F : Nat → Int) (A : Nat → Nat → Int) (E : Nat → Nat) (tl : va_W) (S : Nat → Int) (nm : Nat → Nat) (hSh : ShW g ad F A E tl S nm) (hI : InvD S) (what : Int) (hwhat : rng what) (hH : InvH S) (hC0 : InvC S) (hG : InvG S) (sz : Nat) : MwrI l g yX11_inline cX11_inline 2 23 0 0 [.ref (ad 0), .int (iI what)] sz (CW g ad F A E tl) (fun v w => v = iI (inlineR S what) ∧ ∃ F2 A2, w = CW g ad F2 A2 E tl ∧ KpS F F2 A A2 ∧ ShW g ad F2 A2 E tl (S) nm) := by
  refine wr_startI (own := RX11) (by decide) rfl (Nat.le_of_ble_eq_true rfl) ?_
  intro Pg Ev s Mi args below Mt Cd ls Q Aw hC hK hS hnm hl hQ
  have hSh0 := hSh
  obtain ⟨hTp, hCd, hNs, hWh, hRw, hSn, hPl, hBk, hMp⟩ := hSh0
  have hNm := hNs.2.2
  have hD0 := hI.1
  have hNs0 := hNs.1
  have hl : lv_has ls 2 [(0, .ref (ad 0)), (1, .int (iI what))] := hl
  obtain ⟨H, hH⟩ : ∃ H, H = s.heap := ⟨_, rfl⟩
  obtain ⟨locs, hlo⟩ : ∃ locs : List Loc, locs = [] := ⟨_, rfl⟩
  have hS : St g Aw s.heap H locs (CW g ad F A E tl) := by rw [hH, hlo]; exact hS
  have goal : W Pg l Ev (rmC 23 0 0) s Mi args below Mt Cd H locs 0 0 Q (F0 Mi 0 ls []) := ?goal
  · rw [hH, hlo] at goal; exact goal
  clear hH hlo
  have J13_1 : ∀  (ls : Array Slot) (H : Heap) (locs : List Loc), St g Aw s.heap H locs (CW g ad F A E tl) → lv_has ls 2 [(0, .ref (ad 0)), (1, .int (iI what))] → (what = 0 ∨ what = 1) → W Pg l Ev (rmC 23 0 0) s Mi args below Mt Cd H locs 0 0 Q (F0 Mi 13 ls []) := by
    intro  ls H locs hS hl hcs
    refine li_aload_n hC hl 0 rfl dX11_inline_13 ?_
    refine li_get hC hK.1 ck_X11 (hS.1 0 _ rfl) 4 (by decide) fl_X11_47 rfl (v := .ref (ad 42)) rfl dX11_inline_14 ?_
    refine wr_callVv hC (c_X7_takeInLine l g ad F A E tl S nm hSh hI hH hC0 hG _) mk_X7_takeInLine ml_X11_215 (rr (by decide)) ⟨by simp only [rmC]; omega, by simp only [rmC]; omega⟩ hK hS (li_recv hK.1 ck_X7 (hS.1 42 _ rfl)) rfl hl.1 rfl (Nat.le_of_ble_eq_true rfl) dX11_inline_17 (fun w H locs hp hS => ?_)
    obtain ⟨F2, A2, hw2, hKx2, hSh2, h732, h742⟩ := hp
    rw [hw2] at hS
    have hKp2 := KpS.tr (KpS.rf _ _) hKx2
    have hS : St g Aw s.heap H locs (CW g ad F2 A2 E tl) := hS
    have hM4 : F2 73 = 100000 * (tkN S (S 0).toNat).2.1 + (tkN S (S 0).toNat).2.2 := h732
    obtain ⟨hM2, hM3⟩ := line_G hI hC0
    refine li_iload_n hC hl 1 rfl dX11_inline_20 ?_
    refine li_if_ne (tgt := 34) hC (by decide) hwhat dX11_inline_21 (fun c3 => ?_) (fun c3 => ?_)
    · refine li_aload_n hC hl 0 rfl dX11_inline_34 ?_
      refine li_get hC hK.1 ck_X11 (hS.1 0 _ rfl) 4 (by decide) fl_X11_47 rfl (v := .ref (ad 42)) rfl dX11_inline_35 ?_
      refine ro_callVi hC (c_X7_score l g ad F2 A2 E tl S nm (by omega) (fun _ => ⟨by omega, by omega⟩) (by omega)) mk_X7_score ml_X11_204 (rr (by decide)) ⟨Nat.le_of_ble_eq_true rfl, Nat.le_of_ble_eq_true rfl⟩ hK.1 (hS.ro hK) hS.1 (li_recv hK.1 ck_X7 (hS.1 42 _ rfl)) rfl hl.1 rfl (Nat.le_of_ble_eq_true rfl) dX11_inline_38 ?_
      exact hQ _ _ _ _ _ _ _ _ dX11_inline_41 hS (by omega) (by omega) (⟨iI_inj (by rw [if_neg (show ¬ F2 74 = 0 by omega)]; unfold inlineR; rw [iteP_t (by omega), if_neg (by omega)]; omega), F2, A2, rfl, hKp2, hSh2⟩)
    · refine li_aload_n hC hl 0 rfl dX11_inline_24 ?_
      refine li_get hC hK.1 ck_X11 (hS.1 0 _ rfl) 4 (by decide) fl_X11_47 rfl (v := .ref (ad 42)) rfl dX11_inline_25 ?_
      refine ro_callVi hC (c_X7_howMany l g ad F2 A2 E tl S nm (by omega) (fun _ => ⟨by omega, by omega⟩) (by omega)) mk_X7_howMany ml_X11_201 (rr (by decide)) ⟨Nat.le_of_ble_eq_true rfl, Nat.le_of_ble_eq_true rfl⟩ hK.1 (hS.ro hK) hS.1 (li_recv hK.1 ck_X7 (hS.1 42 _ rfl)) rfl hl.1 rfl (Nat.le_of_ble_eq_true rfl) dX11_inline_28 ?_
      refine li_goto (tgt := 41) hC (by decide) dX11_inline_31 ?_
      exact hQ _ _ _ _ _ _ _ _ dX11_inline_41 hS (by omega) (by omega) (⟨iI_inj (by rw [if_neg (show ¬ F2 74 = 0 by omega)]; unfold inlineR; rw [iteP_t (by omega), if_pos (by omega)]; omega), F2, A2, rfl, hKp2, hSh2⟩)
  refine li_iload_n hC hl 1 rfl dX11_inline_0 ?_
  refine li_if_eq (tgt := 13) hC (by decide) hwhat dX11_inline_1 (fun c4 => ?_) (fun c4 => ?_)
  · exact J13_1  _ _ _ hS (lv_sub hl [0, 1] rfl) (by omega)
  · refine li_iload_n hC hl 1 rfl dX11_inline_4 ?_
    refine li_iconst hC dX11_inline_5 ?_
    refine li_icmp_eq (tgt := 13) hC (by decide) hwhat (rg (by decide) (by decide)) dX11_inline_6 (fun c5 => ?_) (fun c5 => ?_)
    · exact J13_1  _ _ _ hS (lv_sub hl [0, 1] rfl) (by omega)
    · refine li_sipush hC (z := -10001) rfl dX11_inline_9 ?_
      exact hQ _ _ _ _ _ _ _ _ dX11_inline_12 hS (by omega) (by omega) (⟨iI_inj (by unfold inlineR; rw [iteP_f (by omega)]), F, A, rfl, KpS.rf _ _, hSh⟩)
set_option maxHeartbeats 4000000 in
set_option maxRecDepth 100000 in
theorem c_X11_order (l : Launch) (g : GG) (ad : Nat → Nat) (F : Nat → Int) (A : Nat → Nat → Int) (E : Nat → Nat) (tl : va_W) (S : Nat → Int) (nm : Nat → Nat) (hSh : ShW g ad F A E tl S nm) (hI : InvD S) (k : Int) (hk : rng k) (hH : InvH S) (hC0 : InvC S) (hG : InvG S) (sz : Nat) : MwrI l g yX11_order cX11_order 2 23 0 0 [.ref (ad 0), .int (iI k)] sz (CW g ad F A E tl) (fun v w => v = iI (orderR S k) ∧ ∃ F2 A2, w = CW g ad F2 A2 E tl ∧ KpS F F2 A A2 ∧ ShW g ad F2 A2 E tl (S) nm) := by
  refine wr_startI (own := RX11) (by decide) rfl (Nat.le_of_ble_eq_true rfl) ?_
  intro Pg Ev s Mi args below Mt Cd ls Q Aw hC hK hS hnm hl hQ
  have hSh0 := hSh
  obtain ⟨hTp, hCd, hNs, hWh, hRw, hSn, hPl, hBk, hMp⟩ := hSh0
  have hNm := hNs.2.2
  have hD0 := hI.1
  have hNs0 := hNs.1
  have hl : lv_has ls 2 [(0, .ref (ad 0)), (1, .int (iI k))] := hl
  obtain ⟨H, hH⟩ : ∃ H, H = s.heap := ⟨_, rfl⟩
  obtain ⟨locs, hlo⟩ : ∃ locs : List Loc, locs = [] := ⟨_, rfl⟩
  have hS : St g Aw s.heap H locs (CW g ad F A E tl) := by rw [hH, hlo]; exact hS
  have goal : W Pg l Ev (rmC 23 0 0) s Mi args below Mt Cd H locs 0 0 Q (F0 Mi 0 ls []) := ?goal
  · rw [hH, hlo] at goal; exact goal
  clear hH hlo
  refine li_iload_n hC hl 1 rfl dX11_order_0 ?_
  refine li_bipush hC (z := -2) rfl dX11_order_1 ?_
  refine li_icmp_lt (tgt := 12) hC (by decide) hk (rg (by decide) (by decide)) dX11_order_3 (fun c1 => ?_) (fun c1 => ?_)
  · refine li_sipush hC (z := -10001) rfl dX11_order_12 ?_
    exact hQ _ _ _ _ _ _ _ _ dX11_order_15 hS (by omega) (by omega) (⟨iI_inj (by unfold orderR; rw [iteP_f (by omega)]), F, A, rfl, KpS.rf _ _, hSh⟩)
  · refine li_iload_n hC hl 1 rfl dX11_order_6 ?_
    refine li_bipush hC (z := 7) rfl dX11_order_7 ?_
    refine li_icmp_lt (tgt := 16) hC (by decide) hk (rg (by decide) (by decide)) dX11_order_9 (fun c2 => ?_) (fun c2 => ?_)
    · refine li_iload_n hC hl 1 rfl dX11_order_16 ?_
      refine li_aload_n hC hl 0 rfl dX11_order_17 ?_
      refine li_get hC hK.1 ck_X11 (hS.1 0 _ rfl) 1 (by decide) fl_X11_23 rfl (v := .ref (ad 3)) rfl dX11_order_18 ?_
      refine ro_callVi hC (c_X8_dots l g ad F A E tl S nm hSh hI) mk_X8_dots ml_X11_83 (rr (by decide)) ⟨Nat.le_of_ble_eq_true rfl, Nat.le_of_ble_eq_true rfl⟩ hK.1 (hS.ro hK) hS.1 (li_recv hK.1 ck_X8 (hS.1 3 _ rfl)) rfl hl.1 rfl (Nat.le_of_ble_eq_true rfl) dX11_order_21 ?_
      refine li_icmp_lt (tgt := 30) hC (by decide) hk (rg (by omega) (by omega)) dX11_order_24 (fun c3 => ?_) (fun c3 => ?_)
      · refine li_aload_n hC hl 0 rfl dX11_order_30 ?_
        refine li_get hC hK.1 ck_X11 (hS.1 0 _ rfl) 4 (by decide) fl_X11_47 rfl (v := .ref (ad 42)) rfl dX11_order_31 ?_
        refine wr_callVv hC (c_X7_bestOrder l g ad F A E tl S nm hSh hI hH hC0 hG _) mk_X7_bestOrder ml_X11_218 (rr (by decide)) ⟨by simp only [rmC]; omega, by simp only [rmC]; omega⟩ hK hS (li_recv hK.1 ck_X7 (hS.1 42 _ rfl)) rfl hl.1 rfl (Nat.le_of_ble_eq_true rfl) dX11_order_34 (fun w H locs hp hS => ?_)
        obtain ⟨F4, A4, hw4, hKx4, hSh4, h714, h734, h744, h544, hGT4⟩ := hp
        rw [hw4] at hS
        have hKp4 := KpS.tr (KpS.rf _ _) hKx4
        have hS : St g Aw s.heap H locs (CW g ad F4 A4 E tl) := hS
        obtain ⟨hM2, hM3, hM4, hM5⟩ := order_G hI hC0 (A 54)
        rw [← h734] at hM4
        refine li_iload_n hC hl 1 rfl dX11_order_37 ?_
        refine li_bipush hC (z := -2) rfl dX11_order_38 ?_
        refine li_icmp_ne (tgt := 51) hC (by decide) hk (rg (by decide) (by decide)) dX11_order_40 (fun c5 => ?_) (fun c5 => ?_)
        · refine li_iload_n hC hl 1 rfl dX11_order_51 ?_
          refine li_iconst hC dX11_order_52 ?_
          refine li_icmp_ne (tgt := 66) hC (by decide) hk (rg (by decide) (by decide)) dX11_order_53 (fun c6 => ?_) (fun c6 => ?_)
          · refine li_aload_n hC hl 0 rfl dX11_order_66 ?_
            refine li_get hC hK.1 ck_X11 (hS.1 0 _ rfl) 4 (by decide) fl_X11_47 rfl (v := .ref (ad 42)) rfl dX11_order_67 ?_
            refine li_iload_n hC hl 1 rfl dX11_order_70 ?_
            refine ro_callVi hC (c_X7_found l g ad F4 A4 E tl S nm k hI.1 (by omega)) mk_X7_found ml_X11_206 (rr (by decide)) ⟨Nat.le_of_ble_eq_true rfl, Nat.le_of_ble_eq_true rfl⟩ hK.1 (hS.ro hK) hS.1 (li_recv hK.1 ck_X7 (hS.1 42 _ rfl)) rfl hl.1 rfl (Nat.le_of_ble_eq_true rfl) dX11_order_71 ?_
            exact hQ _ _ _ _ _ _ _ _ dX11_order_74 hS (by omega) (by omega) (⟨iI_inj (by unfold orderR; rw [iteP_t (by omega), if_neg (by omega), if_neg (by omega), if_pos (by omega)]; exact (h544 _ (by omega)).trans (hM5 _ (by omega))), F4, A4, rfl, hKp4, hSh4⟩)
          · refine li_aload_n hC hl 0 rfl dX11_order_56 ?_
            refine li_get hC hK.1 ck_X11 (hS.1 0 _ rfl) 4 (by decide) fl_X11_47 rfl (v := .ref (ad 42)) rfl dX11_order_57 ?_
            refine ro_callVi hC (c_X7_score l g ad F4 A4 E tl S nm (by omega) (fun _ => ⟨by omega, by omega⟩) (by omega)) mk_X7_score ml_X11_204 (rr (by decide)) ⟨Nat.le_of_ble_eq_true rfl, Nat.le_of_ble_eq_true rfl⟩ hK.1 (hS.ro hK) hS.1 (li_recv hK.1 ck_X7 (hS.1 42 _ rfl)) rfl hl.1 rfl (Nat.le_of_ble_eq_true rfl) dX11_order_60 ?_
            refine li_goto (tgt := 74) hC (by decide) dX11_order_63 ?_
            exact hQ _ _ _ _ _ _ _ _ dX11_order_74 hS (by omega) (by omega) (⟨iI_inj (by rw [if_neg (show ¬ F4 74 = 0 by omega)]; unfold orderR; rw [iteP_t (by omega), if_neg (by omega), if_pos (by omega)]; omega), F4, A4, rfl, hKp4, hSh4⟩)
        · refine li_aload_n hC hl 0 rfl dX11_order_43 ?_
          refine li_get hC hK.1 ck_X11 (hS.1 0 _ rfl) 4 (by decide) fl_X11_47 rfl (v := .ref (ad 42)) rfl dX11_order_44 ?_
          refine ro_callVi hC (c_X7_howMany l g ad F4 A4 E tl S nm (by omega) (fun _ => ⟨by omega, by omega⟩) (by omega)) mk_X7_howMany ml_X11_201 (rr (by decide)) ⟨Nat.le_of_ble_eq_true rfl, Nat.le_of_ble_eq_true rfl⟩ hK.1 (hS.ro hK) hS.1 (li_recv hK.1 ck_X7 (hS.1 42 _ rfl)) rfl hl.1 rfl (Nat.le_of_ble_eq_true rfl) dX11_order_47 ?_
          exact hQ _ _ _ _ _ _ _ _ dX11_order_50 hS (by omega) (by omega) (⟨iI_inj (by rw [if_neg (show ¬ F4 74 = 0 by omega)]; unfold orderR; rw [iteP_t (by omega), if_pos (by omega)]; omega), F4, A4, rfl, hKp4, hSh4⟩)
      · refine li_bipush hC (z := -5) rfl dX11_order_27 ?_
        exact hQ _ _ _ _ _ _ _ _ dX11_order_29 hS (by omega) (by omega) (⟨iI_inj (by unfold orderR; rw [iteP_t (by omega), if_neg (by omega), if_neg (by omega), if_neg (by omega)]), F, A, rfl, KpS.rf _ _, hSh⟩)
    · refine li_sipush hC (z := -10001) rfl dX11_order_12 ?_
      exact hQ _ _ _ _ _ _ _ _ dX11_order_15 hS (by omega) (by omega) (⟨iI_inj (by unfold orderR; rw [iteP_f (by omega)]), F, A, rfl, KpS.rf _ _, hSh⟩)
