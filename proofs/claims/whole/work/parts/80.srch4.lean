set_option maxHeartbeats 4000000 in
set_option maxRecDepth 100000 in
theorem c_X7_bestWay (l : Launch) (g : GG) (ad : Nat → Nat) (F : Nat → Int) (A : Nat → Nat → Int) (E : Nat → Nat) (tl : va_W) (S : Nat → Int) (nm : Nat → Nat) (hSh : ShW g ad F A E tl S nm) (hI : InvD S) (hH : InvH S) (hC0 : InvC S) (hG : InvG S) (b0 : Int) (hb0 : 0 ≤ b0 ∧ b0 ≤ 100000) (sz : Nat) : MwrV l g yX7_bestWay cX7_bestWay 3 22 0 0 [.ref (ad 42), .int (iI b0)] sz (CW g ad F A E tl) (fun w => ∃ (F2 : Nat → Int) (A2 : Nat → Nat → Int), w = CW g ad F2 A2 E tl ∧ KpS F F2 A A2 ∧ ShW g ad F2 A2 E tl S nm ∧ F2 71 = (foldG (vlG S b0) (cmp (okB S (alW S)) (S 0).toNat []) (0, 0, A 54)).1 ∧ F2 73 = (foldG (vlG S b0) (cmp (okB S (alW S)) (S 0).toNat []) (0, 0, A 54)).2.1 ∧ F2 74 = b0 ∧ (∀ k : Nat, (k : Int) < S 0 → A2 54 k = (foldG (vlG S b0) (cmp (okB S (alW S)) (S 0).toNat []) (0, 0, A 54)).2.2 k)) := by
  refine wr_startV (own := RX7) (by decide) rfl (Nat.le_of_ble_eq_true rfl) ?_
  intro Pg Ev s Mi args below Mt Cd ls Q Aw hC hK hS hnm hl hQ
  have hSh0 := hSh
  obtain ⟨hTp, hCd, hNs, hWh, hRw, hSn, hPl, hBk, hMp⟩ := hSh0
  have hNm := hNs.2.2
  have hD0 := hI.1
  have hNs0 := hNs.1
  have hws := wideS_rng S
  have hl : lv_has ls 3 [(0, .ref (ad 42)), (1, .int (iI b0))] := hl
  obtain ⟨H, hH⟩ : ∃ H, H = s.heap := ⟨_, rfl⟩
  obtain ⟨locs, hlo⟩ : ∃ locs : List Loc, locs = [] := ⟨_, rfl⟩
  have hS : St g Aw s.heap H locs (CW g ad F A E tl) := by rw [hH, hlo]; exact hS
  have goal : W Pg l Ev (rmC 22 0 0) s Mi args below Mt Cd H locs 0 0 Q (F0 Mi 0 ls []) := ?goal
  · rw [hH, hlo] at goal; exact goal
  clear hH hlo
  refine li_aload_n hC hl 0 rfl dX7_bestWay_0 ?_
  refine li_aload_n hC hl 0 rfl dX7_bestWay_1 ?_
  refine li_get hC hK.1 ck_X7 (hS.1 42 _ rfl) 0 (by decide) fl_X7_35 rfl (v := .ref (ad 3)) rfl dX7_bestWay_2 ?_
  refine li_get hC hK.1 ck_X8 (hS.1 3 _ rfl) 10 (by decide) fl_X7_60 rfl (v := .int (iI (wideS S))) (by rw [← show F 61 = wideS S from hMp.2.1]; rfl) dX7_bestWay_5 ?_
  refine wr_callVv hC (c_X7_begin l g ad F A E tl S nm hSh hI (wideS S) (by omega) _) mk_X7_begin ml_X7_65 (rr (by decide)) ⟨by simp only [rmC]; omega, by simp only [rmC]; omega⟩ hK hS (li_recv hK.1 ck_X7 (hS.1 42 _ rfl)) rfl hl.1 rfl (Nat.le_of_ble_eq_true rfl) dX7_bestWay_8 (fun w H locs hpx hS => ?_)
  obtain ⟨f44, f46, f48, hw, hb44, hb46, hb48⟩ := hpx
  rw [hw] at hS
  have hS : St g Aw s.heap H locs (CW g ad (va_up (va_up (va_up (va_up F 71 0) 72 (S 0)) 73 0) 74 0) (va_up (va_up (va_up A 44 f44) 46 f46) 48 f48) E tl) := hS
  refine li_aload_n hC hl 0 rfl dX7_bestWay_11 ?_
  refine li_iload_n hC hl 1 rfl dX7_bestWay_12 ?_
  refine wr_callVv hC (c_X7_value l g ad (va_up (va_up (va_up (va_up F 71 0) 72 (S 0)) 73 0) 74 0) (va_up (va_up (va_up A 44 f44) 46 f46) 48 f48) E tl S nm hSh hI hH hC0 hG b0 (by omega) rfl _) mk_X7_value ml_X7_68 (rr (by decide)) ⟨by simp only [rmC]; omega, by simp only [rmC]; omega⟩ hK hS (li_recv hK.1 ck_X7 (hS.1 42 _ rfl)) rfl hl.1 rfl (Nat.le_of_ble_eq_true rfl) dX7_bestWay_13 (fun w H locs hpx hS => ?_)
  obtain ⟨v46, hw, hv46⟩ := hpx
  rw [hw] at hS
  have hS : St g Aw s.heap H locs (CW g ad (va_up (va_up (va_up (va_up F 71 0) 72 (S 0)) 73 0) 74 b0) (va_up (va_up (va_up A 44 f44) 46 v46) 48 f48) E tl) := hS
  refine li_iconst hC dX7_bestWay_16 ?_
  refine li_istore_n hC (lv' := [(2, .int (iI 0)), (0, .ref (ad 42)), (1, .int (iI b0))]) hl (by decide) rfl dX7_bestWay_17 (fun ls hl => ?_)
  have L18_1 : ∀ (fuel : Nat) (i : Int) (g44 : Nat → Int) (ls : Array Slot) (H : Heap) (locs : List Loc), St g Aw s.heap H locs (CW g ad (va_up (va_up (va_up (va_up F 71 0) 72 (S 0)) 73 0) 74 b0) (va_up (va_up (va_up A 44 g44) 46 v46) 48 f48) E tl) → lv_has ls 3 [(0, .ref (ad 42)), (1, .int (iI b0)), (2, .int (iI i))] → (0 ≤ i ∧ i ≤ S 0) → (∀ j : Int, 0 ≤ j → j < S 0 → g44 j.toNat = if j < i then alW S j else bitsF S (wideS S) j) → ((S 0 - i).toNat) < fuel → W Pg l Ev (rmC 22 0 0) s Mi args below Mt Cd H locs 0 0 Q (F0 Mi 18 ls []) := by
    intro fuel
    induction fuel with
    | zero => intro i g44 ls H locs hS hl hi h44 hm; exact absurd hm (Nat.not_lt_zero _)
    | succ fuel ih18 =>
      intro i g44 ls H locs hS hl hi h44 hm
      refine li_iload_n hC hl 2 rfl dX7_bestWay_18 ?_
      refine li_aload_n hC hl 0 rfl dX7_bestWay_19 ?_
      refine li_get hC hK.1 ck_X7 (hS.1 42 _ rfl) 8 (by decide) fl_X7_71 rfl (v := .int (iI (S 0))) rfl dX7_bestWay_20 ?_
      refine li_icmp_ge (tgt := 51) hC (by decide) (rg (by omega) (by omega)) (rg (by omega) (by omega)) dX7_bestWay_23 (fun c2 => ?_) (fun c2 => ?_)
      · refine li_aload_n hC hl 0 rfl dX7_bestWay_51 ?_
        refine wr_callVv hC (c_X7_goWays l g ad (va_up (va_up (va_up (va_up F 71 0) 72 (S 0)) 73 0) 74 b0) (va_up (va_up (va_up A 44 g44) 46 v46) 48 f48) E tl S nm (alW S) (vlG S b0) hI.1 (fun j h0 h1 => by have e9 := h44 j h0 h1; rw [if_pos (by omega)] at e9; exact e9) (fun i p h0 h1 h2 h3 => hv46 i p h0 h1 h2 h3) (fun i p h0 h1 h2 h3 => hb48 i p h0 h1 h2 h3) (vlG_rng hC0 hb0) rfl (fun i _ _ => alW_rng S i) _) mk_X7_goWays ml_X7_78 (rr (by decide)) ⟨by simp only [rmC]; omega, by simp only [rmC]; omega⟩ hK hS (li_recv hK.1 ck_X7 (hS.1 42 _ rfl)) rfl hl.1 rfl (Nat.le_of_ble_eq_true rfl) dX7_bestWay_52 (fun w H locs hpx hS => ?_)
        obtain ⟨f50, s33, nw3, fd3, hq3, hfd3⟩ := hpx
        rw [hq3] at hS
        have hS : St g Aw s.heap H locs (CW g ad (va_up (va_up (va_up (va_up (va_up F 53 s33) 71 ((foldG (vlG S b0) (cmp (okB S (alW S)) (S 0).toNat []) (0, 0, A 54)).1)) 72 (S 0)) 73 ((foldG (vlG S b0) (cmp (okB S (alW S)) (S 0).toNat []) (0, 0, A 54)).2.1)) 74 b0) (va_up (va_up (va_up (va_up (va_up (va_up A 44 g44) 46 v46) 48 f48) 50 f50) 52 nw3) 54 fd3) E tl) := hS
        have hGT : GT (foldG (vlG S b0) (cmp (okB S (alW S)) (S 0).toNat []) (0, 0, A 54)) := foldG_GT (vlG_rng hC0 hb0) _ _ GT_0 (cmp7 (by show 0 + _ ≤ 7; omega)); have hg1 := hGT.1; have hg2 := hGT.2
        exact hQ _ _ _ _ _ _ _ dX7_bestWay_55 hS (by omega) (by omega) (⟨(va_up (va_up (va_up (va_up (va_up F 53 s33) 71 ((foldG (vlG S b0) (cmp (okB S (alW S)) (S 0).toNat []) (0, 0, A 54)).1)) 72 (S 0)) 73 ((foldG (vlG S b0) (cmp (okB S (alW S)) (S 0).toNat []) (0, 0, A 54)).2.1)) 74 b0), (va_up (va_up (va_up (va_up (va_up (va_up A 44 g44) 46 v46) 48 f48) 50 f50) 52 nw3) 54 fd3), rfl, ⟨fun k hk => (by first | rfl | (repeat rw [up_ne _ _ (by omega)])), fun k hk => (by first | rfl | (repeat rw [up_ne _ _ (by omega)]))⟩, hSh, rfl, rfl, rfl, hfd3⟩)
      · refine li_aload_n hC hl 0 rfl dX7_bestWay_26 ?_
        refine li_get hC hK.1 ck_X7 (hS.1 42 _ rfl) 1 (by decide) fl_X7_14 rfl (v := .ref (ad 43)) rfl dX7_bestWay_27 ?_
        refine li_iload_n hC hl 2 rfl dX7_bestWay_30 ?_
        refine li_aload_n hC hl 0 rfl dX7_bestWay_31 ?_
        refine li_get hC hK.1 ck_X7 (hS.1 42 _ rfl) 1 (by decide) fl_X7_14 rfl (v := .ref (ad 43)) rfl dX7_bestWay_32 ?_
        refine li_iload_n hC hl 2 rfl dX7_bestWay_35 ?_
        refine ro_callVi hC (c_X6_get l g (ws := CW g ad (va_up (va_up (va_up (va_up F 71 0) 72 (S 0)) 73 0) 74 b0) (va_up (va_up (va_up A 44 g44) 46 v46) 48 f48) E tl) (i := 43) (j := 44) (a := (ad 43)) (b := (ad 44)) (n := 7) (f := g44) (sz := F 43) rfl rfl (Nat.le_of_ble_eq_true rfl) (k := i) ⟨by omega, by omega⟩) mk_X6_get ml_X7_39 (rr (by decide)) ⟨Nat.zero_le _, Nat.zero_le _⟩ hK.1 (hS.ro hK) hS.1 (li_recv hK.1 ck_X6 (hS.1 43 _ rfl)) rfl hl.1 rfl (Nat.le_of_ble_eq_true rfl) dX7_bestWay_36 ?_
        refine li_bipush hC (z := 16) rfl dX7_bestWay_39 ?_
        refine li_ior hC dX7_bestWay_41 ?_
        refine wr_callVv hC (c_X6_set l g (ws := CW g ad (va_up (va_up (va_up (va_up F 71 0) 72 (S 0)) 73 0) 74 b0) (va_up (va_up (va_up A 44 g44) 46 v46) 48 f48) E tl) (i := 43) (j := 44) (a := (ad 43)) (b := (ad 44)) (n := 7) (f := g44) (sz := F 43) rfl rfl (Nat.le_of_ble_eq_true rfl) (k := i) (v := ior (g44 i.toNat) 16) ⟨by omega, by omega⟩ (ws2 := CW g ad (va_up (va_up (va_up (va_up F 71 0) 72 (S 0)) 73 0) 74 b0) (va_up (va_up (va_up A 44 (va_up g44 i.toNat (ior (g44 i.toNat) 16))) 46 v46) 48 f48) E tl) rfl _) mk_X6_set ml_X7_74 (rr (by decide)) ⟨by simp only [rmC]; omega, by simp only [rmC]; omega⟩ hK hS (li_recv hK.1 ck_X6 (hS.1 43 _ rfl)) rfl hl.1 rfl (Nat.le_of_ble_eq_true rfl) dX7_bestWay_42 (fun w H locs hpx hS => ?_)
        subst hpx
        refine li_iinc hC (lv' := [(2, .int (iI (i + 1))), (0, .ref (ad 42)), (1, .int (iI b0))]) hl 2 rfl (by decide) rfl dX7_bestWay_45 (fun ls hl => ?_)
        refine li_goto (tgt := 18) hC (by decide) dX7_bestWay_48 ?_
        exact ih18 (i + 1) (va_up g44 i.toNat (ior (g44 i.toNat) 16)) _ _ _ hS (lv_sub hl [1, 2, 0] rfl) (by omega) (by intro j h0 h1; rcases (show j < i ∨ j = i ∨ i < j by omega) with q | q | q; { have e9 := h44 j h0 h1; rw [if_pos (by omega)] at e9; rw [up_ne _ _ (by omega), if_pos (by omega)]; exact e9 }; { have e9 := h44 i (by omega) (by omega); rw [if_neg (by omega)] at e9; rw [q, up_same, if_pos (by omega), e9]; rfl }; { have e9 := h44 j h0 h1; rw [if_neg (by omega)] at e9; rw [up_ne _ _ (by omega), if_neg (by omega)]; exact e9 }) (by omega)
  exact L18_1 (((S 0 - 0).toNat) + 1) 0 f44 _ _ _ hS (lv_sub hl [1, 2, 0] rfl) (by omega) (by intro j h0 h1; rw [if_neg (by omega)]; exact hb44 j h0 h1) (by omega)
set_option maxHeartbeats 4000000 in
set_option maxRecDepth 100000 in
theorem c_X7_canAllBeIn (l : Launch) (g : GG) (ad : Nat → Nat) (F : Nat → Int) (A : Nat → Nat → Int) (E : Nat → Nat) (tl : va_W) (S : Nat → Int) (nm : Nat → Nat) (hSh : ShW g ad F A E tl S nm) (hI : InvD S) (wd0 : Int) (st0 : Int) (hwd : 10 ≤ wd0 ∧ wd0 ≤ 30) (hst : 0 ≤ st0 ∧ st0 ≤ 15) (sz : Nat) : MwrZ l g yX7_canAllBeIn cX7_canAllBeIn 4 22 0 0 [.ref (ad 42), .int (iI wd0), .int (iI st0)] sz (CW g ad F A E tl) (fun v w => v = iI ((foldG (fun _ _ => 0) (cmp (okB S (alA S wd0 st0)) (S 0).toNat []) (0, 0, A 54)).1) ∧ ∃ (F2 : Nat → Int) (A2 : Nat → Nat → Int), w = CW g ad F2 A2 E tl ∧ KpS F F2 A A2 ∧ ShW g ad F2 A2 E tl S nm ∧ F2 71 = (foldG (fun _ _ => 0) (cmp (okB S (alA S wd0 st0)) (S 0).toNat []) (0, 0, A 54)).1 ∧ F2 73 = (foldG (fun _ _ => 0) (cmp (okB S (alA S wd0 st0)) (S 0).toNat []) (0, 0, A 54)).2.1 ∧ F2 74 = 0 ∧ (∀ k : Nat, (k : Int) < S 0 → A2 54 k = (foldG (fun _ _ => 0) (cmp (okB S (alA S wd0 st0)) (S 0).toNat []) (0, 0, A 54)).2.2 k)) := by
  refine wr_startZ (own := RX7) (by decide) rfl (Nat.le_of_ble_eq_true rfl) ?_
  intro Pg Ev s Mi args below Mt Cd ls Q Aw hC hK hS hnm hl hQ
  have hSh0 := hSh
  obtain ⟨hTp, hCd, hNs, hWh, hRw, hSn, hPl, hBk, hMp⟩ := hSh0
  have hNm := hNs.2.2
  have hD0 := hI.1
  have hNs0 := hNs.1
  have hl : lv_has ls 4 [(0, .ref (ad 42)), (1, .int (iI wd0)), (2, .int (iI st0))] := hl
  obtain ⟨H, hH⟩ : ∃ H, H = s.heap := ⟨_, rfl⟩
  obtain ⟨locs, hlo⟩ : ∃ locs : List Loc, locs = [] := ⟨_, rfl⟩
  have hS : St g Aw s.heap H locs (CW g ad F A E tl) := by rw [hH, hlo]; exact hS
  have goal : W Pg l Ev (rmC 22 0 0) s Mi args below Mt Cd H locs 0 0 Q (F0 Mi 0 ls []) := ?goal
  · rw [hH, hlo] at goal; exact goal
  clear hH hlo
  refine li_aload_n hC hl 0 rfl dX7_canAllBeIn_0 ?_
  refine li_iload_n hC hl 1 rfl dX7_canAllBeIn_1 ?_
  refine wr_callVv hC (c_X7_begin l g ad F A E tl S nm hSh hI wd0 (by omega) _) mk_X7_begin ml_X7_65 (rr (by decide)) ⟨by simp only [rmC]; omega, by simp only [rmC]; omega⟩ hK hS (li_recv hK.1 ck_X7 (hS.1 42 _ rfl)) rfl hl.1 rfl (Nat.le_of_ble_eq_true rfl) dX7_canAllBeIn_2 (fun w H locs hpx hS => ?_)
  obtain ⟨f44, f46, f48, hw, hb44, hb46, hb48⟩ := hpx
  rw [hw] at hS
  have hS : St g Aw s.heap H locs (CW g ad (va_up (va_up (va_up (va_up F 71 0) 72 (S 0)) 73 0) 74 0) (va_up (va_up (va_up A 44 f44) 46 f46) 48 f48) E tl) := hS
  refine li_iconst hC dX7_canAllBeIn_5 ?_
  refine li_istore_n hC (lv' := [(3, .int (iI 0)), (0, .ref (ad 42)), (1, .int (iI wd0)), (2, .int (iI st0))]) hl (by decide) rfl dX7_canAllBeIn_6 (fun ls hl => ?_)
  have L7_1 : ∀ (fuel : Nat) (i : Int) (g44 : Nat → Int) (ls : Array Slot) (H : Heap) (locs : List Loc), St g Aw s.heap H locs (CW g ad (va_up (va_up (va_up (va_up F 71 0) 72 (S 0)) 73 0) 74 0) (va_up (va_up (va_up A 44 g44) 46 f46) 48 f48) E tl) → lv_has ls 4 [(0, .ref (ad 42)), (1, .int (iI wd0)), (2, .int (iI st0)), (3, .int (iI i))] → (0 ≤ i ∧ i ≤ S 0) → (∀ j : Int, 0 ≤ j → j < S 0 → g44 j.toNat = if j < i then alA S wd0 st0 j else bitsF S wd0 j) → ((S 0 - i).toNat) < fuel → W Pg l Ev (rmC 22 0 0) s Mi args below Mt Cd H locs 0 0 Q (F0 Mi 7 ls []) := by
    intro fuel
    induction fuel with
    | zero => intro i g44 ls H locs hS hl hi h44 hm; exact absurd hm (Nat.not_lt_zero _)
    | succ fuel ih7 =>
      intro i g44 ls H locs hS hl hi h44 hm
      refine li_iload_n hC hl 3 rfl dX7_canAllBeIn_7 ?_
      refine li_aload_n hC hl 0 rfl dX7_canAllBeIn_8 ?_
      refine li_get hC hK.1 ck_X7 (hS.1 42 _ rfl) 8 (by decide) fl_X7_71 rfl (v := .int (iI (S 0))) rfl dX7_canAllBeIn_9 ?_
      refine li_icmp_ge (tgt := 39) hC (by decide) (rg (by omega) (by omega)) (rg (by omega) (by omega)) dX7_canAllBeIn_12 (fun c2 => ?_) (fun c2 => ?_)
      · refine li_aload_n hC hl 0 rfl dX7_canAllBeIn_39 ?_
        refine wr_callVv hC (c_X7_goWays l g ad (va_up (va_up (va_up (va_up F 71 0) 72 (S 0)) 73 0) 74 0) (va_up (va_up (va_up A 44 g44) 46 f46) 48 f48) E tl S nm (alA S wd0 st0) (fun _ _ => 0) hI.1 (fun j h0 h1 => by have e9 := h44 j h0 h1; rw [if_pos (by omega)] at e9; exact e9) (fun i p h0 h1 h2 h3 => hb46 i p h0 h1 h2 h3) (fun i p h0 h1 h2 h3 => hb48 i p h0 h1 h2 h3) vl0_rng rfl (fun i _ _ => alA_rng S wd0 i hst) _) mk_X7_goWays ml_X7_78 (rr (by decide)) ⟨by simp only [rmC]; omega, by simp only [rmC]; omega⟩ hK hS (li_recv hK.1 ck_X7 (hS.1 42 _ rfl)) rfl hl.1 rfl (Nat.le_of_ble_eq_true rfl) dX7_canAllBeIn_40 (fun w H locs hpx hS => ?_)
        obtain ⟨f50, s33, nw3, fd3, hq3, hfd3⟩ := hpx
        rw [hq3] at hS
        have hS : St g Aw s.heap H locs (CW g ad (va_up (va_up (va_up (va_up (va_up F 53 s33) 71 ((foldG (fun _ _ => 0) (cmp (okB S (alA S wd0 st0)) (S 0).toNat []) (0, 0, A 54)).1)) 72 (S 0)) 73 ((foldG (fun _ _ => 0) (cmp (okB S (alA S wd0 st0)) (S 0).toNat []) (0, 0, A 54)).2.1)) 74 0) (va_up (va_up (va_up (va_up (va_up (va_up A 44 g44) 46 f46) 48 f48) 50 f50) 52 nw3) 54 fd3) E tl) := hS
        have hGT : GT (foldG (fun _ _ => 0) (cmp (okB S (alA S wd0 st0)) (S 0).toNat []) (0, 0, A 54)) := foldG_GT vl0_rng _ _ GT_0 (cmp7 (by show 0 + _ ≤ 7; omega)); have hg1 := hGT.1; have hg2 := hGT.2
        refine li_aload_n hC hl 0 rfl dX7_canAllBeIn_43 ?_
        refine li_get hC hK.1 ck_X7 (hS.1 42 _ rfl) 7 (by decide) fl_X7_81 rfl (v := .int (iI ((foldG (fun _ _ => 0) (cmp (okB S (alA S wd0 st0)) (S 0).toNat []) (0, 0, A 54)).1))) rfl dX7_canAllBeIn_44 ?_
        exact hQ _ _ _ _ _ _ _ _ dX7_canAllBeIn_47 hS (by omega) (by omega) (by omega) (⟨rfl, (va_up (va_up (va_up (va_up (va_up F 53 s33) 71 ((foldG (fun _ _ => 0) (cmp (okB S (alA S wd0 st0)) (S 0).toNat []) (0, 0, A 54)).1)) 72 (S 0)) 73 ((foldG (fun _ _ => 0) (cmp (okB S (alA S wd0 st0)) (S 0).toNat []) (0, 0, A 54)).2.1)) 74 0), (va_up (va_up (va_up (va_up (va_up (va_up A 44 g44) 46 f46) 48 f48) 50 f50) 52 nw3) 54 fd3), rfl, ⟨fun k hk => (by first | rfl | (repeat rw [up_ne _ _ (by omega)])), fun k hk => (by first | rfl | (repeat rw [up_ne _ _ (by omega)]))⟩, hSh, rfl, rfl, rfl, hfd3⟩)
      · refine li_aload_n hC hl 0 rfl dX7_canAllBeIn_15 ?_
        refine li_get hC hK.1 ck_X7 (hS.1 42 _ rfl) 1 (by decide) fl_X7_14 rfl (v := .ref (ad 43)) rfl dX7_canAllBeIn_16 ?_
        refine li_iload_n hC hl 3 rfl dX7_canAllBeIn_19 ?_
        refine li_aload_n hC hl 0 rfl dX7_canAllBeIn_20 ?_
        refine li_get hC hK.1 ck_X7 (hS.1 42 _ rfl) 1 (by decide) fl_X7_14 rfl (v := .ref (ad 43)) rfl dX7_canAllBeIn_21 ?_
        refine li_iload_n hC hl 3 rfl dX7_canAllBeIn_24 ?_
        refine ro_callVi hC (c_X6_get l g (ws := CW g ad (va_up (va_up (va_up (va_up F 71 0) 72 (S 0)) 73 0) 74 0) (va_up (va_up (va_up A 44 g44) 46 f46) 48 f48) E tl) (i := 43) (j := 44) (a := (ad 43)) (b := (ad 44)) (n := 7) (f := g44) (sz := F 43) rfl rfl (Nat.le_of_ble_eq_true rfl) (k := i) ⟨by omega, by omega⟩) mk_X6_get ml_X7_39 (rr (by decide)) ⟨Nat.zero_le _, Nat.zero_le _⟩ hK.1 (hS.ro hK) hS.1 (li_recv hK.1 ck_X6 (hS.1 43 _ rfl)) rfl hl.1 rfl (Nat.le_of_ble_eq_true rfl) dX7_canAllBeIn_25 ?_
        refine li_iload_n hC hl 2 rfl dX7_canAllBeIn_28 ?_
        refine li_iand hC dX7_canAllBeIn_29 ?_
        refine wr_callVv hC (c_X6_set l g (ws := CW g ad (va_up (va_up (va_up (va_up F 71 0) 72 (S 0)) 73 0) 74 0) (va_up (va_up (va_up A 44 g44) 46 f46) 48 f48) E tl) (i := 43) (j := 44) (a := (ad 43)) (b := (ad 44)) (n := 7) (f := g44) (sz := F 43) rfl rfl (Nat.le_of_ble_eq_true rfl) (k := i) (v := iand (g44 i.toNat) st0) ⟨by omega, by omega⟩ (ws2 := CW g ad (va_up (va_up (va_up (va_up F 71 0) 72 (S 0)) 73 0) 74 0) (va_up (va_up (va_up A 44 (va_up g44 i.toNat (iand (g44 i.toNat) st0))) 46 f46) 48 f48) E tl) rfl _) mk_X6_set ml_X7_74 (rr (by decide)) ⟨by simp only [rmC]; omega, by simp only [rmC]; omega⟩ hK hS (li_recv hK.1 ck_X6 (hS.1 43 _ rfl)) rfl hl.1 rfl (Nat.le_of_ble_eq_true rfl) dX7_canAllBeIn_30 (fun w H locs hpx hS => ?_)
        subst hpx
        refine li_iinc hC (lv' := [(3, .int (iI (i + 1))), (0, .ref (ad 42)), (1, .int (iI wd0)), (2, .int (iI st0))]) hl 3 rfl (by decide) rfl dX7_canAllBeIn_33 (fun ls hl => ?_)
        refine li_goto (tgt := 7) hC (by decide) dX7_canAllBeIn_36 ?_
        exact ih7 (i + 1) (va_up g44 i.toNat (iand (g44 i.toNat) st0)) _ _ _ hS (lv_sub hl [1, 2, 3, 0] rfl) (by omega) (by intro j h0 h1; rcases (show j < i ∨ j = i ∨ i < j by omega) with q | q | q; { have e9 := h44 j h0 h1; rw [if_pos (by omega)] at e9; rw [up_ne _ _ (by omega), if_pos (by omega)]; exact e9 }; { have e9 := h44 i (by omega) (by omega); rw [if_neg (by omega)] at e9; rw [q, up_same, if_pos (by omega), e9]; rfl }; { have e9 := h44 j h0 h1; rw [if_neg (by omega)] at e9; rw [up_ne _ _ (by omega), if_neg (by omega)]; exact e9 }) (by omega)
  exact L7_1 (((S 0 - 0).toNat) + 1) 0 f44 _ _ _ hS (lv_sub hl [1, 2, 3, 0] rfl) (by omega) (by intro j h0 h1; rw [if_neg (by omega)]; exact hb44 j h0 h1) (by omega)
set_option maxHeartbeats 4000000 in
set_option maxRecDepth 100000 in
theorem c_X7_setMoves (l : Launch) (g : GG) (ad : Nat → Nat) (F : Nat → Int) (A : Nat → Nat → Int) (E : Nat → Nat) (tl : va_W) (S : Nat → Int) (nm : Nat → Nat) (i : Int) (s0 : Int) (hi : 0 ≤ i ∧ i < 7) (hs : 0 ≤ s0 ∧ s0 ≤ 4) (sz : Nat) : MwrV l g yX7_setMoves cX7_setMoves 4 5 0 0 [.ref (ad 42), .int (iI i), .int (iI s0)] sz (CW g ad F A E tl) (fun w => ∃ f46 : Nat → Int, w = CW g ad F (va_up A 46 f46) E tl ∧ (∀ j q : Int, 0 ≤ j → j < 7 → 0 ≤ q → q ≤ 3 → f46 ((j * 4) + q).toNat = if j = i then (if q = s0 then 0 else -1) else (A 46) ((j * 4) + q).toNat)) := by
  refine wr_startV (own := RX7) (by decide) rfl (Nat.le_of_ble_eq_true rfl) ?_
  intro Pg Ev s Mi args below Mt Cd ls Q Aw hC hK hS hnm hl hQ
  have hl : lv_has ls 4 [(0, .ref (ad 42)), (1, .int (iI i)), (2, .int (iI s0))] := hl
  obtain ⟨H, hH⟩ : ∃ H, H = s.heap := ⟨_, rfl⟩
  obtain ⟨locs, hlo⟩ : ∃ locs : List Loc, locs = [] := ⟨_, rfl⟩
  have hS : St g Aw s.heap H locs (CW g ad F A E tl) := by rw [hH, hlo]; exact hS
  have goal : W Pg l Ev (rmC 5 0 0) s Mi args below Mt Cd H locs 0 0 Q (F0 Mi 0 ls []) := ?goal
  · rw [hH, hlo] at goal; exact goal
  clear hH hlo
  refine li_iconst hC dX7_setMoves_0 ?_
  refine li_istore_n hC (lv' := [(3, .int (iI 0)), (0, .ref (ad 42)), (1, .int (iI i)), (2, .int (iI s0))]) hl (by decide) rfl dX7_setMoves_1 (fun ls hl => ?_)
  have L2_1 : ∀ (fuel : Nat) (p : Int) (g46 : Nat → Int) (ls : Array Slot) (H : Heap) (locs : List Loc), St g Aw s.heap H locs (CW g ad F (va_up A 46 g46) E tl) → lv_has ls 4 [(0, .ref (ad 42)), (1, .int (iI i)), (2, .int (iI s0)), (3, .int (iI p))] → (0 ≤ p ∧ p ≤ 4) → (∀ j q : Int, 0 ≤ j → j < 7 → 0 ≤ q → q ≤ 3 → g46 ((j * 4) + q).toNat = if j = i ∧ q < p then (if q = s0 then 0 else -1) else (A 46) ((j * 4) + q).toNat) → (((4 : Int) - p).toNat) < fuel → W Pg l Ev (rmC 5 0 0) s Mi args below Mt Cd H locs 0 0 Q (F0 Mi 2 ls []) := by
    intro fuel
    induction fuel with
    | zero => intro p g46 ls H locs hS hl hp k46 hm; exact absurd hm (Nat.not_lt_zero _)
    | succ fuel ih2 =>
      intro p g46 ls H locs hS hl hp k46 hm
      refine li_iload_n hC hl 3 rfl dX7_setMoves_2 ?_
      refine li_iconst hC dX7_setMoves_3 ?_
      refine li_icmp_ge (tgt := 35) hC (by decide) (rg (by omega) (by omega)) (rg (by decide) (by decide)) dX7_setMoves_4 (fun c2 => ?_) (fun c2 => ?_)
      · exact hQ _ _ _ _ _ _ _ dX7_setMoves_35 hS (by omega) (by omega) (⟨g46, rfl, fun j q j0 j1 q0 q1 => by rw [k46 j q j0 j1 q0 q1]; by_cases e2 : j = i; { rw [if_pos ⟨e2, by omega⟩, if_pos e2] }; { rw [if_neg (by omega), if_neg e2] }⟩)
      · refine li_aload_n hC hl 0 rfl dX7_setMoves_7 ?_
        refine li_get hC hK.1 ck_X7 (hS.1 42 _ rfl) 2 (by decide) fl_X7_20 rfl (v := .ref (ad 45)) rfl dX7_setMoves_8 ?_
        refine li_iload_n hC hl 1 rfl dX7_setMoves_11 ?_
        refine li_iconst hC dX7_setMoves_12 ?_
        refine li_imul hC dX7_setMoves_13 ?_
        refine li_iload_n hC hl 3 rfl dX7_setMoves_14 ?_
        refine li_iadd hC dX7_setMoves_15 ?_
        refine li_iload_n hC hl 3 rfl dX7_setMoves_16 ?_
        refine li_iload_n hC hl 2 rfl dX7_setMoves_17 ?_
        refine li_icmp_ne (tgt := 25) hC (by decide) (rg (by omega) (by omega)) (rg (by omega) (by omega)) dX7_setMoves_18 (fun c3 => ?_) (fun c3 => ?_)
        · refine li_iconst hC dX7_setMoves_25 ?_
          refine wr_callVv hC (c_X6_set l g (ws := CW g ad F (va_up A 46 g46) E tl) (i := 45) (j := 46) (a := (ad 45)) (b := (ad 46)) (n := 28) (f := g46) (sz := F 45) rfl rfl (Nat.le_of_ble_eq_true rfl) (k := (i * 4) + p) (v := -1) ⟨by omega, by omega⟩ (ws2 := CW g ad F (va_up A 46 (va_up g46 (((i * 4) + p).toNat) (-1))) E tl) rfl _) mk_X6_set ml_X7_74 (rr (by decide)) ⟨by simp only [rmC]; omega, by simp only [rmC]; omega⟩ hK hS (li_recv hK.1 ck_X6 (hS.1 45 _ rfl)) rfl hl.1 rfl (Nat.le_of_ble_eq_true rfl) dX7_setMoves_26 (fun w H locs hpx hS => ?_)
          subst hpx
          refine li_iinc hC (lv' := [(3, .int (iI (p + 1))), (0, .ref (ad 42)), (1, .int (iI i)), (2, .int (iI s0))]) hl 3 rfl (by decide) rfl dX7_setMoves_29 (fun ls hl => ?_)
          refine li_goto (tgt := 2) hC (by decide) dX7_setMoves_32 ?_
          exact ih2 (p + 1) (va_up g46 (((i * 4) + p).toNat) (-1)) _ _ _ hS (lv_sub hl [1, 2, 3, 0] rfl) (by omega) (by intro j q j0 j1 q0 q1; rcases (show (j = i ∧ q = p) ∨ ¬ (j = i ∧ q = p) by omega) with e | e; { rw [e.1, e.2, up_same, if_pos (by omega)]; first | (rw [if_pos (by omega)]; done) | (rw [if_neg (by omega)]; done) }; { rw [up_ne _ _ (by omega), k46 j q j0 j1 q0 q1]; by_cases e2 : j = i ∧ q < p; { rw [if_pos e2, if_pos (show j = i ∧ q < p + 1 by omega)] }; { rw [if_neg e2, if_neg (show ¬ (j = i ∧ q < p + 1) by omega)] } }) (by omega)
        · refine li_iconst hC dX7_setMoves_21 ?_
          refine li_goto (tgt := 26) hC (by decide) dX7_setMoves_22 ?_
          refine wr_callVv hC (c_X6_set l g (ws := CW g ad F (va_up A 46 g46) E tl) (i := 45) (j := 46) (a := (ad 45)) (b := (ad 46)) (n := 28) (f := g46) (sz := F 45) rfl rfl (Nat.le_of_ble_eq_true rfl) (k := (i * 4) + p) (v := 0) ⟨by omega, by omega⟩ (ws2 := CW g ad F (va_up A 46 (va_up g46 (((i * 4) + p).toNat) 0)) E tl) rfl _) mk_X6_set ml_X7_74 (rr (by decide)) ⟨by simp only [rmC]; omega, by simp only [rmC]; omega⟩ hK hS (li_recv hK.1 ck_X6 (hS.1 45 _ rfl)) rfl hl.1 rfl (Nat.le_of_ble_eq_true rfl) dX7_setMoves_26 (fun w H locs hpx hS => ?_)
          subst hpx
          refine li_iinc hC (lv' := [(3, .int (iI (p + 1))), (0, .ref (ad 42)), (1, .int (iI i)), (2, .int (iI s0))]) hl 3 rfl (by decide) rfl dX7_setMoves_29 (fun ls hl => ?_)
          refine li_goto (tgt := 2) hC (by decide) dX7_setMoves_32 ?_
          exact ih2 (p + 1) (va_up g46 (((i * 4) + p).toNat) 0) _ _ _ hS (lv_sub hl [1, 2, 3, 0] rfl) (by omega) (by intro j q j0 j1 q0 q1; rcases (show (j = i ∧ q = p) ∨ ¬ (j = i ∧ q = p) by omega) with e | e; { rw [e.1, e.2, up_same, if_pos (by omega)]; first | (rw [if_pos (by omega)]; done) | (rw [if_neg (by omega)]; done) }; { rw [up_ne _ _ (by omega), k46 j q j0 j1 q0 q1]; by_cases e2 : j = i ∧ q < p; { rw [if_pos e2, if_pos (show j = i ∧ q < p + 1 by omega)] }; { rw [if_neg e2, if_neg (show ¬ (j = i ∧ q < p + 1) by omega)] } }) (by omega)
  exact L2_1 ((((4 : Int) - 0).toNat) + 1) 0 (A 46) _ _ _ hS (lv_sub hl [1, 2, 3, 0] rfl) (by omega) (by intro j q j0 j1 q0 q1; rw [if_neg (by omega)]) (by omega)
set_option maxHeartbeats 4000000 in
set_option maxRecDepth 100000 in
theorem c_X7_fewestMoves (l : Launch) (g : GG) (ad : Nat → Nat) (F : Nat → Int) (A : Nat → Nat → Int) (E : Nat → Nat) (tl : va_W) (S : Nat → Int) (nm : Nat → Nat) (hSh : ShW g ad F A E tl S nm) (hI : InvD S) (n : Int) (hn : 0 ≤ n ∧ n < S 0) (sz : Nat) : MwrI l g yX7_fewestMoves cX7_fewestMoves 4 22 0 0 [.ref (ad 42), .int (iI n)] sz (CW g ad F A E tl) (fun v w => v = iI (if (foldG (vlM S n) (cmp (okB S (alM S n)) (S 0).toNat []) (0, 0, A 54)).1 = 0 then -1 else -(foldG (vlM S n) (cmp (okB S (alM S n)) (S 0).toNat []) (0, 0, A 54)).2.1) ∧ ∃ (F2 : Nat → Int) (A2 : Nat → Nat → Int), w = CW g ad F2 A2 E tl ∧ KpS F F2 A A2 ∧ ShW g ad F2 A2 E tl S nm ∧ F2 71 = (foldG (vlM S n) (cmp (okB S (alM S n)) (S 0).toNat []) (0, 0, A 54)).1 ∧ F2 73 = (foldG (vlM S n) (cmp (okB S (alM S n)) (S 0).toNat []) (0, 0, A 54)).2.1 ∧ F2 74 = 0 ∧ (∀ k : Nat, (k : Int) < S 0 → A2 54 k = (foldG (vlM S n) (cmp (okB S (alM S n)) (S 0).toNat []) (0, 0, A 54)).2.2 k)) := by
  refine wr_startI (own := RX7) (by decide) rfl (Nat.le_of_ble_eq_true rfl) ?_
  intro Pg Ev s Mi args below Mt Cd ls Q Aw hC hK hS hnm hl hQ
  have hSh0 := hSh
  obtain ⟨hTp, hCd, hNs, hWh, hRw, hSn, hPl, hBk, hMp⟩ := hSh0
  have hNm := hNs.2.2
  have hD0 := hI.1
  have hNs0 := hNs.1
  have hws := wideS_rng S
  have hl : lv_has ls 4 [(0, .ref (ad 42)), (1, .int (iI n))] := hl
  obtain ⟨H, hH⟩ : ∃ H, H = s.heap := ⟨_, rfl⟩
  obtain ⟨locs, hlo⟩ : ∃ locs : List Loc, locs = [] := ⟨_, rfl⟩
  have hS : St g Aw s.heap H locs (CW g ad F A E tl) := by rw [hH, hlo]; exact hS
  have goal : W Pg l Ev (rmC 22 0 0) s Mi args below Mt Cd H locs 0 0 Q (F0 Mi 0 ls []) := ?goal
  · rw [hH, hlo] at goal; exact goal
  clear hH hlo
  refine li_aload_n hC hl 0 rfl dX7_fewestMoves_0 ?_
  refine li_aload_n hC hl 0 rfl dX7_fewestMoves_1 ?_
  refine li_get hC hK.1 ck_X7 (hS.1 42 _ rfl) 0 (by decide) fl_X7_35 rfl (v := .ref (ad 3)) rfl dX7_fewestMoves_2 ?_
  refine li_get hC hK.1 ck_X8 (hS.1 3 _ rfl) 10 (by decide) fl_X7_60 rfl (v := .int (iI (wideS S))) (by rw [← show F 61 = wideS S from hMp.2.1]; rfl) dX7_fewestMoves_5 ?_
  refine wr_callVv hC (c_X7_begin l g ad F A E tl S nm hSh hI (wideS S) (by omega) _) mk_X7_begin ml_X7_65 (rr (by decide)) ⟨by simp only [rmC]; omega, by simp only [rmC]; omega⟩ hK hS (li_recv hK.1 ck_X7 (hS.1 42 _ rfl)) rfl hl.1 rfl (Nat.le_of_ble_eq_true rfl) dX7_fewestMoves_8 (fun w H locs hpx hS => ?_)
  obtain ⟨f44, f46, f48, hw, hb44, hb46, hb48⟩ := hpx
  rw [hw] at hS
  have hS : St g Aw s.heap H locs (CW g ad (va_up (va_up (va_up (va_up F 71 0) 72 (S 0)) 73 0) 74 0) (va_up (va_up (va_up A 44 f44) 46 f46) 48 f48) E tl) := hS
  refine li_iconst hC dX7_fewestMoves_11 ?_
  refine li_istore_n hC (lv' := [(2, .int (iI 0)), (0, .ref (ad 42)), (1, .int (iI n))]) hl (by decide) rfl dX7_fewestMoves_12 (fun ls hl => ?_)
  have L13_1 : ∀ (fuel : Nat) (i : Int) (g44 : Nat → Int) (g46 : Nat → Int) (ls : Array Slot) (H : Heap) (locs : List Loc), St g Aw s.heap H locs (CW g ad (va_up (va_up (va_up (va_up F 71 0) 72 (S 0)) 73 0) 74 0) (va_up (va_up (va_up A 44 g44) 46 g46) 48 f48) E tl) → lv_has ls 4 [(0, .ref (ad 42)), (1, .int (iI n)), (2, .int (iI i))] → (0 ≤ i ∧ i ≤ S 0) → (∀ j : Int, 0 ≤ j → j < S 0 → g44 j.toNat = if j < i then alM S n j else bitsF S (wideS S) j) → (∀ j q : Int, 0 ≤ j → j < S 0 → 0 ≤ q → q ≤ 3 → g46 ((j * 4) + q).toNat = if j < i then vlM S n j q else 0) → ((S 0 - i).toNat) < fuel → W Pg l Ev (rmC 22 0 0) s Mi args below Mt Cd H locs 0 0 Q (F0 Mi 13 ls []) := by
    intro fuel
    induction fuel with
    | zero => intro i g44 g46 ls H locs hS hl hi h44 h46 hm; exact absurd hm (Nat.not_lt_zero _)
    | succ fuel ih13 =>
      intro i g44 g46 ls H locs hS hl hi h44 h46 hm
      refine li_iload_n hC hl 2 rfl dX7_fewestMoves_13 ?_
      refine li_aload_n hC hl 0 rfl dX7_fewestMoves_14 ?_
      refine li_get hC hK.1 ck_X7 (hS.1 42 _ rfl) 8 (by decide) fl_X7_71 rfl (v := .int (iI (S 0))) rfl dX7_fewestMoves_15 ?_
      refine li_icmp_ge (tgt := 73) hC (by decide) (rg (by omega) (by omega)) (rg (by omega) (by omega)) dX7_fewestMoves_18 (fun c2 => ?_) (fun c2 => ?_)
      · refine li_aload_n hC hl 0 rfl dX7_fewestMoves_73 ?_
        refine wr_callVv hC (c_X7_goWays l g ad (va_up (va_up (va_up (va_up F 71 0) 72 (S 0)) 73 0) 74 0) (va_up (va_up (va_up A 44 g44) 46 g46) 48 f48) E tl S nm (alM S n) (vlM S n) hI.1 (fun j h0 h1 => by have e9 := h44 j h0 h1; rw [if_pos (by omega)] at e9; exact e9) (fun j q h0 h1 h2 h3 => by have e9 := h46 j q h0 h1 h2 h3; rw [if_pos (by omega)] at e9; exact e9) (fun i p h0 h1 h2 h3 => hb48 i p h0 h1 h2 h3) (vlM_rng S n) rfl (fun i _ _ => alM_rng S n i) _) mk_X7_goWays ml_X7_78 (rr (by decide)) ⟨by simp only [rmC]; omega, by simp only [rmC]; omega⟩ hK hS (li_recv hK.1 ck_X7 (hS.1 42 _ rfl)) rfl hl.1 rfl (Nat.le_of_ble_eq_true rfl) dX7_fewestMoves_74 (fun w H locs hpx hS => ?_)
        obtain ⟨f50, s33, nw3, fd3, hq3, hfd3⟩ := hpx
        rw [hq3] at hS
        have hS : St g Aw s.heap H locs (CW g ad (va_up (va_up (va_up (va_up (va_up F 53 s33) 71 ((foldG (vlM S n) (cmp (okB S (alM S n)) (S 0).toNat []) (0, 0, A 54)).1)) 72 (S 0)) 73 ((foldG (vlM S n) (cmp (okB S (alM S n)) (S 0).toNat []) (0, 0, A 54)).2.1)) 74 0) (va_up (va_up (va_up (va_up (va_up (va_up A 44 g44) 46 g46) 48 f48) 50 f50) 52 nw3) 54 fd3) E tl) := hS
        have hGT : GT (foldG (vlM S n) (cmp (okB S (alM S n)) (S 0).toNat []) (0, 0, A 54)) := foldG_GT (vlM_rng S n) _ _ GT_0 (cmp7 (by show 0 + _ ≤ 7; omega)); have hg1 := hGT.1; have hg2 := hGT.2
        refine li_aload_n hC hl 0 rfl dX7_fewestMoves_77 ?_
        refine li_get hC hK.1 ck_X7 (hS.1 42 _ rfl) 7 (by decide) fl_X7_81 rfl (v := .int (iI ((foldG (vlM S n) (cmp (okB S (alM S n)) (S 0).toNat []) (0, 0, A 54)).1))) rfl dX7_fewestMoves_78 ?_
        refine li_if_eq (tgt := 92) hC (by decide) (rg (by omega) (by omega)) dX7_fewestMoves_81 (fun c3 => ?_) (fun c3 => ?_)
        · refine li_iconst hC dX7_fewestMoves_92 ?_
          exact hQ _ _ _ _ _ _ _ _ dX7_fewestMoves_93 hS (by omega) (by omega) (⟨by first | (rw [if_pos (by omega)]; done) | (rw [if_neg (by omega)]; done), (va_up (va_up (va_up (va_up (va_up F 53 s33) 71 ((foldG (vlM S n) (cmp (okB S (alM S n)) (S 0).toNat []) (0, 0, A 54)).1)) 72 (S 0)) 73 ((foldG (vlM S n) (cmp (okB S (alM S n)) (S 0).toNat []) (0, 0, A 54)).2.1)) 74 0), (va_up (va_up (va_up (va_up (va_up (va_up A 44 g44) 46 g46) 48 f48) 50 f50) 52 nw3) 54 fd3), rfl, ⟨fun k hk => (by first | rfl | (repeat rw [up_ne _ _ (by omega)])), fun k hk => (by first | rfl | (repeat rw [up_ne _ _ (by omega)]))⟩, hSh, rfl, rfl, rfl, hfd3⟩)
        · refine li_aload_n hC hl 0 rfl dX7_fewestMoves_84 ?_
          refine li_get hC hK.1 ck_X7 (hS.1 42 _ rfl) 9 (by decide) fl_X7_47 rfl (v := .int (iI ((foldG (vlM S n) (cmp (okB S (alM S n)) (S 0).toNat []) (0, 0, A 54)).2.1))) rfl dX7_fewestMoves_85 ?_
          refine li_ineg hC dX7_fewestMoves_88 ?_
          refine li_goto (tgt := 93) hC (by decide) dX7_fewestMoves_89 ?_
          exact hQ _ _ _ _ _ _ _ _ dX7_fewestMoves_93 hS (by omega) (by omega) (⟨by first | (rw [if_pos (by omega)]; done) | (rw [if_neg (by omega)]; done), (va_up (va_up (va_up (va_up (va_up F 53 s33) 71 ((foldG (vlM S n) (cmp (okB S (alM S n)) (S 0).toNat []) (0, 0, A 54)).1)) 72 (S 0)) 73 ((foldG (vlM S n) (cmp (okB S (alM S n)) (S 0).toNat []) (0, 0, A 54)).2.1)) 74 0), (va_up (va_up (va_up (va_up (va_up (va_up A 44 g44) 46 g46) 48 f48) 50 f50) 52 nw3) 54 fd3), rfl, ⟨fun k hk => (by first | rfl | (repeat rw [up_ne _ _ (by omega)])), fun k hk => (by first | rfl | (repeat rw [up_ne _ _ (by omega)]))⟩, hSh, rfl, rfl, rfl, hfd3⟩)
      · refine li_aload_n hC hl 0 rfl dX7_fewestMoves_21 ?_
        refine li_get hC hK.1 ck_X7 (hS.1 42 _ rfl) 0 (by decide) fl_X7_35 rfl (v := .ref (ad 3)) rfl dX7_fewestMoves_22 ?_
        refine li_get hC hK.1 ck_X8 (hS.1 3 _ rfl) 3 (by decide) fl_X7_85 rfl (v := .ref (ad 9)) rfl dX7_fewestMoves_25 ?_
        refine li_iload_n hC hl 2 rfl dX7_fewestMoves_28 ?_
        refine ro_callVi hC (c_X6_get l g (ws := CW g ad (va_up (va_up (va_up (va_up F 71 0) 72 (S 0)) 73 0) 74 0) (va_up (va_up (va_up A 44 g44) 46 g46) 48 f48) E tl) (i := 9) (j := 10) (a := (ad 9)) (b := (ad 10)) (n := 7) (f := (A 10)) (sz := F 9) rfl rfl (Nat.le_of_ble_eq_true rfl) (k := i) ⟨by omega, by omega⟩) mk_X6_get ml_X7_39 (rr (by decide)) ⟨Nat.zero_le _, Nat.zero_le _⟩ hK.1 (hS.ro hK) hS.1 (li_recv hK.1 ck_X6 (hS.1 9 _ rfl)) rfl hl.1 rfl (Nat.le_of_ble_eq_true rfl) dX7_fewestMoves_29 ?_
        rw [hWh i (by omega) (by omega)]
        have q4 := hI.2 i (by omega) (by omega)
        refine li_istore_n hC (lv' := [(3, .int (iI (S (42 + i).toNat))), (0, .ref (ad 42)), (1, .int (iI n)), (2, .int (iI i))]) hl (by decide) rfl dX7_fewestMoves_32 (fun ls hl => ?_)
        refine li_iload_n hC hl 3 rfl dX7_fewestMoves_33 ?_
        refine li_iload_n hC hl 2 rfl dX7_fewestMoves_34 ?_
        refine li_icmp_eq (tgt := 56) hC (by decide) (rg (by omega) (by omega)) (rg (by omega) (by omega)) dX7_fewestMoves_35 (fun c5 => ?_) (fun c5 => ?_)
        · refine li_iload_n hC hl 3 rfl dX7_fewestMoves_56 ?_
          refine li_iload_n hC hl 2 rfl dX7_fewestMoves_57 ?_
          refine li_icmp_eq (tgt := 67) hC (by decide) (rg (by omega) (by omega)) (rg (by omega) (by omega)) dX7_fewestMoves_58 (fun c6 => ?_) (fun c6 => ?_)
          · refine li_iinc hC (lv' := [(2, .int (iI (i + 1))), (3, .int (iI (S (42 + i).toNat))), (0, .ref (ad 42)), (1, .int (iI n))]) hl 3 rfl (by decide) rfl dX7_fewestMoves_67 (fun ls hl => ?_)
            refine li_goto (tgt := 13) hC (by decide) dX7_fewestMoves_70 ?_
            exact ih13 (i + 1) g44 g46 _ _ _ hS (lv_sub hl [2, 3, 0] rfl) (by omega) (by intro j h0 h1; rcases (show j < i ∨ j = i ∨ i < j by omega) with q | q | q; { have e9 := h44 j h0 h1; rw [if_pos (by omega)] at e9; rw [if_pos (by omega)]; exact e9 }; { have e9 := h44 i (by omega) (by omega); rw [if_neg (by omega)] at e9; rw [q, if_pos (by omega), e9]; unfold alM; rw [if_neg (by omega)] }; { have e9 := h44 j h0 h1; rw [if_neg (by omega)] at e9; rw [if_neg (by omega)]; exact e9 }) (by intro j q0 h0 h1 h2 h3; rcases (show j < i ∨ j = i ∨ i < j by omega) with q | q | q; { have e9 := h46 j q0 h0 h1 h2 h3; rw [if_pos (by omega)] at e9; rw [if_pos (by omega)]; exact e9 }; { have e9 := h46 j q0 h0 h1 h2 h3; rw [if_neg (by omega)] at e9; rw [e9]; rw [if_pos (show j < i + 1 by omega)]; unfold vlM; rw [if_neg (by rw [q]; omega)] }; { have e9 := h46 j q0 h0 h1 h2 h3; rw [if_neg (by omega)] at e9; rw [if_neg (by omega)]; exact e9 }) (by omega)
          · refine li_aload_n hC hl 1 rfl dX7_fewestMoves_61 ?_
            refine li_iload_n hC hl 3 rfl dX7_fewestMoves_62 ?_
            refine li_iload_n hC hl 0 rfl dX7_fewestMoves_63 ?_
            refine wr_callVv hC (c_X7_setMoves l g ad (va_up (va_up (va_up (va_up F 71 0) 72 (S 0)) 73 0) 74 0) (va_up (va_up (va_up A 44 g44) 46 g46) 48 f48) E tl S nm i (S (42 + i).toNat) (by omega) (by omega) _) mk_X7_setMoves ml_X7_88 (rr (by decide)) ⟨by simp only [rmC]; omega, by simp only [rmC]; omega⟩ hK hS (li_recv hK.1 ck_X7 (hS.1 42 _ rfl)) rfl hl.1 rfl (Nat.le_of_ble_eq_true rfl) dX7_fewestMoves_64 (fun w H locs hpx hS => ?_)
            obtain ⟨m46, hw, hm46⟩ := hpx
            rw [hw] at hS
            have hS : St g Aw s.heap H locs (CW g ad (va_up (va_up (va_up (va_up F 71 0) 72 (S 0)) 73 0) 74 0) (va_up (va_up (va_up A 44 g44) 46 m46) 48 f48) E tl) := hS
            refine li_iinc hC (lv' := [(2, .int (iI (i + 1))), (3, .int (iI (S (42 + i).toNat))), (0, .ref (ad 42)), (1, .int (iI n))]) hl 3 rfl (by decide) rfl dX7_fewestMoves_67 (fun ls hl => ?_)
            refine li_goto (tgt := 13) hC (by decide) dX7_fewestMoves_70 ?_
            exact ih13 (i + 1) g44 m46 _ _ _ hS (lv_sub hl [2, 3, 0] rfl) (by omega) (by intro j h0 h1; rcases (show j < i ∨ j = i ∨ i < j by omega) with q | q | q; { have e9 := h44 j h0 h1; rw [if_pos (by omega)] at e9; rw [if_pos (by omega)]; exact e9 }; { have e9 := h44 i (by omega) (by omega); rw [if_neg (by omega)] at e9; rw [q, if_pos (by omega), e9]; unfold alM; rw [if_neg (by omega)] }; { have e9 := h44 j h0 h1; rw [if_neg (by omega)] at e9; rw [if_neg (by omega)]; exact e9 }) (by intro j q0 h0 h1 h2 h3; rcases (show j < i ∨ j = i ∨ i < j by omega) with q | q | q; { have e9 := h46 j q0 h0 h1 h2 h3; rw [if_pos (by omega)] at e9; rw [hm46 j q0 h0 (by omega) h2 h3, if_neg (by omega)]; rw [if_pos (by omega)]; exact e9 }; { rw [hm46 j q0 h0 (by omega) h2 h3, if_pos q]; rw [if_pos (show j < i + 1 by omega)]; unfold vlM; rw [if_pos (show j ≠ n ∧ S (42 + j).toNat ≠ 4 by rw [q]; exact ⟨by omega, by omega⟩), q] }; { have e9 := h46 j q0 h0 h1 h2 h3; rw [if_neg (by omega)] at e9; rw [hm46 j q0 h0 (by omega) h2 h3, if_neg (by omega)]; rw [if_neg (by omega)]; exact e9 }) (by omega)
        · refine li_iload_n hC hl 0 rfl dX7_fewestMoves_38 ?_
          refine li_iconst hC dX7_fewestMoves_39 ?_
          refine li_icmp_ne (tgt := 56) hC (by decide) (rg (by omega) (by omega)) (rg (by decide) (by decide)) dX7_fewestMoves_40 (fun c7 => ?_) (fun c7 => ?_)
          · refine li_iload_n hC hl 3 rfl dX7_fewestMoves_56 ?_
            refine li_iload_n hC hl 2 rfl dX7_fewestMoves_57 ?_
            refine li_icmp_eq (tgt := 67) hC (by decide) (rg (by omega) (by omega)) (rg (by omega) (by omega)) dX7_fewestMoves_58 (fun c8 => ?_) (fun c8 => ?_)
            · refine li_iinc hC (lv' := [(2, .int (iI (i + 1))), (3, .int (iI (S (42 + i).toNat))), (0, .ref (ad 42)), (1, .int (iI n))]) hl 3 rfl (by decide) rfl dX7_fewestMoves_67 (fun ls hl => ?_)
              refine li_goto (tgt := 13) hC (by decide) dX7_fewestMoves_70 ?_
              exact ih13 (i + 1) g44 g46 _ _ _ hS (lv_sub hl [2, 3, 0] rfl) (by omega) (by intro j h0 h1; rcases (show j < i ∨ j = i ∨ i < j by omega) with q | q | q; { have e9 := h44 j h0 h1; rw [if_pos (by omega)] at e9; rw [if_pos (by omega)]; exact e9 }; { have e9 := h44 i (by omega) (by omega); rw [if_neg (by omega)] at e9; rw [q, if_pos (by omega), e9]; unfold alM; rw [if_neg (by omega)] }; { have e9 := h44 j h0 h1; rw [if_neg (by omega)] at e9; rw [if_neg (by omega)]; exact e9 }) (by intro j q0 h0 h1 h2 h3; rcases (show j < i ∨ j = i ∨ i < j by omega) with q | q | q; { have e9 := h46 j q0 h0 h1 h2 h3; rw [if_pos (by omega)] at e9; rw [if_pos (by omega)]; exact e9 }; { have e9 := h46 j q0 h0 h1 h2 h3; rw [if_neg (by omega)] at e9; rw [e9]; rw [if_pos (show j < i + 1 by omega)]; unfold vlM; rw [if_neg (by rw [q]; omega)] }; { have e9 := h46 j q0 h0 h1 h2 h3; rw [if_neg (by omega)] at e9; rw [if_neg (by omega)]; exact e9 }) (by omega)
            · refine li_aload_n hC hl 1 rfl dX7_fewestMoves_61 ?_
              refine li_iload_n hC hl 3 rfl dX7_fewestMoves_62 ?_
              refine li_iload_n hC hl 0 rfl dX7_fewestMoves_63 ?_
              refine wr_callVv hC (c_X7_setMoves l g ad (va_up (va_up (va_up (va_up F 71 0) 72 (S 0)) 73 0) 74 0) (va_up (va_up (va_up A 44 g44) 46 g46) 48 f48) E tl S nm i (S (42 + i).toNat) (by omega) (by omega) _) mk_X7_setMoves ml_X7_88 (rr (by decide)) ⟨by simp only [rmC]; omega, by simp only [rmC]; omega⟩ hK hS (li_recv hK.1 ck_X7 (hS.1 42 _ rfl)) rfl hl.1 rfl (Nat.le_of_ble_eq_true rfl) dX7_fewestMoves_64 (fun w H locs hpx hS => ?_)
              obtain ⟨m46, hw, hm46⟩ := hpx
              rw [hw] at hS
              have hS : St g Aw s.heap H locs (CW g ad (va_up (va_up (va_up (va_up F 71 0) 72 (S 0)) 73 0) 74 0) (va_up (va_up (va_up A 44 g44) 46 m46) 48 f48) E tl) := hS
              refine li_iinc hC (lv' := [(2, .int (iI (i + 1))), (3, .int (iI (S (42 + i).toNat))), (0, .ref (ad 42)), (1, .int (iI n))]) hl 3 rfl (by decide) rfl dX7_fewestMoves_67 (fun ls hl => ?_)
              refine li_goto (tgt := 13) hC (by decide) dX7_fewestMoves_70 ?_
              exact ih13 (i + 1) g44 m46 _ _ _ hS (lv_sub hl [2, 3, 0] rfl) (by omega) (by intro j h0 h1; rcases (show j < i ∨ j = i ∨ i < j by omega) with q | q | q; { have e9 := h44 j h0 h1; rw [if_pos (by omega)] at e9; rw [if_pos (by omega)]; exact e9 }; { have e9 := h44 i (by omega) (by omega); rw [if_neg (by omega)] at e9; rw [q, if_pos (by omega), e9]; unfold alM; rw [if_neg (by omega)] }; { have e9 := h44 j h0 h1; rw [if_neg (by omega)] at e9; rw [if_neg (by omega)]; exact e9 }) (by intro j q0 h0 h1 h2 h3; rcases (show j < i ∨ j = i ∨ i < j by omega) with q | q | q; { have e9 := h46 j q0 h0 h1 h2 h3; rw [if_pos (by omega)] at e9; rw [hm46 j q0 h0 (by omega) h2 h3, if_neg (by omega)]; rw [if_pos (by omega)]; exact e9 }; { rw [hm46 j q0 h0 (by omega) h2 h3, if_pos q]; rw [if_pos (show j < i + 1 by omega)]; unfold vlM; rw [if_pos (show j ≠ n ∧ S (42 + j).toNat ≠ 4 by rw [q]; exact ⟨by omega, by omega⟩), q] }; { have e9 := h46 j q0 h0 h1 h2 h3; rw [if_neg (by omega)] at e9; rw [hm46 j q0 h0 (by omega) h2 h3, if_neg (by omega)]; rw [if_neg (by omega)]; exact e9 }) (by omega)
          · refine li_aload_n hC hl 1 rfl dX7_fewestMoves_43 ?_
            refine li_get hC hK.1 ck_X7 (hS.1 42 _ rfl) 1 (by decide) fl_X7_14 rfl (v := .ref (ad 43)) rfl dX7_fewestMoves_44 ?_
            refine li_iload_n hC hl 3 rfl dX7_fewestMoves_47 ?_
            refine li_bipush hC (z := 16) rfl dX7_fewestMoves_48 ?_
            refine wr_callVv hC (c_X6_set l g (ws := CW g ad (va_up (va_up (va_up (va_up F 71 0) 72 (S 0)) 73 0) 74 0) (va_up (va_up (va_up A 44 g44) 46 g46) 48 f48) E tl) (i := 43) (j := 44) (a := (ad 43)) (b := (ad 44)) (n := 7) (f := g44) (sz := F 43) rfl rfl (Nat.le_of_ble_eq_true rfl) (k := i) (v := 16) ⟨by omega, by omega⟩ (ws2 := CW g ad (va_up (va_up (va_up (va_up F 71 0) 72 (S 0)) 73 0) 74 0) (va_up (va_up (va_up A 44 (va_up g44 i.toNat 16)) 46 g46) 48 f48) E tl) rfl _) mk_X6_set ml_X7_74 (rr (by decide)) ⟨by simp only [rmC]; omega, by simp only [rmC]; omega⟩ hK hS (li_recv hK.1 ck_X6 (hS.1 43 _ rfl)) rfl hl.1 rfl (Nat.le_of_ble_eq_true rfl) dX7_fewestMoves_50 (fun w H locs hpx hS => ?_)
            subst hpx
            refine li_goto (tgt := 67) hC (by decide) dX7_fewestMoves_53 ?_
            refine li_iinc hC (lv' := [(2, .int (iI (i + 1))), (3, .int (iI (S (42 + i).toNat))), (0, .ref (ad 42)), (1, .int (iI n))]) hl 3 rfl (by decide) rfl dX7_fewestMoves_67 (fun ls hl => ?_)
            refine li_goto (tgt := 13) hC (by decide) dX7_fewestMoves_70 ?_
            exact ih13 (i + 1) (va_up g44 i.toNat 16) g46 _ _ _ hS (lv_sub hl [2, 3, 0] rfl) (by omega) (by intro j h0 h1; rcases (show j < i ∨ j = i ∨ i < j by omega) with q | q | q; { have e9 := h44 j h0 h1; rw [if_pos (by omega)] at e9; rw [up_ne _ _ (by omega), if_pos (by omega)]; exact e9 }; { rw [q, up_same, if_pos (by omega)]; unfold alM; rw [if_pos (by omega)] }; { have e9 := h44 j h0 h1; rw [if_neg (by omega)] at e9; rw [up_ne _ _ (by omega), if_neg (by omega)]; exact e9 }) (by intro j q0 h0 h1 h2 h3; rcases (show j < i ∨ j = i ∨ i < j by omega) with q | q | q; { have e9 := h46 j q0 h0 h1 h2 h3; rw [if_pos (by omega)] at e9; rw [if_pos (by omega)]; exact e9 }; { have e9 := h46 j q0 h0 h1 h2 h3; rw [if_neg (by omega)] at e9; rw [e9]; rw [if_pos (show j < i + 1 by omega)]; unfold vlM; rw [if_neg (by rw [q]; omega)] }; { have e9 := h46 j q0 h0 h1 h2 h3; rw [if_neg (by omega)] at e9; rw [if_neg (by omega)]; exact e9 }) (by omega)
  exact L13_1 (((S 0 - 0).toNat) + 1) 0 f44 f46 _ _ _ hS (lv_sub hl [1, 2, 0] rfl) (by omega) (by intro j h0 h1; rw [if_neg (by omega)]; exact hb44 j h0 h1) (by intro j q h0 h1 h2 h3; rw [if_neg (by omega)]; exact hb46 j q h0 h1 h2 h3) (by omega)
