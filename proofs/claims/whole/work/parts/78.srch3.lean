set_option maxHeartbeats 4000000 in
set_option maxRecDepth 100000 in
theorem c_X7_hopes (l : Launch) (g : GG) (ad : Nat → Nat) (F : Nat → Int) (A : Nat → Nat → Int) (E : Nat → Nat) (tl : va_W) (S : Nat → Int) (nm : Nat → Nat) (al : Int → Int) (vl : Int → Int → Int) (hD : 0 ≤ S 0 ∧ S 0 ≤ 7) (hA : AlP S A al) (hV : VlP S A vl) (hvr : ∀ i p : Int, -110000 ≤ vl i p ∧ vl i p ≤ 110000) (hd72 : F 72 = S 0) (sz : Nat) : MwrI l g yX7_hopes cX7_hopes 4 6 0 0 [.ref (ad 42)] sz (CW g ad F A E tl) (fun v w => v = iI (sumI (topS al vl) (S 0).toNat) ∧ ∃ f : Nat → Int, w = CW g ad F (va_up A 50 f) E tl ∧ (∀ i : Int, 0 ≤ i → i < S 0 → f i.toNat = topS al vl i)) := by
  refine wr_startI (own := RX7) (by decide) rfl (Nat.le_of_ble_eq_true rfl) ?_
  intro Pg Ev s Mi args below Mt Cd ls Q Aw hC hK hS hnm hl hQ
  have hl : lv_has ls 4 [(0, .ref (ad 42))] := hl
  obtain ⟨H, hH⟩ : ∃ H, H = s.heap := ⟨_, rfl⟩
  obtain ⟨locs, hlo⟩ : ∃ locs : List Loc, locs = [] := ⟨_, rfl⟩
  have hS : St g Aw s.heap H locs (CW g ad F A E tl) := by rw [hH, hlo]; exact hS
  have goal : W Pg l Ev (rmC 6 0 0) s Mi args below Mt Cd H locs 0 0 Q (F0 Mi 0 ls []) := ?goal
  · rw [hH, hlo] at goal; exact goal
  clear hH hlo
  refine li_iconst hC dX7_hopes_0 ?_
  refine li_istore_n hC (lv' := [(1, .int (iI 0)), (0, .ref (ad 42))]) hl (by decide) rfl dX7_hopes_1 (fun ls hl => ?_)
  refine li_iconst hC dX7_hopes_2 ?_
  refine li_istore_n hC (lv' := [(2, .int (iI 0)), (1, .int (iI 0)), (0, .ref (ad 42))]) hl (by decide) rfl dX7_hopes_3 (fun ls hl => ?_)
  have L4_1 : ∀ (fuel : Nat) (i : Int) (z : Int) (f : Nat → Int) (ls : Array Slot) (H : Heap) (locs : List Loc), St g Aw s.heap H locs (CW g ad F (va_up A 50 f) E tl) → lv_has ls 4 [(0, .ref (ad 42)), (1, .int (iI z)), (2, .int (iI i))] → (0 ≤ i ∧ i ≤ S 0) → (z = sumI (topS al vl) i.toNat) → (∀ j : Int, 0 ≤ j → j < i → f j.toNat = topS al vl j) → ((S 0 - i).toNat) < fuel → W Pg l Ev (rmC 6 0 0) s Mi args below Mt Cd H locs 0 0 Q (F0 Mi 4 ls []) := by
    intro fuel
    induction fuel with
    | zero => intro i z f ls H locs hS hl hi hz hf hm; exact absurd hm (Nat.not_lt_zero _)
    | succ fuel ih4 =>
      intro i z f ls H locs hS hl hi hz hf hm
      have hsr := sumI_M (f := topS al vl) (M := 110000) (top_rng (by decide) hvr) i.toNat
      refine li_iload_n hC hl 2 rfl dX7_hopes_4 ?_
      refine li_aload_n hC hl 0 rfl dX7_hopes_5 ?_
      refine li_get hC hK.1 ck_X7 (hS.1 42 _ rfl) 8 (by decide) fl_X7_71 rfl (v := .int (iI (S 0))) (by rw [← show F 72 = S 0 from hd72]; rfl) dX7_hopes_6 ?_
      refine li_icmp_ge (tgt := 64) hC (by decide) (rg (by omega) (by omega)) (rg (by omega) (by omega)) dX7_hopes_9 (fun c2 => ?_) (fun c2 => ?_)
      · refine li_iload_n hC hl 1 rfl dX7_hopes_64 ?_
        exact hQ _ _ _ _ _ _ _ _ dX7_hopes_65 hS (by omega) (by omega) (⟨by rw [hz, show i = S 0 by omega], f, rfl, by rw [← show i = S 0 by omega]; exact hf⟩)
      · refine li_aload_n hC hl 0 rfl dX7_hopes_12 ?_
        refine li_iload_n hC hl 2 rfl dX7_hopes_13 ?_
        refine li_aload_n hC hl 0 rfl dX7_hopes_14 ?_
        refine li_iload_n hC hl 2 rfl dX7_hopes_15 ?_
        refine li_iconst hC dX7_hopes_16 ?_
        refine ro_callVi hC (c_X7_dearest l g ad F (va_up A 50 f) E tl S nm al vl i 0 hD hA hV hvr (by omega)) mk_X7_dearest ml_X7_92 (rr (by decide)) ⟨Nat.le_of_ble_eq_true rfl, Nat.le_of_ble_eq_true rfl⟩ hK.1 (hS.ro hK) hS.1 (li_recv hK.1 ck_X7 (hS.1 42 _ rfl)) rfl hl.1 rfl (Nat.le_of_ble_eq_true rfl) dX7_hopes_17 ?_
        have q3 := drS_rng al vl i 0
        refine ro_callVi hC (c_X7_valueOf l g ad F (va_up A 50 f) E tl S nm vl i (drS al vl i 0) hD hV (by omega) (by omega)) mk_X7_valueOf ml_X7_98 (rr (by decide)) ⟨Nat.le_of_ble_eq_true rfl, Nat.le_of_ble_eq_true rfl⟩ hK.1 (hS.ro hK) hS.1 (li_recv hK.1 ck_X7 (hS.1 42 _ rfl)) rfl hl.1 rfl (Nat.le_of_ble_eq_true rfl) dX7_hopes_20 ?_
        have q4 : -110000 ≤ (if (drS al vl i 0) = 4 then 0 else vl i (drS al vl i 0)) ∧ (if (drS al vl i 0) = 4 then 0 else vl i (drS al vl i 0)) ≤ 110000 := by have := hvr i (drS al vl i 0); split <;> omega
        refine li_istore_n hC (lv' := [(3, .int (iI (if (drS al vl i 0) = 4 then 0 else vl i (drS al vl i 0)))), (0, .ref (ad 42)), (1, .int (iI z)), (2, .int (iI i))]) hl (by decide) rfl dX7_hopes_23 (fun ls hl => ?_)
        refine li_aload_n hC hl 1 rfl dX7_hopes_24 ?_
        refine li_get hC hK.1 ck_X7 (hS.1 42 _ rfl) 1 (by decide) fl_X7_14 rfl (v := .ref (ad 43)) rfl dX7_hopes_25 ?_
        refine li_iload_n hC hl 3 rfl dX7_hopes_28 ?_
        refine ro_callVi hC (c_X6_get l g (ws := CW g ad F (va_up A 50 f) E tl) (i := 43) (j := 44) (a := (ad 43)) (b := (ad 44)) (n := 7) (f := (A 44)) (sz := F 43) rfl rfl (Nat.le_of_ble_eq_true rfl) (k := i) ⟨by omega, by omega⟩) mk_X6_get ml_X7_39 (rr (by decide)) ⟨Nat.zero_le _, Nat.zero_le _⟩ hK.1 (hS.ro hK) hS.1 (li_recv hK.1 ck_X6 (hS.1 43 _ rfl)) rfl hl.1 rfl (Nat.le_of_ble_eq_true rfl) dX7_hopes_29 ?_
        rw [hA i (by omega) (by omega)]
        refine li_iconst hC dX7_hopes_32 ?_
        refine ro_callSN hC (c_X11_hasBit l g (al i) 4) mk_X11_hasBit (fun U h => h.2.2.1) (rr (by decide)) ⟨Nat.zero_le _, Nat.zero_le _⟩ hK.1 (hS.ro hK) trivial rfl hl.1 rfl (Nat.le_of_ble_eq_true rfl) dX7_hopes_33 ?_
        refine li_ifeq_b (tgt := 45) hC (by decide) dX7_hopes_36 (fun c5 => ?_) (fun c5 => ?_)
        · refine li_aload_n hC hl 1 rfl dX7_hopes_45 ?_
          refine li_get hC hK.1 ck_X7 (hS.1 42 _ rfl) 4 (by decide) fl_X7_26 rfl (v := .ref (ad 49)) rfl dX7_hopes_46 ?_
          refine li_iload_n hC hl 3 rfl dX7_hopes_49 ?_
          refine li_iload_n hC hl 0 rfl dX7_hopes_50 ?_
          refine wr_callVv hC (c_X6_set l g (ws := CW g ad F (va_up A 50 f) E tl) (i := 49) (j := 50) (a := (ad 49)) (b := (ad 50)) (n := 7) (f := f) (sz := F 49) rfl rfl (Nat.le_of_ble_eq_true rfl) (k := i) (v := if (drS al vl i 0) = 4 then 0 else vl i (drS al vl i 0)) ⟨by omega, by omega⟩ (ws2 := CW g ad F (va_up A 50 (va_up f i.toNat (if (drS al vl i 0) = 4 then 0 else vl i (drS al vl i 0)))) E tl) rfl _) mk_X6_set ml_X7_74 (rr (by decide)) ⟨by simp only [rmC]; omega, by simp only [rmC]; omega⟩ hK hS (li_recv hK.1 ck_X6 (hS.1 49 _ rfl)) rfl hl.1 rfl (Nat.le_of_ble_eq_true rfl) dX7_hopes_51 (fun w H locs hpx hS => ?_)
          subst hpx
          refine li_iload_n hC hl 2 rfl dX7_hopes_54 ?_
          refine li_iload_n hC hl 0 rfl dX7_hopes_55 ?_
          refine li_iadd hC dX7_hopes_56 ?_
          refine li_istore_n hC (lv' := [(1, .int (iI (z + (if (drS al vl i 0) = 4 then 0 else vl i (drS al vl i 0))))), (3, .int (iI (if (drS al vl i 0) = 4 then 0 else vl i (drS al vl i 0)))), (0, .ref (ad 42)), (2, .int (iI i))]) hl (by decide) rfl dX7_hopes_57 (fun ls hl => ?_)
          refine li_iinc hC (lv' := [(2, .int (iI (i + 1))), (1, .int (iI (z + (if (drS al vl i 0) = 4 then 0 else vl i (drS al vl i 0))))), (3, .int (iI (if (drS al vl i 0) = 4 then 0 else vl i (drS al vl i 0)))), (0, .ref (ad 42))]) hl 3 rfl (by decide) rfl dX7_hopes_58 (fun ls hl => ?_)
          refine li_goto (tgt := 4) hC (by decide) dX7_hopes_61 ?_
          exact ih4 (i + 1) (z + (if (drS al vl i 0) = 4 then 0 else vl i (drS al vl i 0))) (va_up f i.toNat (if (drS al vl i 0) = 4 then 0 else vl i (drS al vl i 0))) _ _ _ hS (lv_sub hl [3, 1, 0] rfl) (by omega) (by have e9 : topS al vl i = _ := iteP_f c5; rw [hz, show (i + 1).toNat = i.toNat + 1 by omega]; show _ = sumI (topS al vl) i.toNat + topS al vl ((i.toNat : Nat) : Int); rw [show ((i.toNat : Nat) : Int) = i by omega, e9]) (by have e9 : topS al vl i = _ := iteP_f c5; intro j h0 h1; rcases (show j < i ∨ j = i by omega) with q | q; { rw [up_ne _ _ (by omega)]; exact hf j h0 q }; { rw [q, up_same, e9] }) (by omega)
        · refine li_iload_n hC hl 0 rfl dX7_hopes_39 ?_
          refine li_iconst hC dX7_hopes_40 ?_
          refine ro_callSi hC (c_J9_max_7cf53 l g (if (drS al vl i 0) = 4 then 0 else vl i (drS al vl i 0)) 0 (rg (by omega) (by omega)) (rg (by decide) (by decide))) mk_J9_max_7cf53 ml_X7_134 (rr (by decide)) ⟨Nat.le_of_ble_eq_true rfl, Nat.le_of_ble_eq_true rfl⟩ hK.1 (hS.ro hK) trivial rfl hl.1 rfl (Nat.le_of_ble_eq_true rfl) dX7_hopes_41 ?_
          refine li_istore_n hC (lv' := [(3, .int (iI (if (if (drS al vl i 0) = 4 then 0 else vl i (drS al vl i 0)) < 0 then 0 else (if (drS al vl i 0) = 4 then 0 else vl i (drS al vl i 0))))), (0, .ref (ad 42)), (1, .int (iI z)), (2, .int (iI i))]) hl (by decide) rfl dX7_hopes_44 (fun ls hl => ?_)
          refine li_aload_n hC hl 1 rfl dX7_hopes_45 ?_
          refine li_get hC hK.1 ck_X7 (hS.1 42 _ rfl) 4 (by decide) fl_X7_26 rfl (v := .ref (ad 49)) rfl dX7_hopes_46 ?_
          refine li_iload_n hC hl 3 rfl dX7_hopes_49 ?_
          refine li_iload_n hC hl 0 rfl dX7_hopes_50 ?_
          refine wr_callVv hC (c_X6_set l g (ws := CW g ad F (va_up A 50 f) E tl) (i := 49) (j := 50) (a := (ad 49)) (b := (ad 50)) (n := 7) (f := f) (sz := F 49) rfl rfl (Nat.le_of_ble_eq_true rfl) (k := i) (v := if (if (drS al vl i 0) = 4 then 0 else vl i (drS al vl i 0)) < 0 then 0 else (if (drS al vl i 0) = 4 then 0 else vl i (drS al vl i 0))) ⟨by omega, by omega⟩ (ws2 := CW g ad F (va_up A 50 (va_up f i.toNat (if (if (drS al vl i 0) = 4 then 0 else vl i (drS al vl i 0)) < 0 then 0 else (if (drS al vl i 0) = 4 then 0 else vl i (drS al vl i 0))))) E tl) rfl _) mk_X6_set ml_X7_74 (rr (by decide)) ⟨by simp only [rmC]; omega, by simp only [rmC]; omega⟩ hK hS (li_recv hK.1 ck_X6 (hS.1 49 _ rfl)) rfl hl.1 rfl (Nat.le_of_ble_eq_true rfl) dX7_hopes_51 (fun w H locs hpx hS => ?_)
          subst hpx
          refine li_iload_n hC hl 2 rfl dX7_hopes_54 ?_
          refine li_iload_n hC hl 0 rfl dX7_hopes_55 ?_
          refine li_iadd hC dX7_hopes_56 ?_
          refine li_istore_n hC (lv' := [(1, .int (iI (z + (if (if (drS al vl i 0) = 4 then 0 else vl i (drS al vl i 0)) < 0 then 0 else (if (drS al vl i 0) = 4 then 0 else vl i (drS al vl i 0)))))), (3, .int (iI (if (if (drS al vl i 0) = 4 then 0 else vl i (drS al vl i 0)) < 0 then 0 else (if (drS al vl i 0) = 4 then 0 else vl i (drS al vl i 0))))), (0, .ref (ad 42)), (2, .int (iI i))]) hl (by decide) rfl dX7_hopes_57 (fun ls hl => ?_)
          refine li_iinc hC (lv' := [(2, .int (iI (i + 1))), (1, .int (iI (z + (if (if (drS al vl i 0) = 4 then 0 else vl i (drS al vl i 0)) < 0 then 0 else (if (drS al vl i 0) = 4 then 0 else vl i (drS al vl i 0)))))), (3, .int (iI (if (if (drS al vl i 0) = 4 then 0 else vl i (drS al vl i 0)) < 0 then 0 else (if (drS al vl i 0) = 4 then 0 else vl i (drS al vl i 0))))), (0, .ref (ad 42))]) hl 3 rfl (by decide) rfl dX7_hopes_58 (fun ls hl => ?_)
          refine li_goto (tgt := 4) hC (by decide) dX7_hopes_61 ?_
          exact ih4 (i + 1) (z + (if (if (drS al vl i 0) = 4 then 0 else vl i (drS al vl i 0)) < 0 then 0 else (if (drS al vl i 0) = 4 then 0 else vl i (drS al vl i 0)))) (va_up f i.toNat (if (if (drS al vl i 0) = 4 then 0 else vl i (drS al vl i 0)) < 0 then 0 else (if (drS al vl i 0) = 4 then 0 else vl i (drS al vl i 0)))) _ _ _ hS (lv_sub hl [3, 1, 0] rfl) (by omega) (by have e9 : topS al vl i = _ := iteP_t c5; rw [hz, show (i + 1).toNat = i.toNat + 1 by omega]; show _ = sumI (topS al vl) i.toNat + topS al vl ((i.toNat : Nat) : Int); rw [show ((i.toNat : Nat) : Int) = i by omega, e9]) (by have e9 : topS al vl i = _ := iteP_t c5; intro j h0 h1; rcases (show j < i ∨ j = i by omega) with q | q; { rw [up_ne _ _ (by omega)]; exact hf j h0 q }; { rw [q, up_same, e9] }) (by omega)
  exact L4_1 (((S 0 - 0).toNat) + 1) 0 0 (A 50) _ _ _ hS (lv_sub hl [2, 1, 0] rfl) (by omega) (by rfl) (by intro j h0 h1; omega) (by omega)
set_option maxHeartbeats 4000000 in
set_option maxRecDepth 100000 in
theorem c_X7_begin (l : Launch) (g : GG) (ad : Nat → Nat) (F : Nat → Int) (A : Nat → Nat → Int) (E : Nat → Nat) (tl : va_W) (S : Nat → Int) (nm : Nat → Nat) (hSh : ShW g ad F A E tl S nm) (hI : InvD S) (wd0 : Int) (hwd : 10 ≤ wd0 ∧ wd0 ≤ 30) (sz : Nat) : MwrV l g yX7_begin cX7_begin 4 9 0 0 [.ref (ad 42), .int (iI wd0)] sz (CW g ad F A E tl) (fun w => ∃ f44 f46 f48 : Nat → Int, w = CW g ad (va_up (va_up (va_up (va_up F 71 0) 72 (S 0)) 73 0) 74 0) (va_up (va_up (va_up A 44 f44) 46 f46) 48 f48) E tl ∧ (∀ i : Int, 0 ≤ i → i < S 0 → f44 i.toNat = setB (fun p => fitsS S i p wd0) 4) ∧ (∀ i p : Int, 0 ≤ i → i < S 0 → 0 ≤ p → p ≤ 3 → f46 ((i * 4) + p).toNat = 0) ∧ (∀ i p : Int, 0 ≤ i → i < S 0 → 0 ≤ p → p ≤ 3 → f48 ((i * 4) + p).toNat = setB (clP S i p) (4 * S 0).toNat)) := by
  refine wr_startV (own := RX7) (by decide) rfl (Nat.le_of_ble_eq_true rfl) ?_
  intro Pg Ev s Mi args below Mt Cd ls Q Aw hC hK hS hnm hl hQ
  have hSh0 := hSh
  obtain ⟨hTp, hCd, hNs, hWh, hRw, hSn, hPl, hBk, hMp⟩ := hSh0
  have hNm := hNs.2.2
  have hD0 := hI.1
  have hNs0 := hNs.1
  have hl : lv_has ls 4 [(0, .ref (ad 42)), (1, .int (iI wd0))] := hl
  obtain ⟨H, hH⟩ : ∃ H, H = s.heap := ⟨_, rfl⟩
  obtain ⟨locs, hlo⟩ : ∃ locs : List Loc, locs = [] := ⟨_, rfl⟩
  have hS : St g Aw s.heap H locs (CW g ad F A E tl) := by rw [hH, hlo]; exact hS
  have goal : W Pg l Ev (rmC 9 0 0) s Mi args below Mt Cd H locs 0 0 Q (F0 Mi 0 ls []) := ?goal
  · rw [hH, hlo] at goal; exact goal
  clear hH hlo
  refine li_aload_n hC hl 0 rfl dX7_begin_0 ?_
  refine li_aload_n hC hl 0 rfl dX7_begin_1 ?_
  refine li_get hC hK.1 ck_X7 (hS.1 42 _ rfl) 0 (by decide) fl_X7_35 rfl (v := .ref (ad 3)) rfl dX7_begin_2 ?_
  refine ro_callVi hC (c_X8_dots l g ad F A E tl S nm hSh hI) mk_X8_dots ml_X7_108 (rr (by decide)) ⟨Nat.le_of_ble_eq_true rfl, Nat.le_of_ble_eq_true rfl⟩ hK.1 (hS.ro hK) hS.1 (li_recv hK.1 ck_X8 (hS.1 3 _ rfl)) rfl hl.1 rfl (Nat.le_of_ble_eq_true rfl) dX7_begin_5 ?_
  refine li_bipush hC (z := 7) rfl dX7_begin_8 ?_
  refine ro_callSi hC (c_J9_min_7cf53 l g (S 0) 7 (rg (by omega) (by omega)) (rg (by decide) (by decide))) mk_J9_min_7cf53 ml_X7_110 (rr (by decide)) ⟨Nat.le_of_ble_eq_true rfl, Nat.le_of_ble_eq_true rfl⟩ hK.1 (hS.ro hK) trivial rfl hl.1 rfl (Nat.le_of_ble_eq_true rfl) dX7_begin_10 ?_
  rw [show (if 7 < (S 0) then 7 else (S 0)) = S 0 by split <;> omega]
  refine li_put hC hK hS ck_X7 42 rfl 8 (by decide) fl_X7_71 rfl rfl (v := .int (iI (S 0))) rfl rfl (Nat.le_of_ble_eq_true rfl) (ws' := CW g ad (va_up F 72 (S 0)) A E tl) rfl dX7_begin_13 (fun H locs hS => ?_)
  refine li_aload_n hC hl 0 rfl dX7_begin_16 ?_
  refine li_iconst hC dX7_begin_17 ?_
  refine li_put hC hK hS ck_X7 42 rfl 7 (by decide) fl_X7_81 rfl rfl (v := .int (iI 0)) (nar_01 (Or.inl rfl)) (fit_01 (Or.inl rfl)) (Nat.le_of_ble_eq_true rfl) (ws' := CW g ad (va_up (va_up F 71 0) 72 (S 0)) A E tl) rfl dX7_begin_18 (fun H locs hS => ?_)
  refine li_aload_n hC hl 0 rfl dX7_begin_21 ?_
  refine li_iconst hC dX7_begin_22 ?_
  refine li_put hC hK hS ck_X7 42 rfl 9 (by decide) fl_X7_47 rfl rfl (v := .int (iI 0)) rfl rfl (Nat.le_of_ble_eq_true rfl) (ws' := CW g ad (va_up (va_up (va_up F 71 0) 72 (S 0)) 73 0) A E tl) rfl dX7_begin_23 (fun H locs hS => ?_)
  refine li_aload_n hC hl 0 rfl dX7_begin_26 ?_
  refine li_iconst hC dX7_begin_27 ?_
  refine li_put hC hK hS ck_X7 42 rfl 10 (by decide) fl_X7_43 rfl rfl (v := .int (iI 0)) rfl rfl (Nat.le_of_ble_eq_true rfl) (ws' := CW g ad (va_up (va_up (va_up (va_up F 71 0) 72 (S 0)) 73 0) 74 0) A E tl) rfl dX7_begin_28 (fun H locs hS => ?_)
  refine li_iconst hC dX7_begin_31 ?_
  refine li_istore_n hC (lv' := [(2, .int (iI 0)), (0, .ref (ad 42)), (1, .int (iI wd0))]) hl (by decide) rfl dX7_begin_32 (fun ls hl => ?_)
  have L33_1 : ∀ (fuel : Nat) (i : Int) (f44 : Nat → Int) (f46 : Nat → Int) (f48 : Nat → Int) (ls : Array Slot) (H : Heap) (locs : List Loc), St g Aw s.heap H locs (CW g ad (va_up (va_up (va_up (va_up F 71 0) 72 (S 0)) 73 0) 74 0) (va_up (va_up (va_up A 44 f44) 46 f46) 48 f48) E tl) → lv_has ls 4 [(0, .ref (ad 42)), (1, .int (iI wd0)), (2, .int (iI i))] → (0 ≤ i ∧ i ≤ S 0) → (∀ j : Int, 0 ≤ j → j < i → f44 j.toNat = setB (fun p => fitsS S j p wd0) 4) → (∀ j q : Int, 0 ≤ j → (j < i) → 0 ≤ q → q ≤ 3 → f46 ((j * 4) + q).toNat = 0) → (∀ j q : Int, 0 ≤ j → (j < i) → 0 ≤ q → q ≤ 3 → f48 ((j * 4) + q).toNat = setB (clP S j q) (4 * S 0).toNat) → ((S 0 - i).toNat) < fuel → W Pg l Ev (rmC 9 0 0) s Mi args below Mt Cd H locs 0 0 Q (F0 Mi 33 ls []) := by
    intro fuel
    induction fuel with
    | zero => intro i f44 f46 f48 ls H locs hS hl hi h44 h46 h48 hm; exact absurd hm (Nat.not_lt_zero _)
    | succ fuel ih33 =>
      intro i f44 f46 f48 ls H locs hS hl hi h44 h46 h48 hm
      refine li_iload_n hC hl 2 rfl dX7_begin_33 ?_
      refine li_aload_n hC hl 0 rfl dX7_begin_34 ?_
      refine li_get hC hK.1 ck_X7 (hS.1 42 _ rfl) 8 (by decide) fl_X7_71 rfl (v := .int (iI (S 0))) rfl dX7_begin_35 ?_
      refine li_icmp_ge (tgt := 108) hC (by decide) (rg (by omega) (by omega)) (rg (by omega) (by omega)) dX7_begin_38 (fun c2 => ?_) (fun c2 => ?_)
      · exact hQ _ _ _ _ _ _ _ dX7_begin_108 hS (by omega) (by omega) (⟨f44, f46, f48, rfl, by rw [← show i = S 0 by omega]; exact h44, fun j q j0 hj q0 q1 => h46 j q j0 (by omega) q0 q1, fun j q j0 hj q0 q1 => h48 j q j0 (by omega) q0 q1⟩)
      · refine li_aload_n hC hl 0 rfl dX7_begin_41 ?_
        refine li_get hC hK.1 ck_X7 (hS.1 42 _ rfl) 1 (by decide) fl_X7_14 rfl (v := .ref (ad 43)) rfl dX7_begin_42 ?_
        refine li_iload_n hC hl 2 rfl dX7_begin_45 ?_
        refine li_aload_n hC hl 0 rfl dX7_begin_46 ?_
        refine li_get hC hK.1 ck_X7 (hS.1 42 _ rfl) 0 (by decide) fl_X7_35 rfl (v := .ref (ad 3)) rfl dX7_begin_47 ?_
        refine li_iload_n hC hl 2 rfl dX7_begin_50 ?_
        refine li_iload_n hC hl 1 rfl dX7_begin_51 ?_
        refine ro_callVi hC (c_X8_fitting l g ad (va_up (va_up (va_up (va_up F 71 0) 72 (S 0)) 73 0) 74 0) (va_up (va_up (va_up A 44 f44) 46 f46) 48 f48) E tl S nm hSh hI i wd0 (by omega) (by omega)) mk_X8_fitting ml_X7_113 (rr (by decide)) ⟨Nat.le_of_ble_eq_true rfl, Nat.le_of_ble_eq_true rfl⟩ hK.1 (hS.ro hK) hS.1 (li_recv hK.1 ck_X8 (hS.1 3 _ rfl)) rfl hl.1 rfl (Nat.le_of_ble_eq_true rfl) dX7_begin_52 ?_
        refine wr_callVv hC (c_X6_set l g (ws := CW g ad (va_up (va_up (va_up (va_up F 71 0) 72 (S 0)) 73 0) 74 0) (va_up (va_up (va_up A 44 f44) 46 f46) 48 f48) E tl) (i := 43) (j := 44) (a := (ad 43)) (b := (ad 44)) (n := 7) (f := f44) (sz := F 43) rfl rfl (Nat.le_of_ble_eq_true rfl) (k := i) (v := setB (fun p => fitsS S i p wd0) 4) ⟨by omega, by omega⟩ (ws2 := CW g ad (va_up (va_up (va_up (va_up F 71 0) 72 (S 0)) 73 0) 74 0) (va_up (va_up (va_up A 44 (va_up f44 i.toNat (setB (fun p => fitsS S i p wd0) 4))) 46 f46) 48 f48) E tl) rfl _) mk_X6_set ml_X7_74 (rr (by decide)) ⟨by simp only [rmC]; omega, by simp only [rmC]; omega⟩ hK hS (li_recv hK.1 ck_X6 (hS.1 43 _ rfl)) rfl hl.1 rfl (Nat.le_of_ble_eq_true rfl) dX7_begin_55 (fun w H locs hpx hS => ?_)
        subst hpx
        refine li_iconst hC dX7_begin_58 ?_
        refine li_istore_n hC (lv' := [(3, .int (iI 0)), (0, .ref (ad 42)), (1, .int (iI wd0)), (2, .int (iI i))]) hl (by decide) rfl dX7_begin_59 (fun ls hl => ?_)
        have L60_3 : ∀ (fuel : Nat) (p : Int) (g46 : Nat → Int) (g48 : Nat → Int) (ls : Array Slot) (H : Heap) (locs : List Loc), St g Aw s.heap H locs (CW g ad (va_up (va_up (va_up (va_up F 71 0) 72 (S 0)) 73 0) 74 0) (va_up (va_up (va_up A 44 (va_up f44 i.toNat (setB (fun p => fitsS S i p wd0) 4))) 46 g46) 48 g48) E tl) → lv_has ls 4 [(0, .ref (ad 42)), (1, .int (iI wd0)), (2, .int (iI i)), (3, .int (iI p))] → (0 ≤ p ∧ p ≤ 4) → (∀ j q : Int, 0 ≤ j → (j < i ∨ (j = i ∧ q < p)) → 0 ≤ q → q ≤ 3 → g46 ((j * 4) + q).toNat = 0) → (∀ j q : Int, 0 ≤ j → (j < i ∨ (j = i ∧ q < p)) → 0 ≤ q → q ≤ 3 → g48 ((j * 4) + q).toNat = setB (clP S j q) (4 * S 0).toNat) → (((4 : Int) - p).toNat) < fuel → W Pg l Ev (rmC 9 0 0) s Mi args below Mt Cd H locs 0 0 Q (F0 Mi 60 ls []) := by
          intro fuel
          induction fuel with
          | zero => intro p g46 g48 ls H locs hS hl hp k46 k48 hm; exact absurd hm (Nat.not_lt_zero _)
          | succ fuel ih60 =>
            intro p g46 g48 ls H locs hS hl hp k46 k48 hm
            refine li_iload_n hC hl 3 rfl dX7_begin_60 ?_
            refine li_iconst hC dX7_begin_61 ?_
            refine li_icmp_ge (tgt := 102) hC (by decide) (rg (by omega) (by omega)) (rg (by decide) (by decide)) dX7_begin_62 (fun c4 => ?_) (fun c4 => ?_)
            · refine li_iinc hC (lv' := [(2, .int (iI (i + 1))), (0, .ref (ad 42)), (1, .int (iI wd0)), (3, .int (iI p))]) hl 2 rfl (by decide) rfl dX7_begin_102 (fun ls hl => ?_)
              refine li_goto (tgt := 33) hC (by decide) dX7_begin_105 ?_
              exact ih33 (i + 1) (va_up f44 i.toNat (setB (fun p => fitsS S i p wd0) 4)) g46 g48 _ _ _ hS (lv_sub hl [1, 2, 0] rfl) (by omega) (by intro j h0 h1; rcases (show j < i ∨ j = i by omega) with e | e; { rw [up_ne _ _ (by omega)]; exact h44 j h0 e }; { rw [e, up_same] }) (by intro j q j0 hj q0 q1; exact k46 j q j0 (by omega) q0 q1) (by intro j q j0 hj q0 q1; exact k48 j q j0 (by omega) q0 q1) (by omega)
            · refine li_aload_n hC hl 0 rfl dX7_begin_65 ?_
              refine li_get hC hK.1 ck_X7 (hS.1 42 _ rfl) 2 (by decide) fl_X7_20 rfl (v := .ref (ad 45)) rfl dX7_begin_66 ?_
              refine li_iload_n hC hl 2 rfl dX7_begin_69 ?_
              refine li_iconst hC dX7_begin_70 ?_
              refine li_imul hC dX7_begin_71 ?_
              refine li_iload_n hC hl 3 rfl dX7_begin_72 ?_
              refine li_iadd hC dX7_begin_73 ?_
              refine li_iconst hC dX7_begin_74 ?_
              refine wr_callVv hC (c_X6_set l g (ws := CW g ad (va_up (va_up (va_up (va_up F 71 0) 72 (S 0)) 73 0) 74 0) (va_up (va_up (va_up A 44 (va_up f44 i.toNat (setB (fun p => fitsS S i p wd0) 4))) 46 g46) 48 g48) E tl) (i := 45) (j := 46) (a := (ad 45)) (b := (ad 46)) (n := 28) (f := g46) (sz := F 45) rfl rfl (Nat.le_of_ble_eq_true rfl) (k := (i * 4) + p) (v := 0) ⟨by omega, by omega⟩ (ws2 := CW g ad (va_up (va_up (va_up (va_up F 71 0) 72 (S 0)) 73 0) 74 0) (va_up (va_up (va_up A 44 (va_up f44 i.toNat (setB (fun p => fitsS S i p wd0) 4))) 46 (va_up g46 (((i * 4) + p).toNat) 0)) 48 g48) E tl) rfl _) mk_X6_set ml_X7_74 (rr (by decide)) ⟨by simp only [rmC]; omega, by simp only [rmC]; omega⟩ hK hS (li_recv hK.1 ck_X6 (hS.1 45 _ rfl)) rfl hl.1 rfl (Nat.le_of_ble_eq_true rfl) dX7_begin_75 (fun w H locs hpx hS => ?_)
              subst hpx
              refine li_aload_n hC hl 0 rfl dX7_begin_78 ?_
              refine li_get hC hK.1 ck_X7 (hS.1 42 _ rfl) 3 (by decide) fl_X7_23 rfl (v := .ref (ad 47)) rfl dX7_begin_79 ?_
              refine li_iload_n hC hl 2 rfl dX7_begin_82 ?_
              refine li_iconst hC dX7_begin_83 ?_
              refine li_imul hC dX7_begin_84 ?_
              refine li_iload_n hC hl 3 rfl dX7_begin_85 ?_
              refine li_iadd hC dX7_begin_86 ?_
              refine li_aload_n hC hl 0 rfl dX7_begin_87 ?_
              refine li_iload_n hC hl 2 rfl dX7_begin_88 ?_
              refine li_iload_n hC hl 3 rfl dX7_begin_89 ?_
              refine ro_callVi hC (c_X7_clashing l g ad (va_up (va_up (va_up (va_up F 71 0) 72 (S 0)) 73 0) 74 0) (va_up (va_up (va_up A 44 (va_up f44 i.toNat (setB (fun p => fitsS S i p wd0) 4))) 46 (va_up g46 (((i * 4) + p).toNat) 0)) 48 g48) E tl S nm hSh hI i p rfl (by omega) (by omega)) mk_X7_clashing ml_X7_116 (rr (by decide)) ⟨Nat.le_of_ble_eq_true rfl, Nat.le_of_ble_eq_true rfl⟩ hK.1 (hS.ro hK) hS.1 (li_recv hK.1 ck_X7 (hS.1 42 _ rfl)) rfl hl.1 rfl (Nat.le_of_ble_eq_true rfl) dX7_begin_90 ?_
              refine wr_callVv hC (c_X6_set l g (ws := CW g ad (va_up (va_up (va_up (va_up F 71 0) 72 (S 0)) 73 0) 74 0) (va_up (va_up (va_up A 44 (va_up f44 i.toNat (setB (fun p => fitsS S i p wd0) 4))) 46 (va_up g46 (((i * 4) + p).toNat) 0)) 48 g48) E tl) (i := 47) (j := 48) (a := (ad 47)) (b := (ad 48)) (n := 28) (f := g48) (sz := F 47) rfl rfl (Nat.le_of_ble_eq_true rfl) (k := (i * 4) + p) (v := setB (clP S i p) (4 * S 0).toNat) ⟨by omega, by omega⟩ (ws2 := CW g ad (va_up (va_up (va_up (va_up F 71 0) 72 (S 0)) 73 0) 74 0) (va_up (va_up (va_up A 44 (va_up f44 i.toNat (setB (fun p => fitsS S i p wd0) 4))) 46 (va_up g46 (((i * 4) + p).toNat) 0)) 48 (va_up g48 (((i * 4) + p).toNat) (setB (clP S i p) (4 * S 0).toNat))) E tl) rfl _) mk_X6_set ml_X7_74 (rr (by decide)) ⟨by simp only [rmC]; omega, by simp only [rmC]; omega⟩ hK hS (li_recv hK.1 ck_X6 (hS.1 47 _ rfl)) rfl hl.1 rfl (Nat.le_of_ble_eq_true rfl) dX7_begin_93 (fun w H locs hpx hS => ?_)
              subst hpx
              refine li_iinc hC (lv' := [(3, .int (iI (p + 1))), (0, .ref (ad 42)), (1, .int (iI wd0)), (2, .int (iI i))]) hl 3 rfl (by decide) rfl dX7_begin_96 (fun ls hl => ?_)
              refine li_goto (tgt := 60) hC (by decide) dX7_begin_99 ?_
              exact ih60 (p + 1) (va_up g46 (((i * 4) + p).toNat) 0) (va_up g48 (((i * 4) + p).toNat) (setB (clP S i p) (4 * S 0).toNat)) _ _ _ hS (lv_sub hl [1, 2, 3, 0] rfl) (by omega) (by intro j q j0 hj q0 q1; rcases (show (j < i ∨ (j = i ∧ q < p)) ∨ (j = i ∧ q = p) by omega) with e | e; { rw [up_ne _ _ (by omega)]; exact k46 j q j0 e q0 q1 }; { rw [e.1, e.2, up_same] }) (by intro j q j0 hj q0 q1; rcases (show (j < i ∨ (j = i ∧ q < p)) ∨ (j = i ∧ q = p) by omega) with e | e; { rw [up_ne _ _ (by omega)]; exact k48 j q j0 e q0 q1 }; { rw [e.1, e.2, up_same] }) (by omega)
        exact L60_3 ((((4 : Int) - 0).toNat) + 1) 0 f46 f48 _ _ _ hS (lv_sub hl [1, 2, 3, 0] rfl) (by omega) (by intro j q j0 hj q0 q1; exact h46 j q j0 (by omega) q0 q1) (by intro j q j0 hj q0 q1; exact h48 j q j0 (by omega) q0 q1) (by omega)
  exact L33_1 (((S 0 - 0).toNat) + 1) 0 (A 44) (A 46) (A 48) _ _ _ hS (lv_sub hl [1, 2, 0] rfl) (by omega) (by intro j h0 h1; omega) (by intro j q h0 h1; omega) (by intro j q h0 h1; omega) (by omega)
set_option maxHeartbeats 4000000 in
set_option maxRecDepth 100000 in
theorem c_X7_value (l : Launch) (g : GG) (ad : Nat → Nat) (F : Nat → Int) (A : Nat → Nat → Int) (E : Nat → Nat) (tl : va_W) (S : Nat → Int) (nm : Nat → Nat) (hSh : ShW g ad F A E tl S nm) (hI : InvD S) (hH : InvH S) (hC0 : InvC S) (hG : InvG S) (b0 : Int) (hb0 : 0 ≤ b0 ∧ b0 ≤ 100000) (hd72 : F 72 = S 0) (sz : Nat) : MwrV l g yX7_value cX7_value 4 9 0 0 [.ref (ad 42), .int (iI b0)] sz (CW g ad F A E tl) (fun w => ∃ f46 : Nat → Int, w = CW g ad (va_up F 74 b0) (va_up A 46 f46) E tl ∧ (∀ i p : Int, 0 ≤ i → i < S 0 → 0 ≤ p → p ≤ 3 → f46 ((i * 4) + p).toNat = b0 + goodS S i p)) := by
  refine wr_startV (own := RX7) (by decide) rfl (Nat.le_of_ble_eq_true rfl) ?_
  intro Pg Ev s Mi args below Mt Cd ls Q Aw hC hK hS hnm hl hQ
  have hSh0 := hSh
  obtain ⟨hTp, hCd, hNs, hWh, hRw, hSn, hPl, hBk, hMp⟩ := hSh0
  have hNm := hNs.2.2
  have hD0 := hI.1
  have hNs0 := hNs.1
  have hl : lv_has ls 4 [(0, .ref (ad 42)), (1, .int (iI b0))] := hl
  obtain ⟨H, hH⟩ : ∃ H, H = s.heap := ⟨_, rfl⟩
  obtain ⟨locs, hlo⟩ : ∃ locs : List Loc, locs = [] := ⟨_, rfl⟩
  have hS : St g Aw s.heap H locs (CW g ad F A E tl) := by rw [hH, hlo]; exact hS
  have goal : W Pg l Ev (rmC 9 0 0) s Mi args below Mt Cd H locs 0 0 Q (F0 Mi 0 ls []) := ?goal
  · rw [hH, hlo] at goal; exact goal
  clear hH hlo
  refine li_aload_n hC hl 0 rfl dX7_value_0 ?_
  refine li_iload_n hC hl 1 rfl dX7_value_1 ?_
  refine li_put hC hK hS ck_X7 42 rfl 10 (by decide) fl_X7_43 rfl rfl (v := .int (iI b0)) rfl rfl (Nat.le_of_ble_eq_true rfl) (ws' := CW g ad (va_up F 74 b0) A E tl) rfl dX7_value_2 (fun H locs hS => ?_)
  refine li_iconst hC dX7_value_5 ?_
  refine li_istore_n hC (lv' := [(2, .int (iI 0)), (0, .ref (ad 42)), (1, .int (iI b0))]) hl (by decide) rfl dX7_value_6 (fun ls hl => ?_)
  have L7_1 : ∀ (fuel : Nat) (i : Int) (f46 : Nat → Int) (ls : Array Slot) (H : Heap) (locs : List Loc), St g Aw s.heap H locs (CW g ad (va_up F 74 b0) (va_up A 46 f46) E tl) → lv_has ls 4 [(0, .ref (ad 42)), (1, .int (iI b0)), (2, .int (iI i))] → (0 ≤ i ∧ i ≤ S 0) → (∀ j q : Int, 0 ≤ j → (j < i) → 0 ≤ q → q ≤ 3 → f46 ((j * 4) + q).toNat = b0 + goodS S j q) → ((S 0 - i).toNat) < fuel → W Pg l Ev (rmC 9 0 0) s Mi args below Mt Cd H locs 0 0 Q (F0 Mi 7 ls []) := by
    intro fuel
    induction fuel with
    | zero => intro i f46 ls H locs hS hl hi h46 hm; exact absurd hm (Nat.not_lt_zero _)
    | succ fuel ih7 =>
      intro i f46 ls H locs hS hl hi h46 hm
      refine li_iload_n hC hl 2 rfl dX7_value_7 ?_
      refine li_aload_n hC hl 0 rfl dX7_value_8 ?_
      refine li_get hC hK.1 ck_X7 (hS.1 42 _ rfl) 8 (by decide) fl_X7_71 rfl (v := .int (iI (S 0))) (by rw [← show F 72 = S 0 from hd72]; rfl) dX7_value_9 ?_
      refine li_icmp_ge (tgt := 57) hC (by decide) (rg (by omega) (by omega)) (rg (by omega) (by omega)) dX7_value_12 (fun c2 => ?_) (fun c2 => ?_)
      · exact hQ _ _ _ _ _ _ _ dX7_value_57 hS (by omega) (by omega) (⟨f46, rfl, fun j q j0 hj q0 q1 => h46 j q j0 (by omega) q0 q1⟩)
      · refine li_iconst hC dX7_value_15 ?_
        refine li_istore_n hC (lv' := [(3, .int (iI 0)), (0, .ref (ad 42)), (1, .int (iI b0)), (2, .int (iI i))]) hl (by decide) rfl dX7_value_16 (fun ls hl => ?_)
        have L17_3 : ∀ (fuel : Nat) (p : Int) (g46 : Nat → Int) (ls : Array Slot) (H : Heap) (locs : List Loc), St g Aw s.heap H locs (CW g ad (va_up F 74 b0) (va_up A 46 g46) E tl) → lv_has ls 4 [(0, .ref (ad 42)), (1, .int (iI b0)), (2, .int (iI i)), (3, .int (iI p))] → (0 ≤ p ∧ p ≤ 4) → (∀ j q : Int, 0 ≤ j → (j < i ∨ (j = i ∧ q < p)) → 0 ≤ q → q ≤ 3 → g46 ((j * 4) + q).toNat = b0 + goodS S j q) → (((4 : Int) - p).toNat) < fuel → W Pg l Ev (rmC 9 0 0) s Mi args below Mt Cd H locs 0 0 Q (F0 Mi 17 ls []) := by
          intro fuel
          induction fuel with
          | zero => intro p g46 ls H locs hS hl hp k46 hm; exact absurd hm (Nat.not_lt_zero _)
          | succ fuel ih17 =>
            intro p g46 ls H locs hS hl hp k46 hm
            refine li_iload_n hC hl 3 rfl dX7_value_17 ?_
            refine li_iconst hC dX7_value_18 ?_
            refine li_icmp_ge (tgt := 51) hC (by decide) (rg (by omega) (by omega)) (rg (by decide) (by decide)) dX7_value_19 (fun c4 => ?_) (fun c4 => ?_)
            · refine li_iinc hC (lv' := [(2, .int (iI (i + 1))), (0, .ref (ad 42)), (1, .int (iI b0)), (3, .int (iI p))]) hl 2 rfl (by decide) rfl dX7_value_51 (fun ls hl => ?_)
              refine li_goto (tgt := 7) hC (by decide) dX7_value_54 ?_
              exact ih7 (i + 1) g46 _ _ _ hS (lv_sub hl [1, 2, 0] rfl) (by omega) (by intro j q j0 hj q0 q1; exact k46 j q j0 (by omega) q0 q1) (by omega)
            · refine li_aload_n hC hl 0 rfl dX7_value_22 ?_
              refine li_get hC hK.1 ck_X7 (hS.1 42 _ rfl) 2 (by decide) fl_X7_20 rfl (v := .ref (ad 45)) rfl dX7_value_23 ?_
              refine li_iload_n hC hl 2 rfl dX7_value_26 ?_
              refine li_iconst hC dX7_value_27 ?_
              refine li_imul hC dX7_value_28 ?_
              refine li_iload_n hC hl 3 rfl dX7_value_29 ?_
              refine li_iadd hC dX7_value_30 ?_
              refine li_iload_n hC hl 1 rfl dX7_value_31 ?_
              refine li_aload_n hC hl 0 rfl dX7_value_32 ?_
              refine li_get hC hK.1 ck_X7 (hS.1 42 _ rfl) 0 (by decide) fl_X7_35 rfl (v := .ref (ad 3)) rfl dX7_value_33 ?_
              refine li_iload_n hC hl 2 rfl dX7_value_36 ?_
              refine li_iload_n hC hl 3 rfl dX7_value_37 ?_
              refine ro_callVi hC (c_X8_goodness l g ad (va_up F 74 b0) (va_up A 46 g46) E tl S nm hSh hI i p hH hC0 hG (by omega) (by omega)) mk_X8_goodness ml_X7_123 (rr (by decide)) ⟨Nat.le_of_ble_eq_true rfl, Nat.le_of_ble_eq_true rfl⟩ hK.1 (hS.ro hK) hS.1 (li_recv hK.1 ck_X8 (hS.1 3 _ rfl)) rfl hl.1 rfl (Nat.le_of_ble_eq_true rfl) dX7_value_38 ?_
              have q5 := goodS_rng hC0 i p
              refine li_iadd hC dX7_value_41 ?_
              refine wr_callVv hC (c_X6_set l g (ws := CW g ad (va_up F 74 b0) (va_up A 46 g46) E tl) (i := 45) (j := 46) (a := (ad 45)) (b := (ad 46)) (n := 28) (f := g46) (sz := F 45) rfl rfl (Nat.le_of_ble_eq_true rfl) (k := (i * 4) + p) (v := b0 + (goodS S i p)) ⟨by omega, by omega⟩ (ws2 := CW g ad (va_up F 74 b0) (va_up A 46 (va_up g46 (((i * 4) + p).toNat) (b0 + (goodS S i p)))) E tl) rfl _) mk_X6_set ml_X7_74 (rr (by decide)) ⟨by simp only [rmC]; omega, by simp only [rmC]; omega⟩ hK hS (li_recv hK.1 ck_X6 (hS.1 45 _ rfl)) rfl hl.1 rfl (Nat.le_of_ble_eq_true rfl) dX7_value_42 (fun w H locs hpx hS => ?_)
              subst hpx
              refine li_iinc hC (lv' := [(3, .int (iI (p + 1))), (0, .ref (ad 42)), (1, .int (iI b0)), (2, .int (iI i))]) hl 3 rfl (by decide) rfl dX7_value_45 (fun ls hl => ?_)
              refine li_goto (tgt := 17) hC (by decide) dX7_value_48 ?_
              exact ih17 (p + 1) (va_up g46 (((i * 4) + p).toNat) (b0 + (goodS S i p))) _ _ _ hS (lv_sub hl [1, 2, 3, 0] rfl) (by omega) (by intro j q j0 hj q0 q1; rcases (show (j < i ∨ (j = i ∧ q < p)) ∨ (j = i ∧ q = p) by omega) with e | e; { rw [up_ne _ _ (by omega)]; exact k46 j q j0 e q0 q1 }; { rw [e.1, e.2, up_same] }) (by omega)
        exact L17_3 ((((4 : Int) - 0).toNat) + 1) 0 f46 _ _ _ hS (lv_sub hl [1, 2, 3, 0] rfl) (by omega) (by intro j q j0 hj q0 q1; exact h46 j q j0 (by omega) q0 q1) (by omega)
  exact L7_1 (((S 0 - 0).toNat) + 1) 0 (A 46) _ _ _ hS (lv_sub hl [1, 2, 0] rfl) (by omega) (by intro j q h0 h1; omega) (by omega)
set_option maxHeartbeats 4000000 in
set_option maxRecDepth 100000 in
theorem c_X7_goWays (l : Launch) (g : GG) (ad : Nat → Nat) (F : Nat → Int) (A : Nat → Nat → Int) (E : Nat → Nat) (tl : va_W) (S : Nat → Int) (nm : Nat → Nat) (al : Int → Int) (vl : Int → Int → Int) (hD : 0 ≤ S 0 ∧ S 0 ≤ 7) (hA : AlP S A al) (hV : VlP S A vl) (hCl : ClW S A) (hvr : ∀ i p : Int, -110000 ≤ vl i p ∧ vl i p ≤ 110000) (hd72 : F 72 = S 0) (har : ∀ i : Int, 0 ≤ i → i < S 0 → 0 ≤ al i ∧ al i ≤ 31) (sz : Nat) : MwrV l g yX7_goWays cX7_goWays 2 21 0 0 [.ref (ad 42)] sz (CW g ad (va_up (va_up F 71 0) 73 0) A E tl) (fun w => ∃ (f50 : Nat → Int) (s3b : Int) (nwb fdb : Nat → Int), w = CW g ad (va_up (va_up (va_up F 53 s3b) 71 (foldG vl (cmp (okB S al) (S 0).toNat []) (0, 0, A 54)).1) 73 (foldG vl (cmp (okB S al) (S 0).toNat []) (0, 0, A 54)).2.1) (va_up (va_up (va_up A 50 f50) 52 nwb) 54 fdb) E tl ∧ (∀ k : Nat, (k : Int) < S 0 → fdb k = (foldG vl (cmp (okB S al) (S 0).toNat []) (0, 0, A 54)).2.2 k)) := by
  refine wr_startV (own := RX7) (by decide) rfl (Nat.le_of_ble_eq_true rfl) ?_
  intro Pg Ev s Mi args below Mt Cd ls Q Aw hC hK hS hnm hl hQ
  have hl : lv_has ls 2 [(0, .ref (ad 42))] := hl
  obtain ⟨H, hH⟩ : ∃ H, H = s.heap := ⟨_, rfl⟩
  obtain ⟨locs, hlo⟩ : ∃ locs : List Loc, locs = [] := ⟨_, rfl⟩
  have hS : St g Aw s.heap H locs (CW g ad (va_up (va_up F 71 0) 73 0) A E tl) := by rw [hH, hlo]; exact hS
  have goal : W Pg l Ev (rmC 21 0 0) s Mi args below Mt Cd H locs 0 0 Q (F0 Mi 0 ls []) := ?goal
  · rw [hH, hlo] at goal; exact goal
  clear hH hlo
  refine li_iconst hC dX7_goWays_0 ?_
  refine li_istore_n hC (lv' := [(1, .int (iI 0)), (0, .ref (ad 42))]) hl (by decide) rfl dX7_goWays_1 (fun ls hl => ?_)
  have L2_1 : ∀ (fuel : Nat) (i : Int) (ls : Array Slot) (H : Heap) (locs : List Loc), St g Aw s.heap H locs (CW g ad (va_up (va_up F 71 0) 73 0) A E tl) → lv_has ls 2 [(0, .ref (ad 42)), (1, .int (iI i))] → (0 ≤ i ∧ i ≤ S 0) → ((S 0 - i).toNat) < fuel → W Pg l Ev (rmC 21 0 0) s Mi args below Mt Cd H locs 0 0 Q (F0 Mi 2 ls []) := by
    intro fuel
    induction fuel with
    | zero => intro i ls H locs hS hl hi hm; exact absurd hm (Nat.not_lt_zero _)
    | succ fuel ih2 =>
      intro i ls H locs hS hl hi hm
      refine li_iload_n hC hl 1 rfl dX7_goWays_2 ?_
      refine li_aload_n hC hl 0 rfl dX7_goWays_3 ?_
      refine li_get hC hK.1 ck_X7 (hS.1 42 _ rfl) 8 (by decide) fl_X7_71 rfl (v := .int (iI (S 0))) (by rw [← show F 72 = S 0 from hd72]; rfl) dX7_goWays_4 ?_
      refine li_icmp_ge (tgt := 28) hC (by decide) (rg (by omega) (by omega)) (rg (by omega) (by omega)) dX7_goWays_7 (fun c2 => ?_) (fun c2 => ?_)
      · refine li_aload_n hC hl 0 rfl dX7_goWays_28 ?_
        refine li_iconst hC dX7_goWays_29 ?_
        refine li_iconst hC dX7_goWays_30 ?_
        refine li_iconst hC dX7_goWays_31 ?_
        refine li_aload_n hC hl 0 rfl dX7_goWays_32 ?_
        refine wr_callVi hC (c_X7_hopes l g ad (va_up (va_up F 71 0) 73 0) A E tl S nm al vl hD hA hV hvr hd72 _) mk_X7_hopes ml_X7_101 (rr (by decide)) ⟨by simp only [rmC]; omega, by simp only [rmC]; omega⟩ hK hS (li_recv hK.1 ck_X7 (hS.1 42 _ rfl)) rfl hl.1 rfl (Nat.le_of_ble_eq_true rfl) dX7_goWays_33 (fun v w H locs hpx hS => ?_)
        obtain ⟨hv, f50, hw, hf50⟩ := hpx
        rw [hw] at hS; rw [hv]
        have hS : St g Aw s.heap H locs (CW g ad (va_up (va_up F 71 0) 73 0) (va_up A 50 f50) E tl) := hS
        refine wr_callVv hC (c_X7_goOn l g ((S 0).toNat) ad (va_up (va_up F 71 0) 73 0) (va_up A 50 f50) E tl S nm al vl (topS al vl) ([]) (0, 0, A 54) (A 52) (A 54) (F 53) 0 0 0 (sumI (topS al vl) (S 0).toNat) hD hA hV hCl hf50 hvr (top_rng (by decide) hvr) hd72 (fun i p h0 h1 h2 h3 h9 => top_max (by omega) ⟨h2, h3⟩ h9) (fun i h0 h1 h9 => top_4 h9) (by show ((0 : Nat) : Int) + _ = _; omega) okL_nil (wyL_nil _) rfl blk_nil.symm rfl (by show _ = _ - (0 : Int); omega) ⟨Or.inl rfl, by show (-1000000 : Int) ≤ 0; omega, by show (0 : Int) ≤ 1000000; omega⟩ (fun _ _ => rfl) _) mk_X7_goOn ml_X7_137 (rr (by omega)) ⟨by simp only [rmC]; omega, by simp only [rmC]; omega⟩ hK hS (li_recv hK.1 ck_X7 (hS.1 42 _ rfl)) rfl hl.1 rfl (Nat.le_of_ble_eq_true rfl) dX7_goWays_36 (fun w H locs hpx hS => ?_)
        obtain ⟨s33, nw3, fd3, hq3, hwy3, hfd3⟩ := hpx
        rw [hq3] at hS
        have hS : St g Aw s.heap H locs (CW g ad (va_up (va_up (va_up F 53 s33) 71 ((foldG vl (cmp (okB S al) (S 0).toNat []) (0, 0, A 54)).1)) 73 ((foldG vl (cmp (okB S al) (S 0).toNat []) (0, 0, A 54)).2.1)) (va_up (va_up (va_up A 50 f50) 52 nw3) 54 fd3) E tl) := hS
        exact hQ _ _ _ _ _ _ _ dX7_goWays_39 hS (by omega) (by omega) (⟨f50, s33, nw3, fd3, rfl, hfd3⟩)
      · have har1 := har i (by omega) (by omega)
        refine li_aload_n hC hl 0 rfl dX7_goWays_10 ?_
        refine li_get hC hK.1 ck_X7 (hS.1 42 _ rfl) 1 (by decide) fl_X7_14 rfl (v := .ref (ad 43)) rfl dX7_goWays_11 ?_
        refine li_iload_n hC hl 1 rfl dX7_goWays_14 ?_
        refine ro_callVi hC (c_X6_get l g (ws := CW g ad (va_up (va_up F 71 0) 73 0) A E tl) (i := 43) (j := 44) (a := (ad 43)) (b := (ad 44)) (n := 7) (f := (A 44)) (sz := F 43) rfl rfl (Nat.le_of_ble_eq_true rfl) (k := i) ⟨by omega, by omega⟩) mk_X6_get ml_X7_39 (rr (by decide)) ⟨Nat.zero_le _, Nat.zero_le _⟩ hK.1 (hS.ro hK) hS.1 (li_recv hK.1 ck_X6 (hS.1 43 _ rfl)) rfl hl.1 rfl (Nat.le_of_ble_eq_true rfl) dX7_goWays_15 ?_
        rw [hA i (by omega) (by omega)]
        refine li_if_ne (tgt := 22) hC (by decide) (rg (by omega) (by omega)) dX7_goWays_18 (fun c3 => ?_) (fun c3 => ?_)
        · refine li_iinc hC (lv' := [(1, .int (iI (i + 1))), (0, .ref (ad 42))]) hl 1 rfl (by decide) rfl dX7_goWays_22 (fun ls hl => ?_)
          refine li_goto (tgt := 2) hC (by decide) dX7_goWays_25 ?_
          exact ih2 (i + 1) _ _ _ hS (lv_sub hl [1, 0] rfl) (by omega) (by omega)
        · exact hQ _ _ _ _ _ _ _ dX7_goWays_21 hS (by omega) (by omega) (⟨A 50, F 53, A 52, A 54, by rw [show cmp (okB S al) (S 0).toNat [] = [] from cmp_none (i := i) (by omega) (by omega) _ _ (by show ((0 : Nat) : Int) + _ = _; omega) (by show ((0 : Nat) : Int) ≤ i; omega)]; rfl, by rw [show cmp (okB S al) (S 0).toNat [] = [] from cmp_none (i := i) (by omega) (by omega) _ _ (by show ((0 : Nat) : Int) + _ = _; omega) (by show ((0 : Nat) : Int) ≤ i; omega)]; exact fun _ _ => rfl⟩)
  exact L2_1 (((S 0 - 0).toNat) + 1) 0 _ _ _ hS (lv_sub hl [1, 0] rfl) (by omega) (by omega)
