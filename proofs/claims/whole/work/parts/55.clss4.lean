set_option maxHeartbeats 4000000 in
set_option maxRecDepth 100000 in
theorem c_X8_planned (l : Launch) (g : GG) (ad : Nat → Nat) (F : Nat → Int) (A : Nat → Nat → Int) (E : Nat → Nat) (tl : va_W) (S : Nat → Int) (nm : Nat → Nat) (hSh : ShW g ad F A E tl S nm) (hI : InvD S) (hH : InvH S) (hL : InvL S) (sz : Nat) : MwrQ l g yX8_planned cX8_planned 4 9 0 0 (.object "NamesNoTouch$Row") [.ref (ad 3)] sz (CW g ad F A E tl) (fun v w => v = some (ad 19) ∧ ∃ f : Nat → Int, w = CW g ad (va_up F 19 (F 9)) (va_up A 20 f) E tl ∧ ∀ j : Int, 0 ≤ j → j < S 0 → f j.toNat = planS S (S 3).toNat (42 + j).toNat) := by
  refine wr_startQ (own := RX8) (by decide) rfl (Nat.le_of_ble_eq_true rfl) ?_
  intro Pg Ev s Mi args below Mt Cd ls Q Aw hC hK hS hnm hl hQ
  have hSh0 := hSh
  obtain ⟨hTp, hCd, hNs, hWh, hRw, hSn, hPl, hBk, hMp⟩ := hSh0
  have hNm := hNs.2.2
  have hD0 := hI.1
  have hNs0 := hNs.1
  have hL3 := hL.2.1
  have hl : lv_has ls 4 [(0, .ref (ad 3))] := hl
  obtain ⟨H, hH⟩ : ∃ H, H = s.heap := ⟨_, rfl⟩
  obtain ⟨locs, hlo⟩ : ∃ locs : List Loc, locs = [] := ⟨_, rfl⟩
  have hS : St g Aw s.heap H locs (CW g ad F A E tl) := by rw [hH, hlo]; exact hS
  have goal : W Pg l Ev (rmC 9 0 0) s Mi args below Mt Cd H locs 0 0 Q (F0 Mi 0 ls []) := ?goal
  · rw [hH, hlo] at goal; exact goal
  clear hH hlo
  refine li_aload_n hC hl 0 rfl dX8_planned_0 ?_
  refine li_get hC hK.1 ck_X8 (hS.1 3 _ rfl) 8 (by decide) fl_X8_45 rfl (v := .ref (ad 19)) rfl dX8_planned_1 ?_
  refine li_aload_n hC hl 0 rfl dX8_planned_4 ?_
  refine li_get hC hK.1 ck_X8 (hS.1 3 _ rfl) 3 (by decide) fl_X8_30 rfl (v := .ref (ad 9)) rfl dX8_planned_5 ?_
  refine wr_callVv hC (c_X6_become l g (ws := CW g ad F A E tl) (i := 19) (j := 20) (i2 := 9) (j2 := 10) (a := (ad 19)) (b := (ad 20)) (a2 := (ad 9)) (b2 := (ad 10)) (n := 7) (f := (A 20)) (f2 := (A 10)) (sz := F 19) (sz2 := F 9) rfl rfl rfl rfl (Nat.le_of_ble_eq_true rfl) (by decide) (by decide) (by decide) (by decide) (ws2 := CW g ad (va_up F 19 (F 9)) (va_up A 20 (A 10)) E tl) rfl _) mk_X6_become ml_X8_55 (rr (by decide)) ⟨by simp only [rmC]; omega, by simp only [rmC]; omega⟩ hK hS (li_recv hK.1 ck_X6 (hS.1 19 _ rfl)) rfl hl.1 rfl (Nat.le_of_ble_eq_true rfl) dX8_planned_8 (fun w H locs hp hS => ?_)
  subst hp
  refine li_iconst hC dX8_planned_11 ?_
  refine li_istore_n hC (lv' := [(1, .int (iI 0)), (0, .ref (ad 3))]) hl (by decide) rfl dX8_planned_12 (fun ls hl => ?_)
  have L13_1 : ∀ (fuel : Nat) (k : Int) (f : Nat → Int) (ls : Array Slot) (H : Heap) (locs : List Loc), St g Aw s.heap H locs (CW g ad (va_up F 19 (F 9)) (va_up A 20 f) E tl) → lv_has ls 4 [(0, .ref (ad 3)), (1, .int (iI k))] → (0 ≤ k ∧ k ≤ S 3) → (∀ j : Int, 0 ≤ j → j < S 0 → f j.toNat = planS S k.toNat (42 + j).toNat) → ((S 3 - k).toNat) < fuel → W Pg l Ev (rmC 9 0 0) s Mi args below Mt Cd H locs 0 0 Q (F0 Mi 13 ls []) := by
    intro fuel
    induction fuel with
    | zero => intro k f ls H locs hS hl hk hf hm; exact absurd hm (Nat.not_lt_zero _)
    | succ fuel ih13 =>
      intro k f ls H locs hS hl hk hf hm
      refine li_iload_n hC hl 1 rfl dX8_planned_13 ?_
      refine li_aload_n hC hl 0 rfl dX8_planned_14 ?_
      refine li_get hC hK.1 ck_X8 (hS.1 3 _ rfl) 6 (by decide) fl_X8_39 rfl (v := .ref (ad 15)) rfl dX8_planned_15 ?_
      refine ro_callVi hC (c_X6_size l g (ws := CW g ad (va_up F 19 (F 9)) (va_up A 20 f) E tl) (i := 15) (j := 16) (a := (ad 15)) (b := (ad 16)) (n := 16) (f := (A 16)) (sz := F 15) rfl rfl (Nat.le_of_ble_eq_true rfl)) mk_X6_size ml_X8_161 (rr (by decide)) ⟨Nat.zero_le _, Nat.zero_le _⟩ hK.1 (hS.ro hK) hS.1 (li_recv hK.1 ck_X6 (hS.1 15 _ rfl)) rfl hl.1 rfl (Nat.le_of_ble_eq_true rfl) dX8_planned_18 ?_
      rw [show F 15 = 2 * S 3 from hPl.1]
      refine li_iconst hC dX8_planned_21 ?_
      refine li_idivN hC (by omega) (by omega) (by omega) (by omega) dX8_planned_22 ?_
      refine li_icmp_ge (tgt := 86) hC (by decide) (rg (by omega) (by omega)) (rg (by omega) (by omega)) dX8_planned_23 (fun c2 => ?_) (fun c2 => ?_)
      · refine li_aload_n hC hl 0 rfl dX8_planned_86 ?_
        refine li_get hC hK.1 ck_X8 (hS.1 3 _ rfl) 8 (by decide) fl_X8_45 rfl (v := .ref (ad 19)) rfl dX8_planned_87 ?_
        exact hQ (some (ad 19)) _ _ _ _ _ _ _ dX8_planned_90 hS (by omega) (by omega) (⟨rfl, f, rfl, by rw [← show k = S 3 by omega]; exact hf⟩)
      · have hL5 := hL.2.2.2.2.1 k (by omega) (by omega)
        refine li_aload_n hC hl 0 rfl dX8_planned_26 ?_
        refine li_get hC hK.1 ck_X8 (hS.1 3 _ rfl) 6 (by decide) fl_X8_39 rfl (v := .ref (ad 15)) rfl dX8_planned_27 ?_
        refine li_iconst hC dX8_planned_30 ?_
        refine li_iload_n hC hl 1 rfl dX8_planned_31 ?_
        refine li_imul hC dX8_planned_32 ?_
        refine ro_callVi hC (c_X6_get l g (ws := CW g ad (va_up F 19 (F 9)) (va_up A 20 f) E tl) (i := 15) (j := 16) (a := (ad 15)) (b := (ad 16)) (n := 16) (f := (A 16)) (sz := F 15) rfl rfl (Nat.le_of_ble_eq_true rfl) (k := 2 * k) ⟨by omega, by omega⟩) mk_X6_get ml_X8_101 (rr (by decide)) ⟨Nat.zero_le _, Nat.zero_le _⟩ hK.1 (hS.ro hK) hS.1 (li_recv hK.1 ck_X6 (hS.1 15 _ rfl)) rfl hl.1 rfl (Nat.le_of_ble_eq_true rfl) dX8_planned_33 ?_
        rw [(hPl.2 k (by omega) (by omega)).1]
        refine li_istore_n hC (lv' := [(2, .int (iI (S (92 + k).toNat))), (0, .ref (ad 3)), (1, .int (iI k))]) hl (by decide) rfl dX8_planned_36 (fun ls hl => ?_)
        refine li_aload_n hC hl 1 rfl dX8_planned_37 ?_
        refine li_get hC hK.1 ck_X8 (hS.1 3 _ rfl) 6 (by decide) fl_X8_39 rfl (v := .ref (ad 15)) rfl dX8_planned_38 ?_
        refine li_iconst hC dX8_planned_41 ?_
        refine li_iload_n hC hl 2 rfl dX8_planned_42 ?_
        refine li_imul hC dX8_planned_43 ?_
        refine li_iconst hC dX8_planned_44 ?_
        refine li_iadd hC dX8_planned_45 ?_
        refine ro_callVi hC (c_X6_get l g (ws := CW g ad (va_up F 19 (F 9)) (va_up A 20 f) E tl) (i := 15) (j := 16) (a := (ad 15)) (b := (ad 16)) (n := 16) (f := (A 16)) (sz := F 15) rfl rfl (Nat.le_of_ble_eq_true rfl) (k := (2 * k) + 1) ⟨by omega, by omega⟩) mk_X6_get ml_X8_101 (rr (by decide)) ⟨Nat.zero_le _, Nat.zero_le _⟩ hK.1 (hS.ro hK) hS.1 (li_recv hK.1 ck_X6 (hS.1 15 _ rfl)) rfl hl.1 rfl (Nat.le_of_ble_eq_true rfl) dX8_planned_46 ?_
        rw [(hPl.2 k (by omega) (by omega)).2]
        refine li_istore_n hC (lv' := [(3, .int (iI (S (100 + k).toNat))), (2, .int (iI (S (92 + k).toNat))), (0, .ref (ad 3)), (1, .int (iI k))]) hl (by decide) rfl dX8_planned_49 (fun ls hl => ?_)
        refine li_iload_n hC hl 0 rfl dX8_planned_50 ?_
        refine li_iconst hC dX8_planned_51 ?_
        refine li_icmp_eq (tgt := 71) hC (by decide) (rg (by omega) (by omega)) (rg (by decide) (by decide)) dX8_planned_52 (fun c3 => ?_) (fun c3 => ?_)
        · refine li_aload_n hC hl 2 rfl dX8_planned_71 ?_
          refine li_get hC hK.1 ck_X8 (hS.1 3 _ rfl) 8 (by decide) fl_X8_45 rfl (v := .ref (ad 19)) rfl dX8_planned_72 ?_
          refine li_iload_n hC hl 1 rfl dX8_planned_75 ?_
          refine li_iload_n hC hl 0 rfl dX8_planned_76 ?_
          refine wr_callVv hC (c_X6_set l g (ws := CW g ad (va_up F 19 (F 9)) (va_up A 20 f) E tl) (i := 19) (j := 20) (a := (ad 19)) (b := (ad 20)) (n := 7) (f := f) (sz := F 9) rfl rfl (Nat.le_of_ble_eq_true rfl) (k := S (92 + k).toNat) (v := S (100 + k).toNat) ⟨by omega, by omega⟩ (ws2 := CW g ad (va_up F 19 (F 9)) (va_up A 20 (va_up f ((S (92 + k).toNat).toNat) (S (100 + k).toNat))) E tl) rfl _) mk_X6_set ml_X8_200 (rr (by decide)) ⟨by simp only [rmC]; omega, by simp only [rmC]; omega⟩ hK hS (li_recv hK.1 ck_X6 (hS.1 19 _ rfl)) rfl hl.1 rfl (Nat.le_of_ble_eq_true rfl) dX8_planned_77 (fun w H locs hp hS => ?_)
          subst hp
          refine li_iinc hC (lv' := [(1, .int (iI (k + 1))), (3, .int (iI (S (100 + k).toNat))), (2, .int (iI (S (92 + k).toNat))), (0, .ref (ad 3))]) hl 3 rfl (by decide) rfl dX8_planned_80 (fun ls hl => ?_)
          refine li_goto (tgt := 13) hC (by decide) dX8_planned_83 ?_
          exact ih13 (k + 1) (va_up f ((S (92 + k).toNat).toNat) (S (100 + k).toNat)) _ _ _ hS (lv_sub hl [3, 0] rfl) (by omega) (by intro j h0 h1; rw [show (k + 1).toNat = k.toNat + 1 by omega, planS, show ((k.toNat : Nat) : Int) = k by omega]; rw [iteP_t (Or.inl (by omega))]; rcases (show j = (S (92 + k).toNat) ∨ j ≠ (S (92 + k).toNat) by omega) with rfl | hne; { rw [up_same, up_same] }; { rw [up_ne _ _ (by omega), up_ne _ _ (by omega)]; exact hf j h0 h1 }) (by omega)
        · refine li_aload_n hC hl 2 rfl dX8_planned_55 ?_
          refine li_iload_n hC hl 1 rfl dX8_planned_56 ?_
          refine li_aload_n hC hl 2 rfl dX8_planned_57 ?_
          refine li_get hC hK.1 ck_X8 (hS.1 3 _ rfl) 8 (by decide) fl_X8_45 rfl (v := .ref (ad 19)) rfl dX8_planned_58 ?_
          refine ro_callVi hC (c_X8_free l g ad (va_up F 19 (F 9)) (va_up A 20 f) E tl S nm hSh hI (S (92 + k).toNat) 19 (fun j => planS S k.toNat (42 + j).toNat) (Or.inr rfl) hf (fun j h0 h1 => plan_rng hI hL (k := k.toNat) (by omega) ⟨h0, h1⟩) (by omega)) mk_X8_free ml_X8_196 (rr (by decide)) ⟨Nat.le_of_ble_eq_true rfl, Nat.le_of_ble_eq_true rfl⟩ hK.1 (hS.ro hK) hS.1 (li_recv hK.1 ck_X8 (hS.1 3 _ rfl)) rfl hl.1 rfl (Nat.le_of_ble_eq_true rfl) dX8_planned_61 ?_
          refine li_iload_n hC hl 0 rfl dX8_planned_64 ?_
          refine ro_callSN hC (c_X11_hasBit l g (setB (freeW S (fun j => planS S k.toNat (42 + j).toNat) (S (92 + k).toNat)) 4) (S (100 + k).toNat)) mk_X11_hasBit (fun U h => h.2.1) (rr (by decide)) ⟨Nat.zero_le _, Nat.zero_le _⟩ hK.1 (hS.ro hK) trivial rfl hl.1 rfl (Nat.le_of_ble_eq_true rfl) dX8_planned_65 ?_
          refine li_ifeq_b (tgt := 80) hC (by decide) dX8_planned_68 (fun c4 => ?_) (fun c4 => ?_)
          · refine li_iinc hC (lv' := [(1, .int (iI (k + 1))), (3, .int (iI (S (100 + k).toNat))), (2, .int (iI (S (92 + k).toNat))), (0, .ref (ad 3))]) hl 3 rfl (by decide) rfl dX8_planned_80 (fun ls hl => ?_)
            refine li_goto (tgt := 13) hC (by decide) dX8_planned_83 ?_
            exact ih13 (k + 1) f _ _ _ hS (lv_sub hl [3, 0] rfl) (by omega) (by intro j h0 h1; rw [show (k + 1).toNat = k.toNat + 1 by omega, planS, show ((k.toNat : Nat) : Int) = k by omega]; rw [iteP_f (by intro h9; rcases h9 with h9 | h9; { omega }; { exact c4 ((hasB (by decide) (by omega) (by omega)).mpr ⟨by omega, (plan_free hI hL hH (by omega) (by omega) (by omega)).mp h9⟩) })]; rcases (show j = (S (92 + k).toNat) ∨ j ≠ (S (92 + k).toNat) by omega) with rfl | hne; { rw [up_same]; exact hf _ h0 h1 }; { rw [up_ne _ _ (by omega)]; exact hf j h0 h1 }) (by omega)
          · refine li_aload_n hC hl 2 rfl dX8_planned_71 ?_
            refine li_get hC hK.1 ck_X8 (hS.1 3 _ rfl) 8 (by decide) fl_X8_45 rfl (v := .ref (ad 19)) rfl dX8_planned_72 ?_
            refine li_iload_n hC hl 1 rfl dX8_planned_75 ?_
            refine li_iload_n hC hl 0 rfl dX8_planned_76 ?_
            refine wr_callVv hC (c_X6_set l g (ws := CW g ad (va_up F 19 (F 9)) (va_up A 20 f) E tl) (i := 19) (j := 20) (a := (ad 19)) (b := (ad 20)) (n := 7) (f := f) (sz := F 9) rfl rfl (Nat.le_of_ble_eq_true rfl) (k := S (92 + k).toNat) (v := S (100 + k).toNat) ⟨by omega, by omega⟩ (ws2 := CW g ad (va_up F 19 (F 9)) (va_up A 20 (va_up f ((S (92 + k).toNat).toNat) (S (100 + k).toNat))) E tl) rfl _) mk_X6_set ml_X8_200 (rr (by decide)) ⟨by simp only [rmC]; omega, by simp only [rmC]; omega⟩ hK hS (li_recv hK.1 ck_X6 (hS.1 19 _ rfl)) rfl hl.1 rfl (Nat.le_of_ble_eq_true rfl) dX8_planned_77 (fun w H locs hp hS => ?_)
            subst hp
            refine li_iinc hC (lv' := [(1, .int (iI (k + 1))), (3, .int (iI (S (100 + k).toNat))), (2, .int (iI (S (92 + k).toNat))), (0, .ref (ad 3))]) hl 3 rfl (by decide) rfl dX8_planned_80 (fun ls hl => ?_)
            refine li_goto (tgt := 13) hC (by decide) dX8_planned_83 ?_
            exact ih13 (k + 1) (va_up f ((S (92 + k).toNat).toNat) (S (100 + k).toNat)) _ _ _ hS (lv_sub hl [3, 0] rfl) (by omega) (by intro j h0 h1; rw [show (k + 1).toNat = k.toNat + 1 by omega, planS, show ((k.toNat : Nat) : Int) = k by omega]; rw [iteP_t (Or.inr ((plan_free hI hL hH (by omega) (by omega) (by omega)).mpr ((hasB (by decide) (by omega) (by omega)).mp c4).2))]; rcases (show j = (S (92 + k).toNat) ∨ j ≠ (S (92 + k).toNat) by omega) with rfl | hne; { rw [up_same, up_same] }; { rw [up_ne _ _ (by omega), up_ne _ _ (by omega)]; exact hf j h0 h1 }) (by omega)
  exact L13_1 (((S 3 - 0).toNat) + 1) 0 (A 10) _ _ _ hS (lv_sub hl [1, 0] rfl) (by omega) (by exact hWh) (by omega)
set_option maxHeartbeats 4000000 in
set_option maxRecDepth 100000 in
theorem c_X8_become_t (l : Launch) (g : GG) (ad : Nat → Nat) (F : Nat → Int) (A : Nat → Nat → Int) (E : Nat → Nat) (tl : va_W) (S : Nat → Int) (nm : Nat → Nat) (nd : Nat → Nat) (hI : InvD S) (hNm : NmP (ad 1) tl S nm) (hls : LsP g tl (E 0) (S 0) nm) (hct : F 76 = S 0) (hld : LsP g tl (E 1) (F 78) nd) (hcd : 0 ≤ F 78 ∧ F 78 ≤ 7) (hde : E 1 = E 0 → E 1 = g.2.1 3) (sz : Nat) : MwrV l g yX8_become cX8_become 3 7 1 10 [.ref (ad 21), .ref (ad 3)] sz (CW g ad F A E tl) (fun w => ∃ (m : Int) (r : Nat) (t : va_W), w = CW g ad (va_up (va_up (va_up (va_up (va_up (va_up (va_up (va_up (va_up (va_up (va_up (va_up F 22 (F 4)) 24 (F 6)) 27 (F 9)) 29 (F 11)) 31 (F 13)) 33 (F 15)) 35 (F 17)) 63 (F 60)) 64 (F 61)) 65 (F 62)) 77 m) 78 (S 0)) (va_up (va_up (va_up (va_up (va_up (va_up (va_up A 23 (A 5)) 25 (A 7)) 28 (A 10)) 30 (A 12)) 32 (A 14)) 34 (A 16)) 36 (A 18)) (va_up E 1 r) t ∧ TlK tl t ∧ LsP g t r (S 0) nm ∧ LsP g t (E 0) (S 0) nm ∧ (r = E 0 → r = g.2.1 3)) := by
  refine wr_startV (own := RX8) (by decide) rfl (Nat.le_of_ble_eq_true rfl) ?_
  intro Pg Ev s Mi args below Mt Cd ls Q Aw hC hK hS hnm hl hQ
  have hD0 := hI.1
  have hl : lv_has ls 3 [(0, .ref (ad 21)), (1, .ref (ad 3))] := hl
  obtain ⟨H, hH⟩ : ∃ H, H = s.heap := ⟨_, rfl⟩
  obtain ⟨locs, hlo⟩ : ∃ locs : List Loc, locs = [] := ⟨_, rfl⟩
  have hS : St g Aw s.heap H locs (CW g ad F A E tl) := by rw [hH, hlo]; exact hS
  have goal : W Pg l Ev (rmC 7 1 10) s Mi args below Mt Cd H locs 0 0 Q (F0 Mi 0 ls []) := ?goal
  · rw [hH, hlo] at goal; exact goal
  clear hH hlo
  refine li_aload_n hC hl 0 rfl dX8_become_0 ?_
  refine li_get hC hK.1 ck_X8 (hS.1 21 _ rfl) 0 (by decide) fl_X8_14 rfl (v := .ref (ad 22)) rfl dX8_become_1 ?_
  refine li_aload_n hC hl 1 rfl dX8_become_4 ?_
  refine li_get hC hK.1 ck_X8 (hS.1 3 _ rfl) 0 (by decide) fl_X8_14 rfl (v := .ref (ad 4)) rfl dX8_become_5 ?_
  refine wr_callVv hC (c_X6_become l g (ws := CW g ad F A E tl) (i := 22) (j := 23) (i2 := 4) (j2 := 5) (a := (ad 22)) (b := (ad 23)) (a2 := (ad 4)) (b2 := (ad 5)) (n := 100) (f := (A 23)) (f2 := (A 5)) (sz := F 22) (sz2 := F 4) rfl rfl rfl rfl (Nat.le_of_ble_eq_true rfl) (by decide) (by decide) (by decide) (by decide) (ws2 := CW g ad (va_up F 22 (F 4)) (va_up A 23 (A 5)) E tl) rfl _) mk_X6_become ml_X8_55 (rr (by decide)) ⟨by simp only [rmC]; omega, by simp only [rmC]; omega⟩ hK hS (li_recv hK.1 ck_X6 (hS.1 22 _ rfl)) rfl hl.1 rfl (Nat.le_of_ble_eq_true rfl) dX8_become_8 (fun w H locs hp hS => ?_)
  subst hp
  refine li_aload_n hC hl 0 rfl dX8_become_11 ?_
  refine li_get hC hK.1 ck_X8 (hS.1 21 _ rfl) 1 (by decide) fl_X8_20 rfl (v := .ref (ad 24)) rfl dX8_become_12 ?_
  refine li_aload_n hC hl 1 rfl dX8_become_15 ?_
  refine li_get hC hK.1 ck_X8 (hS.1 3 _ rfl) 1 (by decide) fl_X8_20 rfl (v := .ref (ad 6)) rfl dX8_become_16 ?_
  refine wr_callVv hC (c_X6_become l g (ws := CW g ad (va_up F 22 (F 4)) (va_up A 23 (A 5)) E tl) (i := 24) (j := 25) (i2 := 6) (j2 := 7) (a := (ad 24)) (b := (ad 25)) (a2 := (ad 6)) (b2 := (ad 7)) (n := 100) (f := (A 25)) (f2 := (A 7)) (sz := F 24) (sz2 := F 6) rfl rfl rfl rfl (Nat.le_of_ble_eq_true rfl) (by decide) (by decide) (by decide) (by decide) (ws2 := CW g ad (va_up (va_up F 22 (F 4)) 24 (F 6)) (va_up (va_up A 23 (A 5)) 25 (A 7)) E tl) rfl _) mk_X6_become ml_X8_55 (rr (by decide)) ⟨by simp only [rmC]; omega, by simp only [rmC]; omega⟩ hK hS (li_recv hK.1 ck_X6 (hS.1 24 _ rfl)) rfl hl.1 rfl (Nat.le_of_ble_eq_true rfl) dX8_become_19 (fun w H locs hp hS => ?_)
  subst hp
  refine li_aload_n hC hl 0 rfl dX8_become_22 ?_
  refine li_get hC hK.1 ck_X8 (hS.1 21 _ rfl) 2 (by decide) fl_X8_26 rfl (v := .ref (ad 26)) rfl dX8_become_23 ?_
  have J29_1 : ∀ (m : Int) (t : va_W) (ls : Array Slot) (H : Heap) (locs : List Loc), St g Aw s.heap H locs (CW g ad (va_up (va_up (va_up (va_up F 22 (F 4)) 24 (F 6)) 77 m) 78 0) (va_up (va_up A 23 (A 5)) 25 (A 7)) E t) → lv_has ls 3 [(0, .ref (ad 21)), (1, .ref (ad 3))] → (TlK tl t) → (LsP g t (E 1) 0 nm) → (LsP g t (E 0) (S 0) nm) → W Pg l Ev (rmC 7 1 10) s Mi args below Mt Cd H locs 0 0 Q (F0 Mi 29 ls []) := by
    intro m t ls H locs hS hl hT hl1 hl2
    refine li_iconst hC dX8_become_29 ?_
    refine li_istore_n hC (lv' := [(2, .int (iI 0)), (0, .ref (ad 21)), (1, .ref (ad 3))]) hl (by decide) rfl dX8_become_30 (fun ls hl => ?_)
    have L31_2 : ∀ (fuel : Nat) (i : Int) (m : Int) (r : Nat) (t : va_W) (cc : Nat) (ss : Nat) (ls : Array Slot) (H : Heap) (locs : List Loc), St g Aw s.heap H locs (CW g ad (va_up (va_up (va_up (va_up F 22 (F 4)) 24 (F 6)) 77 m) 78 i) (va_up (va_up A 23 (A 5)) 25 (A 7)) (va_up E 1 r) t) → lv_has ls 3 [(0, .ref (ad 21)), (1, .ref (ad 3)), (2, .int (iI i))] → (0 ≤ i ∧ i ≤ S 0) → (TlK tl t) → (LsP g t r i nm) → (LsP g t (E 0) (S 0) nm) → (r = E 0 → r = g.2.1 3) → (ss = 10 * cc ∧ cc ≤ 1 ∧ (cc = 1 → 0 < i)) → ((S 0 - i).toNat) < fuel → W Pg l Ev (rmC 7 1 10) s Mi args below Mt Cd H locs cc ss Q (F0 Mi 31 ls []) := by
      intro fuel
      induction fuel with
      | zero => intro i m r t cc ss ls H locs hS hl hi hT hl1 hl2 hne hcc hm; exact absurd hm (Nat.not_lt_zero _)
      | succ fuel ih31 =>
        intro i m r t cc ss ls H locs hS hl hi hT hl1 hl2 hne hcc hm
        refine li_iload_n hC hl 2 rfl dX8_become_31 ?_
        refine li_aload_n hC hl 1 rfl dX8_become_32 ?_
        refine li_get hC hK.1 ck_X8 (hS.1 3 _ rfl) 2 (by decide) fl_X8_26 rfl (v := .ref (ad 8)) rfl dX8_become_33 ?_
        refine ro_callVi hC (c_Jx4a65c_size_8abf5 l g (ws := CW g ad (va_up (va_up (va_up (va_up F 22 (F 4)) 24 (F 6)) 77 m) 78 i) (va_up (va_up A 23 (A 5)) 25 (A 7)) (va_up E 1 r) t) (i := 8) (a := (ad 8)) (el := E 0) (m := F 75) (n := F 76) rfl) mk_Jx4a65c_size_8abf5 ml_X8_62 (rr (by decide)) ⟨by simp only [rmC]; omega, by simp only [rmC]; omega⟩ hK.1 (hS.ro hK) hS.1 (li_recv hK.1 ck_Jx4a65c (hS.1 8 _ rfl)) rfl hl.1 rfl (Nat.le_of_ble_eq_true rfl) dX8_become_36 ?_
        rw [show F 76 = S 0 from hct]
        refine li_icmp_ge (tgt := 67) hC (by decide) (rg (by omega) (by omega)) (rg (by omega) (by omega)) dX8_become_39 (fun c3 => ?_) (fun c3 => ?_)
        · refine li_aload_n hC hl 0 rfl dX8_become_67 ?_
          refine li_get hC hK.1 ck_X8 (hS.1 21 _ rfl) 3 (by decide) fl_X8_30 rfl (v := .ref (ad 27)) rfl dX8_become_68 ?_
          refine li_aload_n hC hl 1 rfl dX8_become_71 ?_
          refine li_get hC hK.1 ck_X8 (hS.1 3 _ rfl) 3 (by decide) fl_X8_30 rfl (v := .ref (ad 9)) rfl dX8_become_72 ?_
          refine wr_callVv hC (c_X6_become l g (ws := CW g ad (va_up (va_up (va_up (va_up F 22 (F 4)) 24 (F 6)) 77 m) 78 i) (va_up (va_up A 23 (A 5)) 25 (A 7)) (va_up E 1 r) t) (i := 27) (j := 28) (i2 := 9) (j2 := 10) (a := (ad 27)) (b := (ad 28)) (a2 := (ad 9)) (b2 := (ad 10)) (n := 7) (f := (A 28)) (f2 := (A 10)) (sz := F 27) (sz2 := F 9) rfl rfl rfl rfl (Nat.le_of_ble_eq_true rfl) (by decide) (by decide) (by decide) (by decide) (ws2 := CW g ad (va_up (va_up (va_up (va_up (va_up F 22 (F 4)) 24 (F 6)) 27 (F 9)) 77 m) 78 i) (va_up (va_up (va_up A 23 (A 5)) 25 (A 7)) 28 (A 10)) (va_up E 1 r) t) rfl _) mk_X6_become ml_X8_55 (rr (by decide)) ⟨by simp only [rmC]; omega, by simp only [rmC]; omega⟩ hK hS (li_recv hK.1 ck_X6 (hS.1 27 _ rfl)) rfl hl.1 rfl (Nat.le_of_ble_eq_true rfl) dX8_become_75 (fun w H locs hp hS => ?_)
          subst hp
          refine li_aload_n hC hl 0 rfl dX8_become_78 ?_
          refine li_get hC hK.1 ck_X8 (hS.1 21 _ rfl) 4 (by decide) fl_X8_33 rfl (v := .ref (ad 29)) rfl dX8_become_79 ?_
          refine li_aload_n hC hl 1 rfl dX8_become_82 ?_
          refine li_get hC hK.1 ck_X8 (hS.1 3 _ rfl) 4 (by decide) fl_X8_33 rfl (v := .ref (ad 11)) rfl dX8_become_83 ?_
          refine wr_callVv hC (c_X6_become l g (ws := CW g ad (va_up (va_up (va_up (va_up (va_up F 22 (F 4)) 24 (F 6)) 27 (F 9)) 77 m) 78 i) (va_up (va_up (va_up A 23 (A 5)) 25 (A 7)) 28 (A 10)) (va_up E 1 r) t) (i := 29) (j := 30) (i2 := 11) (j2 := 12) (a := (ad 29)) (b := (ad 30)) (a2 := (ad 11)) (b2 := (ad 12)) (n := 28) (f := (A 30)) (f2 := (A 12)) (sz := F 29) (sz2 := F 11) rfl rfl rfl rfl (Nat.le_of_ble_eq_true rfl) (by decide) (by decide) (by decide) (by decide) (ws2 := CW g ad (va_up (va_up (va_up (va_up (va_up (va_up F 22 (F 4)) 24 (F 6)) 27 (F 9)) 29 (F 11)) 77 m) 78 i) (va_up (va_up (va_up (va_up A 23 (A 5)) 25 (A 7)) 28 (A 10)) 30 (A 12)) (va_up E 1 r) t) rfl _) mk_X6_become ml_X8_55 (rr (by decide)) ⟨by simp only [rmC]; omega, by simp only [rmC]; omega⟩ hK hS (li_recv hK.1 ck_X6 (hS.1 29 _ rfl)) rfl hl.1 rfl (Nat.le_of_ble_eq_true rfl) dX8_become_86 (fun w H locs hp hS => ?_)
          subst hp
          refine li_aload_n hC hl 0 rfl dX8_become_89 ?_
          refine li_get hC hK.1 ck_X8 (hS.1 21 _ rfl) 5 (by decide) fl_X8_36 rfl (v := .ref (ad 31)) rfl dX8_become_90 ?_
          refine li_aload_n hC hl 1 rfl dX8_become_93 ?_
          refine li_get hC hK.1 ck_X8 (hS.1 3 _ rfl) 5 (by decide) fl_X8_36 rfl (v := .ref (ad 13)) rfl dX8_become_94 ?_
          refine wr_callVv hC (c_X6_become l g (ws := CW g ad (va_up (va_up (va_up (va_up (va_up (va_up F 22 (F 4)) 24 (F 6)) 27 (F 9)) 29 (F 11)) 77 m) 78 i) (va_up (va_up (va_up (va_up A 23 (A 5)) 25 (A 7)) 28 (A 10)) 30 (A 12)) (va_up E 1 r) t) (i := 31) (j := 32) (i2 := 13) (j2 := 14) (a := (ad 31)) (b := (ad 32)) (a2 := (ad 13)) (b2 := (ad 14)) (n := 15) (f := (A 32)) (f2 := (A 14)) (sz := F 31) (sz2 := F 13) rfl rfl rfl rfl (Nat.le_of_ble_eq_true rfl) (by decide) (by decide) (by decide) (by decide) (ws2 := CW g ad (va_up (va_up (va_up (va_up (va_up (va_up (va_up F 22 (F 4)) 24 (F 6)) 27 (F 9)) 29 (F 11)) 31 (F 13)) 77 m) 78 i) (va_up (va_up (va_up (va_up (va_up A 23 (A 5)) 25 (A 7)) 28 (A 10)) 30 (A 12)) 32 (A 14)) (va_up E 1 r) t) rfl _) mk_X6_become ml_X8_55 (rr (by decide)) ⟨by simp only [rmC]; omega, by simp only [rmC]; omega⟩ hK hS (li_recv hK.1 ck_X6 (hS.1 31 _ rfl)) rfl hl.1 rfl (Nat.le_of_ble_eq_true rfl) dX8_become_97 (fun w H locs hp hS => ?_)
          subst hp
          refine li_aload_n hC hl 0 rfl dX8_become_100 ?_
          refine li_get hC hK.1 ck_X8 (hS.1 21 _ rfl) 6 (by decide) fl_X8_39 rfl (v := .ref (ad 33)) rfl dX8_become_101 ?_
          refine li_aload_n hC hl 1 rfl dX8_become_104 ?_
          refine li_get hC hK.1 ck_X8 (hS.1 3 _ rfl) 6 (by decide) fl_X8_39 rfl (v := .ref (ad 15)) rfl dX8_become_105 ?_
          refine wr_callVv hC (c_X6_become l g (ws := CW g ad (va_up (va_up (va_up (va_up (va_up (va_up (va_up F 22 (F 4)) 24 (F 6)) 27 (F 9)) 29 (F 11)) 31 (F 13)) 77 m) 78 i) (va_up (va_up (va_up (va_up (va_up A 23 (A 5)) 25 (A 7)) 28 (A 10)) 30 (A 12)) 32 (A 14)) (va_up E 1 r) t) (i := 33) (j := 34) (i2 := 15) (j2 := 16) (a := (ad 33)) (b := (ad 34)) (a2 := (ad 15)) (b2 := (ad 16)) (n := 16) (f := (A 34)) (f2 := (A 16)) (sz := F 33) (sz2 := F 15) rfl rfl rfl rfl (Nat.le_of_ble_eq_true rfl) (by decide) (by decide) (by decide) (by decide) (ws2 := CW g ad (va_up (va_up (va_up (va_up (va_up (va_up (va_up (va_up F 22 (F 4)) 24 (F 6)) 27 (F 9)) 29 (F 11)) 31 (F 13)) 33 (F 15)) 77 m) 78 i) (va_up (va_up (va_up (va_up (va_up (va_up A 23 (A 5)) 25 (A 7)) 28 (A 10)) 30 (A 12)) 32 (A 14)) 34 (A 16)) (va_up E 1 r) t) rfl _) mk_X6_become ml_X8_55 (rr (by decide)) ⟨by simp only [rmC]; omega, by simp only [rmC]; omega⟩ hK hS (li_recv hK.1 ck_X6 (hS.1 33 _ rfl)) rfl hl.1 rfl (Nat.le_of_ble_eq_true rfl) dX8_become_108 (fun w H locs hp hS => ?_)
          subst hp
          refine li_aload_n hC hl 0 rfl dX8_become_111 ?_
          refine li_get hC hK.1 ck_X8 (hS.1 21 _ rfl) 7 (by decide) fl_X8_42 rfl (v := .ref (ad 35)) rfl dX8_become_112 ?_
          refine li_aload_n hC hl 1 rfl dX8_become_115 ?_
          refine li_get hC hK.1 ck_X8 (hS.1 3 _ rfl) 7 (by decide) fl_X8_42 rfl (v := .ref (ad 17)) rfl dX8_become_116 ?_
          refine wr_callVv hC (c_X6_become l g (ws := CW g ad (va_up (va_up (va_up (va_up (va_up (va_up (va_up (va_up F 22 (F 4)) 24 (F 6)) 27 (F 9)) 29 (F 11)) 31 (F 13)) 33 (F 15)) 77 m) 78 i) (va_up (va_up (va_up (va_up (va_up (va_up A 23 (A 5)) 25 (A 7)) 28 (A 10)) 30 (A 12)) 32 (A 14)) 34 (A 16)) (va_up E 1 r) t) (i := 35) (j := 36) (i2 := 17) (j2 := 18) (a := (ad 35)) (b := (ad 36)) (a2 := (ad 17)) (b2 := (ad 18)) (n := 16) (f := (A 36)) (f2 := (A 18)) (sz := F 35) (sz2 := F 17) rfl rfl rfl rfl (Nat.le_of_ble_eq_true rfl) (by decide) (by decide) (by decide) (by decide) (ws2 := CW g ad (va_up (va_up (va_up (va_up (va_up (va_up (va_up (va_up (va_up F 22 (F 4)) 24 (F 6)) 27 (F 9)) 29 (F 11)) 31 (F 13)) 33 (F 15)) 35 (F 17)) 77 m) 78 i) (va_up (va_up (va_up (va_up (va_up (va_up (va_up A 23 (A 5)) 25 (A 7)) 28 (A 10)) 30 (A 12)) 32 (A 14)) 34 (A 16)) 36 (A 18)) (va_up E 1 r) t) rfl _) mk_X6_become ml_X8_55 (rr (by decide)) ⟨by simp only [rmC]; omega, by simp only [rmC]; omega⟩ hK hS (li_recv hK.1 ck_X6 (hS.1 35 _ rfl)) rfl hl.1 rfl (Nat.le_of_ble_eq_true rfl) dX8_become_119 (fun w H locs hp hS => ?_)
          subst hp
          refine li_aload_n hC hl 0 rfl dX8_become_122 ?_
          refine li_aload_n hC hl 1 rfl dX8_become_123 ?_
          refine li_get hC hK.1 ck_X8 (hS.1 3 _ rfl) 9 (by decide) fl_X8_76 rfl (v := .int (iI (F 60))) rfl dX8_become_124 ?_
          refine li_put hC hK hS ck_X8 21 rfl 9 (by decide) fl_X8_76 rfl rfl (v := .int (iI (F 60))) rfl rfl (Nat.le_of_ble_eq_true rfl) (ws' := CW g ad (va_up (va_up (va_up (va_up (va_up (va_up (va_up (va_up (va_up (va_up F 22 (F 4)) 24 (F 6)) 27 (F 9)) 29 (F 11)) 31 (F 13)) 33 (F 15)) 35 (F 17)) 63 (F 60)) 77 m) 78 i) (va_up (va_up (va_up (va_up (va_up (va_up (va_up A 23 (A 5)) 25 (A 7)) 28 (A 10)) 30 (A 12)) 32 (A 14)) 34 (A 16)) 36 (A 18)) (va_up E 1 r) t) rfl dX8_become_127 (fun H locs hS => ?_)
          refine li_aload_n hC hl 0 rfl dX8_become_130 ?_
          refine li_aload_n hC hl 1 rfl dX8_become_131 ?_
          refine li_get hC hK.1 ck_X8 (hS.1 3 _ rfl) 10 (by decide) fl_X8_48 rfl (v := .int (iI (F 61))) rfl dX8_become_132 ?_
          refine li_put hC hK hS ck_X8 21 rfl 10 (by decide) fl_X8_48 rfl rfl (v := .int (iI (F 61))) rfl rfl (Nat.le_of_ble_eq_true rfl) (ws' := CW g ad (va_up (va_up (va_up (va_up (va_up (va_up (va_up (va_up (va_up (va_up (va_up F 22 (F 4)) 24 (F 6)) 27 (F 9)) 29 (F 11)) 31 (F 13)) 33 (F 15)) 35 (F 17)) 63 (F 60)) 64 (F 61)) 77 m) 78 i) (va_up (va_up (va_up (va_up (va_up (va_up (va_up A 23 (A 5)) 25 (A 7)) 28 (A 10)) 30 (A 12)) 32 (A 14)) 34 (A 16)) 36 (A 18)) (va_up E 1 r) t) rfl dX8_become_135 (fun H locs hS => ?_)
          refine li_aload_n hC hl 0 rfl dX8_become_138 ?_
          refine li_aload_n hC hl 1 rfl dX8_become_139 ?_
          refine li_get hC hK.1 ck_X8 (hS.1 3 _ rfl) 11 (by decide) fl_X8_52 rfl (v := .int (iI (F 62))) rfl dX8_become_140 ?_
          refine li_put hC hK hS ck_X8 21 rfl 11 (by decide) fl_X8_52 rfl rfl (v := .int (iI (F 62))) rfl rfl (Nat.le_of_ble_eq_true rfl) (ws' := CW g ad (va_up (va_up (va_up (va_up (va_up (va_up (va_up (va_up (va_up (va_up (va_up (va_up F 22 (F 4)) 24 (F 6)) 27 (F 9)) 29 (F 11)) 31 (F 13)) 33 (F 15)) 35 (F 17)) 63 (F 60)) 64 (F 61)) 65 (F 62)) 77 m) 78 i) (va_up (va_up (va_up (va_up (va_up (va_up (va_up A 23 (A 5)) 25 (A 7)) 28 (A 10)) 30 (A 12)) 32 (A 14)) 34 (A 16)) 36 (A 18)) (va_up E 1 r) t) rfl dX8_become_143 (fun H locs hS => ?_)
          exact hQ _ _ _ _ _ _ _ dX8_become_146 hS (by omega) (by omega) (by have hi2 : i = S 0 := (by omega); rw [hi2] at hl1 ⊢; exact ⟨m, r, t, rfl, hT, hl1, hl2, hne⟩)
        · refine li_aload_n hC hl 0 rfl dX8_become_42 ?_
          refine li_get hC hK.1 ck_X8 (hS.1 21 _ rfl) 2 (by decide) fl_X8_26 rfl (v := .ref (ad 26)) rfl dX8_become_43 ?_
          refine li_aload_n hC hl 1 rfl dX8_become_46 ?_
          refine li_get hC hK.1 ck_X8 (hS.1 3 _ rfl) 2 (by decide) fl_X8_26 rfl (v := .ref (ad 8)) rfl dX8_become_47 ?_
          refine li_iload_n hC hl 2 rfl dX8_become_50 ?_
          obtain ⟨kS, fS, hS1, hS2⟩ := lsp_pos hl2 (by omega)
          refine ro_callVq hC (c_Jx4a65c_get_915e3 l g (ws := CW g ad (va_up (va_up (va_up (va_up F 22 (F 4)) 24 (F 6)) 77 m) 78 i) (va_up (va_up A 23 (A 5)) 25 (A 7)) (va_up E 1 r) t) (i := 8) (j := 55 + kS) (a := (ad 8)) (el := E 0) (m := F 75) (n := F 76) (f := fS) rfl (by rw [CW_tl]; exact hS1) (k := i) ⟨by omega, by omega⟩ (by omega)) mk_Jx4a65c_get_915e3 ml_X8_66 (rr (by decide)) ⟨by simp only [rmC]; omega, by simp only [rmC]; omega⟩ hK.1 (hS.ro hK) hS.1 (li_recv hK.1 ck_Jx4a65c (hS.1 8 _ rfl)) rfl hl.1 rfl (Nat.le_of_ble_eq_true rfl) dX8_become_51 ?_
          rw [hS2 i.toNat (by omega), show va_rf (some (nm i.toNat)) = .ref (nm i.toNat) from rfl]
          refine li_castN hC hK.1 (nm_at hS.1 (nmp_k hNm hT) hI (i := i) (by omega)) cl_X8_70 dX8_become_54 ?_
          obtain ⟨kq10, hq11⟩ := nmp_k hNm hT i (by omega) (by omega)
          rcases hl1 with ⟨hz7, hL6⟩ | ⟨hn8, kL4, fL5, hL6a, hb9⟩
          · refine wr_callVz hC (c_add0 l g (ws := CW g ad (va_up (va_up (va_up (va_up F 22 (F 4)) 24 (F 6)) 77 m) 78 i) (va_up (va_up A 23 (A 5)) 25 (A 7)) (va_up E 1 r) t) (i := 26) (a := (ad 26)) (x := nm i.toNat) (qk := 55 + kq10) (m := m) (n := i) (kd := S (7 + i).toNat) (fs := nmV (ad 1) i (S (14 + i).toNat) (S (21 + i).toNat) (S (28 + i).toNat) (S (35 + i).toNat)) (by rw [← hL6]; rfl) hz7 (by rw [CW_tl]; exact hq11) (hI.2 i (by omega) (by omega)).1 (by omega) _) mk_Jx4a65c_add_9ea2d ml_X8_72 (rr (by decide)) ⟨by simp only [rmC]; omega, by simp only [rmC]; omega⟩ hK hS (li_recv hK.1 ck_Jx4a65c (hS.1 26 _ rfl)) rfl hl.1 rfl (Nat.le_of_ble_eq_true rfl) dX8_become_57 (fun v w H locs hp hS => ?_)
            obtain ⟨hv, r12, hp⟩ := hp
            rw [hp] at hS
            have hS0 : St g Aw s.heap H locs ((CW g ad (va_up (va_up (va_up (va_up F 22 (F 4)) 24 (F 6)) 77 (m + 1)) 78 1) (va_up (va_up A 23 (A 5)) 25 (A 7)) (va_up E 1 r12) t) ++ [(r12, obA g 10 (va_up (fun _ => none) 0 (some (nm i.toNat))))]) := hS
            have hS : St g Aw s.heap H locs (CW g ad (va_up (va_up (va_up (va_up F 22 (F 4)) 24 (F 6)) 77 (m + 1)) 78 (i + 1)) (va_up (va_up A 23 (A 5)) 25 (A 7)) (va_up E 1 r12) (t ++ [(r12, obA g 10 (va_up (fun _ => none) 0 (some (nm i.toNat))))])) := by rw [show i + 1 = 1 by omega]; exact hS0
            rw [hv]
            refine li_pop hC rfl dX8_become_60 ?_
            refine li_iinc hC (lv' := [(2, .int (iI (i + 1))), (0, .ref (ad 21)), (1, .ref (ad 3))]) hl 2 rfl (by decide) rfl dX8_become_61 (fun ls hl => ?_)
            refine li_goto (tgt := 31) hC (by decide) dX8_become_64 ?_
            exact ih31 (i + 1) (m + 1) r12 (t ++ [(r12, obA g 10 (va_up (fun _ => none) 0 (some (nm i.toNat))))]) (cc + 1) (ss + 10) _ _ _ hS (lv_sub hl [1, 2, 0] rfl) (by omega) (by exact hT.tr (tlk_app _ _)) (by refine Or.inr ⟨fresh_df hK hS0, t.length, va_up (fun _ => none) 0 (some (nm i.toNat)), by rw [List.getElem?_append_right (Nat.le_refl _), Nat.sub_self]; rfl, fun j hj => ?_⟩; rw [show j = 0 by omega, show i.toNat = 0 by omega]; exact up_same _ _ _) (by exact lsp_app hl2) (by intro e9; rcases hl2 with h9 | h9; { rw [e9]; exact h9.2 }; { obtain ⟨h8, k7, f7, h7, -⟩ := h9; exact absurd e9.symm (fresh_ne hS0 (k := 55 + k7) (by rw [CW_tl]; exact h7)) }) (by omega) (by omega)
          · refine wr_callVz hC (c_addA l g (ws := CW g ad (va_up (va_up (va_up (va_up F 22 (F 4)) 24 (F 6)) 77 m) 78 i) (va_up (va_up A 23 (A 5)) 25 (A 7)) (va_up E 1 r) t) (i := 26) (j := 55 + kL4) (a := (ad 26)) (el := r) (x := nm i.toNat) (qk := 55 + kq10) (m := m) (n := i) (kd := S (7 + i).toNat) (f := fL5) (fs := nmV (ad 1) i (S (14 + i).toNat) (S (21 + i).toNat) (S (28 + i).toNat) (S (35 + i).toNat)) rfl (by rw [CW_tl]; exact hL6a) (by rw [CW_tl]; exact hq11) (hI.2 i (by omega) (by omega)).1 (by omega) (by omega) (by omega) _) mk_Jx4a65c_add_9ea2d ml_X8_72 (rr (by decide)) ⟨by simp only [rmC]; omega, by simp only [rmC]; omega⟩ hK hS (li_recv hK.1 ck_Jx4a65c (hS.1 26 _ rfl)) rfl hl.1 rfl (Nat.le_of_ble_eq_true rfl) dX8_become_57 (fun v w H locs hp hS => ?_)
            obtain ⟨hv, hp⟩ := hp
            rw [hp, CW_set] at hS
            have hS : St g Aw s.heap H locs (CW g ad (va_up (va_up (va_up (va_up F 22 (F 4)) 24 (F 6)) 77 (m + 1)) 78 (i + 1)) (va_up (va_up A 23 (A 5)) 25 (A 7)) (va_up E 1 r) (t.set kL4 (r, obA g 10 (va_up fL5 (i).toNat (some (nm i.toNat)))))) := hS
            rw [hv]
            refine li_pop hC rfl dX8_become_60 ?_
            refine li_iinc hC (lv' := [(2, .int (iI (i + 1))), (0, .ref (ad 21)), (1, .ref (ad 3))]) hl 2 rfl (by decide) rfl dX8_become_61 (fun ls hl => ?_)
            refine li_goto (tgt := 31) hC (by decide) dX8_become_64 ?_
            exact ih31 (i + 1) (m + 1) r (t.set kL4 (r, obA g 10 (va_up fL5 (i).toNat (some (nm i.toNat))))) cc ss _ _ _ hS (lv_sub hl [1, 2, 0] rfl) (by omega) (by exact hT.tr (tlk_set hL6a)) (by refine lsp_set_own hn8 hL6a (fun j hj => ?_); rcases (show (j : Int) < i ∨ j = i.toNat by omega) with h9 | h9; { rw [up_ne _ _ (by omega)]; exact hb9 j h9 }; { rw [h9]; exact up_same _ _ _ }) (by rcases hl2 with h9 | h9; { exact Or.inl h9 }; { exact lsp_set (Or.inr h9) hL6a (fun e9 => hn8 (hne e9.symm)) }) (by exact hne) (by omega) (by omega)
    exact L31_2 (((S 0 - 0).toNat) + 1) 0 m (E 1) t 0 0 _ _ _ hS (lv_sub hl [1, 2, 0] rfl) (by omega) (by exact hT) (by exact hl1) (by exact hl2) (by exact hde) (by omega) (by omega)
  rcases hld with ⟨hz16, hL15⟩ | ⟨hn17, kL13, fL14, hL15a, -⟩
  · refine wr_callVv hC (c_clear0 l g (ws := CW g ad (va_up (va_up F 22 (F 4)) 24 (F 6)) (va_up (va_up A 23 (A 5)) 25 (A 7)) E tl) (i := 26) (a := (ad 26)) (el := E 1) (m := F 77) (n := F 78) rfl hz16 _) mk_Jx4a65c_clear_da8c8 ml_X8_59 (rr (by decide)) ⟨by simp only [rmC]; omega, by simp only [rmC]; omega⟩ hK hS (li_recv hK.1 ck_Jx4a65c (hS.1 26 _ rfl)) rfl hl.1 rfl (Nat.le_of_ble_eq_true rfl) dX8_become_26 (fun w H locs hp hS => ?_)
    rw [hp] at hS
    have hS : St g Aw s.heap H locs (CW g ad (va_up (va_up (va_up (va_up F 22 (F 4)) 24 (F 6)) 77 ((F 77) + 1)) 78 0) (va_up (va_up A 23 (A 5)) 25 (A 7)) E tl) := hS
    exact J29_1 ((F 77) + 1) tl _ _ _ hS (lv_sub hl [0, 1] rfl) ((TlK.rf _)) ((Or.inl ⟨rfl, hL15⟩)) (hls)
  · refine wr_callVv hC (c_clearA l g (ws := CW g ad (va_up (va_up F 22 (F 4)) 24 (F 6)) (va_up (va_up A 23 (A 5)) 25 (A 7)) E tl) (i := 26) (j := 55 + kL13) (a := (ad 26)) (el := E 1) (m := F 77) (n := F 78) (f := fL14) rfl (by rw [CW_tl]; exact hL15a) (by omega) (by omega) _) mk_Jx4a65c_clear_da8c8 ml_X8_59 (rr (by decide)) ⟨by simp only [rmC]; omega, by simp only [rmC]; omega⟩ hK hS (li_recv hK.1 ck_Jx4a65c (hS.1 26 _ rfl)) rfl hl.1 rfl (Nat.le_of_ble_eq_true rfl) dX8_become_26 (fun w H locs hp hS => ?_)
    obtain ⟨fq18, hp⟩ := hp
    rw [hp] at hS
    have hS : St g Aw s.heap H locs ((CW g ad (va_up (va_up (va_up (va_up F 22 (F 4)) 24 (F 6)) 77 ((F 77) + 1)) 78 0) (va_up (va_up A 23 (A 5)) 25 (A 7)) E tl).set (55 + kL13) (E 1, obA g 10 fq18)) := hS
    rw [CW_set] at hS
    exact J29_1 ((F 77) + 1) (tl.set kL13 (E 1, obA g 10 fq18)) _ _ _ hS (lv_sub hl [0, 1] rfl) ((tlk_set hL15a)) ((lsp_set_own hn17 hL15a (fun i h9 => by omega))) ((by rcases hls with h9 | h9; { exact Or.inl h9 }; { exact lsp_set (Or.inr h9) hL15a (fun e9 => hn17 (hde e9.symm)) }))
set_option maxHeartbeats 4000000 in
set_option maxRecDepth 100000 in
theorem c_X8_become_s (l : Launch) (g : GG) (ad : Nat → Nat) (F : Nat → Int) (A : Nat → Nat → Int) (E : Nat → Nat) (tl : va_W) (S : Nat → Int) (nm : Nat → Nat) (nd : Nat → Nat) (hI : InvD S) (hNm : NmP (ad 1) tl S nm) (hls : LsP g tl (E 1) (S 0) nm) (hct : F 78 = S 0) (hld : LsP g tl (E 0) (F 76) nd) (hcd : 0 ≤ F 76 ∧ F 76 ≤ 7) (hde : E 0 = E 1 → E 0 = g.2.1 3) (sz : Nat) : MwrV l g yX8_become cX8_become 3 7 1 10 [.ref (ad 3), .ref (ad 21)] sz (CW g ad F A E tl) (fun w => ∃ (m : Int) (r : Nat) (t : va_W), w = CW g ad (va_up (va_up (va_up (va_up (va_up (va_up (va_up (va_up (va_up (va_up (va_up (va_up F 4 (F 22)) 6 (F 24)) 9 (F 27)) 11 (F 29)) 13 (F 31)) 15 (F 33)) 17 (F 35)) 60 (F 63)) 61 (F 64)) 62 (F 65)) 75 m) 76 (S 0)) (va_up (va_up (va_up (va_up (va_up (va_up (va_up A 5 (A 23)) 7 (A 25)) 10 (A 28)) 12 (A 30)) 14 (A 32)) 16 (A 34)) 18 (A 36)) (va_up E 0 r) t ∧ TlK tl t ∧ LsP g t r (S 0) nm ∧ LsP g t (E 1) (S 0) nm ∧ (r = E 1 → r = g.2.1 3)) := by
  refine wr_startV (own := RX8) (by decide) rfl (Nat.le_of_ble_eq_true rfl) ?_
  intro Pg Ev s Mi args below Mt Cd ls Q Aw hC hK hS hnm hl hQ
  have hD0 := hI.1
  have hl : lv_has ls 3 [(0, .ref (ad 3)), (1, .ref (ad 21))] := hl
  obtain ⟨H, hH⟩ : ∃ H, H = s.heap := ⟨_, rfl⟩
  obtain ⟨locs, hlo⟩ : ∃ locs : List Loc, locs = [] := ⟨_, rfl⟩
  have hS : St g Aw s.heap H locs (CW g ad F A E tl) := by rw [hH, hlo]; exact hS
  have goal : W Pg l Ev (rmC 7 1 10) s Mi args below Mt Cd H locs 0 0 Q (F0 Mi 0 ls []) := ?goal
  · rw [hH, hlo] at goal; exact goal
  clear hH hlo
  refine li_aload_n hC hl 0 rfl dX8_become_0 ?_
  refine li_get hC hK.1 ck_X8 (hS.1 3 _ rfl) 0 (by decide) fl_X8_14 rfl (v := .ref (ad 4)) rfl dX8_become_1 ?_
  refine li_aload_n hC hl 1 rfl dX8_become_4 ?_
  refine li_get hC hK.1 ck_X8 (hS.1 21 _ rfl) 0 (by decide) fl_X8_14 rfl (v := .ref (ad 22)) rfl dX8_become_5 ?_
  refine wr_callVv hC (c_X6_become l g (ws := CW g ad F A E tl) (i := 4) (j := 5) (i2 := 22) (j2 := 23) (a := (ad 4)) (b := (ad 5)) (a2 := (ad 22)) (b2 := (ad 23)) (n := 100) (f := (A 5)) (f2 := (A 23)) (sz := F 4) (sz2 := F 22) rfl rfl rfl rfl (Nat.le_of_ble_eq_true rfl) (by decide) (by decide) (by decide) (by decide) (ws2 := CW g ad (va_up F 4 (F 22)) (va_up A 5 (A 23)) E tl) rfl _) mk_X6_become ml_X8_55 (rr (by decide)) ⟨by simp only [rmC]; omega, by simp only [rmC]; omega⟩ hK hS (li_recv hK.1 ck_X6 (hS.1 4 _ rfl)) rfl hl.1 rfl (Nat.le_of_ble_eq_true rfl) dX8_become_8 (fun w H locs hp hS => ?_)
  subst hp
  refine li_aload_n hC hl 0 rfl dX8_become_11 ?_
  refine li_get hC hK.1 ck_X8 (hS.1 3 _ rfl) 1 (by decide) fl_X8_20 rfl (v := .ref (ad 6)) rfl dX8_become_12 ?_
  refine li_aload_n hC hl 1 rfl dX8_become_15 ?_
  refine li_get hC hK.1 ck_X8 (hS.1 21 _ rfl) 1 (by decide) fl_X8_20 rfl (v := .ref (ad 24)) rfl dX8_become_16 ?_
  refine wr_callVv hC (c_X6_become l g (ws := CW g ad (va_up F 4 (F 22)) (va_up A 5 (A 23)) E tl) (i := 6) (j := 7) (i2 := 24) (j2 := 25) (a := (ad 6)) (b := (ad 7)) (a2 := (ad 24)) (b2 := (ad 25)) (n := 100) (f := (A 7)) (f2 := (A 25)) (sz := F 6) (sz2 := F 24) rfl rfl rfl rfl (Nat.le_of_ble_eq_true rfl) (by decide) (by decide) (by decide) (by decide) (ws2 := CW g ad (va_up (va_up F 4 (F 22)) 6 (F 24)) (va_up (va_up A 5 (A 23)) 7 (A 25)) E tl) rfl _) mk_X6_become ml_X8_55 (rr (by decide)) ⟨by simp only [rmC]; omega, by simp only [rmC]; omega⟩ hK hS (li_recv hK.1 ck_X6 (hS.1 6 _ rfl)) rfl hl.1 rfl (Nat.le_of_ble_eq_true rfl) dX8_become_19 (fun w H locs hp hS => ?_)
  subst hp
  refine li_aload_n hC hl 0 rfl dX8_become_22 ?_
  refine li_get hC hK.1 ck_X8 (hS.1 3 _ rfl) 2 (by decide) fl_X8_26 rfl (v := .ref (ad 8)) rfl dX8_become_23 ?_
  have J29_1 : ∀ (m : Int) (t : va_W) (ls : Array Slot) (H : Heap) (locs : List Loc), St g Aw s.heap H locs (CW g ad (va_up (va_up (va_up (va_up F 4 (F 22)) 6 (F 24)) 75 m) 76 0) (va_up (va_up A 5 (A 23)) 7 (A 25)) E t) → lv_has ls 3 [(0, .ref (ad 3)), (1, .ref (ad 21))] → (TlK tl t) → (LsP g t (E 0) 0 nm) → (LsP g t (E 1) (S 0) nm) → W Pg l Ev (rmC 7 1 10) s Mi args below Mt Cd H locs 0 0 Q (F0 Mi 29 ls []) := by
    intro m t ls H locs hS hl hT hl1 hl2
    refine li_iconst hC dX8_become_29 ?_
    refine li_istore_n hC (lv' := [(2, .int (iI 0)), (0, .ref (ad 3)), (1, .ref (ad 21))]) hl (by decide) rfl dX8_become_30 (fun ls hl => ?_)
    have L31_2 : ∀ (fuel : Nat) (i : Int) (m : Int) (r : Nat) (t : va_W) (cc : Nat) (ss : Nat) (ls : Array Slot) (H : Heap) (locs : List Loc), St g Aw s.heap H locs (CW g ad (va_up (va_up (va_up (va_up F 4 (F 22)) 6 (F 24)) 75 m) 76 i) (va_up (va_up A 5 (A 23)) 7 (A 25)) (va_up E 0 r) t) → lv_has ls 3 [(0, .ref (ad 3)), (1, .ref (ad 21)), (2, .int (iI i))] → (0 ≤ i ∧ i ≤ S 0) → (TlK tl t) → (LsP g t r i nm) → (LsP g t (E 1) (S 0) nm) → (r = E 1 → r = g.2.1 3) → (ss = 10 * cc ∧ cc ≤ 1 ∧ (cc = 1 → 0 < i)) → ((S 0 - i).toNat) < fuel → W Pg l Ev (rmC 7 1 10) s Mi args below Mt Cd H locs cc ss Q (F0 Mi 31 ls []) := by
      intro fuel
      induction fuel with
      | zero => intro i m r t cc ss ls H locs hS hl hi hT hl1 hl2 hne hcc hm; exact absurd hm (Nat.not_lt_zero _)
      | succ fuel ih31 =>
        intro i m r t cc ss ls H locs hS hl hi hT hl1 hl2 hne hcc hm
        refine li_iload_n hC hl 2 rfl dX8_become_31 ?_
        refine li_aload_n hC hl 1 rfl dX8_become_32 ?_
        refine li_get hC hK.1 ck_X8 (hS.1 21 _ rfl) 2 (by decide) fl_X8_26 rfl (v := .ref (ad 26)) rfl dX8_become_33 ?_
        refine ro_callVi hC (c_Jx4a65c_size_8abf5 l g (ws := CW g ad (va_up (va_up (va_up (va_up F 4 (F 22)) 6 (F 24)) 75 m) 76 i) (va_up (va_up A 5 (A 23)) 7 (A 25)) (va_up E 0 r) t) (i := 26) (a := (ad 26)) (el := E 1) (m := F 77) (n := F 78) rfl) mk_Jx4a65c_size_8abf5 ml_X8_62 (rr (by decide)) ⟨by simp only [rmC]; omega, by simp only [rmC]; omega⟩ hK.1 (hS.ro hK) hS.1 (li_recv hK.1 ck_Jx4a65c (hS.1 26 _ rfl)) rfl hl.1 rfl (Nat.le_of_ble_eq_true rfl) dX8_become_36 ?_
        rw [show F 78 = S 0 from hct]
        refine li_icmp_ge (tgt := 67) hC (by decide) (rg (by omega) (by omega)) (rg (by omega) (by omega)) dX8_become_39 (fun c3 => ?_) (fun c3 => ?_)
        · refine li_aload_n hC hl 0 rfl dX8_become_67 ?_
          refine li_get hC hK.1 ck_X8 (hS.1 3 _ rfl) 3 (by decide) fl_X8_30 rfl (v := .ref (ad 9)) rfl dX8_become_68 ?_
          refine li_aload_n hC hl 1 rfl dX8_become_71 ?_
          refine li_get hC hK.1 ck_X8 (hS.1 21 _ rfl) 3 (by decide) fl_X8_30 rfl (v := .ref (ad 27)) rfl dX8_become_72 ?_
          refine wr_callVv hC (c_X6_become l g (ws := CW g ad (va_up (va_up (va_up (va_up F 4 (F 22)) 6 (F 24)) 75 m) 76 i) (va_up (va_up A 5 (A 23)) 7 (A 25)) (va_up E 0 r) t) (i := 9) (j := 10) (i2 := 27) (j2 := 28) (a := (ad 9)) (b := (ad 10)) (a2 := (ad 27)) (b2 := (ad 28)) (n := 7) (f := (A 10)) (f2 := (A 28)) (sz := F 9) (sz2 := F 27) rfl rfl rfl rfl (Nat.le_of_ble_eq_true rfl) (by decide) (by decide) (by decide) (by decide) (ws2 := CW g ad (va_up (va_up (va_up (va_up (va_up F 4 (F 22)) 6 (F 24)) 9 (F 27)) 75 m) 76 i) (va_up (va_up (va_up A 5 (A 23)) 7 (A 25)) 10 (A 28)) (va_up E 0 r) t) rfl _) mk_X6_become ml_X8_55 (rr (by decide)) ⟨by simp only [rmC]; omega, by simp only [rmC]; omega⟩ hK hS (li_recv hK.1 ck_X6 (hS.1 9 _ rfl)) rfl hl.1 rfl (Nat.le_of_ble_eq_true rfl) dX8_become_75 (fun w H locs hp hS => ?_)
          subst hp
          refine li_aload_n hC hl 0 rfl dX8_become_78 ?_
          refine li_get hC hK.1 ck_X8 (hS.1 3 _ rfl) 4 (by decide) fl_X8_33 rfl (v := .ref (ad 11)) rfl dX8_become_79 ?_
          refine li_aload_n hC hl 1 rfl dX8_become_82 ?_
          refine li_get hC hK.1 ck_X8 (hS.1 21 _ rfl) 4 (by decide) fl_X8_33 rfl (v := .ref (ad 29)) rfl dX8_become_83 ?_
          refine wr_callVv hC (c_X6_become l g (ws := CW g ad (va_up (va_up (va_up (va_up (va_up F 4 (F 22)) 6 (F 24)) 9 (F 27)) 75 m) 76 i) (va_up (va_up (va_up A 5 (A 23)) 7 (A 25)) 10 (A 28)) (va_up E 0 r) t) (i := 11) (j := 12) (i2 := 29) (j2 := 30) (a := (ad 11)) (b := (ad 12)) (a2 := (ad 29)) (b2 := (ad 30)) (n := 28) (f := (A 12)) (f2 := (A 30)) (sz := F 11) (sz2 := F 29) rfl rfl rfl rfl (Nat.le_of_ble_eq_true rfl) (by decide) (by decide) (by decide) (by decide) (ws2 := CW g ad (va_up (va_up (va_up (va_up (va_up (va_up F 4 (F 22)) 6 (F 24)) 9 (F 27)) 11 (F 29)) 75 m) 76 i) (va_up (va_up (va_up (va_up A 5 (A 23)) 7 (A 25)) 10 (A 28)) 12 (A 30)) (va_up E 0 r) t) rfl _) mk_X6_become ml_X8_55 (rr (by decide)) ⟨by simp only [rmC]; omega, by simp only [rmC]; omega⟩ hK hS (li_recv hK.1 ck_X6 (hS.1 11 _ rfl)) rfl hl.1 rfl (Nat.le_of_ble_eq_true rfl) dX8_become_86 (fun w H locs hp hS => ?_)
          subst hp
          refine li_aload_n hC hl 0 rfl dX8_become_89 ?_
          refine li_get hC hK.1 ck_X8 (hS.1 3 _ rfl) 5 (by decide) fl_X8_36 rfl (v := .ref (ad 13)) rfl dX8_become_90 ?_
          refine li_aload_n hC hl 1 rfl dX8_become_93 ?_
          refine li_get hC hK.1 ck_X8 (hS.1 21 _ rfl) 5 (by decide) fl_X8_36 rfl (v := .ref (ad 31)) rfl dX8_become_94 ?_
          refine wr_callVv hC (c_X6_become l g (ws := CW g ad (va_up (va_up (va_up (va_up (va_up (va_up F 4 (F 22)) 6 (F 24)) 9 (F 27)) 11 (F 29)) 75 m) 76 i) (va_up (va_up (va_up (va_up A 5 (A 23)) 7 (A 25)) 10 (A 28)) 12 (A 30)) (va_up E 0 r) t) (i := 13) (j := 14) (i2 := 31) (j2 := 32) (a := (ad 13)) (b := (ad 14)) (a2 := (ad 31)) (b2 := (ad 32)) (n := 15) (f := (A 14)) (f2 := (A 32)) (sz := F 13) (sz2 := F 31) rfl rfl rfl rfl (Nat.le_of_ble_eq_true rfl) (by decide) (by decide) (by decide) (by decide) (ws2 := CW g ad (va_up (va_up (va_up (va_up (va_up (va_up (va_up F 4 (F 22)) 6 (F 24)) 9 (F 27)) 11 (F 29)) 13 (F 31)) 75 m) 76 i) (va_up (va_up (va_up (va_up (va_up A 5 (A 23)) 7 (A 25)) 10 (A 28)) 12 (A 30)) 14 (A 32)) (va_up E 0 r) t) rfl _) mk_X6_become ml_X8_55 (rr (by decide)) ⟨by simp only [rmC]; omega, by simp only [rmC]; omega⟩ hK hS (li_recv hK.1 ck_X6 (hS.1 13 _ rfl)) rfl hl.1 rfl (Nat.le_of_ble_eq_true rfl) dX8_become_97 (fun w H locs hp hS => ?_)
          subst hp
          refine li_aload_n hC hl 0 rfl dX8_become_100 ?_
          refine li_get hC hK.1 ck_X8 (hS.1 3 _ rfl) 6 (by decide) fl_X8_39 rfl (v := .ref (ad 15)) rfl dX8_become_101 ?_
          refine li_aload_n hC hl 1 rfl dX8_become_104 ?_
          refine li_get hC hK.1 ck_X8 (hS.1 21 _ rfl) 6 (by decide) fl_X8_39 rfl (v := .ref (ad 33)) rfl dX8_become_105 ?_
          refine wr_callVv hC (c_X6_become l g (ws := CW g ad (va_up (va_up (va_up (va_up (va_up (va_up (va_up F 4 (F 22)) 6 (F 24)) 9 (F 27)) 11 (F 29)) 13 (F 31)) 75 m) 76 i) (va_up (va_up (va_up (va_up (va_up A 5 (A 23)) 7 (A 25)) 10 (A 28)) 12 (A 30)) 14 (A 32)) (va_up E 0 r) t) (i := 15) (j := 16) (i2 := 33) (j2 := 34) (a := (ad 15)) (b := (ad 16)) (a2 := (ad 33)) (b2 := (ad 34)) (n := 16) (f := (A 16)) (f2 := (A 34)) (sz := F 15) (sz2 := F 33) rfl rfl rfl rfl (Nat.le_of_ble_eq_true rfl) (by decide) (by decide) (by decide) (by decide) (ws2 := CW g ad (va_up (va_up (va_up (va_up (va_up (va_up (va_up (va_up F 4 (F 22)) 6 (F 24)) 9 (F 27)) 11 (F 29)) 13 (F 31)) 15 (F 33)) 75 m) 76 i) (va_up (va_up (va_up (va_up (va_up (va_up A 5 (A 23)) 7 (A 25)) 10 (A 28)) 12 (A 30)) 14 (A 32)) 16 (A 34)) (va_up E 0 r) t) rfl _) mk_X6_become ml_X8_55 (rr (by decide)) ⟨by simp only [rmC]; omega, by simp only [rmC]; omega⟩ hK hS (li_recv hK.1 ck_X6 (hS.1 15 _ rfl)) rfl hl.1 rfl (Nat.le_of_ble_eq_true rfl) dX8_become_108 (fun w H locs hp hS => ?_)
          subst hp
          refine li_aload_n hC hl 0 rfl dX8_become_111 ?_
          refine li_get hC hK.1 ck_X8 (hS.1 3 _ rfl) 7 (by decide) fl_X8_42 rfl (v := .ref (ad 17)) rfl dX8_become_112 ?_
          refine li_aload_n hC hl 1 rfl dX8_become_115 ?_
          refine li_get hC hK.1 ck_X8 (hS.1 21 _ rfl) 7 (by decide) fl_X8_42 rfl (v := .ref (ad 35)) rfl dX8_become_116 ?_
          refine wr_callVv hC (c_X6_become l g (ws := CW g ad (va_up (va_up (va_up (va_up (va_up (va_up (va_up (va_up F 4 (F 22)) 6 (F 24)) 9 (F 27)) 11 (F 29)) 13 (F 31)) 15 (F 33)) 75 m) 76 i) (va_up (va_up (va_up (va_up (va_up (va_up A 5 (A 23)) 7 (A 25)) 10 (A 28)) 12 (A 30)) 14 (A 32)) 16 (A 34)) (va_up E 0 r) t) (i := 17) (j := 18) (i2 := 35) (j2 := 36) (a := (ad 17)) (b := (ad 18)) (a2 := (ad 35)) (b2 := (ad 36)) (n := 16) (f := (A 18)) (f2 := (A 36)) (sz := F 17) (sz2 := F 35) rfl rfl rfl rfl (Nat.le_of_ble_eq_true rfl) (by decide) (by decide) (by decide) (by decide) (ws2 := CW g ad (va_up (va_up (va_up (va_up (va_up (va_up (va_up (va_up (va_up F 4 (F 22)) 6 (F 24)) 9 (F 27)) 11 (F 29)) 13 (F 31)) 15 (F 33)) 17 (F 35)) 75 m) 76 i) (va_up (va_up (va_up (va_up (va_up (va_up (va_up A 5 (A 23)) 7 (A 25)) 10 (A 28)) 12 (A 30)) 14 (A 32)) 16 (A 34)) 18 (A 36)) (va_up E 0 r) t) rfl _) mk_X6_become ml_X8_55 (rr (by decide)) ⟨by simp only [rmC]; omega, by simp only [rmC]; omega⟩ hK hS (li_recv hK.1 ck_X6 (hS.1 17 _ rfl)) rfl hl.1 rfl (Nat.le_of_ble_eq_true rfl) dX8_become_119 (fun w H locs hp hS => ?_)
          subst hp
          refine li_aload_n hC hl 0 rfl dX8_become_122 ?_
          refine li_aload_n hC hl 1 rfl dX8_become_123 ?_
          refine li_get hC hK.1 ck_X8 (hS.1 21 _ rfl) 9 (by decide) fl_X8_76 rfl (v := .int (iI (F 63))) rfl dX8_become_124 ?_
          refine li_put hC hK hS ck_X8 3 rfl 9 (by decide) fl_X8_76 rfl rfl (v := .int (iI (F 63))) rfl rfl (Nat.le_of_ble_eq_true rfl) (ws' := CW g ad (va_up (va_up (va_up (va_up (va_up (va_up (va_up (va_up (va_up (va_up F 4 (F 22)) 6 (F 24)) 9 (F 27)) 11 (F 29)) 13 (F 31)) 15 (F 33)) 17 (F 35)) 60 (F 63)) 75 m) 76 i) (va_up (va_up (va_up (va_up (va_up (va_up (va_up A 5 (A 23)) 7 (A 25)) 10 (A 28)) 12 (A 30)) 14 (A 32)) 16 (A 34)) 18 (A 36)) (va_up E 0 r) t) rfl dX8_become_127 (fun H locs hS => ?_)
          refine li_aload_n hC hl 0 rfl dX8_become_130 ?_
          refine li_aload_n hC hl 1 rfl dX8_become_131 ?_
          refine li_get hC hK.1 ck_X8 (hS.1 21 _ rfl) 10 (by decide) fl_X8_48 rfl (v := .int (iI (F 64))) rfl dX8_become_132 ?_
          refine li_put hC hK hS ck_X8 3 rfl 10 (by decide) fl_X8_48 rfl rfl (v := .int (iI (F 64))) rfl rfl (Nat.le_of_ble_eq_true rfl) (ws' := CW g ad (va_up (va_up (va_up (va_up (va_up (va_up (va_up (va_up (va_up (va_up (va_up F 4 (F 22)) 6 (F 24)) 9 (F 27)) 11 (F 29)) 13 (F 31)) 15 (F 33)) 17 (F 35)) 60 (F 63)) 61 (F 64)) 75 m) 76 i) (va_up (va_up (va_up (va_up (va_up (va_up (va_up A 5 (A 23)) 7 (A 25)) 10 (A 28)) 12 (A 30)) 14 (A 32)) 16 (A 34)) 18 (A 36)) (va_up E 0 r) t) rfl dX8_become_135 (fun H locs hS => ?_)
          refine li_aload_n hC hl 0 rfl dX8_become_138 ?_
          refine li_aload_n hC hl 1 rfl dX8_become_139 ?_
          refine li_get hC hK.1 ck_X8 (hS.1 21 _ rfl) 11 (by decide) fl_X8_52 rfl (v := .int (iI (F 65))) rfl dX8_become_140 ?_
          refine li_put hC hK hS ck_X8 3 rfl 11 (by decide) fl_X8_52 rfl rfl (v := .int (iI (F 65))) rfl rfl (Nat.le_of_ble_eq_true rfl) (ws' := CW g ad (va_up (va_up (va_up (va_up (va_up (va_up (va_up (va_up (va_up (va_up (va_up (va_up F 4 (F 22)) 6 (F 24)) 9 (F 27)) 11 (F 29)) 13 (F 31)) 15 (F 33)) 17 (F 35)) 60 (F 63)) 61 (F 64)) 62 (F 65)) 75 m) 76 i) (va_up (va_up (va_up (va_up (va_up (va_up (va_up A 5 (A 23)) 7 (A 25)) 10 (A 28)) 12 (A 30)) 14 (A 32)) 16 (A 34)) 18 (A 36)) (va_up E 0 r) t) rfl dX8_become_143 (fun H locs hS => ?_)
          exact hQ _ _ _ _ _ _ _ dX8_become_146 hS (by omega) (by omega) (by have hi2 : i = S 0 := (by omega); rw [hi2] at hl1 ⊢; exact ⟨m, r, t, rfl, hT, hl1, hl2, hne⟩)
        · refine li_aload_n hC hl 0 rfl dX8_become_42 ?_
          refine li_get hC hK.1 ck_X8 (hS.1 3 _ rfl) 2 (by decide) fl_X8_26 rfl (v := .ref (ad 8)) rfl dX8_become_43 ?_
          refine li_aload_n hC hl 1 rfl dX8_become_46 ?_
          refine li_get hC hK.1 ck_X8 (hS.1 21 _ rfl) 2 (by decide) fl_X8_26 rfl (v := .ref (ad 26)) rfl dX8_become_47 ?_
          refine li_iload_n hC hl 2 rfl dX8_become_50 ?_
          obtain ⟨kS, fS, hS1, hS2⟩ := lsp_pos hl2 (by omega)
          refine ro_callVq hC (c_Jx4a65c_get_915e3 l g (ws := CW g ad (va_up (va_up (va_up (va_up F 4 (F 22)) 6 (F 24)) 75 m) 76 i) (va_up (va_up A 5 (A 23)) 7 (A 25)) (va_up E 0 r) t) (i := 26) (j := 55 + kS) (a := (ad 26)) (el := E 1) (m := F 77) (n := F 78) (f := fS) rfl (by rw [CW_tl]; exact hS1) (k := i) ⟨by omega, by omega⟩ (by omega)) mk_Jx4a65c_get_915e3 ml_X8_66 (rr (by decide)) ⟨by simp only [rmC]; omega, by simp only [rmC]; omega⟩ hK.1 (hS.ro hK) hS.1 (li_recv hK.1 ck_Jx4a65c (hS.1 26 _ rfl)) rfl hl.1 rfl (Nat.le_of_ble_eq_true rfl) dX8_become_51 ?_
          rw [hS2 i.toNat (by omega), show va_rf (some (nm i.toNat)) = .ref (nm i.toNat) from rfl]
          refine li_castN hC hK.1 (nm_at hS.1 (nmp_k hNm hT) hI (i := i) (by omega)) cl_X8_70 dX8_become_54 ?_
          obtain ⟨kq10, hq11⟩ := nmp_k hNm hT i (by omega) (by omega)
          rcases hl1 with ⟨hz7, hL6⟩ | ⟨hn8, kL4, fL5, hL6a, hb9⟩
          · refine wr_callVz hC (c_add0 l g (ws := CW g ad (va_up (va_up (va_up (va_up F 4 (F 22)) 6 (F 24)) 75 m) 76 i) (va_up (va_up A 5 (A 23)) 7 (A 25)) (va_up E 0 r) t) (i := 8) (a := (ad 8)) (x := nm i.toNat) (qk := 55 + kq10) (m := m) (n := i) (kd := S (7 + i).toNat) (fs := nmV (ad 1) i (S (14 + i).toNat) (S (21 + i).toNat) (S (28 + i).toNat) (S (35 + i).toNat)) (by rw [← hL6]; rfl) hz7 (by rw [CW_tl]; exact hq11) (hI.2 i (by omega) (by omega)).1 (by omega) _) mk_Jx4a65c_add_9ea2d ml_X8_72 (rr (by decide)) ⟨by simp only [rmC]; omega, by simp only [rmC]; omega⟩ hK hS (li_recv hK.1 ck_Jx4a65c (hS.1 8 _ rfl)) rfl hl.1 rfl (Nat.le_of_ble_eq_true rfl) dX8_become_57 (fun v w H locs hp hS => ?_)
            obtain ⟨hv, r12, hp⟩ := hp
            rw [hp] at hS
            have hS0 : St g Aw s.heap H locs ((CW g ad (va_up (va_up (va_up (va_up F 4 (F 22)) 6 (F 24)) 75 (m + 1)) 76 1) (va_up (va_up A 5 (A 23)) 7 (A 25)) (va_up E 0 r12) t) ++ [(r12, obA g 10 (va_up (fun _ => none) 0 (some (nm i.toNat))))]) := hS
            have hS : St g Aw s.heap H locs (CW g ad (va_up (va_up (va_up (va_up F 4 (F 22)) 6 (F 24)) 75 (m + 1)) 76 (i + 1)) (va_up (va_up A 5 (A 23)) 7 (A 25)) (va_up E 0 r12) (t ++ [(r12, obA g 10 (va_up (fun _ => none) 0 (some (nm i.toNat))))])) := by rw [show i + 1 = 1 by omega]; exact hS0
            rw [hv]
            refine li_pop hC rfl dX8_become_60 ?_
            refine li_iinc hC (lv' := [(2, .int (iI (i + 1))), (0, .ref (ad 3)), (1, .ref (ad 21))]) hl 2 rfl (by decide) rfl dX8_become_61 (fun ls hl => ?_)
            refine li_goto (tgt := 31) hC (by decide) dX8_become_64 ?_
            exact ih31 (i + 1) (m + 1) r12 (t ++ [(r12, obA g 10 (va_up (fun _ => none) 0 (some (nm i.toNat))))]) (cc + 1) (ss + 10) _ _ _ hS (lv_sub hl [1, 2, 0] rfl) (by omega) (by exact hT.tr (tlk_app _ _)) (by refine Or.inr ⟨fresh_df hK hS0, t.length, va_up (fun _ => none) 0 (some (nm i.toNat)), by rw [List.getElem?_append_right (Nat.le_refl _), Nat.sub_self]; rfl, fun j hj => ?_⟩; rw [show j = 0 by omega, show i.toNat = 0 by omega]; exact up_same _ _ _) (by exact lsp_app hl2) (by intro e9; rcases hl2 with h9 | h9; { rw [e9]; exact h9.2 }; { obtain ⟨h8, k7, f7, h7, -⟩ := h9; exact absurd e9.symm (fresh_ne hS0 (k := 55 + k7) (by rw [CW_tl]; exact h7)) }) (by omega) (by omega)
          · refine wr_callVz hC (c_addA l g (ws := CW g ad (va_up (va_up (va_up (va_up F 4 (F 22)) 6 (F 24)) 75 m) 76 i) (va_up (va_up A 5 (A 23)) 7 (A 25)) (va_up E 0 r) t) (i := 8) (j := 55 + kL4) (a := (ad 8)) (el := r) (x := nm i.toNat) (qk := 55 + kq10) (m := m) (n := i) (kd := S (7 + i).toNat) (f := fL5) (fs := nmV (ad 1) i (S (14 + i).toNat) (S (21 + i).toNat) (S (28 + i).toNat) (S (35 + i).toNat)) rfl (by rw [CW_tl]; exact hL6a) (by rw [CW_tl]; exact hq11) (hI.2 i (by omega) (by omega)).1 (by omega) (by omega) (by omega) _) mk_Jx4a65c_add_9ea2d ml_X8_72 (rr (by decide)) ⟨by simp only [rmC]; omega, by simp only [rmC]; omega⟩ hK hS (li_recv hK.1 ck_Jx4a65c (hS.1 8 _ rfl)) rfl hl.1 rfl (Nat.le_of_ble_eq_true rfl) dX8_become_57 (fun v w H locs hp hS => ?_)
            obtain ⟨hv, hp⟩ := hp
            rw [hp, CW_set] at hS
            have hS : St g Aw s.heap H locs (CW g ad (va_up (va_up (va_up (va_up F 4 (F 22)) 6 (F 24)) 75 (m + 1)) 76 (i + 1)) (va_up (va_up A 5 (A 23)) 7 (A 25)) (va_up E 0 r) (t.set kL4 (r, obA g 10 (va_up fL5 (i).toNat (some (nm i.toNat)))))) := hS
            rw [hv]
            refine li_pop hC rfl dX8_become_60 ?_
            refine li_iinc hC (lv' := [(2, .int (iI (i + 1))), (0, .ref (ad 3)), (1, .ref (ad 21))]) hl 2 rfl (by decide) rfl dX8_become_61 (fun ls hl => ?_)
            refine li_goto (tgt := 31) hC (by decide) dX8_become_64 ?_
            exact ih31 (i + 1) (m + 1) r (t.set kL4 (r, obA g 10 (va_up fL5 (i).toNat (some (nm i.toNat))))) cc ss _ _ _ hS (lv_sub hl [1, 2, 0] rfl) (by omega) (by exact hT.tr (tlk_set hL6a)) (by refine lsp_set_own hn8 hL6a (fun j hj => ?_); rcases (show (j : Int) < i ∨ j = i.toNat by omega) with h9 | h9; { rw [up_ne _ _ (by omega)]; exact hb9 j h9 }; { rw [h9]; exact up_same _ _ _ }) (by rcases hl2 with h9 | h9; { exact Or.inl h9 }; { exact lsp_set (Or.inr h9) hL6a (fun e9 => hn8 (hne e9.symm)) }) (by exact hne) (by omega) (by omega)
    exact L31_2 (((S 0 - 0).toNat) + 1) 0 m (E 0) t 0 0 _ _ _ hS (lv_sub hl [1, 2, 0] rfl) (by omega) (by exact hT) (by exact hl1) (by exact hl2) (by exact hde) (by omega) (by omega)
  rcases hld with ⟨hz16, hL15⟩ | ⟨hn17, kL13, fL14, hL15a, -⟩
  · refine wr_callVv hC (c_clear0 l g (ws := CW g ad (va_up (va_up F 4 (F 22)) 6 (F 24)) (va_up (va_up A 5 (A 23)) 7 (A 25)) E tl) (i := 8) (a := (ad 8)) (el := E 0) (m := F 75) (n := F 76) rfl hz16 _) mk_Jx4a65c_clear_da8c8 ml_X8_59 (rr (by decide)) ⟨by simp only [rmC]; omega, by simp only [rmC]; omega⟩ hK hS (li_recv hK.1 ck_Jx4a65c (hS.1 8 _ rfl)) rfl hl.1 rfl (Nat.le_of_ble_eq_true rfl) dX8_become_26 (fun w H locs hp hS => ?_)
    rw [hp] at hS
    have hS : St g Aw s.heap H locs (CW g ad (va_up (va_up (va_up (va_up F 4 (F 22)) 6 (F 24)) 75 ((F 75) + 1)) 76 0) (va_up (va_up A 5 (A 23)) 7 (A 25)) E tl) := hS
    exact J29_1 ((F 75) + 1) tl _ _ _ hS (lv_sub hl [0, 1] rfl) ((TlK.rf _)) ((Or.inl ⟨rfl, hL15⟩)) (hls)
  · refine wr_callVv hC (c_clearA l g (ws := CW g ad (va_up (va_up F 4 (F 22)) 6 (F 24)) (va_up (va_up A 5 (A 23)) 7 (A 25)) E tl) (i := 8) (j := 55 + kL13) (a := (ad 8)) (el := E 0) (m := F 75) (n := F 76) (f := fL14) rfl (by rw [CW_tl]; exact hL15a) (by omega) (by omega) _) mk_Jx4a65c_clear_da8c8 ml_X8_59 (rr (by decide)) ⟨by simp only [rmC]; omega, by simp only [rmC]; omega⟩ hK hS (li_recv hK.1 ck_Jx4a65c (hS.1 8 _ rfl)) rfl hl.1 rfl (Nat.le_of_ble_eq_true rfl) dX8_become_26 (fun w H locs hp hS => ?_)
    obtain ⟨fq18, hp⟩ := hp
    rw [hp] at hS
    have hS : St g Aw s.heap H locs ((CW g ad (va_up (va_up (va_up (va_up F 4 (F 22)) 6 (F 24)) 75 ((F 75) + 1)) 76 0) (va_up (va_up A 5 (A 23)) 7 (A 25)) E tl).set (55 + kL13) (E 0, obA g 10 fq18)) := hS
    rw [CW_set] at hS
    exact J29_1 ((F 75) + 1) (tl.set kL13 (E 0, obA g 10 fq18)) _ _ _ hS (lv_sub hl [0, 1] rfl) ((tlk_set hL15a)) ((lsp_set_own hn17 hL15a (fun i h9 => by omega))) ((by rcases hls with h9 | h9; { exact Or.inl h9 }; { exact lsp_set (Or.inr h9) hL15a (fun e9 => hn17 (hde e9.symm)) }))
set_option maxHeartbeats 4000000 in
set_option maxRecDepth 100000 in
theorem c_X8_hold (l : Launch) (g : GG) (ad : Nat → Nat) (F : Nat → Int) (A : Nat → Nat → Int) (E : Nat → Nat) (tl : va_W) (S : Nat → Int) (nm : Nat → Nat) (hI : InvD S) (sz : Nat) : MwrV l g yX8_hold cX8_hold 2 3 0 0 [.ref (ad 3), .ref (ad 39)] sz (CW g ad F A E tl) (fun w => w = CW g ad (va_up (va_up (va_up (va_up F 6 (F 40)) 60 (F 60 + 1)) 61 (F 68)) 62 (F 69)) (va_up A 7 (A 41)) E tl) := by
  refine wr_startV (own := RX8) (by decide) rfl (Nat.le_of_ble_eq_true rfl) ?_
  intro Pg Ev s Mi args below Mt Cd ls Q Aw hC hK hS hnm hl hQ
  have hD0 := hI.1
  have hl : lv_has ls 2 [(0, .ref (ad 3)), (1, .ref (ad 39))] := hl
  obtain ⟨H, hH⟩ : ∃ H, H = s.heap := ⟨_, rfl⟩
  obtain ⟨locs, hlo⟩ : ∃ locs : List Loc, locs = [] := ⟨_, rfl⟩
  have hS : St g Aw s.heap H locs (CW g ad F A E tl) := by rw [hH, hlo]; exact hS
  have goal : W Pg l Ev (rmC 3 0 0) s Mi args below Mt Cd H locs 0 0 Q (F0 Mi 0 ls []) := ?goal
  · rw [hH, hlo] at goal; exact goal
  clear hH hlo
  refine li_aload_n hC hl 0 rfl dX8_hold_0 ?_
  refine li_get hC hK.1 ck_X8 (hS.1 3 _ rfl) 1 (by decide) fl_X8_20 rfl (v := .ref (ad 6)) rfl dX8_hold_1 ?_
  refine li_aload_n hC hl 1 rfl dX8_hold_4 ?_
  refine li_get hC hK.1 ck_X5 (hS.1 39 _ rfl) 1 (by decide) fl_X8_79 rfl (v := .ref (ad 40)) rfl dX8_hold_5 ?_
  refine wr_callVv hC (c_X6_become l g (ws := CW g ad F A E tl) (i := 6) (j := 7) (i2 := 40) (j2 := 41) (a := (ad 6)) (b := (ad 7)) (a2 := (ad 40)) (b2 := (ad 41)) (n := 100) (f := (A 7)) (f2 := (A 41)) (sz := F 6) (sz2 := F 40) rfl rfl rfl rfl (Nat.le_of_ble_eq_true rfl) (by decide) (by decide) (by decide) (by decide) (ws2 := CW g ad (va_up F 6 (F 40)) (va_up A 7 (A 41)) E tl) rfl _) mk_X6_become ml_X8_55 (rr (by decide)) ⟨by simp only [rmC]; omega, by simp only [rmC]; omega⟩ hK hS (li_recv hK.1 ck_X6 (hS.1 6 _ rfl)) rfl hl.1 rfl (Nat.le_of_ble_eq_true rfl) dX8_hold_8 (fun w H locs hp hS => ?_)
  subst hp
  refine li_aload_n hC hl 0 rfl dX8_hold_11 ?_
  refine li_aload_n hC hl 1 rfl dX8_hold_12 ?_
  refine li_get hC hK.1 ck_X5 (hS.1 39 _ rfl) 3 (by decide) fl_X8_82 rfl (v := .int (iI (F 68))) rfl dX8_hold_13 ?_
  refine li_put hC hK hS ck_X8 3 rfl 10 (by decide) fl_X8_48 rfl rfl (v := .int (iI (F 68))) rfl rfl (Nat.le_of_ble_eq_true rfl) (ws' := CW g ad (va_up (va_up F 6 (F 40)) 61 (F 68)) (va_up A 7 (A 41)) E tl) rfl dX8_hold_16 (fun H locs hS => ?_)
  refine li_aload_n hC hl 0 rfl dX8_hold_19 ?_
  refine li_aload_n hC hl 1 rfl dX8_hold_20 ?_
  refine li_get hC hK.1 ck_X5 (hS.1 39 _ rfl) 4 (by decide) fl_X8_83 rfl (v := .int (iI (F 69))) rfl dX8_hold_21 ?_
  refine li_put hC hK hS ck_X8 3 rfl 11 (by decide) fl_X8_52 rfl rfl (v := .int (iI (F 69))) rfl rfl (Nat.le_of_ble_eq_true rfl) (ws' := CW g ad (va_up (va_up (va_up F 6 (F 40)) 61 (F 68)) 62 (F 69)) (va_up A 7 (A 41)) E tl) rfl dX8_hold_24 (fun H locs hS => ?_)
  refine li_aload_n hC hl 0 rfl dX8_hold_27 ?_
  refine li_dup hC rfl dX8_hold_28 ?_
  refine li_get hC hK.1 ck_X8 (hS.1 3 _ rfl) 9 (by decide) fl_X8_76 rfl (v := .int (iI (F 60))) rfl dX8_hold_29 ?_
  refine li_iconst hC dX8_hold_32 ?_
  refine li_iadd hC dX8_hold_33 ?_
  refine li_put hC hK hS ck_X8 3 rfl 9 (by decide) fl_X8_76 rfl rfl (v := .int (iI ((F 60) + 1))) rfl rfl (Nat.le_of_ble_eq_true rfl) (ws' := CW g ad (va_up (va_up (va_up (va_up F 6 (F 40)) 60 ((F 60) + 1)) 61 (F 68)) 62 (F 69)) (va_up A 7 (A 41)) E tl) rfl dX8_hold_34 (fun H locs hS => ?_)
  exact hQ _ _ _ _ _ _ _ dX8_hold_37 hS (by omega) (by omega) (by rfl)
