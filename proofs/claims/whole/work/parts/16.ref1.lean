set_option maxHeartbeats 4000000 in
set_option maxRecDepth 100000 in
theorem c_X12_in (l : Launch) (g : GG) (v : Int) (low : Int) (high : Int) (hv : rng v) (h1 : rng low) (h2 : rng high) : MroZ l g yX12_in cX12_in 3 1 [.int (iI v), .int (iI low), .int (iI high)] (fun _ => True) (iI (b2 (low ≤ v ∧ v ≤ high))) := by
  refine ro_startZ (own := RX12) (by decide) rfl (Nat.le_of_ble_eq_true rfl) ?_
  intro Pg Ev s Mi args below Mt Cd ls Q hC hK hE hP hl hQ
  have hl : lv_has ls 3 [(0, .int (iI v)), (1, .int (iI low)), (2, .int (iI high))] := hl
  refine li_iload_n hC hl 0 rfl dX12_in_0 ?_
  refine li_iload_n hC hl 1 rfl dX12_in_1 ?_
  refine li_icmp_lt (tgt := 14) hC (by decide) hv h1 dX12_in_2 (fun c1 => ?_) (fun c1 => ?_)
  · refine li_iconst hC dX12_in_14 ?_
    exact hQ _ _ _ dX12_in_15 (Or.inl rfl) (iI_inj ((b2_f (by omega)).symm))
  · refine li_iload_n hC hl 0 rfl dX12_in_5 ?_
    refine li_iload_n hC hl 2 rfl dX12_in_6 ?_
    refine li_icmp_gt (tgt := 14) hC (by decide) hv h2 dX12_in_7 (fun c2 => ?_) (fun c2 => ?_)
    · refine li_iconst hC dX12_in_14 ?_
      exact hQ _ _ _ dX12_in_15 (Or.inl rfl) (iI_inj ((b2_f (by omega)).symm))
    · refine li_iconst hC dX12_in_10 ?_
      refine li_goto (tgt := 15) hC (by decide) dX12_in_11 ?_
      exact hQ _ _ _ dX12_in_15 (Or.inr rfl) (iI_inj ((b2_t (by omega)).symm))
set_option maxHeartbeats 4000000 in
set_option maxRecDepth 100000 in
theorem c_X12_within (l : Launch) (g : GG) (v : Int) (low : Int) (high : Int) (hv : rng v) (h1 : rng low) (h2 : rng high) : MroI l g yX12_within cX12_within 3 1 [.int (iI v), .int (iI low), .int (iI high)] (fun _ => True) (iI (clampS v low high)) := by
  refine ro_startI (own := RX12) (by decide) rfl (Nat.le_of_ble_eq_true rfl) ?_
  intro Pg Ev s Mi args below Mt Cd ls Q hC hK hE hP hl hQ
  have hl : lv_has ls 3 [(0, .int (iI v)), (1, .int (iI low)), (2, .int (iI high))] := hl
  refine li_iload_n hC hl 0 rfl dX12_within_0 ?_
  refine li_iload_n hC hl 1 rfl dX12_within_1 ?_
  refine li_icmp_ge (tgt := 9) hC (by decide) hv h1 dX12_within_2 (fun c1 => ?_) (fun c1 => ?_)
  · refine li_iload_n hC hl 0 rfl dX12_within_9 ?_
    refine li_iload_n hC hl 2 rfl dX12_within_10 ?_
    refine li_icmp_le (tgt := 18) hC (by decide) hv h2 dX12_within_11 (fun c2 => ?_) (fun c2 => ?_)
    · refine li_iload_n hC hl 0 rfl dX12_within_18 ?_
      exact hQ _ _ _ dX12_within_19 (iI_inj (by unfold clampS; (repeat' split) <;> omega))
    · refine li_iload_n hC hl 2 rfl dX12_within_14 ?_
      refine li_goto (tgt := 19) hC (by decide) dX12_within_15 ?_
      exact hQ _ _ _ dX12_within_19 (iI_inj (by unfold clampS; (repeat' split) <;> omega))
  · refine li_iload_n hC hl 1 rfl dX12_within_5 ?_
    refine li_goto (tgt := 19) hC (by decide) dX12_within_6 ?_
    exact hQ _ _ _ dX12_within_19 (iI_inj (by unfold clampS; (repeat' split) <;> omega))
set_option maxHeartbeats 4000000 in
set_option maxRecDepth 100000 in
theorem c_X12_apart (l : Launch) (g : GG) (a : Int) (b : Int) (ha : rng a) (hb : rng b) : MroI l g yX12_apart cX12_apart 2 1 [.int (iI a), .int (iI b)] (fun _ => True) (iI (if a < b then b - a else a - b)) := by
  refine ro_startI (own := RX12) (by decide) rfl (Nat.le_of_ble_eq_true rfl) ?_
  intro Pg Ev s Mi args below Mt Cd ls Q hC hK hE hP hl hQ
  have hl : lv_has ls 2 [(0, .int (iI a)), (1, .int (iI b))] := hl
  refine li_iload_n hC hl 0 rfl dX12_apart_0 ?_
  refine li_iload_n hC hl 1 rfl dX12_apart_1 ?_
  refine li_icmp_ge (tgt := 11) hC (by decide) ha hb dX12_apart_2 (fun c1 => ?_) (fun c1 => ?_)
  · refine li_iload_n hC hl 0 rfl dX12_apart_11 ?_
    refine li_iload_n hC hl 1 rfl dX12_apart_12 ?_
    refine li_isub hC dX12_apart_13 ?_
    exact hQ _ _ _ dX12_apart_14 (iI_inj (by split <;> omega))
  · refine li_iload_n hC hl 1 rfl dX12_apart_5 ?_
    refine li_iload_n hC hl 0 rfl dX12_apart_6 ?_
    refine li_isub hC dX12_apart_7 ?_
    refine li_goto (tgt := 14) hC (by decide) dX12_apart_8 ?_
    exact hQ _ _ _ dX12_apart_14 (iI_inj (by split <;> omega))
set_option maxHeartbeats 4000000 in
set_option maxRecDepth 100000 in
theorem c_X12_isName (l : Launch) (g : GG) (h0 : Nat) (S : Nat → Int) (n : Int) (hr : rng n) (hI : InvD S) : MroZ l g yX12_isName cX12_isName 2 2 [.ref h0, .int (iI n)] (RPic g h0 S) (iI (b2 (0 ≤ n ∧ n < S 0))) := by
  refine ro_startZ (own := RX12) (by decide) rfl (Nat.le_of_ble_eq_true rfl) ?_
  intro Pg Ev s Mi args below Mt Cd ls Q hC hK hE hP hl hQ
  have hP0 := hP
  obtain ⟨a1, fs, hO, hf, hA⟩ := hP0
  have hD0 := hI.1
  have hl : lv_has ls 2 [(0, .ref h0), (1, .int (iI n))] := hl
  refine li_iload_n hC hl 1 rfl dX12_isName_0 ?_
  refine li_iconst hC dX12_isName_1 ?_
  refine li_aload_n hC hl 0 rfl dX12_isName_2 ?_
  refine li_get hC hK ck_X12 hO 1 (by decide) fl_X12_9 rfl (v := .ref a1) hf dX12_isName_3 ?_
  refine li_iconst hC dX12_isName_6 ?_
  refine li_iald_k (k := 0) hC hK hA rfl (by decide) (by decide) dX12_isName_7 ?_
  refine li_iconst hC dX12_isName_8 ?_
  refine li_isub hC dX12_isName_9 ?_
  refine ro_callSi hC (c_X12_in l g n 0 ((S 0) - 1) hr (rg (by decide) (by decide)) (rg (by omega) (by omega))) mk_X12_in ml_X12_56 (rr (by decide)) ⟨Nat.le_of_ble_eq_true rfl, Nat.le_of_ble_eq_true rfl⟩ hK hE trivial rfl hl.1 rfl (Nat.le_of_ble_eq_true rfl) dX12_isName_10 ?_
  exact hQ _ _ _ dX12_isName_13 (b2_01 _) (iI_inj (b2_ext (by omega)))
set_option maxHeartbeats 4000000 in
set_option maxRecDepth 100000 in
theorem c_X12_isPlace (l : Launch) (g : GG) (p : Int) (hr : rng p) : MroZ l g yX12_isPlace cX12_isPlace 1 2 [.int (iI p)] (fun _ => True) (iI (b2 (0 ≤ p ∧ p ≤ 3))) := by
  refine ro_startZ (own := RX12) (by decide) rfl (Nat.le_of_ble_eq_true rfl) ?_
  intro Pg Ev s Mi args below Mt Cd ls Q hC hK hE hP hl hQ
  have hl : lv_has ls 1 [(0, .int (iI p))] := hl
  refine li_iload_n hC hl 0 rfl dX12_isPlace_0 ?_
  refine li_iconst hC dX12_isPlace_1 ?_
  refine li_iconst hC dX12_isPlace_2 ?_
  refine ro_callSi hC (c_X12_in l g p 0 3 hr (rg (by decide) (by decide)) (rg (by decide) (by decide))) mk_X12_in ml_X12_56 (rr (by decide)) ⟨Nat.le_of_ble_eq_true rfl, Nat.le_of_ble_eq_true rfl⟩ hK hE trivial rfl hl.1 rfl (Nat.le_of_ble_eq_true rfl) dX12_isPlace_3 ?_
  exact hQ _ _ _ dX12_isPlace_6 (b2_01 _) (iI_inj (b2_ext (by omega)))
set_option maxHeartbeats 4000000 in
set_option maxRecDepth 100000 in
theorem c_X12_orNone (l : Launch) (g : GG) (p : Int) (hr : rng p) : MroI l g yX12_orNone cX12_orNone 1 1 [.int (iI p)] (fun _ => True) (iI (if p = 4 then -5 else p)) := by
  refine ro_startI (own := RX12) (by decide) rfl (Nat.le_of_ble_eq_true rfl) ?_
  intro Pg Ev s Mi args below Mt Cd ls Q hC hK hE hP hl hQ
  have hl : lv_has ls 1 [(0, .int (iI p))] := hl
  refine li_iload_n hC hl 0 rfl dX12_orNone_0 ?_
  refine li_iconst hC dX12_orNone_1 ?_
  refine li_icmp_ne (tgt := 10) hC (by decide) hr (rg (by decide) (by decide)) dX12_orNone_2 (fun c1 => ?_) (fun c1 => ?_)
  · refine li_iload_n hC hl 0 rfl dX12_orNone_10 ?_
    exact hQ _ _ _ dX12_orNone_11 (iI_inj (by split <;> omega))
  · refine li_bipush hC (z := -5) rfl dX12_orNone_5 ?_
    refine li_goto (tgt := 11) hC (by decide) dX12_orNone_7 ?_
    exact hQ _ _ _ dX12_orNone_11 (iI_inj (by split <;> omega))
set_option maxHeartbeats 4000000 in
set_option maxRecDepth 100000 in
theorem c_X12_tellsOf (l : Launch) (g : GG) (h0 : Nat) (S : Nat → Int) (w : Int) (z : Int) (hH : InvH S) (hw : 0 ≤ w ∧ w ≤ 234) : MroI l g yX12_tellsOf cX12_tellsOf 3 1 [.ref h0, .int (iI w), .int (iI z)] (RPic g h0 S) (iI (tellsS S w z)) := by
  refine ro_startI (own := RX12) (by decide) rfl (Nat.le_of_ble_eq_true rfl) ?_
  intro Pg Ev s Mi args below Mt Cd ls Q hC hK hE hP hl hQ
  have hP0 := hP
  obtain ⟨a1, fs, hO, hf, hA⟩ := hP0
  have hH0 := hH.1
  have hl : lv_has ls 3 [(0, .ref h0), (1, .int (iI w)), (2, .int (iI z))] := hl
  refine li_aload_n hC hl 0 rfl dX12_tellsOf_0 ?_
  refine li_get hC hK ck_X12 hO 1 (by decide) fl_X12_9 rfl (v := .ref a1) hf dX12_tellsOf_1 ?_
  refine li_bipush hC (z := 6) rfl dX12_tellsOf_4 ?_
  refine li_iald_k (k := 6) hC hK hA rfl (by decide) (by decide) dX12_tellsOf_6 ?_
  refine li_iconst hC dX12_tellsOf_7 ?_
  refine li_icmp_ne (tgt := 15) hC (by decide) (rg (by omega) (by omega)) (rg (by decide) (by decide)) dX12_tellsOf_8 (fun c1 => ?_) (fun c1 => ?_)
  · refine li_aload_n hC hl 0 rfl dX12_tellsOf_15 ?_
    refine li_get hC hK ck_X12 hO 1 (by decide) fl_X12_9 rfl (v := .ref a1) hf dX12_tellsOf_16 ?_
    refine li_iload_n hC hl 1 rfl dX12_tellsOf_19 ?_
    refine li_aload_n hC hl 0 rfl dX12_tellsOf_20 ?_
    refine li_get hC hK ck_X12 hO 1 (by decide) fl_X12_9 rfl (v := .ref a1) hf dX12_tellsOf_21 ?_
    refine li_bipush hC (z := 6) rfl dX12_tellsOf_24 ?_
    refine li_iald_k (k := 6) hC hK hA rfl (by decide) (by decide) dX12_tellsOf_26 ?_
    refine li_iadd hC dX12_tellsOf_27 ?_
    refine li_iald hC hK hA ⟨by omega, by omega⟩ (by decide) dX12_tellsOf_28 ?_
    exact hQ _ _ _ dX12_tellsOf_29 (iI_inj (by unfold tellsS; split <;> first | rfl | omega))
  · refine li_iload_n hC hl 2 rfl dX12_tellsOf_11 ?_
    refine li_goto (tgt := 29) hC (by decide) dX12_tellsOf_12 ?_
    exact hQ _ _ _ dX12_tellsOf_29 (iI_inj (by unfold tellsS; split <;> first | rfl | omega))
set_option maxHeartbeats 4000000 in
set_option maxRecDepth 100000 in
theorem c_X12_wideNow (l : Launch) (g : GG) (h0 : Nat) (S : Nat → Int) (hH : InvH S) : MroI l g yX12_wideNow cX12_wideNow 1 2 [.ref h0] (RPic g h0 S) (iI (wideS S)) := by
  refine ro_startI (own := RX12) (by decide) rfl (Nat.le_of_ble_eq_true rfl) ?_
  intro Pg Ev s Mi args below Mt Cd ls Q hC hK hE hP hl hQ
  have hP0 := hP
  obtain ⟨a1, fs, hO, hf, hA⟩ := hP0
  have hT := tellsS_rng hH (w := 224) (z := 24) (Or.inl rfl) (by omega)
  have hl : lv_has ls 1 [(0, .ref h0)] := hl
  refine li_aload_n hC hl 0 rfl dX12_wideNow_0 ?_
  refine li_sipush hC (z := 224) rfl dX12_wideNow_1 ?_
  refine li_bipush hC (z := 24) rfl dX12_wideNow_4 ?_
  refine ro_callVi hC (c_X12_tellsOf l g h0 S 224 24 hH (by omega)) mk_X12_tellsOf ml_X12_138 (rr (by decide)) ⟨Nat.le_of_ble_eq_true rfl, Nat.le_of_ble_eq_true rfl⟩ hK hE hP (li_recv hK ck_X12 hO) rfl hl.1 rfl (Nat.le_of_ble_eq_true rfl) dX12_wideNow_6 ?_
  refine li_bipush hC (z := 10) rfl dX12_wideNow_9 ?_
  refine li_bipush hC (z := 30) rfl dX12_wideNow_11 ?_
  refine ro_callSi hC (c_X12_within l g (tellsS S 224 24) 10 30 (rg (by omega) (by omega)) (rg (by decide) (by decide)) (rg (by decide) (by decide))) mk_X12_within ml_X12_142 (rr (by decide)) ⟨Nat.le_of_ble_eq_true rfl, Nat.le_of_ble_eq_true rfl⟩ hK hE trivial rfl hl.1 rfl (Nat.le_of_ble_eq_true rfl) dX12_wideNow_13 ?_
  exact hQ _ _ _ dX12_wideNow_16 (iI_inj (by rfl))
set_option maxHeartbeats 4000000 in
set_option maxRecDepth 100000 in
theorem c_X12_riverNow (l : Launch) (g : GG) (h0 : Nat) (S : Nat → Int) (hH : InvH S) : MroI l g yX12_riverNow cX12_riverNow 1 2 [.ref h0] (RPic g h0 S) (iI (riverS S)) := by
  refine ro_startI (own := RX12) (by decide) rfl (Nat.le_of_ble_eq_true rfl) ?_
  intro Pg Ev s Mi args below Mt Cd ls Q hC hK hE hP hl hQ
  have hP0 := hP
  obtain ⟨a1, fs, hO, hf, hA⟩ := hP0
  have hl : lv_has ls 1 [(0, .ref h0)] := hl
  refine li_aload_n hC hl 0 rfl dX12_riverNow_0 ?_
  refine li_sipush hC (z := 229) rfl dX12_riverNow_1 ?_
  refine li_bipush hC (z := 99) rfl dX12_riverNow_4 ?_
  refine ro_callVi hC (c_X12_tellsOf l g h0 S 229 99 hH (by omega)) mk_X12_tellsOf ml_X12_138 (rr (by decide)) ⟨Nat.le_of_ble_eq_true rfl, Nat.le_of_ble_eq_true rfl⟩ hK hE hP (li_recv hK ck_X12 hO) rfl hl.1 rfl (Nat.le_of_ble_eq_true rfl) dX12_riverNow_6 ?_
  exact hQ _ _ _ dX12_riverNow_9 (iI_inj (by rfl))
set_option maxHeartbeats 4000000 in
set_option maxRecDepth 100000 in
theorem c_X12_rowAt (l : Launch) (g : GG) (h0 : Nat) (S : Nat → Int) (n : Int) (p : Int) (hn : 0 ≤ n ∧ n < S 0) (hp : 0 ≤ p ∧ p ≤ 4) (hI : InvD S) : MroI l g yX12_rowAt cX12_rowAt 3 1 [.ref h0, .int (iI n), .int (iI p)] (RPic g h0 S) (iI (rowS S n p)) := by
  refine ro_startI (own := RX12) (by decide) rfl (Nat.le_of_ble_eq_true rfl) ?_
  intro Pg Ev s Mi args below Mt Cd ls Q hC hK hE hP hl hQ
  have hP0 := hP
  obtain ⟨a1, fs, hO, hf, hA⟩ := hP0
  have hD0 := hI.1
  have hl : lv_has ls 3 [(0, .ref h0), (1, .int (iI n)), (2, .int (iI p))] := hl
  refine li_aload_n hC hl 0 rfl dX12_rowAt_0 ?_
  refine li_get hC hK ck_X12 hO 1 (by decide) fl_X12_9 rfl (v := .ref a1) hf dX12_rowAt_1 ?_
  refine li_bipush hC (z := 35) rfl dX12_rowAt_4 ?_
  refine li_iload_n hC hl 1 rfl dX12_rowAt_6 ?_
  refine li_iadd hC dX12_rowAt_7 ?_
  refine li_iald hC hK hA ⟨by omega, by omega⟩ (by decide) dX12_rowAt_8 ?_
  have q1 := hI.2 n (by omega) (by omega)
  refine li_iload_n hC hl 2 rfl dX12_rowAt_9 ?_
  refine li_iconst hC dX12_rowAt_10 ?_
  refine li_icmp_ne (tgt := 18) hC (by decide) (rg (by omega) (by omega)) (rg (by decide) (by decide)) dX12_rowAt_11 (fun c2 => ?_) (fun c2 => ?_)
  · refine li_iconst hC dX12_rowAt_18 ?_
    refine li_isub hC dX12_rowAt_19 ?_
    refine li_iload_n hC hl 2 rfl dX12_rowAt_20 ?_
    refine li_iconst hC dX12_rowAt_21 ?_
    refine li_icmp_ne (tgt := 29) hC (by decide) (rg (by omega) (by omega)) (rg (by decide) (by decide)) dX12_rowAt_22 (fun c3 => ?_) (fun c3 => ?_)
    · refine li_iconst hC dX12_rowAt_29 ?_
      refine li_iadd hC dX12_rowAt_30 ?_
      exact hQ _ _ _ dX12_rowAt_31 (iI_inj (by unfold rowS; (repeat' split) <;> omega))
    · refine li_iconst hC dX12_rowAt_25 ?_
      refine li_goto (tgt := 30) hC (by decide) dX12_rowAt_26 ?_
      refine li_iadd hC dX12_rowAt_30 ?_
      exact hQ _ _ _ dX12_rowAt_31 (iI_inj (by unfold rowS; (repeat' split) <;> omega))
  · refine li_iconst hC dX12_rowAt_14 ?_
    refine li_goto (tgt := 19) hC (by decide) dX12_rowAt_15 ?_
    refine li_isub hC dX12_rowAt_19 ?_
    refine li_iload_n hC hl 2 rfl dX12_rowAt_20 ?_
    refine li_iconst hC dX12_rowAt_21 ?_
    refine li_icmp_ne (tgt := 29) hC (by decide) (rg (by omega) (by omega)) (rg (by decide) (by decide)) dX12_rowAt_22 (fun c4 => ?_) (fun c4 => ?_)
    · refine li_iconst hC dX12_rowAt_29 ?_
      refine li_iadd hC dX12_rowAt_30 ?_
      exact hQ _ _ _ dX12_rowAt_31 (iI_inj (by unfold rowS; (repeat' split) <;> omega))
    · refine li_iconst hC dX12_rowAt_25 ?_
      refine li_goto (tgt := 30) hC (by decide) dX12_rowAt_26 ?_
      refine li_iadd hC dX12_rowAt_30 ?_
      exact hQ _ _ _ dX12_rowAt_31 (iI_inj (by unfold rowS; (repeat' split) <;> omega))
set_option maxHeartbeats 4000000 in
set_option maxRecDepth 100000 in
theorem c_X12_lengthOf (l : Launch) (g : GG) (h0 : Nat) (S : Nat → Int) (n : Int) (hn : 0 ≤ n ∧ n < S 0) (hI : InvD S) : MroI l g yX12_lengthOf cX12_lengthOf 3 2 [.ref h0, .int (iI n)] (RPic g h0 S) (iI (lenS S n)) := by
  refine ro_startI (own := RX12) (by decide) rfl (Nat.le_of_ble_eq_true rfl) ?_
  intro Pg Ev s Mi args below Mt Cd ls Q hC hK hE hP hl hQ
  have hP0 := hP
  obtain ⟨a1, fs, hO, hf, hA⟩ := hP0
  have hD0 := hI.1
  have hl : lv_has ls 3 [(0, .ref h0), (1, .int (iI n))] := hl
  refine li_aload_n hC hl 0 rfl dX12_lengthOf_0 ?_
  refine li_get hC hK ck_X12 hO 1 (by decide) fl_X12_9 rfl (v := .ref a1) hf dX12_lengthOf_1 ?_
  refine li_bipush hC (z := 21) rfl dX12_lengthOf_4 ?_
  refine li_iload_n hC hl 1 rfl dX12_lengthOf_6 ?_
  refine li_iadd hC dX12_lengthOf_7 ?_
  refine li_iald hC hK hA ⟨by omega, by omega⟩ (by decide) dX12_lengthOf_8 ?_
  have q1 := hI.2 n (by omega) (by omega)
  refine li_istore_n hC (lv' := [(2, .int (iI (S (21 + n).toNat))), (0, .ref h0), (1, .int (iI n))]) hl (by decide) rfl dX12_lengthOf_9 (fun ls hl => ?_)
  refine li_aload_n hC hl 1 rfl dX12_lengthOf_10 ?_
  refine li_get hC hK ck_X12 hO 1 (by decide) fl_X12_9 rfl (v := .ref a1) hf dX12_lengthOf_11 ?_
  refine li_bipush hC (z := 7) rfl dX12_lengthOf_14 ?_
  refine li_iload_n hC hl 2 rfl dX12_lengthOf_16 ?_
  refine li_iadd hC dX12_lengthOf_17 ?_
  refine li_iald hC hK hA ⟨by omega, by omega⟩ (by decide) dX12_lengthOf_18 ?_
  by_cases c2 : S (7 + n).toNat = 1
  · refine li_tableIn (tgt := 56) hC (rg (by omega) (by omega)) (by omega) (by omega) (off := 37) (by rw [c2]; rfl) (by decide) dX12_lengthOf_19 ?_
    refine li_iload_n hC hl 0 rfl dX12_lengthOf_56 ?_
    refine li_iload_n hC hl 0 rfl dX12_lengthOf_57 ?_
    refine li_iconst hC dX12_lengthOf_58 ?_
    refine li_idivN hC (by omega) (by omega) (by omega) (by omega) dX12_lengthOf_59 ?_
    refine li_iadd hC dX12_lengthOf_60 ?_
    exact hQ _ _ _ dX12_lengthOf_61 (iI_inj (by unfold lenS lenK; (repeat' split) <;> first | omega | rfl))
  by_cases c3 : S (7 + n).toNat = 2
  · refine li_tableIn (tgt := 90) hC (rg (by omega) (by omega)) (by omega) (by omega) (off := 71) (by rw [c3]; rfl) (by decide) dX12_lengthOf_19 ?_
    refine li_iload_n hC hl 0 rfl dX12_lengthOf_90 ?_
    exact hQ _ _ _ dX12_lengthOf_91 (iI_inj (by unfold lenS lenK; (repeat' split) <;> first | omega | rfl))
  by_cases c4 : S (7 + n).toNat = 3
  · refine li_tableIn (tgt := 62) hC (rg (by omega) (by omega)) (by omega) (by omega) (off := 43) (by rw [c4]; rfl) (by decide) dX12_lengthOf_19 ?_
    refine li_iload_n hC hl 0 rfl dX12_lengthOf_62 ?_
    refine li_aload_n hC hl 1 rfl dX12_lengthOf_63 ?_
    refine li_get hC hK ck_X12 hO 1 (by decide) fl_X12_9 rfl (v := .ref a1) hf dX12_lengthOf_64 ?_
    refine li_bipush hC (z := 14) rfl dX12_lengthOf_67 ?_
    refine li_iload_n hC hl 2 rfl dX12_lengthOf_69 ?_
    refine li_iadd hC dX12_lengthOf_70 ?_
    refine li_iald hC hK hA ⟨by omega, by omega⟩ (by decide) dX12_lengthOf_71 ?_
    refine li_iconst hC dX12_lengthOf_72 ?_
    refine li_idivN hC (by omega) (by omega) (by omega) (by omega) dX12_lengthOf_73 ?_
    refine li_isub hC dX12_lengthOf_74 ?_
    refine li_iconst hC dX12_lengthOf_75 ?_
    refine li_bipush hC (z := 9) rfl dX12_lengthOf_76 ?_
    refine ro_callSi hC (c_X12_within l g ((S (21 + n).toNat) - ((S (14 + n).toNat) / 3)) 1 9 (rg (by omega) (by omega)) (rg (by decide) (by decide)) (rg (by decide) (by decide))) mk_X12_within ml_X12_142 (rr (by decide)) ⟨Nat.le_of_ble_eq_true rfl, Nat.le_of_ble_eq_true rfl⟩ hK hE trivial rfl hl.1 rfl (Nat.le_of_ble_eq_true rfl) dX12_lengthOf_78 ?_
    exact hQ _ _ _ dX12_lengthOf_81 (iI_inj (by unfold lenS lenK; (repeat' split) <;> first | omega | rfl))
  by_cases c5 : S (7 + n).toNat = 4
  · refine li_tableIn (tgt := 82) hC (rg (by omega) (by omega)) (by omega) (by omega) (off := 63) (by rw [c5]; rfl) (by decide) dX12_lengthOf_19 ?_
    refine li_iload_n hC hl 0 rfl dX12_lengthOf_82 ?_
    refine li_iload_n hC hl 0 rfl dX12_lengthOf_83 ?_
    refine li_iconst hC dX12_lengthOf_84 ?_
    refine li_idivN hC (by omega) (by omega) (by omega) (by omega) dX12_lengthOf_85 ?_
    refine li_iadd hC dX12_lengthOf_86 ?_
    refine li_iconst hC dX12_lengthOf_87 ?_
    refine li_iadd hC dX12_lengthOf_88 ?_
    exact hQ _ _ _ dX12_lengthOf_89 (iI_inj (by unfold lenS lenK; (repeat' split) <;> first | omega | rfl))
  by_cases c6 : S (7 + n).toNat = 5
  · refine li_tableIn (tgt := 90) hC (rg (by omega) (by omega)) (by omega) (by omega) (off := 71) (by rw [c6]; rfl) (by decide) dX12_lengthOf_19 ?_
    refine li_iload_n hC hl 0 rfl dX12_lengthOf_90 ?_
    exact hQ _ _ _ dX12_lengthOf_91 (iI_inj (by unfold lenS lenK; (repeat' split) <;> first | omega | rfl))
  by_cases c7 : S (7 + n).toNat = 6
  · refine li_tableIn (tgt := 62) hC (rg (by omega) (by omega)) (by omega) (by omega) (off := 43) (by rw [c7]; rfl) (by decide) dX12_lengthOf_19 ?_
    refine li_iload_n hC hl 0 rfl dX12_lengthOf_62 ?_
    refine li_aload_n hC hl 1 rfl dX12_lengthOf_63 ?_
    refine li_get hC hK ck_X12 hO 1 (by decide) fl_X12_9 rfl (v := .ref a1) hf dX12_lengthOf_64 ?_
    refine li_bipush hC (z := 14) rfl dX12_lengthOf_67 ?_
    refine li_iload_n hC hl 2 rfl dX12_lengthOf_69 ?_
    refine li_iadd hC dX12_lengthOf_70 ?_
    refine li_iald hC hK hA ⟨by omega, by omega⟩ (by decide) dX12_lengthOf_71 ?_
    refine li_iconst hC dX12_lengthOf_72 ?_
    refine li_idivN hC (by omega) (by omega) (by omega) (by omega) dX12_lengthOf_73 ?_
    refine li_isub hC dX12_lengthOf_74 ?_
    refine li_iconst hC dX12_lengthOf_75 ?_
    refine li_bipush hC (z := 9) rfl dX12_lengthOf_76 ?_
    refine ro_callSi hC (c_X12_within l g ((S (21 + n).toNat) - ((S (14 + n).toNat) / 3)) 1 9 (rg (by omega) (by omega)) (rg (by decide) (by decide)) (rg (by decide) (by decide))) mk_X12_within ml_X12_142 (rr (by decide)) ⟨Nat.le_of_ble_eq_true rfl, Nat.le_of_ble_eq_true rfl⟩ hK hE trivial rfl hl.1 rfl (Nat.le_of_ble_eq_true rfl) dX12_lengthOf_78 ?_
    exact hQ _ _ _ dX12_lengthOf_81 (iI_inj (by unfold lenS lenK; (repeat' split) <;> first | omega | rfl))
  refine li_tableOut (tgt := 90) hC (rg (by omega) (by omega)) (by omega) (by decide) dX12_lengthOf_19 ?_
  refine li_iload_n hC hl 0 rfl dX12_lengthOf_90 ?_
  exact hQ _ _ _ dX12_lengthOf_91 (iI_inj (by unfold lenS lenK; (repeat' split) <;> first | omega | rfl))
set_option maxHeartbeats 4000000 in
set_option maxRecDepth 100000 in
theorem c_X12_firstAt (l : Launch) (g : GG) (h0 : Nat) (S : Nat → Int) (n : Int) (p : Int) (hn : 0 ≤ n ∧ n < S 0) (hp : 0 ≤ p ∧ p ≤ 4) (hI : InvD S) : MroI l g yX12_firstAt cX12_firstAt 3 3 [.ref h0, .int (iI n), .int (iI p)] (RPic g h0 S) (iI (firstS S n p)) := by
  refine ro_startI (own := RX12) (by decide) rfl (Nat.le_of_ble_eq_true rfl) ?_
  intro Pg Ev s Mi args below Mt Cd ls Q hC hK hE hP hl hQ
  have hP0 := hP
  obtain ⟨a1, fs, hO, hf, hA⟩ := hP0
  have hD0 := hI.1
  have hl : lv_has ls 3 [(0, .ref h0), (1, .int (iI n)), (2, .int (iI p))] := hl
  refine li_aload_n hC hl 0 rfl dX12_firstAt_0 ?_
  refine li_get hC hK ck_X12 hO 1 (by decide) fl_X12_9 rfl (v := .ref a1) hf dX12_firstAt_1 ?_
  refine li_bipush hC (z := 28) rfl dX12_firstAt_4 ?_
  refine li_iload_n hC hl 1 rfl dX12_firstAt_6 ?_
  refine li_iadd hC dX12_firstAt_7 ?_
  refine li_iald hC hK hA ⟨by omega, by omega⟩ (by decide) dX12_firstAt_8 ?_
  have q1 := hI.2 n (by omega) (by omega)
  refine li_iload_n hC hl 2 rfl dX12_firstAt_9 ?_
  refine li_if_ne (tgt := 17) hC (by decide) (rg (by omega) (by omega)) dX12_firstAt_10 (fun c2 => ?_) (fun c2 => ?_)
  · refine li_iload_n hC hl 2 rfl dX12_firstAt_17 ?_
    refine li_iconst hC dX12_firstAt_18 ?_
    refine li_icmp_ne (tgt := 31) hC (by decide) (rg (by omega) (by omega)) (rg (by decide) (by decide)) dX12_firstAt_19 (fun c3 => ?_) (fun c3 => ?_)
    · refine li_iconst hC dX12_firstAt_31 ?_
      refine li_iadd hC dX12_firstAt_32 ?_
      exact hQ _ _ _ dX12_firstAt_33 (iI_inj (by unfold firstS; (repeat' split) <;> omega))
    · refine li_aload_n hC hl 0 rfl dX12_firstAt_22 ?_
      refine li_iload_n hC hl 1 rfl dX12_firstAt_23 ?_
      refine ro_callVi hC (c_X12_lengthOf l g h0 S n (by omega) hI) mk_X12_lengthOf ml_X12_146 (rr (by decide)) ⟨Nat.le_of_ble_eq_true rfl, Nat.le_of_ble_eq_true rfl⟩ hK hE hP (li_recv hK ck_X12 hO) rfl hl.1 rfl (Nat.le_of_ble_eq_true rfl) dX12_firstAt_24 ?_
      have q4 := lenS_rng hI (n := n) (by omega)
      refine li_ineg hC dX12_firstAt_27 ?_
      refine li_goto (tgt := 32) hC (by decide) dX12_firstAt_28 ?_
      refine li_iadd hC dX12_firstAt_32 ?_
      exact hQ _ _ _ dX12_firstAt_33 (iI_inj (by unfold firstS; (repeat' split) <;> omega))
  · refine li_iconst hC dX12_firstAt_13 ?_
    refine li_goto (tgt := 32) hC (by decide) dX12_firstAt_14 ?_
    refine li_iadd hC dX12_firstAt_32 ?_
    exact hQ _ _ _ dX12_firstAt_33 (iI_inj (by unfold firstS; (repeat' split) <;> omega))
set_option maxHeartbeats 4000000 in
set_option maxRecDepth 100000 in
theorem c_X12_isAt (l : Launch) (g : GG) (h0 : Nat) (S : Nat → Int) (n : Int) (p : Int) (c : Int) (r : Int) (hn : 0 ≤ n ∧ n < S 0) (hp : 0 ≤ p ∧ p ≤ 4) (hc : -100 ≤ c ∧ c ≤ 100) (hr : -100 ≤ r ∧ r ≤ 100) (hI : InvD S) : MroZ l g yX12_isAt cX12_isAt 6 4 [.ref h0, .int (iI n), .int (iI p), .int (iI c), .int (iI r)] (RPic g h0 S) (iI (b2 (isAtS S n p c r))) := by
  refine ro_startZ (own := RX12) (by decide) rfl (Nat.le_of_ble_eq_true rfl) ?_
  intro Pg Ev s Mi args below Mt Cd ls Q hC hK hE hP hl hQ
  have hP0 := hP
  obtain ⟨a1, fs, hO, hf, hA⟩ := hP0
  have hD0 := hI.1
  have hl : lv_has ls 6 [(0, .ref h0), (1, .int (iI n)), (2, .int (iI p)), (3, .int (iI c)), (4, .int (iI r))] := hl
  refine li_iload_n hC hl 3 rfl dX12_isAt_0 ?_
  refine li_aload_n hC hl 0 rfl dX12_isAt_1 ?_
  refine li_iload_n hC hl 1 rfl dX12_isAt_2 ?_
  refine li_iload_n hC hl 2 rfl dX12_isAt_3 ?_
  refine ro_callVi hC (c_X12_firstAt l g h0 S n p (by omega) (by omega) hI) mk_X12_firstAt ml_X12_150 (rr (by decide)) ⟨Nat.le_of_ble_eq_true rfl, Nat.le_of_ble_eq_true rfl⟩ hK hE hP (li_recv hK ck_X12 hO) rfl hl.1 rfl (Nat.le_of_ble_eq_true rfl) dX12_isAt_4 ?_
  have q1 := firstS_rng hI (n := n) (p := p) (by omega)
  refine li_isub hC dX12_isAt_7 ?_
  refine li_istore hC (lv' := [(5, .int (iI (c - (firstS S n p)))), (0, .ref h0), (1, .int (iI n)), (2, .int (iI p)), (3, .int (iI c)), (4, .int (iI r))]) hl (by decide) rfl dX12_isAt_8 (fun ls hl => ?_)
  refine li_iload_n hC hl 3 rfl dX12_isAt_10 ?_
  refine li_iconst hC dX12_isAt_11 ?_
  refine li_icmp_eq (tgt := 45) hC (by decide) (rg (by omega) (by omega)) (rg (by decide) (by decide)) dX12_isAt_12 (fun c2 => ?_) (fun c2 => ?_)
  · refine li_iconst hC dX12_isAt_45 ?_
    exact hQ _ _ _ dX12_isAt_46 (Or.inl rfl) (iI_inj ((b2_f (by unfold isAtS; omega)).symm))
  · refine li_iload hC hl 5 rfl dX12_isAt_15 ?_
    refine li_aload_n hC hl 1 rfl dX12_isAt_17 ?_
    refine li_iload_n hC hl 2 rfl dX12_isAt_18 ?_
    refine li_iload_n hC hl 3 rfl dX12_isAt_19 ?_
    refine ro_callVi hC (c_X12_rowAt l g h0 S n p (by omega) (by omega) hI) mk_X12_rowAt ml_X12_153 (rr (by decide)) ⟨Nat.le_of_ble_eq_true rfl, Nat.le_of_ble_eq_true rfl⟩ hK hE hP (li_recv hK ck_X12 hO) rfl hl.1 rfl (Nat.le_of_ble_eq_true rfl) dX12_isAt_20 ?_
    have q3 := rowS_rng hI (n := n) (p := p) (by omega)
    refine li_icmp_ne (tgt := 45) hC (by decide) (rg (by omega) (by omega)) (rg (by omega) (by omega)) dX12_isAt_23 (fun c4 => ?_) (fun c4 => ?_)
    · refine li_iconst hC dX12_isAt_45 ?_
      exact hQ _ _ _ dX12_isAt_46 (Or.inl rfl) (iI_inj ((b2_f (by unfold isAtS; omega)).symm))
    · refine li_iload hC hl 0 rfl dX12_isAt_26 ?_
      refine li_if_lt (tgt := 45) hC (by decide) (rg (by omega) (by omega)) dX12_isAt_28 (fun c5 => ?_) (fun c5 => ?_)
      · refine li_iconst hC dX12_isAt_45 ?_
        exact hQ _ _ _ dX12_isAt_46 (Or.inl rfl) (iI_inj ((b2_f (by unfold isAtS; omega)).symm))
      · refine li_iload hC hl 0 rfl dX12_isAt_31 ?_
        refine li_aload_n hC hl 1 rfl dX12_isAt_33 ?_
        refine li_iload_n hC hl 2 rfl dX12_isAt_34 ?_
        refine ro_callVi hC (c_X12_lengthOf l g h0 S n (by omega) hI) mk_X12_lengthOf ml_X12_146 (rr (by decide)) ⟨Nat.le_of_ble_eq_true rfl, Nat.le_of_ble_eq_true rfl⟩ hK hE hP (li_recv hK ck_X12 hO) rfl hl.1 rfl (Nat.le_of_ble_eq_true rfl) dX12_isAt_35 ?_
        have q6 := lenS_rng hI (n := n) (by omega)
        refine li_icmp_ge (tgt := 45) hC (by decide) (rg (by omega) (by omega)) (rg (by omega) (by omega)) dX12_isAt_38 (fun c7 => ?_) (fun c7 => ?_)
        · refine li_iconst hC dX12_isAt_45 ?_
          exact hQ _ _ _ dX12_isAt_46 (Or.inl rfl) (iI_inj ((b2_f (by unfold isAtS; omega)).symm))
        · refine li_iconst hC dX12_isAt_41 ?_
          refine li_goto (tgt := 46) hC (by decide) dX12_isAt_42 ?_
          exact hQ _ _ _ dX12_isAt_46 (Or.inr rfl) (iI_inj ((b2_t (by unfold isAtS; omega)).symm))
