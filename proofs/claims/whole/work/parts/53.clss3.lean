set_option maxHeartbeats 4000000 in
set_option maxRecDepth 100000 in
theorem c_X8_goodness (l : Launch) (g : GG) (ad : Nat → Nat) (F : Nat → Int) (A : Nat → Nat → Int) (E : Nat → Nat) (tl : va_W) (S : Nat → Int) (nm : Nat → Nat) (hSh : ShW g ad F A E tl S nm) (hI : InvD S) (i : Int) (p : Int) (hH : InvH S) (hC0 : InvC S) (hG : InvG S) (hin : 0 ≤ i ∧ i < S 0) (hp : 0 ≤ p ∧ p ≤ 3) : MroI l g yX8_goodness cX8_goodness 5 6 [.ref (ad 3), .int (iI i), .int (iI p)] (fun H => va_P g.1 vwCl (CW g ad F A E tl) H) (iI (goodS S i p)) := by
  refine ro_startI (own := RX8) (by decide) rfl (Nat.le_of_ble_eq_true rfl) ?_
  intro Pg Ev s Mi args below Mt Cd ls Q hC hK hE hP hl hQ
  have hSh0 := hSh
  obtain ⟨hTp, hCd, hNs, hWh, hRw, hSn, hPl, hBk, hMp⟩ := hSh0
  have hNm := hNs.2.2
  have hD0 := hI.1
  have hNs0 := hNs.1
  have hrv := tellsS_rng hH (w := 229) (z := 99) (Or.inr rfl) (by omega)
  have hrv2 : 0 ≤ riverS S ∧ riverS S ≤ 99 := hrv
  have htr := tasteS_rng hC0 i p
  have hfr := firstS_rng hI (p := p) hin
  have hlr := lenS_rng hI hin
  have hl : lv_has ls 5 [(0, .ref (ad 3)), (1, .int (iI i)), (2, .int (iI p))] := hl
  refine li_aload_n hC hl 0 rfl dX8_goodness_0 ?_
  refine li_iload_n hC hl 1 rfl dX8_goodness_1 ?_
  refine ro_callVq hC (c_X8_name l g ad F A E tl S nm hSh hI i (rg (by omega) (by omega))) mk_X8_name ml_X8_91 (rr (by decide)) ⟨Nat.zero_le _, Nat.zero_le _⟩ hK hE hP (li_recv hK ck_X8 (hP 3 _ rfl)) rfl hl.1 rfl (Nat.le_of_ble_eq_true rfl) dX8_goodness_2 ?_
  rw [iteP_t (by omega), show va_rf (some (nm i.toNat)) = .ref (nm i.toNat) from rfl]
  have q2 := hI.2 i (by omega) (by omega)
  refine li_astore_n hC (lv' := [(3, .ref (nm i.toNat)), (0, .ref (ad 3)), (1, .int (iI i)), (2, .int (iI p))]) hl (by decide) rfl dX8_goodness_5 (fun ls hl => ?_)
  refine li_aload_n hC hl 0 rfl dX8_goodness_6 ?_
  refine li_ifnonnull (tgt := 12) hC (by decide) dX8_goodness_7 ?_
  refine li_aload_n hC hl 1 rfl dX8_goodness_12 ?_
  refine li_get hC hK ck_X8 (hP 3 _ rfl) 11 (by decide) fl_X8_52 rfl (v := .int (iI (riverS S))) (by rw [← show F 62 = riverS S from hMp.2.2]; rfl) dX8_goodness_13 ?_
  refine li_bipush hC (z := 44) rfl dX8_goodness_16 ?_
  refine li_icmp_ge (tgt := 46) hC (by decide) (rg (by omega) (by omega)) (rg (by decide) (by decide)) dX8_goodness_18 (fun c3 => ?_) (fun c3 => ?_)
  · refine li_iconst hC dX8_goodness_46 ?_
    refine li_istore hC (lv' := [(4, .int (iI 0)), (3, .ref (nm i.toNat)), (0, .ref (ad 3)), (1, .int (iI i)), (2, .int (iI p))]) hl (by decide) rfl dX8_goodness_47 (fun ls hl => ?_)
    refine li_bipush hC (z := 10) rfl dX8_goodness_49 ?_
    refine li_aload_n hC hl 2 rfl dX8_goodness_51 ?_
    refine li_aload_n hC hl 1 rfl dX8_goodness_52 ?_
    refine li_iload_n hC hl 4 rfl dX8_goodness_53 ?_
    refine ro_callVi hC (c_X8_taste l g ad F A E tl S nm hSh hI i p hC0 hG (by omega) (by omega)) mk_X8_taste ml_X8_157 (rr (by decide)) ⟨Nat.le_of_ble_eq_true rfl, Nat.le_of_ble_eq_true rfl⟩ hK hE hP (li_recv hK ck_X8 (hP 3 _ rfl)) rfl hl.1 rfl (Nat.le_of_ble_eq_true rfl) dX8_goodness_54 ?_
    refine li_iadd hC dX8_goodness_57 ?_
    refine li_iload hC hl 0 rfl dX8_goodness_58 ?_
    refine li_if_eq (tgt := 67) hC (by decide) (rg (by decide) (by decide)) dX8_goodness_60 (fun c4 => ?_) (fun c4 => ?_)
    · refine li_iconst hC dX8_goodness_67 ?_
      refine li_isub hC dX8_goodness_68 ?_
      exact hQ _ _ _ dX8_goodness_69 (iI_inj (by have hcv : (startN (S (28 + i).toNat) p (lenK (S (7 + i).toNat) (S (14 + i).toNat) (S (21 + i).toNat)) ≤ riverS S ∧ riverS S < startN (S (28 + i).toNat) p (lenK (S (7 + i).toNat) (S (14 + i).toNat) (S (21 + i).toNat)) + lenK (S (7 + i).toNat) (S (14 + i).toNat) (S (21 + i).toNat)) ↔ (0 ≤ riverS S - firstS S i p ∧ riverS S - firstS S i p < lenS S i) := (by rw [first_eq]; show _ ↔ (_ ∧ riverS S - firstS S i p < lenK (S (7 + i).toNat) (S (14 + i).toNat) (S (21 + i).toNat)); omega); unfold goodS; first | (rw [if_pos (by omega)]; done) | (rw [if_neg (by omega)]; done) | (rw [if_neg (by omega)]; omega)))
    · exact absurd c4 (by decide)
  · refine li_aload_n hC hl 0 rfl dX8_goodness_21 ?_
    refine li_iload_n hC hl 3 rfl dX8_goodness_22 ?_
    refine li_aload_n hC hl 0 rfl dX8_goodness_23 ?_
    refine li_getN2 hC hK (nm_at hP hNm hI (i := i) (by omega)) fl_X8_119 dX8_goodness_24 ?_
    refine li_aload_n hC hl 1 rfl dX8_goodness_27 ?_
    refine li_get hC hK ck_X8 (hP 3 _ rfl) 11 (by decide) fl_X8_52 rfl (v := .int (iI (riverS S))) (by rw [← show F 62 = riverS S from hMp.2.2]; rfl) dX8_goodness_28 ?_
    refine li_aload_n hC hl 0 rfl dX8_goodness_31 ?_
    refine li_iload_n hC hl 3 rfl dX8_goodness_32 ?_
    refine v_lineAt hC hK hE (nm_at hP hNm hI (i := i) (by omega)) (p0 := p) (by omega) (by omega) ml_X8_116 (rr (by decide)) ⟨Nat.zero_le _, Nat.zero_le _⟩ hl.1 rfl (Nat.le_of_ble_eq_true rfl) dX8_goodness_33 ?_
    have q5 : -1 ≤ lineN (S (35 + i).toNat) p ∧ lineN (S (35 + i).toNat) p ≤ 12 := by unfold lineN; (repeat' split) <;> omega
    refine v_covers hC hK hE (nm_at hP hNm hI (i := i) (by omega)) (p0 := p) (z := S (14 + i).toNat) (co := riverS S) (li := lineN (S (35 + i).toNat) p) (by omega) (by omega) (by omega) (by omega) (by omega) (by omega) (by omega) ml_X8_128 (rr (by decide)) ⟨Nat.zero_le _, Nat.zero_le _⟩ hl.1 rfl (Nat.le_of_ble_eq_true rfl) dX8_goodness_36 ?_
    refine li_ifeq_b (tgt := 46) hC (by decide) dX8_goodness_39 (fun c6 => ?_) (fun c6 => ?_)
    · refine li_iconst hC dX8_goodness_46 ?_
      refine li_istore hC (lv' := [(4, .int (iI 0)), (3, .ref (nm i.toNat)), (0, .ref (ad 3)), (1, .int (iI i)), (2, .int (iI p))]) hl (by decide) rfl dX8_goodness_47 (fun ls hl => ?_)
      refine li_bipush hC (z := 10) rfl dX8_goodness_49 ?_
      refine li_aload_n hC hl 2 rfl dX8_goodness_51 ?_
      refine li_aload_n hC hl 1 rfl dX8_goodness_52 ?_
      refine li_iload_n hC hl 4 rfl dX8_goodness_53 ?_
      refine ro_callVi hC (c_X8_taste l g ad F A E tl S nm hSh hI i p hC0 hG (by omega) (by omega)) mk_X8_taste ml_X8_157 (rr (by decide)) ⟨Nat.le_of_ble_eq_true rfl, Nat.le_of_ble_eq_true rfl⟩ hK hE hP (li_recv hK ck_X8 (hP 3 _ rfl)) rfl hl.1 rfl (Nat.le_of_ble_eq_true rfl) dX8_goodness_54 ?_
      refine li_iadd hC dX8_goodness_57 ?_
      refine li_iload hC hl 0 rfl dX8_goodness_58 ?_
      refine li_if_eq (tgt := 67) hC (by decide) (rg (by decide) (by decide)) dX8_goodness_60 (fun c7 => ?_) (fun c7 => ?_)
      · refine li_iconst hC dX8_goodness_67 ?_
        refine li_isub hC dX8_goodness_68 ?_
        exact hQ _ _ _ dX8_goodness_69 (iI_inj (by have hcv : (startN (S (28 + i).toNat) p (lenK (S (7 + i).toNat) (S (14 + i).toNat) (S (21 + i).toNat)) ≤ riverS S ∧ riverS S < startN (S (28 + i).toNat) p (lenK (S (7 + i).toNat) (S (14 + i).toNat) (S (21 + i).toNat)) + lenK (S (7 + i).toNat) (S (14 + i).toNat) (S (21 + i).toNat)) ↔ (0 ≤ riverS S - firstS S i p ∧ riverS S - firstS S i p < lenS S i) := (by rw [first_eq]; show _ ↔ (_ ∧ riverS S - firstS S i p < lenK (S (7 + i).toNat) (S (14 + i).toNat) (S (21 + i).toNat)); omega); unfold goodS; first | (rw [if_pos (by omega)]; done) | (rw [if_neg (by omega)]; done) | (rw [if_neg (by omega)]; omega)))
      · exact absurd c7 (by decide)
    · refine li_iconst hC dX8_goodness_42 ?_
      refine li_goto (tgt := 47) hC (by decide) dX8_goodness_43 ?_
      refine li_istore hC (lv' := [(4, .int (iI 1)), (3, .ref (nm i.toNat)), (0, .ref (ad 3)), (1, .int (iI i)), (2, .int (iI p))]) hl (by decide) rfl dX8_goodness_47 (fun ls hl => ?_)
      refine li_bipush hC (z := 10) rfl dX8_goodness_49 ?_
      refine li_aload_n hC hl 2 rfl dX8_goodness_51 ?_
      refine li_aload_n hC hl 1 rfl dX8_goodness_52 ?_
      refine li_iload_n hC hl 4 rfl dX8_goodness_53 ?_
      refine ro_callVi hC (c_X8_taste l g ad F A E tl S nm hSh hI i p hC0 hG (by omega) (by omega)) mk_X8_taste ml_X8_157 (rr (by decide)) ⟨Nat.le_of_ble_eq_true rfl, Nat.le_of_ble_eq_true rfl⟩ hK hE hP (li_recv hK ck_X8 (hP 3 _ rfl)) rfl hl.1 rfl (Nat.le_of_ble_eq_true rfl) dX8_goodness_54 ?_
      refine li_iadd hC dX8_goodness_57 ?_
      refine li_iload hC hl 0 rfl dX8_goodness_58 ?_
      refine li_if_eq (tgt := 67) hC (by decide) (rg (by decide) (by decide)) dX8_goodness_60 (fun c8 => ?_) (fun c8 => ?_)
      · exact absurd c8 (by decide)
      · refine li_iconst hC dX8_goodness_63 ?_
        refine li_goto (tgt := 68) hC (by decide) dX8_goodness_64 ?_
        refine li_isub hC dX8_goodness_68 ?_
        exact hQ _ _ _ dX8_goodness_69 (iI_inj (by have hcv : (startN (S (28 + i).toNat) p (lenK (S (7 + i).toNat) (S (14 + i).toNat) (S (21 + i).toNat)) ≤ riverS S ∧ riverS S < startN (S (28 + i).toNat) p (lenK (S (7 + i).toNat) (S (14 + i).toNat) (S (21 + i).toNat)) + lenK (S (7 + i).toNat) (S (14 + i).toNat) (S (21 + i).toNat)) ↔ (0 ≤ riverS S - firstS S i p ∧ riverS S - firstS S i p < lenS S i) := (by rw [first_eq]; show _ ↔ (_ ∧ riverS S - firstS S i p < lenK (S (7 + i).toNat) (S (14 + i).toNat) (S (21 + i).toNat)); omega); unfold goodS; first | (rw [if_pos (by omega)]; done) | (rw [if_neg (by omega)]; done) | (rw [if_neg (by omega)]; omega)))
set_option maxHeartbeats 4000000 in
set_option maxRecDepth 100000 in
theorem c_X8_score (l : Launch) (g : GG) (ad : Nat → Nat) (F : Nat → Int) (A : Nat → Nat → Int) (E : Nat → Nat) (tl : va_W) (S : Nat → Int) (nm : Nat → Nat) (hSh : ShW g ad F A E tl S nm) (hI : InvD S) (ri : Nat) (w : Int → Int) (hri : ri = 9 ∨ ri = 19) (hw : ∀ k : Int, 0 ≤ k → k < S 0 → A (ri + 1) k.toNat = w k) (hwr : ∀ k : Int, 0 ≤ k → k < S 0 → 0 ≤ w k ∧ w k ≤ 4) (hH : InvH S) (hC0 : InvC S) (hG : InvG S) : MroI l g yX8_score cX8_score 4 7 [.ref (ad 3), .ref (ad ri)] (fun H => va_P g.1 vwCl (CW g ad F A E tl) H) (iI (scoreW S w)) := by
  refine ro_startI (own := RX8) (by decide) rfl (Nat.le_of_ble_eq_true rfl) ?_
  intro Pg Ev s Mi args below Mt Cd ls Q hC hK hE hP hl hQ
  have hSh0 := hSh
  obtain ⟨hTp, hCd, hNs, hWh, hRw, hSn, hPl, hBk, hMp⟩ := hSh0
  have hNm := hNs.2.2
  have hD0 := hI.1
  have hNs0 := hNs.1
  have hl : lv_has ls 4 [(0, .ref (ad 3)), (1, .ref (ad ri))] := hl
  refine li_iconst hC dX8_score_0 ?_
  refine li_istore_n hC (lv' := [(2, .int (iI 0)), (0, .ref (ad 3)), (1, .ref (ad ri))]) hl (by decide) rfl dX8_score_1 (fun ls hl => ?_)
  refine li_iconst hC dX8_score_2 ?_
  refine li_istore_n hC (lv' := [(3, .int (iI 0)), (2, .int (iI 0)), (0, .ref (ad 3)), (1, .ref (ad ri))]) hl (by decide) rfl dX8_score_3 (fun ls hl => ?_)
  have L4_1 : ∀ (fuel : Nat) (n : Int) (z : Int) (ls : Array Slot), lv_has ls 4 [(0, .ref (ad 3)), (1, .ref (ad ri)), (2, .int (iI z)), (3, .int (iI n))] → (0 ≤ n ∧ n ≤ S 0) → (z = sumI (fun n => if w n = 4 then 0 else goodS S n (w n)) n.toNat) → ((S 0 - n).toNat) < fuel → W Pg l Ev (rmC 7 0 0) s Mi args below Mt Cd s.heap [] 0 0 Q (F0 Mi 4 ls []) := by
    intro fuel
    induction fuel with
    | zero => intro n z ls hl hn hz hm; exact absurd hm (Nat.not_lt_zero _)
    | succ fuel ih4 =>
      intro n z ls hl hn hz hm
      refine li_iload_n hC hl 3 rfl dX8_score_4 ?_
      refine li_aload_n hC hl 0 rfl dX8_score_5 ?_
      refine ro_callVi hC (c_X8_dots l g ad F A E tl S nm hSh hI) mk_X8_dots ml_X8_88 (rr (by decide)) ⟨Nat.le_of_ble_eq_true rfl, Nat.le_of_ble_eq_true rfl⟩ hK hE hP (li_recv hK ck_X8 (hP 3 _ rfl)) rfl hl.1 rfl (Nat.le_of_ble_eq_true rfl) dX8_score_6 ?_
      refine li_icmp_ge (tgt := 40) hC (by decide) (rg (by omega) (by omega)) (rg (by omega) (by omega)) dX8_score_9 (fun c2 => ?_) (fun c2 => ?_)
      · refine li_iload_n hC hl 2 rfl dX8_score_40 ?_
        exact hQ _ _ _ dX8_score_41 (iI_inj (by unfold scoreW; rw [hz, show n = S 0 by omega]))
      · refine li_aload_n hC hl 1 rfl dX8_score_12 ?_
        refine li_iload_n hC hl 3 rfl dX8_score_13 ?_
        refine ro_callVi hC (c_X6_get l g (ws := CW g ad F A E tl) (i := ri) (j := (ri + 1)) (a := (ad ri)) (b := (ad (ri + 1))) (n := 7) (f := (A (ri + 1))) (sz := F ri) (row_i hri) (row_j hri) (Nat.le_of_ble_eq_true rfl) (k := n) ⟨by omega, by omega⟩) mk_X6_get ml_X8_101 (rr (by decide)) ⟨Nat.zero_le _, Nat.zero_le _⟩ hK hE hP (li_recv hK ck_X6 (hP ri _ (row_i hri))) rfl hl.1 rfl (Nat.le_of_ble_eq_true rfl) dX8_score_14 ?_
        rw [hw n (by omega) (by omega)]
        have q3 := hwr n (by omega) (by omega)
        refine li_iconst hC dX8_score_17 ?_
        refine li_icmp_eq (tgt := 34) hC (by decide) (rg (by omega) (by omega)) (rg (by decide) (by decide)) dX8_score_18 (fun c4 => ?_) (fun c4 => ?_)
        · refine li_iinc hC (lv' := [(3, .int (iI (n + 1))), (0, .ref (ad 3)), (1, .ref (ad ri)), (2, .int (iI z))]) hl 3 rfl (by decide) rfl dX8_score_34 (fun ls hl => ?_)
          refine li_goto (tgt := 4) hC (by decide) dX8_score_37 ?_
          exact ih4 (n + 1) z _ (lv_sub hl [1, 2, 3, 0] rfl) (by omega) (by rw [sumI_s hn.1, ← hz]; first | (rw [if_pos (by assumption)]; done) | (rw [if_pos (by assumption)]; omega) | (rw [if_neg (by assumption)]; done)) (by omega)
        · refine li_iload_n hC hl 2 rfl dX8_score_21 ?_
          refine li_aload_n hC hl 0 rfl dX8_score_22 ?_
          refine li_iload_n hC hl 3 rfl dX8_score_23 ?_
          refine li_aload_n hC hl 1 rfl dX8_score_24 ?_
          refine li_iload_n hC hl 3 rfl dX8_score_25 ?_
          refine ro_callVi hC (c_X6_get l g (ws := CW g ad F A E tl) (i := ri) (j := (ri + 1)) (a := (ad ri)) (b := (ad (ri + 1))) (n := 7) (f := (A (ri + 1))) (sz := F ri) (row_i hri) (row_j hri) (Nat.le_of_ble_eq_true rfl) (k := n) ⟨by omega, by omega⟩) mk_X6_get ml_X8_101 (rr (by decide)) ⟨Nat.zero_le _, Nat.zero_le _⟩ hK hE hP (li_recv hK ck_X6 (hP ri _ (row_i hri))) rfl hl.1 rfl (Nat.le_of_ble_eq_true rfl) dX8_score_26 ?_
          rw [hw n (by omega) (by omega)]
          have q5 := hwr n (by omega) (by omega)
          refine ro_callVi hC (c_X8_goodness l g ad F A E tl S nm hSh hI n (w n) hH hC0 hG (by omega) (by omega)) mk_X8_goodness ml_X8_154 (rr (by decide)) ⟨Nat.le_of_ble_eq_true rfl, Nat.le_of_ble_eq_true rfl⟩ hK hE hP (li_recv hK ck_X8 (hP 3 _ rfl)) rfl hl.1 rfl (Nat.le_of_ble_eq_true rfl) dX8_score_29 ?_
          have q6 := goodS_rng hC0 n (w n)
          refine li_iadd hC dX8_score_32 ?_
          refine li_istore_n hC (lv' := [(2, .int (iI (z + (goodS S n (w n))))), (0, .ref (ad 3)), (1, .ref (ad ri)), (3, .int (iI n))]) hl (by decide) rfl dX8_score_33 (fun ls hl => ?_)
          refine li_iinc hC (lv' := [(3, .int (iI (n + 1))), (2, .int (iI (z + (goodS S n (w n))))), (0, .ref (ad 3)), (1, .ref (ad ri))]) hl 3 rfl (by decide) rfl dX8_score_34 (fun ls hl => ?_)
          refine li_goto (tgt := 4) hC (by decide) dX8_score_37 ?_
          exact ih4 (n + 1) (z + (goodS S n (w n))) _ (lv_sub hl [2, 3, 1, 0] rfl) (by omega) (by rw [sumI_s hn.1, ← hz]; first | (rw [if_pos (by assumption)]; done) | (rw [if_pos (by assumption)]; omega) | (rw [if_neg (by assumption)]; done)) (by omega)
  exact L4_1 (((S 0 - 0).toNat) + 1) 0 0 _ (lv_sub hl [2, 3, 1, 0] rfl) (by omega) (by rfl) (by omega)
set_option maxHeartbeats 4000000 in
set_option maxRecDepth 100000 in
theorem c_X8_fromMiddle (l : Launch) (g : GG) (ad : Nat → Nat) (F : Nat → Int) (A : Nat → Nat → Int) (E : Nat → Nat) (tl : va_W) (S : Nat → Int) (nm : Nat → Nat) (hSh : ShW g ad F A E tl S nm) (hI : InvD S) (i : Int) (d : Int) (hin : 0 ≤ i ∧ i < S 0) (hd : 0 ≤ d ∧ d < S 0) : MroI l g yX8_fromMiddle cX8_fromMiddle 8 6 [.ref (ad 3), .int (iI i), .int (iI d)] (fun H => va_P g.1 vwCl (CW g ad F A E tl) H) (iI (farS S i d)) := by
  refine ro_startI (own := RX8) (by decide) rfl (Nat.le_of_ble_eq_true rfl) ?_
  intro Pg Ev s Mi args below Mt Cd ls Q hC hK hE hP hl hQ
  have hSh0 := hSh
  obtain ⟨hTp, hCd, hNs, hWh, hRw, hSn, hPl, hBk, hMp⟩ := hSh0
  have hNm := hNs.2.2
  have hD0 := hI.1
  have hNs0 := hNs.1
  have hl : lv_has ls 8 [(0, .ref (ad 3)), (1, .int (iI i)), (2, .int (iI d))] := hl
  refine li_aload_n hC hl 0 rfl dX8_fromMiddle_0 ?_
  refine li_iload_n hC hl 1 rfl dX8_fromMiddle_1 ?_
  refine ro_callVq hC (c_X8_name l g ad F A E tl S nm hSh hI i (rg (by omega) (by omega))) mk_X8_name ml_X8_91 (rr (by decide)) ⟨Nat.zero_le _, Nat.zero_le _⟩ hK hE hP (li_recv hK ck_X8 (hP 3 _ rfl)) rfl hl.1 rfl (Nat.le_of_ble_eq_true rfl) dX8_fromMiddle_2 ?_
  rw [iteP_t (by omega), show va_rf (some (nm i.toNat)) = .ref (nm i.toNat) from rfl]
  have q2 := hI.2 i (by omega) (by omega)
  refine li_astore_n hC (lv' := [(3, .ref (nm i.toNat)), (0, .ref (ad 3)), (1, .int (iI i)), (2, .int (iI d))]) hl (by decide) rfl dX8_fromMiddle_5 (fun ls hl => ?_)
  refine li_aload_n hC hl 1 rfl dX8_fromMiddle_6 ?_
  refine li_iload_n hC hl 3 rfl dX8_fromMiddle_7 ?_
  refine ro_callVq hC (c_X8_name l g ad F A E tl S nm hSh hI d (rg (by omega) (by omega))) mk_X8_name ml_X8_91 (rr (by decide)) ⟨Nat.zero_le _, Nat.zero_le _⟩ hK hE hP (li_recv hK ck_X8 (hP 3 _ rfl)) rfl hl.1 rfl (Nat.le_of_ble_eq_true rfl) dX8_fromMiddle_8 ?_
  rw [iteP_t (by omega), show va_rf (some (nm d.toNat)) = .ref (nm d.toNat) from rfl]
  have q4 := hI.2 d (by omega) (by omega)
  refine li_astore hC (lv' := [(4, .ref (nm d.toNat)), (3, .ref (nm i.toNat)), (0, .ref (ad 3)), (1, .int (iI i)), (2, .int (iI d))]) hl (by decide) rfl dX8_fromMiddle_11 (fun ls hl => ?_)
  refine li_aload_n hC hl 1 rfl dX8_fromMiddle_13 ?_
  refine li_ifnull hC dX8_fromMiddle_14 ?_
  refine li_aload hC hl 0 rfl dX8_fromMiddle_17 ?_
  refine li_ifnonnull (tgt := 24) hC (by decide) dX8_fromMiddle_19 ?_
  refine li_aload_n hC hl 2 rfl dX8_fromMiddle_24 ?_
  refine li_get hC hK ck_X8 (hP 3 _ rfl) 3 (by decide) fl_X8_30 rfl (v := .ref (ad 9)) rfl dX8_fromMiddle_25 ?_
  refine li_iload_n hC hl 3 rfl dX8_fromMiddle_28 ?_
  refine ro_callVi hC (c_X6_get l g (ws := CW g ad F A E tl) (i := 9) (j := 10) (a := (ad 9)) (b := (ad 10)) (n := 7) (f := (A 10)) (sz := F 9) rfl rfl (Nat.le_of_ble_eq_true rfl) (k := i) ⟨by omega, by omega⟩) mk_X6_get ml_X8_101 (rr (by decide)) ⟨Nat.zero_le _, Nat.zero_le _⟩ hK hE hP (li_recv hK ck_X6 (hP 9 _ rfl)) rfl hl.1 rfl (Nat.le_of_ble_eq_true rfl) dX8_fromMiddle_29 ?_
  rw [hWh i (by omega) (by omega)]
  have q5 := hI.2 i (by omega) (by omega)
  refine li_istore hC (lv' := [(5, .int (iI (S (42 + i).toNat))), (4, .ref (nm d.toNat)), (3, .ref (nm i.toNat)), (0, .ref (ad 3)), (1, .int (iI i)), (2, .int (iI d))]) hl (by decide) rfl dX8_fromMiddle_32 (fun ls hl => ?_)
  refine li_aload_n hC hl 2 rfl dX8_fromMiddle_34 ?_
  refine li_aload_n hC hl 2 rfl dX8_fromMiddle_35 ?_
  refine li_getN2 hC hK (nm_at hP hNm hI (i := i) (by omega)) fl_X8_119 dX8_fromMiddle_36 ?_
  refine v_length hC hK hE (nm_at hP hNm hI (i := i) (by omega)) (z := S (14 + i).toNat) (by omega) (by omega) ml_X8_182 (rr (by decide)) ⟨Nat.zero_le _, Nat.zero_le _⟩ hl.1 rfl (Nat.le_of_ble_eq_true rfl) dX8_fromMiddle_39 ?_
  have q6 := lenK_rng (k := S (7 + i).toNat) (v := S (14 + i).toNat) (l := S (21 + i).toNat) (by omega) (by omega)
  refine li_istore hC (lv' := [(6, .int (iI (lenK (S (7 + i).toNat) (S (14 + i).toNat) (S (21 + i).toNat)))), (5, .int (iI (S (42 + i).toNat))), (4, .ref (nm d.toNat)), (3, .ref (nm i.toNat)), (0, .ref (ad 3)), (1, .int (iI i)), (2, .int (iI d))]) hl (by decide) rfl dX8_fromMiddle_42 (fun ls hl => ?_)
  refine li_aload_n hC hl 3 rfl dX8_fromMiddle_44 ?_
  refine li_iload hC hl 1 rfl dX8_fromMiddle_45 ?_
  refine li_iload hC hl 0 rfl dX8_fromMiddle_47 ?_
  refine v_startAt hC hK hE (nm_at hP hNm hI (i := i) (by omega)) (p0 := S (42 + i).toNat) (len := lenK (S (7 + i).toNat) (S (14 + i).toNat) (S (21 + i).toNat)) (by omega) (by omega) (by omega) ml_X8_185 (rr (by decide)) ⟨Nat.zero_le _, Nat.zero_le _⟩ hl.1 rfl (Nat.le_of_ble_eq_true rfl) dX8_fromMiddle_49 ?_
  have q7 : -14 ≤ startN (S (28 + i).toNat) (S (42 + i).toNat) (lenK (S (7 + i).toNat) (S (14 + i).toNat) (S (21 + i).toNat)) ∧ startN (S (28 + i).toNat) (S (42 + i).toNat) (lenK (S (7 + i).toNat) (S (14 + i).toNat) (S (21 + i).toNat)) ≤ 30 := by unfold startN; (repeat' split) <;> omega
  refine li_iload hC hl 0 rfl dX8_fromMiddle_52 ?_
  refine li_iconst hC dX8_fromMiddle_54 ?_
  refine li_idivN hC (by omega) (by omega) (by omega) (by omega) dX8_fromMiddle_55 ?_
  refine li_iadd hC dX8_fromMiddle_56 ?_
  refine li_istore hC (lv' := [(7, .int (iI ((startN (S (28 + i).toNat) (S (42 + i).toNat) (lenK (S (7 + i).toNat) (S (14 + i).toNat) (S (21 + i).toNat))) + ((lenK (S (7 + i).toNat) (S (14 + i).toNat) (S (21 + i).toNat)) / 2)))), (6, .int (iI (lenK (S (7 + i).toNat) (S (14 + i).toNat) (S (21 + i).toNat)))), (5, .int (iI (S (42 + i).toNat))), (4, .ref (nm d.toNat)), (3, .ref (nm i.toNat)), (0, .ref (ad 3)), (1, .int (iI i)), (2, .int (iI d))]) hl (by decide) rfl dX8_fromMiddle_57 (fun ls hl => ?_)
  refine li_iload hC hl 0 rfl dX8_fromMiddle_59 ?_
  refine li_aload hC hl 3 rfl dX8_fromMiddle_61 ?_
  refine li_getN4 hC hK (nm_at hP hNm hI (i := d) (by omega)) fl_X8_95 dX8_fromMiddle_63 ?_
  refine li_isub hC dX8_fromMiddle_66 ?_
  refine ro_callSi hC (c_J9_abs_0f7a4 l g (((startN (S (28 + i).toNat) (S (42 + i).toNat) (lenK (S (7 + i).toNat) (S (14 + i).toNat) (S (21 + i).toNat))) + ((lenK (S (7 + i).toNat) (S (14 + i).toNat) (S (21 + i).toNat)) / 2)) - (S (28 + d).toNat)) (rg (by omega) (by omega))) mk_J9_abs_0f7a4 ml_X8_188 (rr (by decide)) ⟨Nat.zero_le _, Nat.zero_le _⟩ hK hE trivial rfl hl.1 rfl (Nat.le_of_ble_eq_true rfl) dX8_fromMiddle_67 ?_
  refine li_aload_n hC hl 4 rfl dX8_fromMiddle_70 ?_
  refine li_iload hC hl 2 rfl dX8_fromMiddle_71 ?_
  refine v_lineAt hC hK hE (nm_at hP hNm hI (i := i) (by omega)) (p0 := S (42 + i).toNat) (by omega) (by omega) ml_X8_116 (rr (by decide)) ⟨Nat.zero_le _, Nat.zero_le _⟩ hl.1 rfl (Nat.le_of_ble_eq_true rfl) dX8_fromMiddle_73 ?_
  have q8 : -1 ≤ lineN (S (35 + i).toNat) (S (42 + i).toNat) ∧ lineN (S (35 + i).toNat) (S (42 + i).toNat) ≤ 12 := by unfold lineN; (repeat' split) <;> omega
  refine li_aload hC hl 3 rfl dX8_fromMiddle_76 ?_
  refine li_getN5 hC hK (nm_at hP hNm hI (i := d) (by omega)) fl_X8_98 dX8_fromMiddle_78 ?_
  refine li_isub hC dX8_fromMiddle_81 ?_
  refine ro_callSi hC (c_J9_abs_0f7a4 l g ((lineN (S (35 + i).toNat) (S (42 + i).toNat)) - (S (35 + d).toNat)) (rg (by omega) (by omega))) mk_J9_abs_0f7a4 ml_X8_188 (rr (by decide)) ⟨Nat.zero_le _, Nat.zero_le _⟩ hK hE trivial rfl hl.1 rfl (Nat.le_of_ble_eq_true rfl) dX8_fromMiddle_82 ?_
  refine li_iadd hC dX8_fromMiddle_85 ?_
  exact hQ _ _ _ dX8_fromMiddle_86 (iI_inj (by exact far_eq rfl))
set_option maxHeartbeats 4000000 in
set_option maxRecDepth 100000 in
theorem c_X8_mistaken (l : Launch) (g : GG) (ad : Nat → Nat) (F : Nat → Int) (A : Nat → Nat → Int) (E : Nat → Nat) (tl : va_W) (S : Nat → Int) (nm : Nat → Nat) (hSh : ShW g ad F A E tl S nm) (hI : InvD S) : MroI l g yX8_mistaken cX8_mistaken 4 7 [.ref (ad 3)] (fun H => va_P g.1 vwCl (CW g ad F A E tl) H) (iI (setB (mistS S) (S 0).toNat)) := by
  refine ro_startI (own := RX8) (by decide) rfl (Nat.le_of_ble_eq_true rfl) ?_
  intro Pg Ev s Mi args below Mt Cd ls Q hC hK hE hP hl hQ
  have hSh0 := hSh
  obtain ⟨hTp, hCd, hNs, hWh, hRw, hSn, hPl, hBk, hMp⟩ := hSh0
  have hNm := hNs.2.2
  have hD0 := hI.1
  have hNs0 := hNs.1
  have hl : lv_has ls 4 [(0, .ref (ad 3))] := hl
  refine li_iconst hC dX8_mistaken_0 ?_
  refine li_istore_n hC (lv' := [(1, .int (iI 0)), (0, .ref (ad 3))]) hl (by decide) rfl dX8_mistaken_1 (fun ls hl => ?_)
  refine li_iconst hC dX8_mistaken_2 ?_
  refine li_istore_n hC (lv' := [(2, .int (iI 0)), (1, .int (iI 0)), (0, .ref (ad 3))]) hl (by decide) rfl dX8_mistaken_3 (fun ls hl => ?_)
  have L4_1 : ∀ (fuel : Nat) (i : Int) (z : Int) (ls : Array Slot), lv_has ls 4 [(0, .ref (ad 3)), (1, .int (iI z)), (2, .int (iI i))] → (0 ≤ i ∧ i ≤ S 0) → (z = setB (mistS S) i.toNat) → ((S 0 - i).toNat) < fuel → W Pg l Ev (rmC 7 0 0) s Mi args below Mt Cd s.heap [] 0 0 Q (F0 Mi 4 ls []) := by
    intro fuel
    induction fuel with
    | zero => intro i z ls hl hi hz hm; exact absurd hm (Nat.not_lt_zero _)
    | succ fuel ih4 =>
      intro i z ls hl hi hz hm
      refine li_iload_n hC hl 2 rfl dX8_mistaken_4 ?_
      refine li_aload_n hC hl 0 rfl dX8_mistaken_5 ?_
      refine ro_callVi hC (c_X8_dots l g ad F A E tl S nm hSh hI) mk_X8_dots ml_X8_88 (rr (by decide)) ⟨Nat.le_of_ble_eq_true rfl, Nat.le_of_ble_eq_true rfl⟩ hK hE hP (li_recv hK ck_X8 (hP 3 _ rfl)) rfl hl.1 rfl (Nat.le_of_ble_eq_true rfl) dX8_mistaken_6 ?_
      refine li_icmp_ge (tgt := 67) hC (by decide) (rg (by omega) (by omega)) (rg (by omega) (by omega)) dX8_mistaken_9 (fun c2 => ?_) (fun c2 => ?_)
      · refine li_iload_n hC hl 1 rfl dX8_mistaken_67 ?_
        exact hQ _ _ _ dX8_mistaken_68 (iI_inj (by rw [hz, show i = S 0 by omega]))
      · refine li_iconst hC dX8_mistaken_12 ?_
        refine li_istore_n hC (lv' := [(3, .int (iI 0)), (0, .ref (ad 3)), (1, .int (iI z)), (2, .int (iI i))]) hl (by decide) rfl dX8_mistaken_13 (fun ls hl => ?_)
        have L14_3 : ∀ (fuel : Nat) (j : Int) (z : Int) (ls : Array Slot), lv_has ls 4 [(0, .ref (ad 3)), (2, .int (iI i)), (1, .int (iI z)), (3, .int (iI j))] → (0 ≤ j ∧ j ≤ S 0) → (z = setB (fun k => (k < i ∧ mistS S k) ∨ (k = i ∧ exB (fun d => S (42 + i).toNat ≠ 4 ∧ farS S i d < farS S i i) j)) (i + 1).toNat) → ((S 0 - j).toNat) < fuel → W Pg l Ev (rmC 7 0 0) s Mi args below Mt Cd s.heap [] 0 0 Q (F0 Mi 14 ls []) := by
          intro fuel
          induction fuel with
          | zero => intro j z ls hl hj hz hm; exact absurd hm (Nat.not_lt_zero _)
          | succ fuel ih14 =>
            intro j z ls hl hj hz hm
            refine li_iload_n hC hl 3 rfl dX8_mistaken_14 ?_
            refine li_aload_n hC hl 0 rfl dX8_mistaken_15 ?_
            refine ro_callVi hC (c_X8_dots l g ad F A E tl S nm hSh hI) mk_X8_dots ml_X8_88 (rr (by decide)) ⟨Nat.le_of_ble_eq_true rfl, Nat.le_of_ble_eq_true rfl⟩ hK hE hP (li_recv hK ck_X8 (hP 3 _ rfl)) rfl hl.1 rfl (Nat.le_of_ble_eq_true rfl) dX8_mistaken_16 ?_
            refine li_icmp_ge (tgt := 61) hC (by decide) (rg (by omega) (by omega)) (rg (by omega) (by omega)) dX8_mistaken_19 (fun c4 => ?_) (fun c4 => ?_)
            · refine li_iinc hC (lv' := [(2, .int (iI (i + 1))), (0, .ref (ad 3)), (1, .int (iI z)), (3, .int (iI j))]) hl 1 rfl (by decide) rfl dX8_mistaken_61 (fun ls hl => ?_)
              refine li_goto (tgt := 4) hC (by decide) dX8_mistaken_64 ?_
              exact ih4 (i + 1) z _ (lv_sub hl [1, 2, 0] rfl) (by omega) (by rw [hz]; have ej : j = S 0 := (by omega); rw [ej]; refine setB_ext (fun k h0 h1 => ?_); (try dsimp only); constructor; { intro h9; rcases h9 with h9 | h9; { exact h9.2 }; { rw [h9.1]; exact h9.2 } }; { intro h9; rcases (show k < i ∨ k = i by omega) with q | q; { exact Or.inl ⟨q, h9⟩ }; { exact Or.inr ⟨q, by rw [q] at h9; exact h9⟩ } }) (by omega)
            · refine li_aload_n hC hl 0 rfl dX8_mistaken_22 ?_
              refine li_get hC hK ck_X8 (hP 3 _ rfl) 3 (by decide) fl_X8_30 rfl (v := .ref (ad 9)) rfl dX8_mistaken_23 ?_
              refine li_iload_n hC hl 1 rfl dX8_mistaken_26 ?_
              refine ro_callVi hC (c_X6_get l g (ws := CW g ad F A E tl) (i := 9) (j := 10) (a := (ad 9)) (b := (ad 10)) (n := 7) (f := (A 10)) (sz := F 9) rfl rfl (Nat.le_of_ble_eq_true rfl) (k := i) ⟨by omega, by omega⟩) mk_X6_get ml_X8_101 (rr (by decide)) ⟨Nat.zero_le _, Nat.zero_le _⟩ hK hE hP (li_recv hK ck_X6 (hP 9 _ rfl)) rfl hl.1 rfl (Nat.le_of_ble_eq_true rfl) dX8_mistaken_27 ?_
              rw [hWh i (by omega) (by omega)]
              have q5 := hI.2 i (by omega) (by omega)
              refine li_iconst hC dX8_mistaken_30 ?_
              refine li_icmp_eq (tgt := 55) hC (by decide) (rg (by omega) (by omega)) (rg (by decide) (by decide)) dX8_mistaken_31 (fun c6 => ?_) (fun c6 => ?_)
              · refine li_iinc hC (lv' := [(3, .int (iI (j + 1))), (0, .ref (ad 3)), (2, .int (iI i)), (1, .int (iI z))]) hl 3 rfl (by decide) rfl dX8_mistaken_55 (fun ls hl => ?_)
                refine li_goto (tgt := 14) hC (by decide) dX8_mistaken_58 ?_
                exact ih14 (j + 1) z _ (lv_sub hl [1, 2, 3, 0] rfl) (by omega) (by rw [hz]; refine setB_ext (fun k h0 h1 => ?_); (try dsimp only); rw [exB_s (P := (fun d => S (42 + i).toNat ≠ 4 ∧ farS S i d < farS S i i)) hj.1]; constructor; { intro h9; rcases h9 with h9 | h9; { exact Or.inl h9 }; { exact Or.inr ⟨h9.1, Or.inl h9.2⟩ } }; { intro h9; rcases h9 with h9 | ⟨h9, h8⟩; { exact Or.inl h9 }; { rcases h8 with h8 | h8; { exact Or.inr ⟨h9, h8⟩ }; { exfalso; have h7 := h8.1; have h6 := h8.2; omega } } }) (by omega)
              · refine li_aload_n hC hl 0 rfl dX8_mistaken_34 ?_
                refine li_iload_n hC hl 1 rfl dX8_mistaken_35 ?_
                refine li_iload_n hC hl 3 rfl dX8_mistaken_36 ?_
                refine ro_callVi hC (c_X8_fromMiddle l g ad F A E tl S nm hSh hI i j (by omega) (by omega)) mk_X8_fromMiddle ml_X8_179 (rr (by decide)) ⟨Nat.le_of_ble_eq_true rfl, Nat.le_of_ble_eq_true rfl⟩ hK hE hP (li_recv hK ck_X8 (hP 3 _ rfl)) rfl hl.1 rfl (Nat.le_of_ble_eq_true rfl) dX8_mistaken_37 ?_
                have q7 := farS_rng hI (n := i) (d := j) (by omega) (by omega)
                refine li_aload_n hC hl 0 rfl dX8_mistaken_40 ?_
                refine li_iload_n hC hl 1 rfl dX8_mistaken_41 ?_
                refine li_iload_n hC hl 1 rfl dX8_mistaken_42 ?_
                refine ro_callVi hC (c_X8_fromMiddle l g ad F A E tl S nm hSh hI i i (by omega) (by omega)) mk_X8_fromMiddle ml_X8_179 (rr (by decide)) ⟨Nat.le_of_ble_eq_true rfl, Nat.le_of_ble_eq_true rfl⟩ hK hE hP (li_recv hK ck_X8 (hP 3 _ rfl)) rfl hl.1 rfl (Nat.le_of_ble_eq_true rfl) dX8_mistaken_43 ?_
                have q8 := farS_rng hI (n := i) (d := i) (by omega) (by omega)
                refine li_icmp_ge (tgt := 55) hC (by decide) (rg (by omega) (by omega)) (rg (by omega) (by omega)) dX8_mistaken_46 (fun c9 => ?_) (fun c9 => ?_)
                · refine li_iinc hC (lv' := [(3, .int (iI (j + 1))), (0, .ref (ad 3)), (2, .int (iI i)), (1, .int (iI z))]) hl 3 rfl (by decide) rfl dX8_mistaken_55 (fun ls hl => ?_)
                  refine li_goto (tgt := 14) hC (by decide) dX8_mistaken_58 ?_
                  exact ih14 (j + 1) z _ (lv_sub hl [1, 2, 3, 0] rfl) (by omega) (by rw [hz]; refine setB_ext (fun k h0 h1 => ?_); (try dsimp only); rw [exB_s (P := (fun d => S (42 + i).toNat ≠ 4 ∧ farS S i d < farS S i i)) hj.1]; constructor; { intro h9; rcases h9 with h9 | h9; { exact Or.inl h9 }; { exact Or.inr ⟨h9.1, Or.inl h9.2⟩ } }; { intro h9; rcases h9 with h9 | ⟨h9, h8⟩; { exact Or.inl h9 }; { rcases h8 with h8 | h8; { exact Or.inr ⟨h9, h8⟩ }; { exfalso; have h7 := h8.1; have h6 := h8.2; omega } } }) (by omega)
                · refine li_iload_n hC hl 2 rfl dX8_mistaken_49 ?_
                  refine li_iconst hC dX8_mistaken_50 ?_
                  refine li_iload_n hC hl 1 rfl dX8_mistaken_51 ?_
                  refine li_ishl hC dX8_mistaken_52 ?_
                  refine li_ior hC dX8_mistaken_53 ?_
                  refine li_istore_n hC (lv' := [(1, .int (iI (ior z (ishl 1 i)))), (0, .ref (ad 3)), (2, .int (iI i)), (3, .int (iI j))]) hl (by decide) rfl dX8_mistaken_54 (fun ls hl => ?_)
                  refine li_iinc hC (lv' := [(3, .int (iI (j + 1))), (1, .int (iI (ior z (ishl 1 i)))), (0, .ref (ad 3)), (2, .int (iI i))]) hl 3 rfl (by decide) rfl dX8_mistaken_55 (fun ls hl => ?_)
                  refine li_goto (tgt := 14) hC (by decide) dX8_mistaken_58 ?_
                  exact ih14 (j + 1) (ior z (ishl 1 i)) _ (lv_sub hl [2, 3, 1, 0] rfl) (by omega) (by rw [hz, setB_one (n := (i + 1).toNat) (by omega) (by omega) (by omega), setB_or (by omega)]; refine setB_ext (fun k h0 h1 => ?_); (try dsimp only); rw [exB_s (P := (fun d => S (42 + i).toNat ≠ 4 ∧ farS S i d < farS S i i)) hj.1]; constructor; { intro h9; rcases h9 with (h9 | h9) | h9; { exact Or.inl h9 }; { exact Or.inr ⟨h9.1, Or.inl h9.2⟩ }; { exact Or.inr ⟨h9, Or.inr ⟨by assumption, by omega⟩⟩ } }; { intro h9; rcases h9 with h9 | ⟨h9, h8⟩; { exact Or.inl (Or.inl h9) }; { exact Or.inr h9 } }) (by omega)
        exact L14_3 (((S 0 - 0).toNat) + 1) 0 z _ (lv_sub hl [1, 3, 2, 0] rfl) (by omega) (by rw [hz, show (i + 1).toNat = i.toNat + 1 by omega, setB, b2_f (by intro h9; rcases h9 with h9 | h9; { have := h9.1; omega }; { exact exB_0 _ h9.2 }), Int.zero_mul, Int.add_zero]; exact setB_ext (fun k h0 h1 => ⟨fun h9 => Or.inl ⟨by omega, h9⟩, fun h9 => h9.elim (fun q => q.2) (fun q => by have := q.1; omega)⟩)) (by omega)
  exact L4_1 (((S 0 - 0).toNat) + 1) 0 0 _ (lv_sub hl [2, 1, 0] rfl) (by omega) (by rfl) (by omega)
set_option maxHeartbeats 4000000 in
set_option maxRecDepth 100000 in
theorem c_X8_covering (l : Launch) (g : GG) (ad : Nat → Nat) (F : Nat → Int) (A : Nat → Nat → Int) (E : Nat → Nat) (tl : va_W) (S : Nat → Int) (nm : Nat → Nat) (hSh : ShW g ad F A E tl S nm) (hI : InvD S) (c : Int) (r : Int) (hc : 0 ≤ c ∧ c ≤ 29) (hr : 0 ≤ r ∧ r ≤ 11) : MroI l g yX8_covering cX8_covering 6 6 [.ref (ad 3), .int (iI c), .int (iI r)] (fun H => va_P g.1 vwCl (CW g ad F A E tl) H) (iI (atS S c r)) := by
  refine ro_startI (own := RX8) (by decide) rfl (Nat.le_of_ble_eq_true rfl) ?_
  intro Pg Ev s Mi args below Mt Cd ls Q hC hK hE hP hl hQ
  have hSh0 := hSh
  obtain ⟨hTp, hCd, hNs, hWh, hRw, hSn, hPl, hBk, hMp⟩ := hSh0
  have hNm := hNs.2.2
  have hD0 := hI.1
  have hNs0 := hNs.1
  have hl : lv_has ls 6 [(0, .ref (ad 3)), (1, .int (iI c)), (2, .int (iI r))] := hl
  refine li_iconst hC dX8_covering_0 ?_
  refine li_istore_n hC (lv' := [(3, .int (iI 0)), (0, .ref (ad 3)), (1, .int (iI c)), (2, .int (iI r))]) hl (by decide) rfl dX8_covering_1 (fun ls hl => ?_)
  refine li_iconst hC dX8_covering_2 ?_
  refine li_istore hC (lv' := [(4, .int (iI 0)), (3, .int (iI 0)), (0, .ref (ad 3)), (1, .int (iI c)), (2, .int (iI r))]) hl (by decide) rfl dX8_covering_3 (fun ls hl => ?_)
  have L5_1 : ∀ (fuel : Nat) (n : Int) (z : Int) (ls : Array Slot), lv_has ls 6 [(0, .ref (ad 3)), (1, .int (iI c)), (2, .int (iI r)), (3, .int (iI z)), (4, .int (iI n))] → (0 ≤ n ∧ n ≤ S 0) → (z = setB (fun n => isAtS S n (S (42 + n).toNat) c r) n.toNat) → ((S 0 - n).toNat) < fuel → W Pg l Ev (rmC 6 0 0) s Mi args below Mt Cd s.heap [] 0 0 Q (F0 Mi 5 ls []) := by
    intro fuel
    induction fuel with
    | zero => intro n z ls hl hn hz hm; exact absurd hm (Nat.not_lt_zero _)
    | succ fuel ih5 =>
      intro n z ls hl hn hz hm
      refine li_iload hC hl 4 rfl dX8_covering_5 ?_
      refine li_aload_n hC hl 0 rfl dX8_covering_7 ?_
      refine ro_callVi hC (c_X8_dots l g ad F A E tl S nm hSh hI) mk_X8_dots ml_X8_88 (rr (by decide)) ⟨Nat.le_of_ble_eq_true rfl, Nat.le_of_ble_eq_true rfl⟩ hK hE hP (li_recv hK ck_X8 (hP 3 _ rfl)) rfl hl.1 rfl (Nat.le_of_ble_eq_true rfl) dX8_covering_8 ?_
      refine li_icmp_ge (tgt := 77) hC (by decide) (rg (by omega) (by omega)) (rg (by omega) (by omega)) dX8_covering_11 (fun c2 => ?_) (fun c2 => ?_)
      · refine li_iload_n hC hl 3 rfl dX8_covering_77 ?_
        exact hQ _ _ _ dX8_covering_78 (iI_inj (by unfold atS; rw [hz, show n = S 0 by omega]))
      · refine li_aload_n hC hl 0 rfl dX8_covering_14 ?_
        refine li_iload hC hl 4 rfl dX8_covering_15 ?_
        refine ro_callVq hC (c_X8_name l g ad F A E tl S nm hSh hI n (rg (by omega) (by omega))) mk_X8_name ml_X8_91 (rr (by decide)) ⟨Nat.zero_le _, Nat.zero_le _⟩ hK hE hP (li_recv hK ck_X8 (hP 3 _ rfl)) rfl hl.1 rfl (Nat.le_of_ble_eq_true rfl) dX8_covering_17 ?_
        rw [iteP_t (by omega), show va_rf (some (nm n.toNat)) = .ref (nm n.toNat) from rfl]
        have q4 := hI.2 n (by omega) (by omega)
        refine li_astore hC (lv' := [(5, .ref (nm n.toNat)), (0, .ref (ad 3)), (1, .int (iI c)), (2, .int (iI r)), (3, .int (iI z)), (4, .int (iI n))]) hl (by decide) rfl dX8_covering_20 (fun ls hl => ?_)
        refine li_aload hC hl 0 rfl dX8_covering_22 ?_
        refine li_ifnull hC dX8_covering_24 ?_
        refine li_aload_n hC hl 1 rfl dX8_covering_27 ?_
        refine li_get hC hK ck_X8 (hP 3 _ rfl) 3 (by decide) fl_X8_30 rfl (v := .ref (ad 9)) rfl dX8_covering_28 ?_
        refine li_iload hC hl 5 rfl dX8_covering_31 ?_
        refine ro_callVi hC (c_X6_get l g (ws := CW g ad F A E tl) (i := 9) (j := 10) (a := (ad 9)) (b := (ad 10)) (n := 7) (f := (A 10)) (sz := F 9) rfl rfl (Nat.le_of_ble_eq_true rfl) (k := n) ⟨by omega, by omega⟩) mk_X6_get ml_X8_101 (rr (by decide)) ⟨Nat.zero_le _, Nat.zero_le _⟩ hK hE hP (li_recv hK ck_X6 (hP 9 _ rfl)) rfl hl.1 rfl (Nat.le_of_ble_eq_true rfl) dX8_covering_33 ?_
        rw [hWh n (by omega) (by omega)]
        have q5 := hI.2 n (by omega) (by omega)
        refine li_iconst hC dX8_covering_36 ?_
        refine li_icmp_eq (tgt := 71) hC (by decide) (rg (by omega) (by omega)) (rg (by decide) (by decide)) dX8_covering_37 (fun c6 => ?_) (fun c6 => ?_)
        · refine li_iinc hC (lv' := [(4, .int (iI (n + 1))), (5, .ref (nm n.toNat)), (0, .ref (ad 3)), (1, .int (iI c)), (2, .int (iI r)), (3, .int (iI z))]) hl 5 rfl (by decide) rfl dX8_covering_71 (fun ls hl => ?_)
          refine li_goto (tgt := 5) hC (by decide) dX8_covering_74 ?_
          exact ih5 (n + 1) z _ (lv_sub hl [2, 3, 4, 5, 0] rfl) (by omega) (by rw [hz]; exact setB_f (P := (fun n => isAtS S n (S (42 + n).toNat) c r)) hn.1 (by first | exact fun h9 => h9.1 (by assumption) | exact fun h9 => absurd ((cov_eq S (by omega)).mpr h9) (by assumption))) (by omega)
        · refine li_aload hC hl 0 rfl dX8_covering_40 ?_
          refine li_aload_n hC hl 1 rfl dX8_covering_42 ?_
          refine li_get hC hK ck_X8 (hP 3 _ rfl) 3 (by decide) fl_X8_30 rfl (v := .ref (ad 9)) rfl dX8_covering_43 ?_
          refine li_iload hC hl 5 rfl dX8_covering_46 ?_
          refine ro_callVi hC (c_X6_get l g (ws := CW g ad F A E tl) (i := 9) (j := 10) (a := (ad 9)) (b := (ad 10)) (n := 7) (f := (A 10)) (sz := F 9) rfl rfl (Nat.le_of_ble_eq_true rfl) (k := n) ⟨by omega, by omega⟩) mk_X6_get ml_X8_101 (rr (by decide)) ⟨Nat.zero_le _, Nat.zero_le _⟩ hK hE hP (li_recv hK ck_X6 (hP 9 _ rfl)) rfl hl.1 rfl (Nat.le_of_ble_eq_true rfl) dX8_covering_48 ?_
          rw [hWh n (by omega) (by omega)]
          have q7 := hI.2 n (by omega) (by omega)
          refine li_aload hC hl 0 rfl dX8_covering_51 ?_
          refine li_getN2 hC hK (nm_at hP hNm hI (i := n) (by omega)) fl_X8_119 dX8_covering_53 ?_
          refine li_iload_n hC hl 2 rfl dX8_covering_56 ?_
          refine li_iload_n hC hl 3 rfl dX8_covering_57 ?_
          refine v_covers hC hK hE (nm_at hP hNm hI (i := n) (by omega)) (p0 := S (42 + n).toNat) (z := S (14 + n).toNat) (co := c) (li := r) (by omega) (by omega) (by omega) (by omega) (by omega) (by omega) (by omega) ml_X8_128 (rr (by decide)) ⟨Nat.zero_le _, Nat.zero_le _⟩ hl.1 rfl (Nat.le_of_ble_eq_true rfl) dX8_covering_58 ?_
          refine li_ifeq_b (tgt := 71) hC (by decide) dX8_covering_61 (fun c8 => ?_) (fun c8 => ?_)
          · refine li_iinc hC (lv' := [(4, .int (iI (n + 1))), (5, .ref (nm n.toNat)), (0, .ref (ad 3)), (1, .int (iI c)), (2, .int (iI r)), (3, .int (iI z))]) hl 5 rfl (by decide) rfl dX8_covering_71 (fun ls hl => ?_)
            refine li_goto (tgt := 5) hC (by decide) dX8_covering_74 ?_
            exact ih5 (n + 1) z _ (lv_sub hl [2, 3, 4, 5, 0] rfl) (by omega) (by rw [hz]; exact setB_f (P := (fun n => isAtS S n (S (42 + n).toNat) c r)) hn.1 (by first | exact fun h9 => h9.1 (by assumption) | exact fun h9 => absurd ((cov_eq S (by omega)).mpr h9) (by assumption))) (by omega)
          · refine li_iload_n hC hl 4 rfl dX8_covering_64 ?_
            refine li_iconst hC dX8_covering_65 ?_
            refine li_iload hC hl 5 rfl dX8_covering_66 ?_
            refine li_ishl hC dX8_covering_68 ?_
            refine li_ior hC dX8_covering_69 ?_
            refine li_istore_n hC (lv' := [(3, .int (iI (ior z (ishl 1 n)))), (5, .ref (nm n.toNat)), (0, .ref (ad 3)), (1, .int (iI c)), (2, .int (iI r)), (4, .int (iI n))]) hl (by decide) rfl dX8_covering_70 (fun ls hl => ?_)
            refine li_iinc hC (lv' := [(4, .int (iI (n + 1))), (3, .int (iI (ior z (ishl 1 n)))), (5, .ref (nm n.toNat)), (0, .ref (ad 3)), (1, .int (iI c)), (2, .int (iI r))]) hl 5 rfl (by decide) rfl dX8_covering_71 (fun ls hl => ?_)
            refine li_goto (tgt := 5) hC (by decide) dX8_covering_74 ?_
            exact ih5 (n + 1) (ior z (ishl 1 n)) _ (lv_sub hl [3, 4, 5, 1, 0] rfl) (by omega) (by rw [hz]; exact setB_t (P := (fun n => isAtS S n (S (42 + n).toNat) c r)) hn.1 (by omega) ((cov_eq S (by omega)).mp (by assumption))) (by omega)
  exact L5_1 (((S 0 - 0).toNat) + 1) 0 0 _ (lv_sub hl [2, 3, 4, 1, 0] rfl) (by omega) (by rfl) (by omega)
set_option maxHeartbeats 4000000 in
set_option maxRecDepth 100000 in
theorem c_X8_isAllSeen (l : Launch) (g : GG) (ad : Nat → Nat) (F : Nat → Int) (A : Nat → Nat → Int) (E : Nat → Nat) (tl : va_W) (S : Nat → Int) (nm : Nat → Nat) (hSh : ShW g ad F A E tl S nm) (hI : InvD S) (i : Int) (p : Int) (v : Int) (hL : InvL S) (hin : 0 ≤ i ∧ i < S 0) (hp : 0 ≤ p ∧ p ≤ 4) (hv : 0 ≤ v ∧ v ≤ 9) : MroZ l g yX8_isAllSeen cX8_isAllSeen 9 7 [.ref (ad 3), .int (iI i), .int (iI p), .int (iI v)] (fun H => va_P g.1 vwCl (CW g ad F A E tl) H) (iI (b2 (seenS (thatS S i p v)))) := by
  refine ro_startZ (own := RX8) (by decide) rfl (Nat.le_of_ble_eq_true rfl) ?_
  intro Pg Ev s Mi args below Mt Cd ls Q hC hK hE hP hl hQ
  have hSh0 := hSh
  obtain ⟨hTp, hCd, hNs, hWh, hRw, hSn, hPl, hBk, hMp⟩ := hSh0
  have hNm := hNs.2.2
  have hD0 := hI.1
  have hNs0 := hNs.1
  have hL2 := hL.1
  have hl : lv_has ls 9 [(0, .ref (ad 3)), (1, .int (iI i)), (2, .int (iI p)), (3, .int (iI v))] := hl
  refine li_aload_n hC hl 0 rfl dX8_isAllSeen_0 ?_
  refine li_iload_n hC hl 1 rfl dX8_isAllSeen_1 ?_
  refine ro_callVq hC (c_X8_name l g ad F A E tl S nm hSh hI i (rg (by omega) (by omega))) mk_X8_name ml_X8_91 (rr (by decide)) ⟨Nat.zero_le _, Nat.zero_le _⟩ hK hE hP (li_recv hK ck_X8 (hP 3 _ rfl)) rfl hl.1 rfl (Nat.le_of_ble_eq_true rfl) dX8_isAllSeen_2 ?_
  rw [iteP_t (by omega), show va_rf (some (nm i.toNat)) = .ref (nm i.toNat) from rfl]
  have q2 := hI.2 i (by omega) (by omega)
  refine li_astore hC (lv' := [(4, .ref (nm i.toNat)), (0, .ref (ad 3)), (1, .int (iI i)), (2, .int (iI p)), (3, .int (iI v))]) hl (by decide) rfl dX8_isAllSeen_5 (fun ls hl => ?_)
  refine li_aload hC hl 0 rfl dX8_isAllSeen_7 ?_
  refine li_ifnonnull (tgt := 14) hC (by decide) dX8_isAllSeen_9 ?_
  refine li_iconst hC dX8_isAllSeen_14 ?_
  refine li_istore hC (lv' := [(5, .int (iI 0)), (4, .ref (nm i.toNat)), (0, .ref (ad 3)), (1, .int (iI i)), (2, .int (iI p)), (3, .int (iI v))]) hl (by decide) rfl dX8_isAllSeen_15 (fun ls hl => ?_)
  have L17_3 : ∀ (fuel : Nat) (k : Int) (ls : Array Slot), lv_has ls 9 [(4, .ref (nm i.toNat)), (0, .ref (ad 3)), (1, .int (iI i)), (2, .int (iI p)), (3, .int (iI v)), (5, .int (iI k))] → (0 ≤ k ∧ k ≤ S 2) → (allB (fun k => (iand (atS S (S (77 + k).toNat) (S (82 + k).toNat)) (ixor (ishl 1 i) (-1)) ≠ 0 ∨ (p ≠ 4 ∧ (lineN (S (35 + i).toNat) p = S (82 + k).toNat ∧ (startN (S (28 + i).toNat) p (lenK (S (7 + i).toNat) v (S (21 + i).toNat)) ≤ S (77 + k).toNat ∧ S (77 + k).toNat < startN (S (28 + i).toNat) p (lenK (S (7 + i).toNat) v (S (21 + i).toNat)) + lenK (S (7 + i).toNat) v (S (21 + i).toNat))))) ↔ S (87 + k).toNat = 1) k) → ((S 2 - k).toNat) < fuel → W Pg l Ev (rmC 7 0 0) s Mi args below Mt Cd s.heap [] 0 0 Q (F0 Mi 17 ls []) := by
    intro fuel
    induction fuel with
    | zero => intro k ls hl hk hz hm; exact absurd hm (Nat.not_lt_zero _)
    | succ fuel ih17 =>
      intro k ls hl hk hz hm
      refine li_iload hC hl 5 rfl dX8_isAllSeen_17 ?_
      refine li_aload_n hC hl 1 rfl dX8_isAllSeen_19 ?_
      refine li_get hC hK ck_X8 (hP 3 _ rfl) 5 (by decide) fl_X8_36 rfl (v := .ref (ad 13)) rfl dX8_isAllSeen_20 ?_
      refine ro_callVi hC (c_X6_size l g (ws := CW g ad F A E tl) (i := 13) (j := 14) (a := (ad 13)) (b := (ad 14)) (n := 15) (f := (A 14)) (sz := F 13) rfl rfl (Nat.le_of_ble_eq_true rfl)) mk_X6_size ml_X8_161 (rr (by decide)) ⟨Nat.zero_le _, Nat.zero_le _⟩ hK hE hP (li_recv hK ck_X6 (hP 13 _ rfl)) rfl hl.1 rfl (Nat.le_of_ble_eq_true rfl) dX8_isAllSeen_23 ?_
      rw [show F 13 = 3 * S 2 from hSn.1]
      refine li_iconst hC dX8_isAllSeen_26 ?_
      refine li_idivN hC (by omega) (by omega) (by omega) (by omega) dX8_isAllSeen_27 ?_
      refine li_icmp_ge (tgt := 136) hC (by decide) (rg (by omega) (by omega)) (rg (by omega) (by omega)) dX8_isAllSeen_28 (fun c4 => ?_) (fun c4 => ?_)
      · refine li_iconst hC dX8_isAllSeen_136 ?_
        exact hQ _ _ _ dX8_isAllSeen_137 (Or.inr rfl) (iI_inj ((b2_t (by rw [that_seen hI hL hin, show S 2 = k by omega]; exact hz)).symm))
      · have hL5 := hL.2.2.2.1 k (by omega) (by omega)
        refine li_aload_n hC hl 1 rfl dX8_isAllSeen_31 ?_
        refine li_get hC hK ck_X8 (hP 3 _ rfl) 5 (by decide) fl_X8_36 rfl (v := .ref (ad 13)) rfl dX8_isAllSeen_32 ?_
        refine li_iconst hC dX8_isAllSeen_35 ?_
        refine li_iload hC hl 5 rfl dX8_isAllSeen_36 ?_
        refine li_imul hC dX8_isAllSeen_38 ?_
        refine ro_callVi hC (c_X6_get l g (ws := CW g ad F A E tl) (i := 13) (j := 14) (a := (ad 13)) (b := (ad 14)) (n := 15) (f := (A 14)) (sz := F 13) rfl rfl (Nat.le_of_ble_eq_true rfl) (k := 3 * k) ⟨by omega, by omega⟩) mk_X6_get ml_X8_101 (rr (by decide)) ⟨Nat.zero_le _, Nat.zero_le _⟩ hK hE hP (li_recv hK ck_X6 (hP 13 _ rfl)) rfl hl.1 rfl (Nat.le_of_ble_eq_true rfl) dX8_isAllSeen_39 ?_
        rw [(hSn.2 k (by omega) (by omega)).1]
        refine li_istore hC (lv' := [(6, .int (iI (S (77 + k).toNat))), (4, .ref (nm i.toNat)), (0, .ref (ad 3)), (1, .int (iI i)), (2, .int (iI p)), (3, .int (iI v)), (5, .int (iI k))]) hl (by decide) rfl dX8_isAllSeen_42 (fun ls hl => ?_)
        refine li_aload_n hC hl 2 rfl dX8_isAllSeen_44 ?_
        refine li_get hC hK ck_X8 (hP 3 _ rfl) 5 (by decide) fl_X8_36 rfl (v := .ref (ad 13)) rfl dX8_isAllSeen_45 ?_
        refine li_iconst hC dX8_isAllSeen_48 ?_
        refine li_iload hC hl 6 rfl dX8_isAllSeen_49 ?_
        refine li_imul hC dX8_isAllSeen_51 ?_
        refine li_iconst hC dX8_isAllSeen_52 ?_
        refine li_iadd hC dX8_isAllSeen_53 ?_
        refine ro_callVi hC (c_X6_get l g (ws := CW g ad F A E tl) (i := 13) (j := 14) (a := (ad 13)) (b := (ad 14)) (n := 15) (f := (A 14)) (sz := F 13) rfl rfl (Nat.le_of_ble_eq_true rfl) (k := (3 * k) + 1) ⟨by omega, by omega⟩) mk_X6_get ml_X8_101 (rr (by decide)) ⟨Nat.zero_le _, Nat.zero_le _⟩ hK hE hP (li_recv hK ck_X6 (hP 13 _ rfl)) rfl hl.1 rfl (Nat.le_of_ble_eq_true rfl) dX8_isAllSeen_54 ?_
        rw [(hSn.2 k (by omega) (by omega)).2.1]
        refine li_istore hC (lv' := [(7, .int (iI (S (82 + k).toNat))), (6, .int (iI (S (77 + k).toNat))), (4, .ref (nm i.toNat)), (0, .ref (ad 3)), (1, .int (iI i)), (2, .int (iI p)), (3, .int (iI v)), (5, .int (iI k))]) hl (by decide) rfl dX8_isAllSeen_57 (fun ls hl => ?_)
        refine li_aload_n hC hl 3 rfl dX8_isAllSeen_59 ?_
        refine li_iload hC hl 1 rfl dX8_isAllSeen_60 ?_
        refine li_iload hC hl 0 rfl dX8_isAllSeen_62 ?_
        refine ro_callVi hC (c_X8_covering l g ad F A E tl S nm hSh hI (S (77 + k).toNat) (S (82 + k).toNat) (by omega) (by omega)) mk_X8_covering ml_X8_193 (rr (by decide)) ⟨Nat.le_of_ble_eq_true rfl, Nat.le_of_ble_eq_true rfl⟩ hK hE hP (li_recv hK ck_X8 (hP 3 _ rfl)) rfl hl.1 rfl (Nat.le_of_ble_eq_true rfl) dX8_isAllSeen_64 ?_
        have q5 := atS_rng hI (S (77 + k).toNat) (S (82 + k).toNat)
        refine li_iconst hC dX8_isAllSeen_67 ?_
        refine li_iload_n hC hl 4 rfl dX8_isAllSeen_68 ?_
        refine li_ishl hC dX8_isAllSeen_69 ?_
        refine li_iconst hC dX8_isAllSeen_70 ?_
        refine li_ixor hC dX8_isAllSeen_71 ?_
        refine li_iand hC dX8_isAllSeen_72 ?_
        refine li_if_ne (tgt := 95) hC (by decide) (rng_of _) dX8_isAllSeen_73 (fun c6 => ?_) (fun c6 => ?_)
        · refine li_iconst hC dX8_isAllSeen_95 ?_
          refine li_goto (tgt := 100) hC (by decide) dX8_isAllSeen_96 ?_
          refine li_istore hC (lv' := [(8, .int (iI 1)), (7, .int (iI (S (82 + k).toNat))), (6, .int (iI (S (77 + k).toNat))), (4, .ref (nm i.toNat)), (0, .ref (ad 3)), (1, .int (iI i)), (2, .int (iI p)), (3, .int (iI v)), (5, .int (iI k))]) hl (by decide) rfl dX8_isAllSeen_100 (fun ls hl => ?_)
          refine li_iload hC hl 0 rfl dX8_isAllSeen_102 ?_
          refine li_aload_n hC hl 4 rfl dX8_isAllSeen_104 ?_
          refine li_get hC hK ck_X8 (hP 3 _ rfl) 5 (by decide) fl_X8_36 rfl (v := .ref (ad 13)) rfl dX8_isAllSeen_105 ?_
          refine li_iconst hC dX8_isAllSeen_108 ?_
          refine li_iload hC hl 8 rfl dX8_isAllSeen_109 ?_
          refine li_imul hC dX8_isAllSeen_111 ?_
          refine li_iconst hC dX8_isAllSeen_112 ?_
          refine li_iadd hC dX8_isAllSeen_113 ?_
          refine ro_callVi hC (c_X6_get l g (ws := CW g ad F A E tl) (i := 13) (j := 14) (a := (ad 13)) (b := (ad 14)) (n := 15) (f := (A 14)) (sz := F 13) rfl rfl (Nat.le_of_ble_eq_true rfl) (k := (3 * k) + 2) ⟨by omega, by omega⟩) mk_X6_get ml_X8_101 (rr (by decide)) ⟨Nat.zero_le _, Nat.zero_le _⟩ hK hE hP (li_recv hK ck_X6 (hP 13 _ rfl)) rfl hl.1 rfl (Nat.le_of_ble_eq_true rfl) dX8_isAllSeen_114 ?_
          rw [(hSn.2 k (by omega) (by omega)).2.2]
          refine li_if_eq (tgt := 124) hC (by decide) (rg (by omega) (by omega)) dX8_isAllSeen_117 (fun c7 => ?_) (fun c7 => ?_)
          · refine li_iconst hC dX8_isAllSeen_124 ?_
            refine li_icmp_eq (tgt := 130) hC (by decide) (rg (by decide) (by decide)) (rg (by decide) (by decide)) dX8_isAllSeen_125 (fun c8 => ?_) (fun c8 => ?_)
            · exact absurd c8 (by decide)
            · refine li_iconst hC dX8_isAllSeen_128 ?_
              exact hQ _ _ _ dX8_isAllSeen_129 (Or.inl rfl) (iI_inj ((b2_f (by intro h9; rw [that_seen hI hL hin] at h9; have h8 := h9 k (by omega) (by omega); dsimp only at h8; first | (have h7 := h8.mp (Or.inl (by assumption)); omega) | (have h7 := h8.mp (Or.inr ⟨by assumption, by assumption⟩); omega) | (have h7 := h8.mpr (by omega); rcases h7 with h7 | h7; { exact h7 (by omega) }; { first | exact absurd h7.2 (by assumption) | exact h7.1 (by assumption) }))).symm))
          · refine li_iconst hC dX8_isAllSeen_120 ?_
            refine li_goto (tgt := 125) hC (by decide) dX8_isAllSeen_121 ?_
            refine li_icmp_eq (tgt := 130) hC (by decide) (rg (by decide) (by decide)) (rg (by decide) (by decide)) dX8_isAllSeen_125 (fun c9 => ?_) (fun c9 => ?_)
            · refine li_iinc hC (lv' := [(5, .int (iI (k + 1))), (8, .int (iI 1)), (7, .int (iI (S (82 + k).toNat))), (6, .int (iI (S (77 + k).toNat))), (4, .ref (nm i.toNat)), (0, .ref (ad 3)), (1, .int (iI i)), (2, .int (iI p)), (3, .int (iI v))]) hl 8 rfl (by decide) rfl dX8_isAllSeen_130 (fun ls hl => ?_)
              refine li_goto (tgt := 17) hC (by decide) dX8_isAllSeen_133 ?_
              exact ih17 (k + 1) _ (lv_sub hl [4, 5, 6, 7, 8, 0] rfl) (by omega) (by refine (allB_s (P := (fun k => (iand (atS S (S (77 + k).toNat) (S (82 + k).toNat)) (ixor (ishl 1 i) (-1)) ≠ 0 ∨ (p ≠ 4 ∧ (lineN (S (35 + i).toNat) p = S (82 + k).toNat ∧ (startN (S (28 + i).toNat) p (lenK (S (7 + i).toNat) v (S (21 + i).toNat)) ≤ S (77 + k).toNat ∧ S (77 + k).toNat < startN (S (28 + i).toNat) p (lenK (S (7 + i).toNat) v (S (21 + i).toNat)) + lenK (S (7 + i).toNat) v (S (21 + i).toNat))))) ↔ S (87 + k).toNat = 1)) hk.1).mpr ⟨hz, ?_⟩; (try dsimp only); constructor; { intro h9; omega }; { intro h9; first | exact Or.inl (by assumption) | exact Or.inr ⟨by assumption, by assumption⟩ | (exfalso; omega) }) (by omega)
            · exact absurd c9 (by decide)
        · refine li_iload_n hC hl 5 rfl dX8_isAllSeen_76 ?_
          refine li_iconst hC dX8_isAllSeen_77 ?_
          refine li_icmp_eq (tgt := 99) hC (by decide) (rg (by omega) (by omega)) (rg (by decide) (by decide)) dX8_isAllSeen_78 (fun c10 => ?_) (fun c10 => ?_)
          · refine li_iconst hC dX8_isAllSeen_99 ?_
            refine li_istore hC (lv' := [(8, .int (iI 0)), (7, .int (iI (S (82 + k).toNat))), (6, .int (iI (S (77 + k).toNat))), (4, .ref (nm i.toNat)), (0, .ref (ad 3)), (1, .int (iI i)), (2, .int (iI p)), (3, .int (iI v)), (5, .int (iI k))]) hl (by decide) rfl dX8_isAllSeen_100 (fun ls hl => ?_)
            refine li_iload hC hl 0 rfl dX8_isAllSeen_102 ?_
            refine li_aload_n hC hl 4 rfl dX8_isAllSeen_104 ?_
            refine li_get hC hK ck_X8 (hP 3 _ rfl) 5 (by decide) fl_X8_36 rfl (v := .ref (ad 13)) rfl dX8_isAllSeen_105 ?_
            refine li_iconst hC dX8_isAllSeen_108 ?_
            refine li_iload hC hl 8 rfl dX8_isAllSeen_109 ?_
            refine li_imul hC dX8_isAllSeen_111 ?_
            refine li_iconst hC dX8_isAllSeen_112 ?_
            refine li_iadd hC dX8_isAllSeen_113 ?_
            refine ro_callVi hC (c_X6_get l g (ws := CW g ad F A E tl) (i := 13) (j := 14) (a := (ad 13)) (b := (ad 14)) (n := 15) (f := (A 14)) (sz := F 13) rfl rfl (Nat.le_of_ble_eq_true rfl) (k := (3 * k) + 2) ⟨by omega, by omega⟩) mk_X6_get ml_X8_101 (rr (by decide)) ⟨Nat.zero_le _, Nat.zero_le _⟩ hK hE hP (li_recv hK ck_X6 (hP 13 _ rfl)) rfl hl.1 rfl (Nat.le_of_ble_eq_true rfl) dX8_isAllSeen_114 ?_
            rw [(hSn.2 k (by omega) (by omega)).2.2]
            refine li_if_eq (tgt := 124) hC (by decide) (rg (by omega) (by omega)) dX8_isAllSeen_117 (fun c11 => ?_) (fun c11 => ?_)
            · refine li_iconst hC dX8_isAllSeen_124 ?_
              refine li_icmp_eq (tgt := 130) hC (by decide) (rg (by decide) (by decide)) (rg (by decide) (by decide)) dX8_isAllSeen_125 (fun c12 => ?_) (fun c12 => ?_)
              · refine li_iinc hC (lv' := [(5, .int (iI (k + 1))), (8, .int (iI 0)), (7, .int (iI (S (82 + k).toNat))), (6, .int (iI (S (77 + k).toNat))), (4, .ref (nm i.toNat)), (0, .ref (ad 3)), (1, .int (iI i)), (2, .int (iI p)), (3, .int (iI v))]) hl 8 rfl (by decide) rfl dX8_isAllSeen_130 (fun ls hl => ?_)
                refine li_goto (tgt := 17) hC (by decide) dX8_isAllSeen_133 ?_
                exact ih17 (k + 1) _ (lv_sub hl [4, 5, 6, 7, 8, 0] rfl) (by omega) (by refine (allB_s (P := (fun k => (iand (atS S (S (77 + k).toNat) (S (82 + k).toNat)) (ixor (ishl 1 i) (-1)) ≠ 0 ∨ (p ≠ 4 ∧ (lineN (S (35 + i).toNat) p = S (82 + k).toNat ∧ (startN (S (28 + i).toNat) p (lenK (S (7 + i).toNat) v (S (21 + i).toNat)) ≤ S (77 + k).toNat ∧ S (77 + k).toNat < startN (S (28 + i).toNat) p (lenK (S (7 + i).toNat) v (S (21 + i).toNat)) + lenK (S (7 + i).toNat) v (S (21 + i).toNat))))) ↔ S (87 + k).toNat = 1)) hk.1).mpr ⟨hz, ?_⟩; (try dsimp only); constructor; { intro h9; omega }; { intro h9; first | exact Or.inl (by assumption) | exact Or.inr ⟨by assumption, by assumption⟩ | (exfalso; omega) }) (by omega)
              · exact absurd c12 (by decide)
            · refine li_iconst hC dX8_isAllSeen_120 ?_
              refine li_goto (tgt := 125) hC (by decide) dX8_isAllSeen_121 ?_
              refine li_icmp_eq (tgt := 130) hC (by decide) (rg (by decide) (by decide)) (rg (by decide) (by decide)) dX8_isAllSeen_125 (fun c13 => ?_) (fun c13 => ?_)
              · exact absurd c13 (by decide)
              · refine li_iconst hC dX8_isAllSeen_128 ?_
                exact hQ _ _ _ dX8_isAllSeen_129 (Or.inl rfl) (iI_inj ((b2_f (by intro h9; rw [that_seen hI hL hin] at h9; have h8 := h9 k (by omega) (by omega); dsimp only at h8; first | (have h7 := h8.mp (Or.inl (by assumption)); omega) | (have h7 := h8.mp (Or.inr ⟨by assumption, by assumption⟩); omega) | (have h7 := h8.mpr (by omega); rcases h7 with h7 | h7; { exact h7 (by omega) }; { first | exact absurd h7.2 (by assumption) | exact h7.1 (by assumption) }))).symm))
          · refine li_aload hC hl 2 rfl dX8_isAllSeen_81 ?_
            refine li_iload_n hC hl 5 rfl dX8_isAllSeen_83 ?_
            refine li_iload_n hC hl 6 rfl dX8_isAllSeen_84 ?_
            refine li_iload hC hl 1 rfl dX8_isAllSeen_85 ?_
            refine li_iload hC hl 0 rfl dX8_isAllSeen_87 ?_
            refine v_covers hC hK hE (nm_at hP hNm hI (i := i) (by omega)) (p0 := p) (z := v) (co := S (77 + k).toNat) (li := S (82 + k).toNat) (by omega) (by omega) (by omega) (by omega) (by omega) (by omega) (by omega) ml_X8_128 (rr (by decide)) ⟨Nat.zero_le _, Nat.zero_le _⟩ hl.1 rfl (Nat.le_of_ble_eq_true rfl) dX8_isAllSeen_89 ?_
            refine li_ifeq_b (tgt := 99) hC (by decide) dX8_isAllSeen_92 (fun c14 => ?_) (fun c14 => ?_)
            · refine li_iconst hC dX8_isAllSeen_99 ?_
              refine li_istore hC (lv' := [(8, .int (iI 0)), (7, .int (iI (S (82 + k).toNat))), (6, .int (iI (S (77 + k).toNat))), (4, .ref (nm i.toNat)), (0, .ref (ad 3)), (1, .int (iI i)), (2, .int (iI p)), (3, .int (iI v)), (5, .int (iI k))]) hl (by decide) rfl dX8_isAllSeen_100 (fun ls hl => ?_)
              refine li_iload hC hl 0 rfl dX8_isAllSeen_102 ?_
              refine li_aload_n hC hl 4 rfl dX8_isAllSeen_104 ?_
              refine li_get hC hK ck_X8 (hP 3 _ rfl) 5 (by decide) fl_X8_36 rfl (v := .ref (ad 13)) rfl dX8_isAllSeen_105 ?_
              refine li_iconst hC dX8_isAllSeen_108 ?_
              refine li_iload hC hl 8 rfl dX8_isAllSeen_109 ?_
              refine li_imul hC dX8_isAllSeen_111 ?_
              refine li_iconst hC dX8_isAllSeen_112 ?_
              refine li_iadd hC dX8_isAllSeen_113 ?_
              refine ro_callVi hC (c_X6_get l g (ws := CW g ad F A E tl) (i := 13) (j := 14) (a := (ad 13)) (b := (ad 14)) (n := 15) (f := (A 14)) (sz := F 13) rfl rfl (Nat.le_of_ble_eq_true rfl) (k := (3 * k) + 2) ⟨by omega, by omega⟩) mk_X6_get ml_X8_101 (rr (by decide)) ⟨Nat.zero_le _, Nat.zero_le _⟩ hK hE hP (li_recv hK ck_X6 (hP 13 _ rfl)) rfl hl.1 rfl (Nat.le_of_ble_eq_true rfl) dX8_isAllSeen_114 ?_
              rw [(hSn.2 k (by omega) (by omega)).2.2]
              refine li_if_eq (tgt := 124) hC (by decide) (rg (by omega) (by omega)) dX8_isAllSeen_117 (fun c15 => ?_) (fun c15 => ?_)
              · refine li_iconst hC dX8_isAllSeen_124 ?_
                refine li_icmp_eq (tgt := 130) hC (by decide) (rg (by decide) (by decide)) (rg (by decide) (by decide)) dX8_isAllSeen_125 (fun c16 => ?_) (fun c16 => ?_)
                · refine li_iinc hC (lv' := [(5, .int (iI (k + 1))), (8, .int (iI 0)), (7, .int (iI (S (82 + k).toNat))), (6, .int (iI (S (77 + k).toNat))), (4, .ref (nm i.toNat)), (0, .ref (ad 3)), (1, .int (iI i)), (2, .int (iI p)), (3, .int (iI v))]) hl 8 rfl (by decide) rfl dX8_isAllSeen_130 (fun ls hl => ?_)
                  refine li_goto (tgt := 17) hC (by decide) dX8_isAllSeen_133 ?_
                  exact ih17 (k + 1) _ (lv_sub hl [4, 5, 6, 7, 8, 0] rfl) (by omega) (by refine (allB_s (P := (fun k => (iand (atS S (S (77 + k).toNat) (S (82 + k).toNat)) (ixor (ishl 1 i) (-1)) ≠ 0 ∨ (p ≠ 4 ∧ (lineN (S (35 + i).toNat) p = S (82 + k).toNat ∧ (startN (S (28 + i).toNat) p (lenK (S (7 + i).toNat) v (S (21 + i).toNat)) ≤ S (77 + k).toNat ∧ S (77 + k).toNat < startN (S (28 + i).toNat) p (lenK (S (7 + i).toNat) v (S (21 + i).toNat)) + lenK (S (7 + i).toNat) v (S (21 + i).toNat))))) ↔ S (87 + k).toNat = 1)) hk.1).mpr ⟨hz, ?_⟩; (try dsimp only); constructor; { intro h9; omega }; { intro h9; first | exact Or.inl (by assumption) | exact Or.inr ⟨by assumption, by assumption⟩ | (exfalso; omega) }) (by omega)
                · exact absurd c16 (by decide)
              · refine li_iconst hC dX8_isAllSeen_120 ?_
                refine li_goto (tgt := 125) hC (by decide) dX8_isAllSeen_121 ?_
                refine li_icmp_eq (tgt := 130) hC (by decide) (rg (by decide) (by decide)) (rg (by decide) (by decide)) dX8_isAllSeen_125 (fun c17 => ?_) (fun c17 => ?_)
                · exact absurd c17 (by decide)
                · refine li_iconst hC dX8_isAllSeen_128 ?_
                  exact hQ _ _ _ dX8_isAllSeen_129 (Or.inl rfl) (iI_inj ((b2_f (by intro h9; rw [that_seen hI hL hin] at h9; have h8 := h9 k (by omega) (by omega); dsimp only at h8; first | (have h7 := h8.mp (Or.inl (by assumption)); omega) | (have h7 := h8.mp (Or.inr ⟨by assumption, by assumption⟩); omega) | (have h7 := h8.mpr (by omega); rcases h7 with h7 | h7; { exact h7 (by omega) }; { first | exact absurd h7.2 (by assumption) | exact h7.1 (by assumption) }))).symm))
            · refine li_iconst hC dX8_isAllSeen_95 ?_
              refine li_goto (tgt := 100) hC (by decide) dX8_isAllSeen_96 ?_
              refine li_istore hC (lv' := [(8, .int (iI 1)), (7, .int (iI (S (82 + k).toNat))), (6, .int (iI (S (77 + k).toNat))), (4, .ref (nm i.toNat)), (0, .ref (ad 3)), (1, .int (iI i)), (2, .int (iI p)), (3, .int (iI v)), (5, .int (iI k))]) hl (by decide) rfl dX8_isAllSeen_100 (fun ls hl => ?_)
              refine li_iload hC hl 0 rfl dX8_isAllSeen_102 ?_
              refine li_aload_n hC hl 4 rfl dX8_isAllSeen_104 ?_
              refine li_get hC hK ck_X8 (hP 3 _ rfl) 5 (by decide) fl_X8_36 rfl (v := .ref (ad 13)) rfl dX8_isAllSeen_105 ?_
              refine li_iconst hC dX8_isAllSeen_108 ?_
              refine li_iload hC hl 8 rfl dX8_isAllSeen_109 ?_
              refine li_imul hC dX8_isAllSeen_111 ?_
              refine li_iconst hC dX8_isAllSeen_112 ?_
              refine li_iadd hC dX8_isAllSeen_113 ?_
              refine ro_callVi hC (c_X6_get l g (ws := CW g ad F A E tl) (i := 13) (j := 14) (a := (ad 13)) (b := (ad 14)) (n := 15) (f := (A 14)) (sz := F 13) rfl rfl (Nat.le_of_ble_eq_true rfl) (k := (3 * k) + 2) ⟨by omega, by omega⟩) mk_X6_get ml_X8_101 (rr (by decide)) ⟨Nat.zero_le _, Nat.zero_le _⟩ hK hE hP (li_recv hK ck_X6 (hP 13 _ rfl)) rfl hl.1 rfl (Nat.le_of_ble_eq_true rfl) dX8_isAllSeen_114 ?_
              rw [(hSn.2 k (by omega) (by omega)).2.2]
              refine li_if_eq (tgt := 124) hC (by decide) (rg (by omega) (by omega)) dX8_isAllSeen_117 (fun c18 => ?_) (fun c18 => ?_)
              · refine li_iconst hC dX8_isAllSeen_124 ?_
                refine li_icmp_eq (tgt := 130) hC (by decide) (rg (by decide) (by decide)) (rg (by decide) (by decide)) dX8_isAllSeen_125 (fun c19 => ?_) (fun c19 => ?_)
                · exact absurd c19 (by decide)
                · refine li_iconst hC dX8_isAllSeen_128 ?_
                  exact hQ _ _ _ dX8_isAllSeen_129 (Or.inl rfl) (iI_inj ((b2_f (by intro h9; rw [that_seen hI hL hin] at h9; have h8 := h9 k (by omega) (by omega); dsimp only at h8; first | (have h7 := h8.mp (Or.inl (by assumption)); omega) | (have h7 := h8.mp (Or.inr ⟨by assumption, by assumption⟩); omega) | (have h7 := h8.mpr (by omega); rcases h7 with h7 | h7; { exact h7 (by omega) }; { first | exact absurd h7.2 (by assumption) | exact h7.1 (by assumption) }))).symm))
              · refine li_iconst hC dX8_isAllSeen_120 ?_
                refine li_goto (tgt := 125) hC (by decide) dX8_isAllSeen_121 ?_
                refine li_icmp_eq (tgt := 130) hC (by decide) (rg (by decide) (by decide)) (rg (by decide) (by decide)) dX8_isAllSeen_125 (fun c20 => ?_) (fun c20 => ?_)
                · refine li_iinc hC (lv' := [(5, .int (iI (k + 1))), (8, .int (iI 1)), (7, .int (iI (S (82 + k).toNat))), (6, .int (iI (S (77 + k).toNat))), (4, .ref (nm i.toNat)), (0, .ref (ad 3)), (1, .int (iI i)), (2, .int (iI p)), (3, .int (iI v))]) hl 8 rfl (by decide) rfl dX8_isAllSeen_130 (fun ls hl => ?_)
                  refine li_goto (tgt := 17) hC (by decide) dX8_isAllSeen_133 ?_
                  exact ih17 (k + 1) _ (lv_sub hl [4, 5, 6, 7, 8, 0] rfl) (by omega) (by refine (allB_s (P := (fun k => (iand (atS S (S (77 + k).toNat) (S (82 + k).toNat)) (ixor (ishl 1 i) (-1)) ≠ 0 ∨ (p ≠ 4 ∧ (lineN (S (35 + i).toNat) p = S (82 + k).toNat ∧ (startN (S (28 + i).toNat) p (lenK (S (7 + i).toNat) v (S (21 + i).toNat)) ≤ S (77 + k).toNat ∧ S (77 + k).toNat < startN (S (28 + i).toNat) p (lenK (S (7 + i).toNat) v (S (21 + i).toNat)) + lenK (S (7 + i).toNat) v (S (21 + i).toNat))))) ↔ S (87 + k).toNat = 1)) hk.1).mpr ⟨hz, ?_⟩; (try dsimp only); constructor; { intro h9; omega }; { intro h9; first | exact Or.inl (by assumption) | exact Or.inr ⟨by assumption, by assumption⟩ | (exfalso; omega) }) (by omega)
                · exact absurd c20 (by decide)
  exact L17_3 (((S 2 - 0).toNat) + 1) 0 _ (lv_sub hl [1, 2, 3, 4, 5, 0] rfl) (by omega) (by exact allB_0 _) (by omega)
