set_option maxHeartbeats 4000000 in
set_option maxRecDepth 100000 in
theorem c_X7_isOpen (l : Launch) (g : GG) (ad : Nat → Nat) (F : Nat → Int) (A : Nat → Nat → Int) (E : Nat → Nat) (tl : va_W) (S : Nat → Int) (nm : Nat → Nat) (al : Int → Int) (i : Int) (p : Int) (bl : Int) (hD : 0 ≤ S 0 ∧ S 0 ≤ 7) (hA : AlP S A al) (hi : 0 ≤ i ∧ i < S 0) (hp : 0 ≤ p ∧ p ≤ 4) : MroZ l g yX7_isOpen cX7_isOpen 4 3 [.ref (ad 42), .int (iI i), .int (iI p), .int (iI bl)] (fun H => va_P g.1 vwCl (CW g ad F A E tl) H) (iI (b2 (iand (ishr (al i) p) 1 ≠ 0 ∧ (p = 4 ∨ ¬ iand (ishr bl ((i * 4) + p)) 1 ≠ 0)))) := by
  refine ro_startZ (own := RX7) (by decide) rfl (Nat.le_of_ble_eq_true rfl) ?_
  intro Pg Ev s Mi args below Mt Cd ls Q hC hK hE hP hl hQ
  have hl : lv_has ls 4 [(0, .ref (ad 42)), (1, .int (iI i)), (2, .int (iI p)), (3, .int (iI bl))] := hl
  refine li_aload_n hC hl 0 rfl dX7_isOpen_0 ?_
  refine li_get hC hK ck_X7 (hP 42 _ rfl) 1 (by decide) fl_X7_14 rfl (v := .ref (ad 43)) rfl dX7_isOpen_1 ?_
  refine li_iload_n hC hl 1 rfl dX7_isOpen_4 ?_
  refine ro_callVi hC (c_X6_get l g (ws := CW g ad F A E tl) (i := 43) (j := 44) (a := (ad 43)) (b := (ad 44)) (n := 7) (f := (A 44)) (sz := F 43) rfl rfl (Nat.le_of_ble_eq_true rfl) (k := i) ⟨by omega, by omega⟩) mk_X6_get ml_X7_39 (rr (by decide)) ⟨Nat.zero_le _, Nat.zero_le _⟩ hK hE hP (li_recv hK ck_X6 (hP 43 _ rfl)) rfl hl.1 rfl (Nat.le_of_ble_eq_true rfl) dX7_isOpen_5 ?_
  rw [hA i (by omega) (by omega)]
  refine li_iload_n hC hl 2 rfl dX7_isOpen_8 ?_
  refine ro_callSN hC (c_X11_hasBit l g (al i) p) mk_X11_hasBit (fun U h => h.2.2.1) (rr (by decide)) ⟨Nat.zero_le _, Nat.zero_le _⟩ hK hE trivial rfl hl.1 rfl (Nat.le_of_ble_eq_true rfl) dX7_isOpen_9 ?_
  refine li_ifeq_b (tgt := 36) hC (by decide) dX7_isOpen_12 (fun c1 => ?_) (fun c1 => ?_)
  · refine li_iconst hC dX7_isOpen_36 ?_
    exact hQ _ _ _ dX7_isOpen_37 (Or.inl rfl) (iI_inj ((b2_f (by omega)).symm))
  · refine li_iload_n hC hl 2 rfl dX7_isOpen_15 ?_
    refine li_iconst hC dX7_isOpen_16 ?_
    refine li_icmp_eq (tgt := 32) hC (by decide) (rg (by omega) (by omega)) (rg (by decide) (by decide)) dX7_isOpen_17 (fun c2 => ?_) (fun c2 => ?_)
    · refine li_iconst hC dX7_isOpen_32 ?_
      refine li_goto (tgt := 37) hC (by decide) dX7_isOpen_33 ?_
      exact hQ _ _ _ dX7_isOpen_37 (Or.inr rfl) (iI_inj ((b2_t (by omega)).symm))
    · refine li_iload_n hC hl 3 rfl dX7_isOpen_20 ?_
      refine li_iload_n hC hl 1 rfl dX7_isOpen_21 ?_
      refine li_iconst hC dX7_isOpen_22 ?_
      refine li_imul hC dX7_isOpen_23 ?_
      refine li_iload_n hC hl 2 rfl dX7_isOpen_24 ?_
      refine li_iadd hC dX7_isOpen_25 ?_
      refine ro_callSN hC (c_X11_hasBit l g bl ((i * 4) + p)) mk_X11_hasBit (fun U h => h.2.2.1) (rr (by decide)) ⟨Nat.zero_le _, Nat.zero_le _⟩ hK hE trivial rfl hl.1 rfl (Nat.le_of_ble_eq_true rfl) dX7_isOpen_26 ?_
      refine li_ifne_b (tgt := 36) hC (by decide) dX7_isOpen_29 (fun c3 => ?_) (fun c3 => ?_)
      · refine li_iconst hC dX7_isOpen_36 ?_
        exact hQ _ _ _ dX7_isOpen_37 (Or.inl rfl) (iI_inj ((b2_f (by omega)).symm))
      · refine li_iconst hC dX7_isOpen_32 ?_
        refine li_goto (tgt := 37) hC (by decide) dX7_isOpen_33 ?_
        exact hQ _ _ _ dX7_isOpen_37 (Or.inr rfl) (iI_inj ((b2_t (by omega)).symm))
set_option maxHeartbeats 4000000 in
set_option maxRecDepth 100000 in
theorem c_X7_clashesOf (l : Launch) (g : GG) (ad : Nat → Nat) (F : Nat → Int) (A : Nat → Nat → Int) (E : Nat → Nat) (tl : va_W) (S : Nat → Int) (nm : Nat → Nat) (i : Int) (p : Int) (hD : 0 ≤ S 0 ∧ S 0 ≤ 7) (hCl : ClW S A) (hi : 0 ≤ i ∧ i < S 0) (hp : 0 ≤ p ∧ p ≤ 4) : MroI l g yX7_clashesOf cX7_clashesOf 3 3 [.ref (ad 42), .int (iI i), .int (iI p)] (fun H => va_P g.1 vwCl (CW g ad F A E tl) H) (iI (if p = 4 then 0 else setB (clP S i p) (4 * S 0).toNat)) := by
  refine ro_startI (own := RX7) (by decide) rfl (Nat.le_of_ble_eq_true rfl) ?_
  intro Pg Ev s Mi args below Mt Cd ls Q hC hK hE hP hl hQ
  have hl : lv_has ls 3 [(0, .ref (ad 42)), (1, .int (iI i)), (2, .int (iI p))] := hl
  refine li_iload_n hC hl 2 rfl dX7_clashesOf_0 ?_
  refine li_iconst hC dX7_clashesOf_1 ?_
  refine li_icmp_ne (tgt := 9) hC (by decide) (rg (by omega) (by omega)) (rg (by decide) (by decide)) dX7_clashesOf_2 (fun c1 => ?_) (fun c1 => ?_)
  · refine li_aload_n hC hl 0 rfl dX7_clashesOf_9 ?_
    refine li_get hC hK ck_X7 (hP 42 _ rfl) 3 (by decide) fl_X7_23 rfl (v := .ref (ad 47)) rfl dX7_clashesOf_10 ?_
    refine li_iload_n hC hl 1 rfl dX7_clashesOf_13 ?_
    refine li_iconst hC dX7_clashesOf_14 ?_
    refine li_imul hC dX7_clashesOf_15 ?_
    refine li_iload_n hC hl 2 rfl dX7_clashesOf_16 ?_
    refine li_iadd hC dX7_clashesOf_17 ?_
    refine ro_callVi hC (c_X6_get l g (ws := CW g ad F A E tl) (i := 47) (j := 48) (a := (ad 47)) (b := (ad 48)) (n := 28) (f := (A 48)) (sz := F 47) rfl rfl (Nat.le_of_ble_eq_true rfl) (k := (i * 4) + p) ⟨by omega, by omega⟩) mk_X6_get ml_X7_39 (rr (by decide)) ⟨Nat.zero_le _, Nat.zero_le _⟩ hK hE hP (li_recv hK ck_X6 (hP 47 _ rfl)) rfl hl.1 rfl (Nat.le_of_ble_eq_true rfl) dX7_clashesOf_18 ?_
    rw [hCl i p (by omega) (by omega) (by omega) (by omega)]
    exact hQ _ _ _ dX7_clashesOf_21 (iI_inj (by first | (rw [if_pos (by omega)]; done) | (rw [if_neg (by omega)]; done)))
  · refine li_iconst hC dX7_clashesOf_5 ?_
    refine li_goto (tgt := 21) hC (by decide) dX7_clashesOf_6 ?_
    exact hQ _ _ _ dX7_clashesOf_21 (iI_inj (by first | (rw [if_pos (by omega)]; done) | (rw [if_neg (by omega)]; done)))
set_option maxHeartbeats 4000000 in
set_option maxRecDepth 100000 in
theorem c_X7_valueOf (l : Launch) (g : GG) (ad : Nat → Nat) (F : Nat → Int) (A : Nat → Nat → Int) (E : Nat → Nat) (tl : va_W) (S : Nat → Int) (nm : Nat → Nat) (vl : Int → Int → Int) (i : Int) (p : Int) (hD : 0 ≤ S 0 ∧ S 0 ≤ 7) (hV : VlP S A vl) (hi : 0 ≤ i ∧ i < S 0) (hp : 0 ≤ p ∧ p ≤ 4) : MroI l g yX7_valueOf cX7_valueOf 3 3 [.ref (ad 42), .int (iI i), .int (iI p)] (fun H => va_P g.1 vwCl (CW g ad F A E tl) H) (iI (if p = 4 then 0 else vl i p)) := by
  refine ro_startI (own := RX7) (by decide) rfl (Nat.le_of_ble_eq_true rfl) ?_
  intro Pg Ev s Mi args below Mt Cd ls Q hC hK hE hP hl hQ
  have hl : lv_has ls 3 [(0, .ref (ad 42)), (1, .int (iI i)), (2, .int (iI p))] := hl
  refine li_iload_n hC hl 2 rfl dX7_valueOf_0 ?_
  refine li_iconst hC dX7_valueOf_1 ?_
  refine li_icmp_ne (tgt := 9) hC (by decide) (rg (by omega) (by omega)) (rg (by decide) (by decide)) dX7_valueOf_2 (fun c1 => ?_) (fun c1 => ?_)
  · refine li_aload_n hC hl 0 rfl dX7_valueOf_9 ?_
    refine li_get hC hK ck_X7 (hP 42 _ rfl) 2 (by decide) fl_X7_20 rfl (v := .ref (ad 45)) rfl dX7_valueOf_10 ?_
    refine li_iload_n hC hl 1 rfl dX7_valueOf_13 ?_
    refine li_iconst hC dX7_valueOf_14 ?_
    refine li_imul hC dX7_valueOf_15 ?_
    refine li_iload_n hC hl 2 rfl dX7_valueOf_16 ?_
    refine li_iadd hC dX7_valueOf_17 ?_
    refine ro_callVi hC (c_X6_get l g (ws := CW g ad F A E tl) (i := 45) (j := 46) (a := (ad 45)) (b := (ad 46)) (n := 28) (f := (A 46)) (sz := F 45) rfl rfl (Nat.le_of_ble_eq_true rfl) (k := (i * 4) + p) ⟨by omega, by omega⟩) mk_X6_get ml_X7_39 (rr (by decide)) ⟨Nat.zero_le _, Nat.zero_le _⟩ hK hE hP (li_recv hK ck_X6 (hP 45 _ rfl)) rfl hl.1 rfl (Nat.le_of_ble_eq_true rfl) dX7_valueOf_18 ?_
    rw [hV i p (by omega) (by omega) (by omega) (by omega)]
    exact hQ _ _ _ dX7_valueOf_21 (iI_inj (by first | (rw [if_pos (by omega)]; done) | (rw [if_neg (by omega)]; done)))
  · refine li_iconst hC dX7_valueOf_5 ?_
    refine li_goto (tgt := 21) hC (by decide) dX7_valueOf_6 ?_
    exact hQ _ _ _ dX7_valueOf_21 (iI_inj (by first | (rw [if_pos (by omega)]; done) | (rw [if_neg (by omega)]; done)))
set_option maxHeartbeats 4000000 in
set_option maxRecDepth 100000 in
theorem c_X7_dearest (l : Launch) (g : GG) (ad : Nat → Nat) (F : Nat → Int) (A : Nat → Nat → Int) (E : Nat → Nat) (tl : va_W) (S : Nat → Int) (nm : Nat → Nat) (al : Int → Int) (vl : Int → Int → Int) (i : Int) (bl : Int) (hD : 0 ≤ S 0 ∧ S 0 ≤ 7) (hA : AlP S A al) (hV : VlP S A vl) (hvr : ∀ i p : Int, -110000 ≤ vl i p ∧ vl i p ≤ 110000) (hi : 0 ≤ i ∧ i < S 0) : MroI l g yX7_dearest cX7_dearest 5 4 [.ref (ad 42), .int (iI i), .int (iI bl)] (fun H => va_P g.1 vwCl (CW g ad F A E tl) H) (iI (drS al vl i bl)) := by
  refine ro_startI (own := RX7) (by decide) rfl (Nat.le_of_ble_eq_true rfl) ?_
  intro Pg Ev s Mi args below Mt Cd ls Q hC hK hE hP hl hQ
  have hl : lv_has ls 5 [(0, .ref (ad 42)), (1, .int (iI i)), (2, .int (iI bl))] := hl
  refine li_iconst hC dX7_dearest_0 ?_
  refine li_istore_n hC (lv' := [(3, .int (iI 4)), (0, .ref (ad 42)), (1, .int (iI i)), (2, .int (iI bl))]) hl (by decide) rfl dX7_dearest_1 (fun ls hl => ?_)
  refine li_iconst hC dX7_dearest_2 ?_
  refine li_istore hC (lv' := [(4, .int (iI 0)), (3, .int (iI 4)), (0, .ref (ad 42)), (1, .int (iI i)), (2, .int (iI bl))]) hl (by decide) rfl dX7_dearest_3 (fun ls hl => ?_)
  have L5_1 : ∀ (fuel : Nat) (p : Int) (z : Int) (ls : Array Slot), lv_has ls 5 [(0, .ref (ad 42)), (1, .int (iI i)), (2, .int (iI bl)), (3, .int (iI z)), (4, .int (iI p))] → (0 ≤ p ∧ p ≤ 4) → (z = takeF (okD al i bl) (vl i) p.toNat) → (((4 : Int) - p).toNat) < fuel → W Pg l Ev (rmC 4 0 0) s Mi args below Mt Cd s.heap [] 0 0 Q (F0 Mi 5 ls []) := by
    intro fuel
    induction fuel with
    | zero => intro p z ls hl hp hz hm; exact absurd hm (Nat.not_lt_zero _)
    | succ fuel ih5 =>
      intro p z ls hl hp hz hm
      have hzr := takeF_rng (okD al i bl) (vl i) p.toNat (by omega)
      refine li_iload hC hl 4 rfl dX7_dearest_5 ?_
      refine li_iconst hC dX7_dearest_7 ?_
      refine li_icmp_ge (tgt := 52) hC (by decide) (rg (by omega) (by omega)) (rg (by decide) (by decide)) dX7_dearest_8 (fun c2 => ?_) (fun c2 => ?_)
      · refine li_iload_n hC hl 3 rfl dX7_dearest_52 ?_
        exact hQ _ _ _ dX7_dearest_53 (iI_inj (by unfold drS; rw [hz, show p = 4 by omega]; rfl))
      · refine li_aload_n hC hl 0 rfl dX7_dearest_11 ?_
        refine li_iload_n hC hl 1 rfl dX7_dearest_12 ?_
        refine li_iload hC hl 4 rfl dX7_dearest_13 ?_
        refine li_iload_n hC hl 2 rfl dX7_dearest_15 ?_
        refine ro_callVi hC (c_X7_isOpen l g ad F A E tl S nm al i p bl hD hA (by omega) (by omega)) mk_X7_isOpen ml_X7_126 (rr (by decide)) ⟨Nat.le_of_ble_eq_true rfl, Nat.le_of_ble_eq_true rfl⟩ hK hE hP (li_recv hK ck_X7 (hP 42 _ rfl)) rfl hl.1 rfl (Nat.le_of_ble_eq_true rfl) dX7_dearest_16 ?_
        refine li_ifeq_b (tgt := 46) hC (by decide) dX7_dearest_19 (fun c3 => ?_) (fun c3 => ?_)
        · refine li_iinc hC (lv' := [(4, .int (iI (p + 1))), (0, .ref (ad 42)), (1, .int (iI i)), (2, .int (iI bl)), (3, .int (iI z))]) hl 4 rfl (by decide) rfl dX7_dearest_46 (fun ls hl => ?_)
          refine li_goto (tgt := 5) hC (by decide) dX7_dearest_49 ?_
          exact ih5 (p + 1) z _ (lv_sub hl [1, 2, 3, 4, 0] rfl) (by omega) (by rw [hz, takeF_s hp.1, ← hz]; refine (iteP_f (fun h9 => ?_)).symm; have h8 := h9.1; unfold okD at h8; have h7 := h9.2; first | omega | (rcases h7 with h7 | h7; { omega }; { have q1 := hvr i z; have q2 := hvr i p; (repeat' split at *) <;> omega })) (by omega)
        · refine li_iload_n hC hl 3 rfl dX7_dearest_22 ?_
          refine li_iconst hC dX7_dearest_23 ?_
          refine li_icmp_eq (tgt := 43) hC (by decide) (rg (by omega) (by omega)) (rg (by decide) (by decide)) dX7_dearest_24 (fun c4 => ?_) (fun c4 => ?_)
          · refine li_iload hC hl 4 rfl dX7_dearest_43 ?_
            refine li_istore_n hC (lv' := [(3, .int (iI p)), (0, .ref (ad 42)), (1, .int (iI i)), (2, .int (iI bl)), (4, .int (iI p))]) hl (by decide) rfl dX7_dearest_45 (fun ls hl => ?_)
            refine li_iinc hC (lv' := [(4, .int (iI (p + 1))), (3, .int (iI p)), (0, .ref (ad 42)), (1, .int (iI i)), (2, .int (iI bl))]) hl 4 rfl (by decide) rfl dX7_dearest_46 (fun ls hl => ?_)
            refine li_goto (tgt := 5) hC (by decide) dX7_dearest_49 ?_
            exact ih5 (p + 1) p _ (lv_sub hl [2, 3, 4, 1, 0] rfl) (by omega) (by rw [takeF_s hp.1, ← hz]; refine (iteP_t ⟨?_, ?_⟩).symm; { unfold okD; exact ⟨by omega, by omega⟩ }; { first | exact Or.inl (by omega) | (refine Or.inr ?_; (repeat' split at *) <;> omega) }) (by omega)
          · refine li_aload_n hC hl 0 rfl dX7_dearest_27 ?_
            refine li_iload_n hC hl 1 rfl dX7_dearest_28 ?_
            refine li_iload hC hl 4 rfl dX7_dearest_29 ?_
            refine ro_callVi hC (c_X7_valueOf l g ad F A E tl S nm vl i p hD hV (by omega) (by omega)) mk_X7_valueOf ml_X7_98 (rr (by decide)) ⟨Nat.le_of_ble_eq_true rfl, Nat.le_of_ble_eq_true rfl⟩ hK hE hP (li_recv hK ck_X7 (hP 42 _ rfl)) rfl hl.1 rfl (Nat.le_of_ble_eq_true rfl) dX7_dearest_31 ?_
            have q5 : -110000 ≤ (if p = 4 then 0 else vl i p) ∧ (if p = 4 then 0 else vl i p) ≤ 110000 := by have := hvr i p; split <;> omega
            refine li_aload_n hC hl 0 rfl dX7_dearest_34 ?_
            refine li_iload_n hC hl 1 rfl dX7_dearest_35 ?_
            refine li_iload_n hC hl 3 rfl dX7_dearest_36 ?_
            refine ro_callVi hC (c_X7_valueOf l g ad F A E tl S nm vl i z hD hV (by omega) (by omega)) mk_X7_valueOf ml_X7_98 (rr (by decide)) ⟨Nat.le_of_ble_eq_true rfl, Nat.le_of_ble_eq_true rfl⟩ hK hE hP (li_recv hK ck_X7 (hP 42 _ rfl)) rfl hl.1 rfl (Nat.le_of_ble_eq_true rfl) dX7_dearest_37 ?_
            have q6 : -110000 ≤ (if z = 4 then 0 else vl i z) ∧ (if z = 4 then 0 else vl i z) ≤ 110000 := by have := hvr i z; split <;> omega
            refine li_icmp_le (tgt := 46) hC (by decide) (rg (by omega) (by omega)) (rg (by omega) (by omega)) dX7_dearest_40 (fun c7 => ?_) (fun c7 => ?_)
            · refine li_iinc hC (lv' := [(4, .int (iI (p + 1))), (0, .ref (ad 42)), (1, .int (iI i)), (2, .int (iI bl)), (3, .int (iI z))]) hl 4 rfl (by decide) rfl dX7_dearest_46 (fun ls hl => ?_)
              refine li_goto (tgt := 5) hC (by decide) dX7_dearest_49 ?_
              exact ih5 (p + 1) z _ (lv_sub hl [1, 2, 3, 4, 0] rfl) (by omega) (by rw [hz, takeF_s hp.1, ← hz]; refine (iteP_f (fun h9 => ?_)).symm; have h8 := h9.1; unfold okD at h8; have h7 := h9.2; first | omega | (rcases h7 with h7 | h7; { omega }; { have q1 := hvr i z; have q2 := hvr i p; (repeat' split at *) <;> omega })) (by omega)
            · refine li_iload hC hl 4 rfl dX7_dearest_43 ?_
              refine li_istore_n hC (lv' := [(3, .int (iI p)), (0, .ref (ad 42)), (1, .int (iI i)), (2, .int (iI bl)), (4, .int (iI p))]) hl (by decide) rfl dX7_dearest_45 (fun ls hl => ?_)
              refine li_iinc hC (lv' := [(4, .int (iI (p + 1))), (3, .int (iI p)), (0, .ref (ad 42)), (1, .int (iI i)), (2, .int (iI bl))]) hl 4 rfl (by decide) rfl dX7_dearest_46 (fun ls hl => ?_)
              refine li_goto (tgt := 5) hC (by decide) dX7_dearest_49 ?_
              exact ih5 (p + 1) p _ (lv_sub hl [2, 3, 4, 1, 0] rfl) (by omega) (by rw [takeF_s hp.1, ← hz]; refine (iteP_t ⟨?_, ?_⟩).symm; { unfold okD; exact ⟨by omega, by omega⟩ }; { first | exact Or.inl (by omega) | (refine Or.inr ?_; (repeat' split at *) <;> omega) }) (by omega)
  exact L5_1 ((((4 : Int) - 0).toNat) + 1) 0 4 _ (lv_sub hl [2, 3, 4, 1, 0] rfl) (by omega) (by rfl) (by omega)
set_option maxHeartbeats 4000000 in
set_option maxRecDepth 100000 in
theorem c_X7_clashing (l : Launch) (g : GG) (ad : Nat → Nat) (F : Nat → Int) (A : Nat → Nat → Int) (E : Nat → Nat) (tl : va_W) (S : Nat → Int) (nm : Nat → Nat) (hSh : ShW g ad F A E tl S nm) (hI : InvD S) (i : Int) (p : Int) (hd72 : F 72 = S 0) (hi : 0 ≤ i ∧ i < S 0) (hp : 0 ≤ p ∧ p ≤ 3) : MroI l g yX7_clashing cX7_clashing 6 8 [.ref (ad 42), .int (iI i), .int (iI p)] (fun H => va_P g.1 vwCl (CW g ad F A E tl) H) (iI (setB (clP S i p) (4 * S 0).toNat)) := by
  refine ro_startI (own := RX7) (by decide) rfl (Nat.le_of_ble_eq_true rfl) ?_
  intro Pg Ev s Mi args below Mt Cd ls Q hC hK hE hP hl hQ
  have hSh0 := hSh
  obtain ⟨hTp, hCd, hNs, hWh, hRw, hSn, hPl, hBk, hMp⟩ := hSh0
  have hNm := hNs.2.2
  have hD0 := hI.1
  have hNs0 := hNs.1
  have hl : lv_has ls 6 [(0, .ref (ad 42)), (1, .int (iI i)), (2, .int (iI p))] := hl
  refine li_iconst hC dX7_clashing_0 ?_
  refine li_istore_n hC (lv' := [(3, .int (iI 0)), (0, .ref (ad 42)), (1, .int (iI i)), (2, .int (iI p))]) hl (by decide) rfl dX7_clashing_1 (fun ls hl => ?_)
  refine li_iconst hC dX7_clashing_2 ?_
  refine li_istore hC (lv' := [(4, .int (iI 0)), (3, .int (iI 0)), (0, .ref (ad 42)), (1, .int (iI i)), (2, .int (iI p))]) hl (by decide) rfl dX7_clashing_3 (fun ls hl => ?_)
  have L5_1 : ∀ (fuel : Nat) (o : Int) (z : Int) (ls : Array Slot), lv_has ls 6 [(0, .ref (ad 42)), (1, .int (iI i)), (2, .int (iI p)), (3, .int (iI z)), (4, .int (iI o))] → (0 ≤ o ∧ o ≤ S 0) → (z = setB (clP S i p) (4 * o).toNat) → ((S 0 - o).toNat) < fuel → W Pg l Ev (rmC 8 0 0) s Mi args below Mt Cd s.heap [] 0 0 Q (F0 Mi 5 ls []) := by
    intro fuel
    induction fuel with
    | zero => intro o z ls hl ho hz hm; exact absurd hm (Nat.not_lt_zero _)
    | succ fuel ih5 =>
      intro o z ls hl ho hz hm
      refine li_iload hC hl 4 rfl dX7_clashing_5 ?_
      refine li_aload_n hC hl 0 rfl dX7_clashing_7 ?_
      refine li_get hC hK ck_X7 (hP 42 _ rfl) 8 (by decide) fl_X7_71 rfl (v := .int (iI (S 0))) (by rw [← show F 72 = S 0 from hd72]; rfl) dX7_clashing_8 ?_
      refine li_icmp_ge (tgt := 69) hC (by decide) (rg (by omega) (by omega)) (rg (by omega) (by omega)) dX7_clashing_11 (fun c2 => ?_) (fun c2 => ?_)
      · refine li_iload_n hC hl 3 rfl dX7_clashing_69 ?_
        exact hQ _ _ _ dX7_clashing_70 (iI_inj (by rw [hz, show o = S 0 by omega]))
      · refine li_iconst hC dX7_clashing_14 ?_
        refine li_istore hC (lv' := [(5, .int (iI 0)), (0, .ref (ad 42)), (1, .int (iI i)), (2, .int (iI p)), (3, .int (iI z)), (4, .int (iI o))]) hl (by decide) rfl dX7_clashing_15 (fun ls hl => ?_)
        have L17_3 : ∀ (fuel : Nat) (q : Int) (y : Int) (ls : Array Slot), lv_has ls 6 [(0, .ref (ad 42)), (1, .int (iI i)), (2, .int (iI p)), (4, .int (iI o)), (3, .int (iI y)), (5, .int (iI q))] → (0 ≤ q ∧ q ≤ 4) → (y = setB (clP S i p) (4 * o + q).toNat) → (((4 : Int) - q).toNat) < fuel → W Pg l Ev (rmC 8 0 0) s Mi args below Mt Cd s.heap [] 0 0 Q (F0 Mi 17 ls []) := by
          intro fuel
          induction fuel with
          | zero => intro q y ls hl hq hy hm; exact absurd hm (Nat.not_lt_zero _)
          | succ fuel ih17 =>
            intro q y ls hl hq hy hm
            refine li_iload hC hl 5 rfl dX7_clashing_17 ?_
            refine li_iconst hC dX7_clashing_19 ?_
            refine li_icmp_ge (tgt := 63) hC (by decide) (rg (by omega) (by omega)) (rg (by decide) (by decide)) dX7_clashing_20 (fun c4 => ?_) (fun c4 => ?_)
            · refine li_iinc hC (lv' := [(4, .int (iI (o + 1))), (0, .ref (ad 42)), (1, .int (iI i)), (2, .int (iI p)), (3, .int (iI y)), (5, .int (iI q))]) hl 3 rfl (by decide) rfl dX7_clashing_63 (fun ls hl => ?_)
              refine li_goto (tgt := 5) hC (by decide) dX7_clashing_66 ?_
              exact ih5 (o + 1) y _ (lv_sub hl [1, 2, 3, 4, 0] rfl) (by omega) (by rw [hy, show 4 * o + q = 4 * (o + 1) by omega]) (by omega)
            · refine li_iload hC hl 3 rfl dX7_clashing_23 ?_
              refine li_iload_n hC hl 1 rfl dX7_clashing_25 ?_
              refine li_icmp_eq (tgt := 57) hC (by decide) (rg (by omega) (by omega)) (rg (by omega) (by omega)) dX7_clashing_26 (fun c5 => ?_) (fun c5 => ?_)
              · refine li_iinc hC (lv' := [(5, .int (iI (q + 1))), (0, .ref (ad 42)), (1, .int (iI i)), (2, .int (iI p)), (4, .int (iI o)), (3, .int (iI y))]) hl 5 rfl (by decide) rfl dX7_clashing_57 (fun ls hl => ?_)
                refine li_goto (tgt := 17) hC (by decide) dX7_clashing_60 ?_
                exact ih17 (q + 1) y _ (lv_sub hl [1, 2, 3, 4, 5, 0] rfl) (by omega) (by rw [hy]; have e9 := setB_f (P := (clP S i p)) (k := 4 * o + q) (by omega) (fun h9 => by have h8 := (clP_j (by omega)).mp h9; have h7 := h8.1; have h6 := h8.2; omega); rw [e9, show 4 * o + q + 1 = 4 * o + (q + 1) by omega]) (by omega)
              · refine li_aload_n hC hl 0 rfl dX7_clashing_29 ?_
                refine li_get hC hK ck_X7 (hP 42 _ rfl) 0 (by decide) fl_X7_35 rfl (v := .ref (ad 3)) rfl dX7_clashing_30 ?_
                refine li_iload_n hC hl 1 rfl dX7_clashing_33 ?_
                refine li_iload_n hC hl 2 rfl dX7_clashing_34 ?_
                refine li_iload hC hl 3 rfl dX7_clashing_35 ?_
                refine li_iload hC hl 5 rfl dX7_clashing_37 ?_
                refine ro_callVi hC (c_X8_shared l g ad F A E tl S nm hSh hI i p o q (by omega) (by omega) (by omega) (by omega)) mk_X8_shared ml_X7_119 (rr (by decide)) ⟨Nat.le_of_ble_eq_true rfl, Nat.le_of_ble_eq_true rfl⟩ hK hE hP (li_recv hK ck_X8 (hP 3 _ rfl)) rfl hl.1 rfl (Nat.le_of_ble_eq_true rfl) dX7_clashing_39 ?_
                have q6 := bothS_rng hI (a := i) (p := p) (b := o) (q := q) (by omega)
                refine li_if_le (tgt := 57) hC (by decide) (rg (by omega) (by omega)) dX7_clashing_42 (fun c7 => ?_) (fun c7 => ?_)
                · refine li_iinc hC (lv' := [(5, .int (iI (q + 1))), (0, .ref (ad 42)), (1, .int (iI i)), (2, .int (iI p)), (4, .int (iI o)), (3, .int (iI y))]) hl 5 rfl (by decide) rfl dX7_clashing_57 (fun ls hl => ?_)
                  refine li_goto (tgt := 17) hC (by decide) dX7_clashing_60 ?_
                  exact ih17 (q + 1) y _ (lv_sub hl [1, 2, 3, 4, 5, 0] rfl) (by omega) (by rw [hy]; have e9 := setB_f (P := (clP S i p)) (k := 4 * o + q) (by omega) (fun h9 => by have h8 := (clP_j (by omega)).mp h9; have h7 := h8.1; have h6 := h8.2; omega); rw [e9, show 4 * o + q + 1 = 4 * o + (q + 1) by omega]) (by omega)
                · refine li_iload_n hC hl 4 rfl dX7_clashing_45 ?_
                  refine li_iconst hC dX7_clashing_46 ?_
                  refine li_iload hC hl 3 rfl dX7_clashing_47 ?_
                  refine li_iconst hC dX7_clashing_49 ?_
                  refine li_imul hC dX7_clashing_50 ?_
                  refine li_iload hC hl 5 rfl dX7_clashing_51 ?_
                  refine li_iadd hC dX7_clashing_53 ?_
                  refine li_ishl hC dX7_clashing_54 ?_
                  refine li_ior hC dX7_clashing_55 ?_
                  refine li_istore_n hC (lv' := [(3, .int (iI (ior y (ishl 1 ((o * 4) + q))))), (0, .ref (ad 42)), (1, .int (iI i)), (2, .int (iI p)), (4, .int (iI o)), (5, .int (iI q))]) hl (by decide) rfl dX7_clashing_56 (fun ls hl => ?_)
                  refine li_iinc hC (lv' := [(5, .int (iI (q + 1))), (3, .int (iI (ior y (ishl 1 ((o * 4) + q))))), (0, .ref (ad 42)), (1, .int (iI i)), (2, .int (iI p)), (4, .int (iI o))]) hl 5 rfl (by decide) rfl dX7_clashing_57 (fun ls hl => ?_)
                  refine li_goto (tgt := 17) hC (by decide) dX7_clashing_60 ?_
                  exact ih17 (q + 1) (ior y (ishl 1 ((o * 4) + q))) _ (lv_sub hl [2, 3, 4, 5, 1, 0] rfl) (by omega) (by rw [hy, show (o * 4) + q = 4 * o + q by omega]; have e9 := setB_t (P := (clP S i p)) (k := 4 * o + q) (by omega) (by omega) ((clP_j (by omega)).mpr ⟨by omega, by omega⟩); rw [e9, show 4 * o + q + 1 = 4 * o + (q + 1) by omega]) (by omega)
        exact L17_3 ((((4 : Int) - 0).toNat) + 1) 0 z _ (lv_sub hl [1, 2, 3, 5, 4, 0] rfl) (by omega) (by rw [hz, Int.add_zero]) (by omega)
  exact L5_1 (((S 0 - 0).toNat) + 1) 0 0 _ (lv_sub hl [2, 3, 4, 1, 0] rfl) (by omega) (by rfl) (by omega)
set_option maxHeartbeats 4000000 in
set_option maxRecDepth 100000 in
theorem c_X7_found (l : Launch) (g : GG) (ad : Nat → Nat) (F : Nat → Int) (A : Nat → Nat → Int) (E : Nat → Nat) (tl : va_W) (S : Nat → Int) (nm : Nat → Nat) (i : Int) (hD : 0 ≤ S 0 ∧ S 0 ≤ 7) (hi : 0 ≤ i ∧ i < 7) : MroI l g yX7_found cX7_found 2 3 [.ref (ad 42), .int (iI i)] (fun H => va_P g.1 vwCl (CW g ad F A E tl) H) (iI ((A 54) i.toNat)) := by
  refine ro_startI (own := RX7) (by decide) rfl (Nat.le_of_ble_eq_true rfl) ?_
  intro Pg Ev s Mi args below Mt Cd ls Q hC hK hE hP hl hQ
  have hl : lv_has ls 2 [(0, .ref (ad 42)), (1, .int (iI i))] := hl
  refine li_aload_n hC hl 0 rfl dX7_found_0 ?_
  refine li_get hC hK ck_X7 (hP 42 _ rfl) 6 (by decide) fl_X7_32 rfl (v := .ref (ad 53)) rfl dX7_found_1 ?_
  refine li_iload_n hC hl 1 rfl dX7_found_4 ?_
  refine ro_callVi hC (c_X6_get l g (ws := CW g ad F A E tl) (i := 53) (j := 54) (a := (ad 53)) (b := (ad 54)) (n := 7) (f := (A 54)) (sz := F 53) rfl rfl (Nat.le_of_ble_eq_true rfl) (k := i) ⟨by omega, by omega⟩) mk_X6_get ml_X7_39 (rr (by decide)) ⟨Nat.zero_le _, Nat.zero_le _⟩ hK hE hP (li_recv hK ck_X6 (hP 53 _ rfl)) rfl hl.1 rfl (Nat.le_of_ble_eq_true rfl) dX7_found_5 ?_
  exact hQ _ _ _ dX7_found_8 (iI_inj (by rfl))
set_option maxHeartbeats 4000000 in
set_option maxRecDepth 100000 in
theorem c_X7_howMany (l : Launch) (g : GG) (ad : Nat → Nat) (F : Nat → Int) (A : Nat → Nat → Int) (E : Nat → Nat) (tl : va_W) (S : Nat → Int) (nm : Nat → Nat) (hb : F 74 = 0 ∨ F 74 = 100000) (ht : F 74 = 100000 → -50000 ≤ F 73 ∧ F 73 ≤ 1000000) (htr : -1000000 ≤ F 73 ∧ F 73 ≤ 1000000) : MroI l g yX7_howMany cX7_howMany 1 2 [.ref (ad 42)] (fun H => va_P g.1 vwCl (CW g ad F A E tl) H) (iI (if F 74 = 0 then 0 else (F 73 + 50000) / 100000)) := by
  refine ro_startI (own := RX7) (by decide) rfl (Nat.le_of_ble_eq_true rfl) ?_
  intro Pg Ev s Mi args below Mt Cd ls Q hC hK hE hP hl hQ
  have hl : lv_has ls 1 [(0, .ref (ad 42))] := hl
  refine li_aload_n hC hl 0 rfl dX7_howMany_0 ?_
  refine li_get hC hK ck_X7 (hP 42 _ rfl) 10 (by decide) fl_X7_43 rfl (v := .int (iI (F 74))) rfl dX7_howMany_1 ?_
  refine li_if_le (tgt := 28) hC (by decide) (rg (by omega) (by omega)) dX7_howMany_4 (fun c1 => ?_) (fun c1 => ?_)
  · refine li_iconst hC dX7_howMany_28 ?_
    exact hQ _ _ _ dX7_howMany_29 (iI_inj (by first | (rw [if_pos (by omega)]; done) | (rw [if_neg (by omega), show F 74 = 100000 by omega]; omega)))
  · refine li_aload_n hC hl 0 rfl dX7_howMany_7 ?_
    refine li_get hC hK ck_X7 (hP 42 _ rfl) 9 (by decide) fl_X7_47 rfl (v := .int (iI (F 73))) rfl dX7_howMany_8 ?_
    refine li_aload_n hC hl 0 rfl dX7_howMany_11 ?_
    refine li_get hC hK ck_X7 (hP 42 _ rfl) 10 (by decide) fl_X7_43 rfl (v := .int (iI (F 74))) rfl dX7_howMany_12 ?_
    refine li_iconst hC dX7_howMany_15 ?_
    refine li_idivN hC (by omega) (by omega) (by omega) (by omega) dX7_howMany_16 ?_
    refine li_iadd hC dX7_howMany_17 ?_
    refine li_aload_n hC hl 0 rfl dX7_howMany_18 ?_
    refine li_get hC hK ck_X7 (hP 42 _ rfl) 10 (by decide) fl_X7_43 rfl (v := .int (iI (F 74))) rfl dX7_howMany_19 ?_
    refine ro_callSi hC (c_J9_floorDiv_7cf53 l g ((F 73) + ((F 74) / 2)) (F 74) (by omega) (by omega)) mk_J9_floorDiv_7cf53 ml_X7_50 (rr (by decide)) ⟨Nat.le_of_ble_eq_true rfl, Nat.le_of_ble_eq_true rfl⟩ hK hE trivial rfl hl.1 rfl (Nat.le_of_ble_eq_true rfl) dX7_howMany_22 ?_
    refine li_goto (tgt := 29) hC (by decide) dX7_howMany_25 ?_
    exact hQ _ _ _ dX7_howMany_29 (iI_inj (by first | (rw [if_pos (by omega)]; done) | (rw [if_neg (by omega), show F 74 = 100000 by omega]; omega)))
set_option maxHeartbeats 4000000 in
set_option maxRecDepth 100000 in
theorem c_X7_score (l : Launch) (g : GG) (ad : Nat → Nat) (F : Nat → Int) (A : Nat → Nat → Int) (E : Nat → Nat) (tl : va_W) (S : Nat → Int) (nm : Nat → Nat) (hb : F 74 = 0 ∨ F 74 = 100000) (ht : F 74 = 100000 → -50000 ≤ F 73 ∧ F 73 ≤ 1000000) (htr : -1000000 ≤ F 73 ∧ F 73 ≤ 1000000) : MroI l g yX7_score cX7_score 1 3 [.ref (ad 42)] (fun H => va_P g.1 vwCl (CW g ad F A E tl) H) (iI (if F 74 = 0 then F 73 else F 73 - ((F 73 + 50000) / 100000) * 100000)) := by
  refine ro_startI (own := RX7) (by decide) rfl (Nat.le_of_ble_eq_true rfl) ?_
  intro Pg Ev s Mi args below Mt Cd ls Q hC hK hE hP hl hQ
  have hl : lv_has ls 1 [(0, .ref (ad 42))] := hl
  refine li_aload_n hC hl 0 rfl dX7_score_0 ?_
  refine li_get hC hK ck_X7 (hP 42 _ rfl) 9 (by decide) fl_X7_47 rfl (v := .int (iI (F 73))) rfl dX7_score_1 ?_
  refine li_aload_n hC hl 0 rfl dX7_score_4 ?_
  refine ro_callVi hC (c_X7_howMany l g ad F A E tl S nm (by omega) (by omega) (by omega)) mk_X7_howMany ml_X7_56 (rr (by decide)) ⟨Nat.le_of_ble_eq_true rfl, Nat.le_of_ble_eq_true rfl⟩ hK hE hP (li_recv hK ck_X7 (hP 42 _ rfl)) rfl hl.1 rfl (Nat.le_of_ble_eq_true rfl) dX7_score_5 ?_
  refine li_aload_n hC hl 0 rfl dX7_score_8 ?_
  refine li_get hC hK ck_X7 (hP 42 _ rfl) 10 (by decide) fl_X7_43 rfl (v := .int (iI (F 74))) rfl dX7_score_9 ?_
  refine li_imul hC dX7_score_12 ?_
  refine li_isub hC dX7_score_13 ?_
  exact hQ _ _ _ dX7_score_14 (iI_inj (by (repeat' split) <;> first | omega | (rw [show F 74 = 100000 by omega])))
