set_option maxHeartbeats 4000000 in
set_option maxRecDepth 100000 in
theorem c_X12_can (l : Launch) (g : GG) (h0 : Nat) (ad : Nat → Nat) (F : Nat → Int) (A : Nat → Nat → Int) (S : Nat → Int) (hSA : A 1 = S) (n : Int) (h1 : rng n) (hI : InvD S) (hL : InvL S) (sz : Nat) : MwrI l g yX12_can cX12_can 5 7 0 0 [.ref h0, .int (iI n)] sz (RW g h0 ad F A) (fun v w => v = iI (iteP (0 ≤ n ∧ n < S 0) (canS S n) (-1)) ∧ w = RW g h0 ad F A) := by
  subst hSA
  refine wr_startI (own := RX12) (by decide) rfl (Nat.le_of_ble_eq_true rfl) ?_
  intro Pg Ev s Mi args below Mt Cd ls Q Aw hC hK hS hnm hl hQ
  have hD0 := hI.1
  have hl : lv_has ls 5 [(0, .ref h0), (1, .int (iI n))] := hl
  obtain ⟨H, hH⟩ : ∃ H, H = s.heap := ⟨_, rfl⟩
  obtain ⟨locs, hlo⟩ : ∃ locs : List Loc, locs = [] := ⟨_, rfl⟩
  have hS : St g Aw s.heap H locs (RW g h0 ad F A) := by rw [hH, hlo]; exact hS
  have goal : W Pg l Ev (rmC 7 0 0) s Mi args below Mt Cd H locs 0 0 Q (F0 Mi 0 ls []) := ?goal
  · rw [hH, hlo] at goal; exact goal
  clear hH hlo
  refine li_aload_n hC hl 0 rfl dX12_can_0 ?_
  refine li_iload_n hC hl 1 rfl dX12_can_1 ?_
  refine ro_callVi hC (c_X12_isName l g h0 (A 1) n h1 hI) mk_X12_isName ml_X12_189 (rr (by decide)) ⟨Nat.le_of_ble_eq_true rfl, Nat.le_of_ble_eq_true rfl⟩ hK.1 (hS.ro hK) (RW_pic (F := F) (A := A) hS) (li_recv hK.1 ck_X12 (hS.1 0 _ rfl)) rfl hl.1 rfl (Nat.le_of_ble_eq_true rfl) dX12_can_2 ?_
  refine li_ifne_b (tgt := 10) hC (by decide) dX12_can_5 (fun c1 => ?_) (fun c1 => ?_)
  · refine li_aload_n hC hl 0 rfl dX12_can_10 ?_
    refine li_get hC hK.1 ck_X12 (hS.1 0 _ rfl) 1 (by decide) fl_X12_9 rfl (v := .ref (ad 1)) rfl dX12_can_11 ?_
    refine li_bipush hC (z := 42) rfl dX12_can_14 ?_
    refine li_iload_n hC hl 1 rfl dX12_can_16 ?_
    refine li_iadd hC dX12_can_17 ?_
    refine li_iald (f := (A 1)) hC hK.1 (hS.1 1 _ rfl) ⟨by omega, by omega⟩ (by decide) dX12_can_18 ?_
    have q2 := hI.2 n (by omega) (by omega)
    refine li_istore_n hC (lv' := [(2, .int (iI ((A 1) ((42 + n).toNat)))), (0, .ref h0), (1, .int (iI n))]) hl (by decide) rfl dX12_can_19 (fun ls hl => ?_)
    refine li_iconst hC dX12_can_20 ?_
    refine li_istore_n hC (lv' := [(3, .int (iI 0)), (2, .int (iI ((A 1) ((42 + n).toNat)))), (0, .ref h0), (1, .int (iI n))]) hl (by decide) rfl dX12_can_21 (fun ls hl => ?_)
    refine li_iconst hC dX12_can_22 ?_
    refine li_istore hC (lv' := [(4, .int (iI 0)), (3, .int (iI 0)), (2, .int (iI ((A 1) ((42 + n).toNat)))), (0, .ref h0), (1, .int (iI n))]) hl (by decide) rfl dX12_can_23 (fun ls hl => ?_)
    have L25_3 : ∀ (fuel : Nat) (p : Int) (z : Int) (f : Nat → Int) (ls : Array Slot) (H : Heap) (locs : List Loc), St g Aw s.heap H locs (RW g h0 ad F (va_up A 1 f)) → lv_has ls 5 [(2, .int (iI ((A 1) ((42 + n).toNat)))), (0, .ref h0), (1, .int (iI n)), (3, .int (iI z)), (4, .int (iI p))] → (0 ≤ p ∧ p ≤ 5) → (z = setB (fun p => seenS (va_up (A 1) (42 + n).toNat p)) p.toNat) → (∃ x : Int, f = va_up (A 1) (42 + n).toNat x) → (((5 : Int) - p).toNat) < fuel → W Pg l Ev (rmC 7 0 0) s Mi args below Mt Cd H locs 0 0 Q (F0 Mi 25 ls []) := by
      intro fuel
      induction fuel with
      | zero => intro p z f ls H locs hS hl hp hz hf hm; exact absurd hm (Nat.not_lt_zero _)
      | succ fuel ih =>
        intro p z f ls H locs hS hl hp hz hf hm
        refine li_iload hC hl 4 rfl dX12_can_25 ?_
        refine li_iconst hC dX12_can_27 ?_
        refine li_icmp_gt (tgt := 66) hC (by decide) (rg (by omega) (by omega)) (rg (by decide) (by decide)) dX12_can_28 (fun c4 => ?_) (fun c4 => ?_)
        · obtain ⟨x, rfl⟩ := hf
          refine li_aload_n hC hl 1 rfl dX12_can_66 ?_
          refine li_get hC hK.1 ck_X12 (hS.1 0 _ rfl) 1 (by decide) fl_X12_9 rfl (v := .ref (ad 1)) rfl dX12_can_67 ?_
          refine li_bipush hC (z := 42) rfl dX12_can_70 ?_
          refine li_iload_n hC hl 2 rfl dX12_can_72 ?_
          refine li_iadd hC dX12_can_73 ?_
          refine li_iload_n hC hl 0 rfl dX12_can_74 ?_
          refine li_iast hC hK hS 1 (n := 939) (f := va_up (A 1) ((42 + n).toNat) x) (z := 42 + n) rfl ⟨by omega, by omega⟩ (by decide) (ws' := RW g h0 ad F (va_up A 1 (va_up (va_up (A 1) ((42 + n).toNat) x) ((42 + n).toNat) ((A 1) ((42 + n).toNat))))) rfl dX12_can_75 (fun H locs hS => ?_)
          rw [up_up] at hS
          refine li_iload_n hC hl 3 rfl dX12_can_76 ?_
          exact hQ _ _ _ _ _ _ _ _ dX12_can_77 hS (by omega) (by omega) (by refine ⟨iI_inj (by rw [iteP_t (by omega)]; unfold canS; rw [hz, show p = 5 by omega]; rfl), by rw [up_self]; rfl⟩)
        · obtain ⟨x, rfl⟩ := hf
          refine li_aload_n hC hl 1 rfl dX12_can_31 ?_
          refine li_get hC hK.1 ck_X12 (hS.1 0 _ rfl) 1 (by decide) fl_X12_9 rfl (v := .ref (ad 1)) rfl dX12_can_32 ?_
          refine li_bipush hC (z := 42) rfl dX12_can_35 ?_
          refine li_iload_n hC hl 2 rfl dX12_can_37 ?_
          refine li_iadd hC dX12_can_38 ?_
          refine li_iload hC hl 4 rfl dX12_can_39 ?_
          refine li_iast hC hK hS 1 (n := 939) (f := va_up (A 1) ((42 + n).toNat) x) (z := 42 + n) rfl ⟨by omega, by omega⟩ (by decide) (ws' := RW g h0 ad F (va_up A 1 (va_up (va_up (A 1) ((42 + n).toNat) x) ((42 + n).toNat) p))) rfl dX12_can_41 (fun H locs hS => ?_)
          rw [up_up] at hS
          refine li_iload_n hC hl 3 rfl dX12_can_42 ?_
          refine li_aload_n hC hl 1 rfl dX12_can_43 ?_
          refine ro_callVi hC (c_X12_areAsSeen l g h0 (va_up (A 1) ((42 + n).toNat) p) (InvD_laid hI (n := n) (by omega) (by omega)) (InvL_laid hI hL (n := n) (by omega))) mk_X12_areAsSeen ml_X12_273 (rr (by decide)) ⟨Nat.le_of_ble_eq_true rfl, Nat.le_of_ble_eq_true rfl⟩ hK.1 (hS.ro hK) (RW_pic (F := F) (A := va_up A 1 (va_up (A 1) ((42 + n).toNat) p)) hS) (li_recv hK.1 ck_X12 (hS.1 0 _ rfl)) rfl hl.1 rfl (Nat.le_of_ble_eq_true rfl) dX12_can_44 ?_
          refine li_ifeq_b (tgt := 57) hC (by decide) dX12_can_47 (fun c5 => ?_) (fun c5 => ?_)
          · refine li_iconst hC dX12_can_57 ?_
            refine li_ior hC dX12_can_58 ?_
            refine li_istore_n hC (lv' := [(3, .int (iI (ior z 0))), (2, .int (iI ((A 1) ((42 + n).toNat)))), (0, .ref h0), (1, .int (iI n)), (4, .int (iI p))]) hl (by decide) rfl dX12_can_59 (fun ls hl => ?_)
            refine li_iinc hC (lv' := [(4, .int (iI (p + 1))), (3, .int (iI (ior z 0))), (2, .int (iI ((A 1) ((42 + n).toNat)))), (0, .ref h0), (1, .int (iI n))]) hl 4 rfl (by decide) rfl dX12_can_60 (fun ls hl => ?_)
            refine li_goto (tgt := 25) hC (by decide) dX12_can_63 ?_
            exact ih (p + 1) (ior z 0) (va_up (A 1) ((42 + n).toNat) p) _ _ _ hS (lv_sub hl [2, 3, 4, 1, 0] rfl) (by omega) (by rw [hz]; exact setB_f0 (P := (fun p => seenS (va_up (A 1) (42 + n).toNat p))) hp.1 (by omega) (by assumption)) (by exact ⟨_, rfl⟩) (by omega)
          · refine li_iconst hC dX12_can_50 ?_
            refine li_iload hC hl 4 rfl dX12_can_51 ?_
            refine li_ishl hC dX12_can_53 ?_
            refine li_goto (tgt := 58) hC (by decide) dX12_can_54 ?_
            refine li_ior hC dX12_can_58 ?_
            refine li_istore_n hC (lv' := [(3, .int (iI (ior z (ishl 1 p)))), (2, .int (iI ((A 1) ((42 + n).toNat)))), (0, .ref h0), (1, .int (iI n)), (4, .int (iI p))]) hl (by decide) rfl dX12_can_59 (fun ls hl => ?_)
            refine li_iinc hC (lv' := [(4, .int (iI (p + 1))), (3, .int (iI (ior z (ishl 1 p)))), (2, .int (iI ((A 1) ((42 + n).toNat)))), (0, .ref h0), (1, .int (iI n))]) hl 4 rfl (by decide) rfl dX12_can_60 (fun ls hl => ?_)
            refine li_goto (tgt := 25) hC (by decide) dX12_can_63 ?_
            exact ih (p + 1) (ior z (ishl 1 p)) (va_up (A 1) ((42 + n).toNat) p) _ _ _ hS (lv_sub hl [2, 3, 4, 1, 0] rfl) (by omega) (by rw [hz]; exact setB_t (P := (fun p => seenS (va_up (A 1) (42 + n).toNat p))) hp.1 (by omega) (by assumption)) (by exact ⟨_, rfl⟩) (by omega)
    exact L25_3 ((((5 : Int) - 0).toNat) + 1) 0 0 (A 1) _ _ _ hS (lv_sub hl [2, 3, 4, 1, 0] rfl) (by omega) (by rfl) (by exact ⟨_, (up_self _ _).symm⟩) (by omega)
  · refine li_iconst hC dX12_can_8 ?_
    exact hQ _ _ _ _ _ _ _ _ dX12_can_9 hS (by omega) (by omega) (by refine ⟨iI_inj (by rw [iteP_f (by omega)]), rfl⟩)
set_option maxHeartbeats 4000000 in
set_option maxRecDepth 100000 in
theorem c_X12_firm (l : Launch) (g : GG) (h0 : Nat) (ad : Nat → Nat) (F : Nat → Int) (A : Nat → Nat → Int) (S : Nat → Int) (hSA : A 1 = S) (n : Int) (what : Int) (h1 : rng n) (h2 : rng what) (hI : InvD S) (hL : InvL S) (sz : Nat) : MwrI l g yX12_firm cX12_firm 8 7 0 0 [.ref h0, .int (iI n), .int (iI what)] sz (RW g h0 ad F A) (fun v w => v = iI (firmS S n what) ∧ w = RW g h0 ad F A) := by
  subst hSA
  refine wr_startI (own := RX12) (by decide) rfl (Nat.le_of_ble_eq_true rfl) ?_
  intro Pg Ev s Mi args below Mt Cd ls Q Aw hC hK hS hnm hl hQ
  have hD0 := hI.1
  have hl : lv_has ls 8 [(0, .ref h0), (1, .int (iI n)), (2, .int (iI what))] := hl
  obtain ⟨H, hH⟩ : ∃ H, H = s.heap := ⟨_, rfl⟩
  obtain ⟨locs, hlo⟩ : ∃ locs : List Loc, locs = [] := ⟨_, rfl⟩
  have hS : St g Aw s.heap H locs (RW g h0 ad F A) := by rw [hH, hlo]; exact hS
  have goal : W Pg l Ev (rmC 7 0 0) s Mi args below Mt Cd H locs 0 0 Q (F0 Mi 0 ls []) := ?goal
  · rw [hH, hlo] at goal; exact goal
  clear hH hlo
  refine li_aload_n hC hl 0 rfl dX12_firm_0 ?_
  refine li_iload_n hC hl 1 rfl dX12_firm_1 ?_
  refine ro_callVi hC (c_X12_isName l g h0 (A 1) n h1 hI) mk_X12_isName ml_X12_189 (rr (by decide)) ⟨Nat.le_of_ble_eq_true rfl, Nat.le_of_ble_eq_true rfl⟩ hK.1 (hS.ro hK) (RW_pic (F := F) (A := A) hS) (li_recv hK.1 ck_X12 (hS.1 0 _ rfl)) rfl hl.1 rfl (Nat.le_of_ble_eq_true rfl) dX12_firm_2 ?_
  refine li_ifeq_b (tgt := 17) hC (by decide) dX12_firm_5 (fun c1 => ?_) (fun c1 => ?_)
  · refine li_iconst hC dX12_firm_17 ?_
    exact hQ _ _ _ _ _ _ _ _ dX12_firm_18 hS (by omega) (by omega) (by refine ⟨iI_inj (by unfold firmS; rw [iteP_f (by omega)]), rfl⟩)
  · refine li_iload_n hC hl 2 rfl dX12_firm_8 ?_
    refine li_iconst hC dX12_firm_9 ?_
    refine li_iconst hC dX12_firm_10 ?_
    refine ro_callSi hC (c_X12_in l g what 0 1 h2 (rg (by decide) (by decide)) (rg (by decide) (by decide))) mk_X12_in ml_X12_56 (rr (by decide)) ⟨Nat.le_of_ble_eq_true rfl, Nat.le_of_ble_eq_true rfl⟩ hK.1 (hS.ro hK) trivial rfl hl.1 rfl (Nat.le_of_ble_eq_true rfl) dX12_firm_11 ?_
    refine li_ifne_b (tgt := 19) hC (by decide) dX12_firm_14 (fun c2 => ?_) (fun c2 => ?_)
    · refine li_aload_n hC hl 0 rfl dX12_firm_19 ?_
      refine li_get hC hK.1 ck_X12 (hS.1 0 _ rfl) 1 (by decide) fl_X12_9 rfl (v := .ref (ad 1)) rfl dX12_firm_20 ?_
      refine li_bipush hC (z := 14) rfl dX12_firm_23 ?_
      refine li_iload_n hC hl 1 rfl dX12_firm_25 ?_
      refine li_iadd hC dX12_firm_26 ?_
      refine li_iald (f := (A 1)) hC hK.1 (hS.1 1 _ rfl) ⟨by omega, by omega⟩ (by decide) dX12_firm_27 ?_
      have q3 := hI.2 n (by omega) (by omega)
      refine li_istore_n hC (lv' := [(3, .int (iI ((A 1) ((14 + n).toNat)))), (0, .ref h0), (1, .int (iI n)), (2, .int (iI what))]) hl (by decide) rfl dX12_firm_28 (fun ls hl => ?_)
      refine li_iconst hC dX12_firm_29 ?_
      refine li_istore hC (lv' := [(4, .int (iI 0)), (3, .int (iI ((A 1) ((14 + n).toNat)))), (0, .ref h0), (1, .int (iI n)), (2, .int (iI what))]) hl (by decide) rfl dX12_firm_30 (fun ls hl => ?_)
      refine li_bipush hC (z := -5) rfl dX12_firm_32 ?_
      refine li_istore hC (lv' := [(5, .int (iI (-5))), (4, .int (iI 0)), (3, .int (iI ((A 1) ((14 + n).toNat)))), (0, .ref h0), (1, .int (iI n)), (2, .int (iI what))]) hl (by decide) rfl dX12_firm_34 (fun ls hl => ?_)
      refine li_bipush hC (z := 9) rfl dX12_firm_36 ?_
      refine li_istore hC (lv' := [(6, .int (iI 9)), (5, .int (iI (-5))), (4, .int (iI 0)), (3, .int (iI ((A 1) ((14 + n).toNat)))), (0, .ref h0), (1, .int (iI n)), (2, .int (iI what))]) hl (by decide) rfl dX12_firm_38 (fun ls hl => ?_)
      have L40_4 : ∀ (fuel : Nat) (v : Int) (z : Int) (y : Int) (f : Nat → Int) (ls : Array Slot) (H : Heap) (locs : List Loc), St g Aw s.heap H locs (RW g h0 ad F (va_up A 1 f)) → lv_has ls 8 [(3, .int (iI ((A 1) ((14 + n).toNat)))), (0, .ref h0), (1, .int (iI n)), (2, .int (iI what)), (4, .int (iI z)), (5, .int (iI y)), (6, .int (iI v))] → (-1 ≤ v ∧ v ≤ 9) → (z = frN (fun v => seenS (va_up (A 1) (14 + n).toNat v)) (9 - v).toNat) → (y = frL (fun v => seenS (va_up (A 1) (14 + n).toNat v)) (9 - v).toNat) → (∃ x : Int, f = va_up (A 1) (14 + n).toNat x) → (((v : Int) + 1).toNat) < fuel → W Pg l Ev (rmC 7 0 0) s Mi args below Mt Cd H locs 0 0 Q (F0 Mi 40 ls []) := by
        intro fuel
        induction fuel with
        | zero => intro v z y f ls H locs hS hl hv hz hy hf hm; exact absurd hm (Nat.not_lt_zero _)
        | succ fuel ih =>
          intro v z y f ls H locs hS hl hv hz hy hf hm
          have hz9 := frN_rng (fun v => seenS (va_up (A 1) (14 + n).toNat v)) (9 - v).toNat
          have hy9 := frL_rng (fun v => seenS (va_up (A 1) (14 + n).toNat v)) (9 - v).toNat (by omega)
          refine li_iload hC hl 6 rfl dX12_firm_40 ?_
          refine li_if_lt (tgt := 97) hC (by decide) (rg (by omega) (by omega)) dX12_firm_42 (fun c5 => ?_) (fun c5 => ?_)
          · obtain ⟨x, rfl⟩ := hf
            have hv1 : v = -1 := by omega
            rw [hv1] at hz hy
            refine li_aload_n hC hl 1 rfl dX12_firm_97 ?_
            refine li_get hC hK.1 ck_X12 (hS.1 0 _ rfl) 1 (by decide) fl_X12_9 rfl (v := .ref (ad 1)) rfl dX12_firm_98 ?_
            refine li_bipush hC (z := 14) rfl dX12_firm_101 ?_
            refine li_iload_n hC hl 2 rfl dX12_firm_103 ?_
            refine li_iadd hC dX12_firm_104 ?_
            refine li_iload_n hC hl 0 rfl dX12_firm_105 ?_
            refine li_iast hC hK hS 1 (n := 939) (f := va_up (A 1) ((14 + n).toNat) x) (z := 14 + n) rfl ⟨by omega, by omega⟩ (by decide) (ws' := RW g h0 ad F (va_up A 1 (va_up (va_up (A 1) ((14 + n).toNat) x) ((14 + n).toNat) ((A 1) ((14 + n).toNat))))) rfl dX12_firm_106 (fun H locs hS => ?_)
            rw [up_up] at hS
            refine li_iload_n hC hl 3 rfl dX12_firm_107 ?_
            refine li_if_ne (tgt := 116) hC (by decide) h2 dX12_firm_108 (fun c6 => ?_) (fun c6 => ?_)
            · refine li_iload hC hl 5 rfl dX12_firm_116 ?_
              exact hQ _ _ _ _ _ _ _ _ dX12_firm_118 hS (by omega) (by omega) (by refine ⟨iI_inj (by unfold firmS; rw [iteP_t ⟨by omega, by omega⟩]; first | (rw [if_pos (by omega)]; exact hz) | (rw [if_neg (by omega)]; exact hy)), by rw [up_self]; rfl⟩)
            · refine li_iload hC hl 4 rfl dX12_firm_111 ?_
              refine li_goto (tgt := 118) hC (by decide) dX12_firm_113 ?_
              exact hQ _ _ _ _ _ _ _ _ dX12_firm_118 hS (by omega) (by omega) (by refine ⟨iI_inj (by unfold firmS; rw [iteP_t ⟨by omega, by omega⟩]; first | (rw [if_pos (by omega)]; exact hz) | (rw [if_neg (by omega)]; exact hy)), by rw [up_self]; rfl⟩)
          · obtain ⟨x, rfl⟩ := hf
            refine li_aload_n hC hl 1 rfl dX12_firm_45 ?_
            refine li_get hC hK.1 ck_X12 (hS.1 0 _ rfl) 1 (by decide) fl_X12_9 rfl (v := .ref (ad 1)) rfl dX12_firm_46 ?_
            refine li_bipush hC (z := 14) rfl dX12_firm_49 ?_
            refine li_iload_n hC hl 2 rfl dX12_firm_51 ?_
            refine li_iadd hC dX12_firm_52 ?_
            refine li_iload hC hl 6 rfl dX12_firm_53 ?_
            refine li_iast hC hK hS 1 (n := 939) (f := va_up (A 1) ((14 + n).toNat) x) (z := 14 + n) rfl ⟨by omega, by omega⟩ (by decide) (ws' := RW g h0 ad F (va_up A 1 (va_up (va_up (A 1) ((14 + n).toNat) x) ((14 + n).toNat) v))) rfl dX12_firm_55 (fun H locs hS => ?_)
            rw [up_up] at hS
            refine li_aload_n hC hl 1 rfl dX12_firm_56 ?_
            refine ro_callVi hC (c_X12_areAsSeen l g h0 (va_up (A 1) ((14 + n).toNat) v) (InvD_v hI (n := n) (by omega) (by omega)) (InvL_v hI hL (n := n) (by omega))) mk_X12_areAsSeen ml_X12_273 (rr (by decide)) ⟨Nat.le_of_ble_eq_true rfl, Nat.le_of_ble_eq_true rfl⟩ hK.1 (hS.ro hK) (RW_pic (F := F) (A := va_up A 1 (va_up (A 1) ((14 + n).toNat) v)) hS) (li_recv hK.1 ck_X12 (hS.1 0 _ rfl)) rfl hl.1 rfl (Nat.le_of_ble_eq_true rfl) dX12_firm_57 ?_
            refine li_istore hC (lv' := [(7, .int (iI (b2 (seenS (va_up (A 1) ((14 + n).toNat) v))))), (3, .int (iI ((A 1) ((14 + n).toNat)))), (0, .ref h0), (1, .int (iI n)), (2, .int (iI what)), (4, .int (iI z)), (5, .int (iI y)), (6, .int (iI v))]) hl (by decide) rfl dX12_firm_60 (fun ls hl => ?_)
            refine li_iload hC hl 5 rfl dX12_firm_62 ?_
            refine li_iload hC hl 0 rfl dX12_firm_64 ?_
            refine li_ifeq_b (tgt := 73) hC (by decide) dX12_firm_66 (fun c7 => ?_) (fun c7 => ?_)
            · refine li_iconst hC dX12_firm_73 ?_
              refine li_iadd hC dX12_firm_74 ?_
              refine li_istore hC (lv' := [(4, .int (iI (z + 0))), (7, .int (iI (b2 (seenS (va_up (A 1) ((14 + n).toNat) v))))), (3, .int (iI ((A 1) ((14 + n).toNat)))), (0, .ref h0), (1, .int (iI n)), (2, .int (iI what)), (5, .int (iI y)), (6, .int (iI v))]) hl (by decide) rfl dX12_firm_75 (fun ls hl => ?_)
              refine li_iload hC hl 1 rfl dX12_firm_77 ?_
              refine li_ifeq_b (tgt := 87) hC (by decide) dX12_firm_79 (fun c8 => ?_) (fun c8 => ?_)
              · refine li_iload hC hl 6 rfl dX12_firm_87 ?_
                refine li_istore hC (lv' := [(5, .int (iI y)), (4, .int (iI (z + 0))), (7, .int (iI (b2 (seenS (va_up (A 1) ((14 + n).toNat) v))))), (3, .int (iI ((A 1) ((14 + n).toNat)))), (0, .ref h0), (1, .int (iI n)), (2, .int (iI what)), (6, .int (iI v))]) hl (by decide) rfl dX12_firm_89 (fun ls hl => ?_)
                refine li_iinc hC (lv' := [(6, .int (iI (v + (-1)))), (5, .int (iI y)), (4, .int (iI (z + 0))), (7, .int (iI (b2 (seenS (va_up (A 1) ((14 + n).toNat) v))))), (3, .int (iI ((A 1) ((14 + n).toNat)))), (0, .ref h0), (1, .int (iI n)), (2, .int (iI what))]) hl 7 rfl (by decide) rfl dX12_firm_91 (fun ls hl => ?_)
                refine li_goto (tgt := 40) hC (by decide) dX12_firm_94 ?_
                exact ih (v + (-1)) (z + 0) y (va_up (A 1) ((14 + n).toNat) v) _ _ _ hS (lv_sub hl [4, 5, 6, 7, 2, 1, 0] rfl) (by omega) (by rw [show v + (-1) = v - 1 by omega, frN_s hv.2, b2_f (by assumption), ← hz]) (by rw [show v + (-1) = v - 1 by omega, frL_s hv.2, iteP_f (by assumption), ← hy]) (by exact ⟨_, rfl⟩) (by omega)
              · refine li_iload hC hl 7 rfl dX12_firm_82 ?_
                refine li_goto (tgt := 89) hC (by decide) dX12_firm_84 ?_
                refine li_istore hC (lv' := [(5, .int (iI v)), (4, .int (iI (z + 0))), (7, .int (iI (b2 (seenS (va_up (A 1) ((14 + n).toNat) v))))), (3, .int (iI ((A 1) ((14 + n).toNat)))), (0, .ref h0), (1, .int (iI n)), (2, .int (iI what)), (6, .int (iI v))]) hl (by decide) rfl dX12_firm_89 (fun ls hl => ?_)
                refine li_iinc hC (lv' := [(6, .int (iI (v + (-1)))), (5, .int (iI v)), (4, .int (iI (z + 0))), (7, .int (iI (b2 (seenS (va_up (A 1) ((14 + n).toNat) v))))), (3, .int (iI ((A 1) ((14 + n).toNat)))), (0, .ref h0), (1, .int (iI n)), (2, .int (iI what))]) hl 7 rfl (by decide) rfl dX12_firm_91 (fun ls hl => ?_)
                refine li_goto (tgt := 40) hC (by decide) dX12_firm_94 ?_
                exact ih (v + (-1)) (z + 0) v (va_up (A 1) ((14 + n).toNat) v) _ _ _ hS (lv_sub hl [4, 5, 6, 7, 2, 1, 0] rfl) (by omega) (by rw [show v + (-1) = v - 1 by omega, frN_s hv.2, b2_f (by assumption), ← hz]) (by rw [show v + (-1) = v - 1 by omega, frL_s hv.2, iteP_t (by assumption)]) (by exact ⟨_, rfl⟩) (by omega)
            · refine li_iconst hC dX12_firm_69 ?_
              refine li_goto (tgt := 74) hC (by decide) dX12_firm_70 ?_
              refine li_iadd hC dX12_firm_74 ?_
              refine li_istore hC (lv' := [(4, .int (iI (z + 1))), (7, .int (iI (b2 (seenS (va_up (A 1) ((14 + n).toNat) v))))), (3, .int (iI ((A 1) ((14 + n).toNat)))), (0, .ref h0), (1, .int (iI n)), (2, .int (iI what)), (5, .int (iI y)), (6, .int (iI v))]) hl (by decide) rfl dX12_firm_75 (fun ls hl => ?_)
              refine li_iload hC hl 1 rfl dX12_firm_77 ?_
              refine li_ifeq_b (tgt := 87) hC (by decide) dX12_firm_79 (fun c9 => ?_) (fun c9 => ?_)
              · refine li_iload hC hl 6 rfl dX12_firm_87 ?_
                refine li_istore hC (lv' := [(5, .int (iI y)), (4, .int (iI (z + 1))), (7, .int (iI (b2 (seenS (va_up (A 1) ((14 + n).toNat) v))))), (3, .int (iI ((A 1) ((14 + n).toNat)))), (0, .ref h0), (1, .int (iI n)), (2, .int (iI what)), (6, .int (iI v))]) hl (by decide) rfl dX12_firm_89 (fun ls hl => ?_)
                refine li_iinc hC (lv' := [(6, .int (iI (v + (-1)))), (5, .int (iI y)), (4, .int (iI (z + 1))), (7, .int (iI (b2 (seenS (va_up (A 1) ((14 + n).toNat) v))))), (3, .int (iI ((A 1) ((14 + n).toNat)))), (0, .ref h0), (1, .int (iI n)), (2, .int (iI what))]) hl 7 rfl (by decide) rfl dX12_firm_91 (fun ls hl => ?_)
                refine li_goto (tgt := 40) hC (by decide) dX12_firm_94 ?_
                exact ih (v + (-1)) (z + 1) y (va_up (A 1) ((14 + n).toNat) v) _ _ _ hS (lv_sub hl [4, 5, 6, 7, 2, 1, 0] rfl) (by omega) (by rw [show v + (-1) = v - 1 by omega, frN_s hv.2, b2_t (by assumption), ← hz]) (by rw [show v + (-1) = v - 1 by omega, frL_s hv.2, iteP_f (by assumption), ← hy]) (by exact ⟨_, rfl⟩) (by omega)
              · refine li_iload hC hl 7 rfl dX12_firm_82 ?_
                refine li_goto (tgt := 89) hC (by decide) dX12_firm_84 ?_
                refine li_istore hC (lv' := [(5, .int (iI v)), (4, .int (iI (z + 1))), (7, .int (iI (b2 (seenS (va_up (A 1) ((14 + n).toNat) v))))), (3, .int (iI ((A 1) ((14 + n).toNat)))), (0, .ref h0), (1, .int (iI n)), (2, .int (iI what)), (6, .int (iI v))]) hl (by decide) rfl dX12_firm_89 (fun ls hl => ?_)
                refine li_iinc hC (lv' := [(6, .int (iI (v + (-1)))), (5, .int (iI v)), (4, .int (iI (z + 1))), (7, .int (iI (b2 (seenS (va_up (A 1) ((14 + n).toNat) v))))), (3, .int (iI ((A 1) ((14 + n).toNat)))), (0, .ref h0), (1, .int (iI n)), (2, .int (iI what))]) hl 7 rfl (by decide) rfl dX12_firm_91 (fun ls hl => ?_)
                refine li_goto (tgt := 40) hC (by decide) dX12_firm_94 ?_
                exact ih (v + (-1)) (z + 1) v (va_up (A 1) ((14 + n).toNat) v) _ _ _ hS (lv_sub hl [4, 5, 6, 7, 2, 1, 0] rfl) (by omega) (by rw [show v + (-1) = v - 1 by omega, frN_s hv.2, b2_t (by assumption), ← hz]) (by rw [show v + (-1) = v - 1 by omega, frL_s hv.2, iteP_t (by assumption)]) (by exact ⟨_, rfl⟩) (by omega)
      exact L40_4 ((((9 : Int) + 1).toNat) + 1) 9 0 (-5) (A 1) _ _ _ hS (lv_sub hl [3, 4, 5, 6, 2, 1, 0] rfl) (by omega) (by rfl) (by rfl) (by exact ⟨_, (up_self _ _).symm⟩) (by omega)
    · refine li_iconst hC dX12_firm_17 ?_
      exact hQ _ _ _ _ _ _ _ _ dX12_firm_18 hS (by omega) (by omega) (by refine ⟨iI_inj (by unfold firmS; rw [iteP_f (by omega)]), rfl⟩)
