theorem jne0 {b : Int} (h : rngL b) (hb : b ≠ 0) : ¬ jI b = 0 := fun h2 => hb ((jI_eq h (rgL (by decide) (by decide))).mp h2)
noncomputable def oddsS (S : Nat → Int) (n part : Int) : Int := if (0 ≤ n ∧ n < S 0) ∧ (0 ≤ part ∧ part ≤ 1) then (if cntB (mayS S n) 4 = 0 then -9223372036854775808 else lowS (cntB (freeS S n) 4) (cntB (mayS S n) 4) part) else -9223372036854775808
set_option maxHeartbeats 4000000 in
set_option maxRecDepth 100000 in
theorem c_X12_lowest (l : Launch) (g : GG) (up : Int) (low : Int) (part : Int) (hu : -100000 ≤ up ∧ up ≤ 100000) (hlo : 1 ≤ low ∧ low ≤ 100) (hpt : 0 ≤ part ∧ part ≤ 1) : MroJ l g yX12_lowest cX12_lowest 11 1 [.long (jI up), .long (jI low), .int (iI part)] (fun _ => True) (jI (lowS up low part)) := by
  refine ro_startJ (own := RX12) (by decide) rfl (Nat.le_of_ble_eq_true rfl) ?_
  intro Pg Ev s Mi args below Mt Cd ls Q hC hK hE hP hl hQ
  have hl : lv_has ls 11 [(0, .long (jI up)), (2, .long (jI low)), (4, .int (iI part))] := hl
  have J12_1 : ∀ (x : Int) (ls : Array Slot), lv_has ls 11 [(0, .long (jI up)), (2, .long (jI low)), (4, .int (iI part))] → (0 ≤ x ∧ x ≤ 100000 ∧ Int.gcd x low = Int.gcd up low) → W Pg l Ev (rmC 1 0 0) s Mi args below Mt Cd s.heap [] 0 0 Q (F0 Mi 12 ls [.long (jI x)]) := by
    intro x ls hl hx
    refine li_lstore hC (lv' := [(5, .long (jI x)), (0, .long (jI up)), (2, .long (jI low)), (4, .int (iI part))]) hl (by decide) rfl dX12_lowest_12 (fun ls hl => ?_)
    refine li_lload_n hC hl 2 rfl dX12_lowest_14 ?_
    refine li_lstore hC (lv' := [(7, .long (jI low)), (5, .long (jI x)), (0, .long (jI up)), (2, .long (jI low)), (4, .int (iI part))]) hl (by decide) rfl dX12_lowest_15 (fun ls hl => ?_)
    have L17_2 : ∀ (fuel : Nat) (x : Int) (y : Int) (ls : Array Slot), lv_has ls 11 [(0, .long (jI up)), (2, .long (jI low)), (4, .int (iI part)), (5, .long (jI x)), (7, .long (jI y))] → (0 ≤ x ∧ x ≤ 100000) → (0 ≤ y ∧ y ≤ 100000) → (Int.gcd x y = Int.gcd up low) → y.toNat < fuel → W Pg l Ev (rmC 1 0 0) s Mi args below Mt Cd s.heap [] 0 0 Q (F0 Mi 17 ls []) := by
      intro fuel
      induction fuel with
      | zero => intro x y ls hl hx hy hg hm; exact absurd hm (Nat.not_lt_zero _)
      | succ fuel ih =>
        intro x y ls hl hx hy hg hm
        refine li_lload hC hl 4 rfl dX12_lowest_17 ?_
        refine li_lconst hC (z := 0) rfl dX12_lowest_19 ?_
        refine li_lcmp hC (rgL (by omega) (by omega)) (rgL (by decide) (by decide)) dX12_lowest_20 ?_
        have q3 := cmpS_f y 0
        refine li_if_eq (tgt := 42) hC (by decide) (rg (by omega) (by omega)) dX12_lowest_21 (fun c4 => ?_) (fun c4 => ?_)
        · have hy0 : y = 0 := by omega
          have hxg : x = (Int.gcd up low : Int) := by rw [← hg, hy0, Int.gcd_zero_right]; omega
          have hgp : 0 < Int.gcd up low := Int.gcd_pos_of_ne_zero_right up (by omega)
          refine li_iload hC hl 2 rfl dX12_lowest_42 ?_
          refine li_if_ne (tgt := 51) hC (by decide) (rg (by omega) (by omega)) dX12_lowest_44 (fun c5 => ?_) (fun c5 => ?_)
          · refine li_lload_n hC hl 1 rfl dX12_lowest_51 ?_
            refine li_lload hC hl 3 rfl dX12_lowest_52 ?_
            refine li_ldiv hC (jne0 (rgL (by omega) (by omega)) (by omega)) dX12_lowest_54 ?_
            exact hQ _ _ _ dX12_lowest_55 (jI_inj (by unfold lowS; first | (rw [if_pos (by omega), ← hxg]; exact jdiv_t (by omega) (by omega)) | (rw [if_neg (by omega), ← hxg]; exact jdiv_t (by omega) (by omega))))
          · refine li_lload_n hC hl 0 rfl dX12_lowest_47 ?_
            refine li_goto (tgt := 52) hC (by decide) dX12_lowest_48 ?_
            refine li_lload hC hl 3 rfl dX12_lowest_52 ?_
            refine li_ldiv hC (jne0 (rgL (by omega) (by omega)) (by omega)) dX12_lowest_54 ?_
            exact hQ _ _ _ dX12_lowest_55 (jI_inj (by unfold lowS; first | (rw [if_pos (by omega), ← hxg]; exact jdiv_t (by omega) (by omega)) | (rw [if_neg (by omega), ← hxg]; exact jdiv_t (by omega) (by omega))))
        · refine li_lload hC hl 3 rfl dX12_lowest_24 ?_
          refine li_lload hC hl 4 rfl dX12_lowest_26 ?_
          refine li_lrem hC (jne0 (rgL (by omega) (by omega)) (by omega)) dX12_lowest_28 ?_
          refine li_lstore hC (lv' := [(9, .long (jI (jrem x y))), (0, .long (jI up)), (2, .long (jI low)), (4, .int (iI part)), (5, .long (jI x)), (7, .long (jI y))]) hl (by decide) rfl dX12_lowest_29 (fun ls hl => ?_)
          refine li_lload hC hl 5 rfl dX12_lowest_31 ?_
          refine li_lstore hC (lv' := [(5, .long (jI y)), (9, .long (jI (jrem x y))), (0, .long (jI up)), (2, .long (jI low)), (4, .int (iI part)), (7, .long (jI y))]) hl (by decide) rfl dX12_lowest_33 (fun ls hl => ?_)
          refine li_lload hC hl 1 rfl dX12_lowest_35 ?_
          refine li_lstore hC (lv' := [(7, .long (jI (jrem x y))), (5, .long (jI y)), (9, .long (jI (jrem x y))), (0, .long (jI up)), (2, .long (jI low)), (4, .int (iI part))]) hl (by decide) rfl dX12_lowest_37 (fun ls hl => ?_)
          refine li_goto (tgt := 17) hC (by decide) dX12_lowest_39 ?_
          exact ih y (jrem x y) _ (lv_sub hl [3, 4, 5, 1, 0] rfl) (by omega) (by rw [jrem_nn ⟨hx.1, by omega⟩ ⟨by omega, by omega⟩]; have h8 := Int.emod_lt_of_pos x (b := y) (by omega); have h9 := Int.emod_nonneg x (b := y) (by omega); omega) (by rw [jrem_nn ⟨hx.1, by omega⟩ ⟨by omega, by omega⟩, gcd_s hx.1 (by omega)]; exact hg) (by rw [jrem_nn ⟨hx.1, by omega⟩ ⟨by omega, by omega⟩]; have h8 := Int.emod_lt_of_pos x (b := y) (by omega); have h9 := Int.emod_nonneg x (b := y) (by omega); omega)
    exact L17_2 (low.toNat + 1) x low _ (lv_sub hl [2, 3, 4, 1, 0] rfl) (by omega) (by omega) (by exact hx.2.2) (by omega)
  refine li_lload_n hC hl 0 rfl dX12_lowest_0 ?_
  refine li_lconst hC (z := 0) rfl dX12_lowest_1 ?_
  refine li_lcmp hC (rgL (by omega) (by omega)) (rgL (by decide) (by decide)) dX12_lowest_2 ?_
  have q6 := cmpS_f up 0
  refine li_if_ge (tgt := 11) hC (by decide) (rg (by omega) (by omega)) dX12_lowest_3 (fun c7 => ?_) (fun c7 => ?_)
  · refine li_lload_n hC hl 0 rfl dX12_lowest_11 ?_
    exact J12_1 up _ (lv_sub hl [0, 1, 2] rfl) (by refine ⟨by omega, by omega, ?_⟩; first | rfl | exact Int.neg_gcd)
  · refine li_lload_n hC hl 0 rfl dX12_lowest_6 ?_
    refine li_lneg hC dX12_lowest_7 ?_
    refine li_goto (tgt := 12) hC (by decide) dX12_lowest_8 ?_
    exact J12_1 (-up) _ (lv_sub hl [0, 1, 2] rfl) (by refine ⟨by omega, by omega, ?_⟩; first | rfl | exact Int.neg_gcd)
set_option maxHeartbeats 4000000 in
set_option maxRecDepth 100000 in
theorem c_X12_odds (l : Launch) (g : GG) (h0 : Nat) (S : Nat → Int) (n : Int) (part : Int) (h1 : rng n) (h2 : rng part) (hI : InvD S) (hH : InvH S) : MroJ l g yX12_odds cX12_odds 8 7 [.ref h0, .int (iI n), .int (iI part)] (RPic g h0 S) (jI (oddsS S n part)) := by
  refine ro_startJ (own := RX12) (by decide) rfl (Nat.le_of_ble_eq_true rfl) ?_
  intro Pg Ev s Mi args below Mt Cd ls Q hC hK hE hP hl hQ
  have hP0 := hP
  obtain ⟨a1, fs, hO, hf, hA⟩ := hP0
  have hD0 := hI.1
  have hl : lv_has ls 8 [(0, .ref h0), (1, .int (iI n)), (2, .int (iI part))] := hl
  refine li_aload_n hC hl 0 rfl dX12_odds_0 ?_
  refine li_iload_n hC hl 1 rfl dX12_odds_1 ?_
  refine ro_callVi hC (c_X12_isName l g h0 S n h1 hI) mk_X12_isName ml_X12_189 (rr (by decide)) ⟨Nat.le_of_ble_eq_true rfl, Nat.le_of_ble_eq_true rfl⟩ hK hE hP (li_recv hK ck_X12 hO) rfl hl.1 rfl (Nat.le_of_ble_eq_true rfl) dX12_odds_2 ?_
  refine li_ifeq_b (tgt := 17) hC (by decide) dX12_odds_5 (fun c1 => ?_) (fun c1 => ?_)
  · refine li_ldc2 hC (z := -9223372036854775808) kl_X12_277 rfl dX12_odds_17 ?_
    exact hQ _ _ _ dX12_odds_20 (jI_inj (by unfold oddsS; rw [if_neg (by omega)]))
  · refine li_iload_n hC hl 2 rfl dX12_odds_8 ?_
    refine li_iconst hC dX12_odds_9 ?_
    refine li_iconst hC dX12_odds_10 ?_
    refine ro_callSi hC (c_X12_in l g part 0 1 h2 (rg (by decide) (by decide)) (rg (by decide) (by decide))) mk_X12_in ml_X12_56 (rr (by decide)) ⟨Nat.le_of_ble_eq_true rfl, Nat.le_of_ble_eq_true rfl⟩ hK hE trivial rfl hl.1 rfl (Nat.le_of_ble_eq_true rfl) dX12_odds_11 ?_
    refine li_ifne_b (tgt := 21) hC (by decide) dX12_odds_14 (fun c2 => ?_) (fun c2 => ?_)
    · refine li_lconst hC (z := 0) rfl dX12_odds_21 ?_
      refine li_lstore_n hC (lv' := [(3, .long (jI 0)), (0, .ref h0), (1, .int (iI n)), (2, .int (iI part))]) hl (by decide) rfl dX12_odds_22 (fun ls hl => ?_)
      refine li_lconst hC (z := 0) rfl dX12_odds_23 ?_
      refine li_lstore hC (lv' := [(5, .long (jI 0)), (3, .long (jI 0)), (0, .ref h0), (1, .int (iI n)), (2, .int (iI part))]) hl (by decide) rfl dX12_odds_24 (fun ls hl => ?_)
      refine li_iconst hC dX12_odds_26 ?_
      refine li_istore hC (lv' := [(7, .int (iI 0)), (5, .long (jI 0)), (3, .long (jI 0)), (0, .ref h0), (1, .int (iI n)), (2, .int (iI part))]) hl (by decide) rfl dX12_odds_27 (fun ls hl => ?_)
      have L29_3 : ∀ (fuel : Nat) (p : Int) (x : Int) (y : Int) (ls : Array Slot), lv_has ls 8 [(0, .ref h0), (1, .int (iI n)), (2, .int (iI part)), (3, .long (jI x)), (5, .long (jI y)), (7, .int (iI p))] → (0 ≤ p ∧ p ≤ 4) → (x = cntB (freeS S n) p.toNat) → (y = cntB (mayS S n) p.toNat) → (((4 : Int) - p).toNat) < fuel → W Pg l Ev (rmC 7 0 0) s Mi args below Mt Cd s.heap [] 0 0 Q (F0 Mi 29 ls []) := by
        intro fuel
        induction fuel with
        | zero => intro p x y ls hl hp hx hy hm; exact absurd hm (Nat.not_lt_zero _)
        | succ fuel ih =>
          intro p x y ls hl hp hx hy hm
          have hx2 := cntB_rng (freeS S n) p.toNat
          have hy2 := cntB_rng (mayS S n) p.toNat
          refine li_iload hC hl 5 rfl dX12_odds_29 ?_
          refine li_iconst hC dX12_odds_31 ?_
          refine li_icmp_ge (tgt := 79) hC (by decide) (rg (by omega) (by omega)) (rg (by decide) (by decide)) dX12_odds_32 (fun c4 => ?_) (fun c4 => ?_)
          · have hp4 : p = 4 := by omega
            subst hp4
            have hx3 : x = cntB (freeS S n) 4 := hx
            have hy3 : y = cntB (mayS S n) 4 := hy
            refine li_lload hC hl 4 rfl dX12_odds_79 ?_
            refine li_lconst hC (z := 0) rfl dX12_odds_81 ?_
            refine li_lcmp hC (rgL (by omega) (by omega)) (rgL (by decide) (by decide)) dX12_odds_82 ?_
            have q5 := cmpS_f y 0
            refine li_if_ne (tgt := 92) hC (by decide) (rg (by omega) (by omega)) dX12_odds_83 (fun c6 => ?_) (fun c6 => ?_)
            · refine li_lload_n hC hl 3 rfl dX12_odds_92 ?_
              refine li_lload hC hl 4 rfl dX12_odds_93 ?_
              refine li_iload_n hC hl 2 rfl dX12_odds_95 ?_
              refine ro_callSl hC (c_X12_lowest l g x y part (by omega) (by omega) (by omega)) mk_X12_lowest ml_X12_279 (rr (by decide)) ⟨Nat.le_of_ble_eq_true rfl, Nat.le_of_ble_eq_true rfl⟩ hK hE trivial rfl hl.1 rfl (Nat.le_of_ble_eq_true rfl) dX12_odds_96 ?_
              exact hQ _ _ _ dX12_odds_99 (jI_inj (by unfold oddsS; rw [if_pos (by omega), ← hx3, ← hy3]; first | (rw [if_pos (by omega)]; done) | (rw [if_neg (by omega)]; done)))
            · refine li_ldc2 hC (z := -9223372036854775808) kl_X12_277 rfl dX12_odds_86 ?_
              refine li_goto (tgt := 99) hC (by decide) dX12_odds_89 ?_
              exact hQ _ _ _ dX12_odds_99 (jI_inj (by unfold oddsS; rw [if_pos (by omega), ← hx3, ← hy3]; first | (rw [if_pos (by omega)]; done) | (rw [if_neg (by omega)]; done)))
          · refine li_lload hC hl 4 rfl dX12_odds_35 ?_
            refine li_aload_n hC hl 0 rfl dX12_odds_37 ?_
            refine li_iload_n hC hl 1 rfl dX12_odds_38 ?_
            refine li_iload hC hl 5 rfl dX12_odds_39 ?_
            refine ro_callVi hC (c_X12_may l g h0 S n p (by omega) (by omega) hI) mk_X12_may ml_X12_160 (rr (by decide)) ⟨Nat.le_of_ble_eq_true rfl, Nat.le_of_ble_eq_true rfl⟩ hK hE hP (li_recv hK ck_X12 hO) rfl hl.1 rfl (Nat.le_of_ble_eq_true rfl) dX12_odds_41 ?_
            refine li_ifeq_b (tgt := 51) hC (by decide) dX12_odds_44 (fun c7 => ?_) (fun c7 => ?_)
            · refine li_lconst hC (z := 0) rfl dX12_odds_51 ?_
              refine li_ladd hC dX12_odds_52 ?_
              refine li_lstore hC (lv' := [(5, .long (jI (y + 0))), (0, .ref h0), (1, .int (iI n)), (2, .int (iI part)), (3, .long (jI x)), (7, .int (iI p))]) hl (by decide) rfl dX12_odds_53 (fun ls hl => ?_)
              refine li_lload_n hC hl 4 rfl dX12_odds_55 ?_
              refine li_aload_n hC hl 1 rfl dX12_odds_56 ?_
              refine li_iload_n hC hl 2 rfl dX12_odds_57 ?_
              refine li_iload hC hl 5 rfl dX12_odds_58 ?_
              refine ro_callVi hC (c_X12_isFree l g h0 S n p (by omega) (by omega) hI hH) mk_X12_isFree ml_X12_186 (rr (by decide)) ⟨Nat.le_of_ble_eq_true rfl, Nat.le_of_ble_eq_true rfl⟩ hK hE hP (li_recv hK ck_X12 hO) rfl hl.1 rfl (Nat.le_of_ble_eq_true rfl) dX12_odds_60 ?_
              refine li_ifeq_b (tgt := 70) hC (by decide) dX12_odds_63 (fun c8 => ?_) (fun c8 => ?_)
              · refine li_lconst hC (z := 0) rfl dX12_odds_70 ?_
                refine li_ladd hC dX12_odds_71 ?_
                refine li_lstore_n hC (lv' := [(3, .long (jI (x + 0))), (5, .long (jI (y + 0))), (0, .ref h0), (1, .int (iI n)), (2, .int (iI part)), (7, .int (iI p))]) hl (by decide) rfl dX12_odds_72 (fun ls hl => ?_)
                refine li_iinc hC (lv' := [(7, .int (iI (p + 1))), (3, .long (jI (x + 0))), (5, .long (jI (y + 0))), (0, .ref h0), (1, .int (iI n)), (2, .int (iI part))]) hl 5 rfl (by decide) rfl dX12_odds_73 (fun ls hl => ?_)
                refine li_goto (tgt := 29) hC (by decide) dX12_odds_76 ?_
                exact ih (p + 1) (x + 0) (y + 0) _ (lv_sub hl [3, 4, 5, 1, 2, 0] rfl) (by omega) (by rw [hx]; exact (cntB_f (P := (freeS S n)) hp.1 (by assumption)).symm) (by rw [hy]; exact (cntB_f (P := (mayS S n)) hp.1 (by assumption)).symm) (by omega)
              · refine li_lconst hC (z := 1) rfl dX12_odds_66 ?_
                refine li_goto (tgt := 71) hC (by decide) dX12_odds_67 ?_
                refine li_ladd hC dX12_odds_71 ?_
                refine li_lstore_n hC (lv' := [(3, .long (jI (x + 1))), (5, .long (jI (y + 0))), (0, .ref h0), (1, .int (iI n)), (2, .int (iI part)), (7, .int (iI p))]) hl (by decide) rfl dX12_odds_72 (fun ls hl => ?_)
                refine li_iinc hC (lv' := [(7, .int (iI (p + 1))), (3, .long (jI (x + 1))), (5, .long (jI (y + 0))), (0, .ref h0), (1, .int (iI n)), (2, .int (iI part))]) hl 5 rfl (by decide) rfl dX12_odds_73 (fun ls hl => ?_)
                refine li_goto (tgt := 29) hC (by decide) dX12_odds_76 ?_
                exact ih (p + 1) (x + 1) (y + 0) _ (lv_sub hl [3, 4, 5, 1, 2, 0] rfl) (by omega) (by rw [hx]; exact (cntB_t (P := (freeS S n)) hp.1 (by assumption)).symm) (by rw [hy]; exact (cntB_f (P := (mayS S n)) hp.1 (by assumption)).symm) (by omega)
            · refine li_lconst hC (z := 1) rfl dX12_odds_47 ?_
              refine li_goto (tgt := 52) hC (by decide) dX12_odds_48 ?_
              refine li_ladd hC dX12_odds_52 ?_
              refine li_lstore hC (lv' := [(5, .long (jI (y + 1))), (0, .ref h0), (1, .int (iI n)), (2, .int (iI part)), (3, .long (jI x)), (7, .int (iI p))]) hl (by decide) rfl dX12_odds_53 (fun ls hl => ?_)
              refine li_lload_n hC hl 4 rfl dX12_odds_55 ?_
              refine li_aload_n hC hl 1 rfl dX12_odds_56 ?_
              refine li_iload_n hC hl 2 rfl dX12_odds_57 ?_
              refine li_iload hC hl 5 rfl dX12_odds_58 ?_
              refine ro_callVi hC (c_X12_isFree l g h0 S n p (by omega) (by omega) hI hH) mk_X12_isFree ml_X12_186 (rr (by decide)) ⟨Nat.le_of_ble_eq_true rfl, Nat.le_of_ble_eq_true rfl⟩ hK hE hP (li_recv hK ck_X12 hO) rfl hl.1 rfl (Nat.le_of_ble_eq_true rfl) dX12_odds_60 ?_
              refine li_ifeq_b (tgt := 70) hC (by decide) dX12_odds_63 (fun c9 => ?_) (fun c9 => ?_)
              · refine li_lconst hC (z := 0) rfl dX12_odds_70 ?_
                refine li_ladd hC dX12_odds_71 ?_
                refine li_lstore_n hC (lv' := [(3, .long (jI (x + 0))), (5, .long (jI (y + 1))), (0, .ref h0), (1, .int (iI n)), (2, .int (iI part)), (7, .int (iI p))]) hl (by decide) rfl dX12_odds_72 (fun ls hl => ?_)
                refine li_iinc hC (lv' := [(7, .int (iI (p + 1))), (3, .long (jI (x + 0))), (5, .long (jI (y + 1))), (0, .ref h0), (1, .int (iI n)), (2, .int (iI part))]) hl 5 rfl (by decide) rfl dX12_odds_73 (fun ls hl => ?_)
                refine li_goto (tgt := 29) hC (by decide) dX12_odds_76 ?_
                exact ih (p + 1) (x + 0) (y + 1) _ (lv_sub hl [3, 4, 5, 1, 2, 0] rfl) (by omega) (by rw [hx]; exact (cntB_f (P := (freeS S n)) hp.1 (by assumption)).symm) (by rw [hy]; exact (cntB_t (P := (mayS S n)) hp.1 (by assumption)).symm) (by omega)
              · refine li_lconst hC (z := 1) rfl dX12_odds_66 ?_
                refine li_goto (tgt := 71) hC (by decide) dX12_odds_67 ?_
                refine li_ladd hC dX12_odds_71 ?_
                refine li_lstore_n hC (lv' := [(3, .long (jI (x + 1))), (5, .long (jI (y + 1))), (0, .ref h0), (1, .int (iI n)), (2, .int (iI part)), (7, .int (iI p))]) hl (by decide) rfl dX12_odds_72 (fun ls hl => ?_)
                refine li_iinc hC (lv' := [(7, .int (iI (p + 1))), (3, .long (jI (x + 1))), (5, .long (jI (y + 1))), (0, .ref h0), (1, .int (iI n)), (2, .int (iI part))]) hl 5 rfl (by decide) rfl dX12_odds_73 (fun ls hl => ?_)
                refine li_goto (tgt := 29) hC (by decide) dX12_odds_76 ?_
                exact ih (p + 1) (x + 1) (y + 1) _ (lv_sub hl [3, 4, 5, 1, 2, 0] rfl) (by omega) (by rw [hx]; exact (cntB_t (P := (freeS S n)) hp.1 (by assumption)).symm) (by rw [hy]; exact (cntB_t (P := (mayS S n)) hp.1 (by assumption)).symm) (by omega)
      exact L29_3 ((((4 : Int) - 0).toNat) + 1) 0 0 0 _ (lv_sub hl [3, 4, 5, 2, 1, 0] rfl) (by omega) (by rfl) (by rfl) (by omega)
    · refine li_ldc2 hC (z := -9223372036854775808) kl_X12_277 rfl dX12_odds_17 ?_
      exact hQ _ _ _ dX12_odds_20 (jI_inj (by unfold oddsS; rw [if_neg (by omega)]))
