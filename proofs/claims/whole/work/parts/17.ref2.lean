theorem absD_rng {a b : Int} : 0 ≤ absD a b ∧ (absD a b = a - b ∨ absD a b = b - a) := by
  unfold absD
  split <;> omega
theorem farS_rng {S : Nat → Int} (hI : InvD S) {n d : Int} (h : 0 ≤ n ∧ n < S 0) (h2 : 0 ≤ d ∧ d < S 0) : 0 ≤ farS S n d ∧ farS S n d ≤ 100 := by
  have q1 := hI.2 n h.1 h.2
  have q2 := hI.2 d h2.1 h2.2
  have q3 := firstS_rng hI (p := S (42 + n).toNat) h
  have q4 := rowS_rng hI (p := S (42 + n).toNat) h
  have q5 := lenS_rng hI h
  unfold farS
  have q6 := absD_rng (a := firstS S n (S (42 + n).toNat) + lenS S n / 2) (b := S (28 + d).toNat)
  have q7 := absD_rng (a := rowS S n (S (42 + n).toNat)) (b := S (35 + d).toNat)
  omega
theorem atS_rng {S : Nat → Int} (hI : InvD S) (c r : Int) : 0 ≤ atS S c r ∧ atS S c r < 1073741824 := by
  have h := hI.1
  exact setB_lt _ (n := (S 0).toNat) (by omega)
set_option maxHeartbeats 4000000 in
set_option maxRecDepth 100000 in
theorem c_X12_bothAt (l : Launch) (g : GG) (h0 : Nat) (S : Nat → Int) (a : Int) (p : Int) (b : Int) (q : Int) (ha : 0 ≤ a ∧ a < S 0) (hp : 0 ≤ p ∧ p ≤ 4) (hb : 0 ≤ b ∧ b < S 0) (hq : 0 ≤ q ∧ q ≤ 4) (hI : InvD S) : MroI l g yX12_bothAt cX12_bothAt 8 5 [.ref h0, .int (iI a), .int (iI p), .int (iI b), .int (iI q)] (RPic g h0 S) (iI (bothS S a p b q)) := by
  refine ro_startI (own := RX12) (by decide) rfl (Nat.le_of_ble_eq_true rfl) ?_
  intro Pg Ev s Mi args below Mt Cd ls Q hC hK hE hP hl hQ
  have hP0 := hP
  obtain ⟨a1, fs, hO, hf, hA⟩ := hP0
  have hD0 := hI.1
  have hl : lv_has ls 8 [(0, .ref h0), (1, .int (iI a)), (2, .int (iI p)), (3, .int (iI b)), (4, .int (iI q))] := hl
  refine li_aload_n hC hl 0 rfl dX12_bothAt_0 ?_
  refine li_iload_n hC hl 1 rfl dX12_bothAt_1 ?_
  refine li_iload_n hC hl 2 rfl dX12_bothAt_2 ?_
  refine ro_callVi hC (c_X12_rowAt l g h0 S a p (by omega) (by omega) hI) mk_X12_rowAt ml_X12_153 (rr (by decide)) ⟨Nat.le_of_ble_eq_true rfl, Nat.le_of_ble_eq_true rfl⟩ hK hE hP (li_recv hK ck_X12 hO) rfl hl.1 rfl (Nat.le_of_ble_eq_true rfl) dX12_bothAt_3 ?_
  have q1 := rowS_rng hI (n := a) (p := p) (by omega)
  refine li_aload_n hC hl 0 rfl dX12_bothAt_6 ?_
  refine li_iload_n hC hl 3 rfl dX12_bothAt_7 ?_
  refine li_iload hC hl 4 rfl dX12_bothAt_8 ?_
  refine ro_callVi hC (c_X12_rowAt l g h0 S b q (by omega) (by omega) hI) mk_X12_rowAt ml_X12_153 (rr (by decide)) ⟨Nat.le_of_ble_eq_true rfl, Nat.le_of_ble_eq_true rfl⟩ hK hE hP (li_recv hK ck_X12 hO) rfl hl.1 rfl (Nat.le_of_ble_eq_true rfl) dX12_bothAt_10 ?_
  have q2 := rowS_rng hI (n := b) (p := q) (by omega)
  refine li_icmp_eq (tgt := 18) hC (by decide) (rg (by omega) (by omega)) (rg (by omega) (by omega)) dX12_bothAt_13 (fun c3 => ?_) (fun c3 => ?_)
  · refine li_aload_n hC hl 0 rfl dX12_bothAt_18 ?_
    refine li_iload_n hC hl 1 rfl dX12_bothAt_19 ?_
    refine li_iload_n hC hl 2 rfl dX12_bothAt_20 ?_
    refine ro_callVi hC (c_X12_firstAt l g h0 S a p (by omega) (by omega) hI) mk_X12_firstAt ml_X12_150 (rr (by decide)) ⟨Nat.le_of_ble_eq_true rfl, Nat.le_of_ble_eq_true rfl⟩ hK hE hP (li_recv hK ck_X12 hO) rfl hl.1 rfl (Nat.le_of_ble_eq_true rfl) dX12_bothAt_21 ?_
    have q4 := firstS_rng hI (n := a) (p := p) (by omega)
    refine li_istore hC (lv' := [(5, .int (iI (firstS S a p))), (0, .ref h0), (1, .int (iI a)), (2, .int (iI p)), (3, .int (iI b)), (4, .int (iI q))]) hl (by decide) rfl dX12_bothAt_24 (fun ls hl => ?_)
    have hla := lenS_rng hI ha
    refine li_iconst hC dX12_bothAt_26 ?_
    refine li_istore hC (lv' := [(6, .int (iI 0)), (5, .int (iI (firstS S a p))), (0, .ref h0), (1, .int (iI a)), (2, .int (iI p)), (3, .int (iI b)), (4, .int (iI q))]) hl (by decide) rfl dX12_bothAt_27 (fun ls hl => ?_)
    refine li_iconst hC dX12_bothAt_29 ?_
    refine li_istore hC (lv' := [(7, .int (iI 0)), (6, .int (iI 0)), (5, .int (iI (firstS S a p))), (0, .ref h0), (1, .int (iI a)), (2, .int (iI p)), (3, .int (iI b)), (4, .int (iI q))]) hl (by decide) rfl dX12_bothAt_30 (fun ls hl => ?_)
    have L32_5 : ∀ (fuel : Nat) (k : Int) (z : Int) (ls : Array Slot), lv_has ls 8 [(5, .int (iI (firstS S a p))), (0, .ref h0), (1, .int (iI a)), (2, .int (iI p)), (3, .int (iI b)), (4, .int (iI q)), (6, .int (iI z)), (7, .int (iI k))] → (0 ≤ k ∧ k ≤ lenS S a) → (z = cntB (fun k => isAtS S b q (firstS S a p + k) (rowS S b q)) k.toNat) → ((lenS S a - k).toNat) < fuel → W Pg l Ev (rmC 5 0 0) s Mi args below Mt Cd s.heap [] 0 0 Q (F0 Mi 32 ls []) := by
      intro fuel
      induction fuel with
      | zero => intro k z ls hl hk hz hm; exact absurd hm (Nat.not_lt_zero _)
      | succ fuel ih =>
        intro k z ls hl hk hz hm
        have hz2 := cntB_rng (fun k => isAtS S b q (firstS S a p + k) (rowS S b q)) k.toNat
        refine li_iload hC hl 7 rfl dX12_bothAt_32 ?_
        refine li_aload_n hC hl 1 rfl dX12_bothAt_34 ?_
        refine li_iload_n hC hl 2 rfl dX12_bothAt_35 ?_
        refine ro_callVi hC (c_X12_lengthOf l g h0 S a (by omega) hI) mk_X12_lengthOf ml_X12_146 (rr (by decide)) ⟨Nat.le_of_ble_eq_true rfl, Nat.le_of_ble_eq_true rfl⟩ hK hE hP (li_recv hK ck_X12 hO) rfl hl.1 rfl (Nat.le_of_ble_eq_true rfl) dX12_bothAt_36 ?_
        have q6 := lenS_rng hI (n := a) (by omega)
        refine li_icmp_ge (tgt := 80) hC (by decide) (rg (by omega) (by omega)) (rg (by omega) (by omega)) dX12_bothAt_39 (fun c7 => ?_) (fun c7 => ?_)
        · refine li_iload hC hl 6 rfl dX12_bothAt_80 ?_
          exact hQ _ _ _ dX12_bothAt_82 (iI_inj (by unfold bothS; first | (rw [if_neg (by assumption)]; done) | (rw [if_pos (by assumption), hz, show k = lenS S a by omega])))
        · refine li_iload hC hl 6 rfl dX12_bothAt_42 ?_
          refine li_aload_n hC hl 1 rfl dX12_bothAt_44 ?_
          refine li_iload_n hC hl 4 rfl dX12_bothAt_45 ?_
          refine li_iload hC hl 5 rfl dX12_bothAt_46 ?_
          refine li_iload hC hl 0 rfl dX12_bothAt_48 ?_
          refine li_iload hC hl 7 rfl dX12_bothAt_50 ?_
          refine li_iadd hC dX12_bothAt_52 ?_
          refine li_aload_n hC hl 1 rfl dX12_bothAt_53 ?_
          refine li_iload_n hC hl 4 rfl dX12_bothAt_54 ?_
          refine li_iload hC hl 5 rfl dX12_bothAt_55 ?_
          refine ro_callVi hC (c_X12_rowAt l g h0 S b q (by omega) (by omega) hI) mk_X12_rowAt ml_X12_153 (rr (by decide)) ⟨Nat.le_of_ble_eq_true rfl, Nat.le_of_ble_eq_true rfl⟩ hK hE hP (li_recv hK ck_X12 hO) rfl hl.1 rfl (Nat.le_of_ble_eq_true rfl) dX12_bothAt_57 ?_
          have q8 := rowS_rng hI (n := b) (p := q) (by omega)
          refine ro_callVi hC (c_X12_isAt l g h0 S b q ((firstS S a p) + k) (rowS S b q) (by omega) (by omega) (by omega) (by omega) hI) mk_X12_isAt ml_X12_156 (rr (by decide)) ⟨Nat.le_of_ble_eq_true rfl, Nat.le_of_ble_eq_true rfl⟩ hK hE hP (li_recv hK ck_X12 hO) rfl hl.1 rfl (Nat.le_of_ble_eq_true rfl) dX12_bothAt_60 ?_
          refine li_ifeq_b (tgt := 70) hC (by decide) dX12_bothAt_63 (fun c9 => ?_) (fun c9 => ?_)
          · refine li_iconst hC dX12_bothAt_70 ?_
            refine li_iadd hC dX12_bothAt_71 ?_
            refine li_istore hC (lv' := [(6, .int (iI (z + 0))), (5, .int (iI (firstS S a p))), (0, .ref h0), (1, .int (iI a)), (2, .int (iI p)), (3, .int (iI b)), (4, .int (iI q)), (7, .int (iI k))]) hl (by decide) rfl dX12_bothAt_72 (fun ls hl => ?_)
            refine li_iinc hC (lv' := [(7, .int (iI (k + 1))), (6, .int (iI (z + 0))), (5, .int (iI (firstS S a p))), (0, .ref h0), (1, .int (iI a)), (2, .int (iI p)), (3, .int (iI b)), (4, .int (iI q))]) hl 7 rfl (by decide) rfl dX12_bothAt_74 (fun ls hl => ?_)
            refine li_goto (tgt := 32) hC (by decide) dX12_bothAt_77 ?_
            exact ih (k + 1) (z + 0) _ (lv_sub hl [2, 3, 4, 5, 6, 7, 1, 0] rfl) (by omega) (by first | (rw [hz]; exact (cntB_t (P := fun k => isAtS S b q (firstS S a p + k) (rowS S b q)) hk.1 (by assumption)).symm) | (rw [hz]; exact (cntB_f (P := fun k => isAtS S b q (firstS S a p + k) (rowS S b q)) hk.1 (by assumption)).symm)) (by omega)
          · refine li_iconst hC dX12_bothAt_66 ?_
            refine li_goto (tgt := 71) hC (by decide) dX12_bothAt_67 ?_
            refine li_iadd hC dX12_bothAt_71 ?_
            refine li_istore hC (lv' := [(6, .int (iI (z + 1))), (5, .int (iI (firstS S a p))), (0, .ref h0), (1, .int (iI a)), (2, .int (iI p)), (3, .int (iI b)), (4, .int (iI q)), (7, .int (iI k))]) hl (by decide) rfl dX12_bothAt_72 (fun ls hl => ?_)
            refine li_iinc hC (lv' := [(7, .int (iI (k + 1))), (6, .int (iI (z + 1))), (5, .int (iI (firstS S a p))), (0, .ref h0), (1, .int (iI a)), (2, .int (iI p)), (3, .int (iI b)), (4, .int (iI q))]) hl 7 rfl (by decide) rfl dX12_bothAt_74 (fun ls hl => ?_)
            refine li_goto (tgt := 32) hC (by decide) dX12_bothAt_77 ?_
            exact ih (k + 1) (z + 1) _ (lv_sub hl [2, 3, 4, 5, 6, 7, 1, 0] rfl) (by omega) (by first | (rw [hz]; exact (cntB_t (P := fun k => isAtS S b q (firstS S a p + k) (rowS S b q)) hk.1 (by assumption)).symm) | (rw [hz]; exact (cntB_f (P := fun k => isAtS S b q (firstS S a p + k) (rowS S b q)) hk.1 (by assumption)).symm)) (by omega)
    exact L32_5 (((lenS S a - 0).toNat) + 1) 0 0 _ (lv_sub hl [2, 3, 4, 5, 6, 7, 1, 0] rfl) (by omega) (by rfl) (by omega)
  · refine li_iconst hC dX12_bothAt_16 ?_
    exact hQ _ _ _ dX12_bothAt_17 (iI_inj (by unfold bothS; first | (rw [if_neg (by assumption)]; done) | (rw [if_pos (by assumption), hz, show k = lenS S a by omega])))
set_option maxHeartbeats 4000000 in
set_option maxRecDepth 100000 in
theorem c_X12_may (l : Launch) (g : GG) (h0 : Nat) (S : Nat → Int) (n : Int) (p : Int) (hn : 0 ≤ n ∧ n < S 0) (hp : 0 ≤ p ∧ p ≤ 3) (hI : InvD S) : MroZ l g yX12_may cX12_may 3 1 [.ref h0, .int (iI n), .int (iI p)] (RPic g h0 S) (iI (b2 (mayS S n p))) := by
  refine ro_startZ (own := RX12) (by decide) rfl (Nat.le_of_ble_eq_true rfl) ?_
  intro Pg Ev s Mi args below Mt Cd ls Q hC hK hE hP hl hQ
  have hP0 := hP
  obtain ⟨a1, fs, hO, hf, hA⟩ := hP0
  have hD0 := hI.1
  have hl : lv_has ls 3 [(0, .ref h0), (1, .int (iI n)), (2, .int (iI p))] := hl
  refine li_aload_n hC hl 0 rfl dX12_may_0 ?_
  refine li_get hC hK ck_X12 hO 1 (by decide) fl_X12_9 rfl (v := .ref a1) hf dX12_may_1 ?_
  refine li_bipush hC (z := 7) rfl dX12_may_4 ?_
  refine li_iload_n hC hl 1 rfl dX12_may_6 ?_
  refine li_iadd hC dX12_may_7 ?_
  refine li_iald hC hK hA ⟨by omega, by omega⟩ (by decide) dX12_may_8 ?_
  have q1 := hI.2 n (by omega) (by omega)
  by_cases c2 : S (7 + n).toNat = 1
  · refine li_tableIn (tgt := 48) hC (rg (by omega) (by omega)) (by omega) (by omega) (off := 39) (by rw [c2]; rfl) (by decide) dX12_may_9 ?_
    refine li_iload_n hC hl 2 rfl dX12_may_48 ?_
    refine li_iconst hC dX12_may_49 ?_
    refine li_icmp_ge (tgt := 57) hC (by decide) (rg (by omega) (by omega)) (rg (by decide) (by decide)) dX12_may_50 (fun c3 => ?_) (fun c3 => ?_)
    · refine li_iconst hC dX12_may_57 ?_
      exact hQ _ _ _ dX12_may_58 (Or.inl rfl) (iI_inj ((b2_f (by unfold mayS; omega)).symm))
    · refine li_iconst hC dX12_may_53 ?_
      refine li_goto (tgt := 58) hC (by decide) dX12_may_54 ?_
      exact hQ _ _ _ dX12_may_58 (Or.inr rfl) (iI_inj ((b2_t (by unfold mayS; omega)).symm))
  by_cases c4 : S (7 + n).toNat = 2
  · refine li_tableIn (tgt := 59) hC (rg (by omega) (by omega)) (by omega) (by omega) (off := 50) (by rw [c4]; rfl) (by decide) dX12_may_9 ?_
    refine li_iload_n hC hl 2 rfl dX12_may_59 ?_
    refine li_if_eq (tgt := 68) hC (by decide) (rg (by omega) (by omega)) dX12_may_60 (fun c5 => ?_) (fun c5 => ?_)
    · refine li_iconst hC dX12_may_68 ?_
      refine li_goto (tgt := 73) hC (by decide) dX12_may_69 ?_
      exact hQ _ _ _ dX12_may_73 (Or.inr rfl) (iI_inj ((b2_t (by unfold mayS; omega)).symm))
    · refine li_iload_n hC hl 2 rfl dX12_may_63 ?_
      refine li_iconst hC dX12_may_64 ?_
      refine li_icmp_ne (tgt := 72) hC (by decide) (rg (by omega) (by omega)) (rg (by decide) (by decide)) dX12_may_65 (fun c6 => ?_) (fun c6 => ?_)
      · refine li_iconst hC dX12_may_72 ?_
        exact hQ _ _ _ dX12_may_73 (Or.inl rfl) (iI_inj ((b2_f (by unfold mayS; omega)).symm))
      · refine li_iconst hC dX12_may_68 ?_
        refine li_goto (tgt := 73) hC (by decide) dX12_may_69 ?_
        exact hQ _ _ _ dX12_may_73 (Or.inr rfl) (iI_inj ((b2_t (by unfold mayS; omega)).symm))
  by_cases c7 : S (7 + n).toNat = 3
  · refine li_tableIn (tgt := 74) hC (rg (by omega) (by omega)) (by omega) (by omega) (off := 65) (by rw [c7]; rfl) (by decide) dX12_may_9 ?_
    refine li_iload_n hC hl 2 rfl dX12_may_74 ?_
    refine li_iconst hC dX12_may_75 ?_
    refine li_icmp_le (tgt := 83) hC (by decide) (rg (by omega) (by omega)) (rg (by decide) (by decide)) dX12_may_76 (fun c8 => ?_) (fun c8 => ?_)
    · refine li_iconst hC dX12_may_83 ?_
      exact hQ _ _ _ dX12_may_84 (Or.inl rfl) (iI_inj ((b2_f (by unfold mayS; omega)).symm))
    · refine li_iconst hC dX12_may_79 ?_
      refine li_goto (tgt := 84) hC (by decide) dX12_may_80 ?_
      exact hQ _ _ _ dX12_may_84 (Or.inr rfl) (iI_inj ((b2_t (by unfold mayS; omega)).symm))
  by_cases c9 : S (7 + n).toNat = 4
  · refine li_tableIn (tgt := 117) hC (rg (by omega) (by omega)) (by omega) (by omega) (off := 108) (by rw [c9]; rfl) (by decide) dX12_may_9 ?_
    refine li_iconst hC dX12_may_117 ?_
    exact hQ _ _ _ dX12_may_118 (Or.inr rfl) (iI_inj ((b2_t (by unfold mayS; omega)).symm))
  by_cases c10 : S (7 + n).toNat = 5
  · refine li_tableIn (tgt := 85) hC (rg (by omega) (by omega)) (by omega) (by omega) (off := 76) (by rw [c10]; rfl) (by decide) dX12_may_9 ?_
    refine li_iload_n hC hl 2 rfl dX12_may_85 ?_
    refine li_if_ne (tgt := 93) hC (by decide) (rg (by omega) (by omega)) dX12_may_86 (fun c11 => ?_) (fun c11 => ?_)
    · refine li_iconst hC dX12_may_93 ?_
      exact hQ _ _ _ dX12_may_94 (Or.inl rfl) (iI_inj ((b2_f (by unfold mayS; omega)).symm))
    · refine li_iconst hC dX12_may_89 ?_
      refine li_goto (tgt := 94) hC (by decide) dX12_may_90 ?_
      exact hQ _ _ _ dX12_may_94 (Or.inr rfl) (iI_inj ((b2_t (by unfold mayS; omega)).symm))
  by_cases c12 : S (7 + n).toNat = 6
  · refine li_tableIn (tgt := 95) hC (rg (by omega) (by omega)) (by omega) (by omega) (off := 86) (by rw [c12]; rfl) (by decide) dX12_may_9 ?_
    refine li_aload_n hC hl 0 rfl dX12_may_95 ?_
    refine li_get hC hK ck_X12 hO 1 (by decide) fl_X12_9 rfl (v := .ref a1) hf dX12_may_96 ?_
    refine li_bipush hC (z := 49) rfl dX12_may_99 ?_
    refine li_iconst hC dX12_may_101 ?_
    refine li_iload_n hC hl 1 rfl dX12_may_102 ?_
    refine li_imul hC dX12_may_103 ?_
    refine li_iadd hC dX12_may_104 ?_
    refine li_iload_n hC hl 2 rfl dX12_may_105 ?_
    refine li_iadd hC dX12_may_106 ?_
    refine li_iald hC hK hA ⟨by omega, by omega⟩ (by decide) dX12_may_107 ?_
    have q13 := (hI.2 n (by omega) (by omega)).2.2.2.2.2.2 p (by omega) (by omega)
    refine li_if_le (tgt := 115) hC (by decide) (rg (by omega) (by omega)) dX12_may_108 (fun c14 => ?_) (fun c14 => ?_)
    · refine li_iconst hC dX12_may_115 ?_
      exact hQ _ _ _ dX12_may_116 (Or.inl rfl) (iI_inj ((b2_f (by unfold mayS; omega)).symm))
    · refine li_iconst hC dX12_may_111 ?_
      refine li_goto (tgt := 116) hC (by decide) dX12_may_112 ?_
      exact hQ _ _ _ dX12_may_116 (Or.inr rfl) (iI_inj ((b2_t (by unfold mayS; omega)).symm))
  refine li_tableOut (tgt := 117) hC (rg (by omega) (by omega)) (by omega) (by decide) dX12_may_9 ?_
  refine li_iconst hC dX12_may_117 ?_
  exact hQ _ _ _ dX12_may_118 (Or.inr rfl) (iI_inj ((b2_t (by unfold mayS; omega)).symm))
set_option maxHeartbeats 4000000 in
set_option maxRecDepth 100000 in
theorem c_X12_fits (l : Launch) (g : GG) (h0 : Nat) (S : Nat → Int) (n : Int) (p : Int) (wide : Int) (hn : 0 ≤ n ∧ n < S 0) (hp : 0 ≤ p ∧ p ≤ 3) (hw : 10 ≤ wide ∧ wide ≤ 30) (hI : InvD S) : MroZ l g yX12_fits cX12_fits 7 5 [.ref h0, .int (iI n), .int (iI p), .int (iI wide)] (RPic g h0 S) (iI (b2 (fitsS S n p wide))) := by
  refine ro_startZ (own := RX12) (by decide) rfl (Nat.le_of_ble_eq_true rfl) ?_
  intro Pg Ev s Mi args below Mt Cd ls Q hC hK hE hP hl hQ
  have hP0 := hP
  obtain ⟨a1, fs, hO, hf, hA⟩ := hP0
  have hD0 := hI.1
  have hl : lv_has ls 7 [(0, .ref h0), (1, .int (iI n)), (2, .int (iI p)), (3, .int (iI wide))] := hl
  refine li_aload_n hC hl 0 rfl dX12_fits_0 ?_
  refine li_iload_n hC hl 1 rfl dX12_fits_1 ?_
  refine li_iload_n hC hl 2 rfl dX12_fits_2 ?_
  refine ro_callVi hC (c_X12_firstAt l g h0 S n p (by omega) (by omega) hI) mk_X12_firstAt ml_X12_150 (rr (by decide)) ⟨Nat.le_of_ble_eq_true rfl, Nat.le_of_ble_eq_true rfl⟩ hK hE hP (li_recv hK ck_X12 hO) rfl hl.1 rfl (Nat.le_of_ble_eq_true rfl) dX12_fits_3 ?_
  have q1 := firstS_rng hI (n := n) (p := p) (by omega)
  have J54_2 : ∀ (z : Int) (ls : Array Slot), lv_has ls 7 [(0, .ref h0), (1, .int (iI n)), (2, .int (iI p)), (3, .int (iI wide)), (4, .int (iI (firstS S n p)))] → (z = b2 (mayS S n p ∧ (0 ≤ rowS S n p ∧ rowS S n p ≤ 11) ∧ 0 ≤ firstS S n p ∧ firstS S n p + lenS S n ≤ wide)) → W Pg l Ev (rmC 5 0 0) s Mi args below Mt Cd s.heap [] 0 0 Q (F0 Mi 54 ls [.int (iI z)]) := by
    intro z ls hl hz
    have hz0 := b2r hz
    refine li_istore hC (lv' := [(5, .int (iI z)), (0, .ref h0), (1, .int (iI n)), (2, .int (iI p)), (3, .int (iI wide)), (4, .int (iI (firstS S n p)))]) hl (by decide) rfl dX12_fits_54 (fun ls hl => ?_)
    refine li_iconst hC dX12_fits_56 ?_
    refine li_istore hC (lv' := [(6, .int (iI 0)), (5, .int (iI z)), (0, .ref h0), (1, .int (iI n)), (2, .int (iI p)), (3, .int (iI wide)), (4, .int (iI (firstS S n p)))]) hl (by decide) rfl dX12_fits_57 (fun ls hl => ?_)
    have L59_3 : ∀ (fuel : Nat) (d : Int) (z : Int) (ls : Array Slot), lv_has ls 7 [(0, .ref h0), (1, .int (iI n)), (2, .int (iI p)), (3, .int (iI wide)), (4, .int (iI (firstS S n p))), (5, .int (iI z)), (6, .int (iI d))] → (0 ≤ d ∧ d ≤ S 0) → (z = b2 ((mayS S n p ∧ (0 ≤ rowS S n p ∧ rowS S n p ≤ 11) ∧ 0 ≤ firstS S n p ∧ firstS S n p + lenS S n ≤ wide) ∧ allB (fun d => ¬ isAtS S n p (S (28 + d).toNat) (S (35 + d).toNat)) d)) → ((S 0 - d).toNat) < fuel → W Pg l Ev (rmC 5 0 0) s Mi args below Mt Cd s.heap [] 0 0 Q (F0 Mi 59 ls []) := by
      intro fuel
      induction fuel with
      | zero => intro d z ls hl hd hz hm; exact absurd hm (Nat.not_lt_zero _)
      | succ fuel ih =>
        intro d z ls hl hd hz hm
        have hz0 := b2r hz
        refine li_iload hC hl 6 rfl dX12_fits_59 ?_
        refine li_aload_n hC hl 0 rfl dX12_fits_61 ?_
        refine li_get hC hK ck_X12 hO 1 (by decide) fl_X12_9 rfl (v := .ref a1) hf dX12_fits_62 ?_
        refine li_iconst hC dX12_fits_65 ?_
        refine li_iald_k (k := 0) hC hK hA rfl (by decide) (by decide) dX12_fits_66 ?_
        refine li_icmp_ge (tgt := 117) hC (by decide) (rg (by omega) (by omega)) (rg (by omega) (by omega)) dX12_fits_67 (fun c4 => ?_) (fun c4 => ?_)
        · refine li_iload hC hl 5 rfl dX12_fits_117 ?_
          exact hQ _ _ _ dX12_fits_119 (b2r01 hz) (iI_inj (by exact flagAll hz hd.2 (by omega)))
        · refine li_iload hC hl 5 rfl dX12_fits_70 ?_
          refine li_if_eq (tgt := 117) hC (by decide) (rg (by omega) (by omega)) dX12_fits_72 (fun c5 => ?_) (fun c5 => ?_)
          · refine li_iload hC hl 5 rfl dX12_fits_117 ?_
            exact hQ _ _ _ dX12_fits_119 (b2r01 hz) (iI_inj (by exact flagAll hz hd.2 (by omega)))
          · refine li_aload_n hC hl 0 rfl dX12_fits_75 ?_
            refine li_iload_n hC hl 1 rfl dX12_fits_76 ?_
            refine li_iload_n hC hl 2 rfl dX12_fits_77 ?_
            refine li_aload_n hC hl 0 rfl dX12_fits_78 ?_
            refine li_get hC hK ck_X12 hO 1 (by decide) fl_X12_9 rfl (v := .ref a1) hf dX12_fits_79 ?_
            refine li_bipush hC (z := 28) rfl dX12_fits_82 ?_
            refine li_iload hC hl 6 rfl dX12_fits_84 ?_
            refine li_iadd hC dX12_fits_86 ?_
            refine li_iald hC hK hA ⟨by omega, by omega⟩ (by decide) dX12_fits_87 ?_
            have q6 := hI.2 d (by omega) (by omega)
            refine li_aload_n hC hl 0 rfl dX12_fits_88 ?_
            refine li_get hC hK ck_X12 hO 1 (by decide) fl_X12_9 rfl (v := .ref a1) hf dX12_fits_89 ?_
            refine li_bipush hC (z := 35) rfl dX12_fits_92 ?_
            refine li_iload hC hl 6 rfl dX12_fits_94 ?_
            refine li_iadd hC dX12_fits_96 ?_
            refine li_iald hC hK hA ⟨by omega, by omega⟩ (by decide) dX12_fits_97 ?_
            refine ro_callVi hC (c_X12_isAt l g h0 S n p (S (28 + d).toNat) (S (35 + d).toNat) (by omega) (by omega) (by omega) (by omega) hI) mk_X12_isAt ml_X12_156 (rr (by decide)) ⟨Nat.le_of_ble_eq_true rfl, Nat.le_of_ble_eq_true rfl⟩ hK hE hP (li_recv hK ck_X12 hO) rfl hl.1 rfl (Nat.le_of_ble_eq_true rfl) dX12_fits_98 ?_
            refine li_ifne_b (tgt := 108) hC (by decide) dX12_fits_101 (fun c7 => ?_) (fun c7 => ?_)
            · refine li_iconst hC dX12_fits_108 ?_
              refine li_istore hC (lv' := [(5, .int (iI 0)), (0, .ref h0), (1, .int (iI n)), (2, .int (iI p)), (3, .int (iI wide)), (4, .int (iI (firstS S n p))), (6, .int (iI d))]) hl (by decide) rfl dX12_fits_109 (fun ls hl => ?_)
              refine li_iinc hC (lv' := [(6, .int (iI (d + 1))), (5, .int (iI 0)), (0, .ref h0), (1, .int (iI n)), (2, .int (iI p)), (3, .int (iI wide)), (4, .int (iI (firstS S n p)))]) hl 6 rfl (by decide) rfl dX12_fits_111 (fun ls hl => ?_)
              refine li_goto (tgt := 59) hC (by decide) dX12_fits_114 ?_
              exact ih (d + 1) 0 _ (lv_sub hl [2, 3, 4, 5, 6, 1, 0] rfl) (by omega) (by first | exact flagA_f (P := (fun d => ¬ isAtS S n p (S (28 + d).toNat) (S (35 + d).toNat))) hd.1 (fun h => h (by assumption)) | exact flagA_t (P := (fun d => ¬ isAtS S n p (S (28 + d).toNat) (S (35 + d).toNat))) hd.1 hz (by assumption) (by assumption)) (by omega)
            · refine li_iconst hC dX12_fits_104 ?_
              refine li_goto (tgt := 109) hC (by decide) dX12_fits_105 ?_
              refine li_istore hC (lv' := [(5, .int (iI 1)), (0, .ref h0), (1, .int (iI n)), (2, .int (iI p)), (3, .int (iI wide)), (4, .int (iI (firstS S n p))), (6, .int (iI d))]) hl (by decide) rfl dX12_fits_109 (fun ls hl => ?_)
              refine li_iinc hC (lv' := [(6, .int (iI (d + 1))), (5, .int (iI 1)), (0, .ref h0), (1, .int (iI n)), (2, .int (iI p)), (3, .int (iI wide)), (4, .int (iI (firstS S n p)))]) hl 6 rfl (by decide) rfl dX12_fits_111 (fun ls hl => ?_)
              refine li_goto (tgt := 59) hC (by decide) dX12_fits_114 ?_
              exact ih (d + 1) 1 _ (lv_sub hl [2, 3, 4, 5, 6, 1, 0] rfl) (by omega) (by first | exact flagA_f (P := (fun d => ¬ isAtS S n p (S (28 + d).toNat) (S (35 + d).toNat))) hd.1 (fun h => h (by assumption)) | exact flagA_t (P := (fun d => ¬ isAtS S n p (S (28 + d).toNat) (S (35 + d).toNat))) hd.1 hz (by assumption) (by assumption)) (by omega)
    exact L59_3 (((S 0 - 0).toNat) + 1) 0 z _ (lv_sub hl [2, 3, 4, 5, 6, 1, 0] rfl) (by omega) (by rw [hz]; exact b2_ext ⟨fun h => ⟨h, allB_0 _⟩, fun h => h.1⟩) (by omega)
  refine li_istore hC (lv' := [(4, .int (iI (firstS S n p))), (0, .ref h0), (1, .int (iI n)), (2, .int (iI p)), (3, .int (iI wide))]) hl (by decide) rfl dX12_fits_6 (fun ls hl => ?_)
  refine li_aload_n hC hl 1 rfl dX12_fits_8 ?_
  refine li_iload_n hC hl 2 rfl dX12_fits_9 ?_
  refine li_iload_n hC hl 3 rfl dX12_fits_10 ?_
  refine ro_callVi hC (c_X12_may l g h0 S n p (by omega) (by omega) hI) mk_X12_may ml_X12_160 (rr (by decide)) ⟨Nat.le_of_ble_eq_true rfl, Nat.le_of_ble_eq_true rfl⟩ hK hE hP (li_recv hK ck_X12 hO) rfl hl.1 rfl (Nat.le_of_ble_eq_true rfl) dX12_fits_11 ?_
  refine li_ifeq_b (tgt := 53) hC (by decide) dX12_fits_14 (fun c8 => ?_) (fun c8 => ?_)
  · refine li_iconst hC dX12_fits_53 ?_
    exact J54_2 0 _ (lv_sub hl [1, 2, 3, 4, 0] rfl) (by first | exact (b2_t ⟨by assumption, by assumption, by assumption, by assumption⟩).symm | exact (b2_f (by intro hh; omega)).symm | exact (b2_f (by intro hh; exact absurd hh.1 (by assumption))).symm)
  · refine li_aload_n hC hl 1 rfl dX12_fits_17 ?_
    refine li_iload_n hC hl 2 rfl dX12_fits_18 ?_
    refine li_iload_n hC hl 3 rfl dX12_fits_19 ?_
    refine ro_callVi hC (c_X12_rowAt l g h0 S n p (by omega) (by omega) hI) mk_X12_rowAt ml_X12_153 (rr (by decide)) ⟨Nat.le_of_ble_eq_true rfl, Nat.le_of_ble_eq_true rfl⟩ hK hE hP (li_recv hK ck_X12 hO) rfl hl.1 rfl (Nat.le_of_ble_eq_true rfl) dX12_fits_20 ?_
    have q9 := rowS_rng hI (n := n) (p := p) (by omega)
    refine li_iconst hC dX12_fits_23 ?_
    refine li_bipush hC (z := 11) rfl dX12_fits_24 ?_
    refine ro_callSi hC (c_X12_in l g (rowS S n p) 0 11 (rg (by omega) (by omega)) (rg (by decide) (by decide)) (rg (by decide) (by decide))) mk_X12_in ml_X12_56 (rr (by decide)) ⟨Nat.le_of_ble_eq_true rfl, Nat.le_of_ble_eq_true rfl⟩ hK hE trivial rfl hl.1 rfl (Nat.le_of_ble_eq_true rfl) dX12_fits_26 ?_
    refine li_ifeq_b (tgt := 53) hC (by decide) dX12_fits_29 (fun c10 => ?_) (fun c10 => ?_)
    · refine li_iconst hC dX12_fits_53 ?_
      exact J54_2 0 _ (lv_sub hl [1, 2, 3, 4, 0] rfl) (by first | exact (b2_t ⟨by assumption, by assumption, by assumption, by assumption⟩).symm | exact (b2_f (by intro hh; omega)).symm | exact (b2_f (by intro hh; exact absurd hh.1 (by assumption))).symm)
    · refine li_iload hC hl 0 rfl dX12_fits_32 ?_
      refine li_if_lt (tgt := 53) hC (by decide) (rg (by omega) (by omega)) dX12_fits_34 (fun c11 => ?_) (fun c11 => ?_)
      · refine li_iconst hC dX12_fits_53 ?_
        exact J54_2 0 _ (lv_sub hl [1, 2, 3, 4, 0] rfl) (by first | exact (b2_t ⟨by assumption, by assumption, by assumption, by assumption⟩).symm | exact (b2_f (by intro hh; omega)).symm | exact (b2_f (by intro hh; exact absurd hh.1 (by assumption))).symm)
      · refine li_iload hC hl 0 rfl dX12_fits_37 ?_
        refine li_aload_n hC hl 1 rfl dX12_fits_39 ?_
        refine li_iload_n hC hl 2 rfl dX12_fits_40 ?_
        refine ro_callVi hC (c_X12_lengthOf l g h0 S n (by omega) hI) mk_X12_lengthOf ml_X12_146 (rr (by decide)) ⟨Nat.le_of_ble_eq_true rfl, Nat.le_of_ble_eq_true rfl⟩ hK hE hP (li_recv hK ck_X12 hO) rfl hl.1 rfl (Nat.le_of_ble_eq_true rfl) dX12_fits_41 ?_
        have q12 := lenS_rng hI (n := n) (by omega)
        refine li_iadd hC dX12_fits_44 ?_
        refine li_iload_n hC hl 4 rfl dX12_fits_45 ?_
        refine li_icmp_gt (tgt := 53) hC (by decide) (rg (by omega) (by omega)) (rg (by omega) (by omega)) dX12_fits_46 (fun c13 => ?_) (fun c13 => ?_)
        · refine li_iconst hC dX12_fits_53 ?_
          exact J54_2 0 _ (lv_sub hl [1, 2, 3, 4, 0] rfl) (by first | exact (b2_t ⟨by assumption, by assumption, by assumption, by assumption⟩).symm | exact (b2_f (by intro hh; omega)).symm | exact (b2_f (by intro hh; exact absurd hh.1 (by assumption))).symm)
        · refine li_iconst hC dX12_fits_49 ?_
          refine li_goto (tgt := 54) hC (by decide) dX12_fits_50 ?_
          exact J54_2 1 _ (lv_sub hl [1, 2, 3, 4, 0] rfl) (by first | exact (b2_t ⟨by assumption, by assumption, by assumption, by assumption⟩).symm | exact (b2_f (by intro hh; omega)).symm | exact (b2_f (by intro hh; exact absurd hh.1 (by assumption))).symm)
set_option maxHeartbeats 4000000 in
set_option maxRecDepth 100000 in
theorem c_X12_isFree (l : Launch) (g : GG) (h0 : Nat) (S : Nat → Int) (n : Int) (p : Int) (hn : 0 ≤ n ∧ n < S 0) (hp : 0 ≤ p ∧ p ≤ 3) (hI : InvD S) (hH : InvH S) : MroZ l g yX12_isFree cX12_isFree 5 6 [.ref h0, .int (iI n), .int (iI p)] (RPic g h0 S) (iI (b2 (freeS S n p))) := by
  refine ro_startZ (own := RX12) (by decide) rfl (Nat.le_of_ble_eq_true rfl) ?_
  intro Pg Ev s Mi args below Mt Cd ls Q hC hK hE hP hl hQ
  have hP0 := hP
  obtain ⟨a1, fs, hO, hf, hA⟩ := hP0
  have hD0 := hI.1
  have hl : lv_has ls 5 [(0, .ref h0), (1, .int (iI n)), (2, .int (iI p))] := hl
  refine li_aload_n hC hl 0 rfl dX12_isFree_0 ?_
  refine li_iload_n hC hl 1 rfl dX12_isFree_1 ?_
  refine li_iload_n hC hl 2 rfl dX12_isFree_2 ?_
  refine li_aload_n hC hl 0 rfl dX12_isFree_3 ?_
  refine ro_callVi hC (c_X12_wideNow l g h0 S hH) mk_X12_wideNow ml_X12_164 (rr (by decide)) ⟨Nat.le_of_ble_eq_true rfl, Nat.le_of_ble_eq_true rfl⟩ hK hE hP (li_recv hK ck_X12 hO) rfl hl.1 rfl (Nat.le_of_ble_eq_true rfl) dX12_isFree_4 ?_
  have q1 := wideS_rng S
  refine ro_callVi hC (c_X12_fits l g h0 S n p (wideS S) (by omega) (by omega) (by omega) hI) mk_X12_fits ml_X12_167 (rr (by decide)) ⟨Nat.le_of_ble_eq_true rfl, Nat.le_of_ble_eq_true rfl⟩ hK hE hP (li_recv hK ck_X12 hO) rfl hl.1 rfl (Nat.le_of_ble_eq_true rfl) dX12_isFree_7 ?_
  refine li_istore_n hC (lv' := [(3, .int (iI (b2 (fitsS S n p (wideS S))))), (0, .ref h0), (1, .int (iI n)), (2, .int (iI p))]) hl (by decide) rfl dX12_isFree_10 (fun ls hl => ?_)
  refine li_iconst hC dX12_isFree_11 ?_
  refine li_istore hC (lv' := [(4, .int (iI 0)), (3, .int (iI (b2 (fitsS S n p (wideS S))))), (0, .ref h0), (1, .int (iI n)), (2, .int (iI p))]) hl (by decide) rfl dX12_isFree_12 (fun ls hl => ?_)
  have L14_2 : ∀ (fuel : Nat) (k : Int) (z : Int) (ls : Array Slot), lv_has ls 5 [(0, .ref h0), (1, .int (iI n)), (2, .int (iI p)), (3, .int (iI z)), (4, .int (iI k))] → (0 ≤ k ∧ k ≤ S 0) → (z = b2 (fitsS S n p (wideS S) ∧ allB (fun k => k = n ∨ S (42 + k).toNat = 4 ∨ bothS S n p k (S (42 + k).toNat) = 0) k)) → ((S 0 - k).toNat) < fuel → W Pg l Ev (rmC 6 0 0) s Mi args below Mt Cd s.heap [] 0 0 Q (F0 Mi 14 ls []) := by
    intro fuel
    induction fuel with
    | zero => intro k z ls hl hk hz hm; exact absurd hm (Nat.not_lt_zero _)
    | succ fuel ih =>
      intro k z ls hl hk hz hm
      have hz0 := b2r hz
      refine li_iload hC hl 4 rfl dX12_isFree_14 ?_
      refine li_aload_n hC hl 0 rfl dX12_isFree_16 ?_
      refine li_get hC hK ck_X12 hO 1 (by decide) fl_X12_9 rfl (v := .ref a1) hf dX12_isFree_17 ?_
      refine li_iconst hC dX12_isFree_20 ?_
      refine li_iald_k (k := 0) hC hK hA rfl (by decide) (by decide) dX12_isFree_21 ?_
      refine li_icmp_ge (tgt := 82) hC (by decide) (rg (by omega) (by omega)) (rg (by omega) (by omega)) dX12_isFree_22 (fun c3 => ?_) (fun c3 => ?_)
      · refine li_iload_n hC hl 3 rfl dX12_isFree_82 ?_
        exact hQ _ _ _ dX12_isFree_83 (b2r01 hz) (iI_inj (by exact flagAll hz hk.2 (by omega)))
      · refine li_iload_n hC hl 3 rfl dX12_isFree_25 ?_
        refine li_if_eq (tgt := 82) hC (by decide) (rg (by omega) (by omega)) dX12_isFree_26 (fun c4 => ?_) (fun c4 => ?_)
        · refine li_iload_n hC hl 3 rfl dX12_isFree_82 ?_
          exact hQ _ _ _ dX12_isFree_83 (b2r01 hz) (iI_inj (by exact flagAll hz hk.2 (by omega)))
        · refine li_iload hC hl 4 rfl dX12_isFree_29 ?_
          refine li_iload_n hC hl 1 rfl dX12_isFree_31 ?_
          refine li_icmp_eq (tgt := 70) hC (by decide) (rg (by omega) (by omega)) (rg (by omega) (by omega)) dX12_isFree_32 (fun c5 => ?_) (fun c5 => ?_)
          · refine li_iconst hC dX12_isFree_70 ?_
            refine li_goto (tgt := 75) hC (by decide) dX12_isFree_71 ?_
            refine li_istore_n hC (lv' := [(3, .int (iI 1)), (0, .ref h0), (1, .int (iI n)), (2, .int (iI p)), (4, .int (iI k))]) hl (by decide) rfl dX12_isFree_75 (fun ls hl => ?_)
            refine li_iinc hC (lv' := [(4, .int (iI (k + 1))), (3, .int (iI 1)), (0, .ref h0), (1, .int (iI n)), (2, .int (iI p))]) hl 4 rfl (by decide) rfl dX12_isFree_76 (fun ls hl => ?_)
            refine li_goto (tgt := 14) hC (by decide) dX12_isFree_79 ?_
            exact ih (k + 1) 1 _ (lv_sub hl [2, 3, 4, 1, 0] rfl) (by omega) (by first | exact flagA_t (P := (fun k => k = n ∨ S (42 + k).toNat = 4 ∨ bothS S n p k (S (42 + k).toNat) = 0)) hk.1 hz (by assumption) (Or.inl (by assumption)) | exact flagA_t (P := (fun k => k = n ∨ S (42 + k).toNat = 4 ∨ bothS S n p k (S (42 + k).toNat) = 0)) hk.1 hz (by assumption) (Or.inr (Or.inl (by assumption))) | exact flagA_t (P := (fun k => k = n ∨ S (42 + k).toNat = 4 ∨ bothS S n p k (S (42 + k).toNat) = 0)) hk.1 hz (by assumption) (Or.inr (Or.inr (by assumption))) | exact flagA_f (P := (fun k => k = n ∨ S (42 + k).toNat = 4 ∨ bothS S n p k (S (42 + k).toNat) = 0)) hk.1 (by omega)) (by omega)
          · refine li_aload_n hC hl 0 rfl dX12_isFree_35 ?_
            refine li_get hC hK ck_X12 hO 1 (by decide) fl_X12_9 rfl (v := .ref a1) hf dX12_isFree_36 ?_
            refine li_bipush hC (z := 42) rfl dX12_isFree_39 ?_
            refine li_iload hC hl 4 rfl dX12_isFree_41 ?_
            refine li_iadd hC dX12_isFree_43 ?_
            refine li_iald hC hK hA ⟨by omega, by omega⟩ (by decide) dX12_isFree_44 ?_
            have q6 := hI.2 k (by omega) (by omega)
            refine li_iconst hC dX12_isFree_45 ?_
            refine li_icmp_eq (tgt := 70) hC (by decide) (rg (by omega) (by omega)) (rg (by decide) (by decide)) dX12_isFree_46 (fun c7 => ?_) (fun c7 => ?_)
            · refine li_iconst hC dX12_isFree_70 ?_
              refine li_goto (tgt := 75) hC (by decide) dX12_isFree_71 ?_
              refine li_istore_n hC (lv' := [(3, .int (iI 1)), (0, .ref h0), (1, .int (iI n)), (2, .int (iI p)), (4, .int (iI k))]) hl (by decide) rfl dX12_isFree_75 (fun ls hl => ?_)
              refine li_iinc hC (lv' := [(4, .int (iI (k + 1))), (3, .int (iI 1)), (0, .ref h0), (1, .int (iI n)), (2, .int (iI p))]) hl 4 rfl (by decide) rfl dX12_isFree_76 (fun ls hl => ?_)
              refine li_goto (tgt := 14) hC (by decide) dX12_isFree_79 ?_
              exact ih (k + 1) 1 _ (lv_sub hl [2, 3, 4, 1, 0] rfl) (by omega) (by first | exact flagA_t (P := (fun k => k = n ∨ S (42 + k).toNat = 4 ∨ bothS S n p k (S (42 + k).toNat) = 0)) hk.1 hz (by assumption) (Or.inl (by assumption)) | exact flagA_t (P := (fun k => k = n ∨ S (42 + k).toNat = 4 ∨ bothS S n p k (S (42 + k).toNat) = 0)) hk.1 hz (by assumption) (Or.inr (Or.inl (by assumption))) | exact flagA_t (P := (fun k => k = n ∨ S (42 + k).toNat = 4 ∨ bothS S n p k (S (42 + k).toNat) = 0)) hk.1 hz (by assumption) (Or.inr (Or.inr (by assumption))) | exact flagA_f (P := (fun k => k = n ∨ S (42 + k).toNat = 4 ∨ bothS S n p k (S (42 + k).toNat) = 0)) hk.1 (by omega)) (by omega)
            · refine li_aload_n hC hl 0 rfl dX12_isFree_49 ?_
              refine li_iload_n hC hl 1 rfl dX12_isFree_50 ?_
              refine li_iload_n hC hl 2 rfl dX12_isFree_51 ?_
              refine li_iload hC hl 4 rfl dX12_isFree_52 ?_
              refine li_aload_n hC hl 0 rfl dX12_isFree_54 ?_
              refine li_get hC hK ck_X12 hO 1 (by decide) fl_X12_9 rfl (v := .ref a1) hf dX12_isFree_55 ?_
              refine li_bipush hC (z := 42) rfl dX12_isFree_58 ?_
              refine li_iload hC hl 4 rfl dX12_isFree_60 ?_
              refine li_iadd hC dX12_isFree_62 ?_
              refine li_iald hC hK hA ⟨by omega, by omega⟩ (by decide) dX12_isFree_63 ?_
              refine ro_callVi hC (c_X12_bothAt l g h0 S n p k (S (42 + k).toNat) (by omega) (by omega) (by omega) (by omega) hI) mk_X12_bothAt ml_X12_170 (rr (by decide)) ⟨Nat.le_of_ble_eq_true rfl, Nat.le_of_ble_eq_true rfl⟩ hK hE hP (li_recv hK ck_X12 hO) rfl hl.1 rfl (Nat.le_of_ble_eq_true rfl) dX12_isFree_64 ?_
              have q8 := bothS_rng hI (a := n) (p := p) (b := k) (q := S (42 + k).toNat) (by omega)
              refine li_if_ne (tgt := 74) hC (by decide) (rg (by omega) (by omega)) dX12_isFree_67 (fun c9 => ?_) (fun c9 => ?_)
              · refine li_iconst hC dX12_isFree_74 ?_
                refine li_istore_n hC (lv' := [(3, .int (iI 0)), (0, .ref h0), (1, .int (iI n)), (2, .int (iI p)), (4, .int (iI k))]) hl (by decide) rfl dX12_isFree_75 (fun ls hl => ?_)
                refine li_iinc hC (lv' := [(4, .int (iI (k + 1))), (3, .int (iI 0)), (0, .ref h0), (1, .int (iI n)), (2, .int (iI p))]) hl 4 rfl (by decide) rfl dX12_isFree_76 (fun ls hl => ?_)
                refine li_goto (tgt := 14) hC (by decide) dX12_isFree_79 ?_
                exact ih (k + 1) 0 _ (lv_sub hl [2, 3, 4, 1, 0] rfl) (by omega) (by first | exact flagA_t (P := (fun k => k = n ∨ S (42 + k).toNat = 4 ∨ bothS S n p k (S (42 + k).toNat) = 0)) hk.1 hz (by assumption) (Or.inl (by assumption)) | exact flagA_t (P := (fun k => k = n ∨ S (42 + k).toNat = 4 ∨ bothS S n p k (S (42 + k).toNat) = 0)) hk.1 hz (by assumption) (Or.inr (Or.inl (by assumption))) | exact flagA_t (P := (fun k => k = n ∨ S (42 + k).toNat = 4 ∨ bothS S n p k (S (42 + k).toNat) = 0)) hk.1 hz (by assumption) (Or.inr (Or.inr (by assumption))) | exact flagA_f (P := (fun k => k = n ∨ S (42 + k).toNat = 4 ∨ bothS S n p k (S (42 + k).toNat) = 0)) hk.1 (by omega)) (by omega)
              · refine li_iconst hC dX12_isFree_70 ?_
                refine li_goto (tgt := 75) hC (by decide) dX12_isFree_71 ?_
                refine li_istore_n hC (lv' := [(3, .int (iI 1)), (0, .ref h0), (1, .int (iI n)), (2, .int (iI p)), (4, .int (iI k))]) hl (by decide) rfl dX12_isFree_75 (fun ls hl => ?_)
                refine li_iinc hC (lv' := [(4, .int (iI (k + 1))), (3, .int (iI 1)), (0, .ref h0), (1, .int (iI n)), (2, .int (iI p))]) hl 4 rfl (by decide) rfl dX12_isFree_76 (fun ls hl => ?_)
                refine li_goto (tgt := 14) hC (by decide) dX12_isFree_79 ?_
                exact ih (k + 1) 1 _ (lv_sub hl [2, 3, 4, 1, 0] rfl) (by omega) (by first | exact flagA_t (P := (fun k => k = n ∨ S (42 + k).toNat = 4 ∨ bothS S n p k (S (42 + k).toNat) = 0)) hk.1 hz (by assumption) (Or.inl (by assumption)) | exact flagA_t (P := (fun k => k = n ∨ S (42 + k).toNat = 4 ∨ bothS S n p k (S (42 + k).toNat) = 0)) hk.1 hz (by assumption) (Or.inr (Or.inl (by assumption))) | exact flagA_t (P := (fun k => k = n ∨ S (42 + k).toNat = 4 ∨ bothS S n p k (S (42 + k).toNat) = 0)) hk.1 hz (by assumption) (Or.inr (Or.inr (by assumption))) | exact flagA_f (P := (fun k => k = n ∨ S (42 + k).toNat = 4 ∨ bothS S n p k (S (42 + k).toNat) = 0)) hk.1 (by omega)) (by omega)
  exact L14_2 (((S 0 - 0).toNat) + 1) 0 (b2 (fitsS S n p (wideS S))) _ (lv_sub hl [2, 3, 4, 1, 0] rfl) (by omega) (by exact b2_ext ⟨fun h => ⟨h, allB_0 _⟩, fun h => h.1⟩) (by omega)
set_option maxHeartbeats 4000000 in
set_option maxRecDepth 100000 in
theorem c_X12_farFrom (l : Launch) (g : GG) (h0 : Nat) (S : Nat → Int) (n : Int) (d : Int) (hn : 0 ≤ n ∧ n < S 0) (hd : 0 ≤ d ∧ d < S 0) (hI : InvD S) : MroI l g yX12_farFrom cX12_farFrom 4 4 [.ref h0, .int (iI n), .int (iI d)] (RPic g h0 S) (iI (farS S n d)) := by
  refine ro_startI (own := RX12) (by decide) rfl (Nat.le_of_ble_eq_true rfl) ?_
  intro Pg Ev s Mi args below Mt Cd ls Q hC hK hE hP hl hQ
  have hP0 := hP
  obtain ⟨a1, fs, hO, hf, hA⟩ := hP0
  have hD0 := hI.1
  have hl : lv_has ls 4 [(0, .ref h0), (1, .int (iI n)), (2, .int (iI d))] := hl
  refine li_aload_n hC hl 0 rfl dX12_farFrom_0 ?_
  refine li_get hC hK ck_X12 hO 1 (by decide) fl_X12_9 rfl (v := .ref a1) hf dX12_farFrom_1 ?_
  refine li_bipush hC (z := 42) rfl dX12_farFrom_4 ?_
  refine li_iload_n hC hl 1 rfl dX12_farFrom_6 ?_
  refine li_iadd hC dX12_farFrom_7 ?_
  refine li_iald hC hK hA ⟨by omega, by omega⟩ (by decide) dX12_farFrom_8 ?_
  have q1 := hI.2 n (by omega) (by omega)
  refine li_istore_n hC (lv' := [(3, .int (iI (S (42 + n).toNat))), (0, .ref h0), (1, .int (iI n)), (2, .int (iI d))]) hl (by decide) rfl dX12_farFrom_9 (fun ls hl => ?_)
  refine li_aload_n hC hl 1 rfl dX12_farFrom_10 ?_
  refine li_iload_n hC hl 2 rfl dX12_farFrom_11 ?_
  refine li_iload_n hC hl 0 rfl dX12_farFrom_12 ?_
  refine ro_callVi hC (c_X12_firstAt l g h0 S n (S (42 + n).toNat) (by omega) (by omega) hI) mk_X12_firstAt ml_X12_150 (rr (by decide)) ⟨Nat.le_of_ble_eq_true rfl, Nat.le_of_ble_eq_true rfl⟩ hK hE hP (li_recv hK ck_X12 hO) rfl hl.1 rfl (Nat.le_of_ble_eq_true rfl) dX12_farFrom_13 ?_
  have q2 := firstS_rng hI (n := n) (p := S (42 + n).toNat) (by omega)
  refine li_aload_n hC hl 1 rfl dX12_farFrom_16 ?_
  refine li_iload_n hC hl 2 rfl dX12_farFrom_17 ?_
  refine ro_callVi hC (c_X12_lengthOf l g h0 S n (by omega) hI) mk_X12_lengthOf ml_X12_146 (rr (by decide)) ⟨Nat.le_of_ble_eq_true rfl, Nat.le_of_ble_eq_true rfl⟩ hK hE hP (li_recv hK ck_X12 hO) rfl hl.1 rfl (Nat.le_of_ble_eq_true rfl) dX12_farFrom_18 ?_
  have q3 := lenS_rng hI (n := n) (by omega)
  refine li_iconst hC dX12_farFrom_21 ?_
  refine li_idivN hC (by omega) (by omega) (by omega) (by omega) dX12_farFrom_22 ?_
  refine li_iadd hC dX12_farFrom_23 ?_
  refine li_aload_n hC hl 1 rfl dX12_farFrom_24 ?_
  refine li_get hC hK ck_X12 hO 1 (by decide) fl_X12_9 rfl (v := .ref a1) hf dX12_farFrom_25 ?_
  refine li_bipush hC (z := 28) rfl dX12_farFrom_28 ?_
  refine li_iload_n hC hl 3 rfl dX12_farFrom_30 ?_
  refine li_iadd hC dX12_farFrom_31 ?_
  refine li_iald hC hK hA ⟨by omega, by omega⟩ (by decide) dX12_farFrom_32 ?_
  have q4 := hI.2 d (by omega) (by omega)
  refine ro_callSi hC (c_X12_apart l g ((firstS S n (S (42 + n).toNat)) + ((lenS S n) / 2)) (S (28 + d).toNat) (rg (by omega) (by omega)) (rg (by omega) (by omega))) mk_X12_apart ml_X12_202 (rr (by decide)) ⟨Nat.le_of_ble_eq_true rfl, Nat.le_of_ble_eq_true rfl⟩ hK hE trivial rfl hl.1 rfl (Nat.le_of_ble_eq_true rfl) dX12_farFrom_33 ?_
  refine li_aload_n hC hl 1 rfl dX12_farFrom_36 ?_
  refine li_iload_n hC hl 2 rfl dX12_farFrom_37 ?_
  refine li_iload_n hC hl 0 rfl dX12_farFrom_38 ?_
  refine ro_callVi hC (c_X12_rowAt l g h0 S n (S (42 + n).toNat) (by omega) (by omega) hI) mk_X12_rowAt ml_X12_153 (rr (by decide)) ⟨Nat.le_of_ble_eq_true rfl, Nat.le_of_ble_eq_true rfl⟩ hK hE hP (li_recv hK ck_X12 hO) rfl hl.1 rfl (Nat.le_of_ble_eq_true rfl) dX12_farFrom_39 ?_
  have q5 := rowS_rng hI (n := n) (p := S (42 + n).toNat) (by omega)
  refine li_aload_n hC hl 1 rfl dX12_farFrom_42 ?_
  refine li_get hC hK ck_X12 hO 1 (by decide) fl_X12_9 rfl (v := .ref a1) hf dX12_farFrom_43 ?_
  refine li_bipush hC (z := 35) rfl dX12_farFrom_46 ?_
  refine li_iload_n hC hl 3 rfl dX12_farFrom_48 ?_
  refine li_iadd hC dX12_farFrom_49 ?_
  refine li_iald hC hK hA ⟨by omega, by omega⟩ (by decide) dX12_farFrom_50 ?_
  refine ro_callSi hC (c_X12_apart l g (rowS S n (S (42 + n).toNat)) (S (35 + d).toNat) (rg (by omega) (by omega)) (rg (by omega) (by omega))) mk_X12_apart ml_X12_202 (rr (by decide)) ⟨Nat.le_of_ble_eq_true rfl, Nat.le_of_ble_eq_true rfl⟩ hK hE trivial rfl hl.1 rfl (Nat.le_of_ble_eq_true rfl) dX12_farFrom_51 ?_
  refine li_iadd hC dX12_farFrom_54 ?_
  exact hQ _ _ _ dX12_farFrom_55 (iI_inj (by rfl))
set_option maxHeartbeats 4000000 in
set_option maxRecDepth 100000 in
theorem c_X12_isMistaken (l : Launch) (g : GG) (h0 : Nat) (S : Nat → Int) (n : Int) (hn : 0 ≤ n ∧ n < S 0) (hI : InvD S) : MroZ l g yX12_isMistaken cX12_isMistaken 4 5 [.ref h0, .int (iI n)] (RPic g h0 S) (iI (b2 (mistS S n))) := by
  refine ro_startZ (own := RX12) (by decide) rfl (Nat.le_of_ble_eq_true rfl) ?_
  intro Pg Ev s Mi args below Mt Cd ls Q hC hK hE hP hl hQ
  have hP0 := hP
  obtain ⟨a1, fs, hO, hf, hA⟩ := hP0
  have hD0 := hI.1
  have hl : lv_has ls 4 [(0, .ref h0), (1, .int (iI n))] := hl
  refine li_iconst hC dX12_isMistaken_0 ?_
  refine li_istore_n hC (lv' := [(2, .int (iI 0)), (0, .ref h0), (1, .int (iI n))]) hl (by decide) rfl dX12_isMistaken_1 (fun ls hl => ?_)
  refine li_iconst hC dX12_isMistaken_2 ?_
  refine li_istore_n hC (lv' := [(3, .int (iI 0)), (2, .int (iI 0)), (0, .ref h0), (1, .int (iI n))]) hl (by decide) rfl dX12_isMistaken_3 (fun ls hl => ?_)
  have L4_1 : ∀ (fuel : Nat) (d : Int) (z : Int) (ls : Array Slot), lv_has ls 4 [(0, .ref h0), (1, .int (iI n)), (2, .int (iI z)), (3, .int (iI d))] → (0 ≤ d ∧ d ≤ S 0) → (z = b2 (exB (fun d => S (42 + n).toNat ≠ 4 ∧ farS S n d < farS S n n) d)) → ((S 0 - d).toNat) < fuel → W Pg l Ev (rmC 5 0 0) s Mi args below Mt Cd s.heap [] 0 0 Q (F0 Mi 4 ls []) := by
    intro fuel
    induction fuel with
    | zero => intro d z ls hl hd hz hm; exact absurd hm (Nat.not_lt_zero _)
    | succ fuel ih =>
      intro d z ls hl hd hz hm
      have hz0 := b2r hz
      refine li_iload_n hC hl 3 rfl dX12_isMistaken_4 ?_
      refine li_aload_n hC hl 0 rfl dX12_isMistaken_5 ?_
      refine li_get hC hK ck_X12 hO 1 (by decide) fl_X12_9 rfl (v := .ref a1) hf dX12_isMistaken_6 ?_
      refine li_iconst hC dX12_isMistaken_9 ?_
      refine li_iald_k (k := 0) hC hK hA rfl (by decide) (by decide) dX12_isMistaken_10 ?_
      refine li_icmp_ge (tgt := 58) hC (by decide) (rg (by omega) (by omega)) (rg (by omega) (by omega)) dX12_isMistaken_11 (fun c2 => ?_) (fun c2 => ?_)
      · refine li_iload_n hC hl 2 rfl dX12_isMistaken_58 ?_
        exact hQ _ _ _ dX12_isMistaken_59 (b2r01 hz) (iI_inj (by unfold mistS; rw [hz, show d = S 0 by omega]))
      · refine li_iload_n hC hl 2 rfl dX12_isMistaken_14 ?_
        refine li_if_ne (tgt := 46) hC (by decide) (rg (by omega) (by omega)) dX12_isMistaken_15 (fun c3 => ?_) (fun c3 => ?_)
        · refine li_iconst hC dX12_isMistaken_46 ?_
          refine li_goto (tgt := 51) hC (by decide) dX12_isMistaken_47 ?_
          refine li_istore_n hC (lv' := [(2, .int (iI 1)), (0, .ref h0), (1, .int (iI n)), (3, .int (iI d))]) hl (by decide) rfl dX12_isMistaken_51 (fun ls hl => ?_)
          refine li_iinc hC (lv' := [(3, .int (iI (d + 1))), (2, .int (iI 1)), (0, .ref h0), (1, .int (iI n))]) hl 3 rfl (by decide) rfl dX12_isMistaken_52 (fun ls hl => ?_)
          refine li_goto (tgt := 4) hC (by decide) dX12_isMistaken_55 ?_
          exact ih (d + 1) 1 _ (lv_sub hl [2, 3, 1, 0] rfl) (by omega) (by first | exact flagE_1 (P := (fun d => S (42 + n).toNat ≠ 4 ∧ farS S n d < farS S n n)) hd.1 hz (by assumption) | exact flagE_t (P := (fun d => S (42 + n).toNat ≠ 4 ∧ farS S n d < farS S n n)) hd.1 ⟨by assumption, by assumption⟩ | exact flagE_f (P := (fun d => S (42 + n).toNat ≠ 4 ∧ farS S n d < farS S n n)) hd.1 hz (by assumption) (by omega)) (by omega)
        · refine li_aload_n hC hl 0 rfl dX12_isMistaken_18 ?_
          refine li_get hC hK ck_X12 hO 1 (by decide) fl_X12_9 rfl (v := .ref a1) hf dX12_isMistaken_19 ?_
          refine li_bipush hC (z := 42) rfl dX12_isMistaken_22 ?_
          refine li_iload_n hC hl 1 rfl dX12_isMistaken_24 ?_
          refine li_iadd hC dX12_isMistaken_25 ?_
          refine li_iald hC hK hA ⟨by omega, by omega⟩ (by decide) dX12_isMistaken_26 ?_
          have q4 := hI.2 n (by omega) (by omega)
          refine li_iconst hC dX12_isMistaken_27 ?_
          refine li_icmp_eq (tgt := 50) hC (by decide) (rg (by omega) (by omega)) (rg (by decide) (by decide)) dX12_isMistaken_28 (fun c5 => ?_) (fun c5 => ?_)
          · refine li_iconst hC dX12_isMistaken_50 ?_
            refine li_istore_n hC (lv' := [(2, .int (iI 0)), (0, .ref h0), (1, .int (iI n)), (3, .int (iI d))]) hl (by decide) rfl dX12_isMistaken_51 (fun ls hl => ?_)
            refine li_iinc hC (lv' := [(3, .int (iI (d + 1))), (2, .int (iI 0)), (0, .ref h0), (1, .int (iI n))]) hl 3 rfl (by decide) rfl dX12_isMistaken_52 (fun ls hl => ?_)
            refine li_goto (tgt := 4) hC (by decide) dX12_isMistaken_55 ?_
            exact ih (d + 1) 0 _ (lv_sub hl [2, 3, 1, 0] rfl) (by omega) (by first | exact flagE_1 (P := (fun d => S (42 + n).toNat ≠ 4 ∧ farS S n d < farS S n n)) hd.1 hz (by assumption) | exact flagE_t (P := (fun d => S (42 + n).toNat ≠ 4 ∧ farS S n d < farS S n n)) hd.1 ⟨by assumption, by assumption⟩ | exact flagE_f (P := (fun d => S (42 + n).toNat ≠ 4 ∧ farS S n d < farS S n n)) hd.1 hz (by assumption) (by omega)) (by omega)
          · refine li_aload_n hC hl 0 rfl dX12_isMistaken_31 ?_
            refine li_iload_n hC hl 1 rfl dX12_isMistaken_32 ?_
            refine li_iload_n hC hl 3 rfl dX12_isMistaken_33 ?_
            refine ro_callVi hC (c_X12_farFrom l g h0 S n d (by omega) (by omega) hI) mk_X12_farFrom ml_X12_205 (rr (by decide)) ⟨Nat.le_of_ble_eq_true rfl, Nat.le_of_ble_eq_true rfl⟩ hK hE hP (li_recv hK ck_X12 hO) rfl hl.1 rfl (Nat.le_of_ble_eq_true rfl) dX12_isMistaken_34 ?_
            have q6 := farS_rng hI (n := n) (d := d) (by omega) (by omega)
            refine li_aload_n hC hl 0 rfl dX12_isMistaken_37 ?_
            refine li_iload_n hC hl 1 rfl dX12_isMistaken_38 ?_
            refine li_iload_n hC hl 1 rfl dX12_isMistaken_39 ?_
            refine ro_callVi hC (c_X12_farFrom l g h0 S n n (by omega) (by omega) hI) mk_X12_farFrom ml_X12_205 (rr (by decide)) ⟨Nat.le_of_ble_eq_true rfl, Nat.le_of_ble_eq_true rfl⟩ hK hE hP (li_recv hK ck_X12 hO) rfl hl.1 rfl (Nat.le_of_ble_eq_true rfl) dX12_isMistaken_40 ?_
            have q7 := farS_rng hI (n := n) (d := n) (by omega) (by omega)
            refine li_icmp_ge (tgt := 50) hC (by decide) (rg (by omega) (by omega)) (rg (by omega) (by omega)) dX12_isMistaken_43 (fun c8 => ?_) (fun c8 => ?_)
            · refine li_iconst hC dX12_isMistaken_50 ?_
              refine li_istore_n hC (lv' := [(2, .int (iI 0)), (0, .ref h0), (1, .int (iI n)), (3, .int (iI d))]) hl (by decide) rfl dX12_isMistaken_51 (fun ls hl => ?_)
              refine li_iinc hC (lv' := [(3, .int (iI (d + 1))), (2, .int (iI 0)), (0, .ref h0), (1, .int (iI n))]) hl 3 rfl (by decide) rfl dX12_isMistaken_52 (fun ls hl => ?_)
              refine li_goto (tgt := 4) hC (by decide) dX12_isMistaken_55 ?_
              exact ih (d + 1) 0 _ (lv_sub hl [2, 3, 1, 0] rfl) (by omega) (by first | exact flagE_1 (P := (fun d => S (42 + n).toNat ≠ 4 ∧ farS S n d < farS S n n)) hd.1 hz (by assumption) | exact flagE_t (P := (fun d => S (42 + n).toNat ≠ 4 ∧ farS S n d < farS S n n)) hd.1 ⟨by assumption, by assumption⟩ | exact flagE_f (P := (fun d => S (42 + n).toNat ≠ 4 ∧ farS S n d < farS S n n)) hd.1 hz (by assumption) (by omega)) (by omega)
            · refine li_iconst hC dX12_isMistaken_46 ?_
              refine li_goto (tgt := 51) hC (by decide) dX12_isMistaken_47 ?_
              refine li_istore_n hC (lv' := [(2, .int (iI 1)), (0, .ref h0), (1, .int (iI n)), (3, .int (iI d))]) hl (by decide) rfl dX12_isMistaken_51 (fun ls hl => ?_)
              refine li_iinc hC (lv' := [(3, .int (iI (d + 1))), (2, .int (iI 1)), (0, .ref h0), (1, .int (iI n))]) hl 3 rfl (by decide) rfl dX12_isMistaken_52 (fun ls hl => ?_)
              refine li_goto (tgt := 4) hC (by decide) dX12_isMistaken_55 ?_
              exact ih (d + 1) 1 _ (lv_sub hl [2, 3, 1, 0] rfl) (by omega) (by first | exact flagE_1 (P := (fun d => S (42 + n).toNat ≠ 4 ∧ farS S n d < farS S n n)) hd.1 hz (by assumption) | exact flagE_t (P := (fun d => S (42 + n).toNat ≠ 4 ∧ farS S n d < farS S n n)) hd.1 ⟨by assumption, by assumption⟩ | exact flagE_f (P := (fun d => S (42 + n).toNat ≠ 4 ∧ farS S n d < farS S n n)) hd.1 hz (by assumption) (by omega)) (by omega)
  exact L4_1 (((S 0 - 0).toNat) + 1) 0 0 _ (lv_sub hl [2, 3, 1, 0] rfl) (by omega) (by exact (b2_f (exB_0 _)).symm) (by omega)
set_option maxHeartbeats 4000000 in
set_option maxRecDepth 100000 in
theorem c_X12_isDotAt (l : Launch) (g : GG) (h0 : Nat) (S : Nat → Int) (c : Int) (r : Int) (hc : rng c) (hr : rng r) (hI : InvD S) : MroZ l g yX12_isDotAt cX12_isDotAt 5 1 [.ref h0, .int (iI c), .int (iI r)] (RPic g h0 S) (iI (b2 (dotAtS S c r))) := by
  refine ro_startZ (own := RX12) (by decide) rfl (Nat.le_of_ble_eq_true rfl) ?_
  intro Pg Ev s Mi args below Mt Cd ls Q hC hK hE hP hl hQ
  have hP0 := hP
  obtain ⟨a1, fs, hO, hf, hA⟩ := hP0
  have hD0 := hI.1
  have hl : lv_has ls 5 [(0, .ref h0), (1, .int (iI c)), (2, .int (iI r))] := hl
  refine li_iconst hC dX12_isDotAt_0 ?_
  refine li_istore_n hC (lv' := [(3, .int (iI 0)), (0, .ref h0), (1, .int (iI c)), (2, .int (iI r))]) hl (by decide) rfl dX12_isDotAt_1 (fun ls hl => ?_)
  refine li_iconst hC dX12_isDotAt_2 ?_
  refine li_istore hC (lv' := [(4, .int (iI 0)), (3, .int (iI 0)), (0, .ref h0), (1, .int (iI c)), (2, .int (iI r))]) hl (by decide) rfl dX12_isDotAt_3 (fun ls hl => ?_)
  have L5_1 : ∀ (fuel : Nat) (d : Int) (z : Int) (ls : Array Slot), lv_has ls 5 [(0, .ref h0), (1, .int (iI c)), (2, .int (iI r)), (3, .int (iI z)), (4, .int (iI d))] → (0 ≤ d ∧ d ≤ S 0) → (z = b2 (exB (fun d => S (28 + d).toNat = c ∧ S (35 + d).toNat = r) d)) → ((S 0 - d).toNat) < fuel → W Pg l Ev (rmC 1 0 0) s Mi args below Mt Cd s.heap [] 0 0 Q (F0 Mi 5 ls []) := by
    intro fuel
    induction fuel with
    | zero => intro d z ls hl hd hz hm; exact absurd hm (Nat.not_lt_zero _)
    | succ fuel ih =>
      intro d z ls hl hd hz hm
      have hz0 := b2r hz
      refine li_iload hC hl 4 rfl dX12_isDotAt_5 ?_
      refine li_aload_n hC hl 0 rfl dX12_isDotAt_7 ?_
      refine li_get hC hK ck_X12 hO 1 (by decide) fl_X12_9 rfl (v := .ref a1) hf dX12_isDotAt_8 ?_
      refine li_iconst hC dX12_isDotAt_11 ?_
      refine li_iald_k (k := 0) hC hK hA rfl (by decide) (by decide) dX12_isDotAt_12 ?_
      refine li_icmp_ge (tgt := 60) hC (by decide) (rg (by omega) (by omega)) (rg (by omega) (by omega)) dX12_isDotAt_13 (fun c2 => ?_) (fun c2 => ?_)
      · refine li_iload_n hC hl 3 rfl dX12_isDotAt_60 ?_
        exact hQ _ _ _ dX12_isDotAt_61 (b2r01 hz) (iI_inj (by unfold dotAtS; rw [hz, show d = S 0 by omega]))
      · refine li_iload_n hC hl 3 rfl dX12_isDotAt_16 ?_
        refine li_if_ne (tgt := 48) hC (by decide) (rg (by omega) (by omega)) dX12_isDotAt_17 (fun c3 => ?_) (fun c3 => ?_)
        · refine li_iconst hC dX12_isDotAt_48 ?_
          refine li_goto (tgt := 53) hC (by decide) dX12_isDotAt_49 ?_
          refine li_istore_n hC (lv' := [(3, .int (iI 1)), (0, .ref h0), (1, .int (iI c)), (2, .int (iI r)), (4, .int (iI d))]) hl (by decide) rfl dX12_isDotAt_53 (fun ls hl => ?_)
          refine li_iinc hC (lv' := [(4, .int (iI (d + 1))), (3, .int (iI 1)), (0, .ref h0), (1, .int (iI c)), (2, .int (iI r))]) hl 4 rfl (by decide) rfl dX12_isDotAt_54 (fun ls hl => ?_)
          refine li_goto (tgt := 5) hC (by decide) dX12_isDotAt_57 ?_
          exact ih (d + 1) 1 _ (lv_sub hl [2, 3, 4, 1, 0] rfl) (by omega) (by first | exact flagE_1 (P := (fun d => S (28 + d).toNat = c ∧ S (35 + d).toNat = r)) hd.1 hz (by assumption) | exact flagE_t (P := (fun d => S (28 + d).toNat = c ∧ S (35 + d).toNat = r)) hd.1 ⟨by assumption, by assumption⟩ | exact flagE_f (P := (fun d => S (28 + d).toNat = c ∧ S (35 + d).toNat = r)) hd.1 hz (by assumption) (by omega)) (by omega)
        · refine li_aload_n hC hl 0 rfl dX12_isDotAt_20 ?_
          refine li_get hC hK ck_X12 hO 1 (by decide) fl_X12_9 rfl (v := .ref a1) hf dX12_isDotAt_21 ?_
          refine li_bipush hC (z := 28) rfl dX12_isDotAt_24 ?_
          refine li_iload hC hl 4 rfl dX12_isDotAt_26 ?_
          refine li_iadd hC dX12_isDotAt_28 ?_
          refine li_iald hC hK hA ⟨by omega, by omega⟩ (by decide) dX12_isDotAt_29 ?_
          have q4 := hI.2 d (by omega) (by omega)
          refine li_iload_n hC hl 1 rfl dX12_isDotAt_30 ?_
          refine li_icmp_ne (tgt := 52) hC (by decide) (rg (by omega) (by omega)) hc dX12_isDotAt_31 (fun c5 => ?_) (fun c5 => ?_)
          · refine li_iconst hC dX12_isDotAt_52 ?_
            refine li_istore_n hC (lv' := [(3, .int (iI 0)), (0, .ref h0), (1, .int (iI c)), (2, .int (iI r)), (4, .int (iI d))]) hl (by decide) rfl dX12_isDotAt_53 (fun ls hl => ?_)
            refine li_iinc hC (lv' := [(4, .int (iI (d + 1))), (3, .int (iI 0)), (0, .ref h0), (1, .int (iI c)), (2, .int (iI r))]) hl 4 rfl (by decide) rfl dX12_isDotAt_54 (fun ls hl => ?_)
            refine li_goto (tgt := 5) hC (by decide) dX12_isDotAt_57 ?_
            exact ih (d + 1) 0 _ (lv_sub hl [2, 3, 4, 1, 0] rfl) (by omega) (by first | exact flagE_1 (P := (fun d => S (28 + d).toNat = c ∧ S (35 + d).toNat = r)) hd.1 hz (by assumption) | exact flagE_t (P := (fun d => S (28 + d).toNat = c ∧ S (35 + d).toNat = r)) hd.1 ⟨by assumption, by assumption⟩ | exact flagE_f (P := (fun d => S (28 + d).toNat = c ∧ S (35 + d).toNat = r)) hd.1 hz (by assumption) (by omega)) (by omega)
          · refine li_aload_n hC hl 0 rfl dX12_isDotAt_34 ?_
            refine li_get hC hK ck_X12 hO 1 (by decide) fl_X12_9 rfl (v := .ref a1) hf dX12_isDotAt_35 ?_
            refine li_bipush hC (z := 35) rfl dX12_isDotAt_38 ?_
            refine li_iload hC hl 4 rfl dX12_isDotAt_40 ?_
            refine li_iadd hC dX12_isDotAt_42 ?_
            refine li_iald hC hK hA ⟨by omega, by omega⟩ (by decide) dX12_isDotAt_43 ?_
            refine li_iload_n hC hl 2 rfl dX12_isDotAt_44 ?_
            refine li_icmp_ne (tgt := 52) hC (by decide) (rg (by omega) (by omega)) hr dX12_isDotAt_45 (fun c6 => ?_) (fun c6 => ?_)
            · refine li_iconst hC dX12_isDotAt_52 ?_
              refine li_istore_n hC (lv' := [(3, .int (iI 0)), (0, .ref h0), (1, .int (iI c)), (2, .int (iI r)), (4, .int (iI d))]) hl (by decide) rfl dX12_isDotAt_53 (fun ls hl => ?_)
              refine li_iinc hC (lv' := [(4, .int (iI (d + 1))), (3, .int (iI 0)), (0, .ref h0), (1, .int (iI c)), (2, .int (iI r))]) hl 4 rfl (by decide) rfl dX12_isDotAt_54 (fun ls hl => ?_)
              refine li_goto (tgt := 5) hC (by decide) dX12_isDotAt_57 ?_
              exact ih (d + 1) 0 _ (lv_sub hl [2, 3, 4, 1, 0] rfl) (by omega) (by first | exact flagE_1 (P := (fun d => S (28 + d).toNat = c ∧ S (35 + d).toNat = r)) hd.1 hz (by assumption) | exact flagE_t (P := (fun d => S (28 + d).toNat = c ∧ S (35 + d).toNat = r)) hd.1 ⟨by assumption, by assumption⟩ | exact flagE_f (P := (fun d => S (28 + d).toNat = c ∧ S (35 + d).toNat = r)) hd.1 hz (by assumption) (by omega)) (by omega)
            · refine li_iconst hC dX12_isDotAt_48 ?_
              refine li_goto (tgt := 53) hC (by decide) dX12_isDotAt_49 ?_
              refine li_istore_n hC (lv' := [(3, .int (iI 1)), (0, .ref h0), (1, .int (iI c)), (2, .int (iI r)), (4, .int (iI d))]) hl (by decide) rfl dX12_isDotAt_53 (fun ls hl => ?_)
              refine li_iinc hC (lv' := [(4, .int (iI (d + 1))), (3, .int (iI 1)), (0, .ref h0), (1, .int (iI c)), (2, .int (iI r))]) hl 4 rfl (by decide) rfl dX12_isDotAt_54 (fun ls hl => ?_)
              refine li_goto (tgt := 5) hC (by decide) dX12_isDotAt_57 ?_
              exact ih (d + 1) 1 _ (lv_sub hl [2, 3, 4, 1, 0] rfl) (by omega) (by first | exact flagE_1 (P := (fun d => S (28 + d).toNat = c ∧ S (35 + d).toNat = r)) hd.1 hz (by assumption) | exact flagE_t (P := (fun d => S (28 + d).toNat = c ∧ S (35 + d).toNat = r)) hd.1 ⟨by assumption, by assumption⟩ | exact flagE_f (P := (fun d => S (28 + d).toNat = c ∧ S (35 + d).toNat = r)) hd.1 hz (by assumption) (by omega)) (by omega)
  exact L5_1 (((S 0 - 0).toNat) + 1) 0 0 _ (lv_sub hl [2, 3, 4, 1, 0] rfl) (by omega) (by exact (b2_f (exB_0 _)).symm) (by omega)
set_option maxHeartbeats 4000000 in
set_option maxRecDepth 100000 in
theorem c_X12_manyLaid (l : Launch) (g : GG) (h0 : Nat) (S : Nat → Int) (hI : InvD S) : MroI l g yX12_manyLaid cX12_manyLaid 3 1 [.ref h0] (RPic g h0 S) (iI (laidS S)) := by
  refine ro_startI (own := RX12) (by decide) rfl (Nat.le_of_ble_eq_true rfl) ?_
  intro Pg Ev s Mi args below Mt Cd ls Q hC hK hE hP hl hQ
  have hP0 := hP
  obtain ⟨a1, fs, hO, hf, hA⟩ := hP0
  have hD0 := hI.1
  have hl : lv_has ls 3 [(0, .ref h0)] := hl
  refine li_iconst hC dX12_manyLaid_0 ?_
  refine li_istore_n hC (lv' := [(1, .int (iI 0)), (0, .ref h0)]) hl (by decide) rfl dX12_manyLaid_1 (fun ls hl => ?_)
  refine li_iconst hC dX12_manyLaid_2 ?_
  refine li_istore_n hC (lv' := [(2, .int (iI 0)), (1, .int (iI 0)), (0, .ref h0)]) hl (by decide) rfl dX12_manyLaid_3 (fun ls hl => ?_)
  have L4_1 : ∀ (fuel : Nat) (n : Int) (z : Int) (ls : Array Slot), lv_has ls 3 [(0, .ref h0), (1, .int (iI z)), (2, .int (iI n))] → (0 ≤ n ∧ n ≤ S 0) → (z = cntB (fun n => S (42 + n).toNat ≠ 4) n.toNat) → ((S 0 - n).toNat) < fuel → W Pg l Ev (rmC 1 0 0) s Mi args below Mt Cd s.heap [] 0 0 Q (F0 Mi 4 ls []) := by
    intro fuel
    induction fuel with
    | zero => intro n z ls hl hn hz hm; exact absurd hm (Nat.not_lt_zero _)
    | succ fuel ih =>
      intro n z ls hl hn hz hm
      refine li_iload_n hC hl 2 rfl dX12_manyLaid_4 ?_
      refine li_aload_n hC hl 0 rfl dX12_manyLaid_5 ?_
      refine li_get hC hK ck_X12 hO 1 (by decide) fl_X12_9 rfl (v := .ref a1) hf dX12_manyLaid_6 ?_
      refine li_iconst hC dX12_manyLaid_9 ?_
      refine li_iald_k (k := 0) hC hK hA rfl (by decide) (by decide) dX12_manyLaid_10 ?_
      refine li_icmp_ge (tgt := 41) hC (by decide) (rg (by omega) (by omega)) (rg (by omega) (by omega)) dX12_manyLaid_11 (fun c2 => ?_) (fun c2 => ?_)
      · refine li_iload_n hC hl 1 rfl dX12_manyLaid_41 ?_
        exact hQ _ _ _ dX12_manyLaid_42 (iI_inj (by unfold laidS; rw [hz, show n = S 0 by omega]))
      · refine li_iload_n hC hl 1 rfl dX12_manyLaid_14 ?_
        refine li_aload_n hC hl 0 rfl dX12_manyLaid_15 ?_
        refine li_get hC hK ck_X12 hO 1 (by decide) fl_X12_9 rfl (v := .ref a1) hf dX12_manyLaid_16 ?_
        refine li_bipush hC (z := 42) rfl dX12_manyLaid_19 ?_
        refine li_iload_n hC hl 2 rfl dX12_manyLaid_21 ?_
        refine li_iadd hC dX12_manyLaid_22 ?_
        refine li_iald hC hK hA ⟨by omega, by omega⟩ (by decide) dX12_manyLaid_23 ?_
        have q3 := hI.2 n (by omega) (by omega)
        refine li_iconst hC dX12_manyLaid_24 ?_
        refine li_icmp_ne (tgt := 32) hC (by decide) (rg (by omega) (by omega)) (rg (by decide) (by decide)) dX12_manyLaid_25 (fun c4 => ?_) (fun c4 => ?_)
        · refine li_iconst hC dX12_manyLaid_32 ?_
          refine li_iadd hC dX12_manyLaid_33 ?_
          refine li_istore_n hC (lv' := [(1, .int (iI (z + 1))), (0, .ref h0), (2, .int (iI n))]) hl (by decide) rfl dX12_manyLaid_34 (fun ls hl => ?_)
          refine li_iinc hC (lv' := [(2, .int (iI (n + 1))), (1, .int (iI (z + 1))), (0, .ref h0)]) hl 2 rfl (by decide) rfl dX12_manyLaid_35 (fun ls hl => ?_)
          refine li_goto (tgt := 4) hC (by decide) dX12_manyLaid_38 ?_
          exact ih (n + 1) (z + 1) _ (lv_sub hl [2, 1, 0] rfl) (by omega) (by first | (rw [hz]; exact (cntB_t (P := (fun n => S (42 + n).toNat ≠ 4)) hn.1 (by assumption)).symm) | (rw [hz]; exact (cntB_f (P := (fun n => S (42 + n).toNat ≠ 4)) hn.1 (fun h => h (by assumption))).symm)) (by omega)
        · refine li_iconst hC dX12_manyLaid_28 ?_
          refine li_goto (tgt := 33) hC (by decide) dX12_manyLaid_29 ?_
          refine li_iadd hC dX12_manyLaid_33 ?_
          refine li_istore_n hC (lv' := [(1, .int (iI (z + 0))), (0, .ref h0), (2, .int (iI n))]) hl (by decide) rfl dX12_manyLaid_34 (fun ls hl => ?_)
          refine li_iinc hC (lv' := [(2, .int (iI (n + 1))), (1, .int (iI (z + 0))), (0, .ref h0)]) hl 2 rfl (by decide) rfl dX12_manyLaid_35 (fun ls hl => ?_)
          refine li_goto (tgt := 4) hC (by decide) dX12_manyLaid_38 ?_
          exact ih (n + 1) (z + 0) _ (lv_sub hl [2, 1, 0] rfl) (by omega) (by first | (rw [hz]; exact (cntB_t (P := (fun n => S (42 + n).toNat ≠ 4)) hn.1 (by assumption)).symm) | (rw [hz]; exact (cntB_f (P := (fun n => S (42 + n).toNat ≠ 4)) hn.1 (fun h => h (by assumption))).symm)) (by omega)
  exact L4_1 (((S 0 - 0).toNat) + 1) 0 0 _ (lv_sub hl [2, 1, 0] rfl) (by omega) (by rfl) (by omega)
set_option maxHeartbeats 4000000 in
set_option maxRecDepth 100000 in
theorem c_X12_placesOf (l : Launch) (g : GG) (h0 : Nat) (S : Nat → Int) (n : Int) (how : Int) (hn : 0 ≤ n ∧ n < S 0) (hw : 7 ≤ how ∧ how ≤ 9) (hI : InvD S) (hH : InvH S) : MroI l g yX12_placesOf cX12_placesOf 6 7 [.ref h0, .int (iI n), .int (iI how)] (RPic g h0 S) (iI (setB (plS S n how) 4)) := by
  refine ro_startI (own := RX12) (by decide) rfl (Nat.le_of_ble_eq_true rfl) ?_
  intro Pg Ev s Mi args below Mt Cd ls Q hC hK hE hP hl hQ
  have hP0 := hP
  obtain ⟨a1, fs, hO, hf, hA⟩ := hP0
  have hD0 := hI.1
  have hl : lv_has ls 6 [(0, .ref h0), (1, .int (iI n)), (2, .int (iI how))] := hl
  refine li_iconst hC dX12_placesOf_0 ?_
  refine li_istore_n hC (lv' := [(3, .int (iI 0)), (0, .ref h0), (1, .int (iI n)), (2, .int (iI how))]) hl (by decide) rfl dX12_placesOf_1 (fun ls hl => ?_)
  refine li_iconst hC dX12_placesOf_2 ?_
  refine li_istore hC (lv' := [(4, .int (iI 0)), (3, .int (iI 0)), (0, .ref h0), (1, .int (iI n)), (2, .int (iI how))]) hl (by decide) rfl dX12_placesOf_3 (fun ls hl => ?_)
  have L5_1 : ∀ (fuel : Nat) (p : Int) (z : Int) (ls : Array Slot), lv_has ls 6 [(0, .ref h0), (1, .int (iI n)), (2, .int (iI how)), (3, .int (iI z)), (4, .int (iI p))] → (0 ≤ p ∧ p ≤ 4) → (z = setB (plS S n how) p.toNat) → (((4 : Int) - p).toNat) < fuel → W Pg l Ev (rmC 7 0 0) s Mi args below Mt Cd s.heap [] 0 0 Q (F0 Mi 5 ls []) := by
    intro fuel
    induction fuel with
    | zero => intro p z ls hl hp hz hm; exact absurd hm (Nat.not_lt_zero _)
    | succ fuel ih =>
      intro p z ls hl hp hz hm
      refine li_iload hC hl 4 rfl dX12_placesOf_5 ?_
      refine li_iconst hC dX12_placesOf_7 ?_
      refine li_icmp_ge (tgt := 78) hC (by decide) (rg (by omega) (by omega)) (rg (by decide) (by decide)) dX12_placesOf_8 (fun c2 => ?_) (fun c2 => ?_)
      · refine li_iload_n hC hl 3 rfl dX12_placesOf_78 ?_
        exact hQ _ _ _ dX12_placesOf_79 (iI_inj (by rw [hz, show p = 4 by omega]; rfl))
      · refine li_iload_n hC hl 2 rfl dX12_placesOf_11 ?_
        refine li_bipush hC (z := 7) rfl dX12_placesOf_12 ?_
        refine li_icmp_ne (tgt := 27) hC (by decide) (rg (by omega) (by omega)) (rg (by decide) (by decide)) dX12_placesOf_14 (fun c3 => ?_) (fun c3 => ?_)
        · refine li_iload_n hC hl 2 rfl dX12_placesOf_27 ?_
          refine li_bipush hC (z := 8) rfl dX12_placesOf_28 ?_
          refine li_icmp_ne (tgt := 47) hC (by decide) (rg (by omega) (by omega)) (rg (by decide) (by decide)) dX12_placesOf_30 (fun c4 => ?_) (fun c4 => ?_)
          · refine li_aload_n hC hl 0 rfl dX12_placesOf_47 ?_
            refine li_iload_n hC hl 1 rfl dX12_placesOf_48 ?_
            refine li_iload hC hl 4 rfl dX12_placesOf_49 ?_
            refine ro_callVi hC (c_X12_isFree l g h0 S n p (by omega) (by omega) hI hH) mk_X12_isFree ml_X12_186 (rr (by decide)) ⟨Nat.le_of_ble_eq_true rfl, Nat.le_of_ble_eq_true rfl⟩ hK hE hP (li_recv hK ck_X12 hO) rfl hl.1 rfl (Nat.le_of_ble_eq_true rfl) dX12_placesOf_51 ?_
            refine li_istore hC (lv' := [(5, .int (iI (b2 (freeS S n p)))), (0, .ref h0), (1, .int (iI n)), (2, .int (iI how)), (3, .int (iI z)), (4, .int (iI p))]) hl (by decide) rfl dX12_placesOf_54 (fun ls hl => ?_)
            refine li_iload_n hC hl 4 rfl dX12_placesOf_56 ?_
            refine li_iload hC hl 0 rfl dX12_placesOf_57 ?_
            refine li_ifeq_b (tgt := 69) hC (by decide) dX12_placesOf_59 (fun c5 => ?_) (fun c5 => ?_)
            · refine li_iconst hC dX12_placesOf_69 ?_
              refine li_ior hC dX12_placesOf_70 ?_
              refine li_istore_n hC (lv' := [(3, .int (iI (ior z 0))), (5, .int (iI (b2 (freeS S n p)))), (0, .ref h0), (1, .int (iI n)), (2, .int (iI how)), (4, .int (iI p))]) hl (by decide) rfl dX12_placesOf_71 (fun ls hl => ?_)
              refine li_iinc hC (lv' := [(4, .int (iI (p + 1))), (3, .int (iI (ior z 0))), (5, .int (iI (b2 (freeS S n p)))), (0, .ref h0), (1, .int (iI n)), (2, .int (iI how))]) hl 5 rfl (by decide) rfl dX12_placesOf_72 (fun ls hl => ?_)
              refine li_goto (tgt := 5) hC (by decide) dX12_placesOf_75 ?_
              exact ih (p + 1) (ior z 0) _ (lv_sub hl [3, 4, 5, 1, 0] rfl) (by omega) (by rw [hz]; exact setB_f0 (P := (plS S n how)) hp.1 (by omega) (by intro hh; first | exact absurd (hh.1 (by assumption)) (by assumption) | exact absurd (hh.2.1 (by assumption)) (by assumption) | exact absurd (hh.2.2 (by assumption) (by assumption)) (by assumption))) (by omega)
            · refine li_iconst hC dX12_placesOf_62 ?_
              refine li_iload hC hl 5 rfl dX12_placesOf_63 ?_
              refine li_ishl hC dX12_placesOf_65 ?_
              refine li_goto (tgt := 70) hC (by decide) dX12_placesOf_66 ?_
              refine li_ior hC dX12_placesOf_70 ?_
              refine li_istore_n hC (lv' := [(3, .int (iI (ior z (ishl 1 p)))), (5, .int (iI (b2 (freeS S n p)))), (0, .ref h0), (1, .int (iI n)), (2, .int (iI how)), (4, .int (iI p))]) hl (by decide) rfl dX12_placesOf_71 (fun ls hl => ?_)
              refine li_iinc hC (lv' := [(4, .int (iI (p + 1))), (3, .int (iI (ior z (ishl 1 p)))), (5, .int (iI (b2 (freeS S n p)))), (0, .ref h0), (1, .int (iI n)), (2, .int (iI how))]) hl 5 rfl (by decide) rfl dX12_placesOf_72 (fun ls hl => ?_)
              refine li_goto (tgt := 5) hC (by decide) dX12_placesOf_75 ?_
              exact ih (p + 1) (ior z (ishl 1 p)) _ (lv_sub hl [3, 4, 5, 1, 0] rfl) (by omega) (by rw [hz]; exact setB_t (P := (plS S n how)) hp.1 (by omega) (by refine ⟨fun _ => ?_, fun _ => ?_, fun _ _ => ?_⟩ <;> first | assumption | omega)) (by omega)
          · refine li_aload_n hC hl 0 rfl dX12_placesOf_33 ?_
            refine li_iload_n hC hl 1 rfl dX12_placesOf_34 ?_
            refine li_iload hC hl 4 rfl dX12_placesOf_35 ?_
            refine li_aload_n hC hl 0 rfl dX12_placesOf_37 ?_
            refine ro_callVi hC (c_X12_wideNow l g h0 S hH) mk_X12_wideNow ml_X12_164 (rr (by decide)) ⟨Nat.le_of_ble_eq_true rfl, Nat.le_of_ble_eq_true rfl⟩ hK hE hP (li_recv hK ck_X12 hO) rfl hl.1 rfl (Nat.le_of_ble_eq_true rfl) dX12_placesOf_38 ?_
            have q6 := wideS_rng S
            refine ro_callVi hC (c_X12_fits l g h0 S n p (wideS S) (by omega) (by omega) (by omega) hI) mk_X12_fits ml_X12_167 (rr (by decide)) ⟨Nat.le_of_ble_eq_true rfl, Nat.le_of_ble_eq_true rfl⟩ hK hE hP (li_recv hK ck_X12 hO) rfl hl.1 rfl (Nat.le_of_ble_eq_true rfl) dX12_placesOf_41 ?_
            refine li_goto (tgt := 54) hC (by decide) dX12_placesOf_44 ?_
            refine li_istore hC (lv' := [(5, .int (iI (b2 (fitsS S n p (wideS S))))), (0, .ref h0), (1, .int (iI n)), (2, .int (iI how)), (3, .int (iI z)), (4, .int (iI p))]) hl (by decide) rfl dX12_placesOf_54 (fun ls hl => ?_)
            refine li_iload_n hC hl 4 rfl dX12_placesOf_56 ?_
            refine li_iload hC hl 0 rfl dX12_placesOf_57 ?_
            refine li_ifeq_b (tgt := 69) hC (by decide) dX12_placesOf_59 (fun c7 => ?_) (fun c7 => ?_)
            · refine li_iconst hC dX12_placesOf_69 ?_
              refine li_ior hC dX12_placesOf_70 ?_
              refine li_istore_n hC (lv' := [(3, .int (iI (ior z 0))), (5, .int (iI (b2 (fitsS S n p (wideS S))))), (0, .ref h0), (1, .int (iI n)), (2, .int (iI how)), (4, .int (iI p))]) hl (by decide) rfl dX12_placesOf_71 (fun ls hl => ?_)
              refine li_iinc hC (lv' := [(4, .int (iI (p + 1))), (3, .int (iI (ior z 0))), (5, .int (iI (b2 (fitsS S n p (wideS S))))), (0, .ref h0), (1, .int (iI n)), (2, .int (iI how))]) hl 5 rfl (by decide) rfl dX12_placesOf_72 (fun ls hl => ?_)
              refine li_goto (tgt := 5) hC (by decide) dX12_placesOf_75 ?_
              exact ih (p + 1) (ior z 0) _ (lv_sub hl [3, 4, 5, 1, 0] rfl) (by omega) (by rw [hz]; exact setB_f0 (P := (plS S n how)) hp.1 (by omega) (by intro hh; first | exact absurd (hh.1 (by assumption)) (by assumption) | exact absurd (hh.2.1 (by assumption)) (by assumption) | exact absurd (hh.2.2 (by assumption) (by assumption)) (by assumption))) (by omega)
            · refine li_iconst hC dX12_placesOf_62 ?_
              refine li_iload hC hl 5 rfl dX12_placesOf_63 ?_
              refine li_ishl hC dX12_placesOf_65 ?_
              refine li_goto (tgt := 70) hC (by decide) dX12_placesOf_66 ?_
              refine li_ior hC dX12_placesOf_70 ?_
              refine li_istore_n hC (lv' := [(3, .int (iI (ior z (ishl 1 p)))), (5, .int (iI (b2 (fitsS S n p (wideS S))))), (0, .ref h0), (1, .int (iI n)), (2, .int (iI how)), (4, .int (iI p))]) hl (by decide) rfl dX12_placesOf_71 (fun ls hl => ?_)
              refine li_iinc hC (lv' := [(4, .int (iI (p + 1))), (3, .int (iI (ior z (ishl 1 p)))), (5, .int (iI (b2 (fitsS S n p (wideS S))))), (0, .ref h0), (1, .int (iI n)), (2, .int (iI how))]) hl 5 rfl (by decide) rfl dX12_placesOf_72 (fun ls hl => ?_)
              refine li_goto (tgt := 5) hC (by decide) dX12_placesOf_75 ?_
              exact ih (p + 1) (ior z (ishl 1 p)) _ (lv_sub hl [3, 4, 5, 1, 0] rfl) (by omega) (by rw [hz]; exact setB_t (P := (plS S n how)) hp.1 (by omega) (by refine ⟨fun _ => ?_, fun _ => ?_, fun _ _ => ?_⟩ <;> first | assumption | omega)) (by omega)
        · refine li_aload_n hC hl 0 rfl dX12_placesOf_17 ?_
          refine li_iload_n hC hl 1 rfl dX12_placesOf_18 ?_
          refine li_iload hC hl 4 rfl dX12_placesOf_19 ?_
          refine ro_callVi hC (c_X12_may l g h0 S n p (by omega) (by omega) hI) mk_X12_may ml_X12_160 (rr (by decide)) ⟨Nat.le_of_ble_eq_true rfl, Nat.le_of_ble_eq_true rfl⟩ hK hE hP (li_recv hK ck_X12 hO) rfl hl.1 rfl (Nat.le_of_ble_eq_true rfl) dX12_placesOf_21 ?_
          refine li_goto (tgt := 54) hC (by decide) dX12_placesOf_24 ?_
          refine li_istore hC (lv' := [(5, .int (iI (b2 (mayS S n p)))), (0, .ref h0), (1, .int (iI n)), (2, .int (iI how)), (3, .int (iI z)), (4, .int (iI p))]) hl (by decide) rfl dX12_placesOf_54 (fun ls hl => ?_)
          refine li_iload_n hC hl 4 rfl dX12_placesOf_56 ?_
          refine li_iload hC hl 0 rfl dX12_placesOf_57 ?_
          refine li_ifeq_b (tgt := 69) hC (by decide) dX12_placesOf_59 (fun c8 => ?_) (fun c8 => ?_)
          · refine li_iconst hC dX12_placesOf_69 ?_
            refine li_ior hC dX12_placesOf_70 ?_
            refine li_istore_n hC (lv' := [(3, .int (iI (ior z 0))), (5, .int (iI (b2 (mayS S n p)))), (0, .ref h0), (1, .int (iI n)), (2, .int (iI how)), (4, .int (iI p))]) hl (by decide) rfl dX12_placesOf_71 (fun ls hl => ?_)
            refine li_iinc hC (lv' := [(4, .int (iI (p + 1))), (3, .int (iI (ior z 0))), (5, .int (iI (b2 (mayS S n p)))), (0, .ref h0), (1, .int (iI n)), (2, .int (iI how))]) hl 5 rfl (by decide) rfl dX12_placesOf_72 (fun ls hl => ?_)
            refine li_goto (tgt := 5) hC (by decide) dX12_placesOf_75 ?_
            exact ih (p + 1) (ior z 0) _ (lv_sub hl [3, 4, 5, 1, 0] rfl) (by omega) (by rw [hz]; exact setB_f0 (P := (plS S n how)) hp.1 (by omega) (by intro hh; first | exact absurd (hh.1 (by assumption)) (by assumption) | exact absurd (hh.2.1 (by assumption)) (by assumption) | exact absurd (hh.2.2 (by assumption) (by assumption)) (by assumption))) (by omega)
          · refine li_iconst hC dX12_placesOf_62 ?_
            refine li_iload hC hl 5 rfl dX12_placesOf_63 ?_
            refine li_ishl hC dX12_placesOf_65 ?_
            refine li_goto (tgt := 70) hC (by decide) dX12_placesOf_66 ?_
            refine li_ior hC dX12_placesOf_70 ?_
            refine li_istore_n hC (lv' := [(3, .int (iI (ior z (ishl 1 p)))), (5, .int (iI (b2 (mayS S n p)))), (0, .ref h0), (1, .int (iI n)), (2, .int (iI how)), (4, .int (iI p))]) hl (by decide) rfl dX12_placesOf_71 (fun ls hl => ?_)
            refine li_iinc hC (lv' := [(4, .int (iI (p + 1))), (3, .int (iI (ior z (ishl 1 p)))), (5, .int (iI (b2 (mayS S n p)))), (0, .ref h0), (1, .int (iI n)), (2, .int (iI how))]) hl 5 rfl (by decide) rfl dX12_placesOf_72 (fun ls hl => ?_)
            refine li_goto (tgt := 5) hC (by decide) dX12_placesOf_75 ?_
            exact ih (p + 1) (ior z (ishl 1 p)) _ (lv_sub hl [3, 4, 5, 1, 0] rfl) (by omega) (by rw [hz]; exact setB_t (P := (plS S n how)) hp.1 (by omega) (by refine ⟨fun _ => ?_, fun _ => ?_, fun _ _ => ?_⟩ <;> first | assumption | omega)) (by omega)
  exact L5_1 ((((4 : Int) - 0).toNat) + 1) 0 0 _ (lv_sub hl [2, 3, 4, 1, 0] rfl) (by omega) (by rfl) (by omega)
set_option maxHeartbeats 4000000 in
set_option maxRecDepth 100000 in
theorem c_X12_of (l : Launch) (g : GG) (h0 : Nat) (S : Nat → Int) (n : Int) (what : Int) (hn : rng n) (hw : rng what) (hI : InvD S) (hH : InvH S) : MroI l g yX12_of cX12_of 3 8 [.ref h0, .int (iI n), .int (iI what)] (RPic g h0 S) (iI (if (0 ≤ n ∧ n < S 0) ∧ (0 ≤ what ∧ what ≤ 9) then ofS S n what else -1)) := by
  refine ro_startI (own := RX12) (by decide) rfl (Nat.le_of_ble_eq_true rfl) ?_
  intro Pg Ev s Mi args below Mt Cd ls Q hC hK hE hP hl hQ
  have hP0 := hP
  obtain ⟨a1, fs, hO, hf, hA⟩ := hP0
  have hD0 := hI.1
  have hl : lv_has ls 3 [(0, .ref h0), (1, .int (iI n)), (2, .int (iI what))] := hl
  refine li_aload_n hC hl 0 rfl dX12_of_0 ?_
  refine li_iload_n hC hl 1 rfl dX12_of_1 ?_
  refine ro_callVi hC (c_X12_isName l g h0 S n hn hI) mk_X12_isName ml_X12_189 (rr (by decide)) ⟨Nat.le_of_ble_eq_true rfl, Nat.le_of_ble_eq_true rfl⟩ hK hE hP (li_recv hK ck_X12 hO) rfl hl.1 rfl (Nat.le_of_ble_eq_true rfl) dX12_of_2 ?_
  refine li_ifeq_b (tgt := 18) hC (by decide) dX12_of_5 (fun c1 => ?_) (fun c1 => ?_)
  · refine li_iconst hC dX12_of_18 ?_
    exact hQ _ _ _ dX12_of_19 (iI_inj (by unfold ofS; (repeat' split) <;> first | rfl | omega))
  · refine li_iload_n hC hl 2 rfl dX12_of_8 ?_
    refine li_iconst hC dX12_of_9 ?_
    refine li_bipush hC (z := 9) rfl dX12_of_10 ?_
    refine ro_callSi hC (c_X12_in l g what 0 9 hw (rg (by decide) (by decide)) (rg (by decide) (by decide))) mk_X12_in ml_X12_56 (rr (by decide)) ⟨Nat.le_of_ble_eq_true rfl, Nat.le_of_ble_eq_true rfl⟩ hK hE trivial rfl hl.1 rfl (Nat.le_of_ble_eq_true rfl) dX12_of_12 ?_
    refine li_ifne_b (tgt := 20) hC (by decide) dX12_of_15 (fun c2 => ?_) (fun c2 => ?_)
    · refine li_iload_n hC hl 2 rfl dX12_of_20 ?_
      refine li_iconst hC dX12_of_21 ?_
      refine li_icmp_ge (tgt := 42) hC (by decide) hw (rg (by decide) (by decide)) dX12_of_22 (fun c3 => ?_) (fun c3 => ?_)
      · refine li_iload_n hC hl 2 rfl dX12_of_42 ?_
        refine li_iconst hC dX12_of_43 ?_
        refine li_icmp_ne (tgt := 55) hC (by decide) hw (rg (by decide) (by decide)) dX12_of_44 (fun c4 => ?_) (fun c4 => ?_)
        · refine li_iload_n hC hl 2 rfl dX12_of_55 ?_
          refine li_bipush hC (z := 6) rfl dX12_of_56 ?_
          refine li_icmp_ne (tgt := 76) hC (by decide) hw (rg (by decide) (by decide)) dX12_of_58 (fun c5 => ?_) (fun c5 => ?_)
          · refine li_aload_n hC hl 0 rfl dX12_of_76 ?_
            refine li_iload_n hC hl 1 rfl dX12_of_77 ?_
            refine li_iload_n hC hl 2 rfl dX12_of_78 ?_
            refine ro_callVi hC (c_X12_placesOf l g h0 S n what (by omega) (by omega) hI hH) mk_X12_placesOf ml_X12_196 (rr (by decide)) ⟨Nat.le_of_ble_eq_true rfl, Nat.le_of_ble_eq_true rfl⟩ hK hE hP (li_recv hK ck_X12 hO) rfl hl.1 rfl (Nat.le_of_ble_eq_true rfl) dX12_of_79 ?_
            exact hQ _ _ _ dX12_of_82 (iI_inj (by unfold ofS; (repeat' split) <;> first | rfl | omega))
          · refine li_aload_n hC hl 0 rfl dX12_of_61 ?_
            refine li_get hC hK ck_X12 hO 1 (by decide) fl_X12_9 rfl (v := .ref a1) hf dX12_of_62 ?_
            refine li_bipush hC (z := 42) rfl dX12_of_65 ?_
            refine li_iload_n hC hl 1 rfl dX12_of_67 ?_
            refine li_iadd hC dX12_of_68 ?_
            refine li_iald hC hK hA ⟨by omega, by omega⟩ (by decide) dX12_of_69 ?_
            have q6 := hI.2 n (by omega) (by omega)
            refine ro_callSi hC (c_X12_orNone l g (S (42 + n).toNat) (rg (by omega) (by omega))) mk_X12_orNone ml_X12_193 (rr (by decide)) ⟨Nat.le_of_ble_eq_true rfl, Nat.le_of_ble_eq_true rfl⟩ hK hE trivial rfl hl.1 rfl (Nat.le_of_ble_eq_true rfl) dX12_of_70 ?_
            refine li_goto (tgt := 82) hC (by decide) dX12_of_73 ?_
            exact hQ _ _ _ dX12_of_82 (iI_inj (by unfold ofS; (repeat' split) <;> first | rfl | omega))
        · refine li_aload_n hC hl 0 rfl dX12_of_47 ?_
          refine li_iload_n hC hl 1 rfl dX12_of_48 ?_
          refine ro_callVi hC (c_X12_lengthOf l g h0 S n (by omega) hI) mk_X12_lengthOf ml_X12_146 (rr (by decide)) ⟨Nat.le_of_ble_eq_true rfl, Nat.le_of_ble_eq_true rfl⟩ hK hE hP (li_recv hK ck_X12 hO) rfl hl.1 rfl (Nat.le_of_ble_eq_true rfl) dX12_of_49 ?_
          have q7 := lenS_rng hI (n := n) (by omega)
          refine li_goto (tgt := 82) hC (by decide) dX12_of_52 ?_
          exact hQ _ _ _ dX12_of_82 (iI_inj (by unfold ofS; (repeat' split) <;> first | rfl | omega))
      · refine li_aload_n hC hl 0 rfl dX12_of_25 ?_
        refine li_get hC hK ck_X12 hO 1 (by decide) fl_X12_9 rfl (v := .ref a1) hf dX12_of_26 ?_
        refine li_bipush hC (z := 7) rfl dX12_of_29 ?_
        refine li_bipush hC (z := 7) rfl dX12_of_31 ?_
        refine li_iload_n hC hl 2 rfl dX12_of_33 ?_
        refine li_imul hC dX12_of_34 ?_
        refine li_iadd hC dX12_of_35 ?_
        refine li_iload_n hC hl 1 rfl dX12_of_36 ?_
        refine li_iadd hC dX12_of_37 ?_
        refine li_iald hC hK hA ⟨by omega, by omega⟩ (by decide) dX12_of_38 ?_
        refine li_goto (tgt := 82) hC (by decide) dX12_of_39 ?_
        exact hQ _ _ _ dX12_of_82 (iI_inj (by unfold ofS; (repeat' split) <;> first | rfl | omega))
    · refine li_iconst hC dX12_of_18 ?_
      exact hQ _ _ _ dX12_of_19 (iI_inj (by unfold ofS; (repeat' split) <;> first | rfl | omega))
set_option maxHeartbeats 4000000 in
set_option maxRecDepth 100000 in
theorem c_X12_clash (l : Launch) (g : GG) (h0 : Nat) (S : Nat → Int) (a : Int) (p : Int) (b : Int) (q : Int) (h1 : rng a) (h2 : rng p) (h3 : rng b) (h4 : rng q) (hI : InvD S) : MroI l g yX12_clash cX12_clash 5 6 [.ref h0, .int (iI a), .int (iI p), .int (iI b), .int (iI q)] (RPic g h0 S) (iI (if (0 ≤ a ∧ a < S 0) ∧ (0 ≤ p ∧ p ≤ 3) ∧ (0 ≤ b ∧ b < S 0) ∧ (0 ≤ q ∧ q ≤ 3) then (if a = b then -2 else bothS S a p b q) else -1)) := by
  refine ro_startI (own := RX12) (by decide) rfl (Nat.le_of_ble_eq_true rfl) ?_
  intro Pg Ev s Mi args below Mt Cd ls Q hC hK hE hP hl hQ
  have hP0 := hP
  obtain ⟨a1, fs, hO, hf, hA⟩ := hP0
  have hD0 := hI.1
  have hl : lv_has ls 5 [(0, .ref h0), (1, .int (iI a)), (2, .int (iI p)), (3, .int (iI b)), (4, .int (iI q))] := hl
  refine li_aload_n hC hl 0 rfl dX12_clash_0 ?_
  refine li_iload_n hC hl 1 rfl dX12_clash_1 ?_
  refine ro_callVi hC (c_X12_isName l g h0 S a h1 hI) mk_X12_isName ml_X12_189 (rr (by decide)) ⟨Nat.le_of_ble_eq_true rfl, Nat.le_of_ble_eq_true rfl⟩ hK hE hP (li_recv hK ck_X12 hO) rfl hl.1 rfl (Nat.le_of_ble_eq_true rfl) dX12_clash_2 ?_
  refine li_ifeq_b (tgt := 31) hC (by decide) dX12_clash_5 (fun c1 => ?_) (fun c1 => ?_)
  · refine li_iconst hC dX12_clash_31 ?_
    exact hQ _ _ _ dX12_clash_32 (iI_inj (by (repeat' split) <;> first | rfl | omega))
  · refine li_iload_n hC hl 2 rfl dX12_clash_8 ?_
    refine ro_callSi hC (c_X12_isPlace l g p h2) mk_X12_isPlace ml_X12_199 (rr (by decide)) ⟨Nat.le_of_ble_eq_true rfl, Nat.le_of_ble_eq_true rfl⟩ hK hE trivial rfl hl.1 rfl (Nat.le_of_ble_eq_true rfl) dX12_clash_9 ?_
    refine li_ifeq_b (tgt := 31) hC (by decide) dX12_clash_12 (fun c2 => ?_) (fun c2 => ?_)
    · refine li_iconst hC dX12_clash_31 ?_
      exact hQ _ _ _ dX12_clash_32 (iI_inj (by (repeat' split) <;> first | rfl | omega))
    · refine li_aload_n hC hl 0 rfl dX12_clash_15 ?_
      refine li_iload_n hC hl 3 rfl dX12_clash_16 ?_
      refine ro_callVi hC (c_X12_isName l g h0 S b h3 hI) mk_X12_isName ml_X12_189 (rr (by decide)) ⟨Nat.le_of_ble_eq_true rfl, Nat.le_of_ble_eq_true rfl⟩ hK hE hP (li_recv hK ck_X12 hO) rfl hl.1 rfl (Nat.le_of_ble_eq_true rfl) dX12_clash_17 ?_
      refine li_ifeq_b (tgt := 31) hC (by decide) dX12_clash_20 (fun c3 => ?_) (fun c3 => ?_)
      · refine li_iconst hC dX12_clash_31 ?_
        exact hQ _ _ _ dX12_clash_32 (iI_inj (by (repeat' split) <;> first | rfl | omega))
      · refine li_iload hC hl 4 rfl dX12_clash_23 ?_
        refine ro_callSi hC (c_X12_isPlace l g q h4) mk_X12_isPlace ml_X12_199 (rr (by decide)) ⟨Nat.le_of_ble_eq_true rfl, Nat.le_of_ble_eq_true rfl⟩ hK hE trivial rfl hl.1 rfl (Nat.le_of_ble_eq_true rfl) dX12_clash_25 ?_
        refine li_ifne_b (tgt := 33) hC (by decide) dX12_clash_28 (fun c4 => ?_) (fun c4 => ?_)
        · refine li_iload_n hC hl 1 rfl dX12_clash_33 ?_
          refine li_iload_n hC hl 3 rfl dX12_clash_34 ?_
          refine li_icmp_ne (tgt := 43) hC (by decide) h1 h3 dX12_clash_35 (fun c5 => ?_) (fun c5 => ?_)
          · refine li_aload_n hC hl 0 rfl dX12_clash_43 ?_
            refine li_iload_n hC hl 1 rfl dX12_clash_44 ?_
            refine li_iload_n hC hl 2 rfl dX12_clash_45 ?_
            refine li_iload_n hC hl 3 rfl dX12_clash_46 ?_
            refine li_iload hC hl 4 rfl dX12_clash_47 ?_
            refine ro_callVi hC (c_X12_bothAt l g h0 S a p b q (by omega) (by omega) (by omega) (by omega) hI) mk_X12_bothAt ml_X12_170 (rr (by decide)) ⟨Nat.le_of_ble_eq_true rfl, Nat.le_of_ble_eq_true rfl⟩ hK hE hP (li_recv hK ck_X12 hO) rfl hl.1 rfl (Nat.le_of_ble_eq_true rfl) dX12_clash_49 ?_
            have q6 := bothS_rng hI (a := a) (p := p) (b := b) (q := q) (by omega)
            exact hQ _ _ _ dX12_clash_52 (iI_inj (by (repeat' split) <;> first | rfl | omega))
          · refine li_bipush hC (z := -2) rfl dX12_clash_38 ?_
            refine li_goto (tgt := 52) hC (by decide) dX12_clash_40 ?_
            exact hQ _ _ _ dX12_clash_52 (iI_inj (by (repeat' split) <;> first | rfl | omega))
        · refine li_iconst hC dX12_clash_31 ?_
          exact hQ _ _ _ dX12_clash_32 (iI_inj (by (repeat' split) <;> first | rfl | omega))
set_option maxHeartbeats 4000000 in
set_option maxRecDepth 100000 in
theorem c_X12_at (l : Launch) (g : GG) (h0 : Nat) (S : Nat → Int) (c : Int) (r : Int) (h1 : rng c) (h2 : rng r) (hI : InvD S) : MroI l g yX12_at cX12_at 5 5 [.ref h0, .int (iI c), .int (iI r)] (RPic g h0 S) (iI (if (0 ≤ c ∧ c ≤ 29) ∧ (0 ≤ r ∧ r ≤ 11) then atS S c r else -1)) := by
  refine ro_startI (own := RX12) (by decide) rfl (Nat.le_of_ble_eq_true rfl) ?_
  intro Pg Ev s Mi args below Mt Cd ls Q hC hK hE hP hl hQ
  have hP0 := hP
  obtain ⟨a1, fs, hO, hf, hA⟩ := hP0
  have hD0 := hI.1
  have hl : lv_has ls 5 [(0, .ref h0), (1, .int (iI c)), (2, .int (iI r))] := hl
  refine li_iload_n hC hl 1 rfl dX12_at_0 ?_
  refine li_iconst hC dX12_at_1 ?_
  refine li_bipush hC (z := 29) rfl dX12_at_2 ?_
  refine ro_callSi hC (c_X12_in l g c 0 29 h1 (rg (by decide) (by decide)) (rg (by decide) (by decide))) mk_X12_in ml_X12_56 (rr (by decide)) ⟨Nat.le_of_ble_eq_true rfl, Nat.le_of_ble_eq_true rfl⟩ hK hE trivial rfl hl.1 rfl (Nat.le_of_ble_eq_true rfl) dX12_at_4 ?_
  refine li_ifeq_b (tgt := 20) hC (by decide) dX12_at_7 (fun c1 => ?_) (fun c1 => ?_)
  · refine li_iconst hC dX12_at_20 ?_
    exact hQ _ _ _ dX12_at_21 (iI_inj (by first | (rw [if_neg (by omega)]; done) | (rw [if_pos (by omega)]; unfold atS; rw [hz, show n = S 0 by omega])))
  · refine li_iload_n hC hl 2 rfl dX12_at_10 ?_
    refine li_iconst hC dX12_at_11 ?_
    refine li_bipush hC (z := 11) rfl dX12_at_12 ?_
    refine ro_callSi hC (c_X12_in l g r 0 11 h2 (rg (by decide) (by decide)) (rg (by decide) (by decide))) mk_X12_in ml_X12_56 (rr (by decide)) ⟨Nat.le_of_ble_eq_true rfl, Nat.le_of_ble_eq_true rfl⟩ hK hE trivial rfl hl.1 rfl (Nat.le_of_ble_eq_true rfl) dX12_at_14 ?_
    refine li_ifne_b (tgt := 22) hC (by decide) dX12_at_17 (fun c2 => ?_) (fun c2 => ?_)
    · refine li_iconst hC dX12_at_22 ?_
      refine li_istore_n hC (lv' := [(3, .int (iI 0)), (0, .ref h0), (1, .int (iI c)), (2, .int (iI r))]) hl (by decide) rfl dX12_at_23 (fun ls hl => ?_)
      refine li_iconst hC dX12_at_24 ?_
      refine li_istore hC (lv' := [(4, .int (iI 0)), (3, .int (iI 0)), (0, .ref h0), (1, .int (iI c)), (2, .int (iI r))]) hl (by decide) rfl dX12_at_25 (fun ls hl => ?_)
      have L27_3 : ∀ (fuel : Nat) (n : Int) (z : Int) (ls : Array Slot), lv_has ls 5 [(0, .ref h0), (1, .int (iI c)), (2, .int (iI r)), (3, .int (iI z)), (4, .int (iI n))] → (0 ≤ n ∧ n ≤ S 0) → (z = setB (fun n => isAtS S n (S (42 + n).toNat) c r) n.toNat) → ((S 0 - n).toNat) < fuel → W Pg l Ev (rmC 5 0 0) s Mi args below Mt Cd s.heap [] 0 0 Q (F0 Mi 27 ls []) := by
        intro fuel
        induction fuel with
        | zero => intro n z ls hl hn hz hm; exact absurd hm (Nat.not_lt_zero _)
        | succ fuel ih =>
          intro n z ls hl hn hz hm
          refine li_iload hC hl 4 rfl dX12_at_27 ?_
          refine li_aload_n hC hl 0 rfl dX12_at_29 ?_
          refine li_get hC hK ck_X12 hO 1 (by decide) fl_X12_9 rfl (v := .ref a1) hf dX12_at_30 ?_
          refine li_iconst hC dX12_at_33 ?_
          refine li_iald_k (k := 0) hC hK hA rfl (by decide) (by decide) dX12_at_34 ?_
          refine li_icmp_ge (tgt := 76) hC (by decide) (rg (by omega) (by omega)) (rg (by omega) (by omega)) dX12_at_35 (fun c4 => ?_) (fun c4 => ?_)
          · refine li_iload_n hC hl 3 rfl dX12_at_76 ?_
            exact hQ _ _ _ dX12_at_77 (iI_inj (by first | (rw [if_neg (by omega)]; done) | (rw [if_pos (by omega)]; unfold atS; rw [hz, show n = S 0 by omega])))
          · refine li_iload_n hC hl 3 rfl dX12_at_38 ?_
            refine li_aload_n hC hl 0 rfl dX12_at_39 ?_
            refine li_iload hC hl 4 rfl dX12_at_40 ?_
            refine li_aload_n hC hl 0 rfl dX12_at_42 ?_
            refine li_get hC hK ck_X12 hO 1 (by decide) fl_X12_9 rfl (v := .ref a1) hf dX12_at_43 ?_
            refine li_bipush hC (z := 42) rfl dX12_at_46 ?_
            refine li_iload hC hl 4 rfl dX12_at_48 ?_
            refine li_iadd hC dX12_at_50 ?_
            refine li_iald hC hK hA ⟨by omega, by omega⟩ (by decide) dX12_at_51 ?_
            have q5 := hI.2 n (by omega) (by omega)
            refine li_iload_n hC hl 1 rfl dX12_at_52 ?_
            refine li_iload_n hC hl 2 rfl dX12_at_53 ?_
            refine ro_callVi hC (c_X12_isAt l g h0 S n (S (42 + n).toNat) c r (by omega) (by omega) (by omega) (by omega) hI) mk_X12_isAt ml_X12_156 (rr (by decide)) ⟨Nat.le_of_ble_eq_true rfl, Nat.le_of_ble_eq_true rfl⟩ hK hE hP (li_recv hK ck_X12 hO) rfl hl.1 rfl (Nat.le_of_ble_eq_true rfl) dX12_at_54 ?_
            refine li_ifeq_b (tgt := 67) hC (by decide) dX12_at_57 (fun c6 => ?_) (fun c6 => ?_)
            · refine li_iconst hC dX12_at_67 ?_
              refine li_ior hC dX12_at_68 ?_
              refine li_istore_n hC (lv' := [(3, .int (iI (ior z 0))), (0, .ref h0), (1, .int (iI c)), (2, .int (iI r)), (4, .int (iI n))]) hl (by decide) rfl dX12_at_69 (fun ls hl => ?_)
              refine li_iinc hC (lv' := [(4, .int (iI (n + 1))), (3, .int (iI (ior z 0))), (0, .ref h0), (1, .int (iI c)), (2, .int (iI r))]) hl 4 rfl (by decide) rfl dX12_at_70 (fun ls hl => ?_)
              refine li_goto (tgt := 27) hC (by decide) dX12_at_73 ?_
              exact ih (n + 1) (ior z 0) _ (lv_sub hl [2, 3, 4, 1, 0] rfl) (by omega) (by rw [hz]; exact setB_f0 (P := (fun n => isAtS S n (S (42 + n).toNat) c r)) hn.1 (by omega) (by assumption)) (by omega)
            · refine li_iconst hC dX12_at_60 ?_
              refine li_iload hC hl 4 rfl dX12_at_61 ?_
              refine li_ishl hC dX12_at_63 ?_
              refine li_goto (tgt := 68) hC (by decide) dX12_at_64 ?_
              refine li_ior hC dX12_at_68 ?_
              refine li_istore_n hC (lv' := [(3, .int (iI (ior z (ishl 1 n)))), (0, .ref h0), (1, .int (iI c)), (2, .int (iI r)), (4, .int (iI n))]) hl (by decide) rfl dX12_at_69 (fun ls hl => ?_)
              refine li_iinc hC (lv' := [(4, .int (iI (n + 1))), (3, .int (iI (ior z (ishl 1 n)))), (0, .ref h0), (1, .int (iI c)), (2, .int (iI r))]) hl 4 rfl (by decide) rfl dX12_at_70 (fun ls hl => ?_)
              refine li_goto (tgt := 27) hC (by decide) dX12_at_73 ?_
              exact ih (n + 1) (ior z (ishl 1 n)) _ (lv_sub hl [2, 3, 4, 1, 0] rfl) (by omega) (by rw [hz]; exact setB_t (P := (fun n => isAtS S n (S (42 + n).toNat) c r)) hn.1 (by omega) (by assumption)) (by omega)
      exact L27_3 (((S 0 - 0).toNat) + 1) 0 0 _ (lv_sub hl [2, 3, 4, 1, 0] rfl) (by omega) (by rfl) (by omega)
    · refine li_iconst hC dX12_at_20 ?_
      exact hQ _ _ _ dX12_at_21 (iI_inj (by first | (rw [if_neg (by omega)]; done) | (rw [if_pos (by omega)]; unfold atS; rw [hz, show n = S 0 by omega])))
set_option maxHeartbeats 4000000 in
set_option maxRecDepth 100000 in
theorem c_X12_far (l : Launch) (g : GG) (h0 : Nat) (S : Nat → Int) (n : Int) (h1 : rng n) (hI : InvD S) : MroI l g yX12_far cX12_far 2 5 [.ref h0, .int (iI n)] (RPic g h0 S) (iI (if 0 ≤ n ∧ n < S 0 then (if S (42 + n).toNat = 4 then -5 else farS S n n) else -1)) := by
  refine ro_startI (own := RX12) (by decide) rfl (Nat.le_of_ble_eq_true rfl) ?_
  intro Pg Ev s Mi args below Mt Cd ls Q hC hK hE hP hl hQ
  have hP0 := hP
  obtain ⟨a1, fs, hO, hf, hA⟩ := hP0
  have hD0 := hI.1
  have hl : lv_has ls 2 [(0, .ref h0), (1, .int (iI n))] := hl
  refine li_aload_n hC hl 0 rfl dX12_far_0 ?_
  refine li_iload_n hC hl 1 rfl dX12_far_1 ?_
  refine ro_callVi hC (c_X12_isName l g h0 S n h1 hI) mk_X12_isName ml_X12_189 (rr (by decide)) ⟨Nat.le_of_ble_eq_true rfl, Nat.le_of_ble_eq_true rfl⟩ hK hE hP (li_recv hK ck_X12 hO) rfl hl.1 rfl (Nat.le_of_ble_eq_true rfl) dX12_far_2 ?_
  refine li_ifne_b (tgt := 10) hC (by decide) dX12_far_5 (fun c1 => ?_) (fun c1 => ?_)
  · refine li_aload_n hC hl 0 rfl dX12_far_10 ?_
    refine li_get hC hK ck_X12 hO 1 (by decide) fl_X12_9 rfl (v := .ref a1) hf dX12_far_11 ?_
    refine li_bipush hC (z := 42) rfl dX12_far_14 ?_
    refine li_iload_n hC hl 1 rfl dX12_far_16 ?_
    refine li_iadd hC dX12_far_17 ?_
    refine li_iald hC hK hA ⟨by omega, by omega⟩ (by decide) dX12_far_18 ?_
    have q2 := hI.2 n (by omega) (by omega)
    refine li_iconst hC dX12_far_19 ?_
    refine li_icmp_ne (tgt := 28) hC (by decide) (rg (by omega) (by omega)) (rg (by decide) (by decide)) dX12_far_20 (fun c3 => ?_) (fun c3 => ?_)
    · refine li_aload_n hC hl 0 rfl dX12_far_28 ?_
      refine li_iload_n hC hl 1 rfl dX12_far_29 ?_
      refine li_iload_n hC hl 1 rfl dX12_far_30 ?_
      refine ro_callVi hC (c_X12_farFrom l g h0 S n n (by omega) (by omega) hI) mk_X12_farFrom ml_X12_205 (rr (by decide)) ⟨Nat.le_of_ble_eq_true rfl, Nat.le_of_ble_eq_true rfl⟩ hK hE hP (li_recv hK ck_X12 hO) rfl hl.1 rfl (Nat.le_of_ble_eq_true rfl) dX12_far_31 ?_
      have q4 := farS_rng hI (n := n) (d := n) (by omega) (by omega)
      exact hQ _ _ _ dX12_far_34 (iI_inj (by (repeat' split) <;> first | rfl | omega))
    · refine li_bipush hC (z := -5) rfl dX12_far_23 ?_
      refine li_goto (tgt := 34) hC (by decide) dX12_far_25 ?_
      exact hQ _ _ _ dX12_far_34 (iI_inj (by (repeat' split) <;> first | rfl | omega))
  · refine li_iconst hC dX12_far_8 ?_
    exact hQ _ _ _ dX12_far_9 (iI_inj (by (repeat' split) <;> first | rfl | omega))
set_option maxHeartbeats 4000000 in
set_option maxRecDepth 100000 in
theorem c_X12_looked (l : Launch) (g : GG) (h0 : Nat) (S : Nat → Int) (r : Int) (hr : firstLook (fun k => S (42 + S (108 + k).toNat).toNat = S (116 + k).toNat) (S 4) r) (hI : InvD S) (hL : InvL S) : MroI l g yX12_looked cX12_looked 2 1 [.ref h0] (RPic g h0 S) (iI (r)) := by
  refine ro_startI (own := RX12) (by decide) rfl (Nat.le_of_ble_eq_true rfl) ?_
  intro Pg Ev s Mi args below Mt Cd ls Q hC hK hE hP hl hQ
  have hP0 := hP
  obtain ⟨a1, fs, hO, hf, hA⟩ := hP0
  have hL4 := hL.2.2.1
  have hD0 := hI.1
  have hl : lv_has ls 2 [(0, .ref h0)] := hl
  refine li_iconst hC dX12_looked_0 ?_
  refine li_istore_n hC (lv' := [(1, .int (iI 0)), (0, .ref h0)]) hl (by decide) rfl dX12_looked_1 (fun ls hl => ?_)
  have L2_1 : ∀ (fuel : Nat) (k : Int) (ls : Array Slot), lv_has ls 2 [(0, .ref h0), (1, .int (iI k))] → (0 ≤ k ∧ k ≤ S 4) → (allB (fun k => S (42 + S (108 + k).toNat).toNat = S (116 + k).toNat) k) → ((S 4 - k).toNat) < fuel → W Pg l Ev (rmC 1 0 0) s Mi args below Mt Cd s.heap [] 0 0 Q (F0 Mi 2 ls []) := by
    intro fuel
    induction fuel with
    | zero => intro k ls hl hk hq hm; exact absurd hm (Nat.not_lt_zero _)
    | succ fuel ih =>
      intro k ls hl hk hq hm
      refine li_iload_n hC hl 1 rfl dX12_looked_2 ?_
      refine li_aload_n hC hl 0 rfl dX12_looked_3 ?_
      refine li_get hC hK ck_X12 hO 1 (by decide) fl_X12_9 rfl (v := .ref a1) hf dX12_looked_4 ?_
      refine li_iconst hC dX12_looked_7 ?_
      refine li_iald_k (k := 4) hC hK hA rfl (by decide) (by decide) dX12_looked_8 ?_
      refine li_icmp_ge (tgt := 49) hC (by decide) (rg (by omega) (by omega)) (rg (by omega) (by omega)) dX12_looked_9 (fun c2 => ?_) (fun c2 => ?_)
      · refine li_bipush hC (z := -5) rfl dX12_looked_49 ?_
        exact hQ _ _ _ dX12_looked_51 (iI_inj (by exact firstLook_one (Q := (fun k => S (42 + S (108 + k).toNat).toNat = S (116 + k).toNat)) (n := S 4) (by first | exact Or.inr ⟨by omega, by omega, hq, by assumption⟩ | exact Or.inl ⟨rfl, by rw [show S 4 = k by omega]; exact hq⟩) hr))
      · have hL5 := hL.2.2.2.2.2 k (by omega) (by omega)
        have hD5 := hI.2 (S (108 + k).toNat) (by omega) (by omega)
        refine li_aload_n hC hl 0 rfl dX12_looked_12 ?_
        refine li_get hC hK ck_X12 hO 1 (by decide) fl_X12_9 rfl (v := .ref a1) hf dX12_looked_13 ?_
        refine li_bipush hC (z := 42) rfl dX12_looked_16 ?_
        refine li_aload_n hC hl 0 rfl dX12_looked_18 ?_
        refine li_get hC hK ck_X12 hO 1 (by decide) fl_X12_9 rfl (v := .ref a1) hf dX12_looked_19 ?_
        refine li_bipush hC (z := 108) rfl dX12_looked_22 ?_
        refine li_iload_n hC hl 1 rfl dX12_looked_24 ?_
        refine li_iadd hC dX12_looked_25 ?_
        refine li_iald hC hK hA ⟨by omega, by omega⟩ (by decide) dX12_looked_26 ?_
        refine li_iadd hC dX12_looked_27 ?_
        refine li_iald hC hK hA ⟨by omega, by omega⟩ (by decide) dX12_looked_28 ?_
        have q3 := hI.2 (S (108 + k).toNat) (by omega) (by omega)
        refine li_aload_n hC hl 0 rfl dX12_looked_29 ?_
        refine li_get hC hK ck_X12 hO 1 (by decide) fl_X12_9 rfl (v := .ref a1) hf dX12_looked_30 ?_
        refine li_bipush hC (z := 116) rfl dX12_looked_33 ?_
        refine li_iload_n hC hl 1 rfl dX12_looked_35 ?_
        refine li_iadd hC dX12_looked_36 ?_
        refine li_iald hC hK hA ⟨by omega, by omega⟩ (by decide) dX12_looked_37 ?_
        refine li_icmp_eq (tgt := 43) hC (by decide) (rg (by omega) (by omega)) (rg (by omega) (by omega)) dX12_looked_38 (fun c4 => ?_) (fun c4 => ?_)
        · refine li_iinc hC (lv' := [(1, .int (iI (k + 1))), (0, .ref h0)]) hl 1 rfl (by decide) rfl dX12_looked_43 (fun ls hl => ?_)
          refine li_goto (tgt := 2) hC (by decide) dX12_looked_46 ?_
          exact ih (k + 1) _ (lv_sub hl [1, 0] rfl) (by omega) (by exact (allB_s (P := (fun k => S (42 + S (108 + k).toNat).toNat = S (116 + k).toNat)) hk.1).mpr ⟨hq, by assumption⟩) (by omega)
        · refine li_iload_n hC hl 1 rfl dX12_looked_41 ?_
          exact hQ _ _ _ dX12_looked_42 (iI_inj (by exact firstLook_one (Q := (fun k => S (42 + S (108 + k).toNat).toNat = S (116 + k).toNat)) (n := S 4) (by first | exact Or.inr ⟨by omega, by omega, hq, by assumption⟩ | exact Or.inl ⟨rfl, by rw [show S 4 = k by omega]; exact hq⟩) hr))
  exact L2_1 (((S 4 - 0).toNat) + 1) 0 _ (lv_sub hl [1, 0] rfl) (by omega) (by exact allB_0 _) (by omega)
set_option maxHeartbeats 4000000 in
set_option maxRecDepth 100000 in
theorem c_X12_isUnder (l : Launch) (g : GG) (kd : Int) (k : Int) (h1 : 0 ≤ kd ∧ kd ≤ 6) (h2 : 0 ≤ k ∧ k ≤ 6) : MroZ l g yX12_isUnder cX12_isUnder 2 1 [.int (iI kd), .int (iI k)] (fun _ => True) (iI (b2 (underS kd k))) := by
  refine ro_startZ (own := RX12) (by decide) rfl (Nat.le_of_ble_eq_true rfl) ?_
  intro Pg Ev s Mi args below Mt Cd ls Q hC hK hE hP hl hQ
  have hl : lv_has ls 2 [(0, .int (iI kd)), (1, .int (iI k))] := hl
  refine li_iload_n hC hl 1 rfl dX12_isUnder_0 ?_
  refine li_if_eq (tgt := 25) hC (by decide) (rg (by omega) (by omega)) dX12_isUnder_1 (fun c1 => ?_) (fun c1 => ?_)
  · refine li_iconst hC dX12_isUnder_25 ?_
    refine li_goto (tgt := 30) hC (by decide) dX12_isUnder_26 ?_
    exact hQ _ _ _ dX12_isUnder_30 (Or.inr rfl) (iI_inj ((b2_t (by unfold underS; omega)).symm))
  · refine li_iload_n hC hl 1 rfl dX12_isUnder_4 ?_
    refine li_iload_n hC hl 0 rfl dX12_isUnder_5 ?_
    refine li_icmp_eq (tgt := 25) hC (by decide) (rg (by omega) (by omega)) (rg (by omega) (by omega)) dX12_isUnder_6 (fun c2 => ?_) (fun c2 => ?_)
    · refine li_iconst hC dX12_isUnder_25 ?_
      refine li_goto (tgt := 30) hC (by decide) dX12_isUnder_26 ?_
      exact hQ _ _ _ dX12_isUnder_30 (Or.inr rfl) (iI_inj ((b2_t (by unfold underS; omega)).symm))
    · refine li_iload_n hC hl 1 rfl dX12_isUnder_9 ?_
      refine li_if_le (tgt := 29) hC (by decide) (rg (by omega) (by omega)) dX12_isUnder_10 (fun c3 => ?_) (fun c3 => ?_)
      · refine li_iconst hC dX12_isUnder_29 ?_
        exact hQ _ _ _ dX12_isUnder_30 (Or.inl rfl) (iI_inj ((b2_f (by unfold underS; omega)).symm))
      · refine li_iload_n hC hl 1 rfl dX12_isUnder_13 ?_
        refine li_iconst hC dX12_isUnder_14 ?_
        refine li_icmp_ge (tgt := 29) hC (by decide) (rg (by omega) (by omega)) (rg (by decide) (by decide)) dX12_isUnder_15 (fun c4 => ?_) (fun c4 => ?_)
        · refine li_iconst hC dX12_isUnder_29 ?_
          exact hQ _ _ _ dX12_isUnder_30 (Or.inl rfl) (iI_inj ((b2_f (by unfold underS; omega)).symm))
        · refine li_iload_n hC hl 0 rfl dX12_isUnder_18 ?_
          refine li_iload_n hC hl 1 rfl dX12_isUnder_19 ?_
          refine li_iconst hC dX12_isUnder_20 ?_
          refine li_iadd hC dX12_isUnder_21 ?_
          refine li_icmp_ne (tgt := 29) hC (by decide) (rg (by omega) (by omega)) (rg (by omega) (by omega)) dX12_isUnder_22 (fun c5 => ?_) (fun c5 => ?_)
          · refine li_iconst hC dX12_isUnder_29 ?_
            exact hQ _ _ _ dX12_isUnder_30 (Or.inl rfl) (iI_inj ((b2_f (by unfold underS; omega)).symm))
          · refine li_iconst hC dX12_isUnder_25 ?_
            refine li_goto (tgt := 30) hC (by decide) dX12_isUnder_26 ?_
            exact hQ _ _ _ dX12_isUnder_30 (Or.inr rfl) (iI_inj ((b2_t (by unfold underS; omega)).symm))
set_option maxHeartbeats 4000000 in
set_option maxRecDepth 100000 in
theorem c_X12_as (l : Launch) (g : GG) (h0 : Nat) (S : Nat → Int) (n : Int) (k : Int) (h1 : rng n) (h2 : rng k) (hI : InvD S) : MroI l g yX12_as cX12_as 3 3 [.ref h0, .int (iI n), .int (iI k)] (RPic g h0 S) (iI (if (0 ≤ n ∧ n < S 0) ∧ (0 ≤ k ∧ k ≤ 6) then (@ite Int (underS (S (7 + n).toNat) k) (Classical.propDecidable _) (S (14 + n).toNat) (-6)) else -1)) := by
  refine ro_startI (own := RX12) (by decide) rfl (Nat.le_of_ble_eq_true rfl) ?_
  intro Pg Ev s Mi args below Mt Cd ls Q hC hK hE hP hl hQ
  have hP0 := hP
  obtain ⟨a1, fs, hO, hf, hA⟩ := hP0
  have hD0 := hI.1
  have hl : lv_has ls 3 [(0, .ref h0), (1, .int (iI n)), (2, .int (iI k))] := hl
  refine li_aload_n hC hl 0 rfl dX12_as_0 ?_
  refine li_iload_n hC hl 1 rfl dX12_as_1 ?_
  refine ro_callVi hC (c_X12_isName l g h0 S n h1 hI) mk_X12_isName ml_X12_189 (rr (by decide)) ⟨Nat.le_of_ble_eq_true rfl, Nat.le_of_ble_eq_true rfl⟩ hK hE hP (li_recv hK ck_X12 hO) rfl hl.1 rfl (Nat.le_of_ble_eq_true rfl) dX12_as_2 ?_
  refine li_ifeq_b (tgt := 18) hC (by decide) dX12_as_5 (fun c1 => ?_) (fun c1 => ?_)
  · refine li_iconst hC dX12_as_18 ?_
    exact hQ _ _ _ dX12_as_19 (iI_inj (by first | (rw [if_neg (by omega)]; done) | (rw [if_pos (by omega)]; first | (rw [if_pos (by assumption)]; done) | (rw [if_neg (by assumption)]; done))))
  · refine li_iload_n hC hl 2 rfl dX12_as_8 ?_
    refine li_iconst hC dX12_as_9 ?_
    refine li_bipush hC (z := 6) rfl dX12_as_10 ?_
    refine ro_callSi hC (c_X12_in l g k 0 6 h2 (rg (by decide) (by decide)) (rg (by decide) (by decide))) mk_X12_in ml_X12_56 (rr (by decide)) ⟨Nat.le_of_ble_eq_true rfl, Nat.le_of_ble_eq_true rfl⟩ hK hE trivial rfl hl.1 rfl (Nat.le_of_ble_eq_true rfl) dX12_as_12 ?_
    refine li_ifne_b (tgt := 20) hC (by decide) dX12_as_15 (fun c2 => ?_) (fun c2 => ?_)
    · refine li_aload_n hC hl 0 rfl dX12_as_20 ?_
      refine li_get hC hK ck_X12 hO 1 (by decide) fl_X12_9 rfl (v := .ref a1) hf dX12_as_21 ?_
      refine li_bipush hC (z := 7) rfl dX12_as_24 ?_
      refine li_iload_n hC hl 1 rfl dX12_as_26 ?_
      refine li_iadd hC dX12_as_27 ?_
      refine li_iald hC hK hA ⟨by omega, by omega⟩ (by decide) dX12_as_28 ?_
      have q3 := hI.2 n (by omega) (by omega)
      refine li_iload_n hC hl 2 rfl dX12_as_29 ?_
      refine ro_callSi hC (c_X12_isUnder l g (S (7 + n).toNat) k (by omega) (by omega)) mk_X12_isUnder ml_X12_295 (rr (by decide)) ⟨Nat.le_of_ble_eq_true rfl, Nat.le_of_ble_eq_true rfl⟩ hK hE trivial rfl hl.1 rfl (Nat.le_of_ble_eq_true rfl) dX12_as_30 ?_
      refine li_ifeq_b (tgt := 48) hC (by decide) dX12_as_33 (fun c4 => ?_) (fun c4 => ?_)
      · refine li_bipush hC (z := -6) rfl dX12_as_48 ?_
        exact hQ _ _ _ dX12_as_50 (iI_inj (by first | (rw [if_neg (by omega)]; done) | (rw [if_pos (by omega)]; first | (rw [if_pos (by assumption)]; done) | (rw [if_neg (by assumption)]; done))))
      · refine li_aload_n hC hl 0 rfl dX12_as_36 ?_
        refine li_get hC hK ck_X12 hO 1 (by decide) fl_X12_9 rfl (v := .ref a1) hf dX12_as_37 ?_
        refine li_bipush hC (z := 14) rfl dX12_as_40 ?_
        refine li_iload_n hC hl 1 rfl dX12_as_42 ?_
        refine li_iadd hC dX12_as_43 ?_
        refine li_iald hC hK hA ⟨by omega, by omega⟩ (by decide) dX12_as_44 ?_
        refine li_goto (tgt := 50) hC (by decide) dX12_as_45 ?_
        exact hQ _ _ _ dX12_as_50 (iI_inj (by first | (rw [if_neg (by omega)]; done) | (rw [if_pos (by omega)]; first | (rw [if_pos (by assumption)]; done) | (rw [if_neg (by assumption)]; done))))
    · refine li_iconst hC dX12_as_18 ?_
      exact hQ _ _ _ dX12_as_19 (iI_inj (by first | (rw [if_neg (by omega)]; done) | (rw [if_pos (by omega)]; first | (rw [if_pos (by assumption)]; done) | (rw [if_neg (by assumption)]; done))))
set_option maxHeartbeats 4000000 in
set_option maxRecDepth 100000 in
theorem c_X12_areAsSeen (l : Launch) (g : GG) (h0 : Nat) (S : Nat → Int) (hI : InvD S) (hL : InvL S) : MroZ l g yX12_areAsSeen cX12_areAsSeen 3 6 [.ref h0] (RPic g h0 S) (iI (b2 (seenS S))) := by
  refine ro_startZ (own := RX12) (by decide) rfl (Nat.le_of_ble_eq_true rfl) ?_
  intro Pg Ev s Mi args below Mt Cd ls Q hC hK hE hP hl hQ
  have hP0 := hP
  obtain ⟨a1, fs, hO, hf, hA⟩ := hP0
  have hL2 := hL.1
  have hD0 := hI.1
  have hl : lv_has ls 3 [(0, .ref h0)] := hl
  refine li_iconst hC dX12_areAsSeen_0 ?_
  refine li_istore_n hC (lv' := [(1, .int (iI 1)), (0, .ref h0)]) hl (by decide) rfl dX12_areAsSeen_1 (fun ls hl => ?_)
  refine li_iconst hC dX12_areAsSeen_2 ?_
  refine li_istore_n hC (lv' := [(2, .int (iI 0)), (1, .int (iI 1)), (0, .ref h0)]) hl (by decide) rfl dX12_areAsSeen_3 (fun ls hl => ?_)
  have L4_1 : ∀ (fuel : Nat) (k : Int) (z : Int) (ls : Array Slot), lv_has ls 3 [(0, .ref h0), (1, .int (iI z)), (2, .int (iI k))] → (0 ≤ k ∧ k ≤ S 2) → (z = b2 (allB (fun k => (0 < atS S (S (77 + k).toNat) (S (82 + k).toNat)) ↔ S (87 + k).toNat = 1) k)) → ((S 2 - k).toNat) < fuel → W Pg l Ev (rmC 6 0 0) s Mi args below Mt Cd s.heap [] 0 0 Q (F0 Mi 4 ls []) := by
    intro fuel
    induction fuel with
    | zero => intro k z ls hl hk hz hm; exact absurd hm (Nat.not_lt_zero _)
    | succ fuel ih =>
      intro k z ls hl hk hz hm
      have hz0 := b2r hz
      refine li_iload_n hC hl 2 rfl dX12_areAsSeen_4 ?_
      refine li_aload_n hC hl 0 rfl dX12_areAsSeen_5 ?_
      refine li_get hC hK ck_X12 hO 1 (by decide) fl_X12_9 rfl (v := .ref a1) hf dX12_areAsSeen_6 ?_
      refine li_iconst hC dX12_areAsSeen_9 ?_
      refine li_iald_k (k := 2) hC hK hA rfl (by decide) (by decide) dX12_areAsSeen_10 ?_
      refine li_icmp_ge (tgt := 81) hC (by decide) (rg (by omega) (by omega)) (rg (by omega) (by omega)) dX12_areAsSeen_11 (fun c2 => ?_) (fun c2 => ?_)
      · refine li_iload_n hC hl 1 rfl dX12_areAsSeen_81 ?_
        exact hQ _ _ _ dX12_areAsSeen_82 (b2r01 hz) (iI_inj (by exact flagAll1 hz hk.2 (by omega)))
      · refine li_iload_n hC hl 1 rfl dX12_areAsSeen_14 ?_
        refine li_if_eq (tgt := 81) hC (by decide) (rg (by omega) (by omega)) dX12_areAsSeen_15 (fun c3 => ?_) (fun c3 => ?_)
        · refine li_iload_n hC hl 1 rfl dX12_areAsSeen_81 ?_
          exact hQ _ _ _ dX12_areAsSeen_82 (b2r01 hz) (iI_inj (by exact flagAll1 hz hk.2 (by omega)))
        · have hL5 := hL.2.2.2.1 k (by omega) (by omega)
          have hA5 := atS_rng hI (S (77 + k).toNat) (S (82 + k).toNat)
          refine li_aload_n hC hl 0 rfl dX12_areAsSeen_18 ?_
          refine li_aload_n hC hl 0 rfl dX12_areAsSeen_19 ?_
          refine li_get hC hK ck_X12 hO 1 (by decide) fl_X12_9 rfl (v := .ref a1) hf dX12_areAsSeen_20 ?_
          refine li_bipush hC (z := 77) rfl dX12_areAsSeen_23 ?_
          refine li_iload_n hC hl 2 rfl dX12_areAsSeen_25 ?_
          refine li_iadd hC dX12_areAsSeen_26 ?_
          refine li_iald hC hK hA ⟨by omega, by omega⟩ (by decide) dX12_areAsSeen_27 ?_
          refine li_aload_n hC hl 0 rfl dX12_areAsSeen_28 ?_
          refine li_get hC hK ck_X12 hO 1 (by decide) fl_X12_9 rfl (v := .ref a1) hf dX12_areAsSeen_29 ?_
          refine li_bipush hC (z := 82) rfl dX12_areAsSeen_32 ?_
          refine li_iload_n hC hl 2 rfl dX12_areAsSeen_34 ?_
          refine li_iadd hC dX12_areAsSeen_35 ?_
          refine li_iald hC hK hA ⟨by omega, by omega⟩ (by decide) dX12_areAsSeen_36 ?_
          refine ro_callVi hC (c_X12_at l g h0 S (S (77 + k).toNat) (S (82 + k).toNat) (rg (by omega) (by omega)) (rg (by omega) (by omega)) hI) mk_X12_at ml_X12_270 (rr (by decide)) ⟨Nat.le_of_ble_eq_true rfl, Nat.le_of_ble_eq_true rfl⟩ hK hE hP (li_recv hK ck_X12 hO) rfl hl.1 rfl (Nat.le_of_ble_eq_true rfl) dX12_areAsSeen_37 ?_
          have q4 := atS_rng hI (S (77 + k).toNat) (S (82 + k).toNat)
          refine li_if_le (tgt := 47) hC (by decide) (rg (by omega) (by omega)) dX12_areAsSeen_40 (fun c5 => ?_) (fun c5 => ?_)
          · refine li_iconst hC dX12_areAsSeen_47 ?_
            refine li_aload_n hC hl 0 rfl dX12_areAsSeen_48 ?_
            refine li_get hC hK ck_X12 hO 1 (by decide) fl_X12_9 rfl (v := .ref a1) hf dX12_areAsSeen_49 ?_
            refine li_bipush hC (z := 87) rfl dX12_areAsSeen_52 ?_
            refine li_iload_n hC hl 2 rfl dX12_areAsSeen_54 ?_
            refine li_iadd hC dX12_areAsSeen_55 ?_
            refine li_iald hC hK hA ⟨by omega, by omega⟩ (by decide) dX12_areAsSeen_56 ?_
            refine li_iconst hC dX12_areAsSeen_57 ?_
            refine li_icmp_ne (tgt := 65) hC (by decide) (rg (by omega) (by omega)) (rg (by decide) (by decide)) dX12_areAsSeen_58 (fun c6 => ?_) (fun c6 => ?_)
            · refine li_iconst hC dX12_areAsSeen_65 ?_
              refine li_icmp_ne (tgt := 73) hC (by decide) (rg (by decide) (by decide)) (rg (by decide) (by decide)) dX12_areAsSeen_66 (fun c7 => ?_) (fun c7 => ?_)
              · refine li_iconst hC dX12_areAsSeen_73 ?_
                refine li_istore_n hC (lv' := [(1, .int (iI 0)), (0, .ref h0), (2, .int (iI k))]) hl (by decide) rfl dX12_areAsSeen_74 (fun ls hl => ?_)
                refine li_iinc hC (lv' := [(2, .int (iI (k + 1))), (1, .int (iI 0)), (0, .ref h0)]) hl 2 rfl (by decide) rfl dX12_areAsSeen_75 (fun ls hl => ?_)
                refine li_goto (tgt := 4) hC (by decide) dX12_areAsSeen_78 ?_
                exact ih (k + 1) 0 _ (lv_sub hl [2, 1, 0] rfl) (by omega) (by first | exact flagB_t (P := (fun k => (0 < atS S (S (77 + k).toNat) (S (82 + k).toNat)) ↔ S (87 + k).toNat = 1)) hk.1 hz (by assumption) (by constructor <;> intro <;> omega) | exact flagB_f (P := (fun k => (0 < atS S (S (77 + k).toNat) (S (82 + k).toNat)) ↔ S (87 + k).toNat = 1)) hk.1 (by intro h9; omega)) (by omega)
              · refine li_iconst hC dX12_areAsSeen_69 ?_
                refine li_goto (tgt := 74) hC (by decide) dX12_areAsSeen_70 ?_
                refine li_istore_n hC (lv' := [(1, .int (iI 1)), (0, .ref h0), (2, .int (iI k))]) hl (by decide) rfl dX12_areAsSeen_74 (fun ls hl => ?_)
                refine li_iinc hC (lv' := [(2, .int (iI (k + 1))), (1, .int (iI 1)), (0, .ref h0)]) hl 2 rfl (by decide) rfl dX12_areAsSeen_75 (fun ls hl => ?_)
                refine li_goto (tgt := 4) hC (by decide) dX12_areAsSeen_78 ?_
                exact ih (k + 1) 1 _ (lv_sub hl [2, 1, 0] rfl) (by omega) (by first | exact flagB_t (P := (fun k => (0 < atS S (S (77 + k).toNat) (S (82 + k).toNat)) ↔ S (87 + k).toNat = 1)) hk.1 hz (by assumption) (by constructor <;> intro <;> omega) | exact flagB_f (P := (fun k => (0 < atS S (S (77 + k).toNat) (S (82 + k).toNat)) ↔ S (87 + k).toNat = 1)) hk.1 (by intro h9; omega)) (by omega)
            · refine li_iconst hC dX12_areAsSeen_61 ?_
              refine li_goto (tgt := 66) hC (by decide) dX12_areAsSeen_62 ?_
              refine li_icmp_ne (tgt := 73) hC (by decide) (rg (by decide) (by decide)) (rg (by decide) (by decide)) dX12_areAsSeen_66 (fun c8 => ?_) (fun c8 => ?_)
              · refine li_iconst hC dX12_areAsSeen_73 ?_
                refine li_istore_n hC (lv' := [(1, .int (iI 0)), (0, .ref h0), (2, .int (iI k))]) hl (by decide) rfl dX12_areAsSeen_74 (fun ls hl => ?_)
                refine li_iinc hC (lv' := [(2, .int (iI (k + 1))), (1, .int (iI 0)), (0, .ref h0)]) hl 2 rfl (by decide) rfl dX12_areAsSeen_75 (fun ls hl => ?_)
                refine li_goto (tgt := 4) hC (by decide) dX12_areAsSeen_78 ?_
                exact ih (k + 1) 0 _ (lv_sub hl [2, 1, 0] rfl) (by omega) (by first | exact flagB_t (P := (fun k => (0 < atS S (S (77 + k).toNat) (S (82 + k).toNat)) ↔ S (87 + k).toNat = 1)) hk.1 hz (by assumption) (by constructor <;> intro <;> omega) | exact flagB_f (P := (fun k => (0 < atS S (S (77 + k).toNat) (S (82 + k).toNat)) ↔ S (87 + k).toNat = 1)) hk.1 (by intro h9; omega)) (by omega)
              · refine li_iconst hC dX12_areAsSeen_69 ?_
                refine li_goto (tgt := 74) hC (by decide) dX12_areAsSeen_70 ?_
                refine li_istore_n hC (lv' := [(1, .int (iI 1)), (0, .ref h0), (2, .int (iI k))]) hl (by decide) rfl dX12_areAsSeen_74 (fun ls hl => ?_)
                refine li_iinc hC (lv' := [(2, .int (iI (k + 1))), (1, .int (iI 1)), (0, .ref h0)]) hl 2 rfl (by decide) rfl dX12_areAsSeen_75 (fun ls hl => ?_)
                refine li_goto (tgt := 4) hC (by decide) dX12_areAsSeen_78 ?_
                exact ih (k + 1) 1 _ (lv_sub hl [2, 1, 0] rfl) (by omega) (by first | exact flagB_t (P := (fun k => (0 < atS S (S (77 + k).toNat) (S (82 + k).toNat)) ↔ S (87 + k).toNat = 1)) hk.1 hz (by assumption) (by constructor <;> intro <;> omega) | exact flagB_f (P := (fun k => (0 < atS S (S (77 + k).toNat) (S (82 + k).toNat)) ↔ S (87 + k).toNat = 1)) hk.1 (by intro h9; omega)) (by omega)
          · refine li_iconst hC dX12_areAsSeen_43 ?_
            refine li_goto (tgt := 48) hC (by decide) dX12_areAsSeen_44 ?_
            refine li_aload_n hC hl 0 rfl dX12_areAsSeen_48 ?_
            refine li_get hC hK ck_X12 hO 1 (by decide) fl_X12_9 rfl (v := .ref a1) hf dX12_areAsSeen_49 ?_
            refine li_bipush hC (z := 87) rfl dX12_areAsSeen_52 ?_
            refine li_iload_n hC hl 2 rfl dX12_areAsSeen_54 ?_
            refine li_iadd hC dX12_areAsSeen_55 ?_
            refine li_iald hC hK hA ⟨by omega, by omega⟩ (by decide) dX12_areAsSeen_56 ?_
            refine li_iconst hC dX12_areAsSeen_57 ?_
            refine li_icmp_ne (tgt := 65) hC (by decide) (rg (by omega) (by omega)) (rg (by decide) (by decide)) dX12_areAsSeen_58 (fun c9 => ?_) (fun c9 => ?_)
            · refine li_iconst hC dX12_areAsSeen_65 ?_
              refine li_icmp_ne (tgt := 73) hC (by decide) (rg (by decide) (by decide)) (rg (by decide) (by decide)) dX12_areAsSeen_66 (fun c10 => ?_) (fun c10 => ?_)
              · refine li_iconst hC dX12_areAsSeen_73 ?_
                refine li_istore_n hC (lv' := [(1, .int (iI 0)), (0, .ref h0), (2, .int (iI k))]) hl (by decide) rfl dX12_areAsSeen_74 (fun ls hl => ?_)
                refine li_iinc hC (lv' := [(2, .int (iI (k + 1))), (1, .int (iI 0)), (0, .ref h0)]) hl 2 rfl (by decide) rfl dX12_areAsSeen_75 (fun ls hl => ?_)
                refine li_goto (tgt := 4) hC (by decide) dX12_areAsSeen_78 ?_
                exact ih (k + 1) 0 _ (lv_sub hl [2, 1, 0] rfl) (by omega) (by first | exact flagB_t (P := (fun k => (0 < atS S (S (77 + k).toNat) (S (82 + k).toNat)) ↔ S (87 + k).toNat = 1)) hk.1 hz (by assumption) (by constructor <;> intro <;> omega) | exact flagB_f (P := (fun k => (0 < atS S (S (77 + k).toNat) (S (82 + k).toNat)) ↔ S (87 + k).toNat = 1)) hk.1 (by intro h9; omega)) (by omega)
              · refine li_iconst hC dX12_areAsSeen_69 ?_
                refine li_goto (tgt := 74) hC (by decide) dX12_areAsSeen_70 ?_
                refine li_istore_n hC (lv' := [(1, .int (iI 1)), (0, .ref h0), (2, .int (iI k))]) hl (by decide) rfl dX12_areAsSeen_74 (fun ls hl => ?_)
                refine li_iinc hC (lv' := [(2, .int (iI (k + 1))), (1, .int (iI 1)), (0, .ref h0)]) hl 2 rfl (by decide) rfl dX12_areAsSeen_75 (fun ls hl => ?_)
                refine li_goto (tgt := 4) hC (by decide) dX12_areAsSeen_78 ?_
                exact ih (k + 1) 1 _ (lv_sub hl [2, 1, 0] rfl) (by omega) (by first | exact flagB_t (P := (fun k => (0 < atS S (S (77 + k).toNat) (S (82 + k).toNat)) ↔ S (87 + k).toNat = 1)) hk.1 hz (by assumption) (by constructor <;> intro <;> omega) | exact flagB_f (P := (fun k => (0 < atS S (S (77 + k).toNat) (S (82 + k).toNat)) ↔ S (87 + k).toNat = 1)) hk.1 (by intro h9; omega)) (by omega)
            · refine li_iconst hC dX12_areAsSeen_61 ?_
              refine li_goto (tgt := 66) hC (by decide) dX12_areAsSeen_62 ?_
              refine li_icmp_ne (tgt := 73) hC (by decide) (rg (by decide) (by decide)) (rg (by decide) (by decide)) dX12_areAsSeen_66 (fun c11 => ?_) (fun c11 => ?_)
              · refine li_iconst hC dX12_areAsSeen_73 ?_
                refine li_istore_n hC (lv' := [(1, .int (iI 0)), (0, .ref h0), (2, .int (iI k))]) hl (by decide) rfl dX12_areAsSeen_74 (fun ls hl => ?_)
                refine li_iinc hC (lv' := [(2, .int (iI (k + 1))), (1, .int (iI 0)), (0, .ref h0)]) hl 2 rfl (by decide) rfl dX12_areAsSeen_75 (fun ls hl => ?_)
                refine li_goto (tgt := 4) hC (by decide) dX12_areAsSeen_78 ?_
                exact ih (k + 1) 0 _ (lv_sub hl [2, 1, 0] rfl) (by omega) (by first | exact flagB_t (P := (fun k => (0 < atS S (S (77 + k).toNat) (S (82 + k).toNat)) ↔ S (87 + k).toNat = 1)) hk.1 hz (by assumption) (by constructor <;> intro <;> omega) | exact flagB_f (P := (fun k => (0 < atS S (S (77 + k).toNat) (S (82 + k).toNat)) ↔ S (87 + k).toNat = 1)) hk.1 (by intro h9; omega)) (by omega)
              · refine li_iconst hC dX12_areAsSeen_69 ?_
                refine li_goto (tgt := 74) hC (by decide) dX12_areAsSeen_70 ?_
                refine li_istore_n hC (lv' := [(1, .int (iI 1)), (0, .ref h0), (2, .int (iI k))]) hl (by decide) rfl dX12_areAsSeen_74 (fun ls hl => ?_)
                refine li_iinc hC (lv' := [(2, .int (iI (k + 1))), (1, .int (iI 1)), (0, .ref h0)]) hl 2 rfl (by decide) rfl dX12_areAsSeen_75 (fun ls hl => ?_)
                refine li_goto (tgt := 4) hC (by decide) dX12_areAsSeen_78 ?_
                exact ih (k + 1) 1 _ (lv_sub hl [2, 1, 0] rfl) (by omega) (by first | exact flagB_t (P := (fun k => (0 < atS S (S (77 + k).toNat) (S (82 + k).toNat)) ↔ S (87 + k).toNat = 1)) hk.1 hz (by assumption) (by constructor <;> intro <;> omega) | exact flagB_f (P := (fun k => (0 < atS S (S (77 + k).toNat) (S (82 + k).toNat)) ↔ S (87 + k).toNat = 1)) hk.1 (by intro h9; omega)) (by omega)
  exact L4_1 (((S 2 - 0).toNat) + 1) 0 1 _ (lv_sub hl [2, 1, 0] rfl) (by omega) (by exact (b2_t (allB_0 _)).symm) (by omega)
