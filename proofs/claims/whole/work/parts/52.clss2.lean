set_option maxHeartbeats 4000000 in
set_option maxRecDepth 100000 in
theorem c_X11_hasBit (l : Launch) (g : GG) (x : Int) (k : Int) : MroZ l g yX11_hasBit cX11_hasBit 2 1 [.int (iI x), .int (iI k)] (fun _ => True) (iI (b2 (iand (ishr x k) 1 ≠ 0))) := by
  refine ro_startZ (own := RX11) (by decide) rfl (Nat.le_of_ble_eq_true rfl) ?_
  intro Pg Ev s Mi args below Mt Cd ls Q hC hK hE hP hl hQ
  have hl : lv_has ls 2 [(0, .int (iI x)), (1, .int (iI k))] := hl
  refine li_iload_n hC hl 0 rfl dX11_hasBit_0 ?_
  refine li_iload_n hC hl 1 rfl dX11_hasBit_1 ?_
  refine li_ishr hC dX11_hasBit_2 ?_
  refine li_iconst hC dX11_hasBit_3 ?_
  refine li_iand hC dX11_hasBit_4 ?_
  refine li_if_eq (tgt := 12) hC (by decide) (rng_of _) dX11_hasBit_5 (fun c1 => ?_) (fun c1 => ?_)
  · refine li_iconst hC dX11_hasBit_12 ?_
    exact hQ _ _ _ dX11_hasBit_13 (Or.inl rfl) (iI_inj ((b2_f (by omega)).symm))
  · refine li_iconst hC dX11_hasBit_8 ?_
    refine li_goto (tgt := 13) hC (by decide) dX11_hasBit_9 ?_
    exact hQ _ _ _ dX11_hasBit_13 (Or.inr rfl) (iI_inj ((b2_t (by omega)).symm))
set_option maxHeartbeats 4000000 in
set_option maxRecDepth 100000 in
theorem c_X11_isPlace (l : Launch) (g : GG) (p : Int) (hp : rng p) : MroZ l g yX11_isPlace cX11_isPlace 1 1 [.int (iI p)] (fun _ => True) (iI (b2 (0 ≤ p ∧ p < 4))) := by
  refine ro_startZ (own := RX11) (by decide) rfl (Nat.le_of_ble_eq_true rfl) ?_
  intro Pg Ev s Mi args below Mt Cd ls Q hC hK hE hP hl hQ
  have hl : lv_has ls 1 [(0, .int (iI p))] := hl
  refine li_iload_n hC hl 0 rfl dX11_isPlace_0 ?_
  refine li_if_lt (tgt := 13) hC (by decide) hp dX11_isPlace_1 (fun c1 => ?_) (fun c1 => ?_)
  · refine li_iconst hC dX11_isPlace_13 ?_
    exact hQ _ _ _ dX11_isPlace_14 (Or.inl rfl) (iI_inj ((b2_f (by omega)).symm))
  · refine li_iload_n hC hl 0 rfl dX11_isPlace_4 ?_
    refine li_iconst hC dX11_isPlace_5 ?_
    refine li_icmp_ge (tgt := 13) hC (by decide) hp (rg (by decide) (by decide)) dX11_isPlace_6 (fun c2 => ?_) (fun c2 => ?_)
    · refine li_iconst hC dX11_isPlace_13 ?_
      exact hQ _ _ _ dX11_isPlace_14 (Or.inl rfl) (iI_inj ((b2_f (by omega)).symm))
    · refine li_iconst hC dX11_isPlace_9 ?_
      refine li_goto (tgt := 14) hC (by decide) dX11_isPlace_10 ?_
      exact hQ _ _ _ dX11_isPlace_14 (Or.inr rfl) (iI_inj ((b2_t (by omega)).symm))
set_option maxHeartbeats 4000000 in
set_option maxRecDepth 100000 in
theorem c_X11_isSpot (l : Launch) (g : GG) (c : Int) (r : Int) (hc : rng c) (hr : rng r) : MroZ l g yX11_isSpot cX11_isSpot 2 1 [.int (iI c), .int (iI r)] (fun _ => True) (iI (b2 ((0 ≤ c ∧ c < 30) ∧ (0 ≤ r ∧ r < 12)))) := by
  refine ro_startZ (own := RX11) (by decide) rfl (Nat.le_of_ble_eq_true rfl) ?_
  intro Pg Ev s Mi args below Mt Cd ls Q hC hK hE hP hl hQ
  have hl : lv_has ls 2 [(0, .int (iI c)), (1, .int (iI r))] := hl
  refine li_iload_n hC hl 0 rfl dX11_isSpot_0 ?_
  refine li_if_lt (tgt := 24) hC (by decide) hc dX11_isSpot_1 (fun c1 => ?_) (fun c1 => ?_)
  · refine li_iconst hC dX11_isSpot_24 ?_
    exact hQ _ _ _ dX11_isSpot_25 (Or.inl rfl) (iI_inj ((b2_f (by omega)).symm))
  · refine li_iload_n hC hl 0 rfl dX11_isSpot_4 ?_
    refine li_bipush hC (z := 30) rfl dX11_isSpot_5 ?_
    refine li_icmp_ge (tgt := 24) hC (by decide) hc (rg (by decide) (by decide)) dX11_isSpot_7 (fun c2 => ?_) (fun c2 => ?_)
    · refine li_iconst hC dX11_isSpot_24 ?_
      exact hQ _ _ _ dX11_isSpot_25 (Or.inl rfl) (iI_inj ((b2_f (by omega)).symm))
    · refine li_iload_n hC hl 1 rfl dX11_isSpot_10 ?_
      refine li_if_lt (tgt := 24) hC (by decide) hr dX11_isSpot_11 (fun c3 => ?_) (fun c3 => ?_)
      · refine li_iconst hC dX11_isSpot_24 ?_
        exact hQ _ _ _ dX11_isSpot_25 (Or.inl rfl) (iI_inj ((b2_f (by omega)).symm))
      · refine li_iload_n hC hl 1 rfl dX11_isSpot_14 ?_
        refine li_bipush hC (z := 12) rfl dX11_isSpot_15 ?_
        refine li_icmp_ge (tgt := 24) hC (by decide) hr (rg (by decide) (by decide)) dX11_isSpot_17 (fun c4 => ?_) (fun c4 => ?_)
        · refine li_iconst hC dX11_isSpot_24 ?_
          exact hQ _ _ _ dX11_isSpot_25 (Or.inl rfl) (iI_inj ((b2_f (by omega)).symm))
        · refine li_iconst hC dX11_isSpot_20 ?_
          refine li_goto (tgt := 25) hC (by decide) dX11_isSpot_21 ?_
          exact hQ _ _ _ dX11_isSpot_25 (Or.inr rfl) (iI_inj ((b2_t (by omega)).symm))
set_option maxHeartbeats 4000000 in
set_option maxRecDepth 100000 in
theorem c_X11_outward (l : Launch) (g : GG) (p : Int) (hp : rng p) : MroI l g yX11_outward cX11_outward 1 1 [.int (iI p)] (fun _ => True) (iI (orN p)) := by
  refine ro_startI (own := RX11) (by decide) rfl (Nat.le_of_ble_eq_true rfl) ?_
  intro Pg Ev s Mi args below Mt Cd ls Q hC hK hE hP hl hQ
  have hl : lv_has ls 1 [(0, .int (iI p))] := hl
  refine li_iload_n hC hl 0 rfl dX11_outward_0 ?_
  refine li_iconst hC dX11_outward_1 ?_
  refine li_icmp_ne (tgt := 10) hC (by decide) hp (rg (by decide) (by decide)) dX11_outward_2 (fun c1 => ?_) (fun c1 => ?_)
  · refine li_iload_n hC hl 0 rfl dX11_outward_10 ?_
    exact hQ _ _ _ dX11_outward_11 (iI_inj (by unfold orN; split <;> omega))
  · refine li_bipush hC (z := -5) rfl dX11_outward_5 ?_
    refine li_goto (tgt := 11) hC (by decide) dX11_outward_7 ?_
    exact hQ _ _ _ dX11_outward_11 (iI_inj (by unfold orN; split <;> omega))
set_option maxHeartbeats 4000000 in
set_option maxRecDepth 100000 in
theorem c_X8_shared (l : Launch) (g : GG) (ad : Nat → Nat) (F : Nat → Int) (A : Nat → Nat → Int) (E : Nat → Nat) (tl : va_W) (S : Nat → Int) (nm : Nat → Nat) (hSh : ShW g ad F A E tl S nm) (hI : InvD S) (i : Int) (p : Int) (j : Int) (q : Int) (hin : 0 ≤ i ∧ i < S 0) (hp : 0 ≤ p ∧ p ≤ 3) (hjn : 0 ≤ j ∧ j < S 0) (hq : 0 ≤ q ∧ q ≤ 3) : MroI l g yX8_shared cX8_shared 7 6 [.ref (ad 3), .int (iI i), .int (iI p), .int (iI j), .int (iI q)] (fun H => va_P g.1 vwCl (CW g ad F A E tl) H) (iI (bothS S i p j q)) := by
  refine ro_startI (own := RX8) (by decide) rfl (Nat.le_of_ble_eq_true rfl) ?_
  intro Pg Ev s Mi args below Mt Cd ls Q hC hK hE hP hl hQ
  have hSh0 := hSh
  obtain ⟨hTp, hCd, hNs, hWh, hRw, hSn, hPl, hBk, hMp⟩ := hSh0
  have hNm := hNs.2.2
  have hD0 := hI.1
  have hNs0 := hNs.1
  have hl : lv_has ls 7 [(0, .ref (ad 3)), (1, .int (iI i)), (2, .int (iI p)), (3, .int (iI j)), (4, .int (iI q))] := hl
  refine li_aload_n hC hl 0 rfl dX8_shared_0 ?_
  refine li_iload_n hC hl 1 rfl dX8_shared_1 ?_
  refine ro_callVq hC (c_X8_name l g ad F A E tl S nm hSh hI i (rg (by omega) (by omega))) mk_X8_name ml_X8_91 (rr (by decide)) ⟨Nat.zero_le _, Nat.zero_le _⟩ hK hE hP (li_recv hK ck_X8 (hP 3 _ rfl)) rfl hl.1 rfl (Nat.le_of_ble_eq_true rfl) dX8_shared_2 ?_
  rw [iteP_t (by omega), show va_rf (some (nm i.toNat)) = .ref (nm i.toNat) from rfl]
  have q2 := hI.2 i (by omega) (by omega)
  refine li_astore hC (lv' := [(5, .ref (nm i.toNat)), (0, .ref (ad 3)), (1, .int (iI i)), (2, .int (iI p)), (3, .int (iI j)), (4, .int (iI q))]) hl (by decide) rfl dX8_shared_5 (fun ls hl => ?_)
  refine li_aload_n hC hl 1 rfl dX8_shared_7 ?_
  refine li_iload_n hC hl 4 rfl dX8_shared_8 ?_
  refine ro_callVq hC (c_X8_name l g ad F A E tl S nm hSh hI j (rg (by omega) (by omega))) mk_X8_name ml_X8_91 (rr (by decide)) ⟨Nat.zero_le _, Nat.zero_le _⟩ hK hE hP (li_recv hK ck_X8 (hP 3 _ rfl)) rfl hl.1 rfl (Nat.le_of_ble_eq_true rfl) dX8_shared_9 ?_
  rw [iteP_t (by omega), show va_rf (some (nm j.toNat)) = .ref (nm j.toNat) from rfl]
  have q4 := hI.2 j (by omega) (by omega)
  refine li_astore hC (lv' := [(6, .ref (nm j.toNat)), (5, .ref (nm i.toNat)), (0, .ref (ad 3)), (1, .int (iI i)), (2, .int (iI p)), (3, .int (iI j)), (4, .int (iI q))]) hl (by decide) rfl dX8_shared_12 (fun ls hl => ?_)
  refine li_aload hC hl 1 rfl dX8_shared_14 ?_
  refine li_ifnull hC dX8_shared_16 ?_
  refine li_aload hC hl 0 rfl dX8_shared_19 ?_
  refine li_ifnull hC dX8_shared_21 ?_
  refine li_aload hC hl 1 rfl dX8_shared_24 ?_
  refine li_iload_n hC hl 4 rfl dX8_shared_26 ?_
  refine v_lineAt hC hK hE (nm_at hP hNm hI (i := i) (by omega)) (p0 := p) (by omega) (by omega) ml_X8_116 (rr (by decide)) ⟨Nat.zero_le _, Nat.zero_le _⟩ hl.1 rfl (Nat.le_of_ble_eq_true rfl) dX8_shared_27 ?_
  have q5 : -1 ≤ lineN (S (35 + i).toNat) p ∧ lineN (S (35 + i).toNat) p ≤ 12 := by unfold lineN; (repeat' split) <;> omega
  refine li_aload hC hl 0 rfl dX8_shared_30 ?_
  refine li_iload hC hl 6 rfl dX8_shared_32 ?_
  refine v_lineAt hC hK hE (nm_at hP hNm hI (i := j) (by omega)) (p0 := q) (by omega) (by omega) ml_X8_116 (rr (by decide)) ⟨Nat.zero_le _, Nat.zero_le _⟩ hl.1 rfl (Nat.le_of_ble_eq_true rfl) dX8_shared_34 ?_
  have q6 : -1 ≤ lineN (S (35 + j).toNat) q ∧ lineN (S (35 + j).toNat) q ≤ 12 := by unfold lineN; (repeat' split) <;> omega
  refine li_icmp_eq (tgt := 42) hC (by decide) (rg (by omega) (by omega)) (rg (by omega) (by omega)) dX8_shared_37 (fun c7 => ?_) (fun c7 => ?_)
  · refine li_aload hC hl 1 rfl dX8_shared_42 ?_
    refine li_iload_n hC hl 4 rfl dX8_shared_44 ?_
    refine li_aload hC hl 1 rfl dX8_shared_45 ?_
    refine li_getN2 hC hK (nm_at hP hNm hI (i := i) (by omega)) fl_X8_119 dX8_shared_47 ?_
    refine v_cells hC hK hE (nm_at hP hNm hI (i := i) (by omega)) (p0 := p) (z := S (14 + i).toNat) (by omega) (by omega) (by omega) (by omega) ml_X8_122 (rr (by decide)) ⟨Nat.zero_le _, Nat.zero_le _⟩ hl.1 rfl (Nat.le_of_ble_eq_true rfl) dX8_shared_50 ?_
    have q8 := lenK_rng (k := S (7 + i).toNat) (v := S (14 + i).toNat) (l := S (21 + i).toNat) (by omega) (by omega)
    have q9 : -14 ≤ startN (S (28 + i).toNat) p (lenK (S (7 + i).toNat) (S (14 + i).toNat) (S (21 + i).toNat)) ∧ startN (S (28 + i).toNat) p (lenK (S (7 + i).toNat) (S (14 + i).toNat) (S (21 + i).toNat)) ≤ 30 := by unfold startN; (repeat' split) <;> omega
    refine li_aload hC hl 0 rfl dX8_shared_53 ?_
    refine li_iload hC hl 6 rfl dX8_shared_55 ?_
    refine li_aload hC hl 0 rfl dX8_shared_57 ?_
    refine li_getN2 hC hK (nm_at hP hNm hI (i := j) (by omega)) fl_X8_119 dX8_shared_59 ?_
    refine v_cells hC hK hE (nm_at hP hNm hI (i := j) (by omega)) (p0 := q) (z := S (14 + j).toNat) (by omega) (by omega) (by omega) (by omega) ml_X8_122 (rr (by decide)) ⟨Nat.zero_le _, Nat.zero_le _⟩ hl.1 rfl (Nat.le_of_ble_eq_true rfl) dX8_shared_62 ?_
    have q10 := lenK_rng (k := S (7 + j).toNat) (v := S (14 + j).toNat) (l := S (21 + j).toNat) (by omega) (by omega)
    have q11 : -14 ≤ startN (S (28 + j).toNat) q (lenK (S (7 + j).toNat) (S (14 + j).toNat) (S (21 + j).toNat)) ∧ startN (S (28 + j).toNat) q (lenK (S (7 + j).toNat) (S (14 + j).toNat) (S (21 + j).toNat)) ≤ 30 := by unfold startN; (repeat' split) <;> omega
    refine li_land hC dX8_shared_65 ?_
    rw [msk_and (a := startN (S (28 + i).toNat) p (lenK (S (7 + i).toNat) (S (14 + i).toNat) (S (21 + i).toNat)) - (-14)) (n := lenK (S (7 + i).toNat) (S (14 + i).toNat) (S (21 + i).toNat)) (b := startN (S (28 + j).toNat) q (lenK (S (7 + j).toNat) (S (14 + j).toNat) (S (21 + j).toNat)) - (-14)) (m := lenK (S (7 + j).toNat) (S (14 + j).toNat) (S (21 + j).toNat)) (by omega) (by omega) (by omega) (by omega)]
    have hov : 0 ≤ ovl (startN (S (28 + i).toNat) p (lenK (S (7 + i).toNat) (S (14 + i).toNat) (S (21 + i).toNat)) - (-14)) (lenK (S (7 + i).toNat) (S (14 + i).toNat) (S (21 + i).toNat)) (startN (S (28 + j).toNat) q (lenK (S (7 + j).toNat) (S (14 + j).toNat) (S (21 + j).toNat)) - (-14)) (lenK (S (7 + j).toNat) (S (14 + j).toNat) (S (21 + j).toNat)) ∧ ovl (startN (S (28 + i).toNat) p (lenK (S (7 + i).toNat) (S (14 + i).toNat) (S (21 + i).toNat)) - (-14)) (lenK (S (7 + i).toNat) (S (14 + i).toNat) (S (21 + i).toNat)) (startN (S (28 + j).toNat) q (lenK (S (7 + j).toNat) (S (14 + j).toNat) (S (21 + j).toNat)) - (-14)) (lenK (S (7 + j).toNat) (S (14 + j).toNat) (S (21 + j).toNat)) ≤ 14 := by unfold ovl; (repeat' split) <;> omega
    refine ro_callSi hC (c_J13_bitCount_95d88 l g (if startN (S (28 + i).toNat) p (lenK (S (7 + i).toNat) (S (14 + i).toNat) (S (21 + i).toNat)) - (-14) < startN (S (28 + j).toNat) q (lenK (S (7 + j).toNat) (S (14 + j).toNat) (S (21 + j).toNat)) - (-14) then startN (S (28 + j).toNat) q (lenK (S (7 + j).toNat) (S (14 + j).toNat) (S (21 + j).toNat)) - (-14) else startN (S (28 + i).toNat) p (lenK (S (7 + i).toNat) (S (14 + i).toNat) (S (21 + i).toNat)) - (-14)) (ovl (startN (S (28 + i).toNat) p (lenK (S (7 + i).toNat) (S (14 + i).toNat) (S (21 + i).toNat)) - (-14)) (lenK (S (7 + i).toNat) (S (14 + i).toNat) (S (21 + i).toNat)) (startN (S (28 + j).toNat) q (lenK (S (7 + j).toNat) (S (14 + j).toNat) (S (21 + j).toNat)) - (-14)) (lenK (S (7 + j).toNat) (S (14 + j).toNat) (S (21 + j).toNat))) (by split <;> omega) hov) mk_J13_bitCount_95d88 ml_X8_148 (rr (by decide)) ⟨Nat.zero_le _, Nat.zero_le _⟩ hK hE trivial rfl hl.1 rfl (Nat.le_of_ble_eq_true rfl) dX8_shared_66 ?_
    exact hQ _ _ _ dX8_shared_69 (iI_inj (by rw [both_ovl hI hin hjn (by omega) (by rw [← line_eq, ← line_eq]; omega), ← first_eq, ← first_eq]; rfl))
  · refine li_iconst hC dX8_shared_40 ?_
    exact hQ _ _ _ dX8_shared_41 (iI_inj (by unfold bothS; rw [if_neg (by rw [← line_eq, ← line_eq]; omega)]))
set_option maxHeartbeats 4000000 in
set_option maxRecDepth 100000 in
theorem c_X8_isClashing (l : Launch) (g : GG) (ad : Nat → Nat) (F : Nat → Int) (A : Nat → Nat → Int) (E : Nat → Nat) (tl : va_W) (S : Nat → Int) (nm : Nat → Nat) (hSh : ShW g ad F A E tl S nm) (hI : InvD S) (i : Int) (p : Int) (ri : Nat) (w : Int → Int) (hri : ri = 9 ∨ ri = 19) (hw : ∀ k : Int, 0 ≤ k → k < S 0 → A (ri + 1) k.toNat = w k) (hwr : ∀ k : Int, 0 ≤ k → k < S 0 → 0 ≤ w k ∧ w k ≤ 4) (hin : 0 ≤ i ∧ i < S 0) (hp : 0 ≤ p ∧ p ≤ 3) : MroZ l g yX8_isClashing cX8_isClashing 6 7 [.ref (ad 3), .int (iI i), .int (iI p), .ref (ad ri)] (fun H => va_P g.1 vwCl (CW g ad F A E tl) H) (iI (b2 (exB (fun k => ¬ (k = i ∨ w k = 4 ∨ bothS S i p k (w k) = 0)) (S 0)))) := by
  refine ro_startZ (own := RX8) (by decide) rfl (Nat.le_of_ble_eq_true rfl) ?_
  intro Pg Ev s Mi args below Mt Cd ls Q hC hK hE hP hl hQ
  have hSh0 := hSh
  obtain ⟨hTp, hCd, hNs, hWh, hRw, hSn, hPl, hBk, hMp⟩ := hSh0
  have hNm := hNs.2.2
  have hD0 := hI.1
  have hNs0 := hNs.1
  have hl : lv_has ls 6 [(0, .ref (ad 3)), (1, .int (iI i)), (2, .int (iI p)), (3, .ref (ad ri))] := hl
  refine li_iconst hC dX8_isClashing_0 ?_
  refine li_istore hC (lv' := [(4, .int (iI 0)), (0, .ref (ad 3)), (1, .int (iI i)), (2, .int (iI p)), (3, .ref (ad ri))]) hl (by decide) rfl dX8_isClashing_1 (fun ls hl => ?_)
  have L3_1 : ∀ (fuel : Nat) (k : Int) (ls : Array Slot), lv_has ls 6 [(0, .ref (ad 3)), (1, .int (iI i)), (2, .int (iI p)), (3, .ref (ad ri)), (4, .int (iI k))] → (0 ≤ k ∧ k ≤ S 0) → (¬ exB (fun k => ¬ (k = i ∨ w k = 4 ∨ bothS S i p k (w k) = 0)) k) → ((S 0 - k).toNat) < fuel → W Pg l Ev (rmC 7 0 0) s Mi args below Mt Cd s.heap [] 0 0 Q (F0 Mi 3 ls []) := by
    intro fuel
    induction fuel with
    | zero => intro k ls hl hk hz hm; exact absurd hm (Nat.not_lt_zero _)
    | succ fuel ih3 =>
      intro k ls hl hk hz hm
      refine li_iload hC hl 4 rfl dX8_isClashing_3 ?_
      refine li_aload_n hC hl 0 rfl dX8_isClashing_5 ?_
      refine ro_callVi hC (c_X8_dots l g ad F A E tl S nm hSh hI) mk_X8_dots ml_X8_88 (rr (by decide)) ⟨Nat.le_of_ble_eq_true rfl, Nat.le_of_ble_eq_true rfl⟩ hK hE hP (li_recv hK ck_X8 (hP 3 _ rfl)) rfl hl.1 rfl (Nat.le_of_ble_eq_true rfl) dX8_isClashing_6 ?_
      refine li_icmp_ge (tgt := 53) hC (by decide) (rg (by omega) (by omega)) (rg (by omega) (by omega)) dX8_isClashing_9 (fun c2 => ?_) (fun c2 => ?_)
      · refine li_iconst hC dX8_isClashing_53 ?_
        exact hQ _ _ _ dX8_isClashing_54 (Or.inl rfl) (iI_inj ((b2_f (by rw [show S 0 = k by omega]; exact hz)).symm))
      · refine li_aload_n hC hl 3 rfl dX8_isClashing_12 ?_
        refine li_iload hC hl 4 rfl dX8_isClashing_13 ?_
        refine ro_callVi hC (c_X6_get l g (ws := CW g ad F A E tl) (i := ri) (j := (ri + 1)) (a := (ad ri)) (b := (ad (ri + 1))) (n := 7) (f := (A (ri + 1))) (sz := F ri) (row_i hri) (row_j hri) (Nat.le_of_ble_eq_true rfl) (k := k) ⟨by omega, by omega⟩) mk_X6_get ml_X8_101 (rr (by decide)) ⟨Nat.zero_le _, Nat.zero_le _⟩ hK hE hP (li_recv hK ck_X6 (hP ri _ (row_i hri))) rfl hl.1 rfl (Nat.le_of_ble_eq_true rfl) dX8_isClashing_15 ?_
        rw [hw k (by omega) (by omega)]
        have q3 := hwr k (by omega) (by omega)
        refine li_istore hC (lv' := [(5, .int (iI (w k))), (0, .ref (ad 3)), (1, .int (iI i)), (2, .int (iI p)), (3, .ref (ad ri)), (4, .int (iI k))]) hl (by decide) rfl dX8_isClashing_18 (fun ls hl => ?_)
        refine li_iload hC hl 5 rfl dX8_isClashing_20 ?_
        refine li_iload_n hC hl 2 rfl dX8_isClashing_22 ?_
        refine li_icmp_eq (tgt := 47) hC (by decide) (rg (by omega) (by omega)) (rg (by omega) (by omega)) dX8_isClashing_23 (fun c4 => ?_) (fun c4 => ?_)
        · refine li_iinc hC (lv' := [(4, .int (iI (k + 1))), (5, .int (iI (w k))), (0, .ref (ad 3)), (1, .int (iI i)), (2, .int (iI p)), (3, .ref (ad ri))]) hl 5 rfl (by decide) rfl dX8_isClashing_47 (fun ls hl => ?_)
          refine li_goto (tgt := 3) hC (by decide) dX8_isClashing_50 ?_
          exact ih3 (k + 1) _ (lv_sub hl [2, 3, 4, 5, 0] rfl) (by omega) (by exact fun h9 => ((exB_s (P := (fun k => ¬ (k = i ∨ w k = 4 ∨ bothS S i p k (w k) = 0))) hk.1).mp h9).elim hz (fun h8 => h8 (by omega))) (by omega)
        · refine li_iload hC hl 0 rfl dX8_isClashing_26 ?_
          refine li_iconst hC dX8_isClashing_28 ?_
          refine li_icmp_eq (tgt := 47) hC (by decide) (rg (by omega) (by omega)) (rg (by decide) (by decide)) dX8_isClashing_29 (fun c5 => ?_) (fun c5 => ?_)
          · refine li_iinc hC (lv' := [(4, .int (iI (k + 1))), (5, .int (iI (w k))), (0, .ref (ad 3)), (1, .int (iI i)), (2, .int (iI p)), (3, .ref (ad ri))]) hl 5 rfl (by decide) rfl dX8_isClashing_47 (fun ls hl => ?_)
            refine li_goto (tgt := 3) hC (by decide) dX8_isClashing_50 ?_
            exact ih3 (k + 1) _ (lv_sub hl [2, 3, 4, 5, 0] rfl) (by omega) (by exact fun h9 => ((exB_s (P := (fun k => ¬ (k = i ∨ w k = 4 ∨ bothS S i p k (w k) = 0))) hk.1).mp h9).elim hz (fun h8 => h8 (by omega))) (by omega)
          · refine li_aload_n hC hl 1 rfl dX8_isClashing_32 ?_
            refine li_iload_n hC hl 2 rfl dX8_isClashing_33 ?_
            refine li_iload_n hC hl 3 rfl dX8_isClashing_34 ?_
            refine li_iload hC hl 5 rfl dX8_isClashing_35 ?_
            refine li_iload hC hl 0 rfl dX8_isClashing_37 ?_
            refine ro_callVi hC (c_X8_shared l g ad F A E tl S nm hSh hI i p k (w k) (by omega) (by omega) (by omega) (by omega)) mk_X8_shared ml_X8_144 (rr (by decide)) ⟨Nat.le_of_ble_eq_true rfl, Nat.le_of_ble_eq_true rfl⟩ hK hE hP (li_recv hK ck_X8 (hP 3 _ rfl)) rfl hl.1 rfl (Nat.le_of_ble_eq_true rfl) dX8_isClashing_39 ?_
            have q6 := bothS_rng hI (a := i) (p := p) (b := k) (q := w k) (by omega)
            refine li_if_le (tgt := 47) hC (by decide) (rg (by omega) (by omega)) dX8_isClashing_42 (fun c7 => ?_) (fun c7 => ?_)
            · refine li_iinc hC (lv' := [(4, .int (iI (k + 1))), (5, .int (iI (w k))), (0, .ref (ad 3)), (1, .int (iI i)), (2, .int (iI p)), (3, .ref (ad ri))]) hl 5 rfl (by decide) rfl dX8_isClashing_47 (fun ls hl => ?_)
              refine li_goto (tgt := 3) hC (by decide) dX8_isClashing_50 ?_
              exact ih3 (k + 1) _ (lv_sub hl [2, 3, 4, 5, 0] rfl) (by omega) (by exact fun h9 => ((exB_s (P := (fun k => ¬ (k = i ∨ w k = 4 ∨ bothS S i p k (w k) = 0))) hk.1).mp h9).elim hz (fun h8 => h8 (by omega))) (by omega)
            · refine li_iconst hC dX8_isClashing_45 ?_
              exact hQ _ _ _ dX8_isClashing_46 (Or.inr rfl) (iI_inj ((b2_t (by exact exB_le (by omega) ((exB_s (P := (fun k => ¬ (k = i ∨ w k = 4 ∨ bothS S i p k (w k) = 0))) hk.1).mpr (Or.inr (by omega))))).symm))
  exact L3_1 (((S 0 - 0).toNat) + 1) 0 _ (lv_sub hl [1, 2, 3, 4, 0] rfl) (by omega) (by exact exB_0 _) (by omega)
set_option maxHeartbeats 4000000 in
set_option maxRecDepth 100000 in
theorem c_X8_free (l : Launch) (g : GG) (ad : Nat → Nat) (F : Nat → Int) (A : Nat → Nat → Int) (E : Nat → Nat) (tl : va_W) (S : Nat → Int) (nm : Nat → Nat) (hSh : ShW g ad F A E tl S nm) (hI : InvD S) (i : Int) (ri : Nat) (w : Int → Int) (hri : ri = 9 ∨ ri = 19) (hw : ∀ k : Int, 0 ≤ k → k < S 0 → A (ri + 1) k.toNat = w k) (hwr : ∀ k : Int, 0 ≤ k → k < S 0 → 0 ≤ w k ∧ w k ≤ 4) (hin : 0 ≤ i ∧ i < S 0) : MroI l g yX8_free cX8_free 5 8 [.ref (ad 3), .int (iI i), .ref (ad ri)] (fun H => va_P g.1 vwCl (CW g ad F A E tl) H) (iI (setB (freeW S w i) 4)) := by
  refine ro_startI (own := RX8) (by decide) rfl (Nat.le_of_ble_eq_true rfl) ?_
  intro Pg Ev s Mi args below Mt Cd ls Q hC hK hE hP hl hQ
  have hSh0 := hSh
  obtain ⟨hTp, hCd, hNs, hWh, hRw, hSn, hPl, hBk, hMp⟩ := hSh0
  have hNm := hNs.2.2
  have hD0 := hI.1
  have hNs0 := hNs.1
  have hl : lv_has ls 5 [(0, .ref (ad 3)), (1, .int (iI i)), (2, .ref (ad ri))] := hl
  refine li_aload_n hC hl 0 rfl dX8_free_0 ?_
  refine li_iload_n hC hl 1 rfl dX8_free_1 ?_
  refine li_aload_n hC hl 0 rfl dX8_free_2 ?_
  refine li_get hC hK ck_X8 (hP 3 _ rfl) 10 (by decide) fl_X8_48 rfl (v := .int (iI (wideS S))) (by rw [← show F 61 = wideS S from hMp.2.1]; rfl) dX8_free_3 ?_
  have hws := wideS_rng S
  refine ro_callVi hC (c_X8_fitting l g ad F A E tl S nm hSh hI i (wideS S) (by omega) (by omega)) mk_X8_fitting ml_X8_132 (rr (by decide)) ⟨Nat.le_of_ble_eq_true rfl, Nat.le_of_ble_eq_true rfl⟩ hK hE hP (li_recv hK ck_X8 (hP 3 _ rfl)) rfl hl.1 rfl (Nat.le_of_ble_eq_true rfl) dX8_free_6 ?_
  refine li_istore_n hC (lv' := [(3, .int (iI (setB (fun p => fitsS S i p (wideS S)) 4))), (0, .ref (ad 3)), (1, .int (iI i)), (2, .ref (ad ri))]) hl (by decide) rfl dX8_free_9 (fun ls hl => ?_)
  refine li_iconst hC dX8_free_10 ?_
  refine li_istore hC (lv' := [(4, .int (iI 0)), (3, .int (iI (setB (fun p => fitsS S i p (wideS S)) 4))), (0, .ref (ad 3)), (1, .int (iI i)), (2, .ref (ad ri))]) hl (by decide) rfl dX8_free_11 (fun ls hl => ?_)
  have L13_1 : ∀ (fuel : Nat) (p : Int) (z : Int) (ls : Array Slot), lv_has ls 5 [(0, .ref (ad 3)), (1, .int (iI i)), (2, .ref (ad ri)), (3, .int (iI z)), (4, .int (iI p))] → (0 ≤ p ∧ p ≤ 4) → (z = setB (fun j => fitsS S i j (wideS S) ∧ (j < p → ¬ exB (fun k => ¬ (k = i ∨ w k = 4 ∨ bothS S i j k (w k) = 0)) (S 0))) 4) → (((4 : Int) - p).toNat) < fuel → W Pg l Ev (rmC 8 0 0) s Mi args below Mt Cd s.heap [] 0 0 Q (F0 Mi 13 ls []) := by
    intro fuel
    induction fuel with
    | zero => intro p z ls hl hp hz hm; exact absurd hm (Nat.not_lt_zero _)
    | succ fuel ih13 =>
      intro p z ls hl hp hz hm
      refine li_iload hC hl 4 rfl dX8_free_13 ?_
      refine li_iconst hC dX8_free_15 ?_
      refine li_icmp_ge (tgt := 54) hC (by decide) (rg (by omega) (by omega)) (rg (by decide) (by decide)) dX8_free_16 (fun c2 => ?_) (fun c2 => ?_)
      · refine li_iload_n hC hl 3 rfl dX8_free_54 ?_
        exact hQ _ _ _ dX8_free_55 (iI_inj (by rw [hz]; refine setB_ext (fun j h0 h1 => ?_); unfold freeW; constructor; { intro h9; exact ⟨h9.1, fun k hk0 hk1 => Classical.byContradiction fun h7 => h9.2 (by omega) ⟨k, hk0, hk1, h7⟩⟩ }; { intro h9; exact ⟨h9.1, fun _ h7 => by obtain ⟨k, h5, h6, h8⟩ := h7; exact h8 (h9.2 k h5 h6)⟩ }))
      · refine li_iload_n hC hl 3 rfl dX8_free_19 ?_
        refine li_iload hC hl 4 rfl dX8_free_20 ?_
        refine ro_callSN hC (c_X11_hasBit l g z p) mk_X11_hasBit (fun U h => h.2.1) (rr (by decide)) ⟨Nat.zero_le _, Nat.zero_le _⟩ hK hE trivial rfl hl.1 rfl (Nat.le_of_ble_eq_true rfl) dX8_free_22 ?_
        refine li_ifeq_b (tgt := 48) hC (by decide) dX8_free_25 (fun c3 => ?_) (fun c3 => ?_)
        · refine li_iinc hC (lv' := [(4, .int (iI (p + 1))), (0, .ref (ad 3)), (1, .int (iI i)), (2, .ref (ad ri)), (3, .int (iI z))]) hl 4 rfl (by decide) rfl dX8_free_48 (fun ls hl => ?_)
          refine li_goto (tgt := 13) hC (by decide) dX8_free_51 ?_
          exact ih13 (p + 1) z _ (lv_sub hl [1, 2, 3, 4, 0] rfl) (by omega) (by have hb9 := hasB (P := (fun j => fitsS S i j (wideS S) ∧ (j < p → ¬ exB (fun k => ¬ (k = i ∨ w k = 4 ∨ bothS S i j k (w k) = 0)) (S 0)))) (n := 4) (k := p) (by decide) (by omega) (by omega); rw [← hz] at hb9; rw [hz]; refine setB_ext (fun j h0 h1 => ?_); constructor; { intro h9; refine ⟨h9.1, fun h8 => ?_⟩; rcases (show j < p ∨ j = p by omega) with q9 | rfl; { exact h9.2 q9 }; { first | exact (by assumption) | exact absurd (hb9.mpr ⟨h1, h9⟩) (by assumption) } }; { intro h9; exact ⟨h9.1, fun h8 => h9.2 (by omega)⟩ }) (by omega)
        · refine li_aload_n hC hl 0 rfl dX8_free_28 ?_
          refine li_iload_n hC hl 1 rfl dX8_free_29 ?_
          refine li_iload hC hl 4 rfl dX8_free_30 ?_
          refine li_aload_n hC hl 2 rfl dX8_free_32 ?_
          refine ro_callVi hC (c_X8_isClashing l g ad F A E tl S nm hSh hI i p ri w hri hw hwr (by omega) (by omega)) mk_X8_isClashing ml_X8_140 (rr (by decide)) ⟨Nat.le_of_ble_eq_true rfl, Nat.le_of_ble_eq_true rfl⟩ hK hE hP (li_recv hK ck_X8 (hP 3 _ rfl)) rfl hl.1 rfl (Nat.le_of_ble_eq_true rfl) dX8_free_33 ?_
          refine li_ifeq_b (tgt := 48) hC (by decide) dX8_free_36 (fun c4 => ?_) (fun c4 => ?_)
          · refine li_iinc hC (lv' := [(4, .int (iI (p + 1))), (0, .ref (ad 3)), (1, .int (iI i)), (2, .ref (ad ri)), (3, .int (iI z))]) hl 4 rfl (by decide) rfl dX8_free_48 (fun ls hl => ?_)
            refine li_goto (tgt := 13) hC (by decide) dX8_free_51 ?_
            exact ih13 (p + 1) z _ (lv_sub hl [1, 2, 3, 4, 0] rfl) (by omega) (by have hb9 := hasB (P := (fun j => fitsS S i j (wideS S) ∧ (j < p → ¬ exB (fun k => ¬ (k = i ∨ w k = 4 ∨ bothS S i j k (w k) = 0)) (S 0)))) (n := 4) (k := p) (by decide) (by omega) (by omega); rw [← hz] at hb9; rw [hz]; refine setB_ext (fun j h0 h1 => ?_); constructor; { intro h9; refine ⟨h9.1, fun h8 => ?_⟩; rcases (show j < p ∨ j = p by omega) with q9 | rfl; { exact h9.2 q9 }; { first | exact (by assumption) | exact absurd (hb9.mpr ⟨h1, h9⟩) (by assumption) } }; { intro h9; exact ⟨h9.1, fun h8 => h9.2 (by omega)⟩ }) (by omega)
          · refine li_iload_n hC hl 3 rfl dX8_free_39 ?_
            refine li_iconst hC dX8_free_40 ?_
            refine li_iload hC hl 4 rfl dX8_free_41 ?_
            refine li_ishl hC dX8_free_43 ?_
            refine li_iconst hC dX8_free_44 ?_
            refine li_ixor hC dX8_free_45 ?_
            refine li_iand hC dX8_free_46 ?_
            refine li_istore_n hC (lv' := [(3, .int (iI (iand z (ixor (ishl 1 p) (-1))))), (0, .ref (ad 3)), (1, .int (iI i)), (2, .ref (ad ri)), (4, .int (iI p))]) hl (by decide) rfl dX8_free_47 (fun ls hl => ?_)
            refine li_iinc hC (lv' := [(4, .int (iI (p + 1))), (3, .int (iI (iand z (ixor (ishl 1 p) (-1))))), (0, .ref (ad 3)), (1, .int (iI i)), (2, .ref (ad ri))]) hl 4 rfl (by decide) rfl dX8_free_48 (fun ls hl => ?_)
            refine li_goto (tgt := 13) hC (by decide) dX8_free_51 ?_
            exact ih13 (p + 1) (iand z (ixor (ishl 1 p) (-1))) _ (lv_sub hl [2, 3, 4, 1, 0] rfl) (by omega) (by rw [hz, clrB (by decide) (by omega)]; refine setB_ext (fun j h0 h1 => ?_); constructor; { intro h9; exact ⟨h9.1.1, fun h8 => h9.1.2 (by omega)⟩ }; { intro h9; have hne : j ≠ p := (by intro h3; subst h3; exact absurd (by assumption) (h9.2 (by omega))); exact ⟨⟨h9.1, fun h8 => h9.2 (by omega)⟩, hne⟩ }) (by omega)
  exact L13_1 ((((4 : Int) - 0).toNat) + 1) 0 (setB (fun p => fitsS S i p (wideS S)) 4) _ (lv_sub hl [2, 3, 4, 1, 0] rfl) (by omega) (by exact setB_ext (fun j h0 h1 => ⟨fun h9 => ⟨h9, fun h8 => absurd h8 (by omega)⟩, fun h9 => h9.1⟩)) (by omega)
set_option maxHeartbeats 4000000 in
set_option maxRecDepth 100000 in
theorem c_X8_laid (l : Launch) (g : GG) (ad : Nat → Nat) (F : Nat → Int) (A : Nat → Nat → Int) (E : Nat → Nat) (tl : va_W) (S : Nat → Int) (nm : Nat → Nat) (hSh : ShW g ad F A E tl S nm) (hI : InvD S) (ri : Nat) (w : Int → Int) (hri : ri = 9 ∨ ri = 19) (hw : ∀ k : Int, 0 ≤ k → k < S 0 → A (ri + 1) k.toNat = w k) (hwr : ∀ k : Int, 0 ≤ k → k < S 0 → 0 ≤ w k ∧ w k ≤ 4) : MroI l g yX8_laid cX8_laid 4 3 [.ref (ad 3), .ref (ad ri)] (fun H => va_P g.1 vwCl (CW g ad F A E tl) H) (iI (setB (fun n => w n ≠ 4) (S 0).toNat)) := by
  refine ro_startI (own := RX8) (by decide) rfl (Nat.le_of_ble_eq_true rfl) ?_
  intro Pg Ev s Mi args below Mt Cd ls Q hC hK hE hP hl hQ
  have hSh0 := hSh
  obtain ⟨hTp, hCd, hNs, hWh, hRw, hSn, hPl, hBk, hMp⟩ := hSh0
  have hNm := hNs.2.2
  have hD0 := hI.1
  have hNs0 := hNs.1
  have hl : lv_has ls 4 [(0, .ref (ad 3)), (1, .ref (ad ri))] := hl
  refine li_iconst hC dX8_laid_0 ?_
  refine li_istore_n hC (lv' := [(2, .int (iI 0)), (0, .ref (ad 3)), (1, .ref (ad ri))]) hl (by decide) rfl dX8_laid_1 (fun ls hl => ?_)
  refine li_iconst hC dX8_laid_2 ?_
  refine li_istore_n hC (lv' := [(3, .int (iI 0)), (2, .int (iI 0)), (0, .ref (ad 3)), (1, .ref (ad ri))]) hl (by decide) rfl dX8_laid_3 (fun ls hl => ?_)
  have L4_1 : ∀ (fuel : Nat) (n : Int) (z : Int) (ls : Array Slot), lv_has ls 4 [(0, .ref (ad 3)), (1, .ref (ad ri)), (2, .int (iI z)), (3, .int (iI n))] → (0 ≤ n ∧ n ≤ S 0) → (z = setB (fun n => w n ≠ 4) n.toNat) → ((S 0 - n).toNat) < fuel → W Pg l Ev (rmC 3 0 0) s Mi args below Mt Cd s.heap [] 0 0 Q (F0 Mi 4 ls []) := by
    intro fuel
    induction fuel with
    | zero => intro n z ls hl hn hz hm; exact absurd hm (Nat.not_lt_zero _)
    | succ fuel ih4 =>
      intro n z ls hl hn hz hm
      refine li_iload_n hC hl 3 rfl dX8_laid_4 ?_
      refine li_aload_n hC hl 0 rfl dX8_laid_5 ?_
      refine ro_callVi hC (c_X8_dots l g ad F A E tl S nm hSh hI) mk_X8_dots ml_X8_88 (rr (by decide)) ⟨Nat.le_of_ble_eq_true rfl, Nat.le_of_ble_eq_true rfl⟩ hK hE hP (li_recv hK ck_X8 (hP 3 _ rfl)) rfl hl.1 rfl (Nat.le_of_ble_eq_true rfl) dX8_laid_6 ?_
      refine li_icmp_ge (tgt := 33) hC (by decide) (rg (by omega) (by omega)) (rg (by omega) (by omega)) dX8_laid_9 (fun c2 => ?_) (fun c2 => ?_)
      · refine li_iload_n hC hl 2 rfl dX8_laid_33 ?_
        exact hQ _ _ _ dX8_laid_34 (iI_inj (by rw [hz, show n = S 0 by omega]))
      · refine li_aload_n hC hl 1 rfl dX8_laid_12 ?_
        refine li_iload_n hC hl 3 rfl dX8_laid_13 ?_
        refine ro_callVi hC (c_X6_get l g (ws := CW g ad F A E tl) (i := ri) (j := (ri + 1)) (a := (ad ri)) (b := (ad (ri + 1))) (n := 7) (f := (A (ri + 1))) (sz := F ri) (row_i hri) (row_j hri) (Nat.le_of_ble_eq_true rfl) (k := n) ⟨by omega, by omega⟩) mk_X6_get ml_X8_101 (rr (by decide)) ⟨Nat.zero_le _, Nat.zero_le _⟩ hK hE hP (li_recv hK ck_X6 (hP ri _ (row_i hri))) rfl hl.1 rfl (Nat.le_of_ble_eq_true rfl) dX8_laid_14 ?_
        rw [hw n (by omega) (by omega)]
        have q3 := hwr n (by omega) (by omega)
        refine li_iconst hC dX8_laid_17 ?_
        refine li_icmp_eq (tgt := 27) hC (by decide) (rg (by omega) (by omega)) (rg (by decide) (by decide)) dX8_laid_18 (fun c4 => ?_) (fun c4 => ?_)
        · refine li_iinc hC (lv' := [(3, .int (iI (n + 1))), (0, .ref (ad 3)), (1, .ref (ad ri)), (2, .int (iI z))]) hl 3 rfl (by decide) rfl dX8_laid_27 (fun ls hl => ?_)
          refine li_goto (tgt := 4) hC (by decide) dX8_laid_30 ?_
          exact ih4 (n + 1) z _ (lv_sub hl [1, 2, 3, 0] rfl) (by omega) (by rw [hz]; exact setB_f (P := (fun n => w n ≠ 4)) hn.1 (fun h9 => h9 (by assumption))) (by omega)
        · refine li_iload_n hC hl 2 rfl dX8_laid_21 ?_
          refine li_iconst hC dX8_laid_22 ?_
          refine li_iload_n hC hl 3 rfl dX8_laid_23 ?_
          refine li_ishl hC dX8_laid_24 ?_
          refine li_ior hC dX8_laid_25 ?_
          refine li_istore_n hC (lv' := [(2, .int (iI (ior z (ishl 1 n)))), (0, .ref (ad 3)), (1, .ref (ad ri)), (3, .int (iI n))]) hl (by decide) rfl dX8_laid_26 (fun ls hl => ?_)
          refine li_iinc hC (lv' := [(3, .int (iI (n + 1))), (2, .int (iI (ior z (ishl 1 n)))), (0, .ref (ad 3)), (1, .ref (ad ri))]) hl 3 rfl (by decide) rfl dX8_laid_27 (fun ls hl => ?_)
          refine li_goto (tgt := 4) hC (by decide) dX8_laid_30 ?_
          exact ih4 (n + 1) (ior z (ishl 1 n)) _ (lv_sub hl [2, 3, 1, 0] rfl) (by omega) (by rw [hz]; exact setB_t (P := (fun n => w n ≠ 4)) hn.1 (by omega) (by assumption)) (by omega)
  exact L4_1 (((S 0 - 0).toNat) + 1) 0 0 _ (lv_sub hl [2, 3, 1, 0] rfl) (by omega) (by rfl) (by omega)
set_option maxHeartbeats 4000000 in
set_option maxRecDepth 100000 in
theorem c_X8_asked (l : Launch) (g : GG) (q : Nat) (tr : Nat) (kd : Int) (i : Int) (v : Int) (lt : Int) (cl : Int) (r : Int) (k : Int) (p : Int) (hk0 : 0 ≤ k ∧ k ≤ 5) (hcl : 0 ≤ cl ∧ cl ≤ 29) : MroI l g yX8_asked cX8_asked 3 2 [.int (iI k), .ref q, .int (iI p)] (fun H => nmAt g q kd tr i v lt cl r H) (iI (askN kd i v lt cl p k)) := by
  refine ro_startI (own := RX8) (by decide) rfl (Nat.le_of_ble_eq_true rfl) ?_
  intro Pg Ev s Mi args below Mt Cd ls Q hC hK hE hP hl hQ
  have hl : lv_has ls 3 [(0, .int (iI k)), (1, .ref q), (2, .int (iI p))] := hl
  refine li_iload_n hC hl 0 rfl dX8_asked_0 ?_
  by_cases c1 : k = 0
  · refine li_tableIn (tgt := 36) hC (rg (by omega) (by omega)) (by omega) (by omega) (off := 35) (by rw [c1]; rfl) (by decide) dX8_asked_1 ?_
    refine li_aload_n hC hl 1 rfl dX8_asked_36 ?_
    refine li_getN1 hC hK hP fl_X8_170 dX8_asked_37 ?_
    exact hQ _ _ _ dX8_asked_40 (iI_inj (by unfold askN; (repeat' split) <;> omega))
  by_cases c2 : k = 1
  · refine li_tableIn (tgt := 41) hC (rg (by omega) (by omega)) (by omega) (by omega) (off := 40) (by rw [c2]; rfl) (by decide) dX8_asked_1 ?_
    refine li_aload_n hC hl 1 rfl dX8_asked_41 ?_
    refine v_kind hC hK hE hP   ml_X8_173 (rr (by decide)) ⟨Nat.zero_le _, Nat.zero_le _⟩ hl.1 rfl (Nat.le_of_ble_eq_true rfl) dX8_asked_42 ?_
    exact hQ _ _ _ dX8_asked_45 (iI_inj (by unfold askN; (repeat' split) <;> omega))
  by_cases c3 : k = 2
  · refine li_tableIn (tgt := 46) hC (rg (by omega) (by omega)) (by omega) (by omega) (off := 45) (by rw [c3]; rfl) (by decide) dX8_asked_1 ?_
    refine li_aload_n hC hl 1 rfl dX8_asked_46 ?_
    refine li_getN2 hC hK hP fl_X8_119 dX8_asked_47 ?_
    exact hQ _ _ _ dX8_asked_50 (iI_inj (by unfold askN; (repeat' split) <;> omega))
  by_cases c4 : k = 3
  · refine li_tableIn (tgt := 51) hC (rg (by omega) (by omega)) (by omega) (by omega) (off := 50) (by rw [c4]; rfl) (by decide) dX8_asked_1 ?_
    refine li_iload_n hC hl 2 rfl dX8_asked_51 ?_
    exact hQ _ _ _ dX8_asked_52 (iI_inj (by unfold askN; (repeat' split) <;> omega))
  by_cases c5 : k = 4
  · refine li_tableIn (tgt := 53) hC (rg (by omega) (by omega)) (by omega) (by omega) (off := 52) (by rw [c5]; rfl) (by decide) dX8_asked_1 ?_
    refine li_aload_n hC hl 1 rfl dX8_asked_53 ?_
    refine li_getN4 hC hK hP fl_X8_95 dX8_asked_54 ?_
    refine li_iconst hC dX8_asked_57 ?_
    refine li_idivN hC (by omega) (by omega) (by omega) (by omega) dX8_asked_58 ?_
    exact hQ _ _ _ dX8_asked_59 (iI_inj (by unfold askN; (repeat' split) <;> omega))
  refine li_tableOut (tgt := 60) hC (rg (by omega) (by omega)) (by omega) (by decide) dX8_asked_1 ?_
  refine li_aload_n hC hl 1 rfl dX8_asked_60 ?_
  refine li_getN3 hC hK hP fl_X8_176 dX8_asked_61 ?_
  exact hQ _ _ _ dX8_asked_64 (iI_inj (by unfold askN; (repeat' split) <;> omega))
set_option maxHeartbeats 4000000 in
set_option maxRecDepth 100000 in
theorem c_X8_holds (l : Launch) (g : GG) (q : Nat) (tr : Nat) (kd : Int) (i : Int) (v : Int) (lt : Int) (cl : Int) (r : Int) (te : Int) (p : Int) (hte : 0 ≤ te ∧ te < 1800) (hcl : 0 ≤ cl ∧ cl ≤ 29) (hi : 0 ≤ i ∧ i ≤ 6) (hkd : 0 ≤ kd ∧ kd ≤ 6) (hv : 0 ≤ v ∧ v ≤ 9) (hp : 0 ≤ p ∧ p ≤ 4) (hlt : 1 ≤ lt ∧ lt ≤ 9) : MroZ l g yX8_holds cX8_holds 5 3 [.int (iI te), .ref q, .int (iI p)] (fun H => nmAt g q kd tr i v lt cl r H) (iI (b2 (holdN kd i v lt cl p te))) := by
  refine ro_startZ (own := RX8) (by decide) rfl (Nat.le_of_ble_eq_true rfl) ?_
  intro Pg Ev s Mi args below Mt Cd ls Q hC hK hE hP hl hQ
  have hl : lv_has ls 5 [(0, .int (iI te)), (1, .ref q), (2, .int (iI p))] := hl
  refine li_iload_n hC hl 0 rfl dX8_holds_0 ?_
  refine li_sipush hC (z := 300) rfl dX8_holds_1 ?_
  refine li_idivN hC (by omega) (by omega) (by omega) (by omega) dX8_holds_4 ?_
  refine li_aload_n hC hl 1 rfl dX8_holds_5 ?_
  refine li_iload_n hC hl 2 rfl dX8_holds_6 ?_
  refine ro_callSi hC (c_X8_asked l g q tr kd i v lt cl r (te / 300) p (by omega) (by omega)) mk_X8_asked ml_X8_166 (rr (by decide)) ⟨Nat.le_of_ble_eq_true rfl, Nat.le_of_ble_eq_true rfl⟩ hK hE hP rfl hl.1 rfl (Nat.le_of_ble_eq_true rfl) dX8_holds_7 ?_
  have hak : 0 ≤ askN kd i v lt cl p (te / 300) ∧ askN kd i v lt cl p (te / 300) ≤ 29 := by unfold askN; (repeat' split) <;> omega
  refine li_istore_n hC (lv' := [(3, .int (iI (askN kd i v lt cl p (te / 300)))), (0, .int (iI te)), (1, .ref q), (2, .int (iI p))]) hl (by decide) rfl dX8_holds_10 (fun ls hl => ?_)
  refine li_iload_n hC hl 1 rfl dX8_holds_11 ?_
  refine li_bipush hC (z := 100) rfl dX8_holds_12 ?_
  refine li_iremN hC (by omega) (by omega) (by omega) (by omega) dX8_holds_14 ?_
  refine li_istore hC (lv' := [(4, .int (iI (te % 100))), (3, .int (iI (askN kd i v lt cl p (te / 300)))), (0, .int (iI te)), (1, .ref q), (2, .int (iI p))]) hl (by decide) rfl dX8_holds_15 (fun ls hl => ?_)
  refine li_iload_n hC hl 2 rfl dX8_holds_17 ?_
  refine li_bipush hC (z := 100) rfl dX8_holds_18 ?_
  refine li_idivN hC (by omega) (by omega) (by omega) (by omega) dX8_holds_20 ?_
  refine li_iconst hC dX8_holds_21 ?_
  refine li_iremN hC (by omega) (by omega) (by omega) (by omega) dX8_holds_22 ?_
  by_cases c1 : (te / 100) % 3 = 0
  · refine li_lookup (tgt := 48) hC (rg (by omega) (by omega)) (by decide) (off := 25) (by rw [c1]; decide) (by decide) dX8_holds_23 ?_
    refine li_iload_n hC hl 1 rfl dX8_holds_48 ?_
    refine li_iload hC hl 0 rfl dX8_holds_49 ?_
    refine li_icmp_ge (tgt := 58) hC (by decide) (rg (by omega) (by omega)) (rg (by omega) (by omega)) dX8_holds_51 (fun c2 => ?_) (fun c2 => ?_)
    · refine li_iconst hC dX8_holds_58 ?_
      exact hQ _ _ _ dX8_holds_59 (Or.inl rfl) (iI_inj ((b2_f (by unfold holdN; omega)).symm))
    · refine li_iconst hC dX8_holds_54 ?_
      refine li_goto (tgt := 59) hC (by decide) dX8_holds_55 ?_
      exact hQ _ _ _ dX8_holds_59 (Or.inr rfl) (iI_inj ((b2_t (by unfold holdN; omega)).symm))
  by_cases c3 : (te / 100) % 3 = 1
  · refine li_lookup (tgt := 60) hC (rg (by omega) (by omega)) (by decide) (off := 37) (by rw [c3]; decide) (by decide) dX8_holds_23 ?_
    refine li_iload_n hC hl 1 rfl dX8_holds_60 ?_
    refine li_iload hC hl 0 rfl dX8_holds_61 ?_
    refine li_icmp_ne (tgt := 70) hC (by decide) (rg (by omega) (by omega)) (rg (by omega) (by omega)) dX8_holds_63 (fun c4 => ?_) (fun c4 => ?_)
    · refine li_iconst hC dX8_holds_70 ?_
      exact hQ _ _ _ dX8_holds_71 (Or.inl rfl) (iI_inj ((b2_f (by unfold holdN; omega)).symm))
    · refine li_iconst hC dX8_holds_66 ?_
      refine li_goto (tgt := 71) hC (by decide) dX8_holds_67 ?_
      exact hQ _ _ _ dX8_holds_71 (Or.inr rfl) (iI_inj ((b2_t (by unfold holdN; omega)).symm))
  refine li_lookup (tgt := 72) hC (rg (by omega) (by omega)) (by decide) (off := 49) (by simp only [Op.lookupswitch.offset]; simp [Ne.symm c1, c1, Ne.symm c3, c3]) (by decide) dX8_holds_23 ?_
  refine li_iload_n hC hl 1 rfl dX8_holds_72 ?_
  refine li_iload hC hl 0 rfl dX8_holds_73 ?_
  refine li_icmp_le (tgt := 82) hC (by decide) (rg (by omega) (by omega)) (rg (by omega) (by omega)) dX8_holds_75 (fun c5 => ?_) (fun c5 => ?_)
  · refine li_iconst hC dX8_holds_82 ?_
    exact hQ _ _ _ dX8_holds_83 (Or.inl rfl) (iI_inj ((b2_f (by unfold holdN; omega)).symm))
  · refine li_iconst hC dX8_holds_78 ?_
    refine li_goto (tgt := 83) hC (by decide) dX8_holds_79 ?_
    exact hQ _ _ _ dX8_holds_83 (Or.inr rfl) (iI_inj ((b2_t (by unfold holdN; omega)).symm))
set_option maxHeartbeats 4000000 in
set_option maxRecDepth 100000 in
theorem c_X8_taste (l : Launch) (g : GG) (ad : Nat → Nat) (F : Nat → Int) (A : Nat → Nat → Int) (E : Nat → Nat) (tl : va_W) (S : Nat → Int) (nm : Nat → Nat) (hSh : ShW g ad F A E tl S nm) (hI : InvD S) (i : Int) (p : Int) (hC0 : InvC S) (hG : InvG S) (hin : 0 ≤ i ∧ i < S 0) (hp : 0 ≤ p ∧ p ≤ 4) : MroI l g yX8_taste cX8_taste 8 4 [.ref (ad 3), .ref (nm i.toNat), .int (iI p)] (fun H => va_P g.1 vwCl (CW g ad F A E tl) H) (iI (tasteS S i p)) := by
  refine ro_startI (own := RX8) (by decide) rfl (Nat.le_of_ble_eq_true rfl) ?_
  intro Pg Ev s Mi args below Mt Cd ls Q hC hK hE hP hl hQ
  have hSh0 := hSh
  obtain ⟨hTp, hCd, hNs, hWh, hRw, hSn, hPl, hBk, hMp⟩ := hSh0
  have hNm := hNs.2.2
  have hD0 := hI.1
  have hNs0 := hNs.1
  have hl : lv_has ls 8 [(0, .ref (ad 3)), (1, .ref (nm i.toNat)), (2, .int (iI p))] := hl
  have q2 := hI.2 i (by omega) (by omega)
  have hmm := hC0.1
  refine li_iconst hC dX8_taste_0 ?_
  refine li_istore_n hC (lv' := [(3, .int (iI 0)), (0, .ref (ad 3)), (1, .ref (nm i.toNat)), (2, .int (iI p))]) hl (by decide) rfl dX8_taste_1 (fun ls hl => ?_)
  refine li_iconst hC dX8_taste_2 ?_
  refine li_istore hC (lv' := [(4, .int (iI 0)), (3, .int (iI 0)), (0, .ref (ad 3)), (1, .ref (nm i.toNat)), (2, .int (iI p))]) hl (by decide) rfl dX8_taste_3 (fun ls hl => ?_)
  refine li_iconst hC dX8_taste_5 ?_
  refine li_istore hC (lv' := [(5, .int (iI 0)), (4, .int (iI 0)), (3, .int (iI 0)), (0, .ref (ad 3)), (1, .ref (nm i.toNat)), (2, .int (iI p))]) hl (by decide) rfl dX8_taste_6 (fun ls hl => ?_)
  have L8_3 : ∀ (fuel : Nat) (k : Int) (z : Int) (sum : Int) (ls : Array Slot), lv_has ls 8 [(0, .ref (ad 3)), (1, .ref (nm i.toNat)), (2, .int (iI p)), (3, .int (iI sum)), (4, .int (iI z)), (5, .int (iI k))] → (0 ≤ k ∧ k ≤ manyS S) → (sum = evS (xS S i p) (codeS S) k.toNat) → (bitsOK z (depS (codeS S) k.toNat) (evT (xS S i p) (codeS S) k.toNat)) → ((manyS S - k).toNat) < fuel → W Pg l Ev (rmC 4 0 0) s Mi args below Mt Cd s.heap [] 0 0 Q (F0 Mi 8 ls []) := by
    intro fuel
    induction fuel with
    | zero => intro k z sum ls hl hk hs hb hm; exact absurd hm (Nat.not_lt_zero _)
    | succ fuel ih8 =>
      intro k z sum ls hl hk hs hb hm
      refine li_iload hC hl 5 rfl dX8_taste_8 ?_
      refine li_aload_n hC hl 0 rfl dX8_taste_10 ?_
      refine li_get hC hK ck_X8 (hP 3 _ rfl) 1 (by decide) fl_X8_20 rfl (v := .ref (ad 6)) rfl dX8_taste_11 ?_
      refine ro_callVi hC (c_X6_size l g (ws := CW g ad F A E tl) (i := 6) (j := 7) (a := (ad 6)) (b := (ad 7)) (n := 100) (f := (A 7)) (sz := F 6) rfl rfl (Nat.le_of_ble_eq_true rfl)) mk_X6_size ml_X8_161 (rr (by decide)) ⟨Nat.zero_le _, Nat.zero_le _⟩ hK hE hP (li_recv hK ck_X6 (hP 6 _ rfl)) rfl hl.1 rfl (Nat.le_of_ble_eq_true rfl) dX8_taste_14 ?_
      rw [show F 6 = manyS S from hCd.1]
      refine li_icmp_ge (tgt := 170) hC (by decide) (rg (by omega) (by omega)) (rg (by omega) (by omega)) dX8_taste_17 (fun c4 => ?_) (fun c4 => ?_)
      · refine li_iload_n hC hl 3 rfl dX8_taste_170 ?_
        exact hQ _ _ _ dX8_taste_171 (iI_inj (by unfold tasteS; rw [hs, show k = manyS S by omega]))
      · refine li_aload_n hC hl 0 rfl dX8_taste_20 ?_
        refine li_get hC hK ck_X8 (hP 3 _ rfl) 1 (by decide) fl_X8_20 rfl (v := .ref (ad 6)) rfl dX8_taste_21 ?_
        refine li_iload hC hl 5 rfl dX8_taste_24 ?_
        refine ro_callVi hC (c_X6_get l g (ws := CW g ad F A E tl) (i := 6) (j := 7) (a := (ad 6)) (b := (ad 7)) (n := 100) (f := (A 7)) (sz := F 6) rfl rfl (Nat.le_of_ble_eq_true rfl) (k := k) ⟨by omega, by omega⟩) mk_X6_get ml_X8_101 (rr (by decide)) ⟨Nat.zero_le _, Nat.zero_le _⟩ hK hE hP (li_recv hK ck_X6 (hP 6 _ rfl)) rfl hl.1 rfl (Nat.le_of_ble_eq_true rfl) dX8_taste_26 ?_
        rw [hCd.2 k (by omega) (by omega)]
        obtain ⟨hok, hg1, hg2, hg3⟩ := cvS_rng hC0 hG (k := k) (by omega)
        obtain ⟨st, hst⟩ : ∃ st, st = codeS S k.toNat := ⟨_, rfl⟩
        rw [← hst] at hok hg1 hg2 hg3
        rw [← hst]
        unfold okS at hok
        refine li_istore hC (lv' := [(6, .int (iI (cvS st))), (0, .ref (ad 3)), (1, .ref (nm i.toNat)), (2, .int (iI p)), (3, .int (iI sum)), (4, .int (iI z)), (5, .int (iI k))]) hl (by decide) rfl dX8_taste_29 (fun ls hl => ?_)
        have hcv : (0 ≤ st → cvS st = 1000 + (st % 8 * 3 + st / 8 % 4) * 100 + st / 32) ∧ (st = -1 → cvS st = 1) ∧ (st = -2 → cvS st = 2) ∧ (-10 < st → st < -2 → cvS st = 3) ∧ (-200 < st → st ≤ -10 → cvS st = -st + 9990) ∧ (st ≤ -200 → cvS st = -st + 19800) := ⟨cv_t, fun h => by rw [h]; rfl, fun h => by rw [h]; rfl, fun h1 h2 => cv_m h1 h2 hg3, fun h1 h2 => cv_l h2 h1, cv_b⟩
        refine li_iload hC hl 0 rfl dX8_taste_31 ?_
        refine li_sipush hC (z := 10000) rfl dX8_taste_33 ?_
        refine li_icmp_lt (tgt := 80) hC (by decide) (rg (by omega) (by omega)) (rg (by decide) (by decide)) dX8_taste_36 (fun c5 => ?_) (fun c5 => ?_)
        · refine li_iload hC hl 0 rfl dX8_taste_80 ?_
          refine li_sipush hC (z := 1000) rfl dX8_taste_82 ?_
          refine li_icmp_lt (tgt := 117) hC (by decide) (rg (by omega) (by omega)) (rg (by decide) (by decide)) dX8_taste_85 (fun c6 => ?_) (fun c6 => ?_)
          · refine li_iload hC hl 0 rfl dX8_taste_117 ?_
            refine li_iconst hC dX8_taste_119 ?_
            refine li_icmp_ne (tgt := 132) hC (by decide) (rg (by omega) (by omega)) (rg (by decide) (by decide)) dX8_taste_120 (fun c7 => ?_) (fun c7 => ?_)
            · refine li_iload hC hl 0 rfl dX8_taste_132 ?_
              refine li_iconst hC dX8_taste_134 ?_
              refine li_icmp_ne (tgt := 153) hC (by decide) (rg (by omega) (by omega)) (rg (by decide) (by decide)) dX8_taste_135 (fun c8 => ?_) (fun c8 => ?_)
              · refine li_iload hC hl 5 rfl dX8_taste_153 ?_
                refine li_iconst hC dX8_taste_155 ?_
                refine li_ishr hC dX8_taste_156 ?_
                refine li_iload hC hl 5 rfl dX8_taste_157 ?_
                refine li_iconst hC dX8_taste_159 ?_
                refine li_iand hC dX8_taste_160 ?_
                refine li_ior hC dX8_taste_161 ?_
                refine li_istore hC (lv' := [(4, .int (iI (ior (ishr z 1) (iand z 1)))), (6, .int (iI (cvS st))), (0, .ref (ad 3)), (1, .ref (nm i.toNat)), (2, .int (iI p)), (3, .int (iI sum)), (5, .int (iI k))]) hl (by decide) rfl dX8_taste_162 (fun ls hl => ?_)
                refine li_iinc hC (lv' := [(5, .int (iI (k + 1))), (4, .int (iI (ior (ishr z 1) (iand z 1)))), (6, .int (iI (cvS st))), (0, .ref (ad 3)), (1, .ref (nm i.toNat)), (2, .int (iI p)), (3, .int (iI sum))]) hl 6 rfl (by decide) rfl dX8_taste_164 (fun ls hl => ?_)
                refine li_goto (tgt := 8) hC (by decide) dX8_taste_167 ?_
                exact ih8 (k + 1) (ior (ishr z 1) (iand z 1)) sum _ (lv_sub hl [3, 4, 5, 6, 1, 0] rfl) (by omega) (by rw [show (k + 1).toNat = k.toNat + 1 by omega, evS_n (f := (codeS S)) (i := k.toNat) (by rw [← hst]; omega)]; exact hs) (by rw [show (k + 1).toNat = k.toNat + 1 by omega, depS_b (f := (codeS S)) (i := k.toNat) (by rw [← hst]; omega) (by rw [← hst]; omega), evT_b (f := (codeS S)) (i := k.toNat) (by rw [← hst]; omega) (by rw [← hst]; omega), if_neg (by rw [← hst]; omega)]; exact bits_or hb (by omega)) (by omega)
              · refine li_iload hC hl 5 rfl dX8_taste_138 ?_
                refine li_iconst hC dX8_taste_140 ?_
                refine li_ishr hC dX8_taste_141 ?_
                refine li_iload hC hl 5 rfl dX8_taste_142 ?_
                refine li_bipush hC (z := -2) rfl dX8_taste_144 ?_
                refine li_ior hC dX8_taste_146 ?_
                refine li_iand hC dX8_taste_147 ?_
                refine li_istore hC (lv' := [(4, .int (iI (iand (ishr z 1) (ior z (-2))))), (6, .int (iI (cvS st))), (0, .ref (ad 3)), (1, .ref (nm i.toNat)), (2, .int (iI p)), (3, .int (iI sum)), (5, .int (iI k))]) hl (by decide) rfl dX8_taste_148 (fun ls hl => ?_)
                refine li_goto (tgt := 164) hC (by decide) dX8_taste_150 ?_
                refine li_iinc hC (lv' := [(5, .int (iI (k + 1))), (4, .int (iI (iand (ishr z 1) (ior z (-2))))), (6, .int (iI (cvS st))), (0, .ref (ad 3)), (1, .ref (nm i.toNat)), (2, .int (iI p)), (3, .int (iI sum))]) hl 6 rfl (by decide) rfl dX8_taste_164 (fun ls hl => ?_)
                refine li_goto (tgt := 8) hC (by decide) dX8_taste_167 ?_
                exact ih8 (k + 1) (iand (ishr z 1) (ior z (-2))) sum _ (lv_sub hl [3, 4, 5, 6, 1, 0] rfl) (by omega) (by rw [show (k + 1).toNat = k.toNat + 1 by omega, evS_n (f := (codeS S)) (i := k.toNat) (by rw [← hst]; omega)]; exact hs) (by rw [show (k + 1).toNat = k.toNat + 1 by omega, depS_b (f := (codeS S)) (i := k.toNat) (by rw [← hst]; omega) (by rw [← hst]; omega), evT_b (f := (codeS S)) (i := k.toNat) (by rw [← hst]; omega) (by rw [← hst]; omega), if_pos (by rw [← hst]; omega)]; exact bits_and hb (by omega)) (by omega)
            · refine li_iload hC hl 5 rfl dX8_taste_123 ?_
              refine li_iconst hC dX8_taste_125 ?_
              refine li_ixor hC dX8_taste_126 ?_
              refine li_istore hC (lv' := [(4, .int (iI (ixor z 1))), (6, .int (iI (cvS st))), (0, .ref (ad 3)), (1, .ref (nm i.toNat)), (2, .int (iI p)), (3, .int (iI sum)), (5, .int (iI k))]) hl (by decide) rfl dX8_taste_127 (fun ls hl => ?_)
              refine li_goto (tgt := 164) hC (by decide) dX8_taste_129 ?_
              refine li_iinc hC (lv' := [(5, .int (iI (k + 1))), (4, .int (iI (ixor z 1))), (6, .int (iI (cvS st))), (0, .ref (ad 3)), (1, .ref (nm i.toNat)), (2, .int (iI p)), (3, .int (iI sum))]) hl 6 rfl (by decide) rfl dX8_taste_164 (fun ls hl => ?_)
              refine li_goto (tgt := 8) hC (by decide) dX8_taste_167 ?_
              exact ih8 (k + 1) (ixor z 1) sum _ (lv_sub hl [3, 4, 5, 6, 1, 0] rfl) (by omega) (by rw [show (k + 1).toNat = k.toNat + 1 by omega, evS_n (f := (codeS S)) (i := k.toNat) (by rw [← hst]; omega)]; exact hs) (by rw [show (k + 1).toNat = k.toNat + 1 by omega, depS_n (f := (codeS S)) (i := k.toNat) (by rw [← hst]; omega), evT_n (f := (codeS S)) (i := k.toNat) (by rw [← hst]; omega)]; exact bits_not hb (by omega)) (by omega)
          · refine li_iload hC hl 5 rfl dX8_taste_88 ?_
            refine li_iconst hC dX8_taste_90 ?_
            refine li_ishl hC dX8_taste_91 ?_
            refine li_iload hC hl 0 rfl dX8_taste_92 ?_
            refine li_sipush hC (z := 1000) rfl dX8_taste_94 ?_
            refine li_isub hC dX8_taste_97 ?_
            refine li_aload_n hC hl 2 rfl dX8_taste_98 ?_
            refine li_iload_n hC hl 3 rfl dX8_taste_99 ?_
            refine ro_callSi hC (c_X8_holds l g (nm i.toNat) (ad 1) (S (7 + i).toNat) i (S (14 + i).toNat) (S (21 + i).toNat) (S (28 + i).toNat) (S (35 + i).toNat) ((cvS st) - 1000) p (by omega) (by omega) (by omega) (by omega) (by omega) (by omega) (by omega)) mk_X8_holds ml_X8_162 (rr (by decide)) ⟨Nat.le_of_ble_eq_true rfl, Nat.le_of_ble_eq_true rfl⟩ hK hE (nm_at hP hNm hI (i := i) (by omega)) rfl hl.1 rfl (Nat.le_of_ble_eq_true rfl) dX8_taste_100 ?_
            refine li_ifeq_b (tgt := 110) hC (by decide) dX8_taste_103 (fun c9 => ?_) (fun c9 => ?_)
            · refine li_iconst hC dX8_taste_110 ?_
              refine li_ior hC dX8_taste_111 ?_
              refine li_istore hC (lv' := [(4, .int (iI (ior (ishl z 1) 0))), (6, .int (iI (cvS st))), (0, .ref (ad 3)), (1, .ref (nm i.toNat)), (2, .int (iI p)), (3, .int (iI sum)), (5, .int (iI k))]) hl (by decide) rfl dX8_taste_112 (fun ls hl => ?_)
              refine li_goto (tgt := 164) hC (by decide) dX8_taste_114 ?_
              refine li_iinc hC (lv' := [(5, .int (iI (k + 1))), (4, .int (iI (ior (ishl z 1) 0))), (6, .int (iI (cvS st))), (0, .ref (ad 3)), (1, .ref (nm i.toNat)), (2, .int (iI p)), (3, .int (iI sum))]) hl 6 rfl (by decide) rfl dX8_taste_164 (fun ls hl => ?_)
              refine li_goto (tgt := 8) hC (by decide) dX8_taste_167 ?_
              exact ih8 (k + 1) (ior (ishl z 1) 0) sum _ (lv_sub hl [3, 4, 5, 6, 1, 0] rfl) (by omega) (by rw [show (k + 1).toNat = k.toNat + 1 by omega, evS_n (f := (codeS S)) (i := k.toNat) (by rw [← hst]; omega)]; exact hs) (by have hpu := bits_push (P := testS (xS S i p) st) hb (by omega); rw [show b2 (testS (xS S i p) st) = 0 from b2_f (fun h8 => absurd ((hold_eq (by omega) (by omega) (by omega) (by omega)).mpr h8) c9)] at hpu; rw [show (k + 1).toNat = k.toNat + 1 by omega, depS_t (f := (codeS S)) (i := k.toNat) (by rw [← hst]; omega), evT_t (f := (codeS S)) (i := k.toNat) (by rw [← hst]; omega), ← hst]; exact hpu) (by omega)
            · refine li_iconst hC dX8_taste_106 ?_
              refine li_goto (tgt := 111) hC (by decide) dX8_taste_107 ?_
              refine li_ior hC dX8_taste_111 ?_
              refine li_istore hC (lv' := [(4, .int (iI (ior (ishl z 1) 1))), (6, .int (iI (cvS st))), (0, .ref (ad 3)), (1, .ref (nm i.toNat)), (2, .int (iI p)), (3, .int (iI sum)), (5, .int (iI k))]) hl (by decide) rfl dX8_taste_112 (fun ls hl => ?_)
              refine li_goto (tgt := 164) hC (by decide) dX8_taste_114 ?_
              refine li_iinc hC (lv' := [(5, .int (iI (k + 1))), (4, .int (iI (ior (ishl z 1) 1))), (6, .int (iI (cvS st))), (0, .ref (ad 3)), (1, .ref (nm i.toNat)), (2, .int (iI p)), (3, .int (iI sum))]) hl 6 rfl (by decide) rfl dX8_taste_164 (fun ls hl => ?_)
              refine li_goto (tgt := 8) hC (by decide) dX8_taste_167 ?_
              exact ih8 (k + 1) (ior (ishl z 1) 1) sum _ (lv_sub hl [3, 4, 5, 6, 1, 0] rfl) (by omega) (by rw [show (k + 1).toNat = k.toNat + 1 by omega, evS_n (f := (codeS S)) (i := k.toNat) (by rw [← hst]; omega)]; exact hs) (by have hpu := bits_push (P := testS (xS S i p) st) hb (by omega); rw [show b2 (testS (xS S i p) st) = 1 from b2_t ((hold_eq (by omega) (by omega) (by omega) (by omega)).mp c9)] at hpu; rw [show (k + 1).toNat = k.toNat + 1 by omega, depS_t (f := (codeS S)) (i := k.toNat) (by rw [← hst]; omega), evT_t (f := (codeS S)) (i := k.toNat) (by rw [← hst]; omega), ← hst]; exact hpu) (by omega)
        · refine li_iload hC hl 0 rfl dX8_taste_39 ?_
          refine li_sipush hC (z := 20000) rfl dX8_taste_41 ?_
          refine li_icmp_lt (tgt := 56) hC (by decide) (rg (by omega) (by omega)) (rg (by decide) (by decide)) dX8_taste_44 (fun c10 => ?_) (fun c10 => ?_)
          · refine li_iload hC hl 0 rfl dX8_taste_56 ?_
            refine li_sipush hC (z := 10000) rfl dX8_taste_58 ?_
            refine li_isub hC dX8_taste_61 ?_
            refine li_istore hC (lv' := [(7, .int (iI ((cvS st) - 10000))), (6, .int (iI (cvS st))), (0, .ref (ad 3)), (1, .ref (nm i.toNat)), (2, .int (iI p)), (3, .int (iI sum)), (4, .int (iI z)), (5, .int (iI k))]) hl (by decide) rfl dX8_taste_62 (fun ls hl => ?_)
            have hb9 := bits_top hb (by omega)
            rw [show depS (codeS S) k.toNat = 1 by omega, show ((1 : Int) - 1).toNat = 0 from rfl] at hb9
            have hbr := b2_01 (evT (xS S i p) (codeS S) k.toNat 0)
            have hsr := evS_rng (xS S i p) (codeS S) k.toNat (fun i hi => hC0.2.2 i (by omega))
            have hcl := clS_le (codeS S) k.toNat (manyS S).toNat (by omega)
            have hcm := hC0.2.1
            refine li_iload_n hC hl 5 rfl dX8_taste_64 ?_
            refine li_iload hC hl 6 rfl dX8_taste_65 ?_
            refine li_iconst hC dX8_taste_67 ?_
            refine li_iand hC dX8_taste_68 ?_
            refine li_iload hC hl 0 rfl dX8_taste_69 ?_
            refine li_imul hC dX8_taste_71 ?_
            refine li_iadd hC dX8_taste_72 ?_
            refine li_istore_n hC (lv' := [(3, .int (iI (sum + ((iand z 1) * ((cvS st) - 10000))))), (7, .int (iI ((cvS st) - 10000))), (6, .int (iI (cvS st))), (0, .ref (ad 3)), (1, .ref (nm i.toNat)), (2, .int (iI p)), (4, .int (iI z)), (5, .int (iI k))]) hl (by decide) rfl dX8_taste_73 (fun ls hl => ?_)
            refine li_iconst hC dX8_taste_74 ?_
            refine li_istore hC (lv' := [(4, .int (iI 0)), (3, .int (iI (sum + ((iand z 1) * ((cvS st) - 10000))))), (7, .int (iI ((cvS st) - 10000))), (6, .int (iI (cvS st))), (0, .ref (ad 3)), (1, .ref (nm i.toNat)), (2, .int (iI p)), (5, .int (iI k))]) hl (by decide) rfl dX8_taste_75 (fun ls hl => ?_)
            refine li_goto (tgt := 164) hC (by decide) dX8_taste_77 ?_
            refine li_iinc hC (lv' := [(5, .int (iI (k + 1))), (4, .int (iI 0)), (3, .int (iI (sum + ((iand z 1) * ((cvS st) - 10000))))), (7, .int (iI ((cvS st) - 10000))), (6, .int (iI (cvS st))), (0, .ref (ad 3)), (1, .ref (nm i.toNat)), (2, .int (iI p))]) hl 7 rfl (by decide) rfl dX8_taste_164 (fun ls hl => ?_)
            refine li_goto (tgt := 8) hC (by decide) dX8_taste_167 ?_
            exact ih8 (k + 1) 0 (sum + ((iand z 1) * ((cvS st) - 10000))) _ (lv_sub hl [5, 6, 7, 2, 1, 0] rfl) (by omega) (by rw [show (k + 1).toNat = k.toNat + 1 by omega, evS_c (f := (codeS S)) (i := k.toNat) (by rw [← hst]; omega), ← hst, ← hs, hb9]; congr 2; unfold gainS; split <;> omega) (by rw [show (k + 1).toNat = k.toNat + 1 by omega, depS_c (f := (codeS S)) (i := k.toNat) (by rw [← hst]; omega)]; exact bits_0) (by omega)
          · refine li_sipush hC (z := 20000) rfl dX8_taste_47 ?_
            refine li_iload hC hl 0 rfl dX8_taste_50 ?_
            refine li_isub hC dX8_taste_52 ?_
            refine li_goto (tgt := 62) hC (by decide) dX8_taste_53 ?_
            refine li_istore hC (lv' := [(7, .int (iI (20000 - (cvS st)))), (6, .int (iI (cvS st))), (0, .ref (ad 3)), (1, .ref (nm i.toNat)), (2, .int (iI p)), (3, .int (iI sum)), (4, .int (iI z)), (5, .int (iI k))]) hl (by decide) rfl dX8_taste_62 (fun ls hl => ?_)
            have hb9 := bits_top hb (by omega)
            rw [show depS (codeS S) k.toNat = 1 by omega, show ((1 : Int) - 1).toNat = 0 from rfl] at hb9
            have hbr := b2_01 (evT (xS S i p) (codeS S) k.toNat 0)
            have hsr := evS_rng (xS S i p) (codeS S) k.toNat (fun i hi => hC0.2.2 i (by omega))
            have hcl := clS_le (codeS S) k.toNat (manyS S).toNat (by omega)
            have hcm := hC0.2.1
            refine li_iload_n hC hl 5 rfl dX8_taste_64 ?_
            refine li_iload hC hl 6 rfl dX8_taste_65 ?_
            refine li_iconst hC dX8_taste_67 ?_
            refine li_iand hC dX8_taste_68 ?_
            refine li_iload hC hl 0 rfl dX8_taste_69 ?_
            refine li_imul hC dX8_taste_71 ?_
            refine li_iadd hC dX8_taste_72 ?_
            refine li_istore_n hC (lv' := [(3, .int (iI (sum + ((iand z 1) * (20000 - (cvS st)))))), (7, .int (iI (20000 - (cvS st)))), (6, .int (iI (cvS st))), (0, .ref (ad 3)), (1, .ref (nm i.toNat)), (2, .int (iI p)), (4, .int (iI z)), (5, .int (iI k))]) hl (by decide) rfl dX8_taste_73 (fun ls hl => ?_)
            refine li_iconst hC dX8_taste_74 ?_
            refine li_istore hC (lv' := [(4, .int (iI 0)), (3, .int (iI (sum + ((iand z 1) * (20000 - (cvS st)))))), (7, .int (iI (20000 - (cvS st)))), (6, .int (iI (cvS st))), (0, .ref (ad 3)), (1, .ref (nm i.toNat)), (2, .int (iI p)), (5, .int (iI k))]) hl (by decide) rfl dX8_taste_75 (fun ls hl => ?_)
            refine li_goto (tgt := 164) hC (by decide) dX8_taste_77 ?_
            refine li_iinc hC (lv' := [(5, .int (iI (k + 1))), (4, .int (iI 0)), (3, .int (iI (sum + ((iand z 1) * (20000 - (cvS st)))))), (7, .int (iI (20000 - (cvS st)))), (6, .int (iI (cvS st))), (0, .ref (ad 3)), (1, .ref (nm i.toNat)), (2, .int (iI p))]) hl 7 rfl (by decide) rfl dX8_taste_164 (fun ls hl => ?_)
            refine li_goto (tgt := 8) hC (by decide) dX8_taste_167 ?_
            exact ih8 (k + 1) 0 (sum + ((iand z 1) * (20000 - (cvS st)))) _ (lv_sub hl [5, 6, 7, 2, 1, 0] rfl) (by omega) (by rw [show (k + 1).toNat = k.toNat + 1 by omega, evS_c (f := (codeS S)) (i := k.toNat) (by rw [← hst]; omega), ← hst, ← hs, hb9]; congr 2; unfold gainS; split <;> omega) (by rw [show (k + 1).toNat = k.toNat + 1 by omega, depS_c (f := (codeS S)) (i := k.toNat) (by rw [← hst]; omega)]; exact bits_0) (by omega)
  exact L8_3 (((manyS S - 0).toNat) + 1) 0 0 0 _ (lv_sub hl [3, 4, 5, 2, 1, 0] rfl) (by omega) (by rfl) (by exact bits_0) (by omega)
