theorem okT_mk {E a b : Int} {L : List Int} (h1 : 0 ≤ a ∧ a ≤ 1) (h2 : 0 ≤ b ∧ b ≤ E) (h3 : (L.length : Int) ≤ b) : okT E (a, b, L) := ⟨h1, h2, h3⟩
theorem amG_s {c : Int} {i : Nat} {k : Int} (h : k < (sLen.getD i 0 : Nat)) : amG c i k (((sLen.getD i 0 : Nat) : Int) - k).toNat = if c = chS i k.toNat then k else amG c i (k + 1) (((sLen.getD i 0 : Nat) : Int) - (k + 1)).toNat := by
  have e : (((sLen.getD i 0 : Nat) : Int) - k).toNat = (((sLen.getD i 0 : Nat) : Int) - (k + 1)).toNat + 1 := by omega
  rw [e, amG]
theorem amG_0 {c : Int} {i : Nat} : amG c i 0 (sLen.getD i 0) = amG c i 0 (((sLen.getD i 0 : Nat) : Int) - 0).toNat := by
  rw [show (((sLen.getD i 0 : Nat) : Int) - 0).toNat = sLen.getD i 0 by omega]
theorem pT_s0 {S : Nat → Int} {E o : Int} {n : Nat} {t : PT} (h : 1 ≤ n) (h1 : t.1 = 0) : pT S E n 0 o t = if hereT S E t.2.1 = 33 then emitT (-1) (pT S E (n - 1) 0 (o + 1) (if o = 5 then 1 else 0, if o = 5 then t.2.1 else t.2.1 + 1, t.2.2)) else if hereT S E t.2.1 = 40 then mustT S E 41 (pT S E (n - 1) 2 (o + 1) (if o = 5 then 1 else 0, if o = 5 then t.2.1 else t.2.1 + 1, t.2.2)) else testT S E t := by
  obtain ⟨m, rfl⟩ : ∃ m, n = m + 1 := ⟨n - 1, by omega⟩
  rw [pT, if_neg (fun h9 => h9 h1)]
  rfl
theorem pT_s1 {S : Nat → Int} {E o : Int} {n : Nat} {t : PT} (h : 1 ≤ n) : pT S E n 1 o t = pT S E (n - 1) 3 o (pT S E (n - 1) 0 o t) := by
  obtain ⟨m, rfl⟩ : ∃ m, n = m + 1 := ⟨n - 1, by omega⟩
  rw [pT]
  rfl
theorem pT_s2 {S : Nat → Int} {E o : Int} {n : Nat} {t : PT} (h : 1 ≤ n) : pT S E n 2 o t = pT S E (n - 1) 4 o (pT S E (n - 1) 1 o t) := by
  obtain ⟨m, rfl⟩ : ∃ m, n = m + 1 := ⟨n - 1, by omega⟩
  rw [pT]
  rfl
theorem pT_s3 {S : Nat → Int} {E o : Int} {n : Nat} {t : PT} (h : 1 ≤ n) (h1 : t.1 = 0) (h2 : hereT S E t.2.1 = 38) : pT S E n 3 o t = pT S E (n - 1) 3 o (emitT (-2) (pT S E (n - 1) 0 o (t.1, t.2.1 + 1, t.2.2))) := by
  obtain ⟨m, rfl⟩ : ∃ m, n = m + 1 := ⟨n - 1, by omega⟩
  rw [pT, if_pos ⟨h1, h2⟩]
  rfl
theorem pT_s4 {S : Nat → Int} {E o : Int} {n : Nat} {t : PT} (h : 1 ≤ n) (h1 : t.1 = 0) (h2 : hereT S E t.2.1 = 124) : pT S E n 4 o t = pT S E (n - 1) 4 o (emitT (-3) (pT S E (n - 1) 1 o (t.1, t.2.1 + 1, t.2.2))) := by
  obtain ⟨m, rfl⟩ : ∃ m, n = m + 1 := ⟨n - 1, by omega⟩
  rw [pT, if_pos ⟨h1, h2⟩]
  rfl
theorem pT_e3 {S : Nat → Int} {E o : Int} {n : Nat} {t : PT} (h : t.1 ≠ 0 ∨ hereT S E t.2.1 ≠ 38) : pT S E n 3 o t = t := by
  cases n with
  | zero => rw [pT]
  | succ n => rw [pT, if_neg (fun h9 => h.elim (fun k => k h9.1) (fun k => k h9.2))]
theorem pT_e4 {S : Nat → Int} {E o : Int} {n : Nat} {t : PT} (h : t.1 ≠ 0 ∨ hereT S E t.2.1 ≠ 124) : pT S E n 4 o t = t := by
  cases n with
  | zero => rw [pT]
  | succ n => rw [pT, if_neg (fun h9 => h.elim (fun k => k h9.1) (fun k => k h9.2))]
set_option maxHeartbeats 4000000 in
set_option maxRecDepth 100000 in
theorem c_X12_here (l : Launch) (g : GG) (h0 : Nat) (ad : Nat → Nat) (F : Nat → Int) (A : Nat → Nat → Int) (S0 : Nat → Int) (ac : Int) (E : Int) (o : Int) (t : PT) (hP : PIn S0 ac E) (ht : okT E t) (sz : Nat) : MwrI l g yX12_here cX12_here 1 1 0 0 [.ref h0] sz (RW g h0 ad (va_up (va_up (va_up (va_up (va_up F 4 ac) 5 t.2.1) 6 E) 7 t.1) 8 o) (va_up A 1 (emS S0 ac t.2.2))) (fun v w => v = iI (hereT S0 E t.2.1) ∧ w = RW g h0 ad (va_up (va_up (va_up (va_up (va_up F 4 ac) 5 ((t).2.1)) 6 E) 7 ((t).1)) 8 o) (va_up A 1 (emS S0 ac (t).2.2))) := by
  refine wr_startI (own := RX12) (by decide) rfl (Nat.le_of_ble_eq_true rfl) ?_
  intro Pg Ev s Mi args below Mt Cd ls Q Aw hC hK hS hnm hl hQ
  have hta := ht.1; have htb := ht.2.1; have htc := ht.2.2; have hPa := hP.1; have hPb := hP.2.1
  have hl : lv_has ls 1 [(0, .ref h0)] := hl
  obtain ⟨H, hH⟩ : ∃ H, H = s.heap := ⟨_, rfl⟩
  obtain ⟨locs, hlo⟩ : ∃ locs : List Loc, locs = [] := ⟨_, rfl⟩
  have hS : St g Aw s.heap H locs (RW g h0 ad (va_up (va_up (va_up (va_up (va_up F 4 ac) 5 t.2.1) 6 E) 7 t.1) 8 o) (va_up A 1 (emS S0 ac t.2.2))) := by rw [hH, hlo]; exact hS
  have goal : W Pg l Ev (rmC 1 0 0) s Mi args below Mt Cd H locs 0 0 Q (F0 Mi 0 ls []) := ?goal
  · rw [hH, hlo] at goal; exact goal
  clear hH hlo
  refine li_aload_n hC hl 0 rfl dX12_here_0 ?_
  refine li_get hC hK.1 ck_X12 (hS.1 0 _ rfl) 5 (by decide) fl_X12_60 rfl (v := .int (iI t.2.1)) rfl dX12_here_1 ?_
  refine li_aload_n hC hl 0 rfl dX12_here_4 ?_
  refine li_get hC hK.1 ck_X12 (hS.1 0 _ rfl) 6 (by decide) fl_X12_63 rfl (v := .int (iI E)) rfl dX12_here_5 ?_
  refine li_icmp_ge (tgt := 26) hC (by decide) (rg (by omega) (by omega)) (rg (by omega) (by omega)) dX12_here_8 (fun c1 => ?_) (fun c1 => ?_)
  · refine li_iconst hC dX12_here_26 ?_
    exact hQ _ _ _ _ _ _ _ _ dX12_here_27 hS (by omega) (by omega) (⟨iI_inj (by unfold hereT; first | (rw [if_pos (by assumption)]; done) | (rw [if_neg (by omega)]; done)), rfl⟩)
  · refine li_aload_n hC hl 0 rfl dX12_here_11 ?_
    refine li_get hC hK.1 ck_X12 (hS.1 0 _ rfl) 1 (by decide) fl_X12_9 rfl (v := .ref (ad 1)) rfl dX12_here_12 ?_
    refine li_bipush hC (z := 124) rfl dX12_here_15 ?_
    refine li_aload_n hC hl 0 rfl dX12_here_17 ?_
    refine li_get hC hK.1 ck_X12 (hS.1 0 _ rfl) 5 (by decide) fl_X12_60 rfl (v := .int (iI t.2.1)) rfl dX12_here_18 ?_
    refine li_iadd hC dX12_here_21 ?_
    refine li_iald (f := (emS S0 ac t.2.2)) hC hK.1 (hS.1 1 _ rfl) ⟨by omega, by omega⟩ (by decide) dX12_here_22 ?_
    rw [emS_tape hP _ (by omega)]
    have q2 := hP.2.2.2 t.2.1 (by omega) (by omega)
    refine li_goto (tgt := 27) hC (by decide) dX12_here_23 ?_
    exact hQ _ _ _ _ _ _ _ _ dX12_here_27 hS (by omega) (by omega) (⟨iI_inj (by unfold hereT; first | (rw [if_pos (by assumption)]; done) | (rw [if_neg (by omega)]; done)), rfl⟩)
set_option maxHeartbeats 4000000 in
set_option maxRecDepth 100000 in
theorem c_X12_must (l : Launch) (g : GG) (h0 : Nat) (ad : Nat → Nat) (F : Nat → Int) (A : Nat → Nat → Int) (S0 : Nat → Int) (ac : Int) (E : Int) (o : Int) (t : PT) (c : Int) (hP : PIn S0 ac E) (ht : okT E t) (hc : 0 ≤ c ∧ c ≤ 127) (sz : Nat) : MwrV l g yX12_must cX12_must 2 2 0 0 [.ref h0, .int (iI c)] sz (RW g h0 ad (va_up (va_up (va_up (va_up (va_up F 4 ac) 5 t.2.1) 6 E) 7 t.1) 8 o) (va_up A 1 (emS S0 ac t.2.2))) (fun w => w = RW g h0 ad (va_up (va_up (va_up (va_up (va_up F 4 ac) 5 ((mustT S0 E c t).2.1)) 6 E) 7 ((mustT S0 E c t).1)) 8 o) (va_up A 1 (emS S0 ac (mustT S0 E c t).2.2))) := by
  refine wr_startV (own := RX12) (by decide) rfl (Nat.le_of_ble_eq_true rfl) ?_
  intro Pg Ev s Mi args below Mt Cd ls Q Aw hC hK hS hnm hl hQ
  have hta := ht.1; have htb := ht.2.1; have htc := ht.2.2; have hPa := hP.1; have hPb := hP.2.1
  have hl : lv_has ls 2 [(0, .ref h0), (1, .int (iI c))] := hl
  obtain ⟨H, hH⟩ : ∃ H, H = s.heap := ⟨_, rfl⟩
  obtain ⟨locs, hlo⟩ : ∃ locs : List Loc, locs = [] := ⟨_, rfl⟩
  have hS : St g Aw s.heap H locs (RW g h0 ad (va_up (va_up (va_up (va_up (va_up F 4 ac) 5 t.2.1) 6 E) 7 t.1) 8 o) (va_up A 1 (emS S0 ac t.2.2))) := by rw [hH, hlo]; exact hS
  have goal : W Pg l Ev (rmC 2 0 0) s Mi args below Mt Cd H locs 0 0 Q (F0 Mi 0 ls []) := ?goal
  · rw [hH, hlo] at goal; exact goal
  clear hH hlo
  refine li_aload_n hC hl 0 rfl dX12_must_0 ?_
  refine li_aload_n hC hl 0 rfl dX12_must_1 ?_
  refine li_get hC hK.1 ck_X12 (hS.1 0 _ rfl) 7 (by decide) fl_X12_66 rfl (v := .int (iI t.1)) rfl dX12_must_2 ?_
  refine li_if_ne (tgt := 16) hC (by decide) (rg (by omega) (by omega)) dX12_must_5 (fun c1 => ?_) (fun c1 => ?_)
  · refine li_iconst hC dX12_must_16 ?_
    refine li_goto (tgt := 21) hC (by decide) dX12_must_17 ?_
    refine li_put hC hK hS ck_X12 0 rfl 7 (by decide) fl_X12_66 rfl rfl (v := .int (iI 1)) (nar_01 (Or.inr rfl)) (fit_01 (Or.inr rfl)) (Nat.le_of_ble_eq_true rfl) (ws' := RW g h0 ad (va_up (va_up (va_up (va_up (va_up F 4 ac) 5 t.2.1) 6 E) 7 1) 8 o) (va_up A 1 (emS S0 ac t.2.2))) rfl dX12_must_21 (fun H locs hS => ?_)
    refine li_aload_n hC hl 0 rfl dX12_must_24 ?_
    refine li_dup hC rfl dX12_must_25 ?_
    refine li_get hC hK.1 ck_X12 (hS.1 0 _ rfl) 5 (by decide) fl_X12_60 rfl (v := .int (iI t.2.1)) rfl dX12_must_26 ?_
    refine li_aload_n hC hl 0 rfl dX12_must_29 ?_
    refine li_get hC hK.1 ck_X12 (hS.1 0 _ rfl) 7 (by decide) fl_X12_66 rfl (v := .int (iI 1)) rfl dX12_must_30 ?_
    refine li_if_eq (tgt := 40) hC (by decide) (rg (by decide) (by decide)) dX12_must_33 (fun c2 => ?_) (fun c2 => ?_)
    · exact absurd c2 (by decide)
    · refine li_iconst hC dX12_must_36 ?_
      refine li_goto (tgt := 41) hC (by decide) dX12_must_37 ?_
      refine li_iadd hC dX12_must_41 ?_
      refine li_put hC hK hS ck_X12 0 rfl 5 (by decide) fl_X12_60 rfl rfl (v := .int (iI (t.2.1 + 0))) rfl rfl (Nat.le_of_ble_eq_true rfl) (ws' := RW g h0 ad (va_up (va_up (va_up (va_up (va_up F 4 ac) 5 (t.2.1 + 0)) 6 E) 7 1) 8 o) (va_up A 1 (emS S0 ac t.2.2))) rfl dX12_must_42 (fun H locs hS => ?_)
      exact hQ _ _ _ _ _ _ _ dX12_must_45 hS (by omega) (by omega) (by unfold mustT; first | (rw [if_pos (by omega)]; first | rfl | (simp only [Int.add_zero]; done) | (simp only [Int.add_zero]; rfl)) | (rw [if_neg (by omega)]; done) | (rw [if_neg (by omega)]; first | rfl | (simp only [Int.add_zero]; done) | (simp only [Int.add_zero]; rfl)))
  · refine li_aload_n hC hl 0 rfl dX12_must_8 ?_
    refine wr_callVi hC (c_X12_here l g h0 ad F A S0 ac E o t hP ht _) mk_X12_here ml_X12_70 (rr (by decide)) ⟨by simp only [rmC]; omega, by simp only [rmC]; omega⟩ hK hS (li_recv hK.1 ck_X12 (hS.1 0 _ rfl)) rfl hl.1 rfl (Nat.le_of_ble_eq_true rfl) dX12_must_9 (fun v w H locs hp hS => ?_)
    obtain ⟨hp1, hp2⟩ := hp
    have hp1 : v = iI (hereT S0 E t.2.1) := hp1
    have hp2 : w = RW g h0 ad (va_up (va_up (va_up (va_up (va_up F 4 ac) 5 t.2.1) 6 E) 7 t.1) 8 o) (va_up A 1 (emS S0 ac t.2.2)) := hp2
    subst hp1 hp2
    have q3 := hereT_rng hP (q := t.2.1) (by omega)
    refine li_iload_n hC hl 1 rfl dX12_must_12 ?_
    refine li_icmp_eq (tgt := 20) hC (by decide) (rg (by omega) (by omega)) (rg (by omega) (by omega)) dX12_must_13 (fun c4 => ?_) (fun c4 => ?_)
    · refine li_iconst hC dX12_must_20 ?_
      refine li_put hC hK hS ck_X12 0 rfl 7 (by decide) fl_X12_66 rfl rfl (v := .int (iI 0)) (nar_01 (Or.inl rfl)) (fit_01 (Or.inl rfl)) (Nat.le_of_ble_eq_true rfl) (ws' := RW g h0 ad (va_up (va_up (va_up (va_up (va_up F 4 ac) 5 t.2.1) 6 E) 7 0) 8 o) (va_up A 1 (emS S0 ac t.2.2))) rfl dX12_must_21 (fun H locs hS => ?_)
      refine li_aload_n hC hl 0 rfl dX12_must_24 ?_
      refine li_dup hC rfl dX12_must_25 ?_
      refine li_get hC hK.1 ck_X12 (hS.1 0 _ rfl) 5 (by decide) fl_X12_60 rfl (v := .int (iI t.2.1)) rfl dX12_must_26 ?_
      refine li_aload_n hC hl 0 rfl dX12_must_29 ?_
      refine li_get hC hK.1 ck_X12 (hS.1 0 _ rfl) 7 (by decide) fl_X12_66 rfl (v := .int (iI 0)) rfl dX12_must_30 ?_
      refine li_if_eq (tgt := 40) hC (by decide) (rg (by decide) (by decide)) dX12_must_33 (fun c5 => ?_) (fun c5 => ?_)
      · refine li_iconst hC dX12_must_40 ?_
        refine li_iadd hC dX12_must_41 ?_
        refine li_put hC hK hS ck_X12 0 rfl 5 (by decide) fl_X12_60 rfl rfl (v := .int (iI (t.2.1 + 1))) rfl rfl (Nat.le_of_ble_eq_true rfl) (ws' := RW g h0 ad (va_up (va_up (va_up (va_up (va_up F 4 ac) 5 (t.2.1 + 1)) 6 E) 7 0) 8 o) (va_up A 1 (emS S0 ac t.2.2))) rfl dX12_must_42 (fun H locs hS => ?_)
        exact hQ _ _ _ _ _ _ _ dX12_must_45 hS (by omega) (by omega) (by unfold mustT; first | (rw [if_pos (by omega)]; first | rfl | (simp only [Int.add_zero]; done) | (simp only [Int.add_zero]; rfl)) | (rw [if_neg (by omega)]; done) | (rw [if_neg (by omega)]; first | rfl | (simp only [Int.add_zero]; done) | (simp only [Int.add_zero]; rfl)))
      · exact absurd c5 (by decide)
    · refine li_iconst hC dX12_must_16 ?_
      refine li_goto (tgt := 21) hC (by decide) dX12_must_17 ?_
      refine li_put hC hK hS ck_X12 0 rfl 7 (by decide) fl_X12_66 rfl rfl (v := .int (iI 1)) (nar_01 (Or.inr rfl)) (fit_01 (Or.inr rfl)) (Nat.le_of_ble_eq_true rfl) (ws' := RW g h0 ad (va_up (va_up (va_up (va_up (va_up F 4 ac) 5 t.2.1) 6 E) 7 1) 8 o) (va_up A 1 (emS S0 ac t.2.2))) rfl dX12_must_21 (fun H locs hS => ?_)
      refine li_aload_n hC hl 0 rfl dX12_must_24 ?_
      refine li_dup hC rfl dX12_must_25 ?_
      refine li_get hC hK.1 ck_X12 (hS.1 0 _ rfl) 5 (by decide) fl_X12_60 rfl (v := .int (iI t.2.1)) rfl dX12_must_26 ?_
      refine li_aload_n hC hl 0 rfl dX12_must_29 ?_
      refine li_get hC hK.1 ck_X12 (hS.1 0 _ rfl) 7 (by decide) fl_X12_66 rfl (v := .int (iI 1)) rfl dX12_must_30 ?_
      refine li_if_eq (tgt := 40) hC (by decide) (rg (by decide) (by decide)) dX12_must_33 (fun c6 => ?_) (fun c6 => ?_)
      · exact absurd c6 (by decide)
      · refine li_iconst hC dX12_must_36 ?_
        refine li_goto (tgt := 41) hC (by decide) dX12_must_37 ?_
        refine li_iadd hC dX12_must_41 ?_
        refine li_put hC hK hS ck_X12 0 rfl 5 (by decide) fl_X12_60 rfl rfl (v := .int (iI (t.2.1 + 0))) rfl rfl (Nat.le_of_ble_eq_true rfl) (ws' := RW g h0 ad (va_up (va_up (va_up (va_up (va_up F 4 ac) 5 (t.2.1 + 0)) 6 E) 7 1) 8 o) (va_up A 1 (emS S0 ac t.2.2))) rfl dX12_must_42 (fun H locs hS => ?_)
        exact hQ _ _ _ _ _ _ _ dX12_must_45 hS (by omega) (by omega) (by unfold mustT; first | (rw [if_pos (by omega)]; first | rfl | (simp only [Int.add_zero]; done) | (simp only [Int.add_zero]; rfl)) | (rw [if_neg (by omega)]; done) | (rw [if_neg (by omega)]; first | rfl | (simp only [Int.add_zero]; done) | (simp only [Int.add_zero]; rfl)))
set_option maxHeartbeats 4000000 in
set_option maxRecDepth 100000 in
theorem c_X12_spells (l : Launch) (g : GG) (h0 : Nat) (ad : Nat → Nat) (F : Nat → Int) (A : Nat → Nat → Int) (S0 : Nat → Int) (ac : Int) (E : Int) (o : Int) (t : PT) (i : Nat) (hP : PIn S0 ac E) (ht : okT E t) (hi : i < 6) (sz : Nat) : MwrV l g yX12_spells cX12_spells 3 6 0 0 [.ref h0, .ref (g.2.2.1 i)] sz (RW g h0 ad (va_up (va_up (va_up (va_up (va_up F 4 ac) 5 t.2.1) 6 E) 7 t.1) 8 o) (va_up A 1 (emS S0 ac t.2.2))) (fun w => w = RW g h0 ad (va_up (va_up (va_up (va_up (va_up F 4 ac) 5 ((spellT S0 E i (sLen.getD i 0) t).2.1)) 6 E) 7 ((spellT S0 E i (sLen.getD i 0) t).1)) 8 o) (va_up A 1 (emS S0 ac (spellT S0 E i (sLen.getD i 0) t).2.2))) := by
  refine wr_startV (own := RX12) (by decide) rfl (Nat.le_of_ble_eq_true rfl) ?_
  intro Pg Ev s Mi args below Mt Cd ls Q Aw hC hK hS hnm hl hQ
  have hta := ht.1; have htb := ht.2.1; have htc := ht.2.2; have hPa := hP.1; have hPb := hP.2.1
  have hs6 := sLen_ok i hi
  have hl : lv_has ls 3 [(0, .ref h0), (1, .ref (g.2.2.1 i))] := hl
  obtain ⟨H, hH⟩ : ∃ H, H = s.heap := ⟨_, rfl⟩
  obtain ⟨locs, hlo⟩ : ∃ locs : List Loc, locs = [] := ⟨_, rfl⟩
  have hS : St g Aw s.heap H locs (RW g h0 ad (va_up (va_up (va_up (va_up (va_up F 4 ac) 5 t.2.1) 6 E) 7 t.1) 8 o) (va_up A 1 (emS S0 ac t.2.2))) := by rw [hH, hlo]; exact hS
  have goal : W Pg l Ev (rmC 6 0 0) s Mi args below Mt Cd H locs 0 0 Q (F0 Mi 0 ls []) := ?goal
  · rw [hH, hlo] at goal; exact goal
  clear hH hlo
  refine li_iconst hC dX12_spells_0 ?_
  refine li_istore_n hC (lv' := [(2, .int (iI 0)), (0, .ref h0), (1, .ref (g.2.2.1 i))]) hl (by decide) rfl dX12_spells_1 (fun ls hl => ?_)
  have L2_1 : ∀ (fuel : Nat) (k : Int) (u : PT) (ls : Array Slot) (H : Heap) (locs : List Loc), St g Aw s.heap H locs (RW g h0 ad (va_up (va_up (va_up (va_up (va_up F 4 ac) 5 u.2.1) 6 E) 7 u.1) 8 o) (va_up A 1 (emS S0 ac u.2.2))) → lv_has ls 3 [(0, .ref h0), (1, .ref (g.2.2.1 i)), (2, .int (iI k))] → (0 ≤ k ∧ k ≤ ((sLen.getD i 0 : Nat) : Int)) → (okT E u ∧ u = spellT S0 E i k.toNat t) → ((((sLen.getD i 0 : Nat) : Int) - k).toNat) < fuel → W Pg l Ev (rmC 6 0 0) s Mi args below Mt Cd H locs 0 0 Q (F0 Mi 2 ls []) := by
    intro fuel
    induction fuel with
    | zero => intro k u ls H locs hS hl hk hu hm; exact absurd hm (Nat.not_lt_zero _)
    | succ fuel ih2 =>
      intro k u ls H locs hS hl hk hu hm
      have hua := hu.1.1; have hub := hu.1.2.1; have huc := hu.1.2.2
      refine li_iload_n hC hl 2 rfl dX12_spells_2 ?_
      refine li_aload_n hC hl 1 rfl dX12_spells_3 ?_
      refine ro_callVi hC (c_J0_length_8abf5 l g hi) mk_J0_length_8abf5 ml_X12_74 (rr (by decide)) ⟨Nat.zero_le _, Nat.zero_le _⟩ hK.1 (hS.ro hK) trivial (str_recv hK.2.1 hi hS.2.2) rfl hl.1 rfl (Nat.le_of_ble_eq_true rfl) dX12_spells_4 ?_
      refine li_icmp_ge (tgt := 25) hC (by decide) (rg (by omega) (by omega)) (rg (by omega) (by omega)) dX12_spells_7 (fun c2 => ?_) (fun c2 => ?_)
      · exact hQ _ _ _ _ _ _ _ dX12_spells_25 hS (by omega) (by omega) (by rw [hu.2, show k.toNat = sLen.getD i 0 by omega])
      · refine li_aload_n hC hl 0 rfl dX12_spells_10 ?_
        refine li_aload_n hC hl 1 rfl dX12_spells_11 ?_
        refine li_iload_n hC hl 2 rfl dX12_spells_12 ?_
        refine ro_callVi hC (c_J0_charAt_5068e l g (k := k) hi ⟨by omega, by omega⟩) mk_J0_charAt_5068e ml_X12_79 (rr (by decide)) ⟨Nat.zero_le _, Nat.zero_le _⟩ hK.1 (hS.ro hK) trivial (str_recv hK.2.1 hi hS.2.2) rfl hl.1 rfl (Nat.le_of_ble_eq_true rfl) dX12_spells_13 ?_
        have q3 := chS_nn hi (show k.toNat < sLen.getD i 0 by omega)
        refine wr_callVv hC (c_X12_must l g h0 ad F A S0 ac E o u (chS i k.toNat) hP hu.1 (by omega) _) mk_X12_must ml_X12_83 (rr (by decide)) ⟨by simp only [rmC]; omega, by simp only [rmC]; omega⟩ hK hS (li_recv hK.1 ck_X12 (hS.1 0 _ rfl)) rfl hl.1 rfl (Nat.le_of_ble_eq_true rfl) dX12_spells_16 (fun w H locs hp hS => ?_)
        have hp : w = RW g h0 ad (va_up (va_up (va_up (va_up (va_up F 4 ac) 5 ((mustT S0 E (chS i k.toNat) u).2.1)) 6 E) 7 ((mustT S0 E (chS i k.toNat) u).1)) 8 o) (va_up A 1 (emS S0 ac (mustT S0 E (chS i k.toNat) u).2.2)) := hp
        obtain ⟨t4, ht4⟩ : ∃ z : PT, z = mustT S0 E (chS i k.toNat) u := ⟨_, rfl⟩
        rw [← ht4] at hp
        subst hp
        obtain ⟨okt4, get4⟩ := mustT_ok (c := chS i k.toNat) hP hu.1 (by omega)
        rw [← ht4] at okt4 get4
        have t4a := okt4.1; have t4b := okt4.2.1; have t4c := okt4.2.2; have t4d := get4.1; have t4e := get4.2; try dsimp only at t4d t4e
        refine li_iinc hC (lv' := [(2, .int (iI (k + 1))), (0, .ref h0), (1, .ref (g.2.2.1 i))]) hl 2 rfl (by decide) rfl dX12_spells_19 (fun ls hl => ?_)
        refine li_goto (tgt := 2) hC (by decide) dX12_spells_22 ?_
        exact ih2 (k + 1) t4 _ _ _ hS (lv_sub hl [1, 2, 0] rfl) (by omega) (by exact ⟨okt4, by rw [spellT_s hk.1, ← hu.2]; exact ht4⟩) (by omega)
  exact L2_1 (((((sLen.getD i 0 : Nat) : Int) - 0).toNat) + 1) 0 t _ _ _ hS (lv_sub hl [1, 2, 0] rfl) (by omega) (by exact ⟨ht, rfl⟩) (by omega)
set_option maxHeartbeats 4000000 in
set_option maxRecDepth 100000 in
theorem c_X12_figures (l : Launch) (g : GG) (h0 : Nat) (ad : Nat → Nat) (F : Nat → Int) (A : Nat → Nat → Int) (S0 : Nat → Int) (ac : Int) (E : Int) (o : Int) (t : PT) (hP : PIn S0 ac E) (ht : okT E t) (sz : Nat) : MwrI l g yX12_figures cX12_figures 3 2 0 0 [.ref h0] sz (RW g h0 ad (va_up (va_up (va_up (va_up (va_up F 4 ac) 5 t.2.1) 6 E) 7 t.1) 8 o) (va_up A 1 (emS S0 ac t.2.2))) (fun v w => v = iI (figV S0 E t) ∧ w = RW g h0 ad (va_up (va_up (va_up (va_up (va_up F 4 ac) 5 ((figT S0 E t).2.1)) 6 E) 7 ((figT S0 E t).1)) 8 o) (va_up A 1 (emS S0 ac (figT S0 E t).2.2))) := by
  refine wr_startI (own := RX12) (by decide) rfl (Nat.le_of_ble_eq_true rfl) ?_
  intro Pg Ev s Mi args below Mt Cd ls Q Aw hC hK hS hnm hl hQ
  have hta := ht.1; have htb := ht.2.1; have htc := ht.2.2; have hPa := hP.1; have hPb := hP.2.1
  have hl : lv_has ls 3 [(0, .ref h0)] := hl
  obtain ⟨H, hH⟩ : ∃ H, H = s.heap := ⟨_, rfl⟩
  obtain ⟨locs, hlo⟩ : ∃ locs : List Loc, locs = [] := ⟨_, rfl⟩
  have hS : St g Aw s.heap H locs (RW g h0 ad (va_up (va_up (va_up (va_up (va_up F 4 ac) 5 t.2.1) 6 E) 7 t.1) 8 o) (va_up A 1 (emS S0 ac t.2.2))) := by rw [hH, hlo]; exact hS
  have goal : W Pg l Ev (rmC 2 0 0) s Mi args below Mt Cd H locs 0 0 Q (F0 Mi 0 ls []) := ?goal
  · rw [hH, hlo] at goal; exact goal
  clear hH hlo
  refine li_aload_n hC hl 0 rfl dX12_figures_0 ?_
  refine li_aload_n hC hl 0 rfl dX12_figures_1 ?_
  refine li_get hC hK.1 ck_X12 (hS.1 0 _ rfl) 7 (by decide) fl_X12_66 rfl (v := .int (iI t.1)) rfl dX12_figures_2 ?_
  refine li_if_ne (tgt := 22) hC (by decide) (rg (by omega) (by omega)) dX12_figures_5 (fun c1 => ?_) (fun c1 => ?_)
  · refine li_iconst hC dX12_figures_22 ?_
    refine li_goto (tgt := 27) hC (by decide) dX12_figures_23 ?_
    refine li_put hC hK hS ck_X12 0 rfl 7 (by decide) fl_X12_66 rfl rfl (v := .int (iI 1)) (nar_01 (Or.inr rfl)) (fit_01 (Or.inr rfl)) (Nat.le_of_ble_eq_true rfl) (ws' := RW g h0 ad (va_up (va_up (va_up (va_up (va_up F 4 ac) 5 t.2.1) 6 E) 7 1) 8 o) (va_up A 1 (emS S0 ac t.2.2))) rfl dX12_figures_27 (fun H locs hS => ?_)
    refine li_iconst hC dX12_figures_30 ?_
    refine li_istore_n hC (lv' := [(1, .int (iI 0)), (0, .ref h0)]) hl (by decide) rfl dX12_figures_31 (fun ls hl => ?_)
    refine li_iconst hC dX12_figures_32 ?_
    refine li_istore_n hC (lv' := [(2, .int (iI 0)), (1, .int (iI 0)), (0, .ref h0)]) hl (by decide) rfl dX12_figures_33 (fun ls hl => ?_)
    refine li_iload_n hC hl 0 rfl dX12_figures_34 ?_
    refine li_iconst hC dX12_figures_35 ?_
    refine li_icmp_ge (tgt := 97) hC (by decide) (rg (by decide) (by decide)) (rg (by decide) (by decide)) dX12_figures_36 (fun c2 => ?_) (fun c2 => ?_)
    · exact absurd c2 (by decide)
    · refine li_aload_n hC hl 2 rfl dX12_figures_39 ?_
      refine li_get hC hK.1 ck_X12 (hS.1 0 _ rfl) 7 (by decide) fl_X12_66 rfl (v := .int (iI 1)) rfl dX12_figures_40 ?_
      refine li_if_ne (tgt := 97) hC (by decide) (rg (by decide) (by decide)) dX12_figures_43 (fun c3 => ?_) (fun c3 => ?_)
      · refine li_iload_n hC hl 1 rfl dX12_figures_97 ?_
        exact hQ _ _ _ _ _ _ _ _ dX12_figures_98 hS (by omega) (by omega) (by unfold figV figT digit; first | (exfalso; omega) | (rw [iteP_t (by omega), iteP_t (by omega), iteP_t (by omega), iteP_t (by omega)]; exact ⟨iI_inj (by omega), by rw [show (t.2.1 + 1) + 1 = t.2.1 + 2 by omega]⟩) | (rw [iteP_t (by omega), iteP_f (by omega), iteP_t (by omega), iteP_f (by omega)]; exact ⟨iI_inj (by omega), rfl⟩) | (rw [iteP_f (by omega), iteP_f (by omega)]; exact ⟨iI_inj (by omega), rfl⟩))
      · exact absurd c3 (by decide)
  · refine li_aload_n hC hl 0 rfl dX12_figures_8 ?_
    refine wr_callVi hC (c_X12_here l g h0 ad F A S0 ac E o t hP ht _) mk_X12_here ml_X12_70 (rr (by decide)) ⟨by simp only [rmC]; omega, by simp only [rmC]; omega⟩ hK hS (li_recv hK.1 ck_X12 (hS.1 0 _ rfl)) rfl hl.1 rfl (Nat.le_of_ble_eq_true rfl) dX12_figures_9 (fun v w H locs hp hS => ?_)
    obtain ⟨hp1, hp2⟩ := hp
    have hp1 : v = iI (hereT S0 E t.2.1) := hp1
    have hp2 : w = RW g h0 ad (va_up (va_up (va_up (va_up (va_up F 4 ac) 5 t.2.1) 6 E) 7 t.1) 8 o) (va_up A 1 (emS S0 ac t.2.2)) := hp2
    subst hp1 hp2
    have q4 := hereT_rng hP (q := t.2.1) (by omega)
    refine li_bipush hC (z := 48) rfl dX12_figures_12 ?_
    refine li_bipush hC (z := 57) rfl dX12_figures_14 ?_
    refine ro_callSi hC (c_X12_in l g (hereT S0 E t.2.1) 48 57 (rg (by omega) (by omega)) (rg (by decide) (by decide)) (rg (by decide) (by decide))) mk_X12_in ml_X12_56 (rr (by decide)) ⟨Nat.le_of_ble_eq_true rfl, Nat.le_of_ble_eq_true rfl⟩ hK.1 (hS.ro hK) trivial rfl hl.1 rfl (Nat.le_of_ble_eq_true rfl) dX12_figures_16 ?_
    refine li_ifne_b (tgt := 26) hC (by decide) dX12_figures_19 (fun c5 => ?_) (fun c5 => ?_)
    · refine li_iconst hC dX12_figures_26 ?_
      refine li_put hC hK hS ck_X12 0 rfl 7 (by decide) fl_X12_66 rfl rfl (v := .int (iI 0)) (nar_01 (Or.inl rfl)) (fit_01 (Or.inl rfl)) (Nat.le_of_ble_eq_true rfl) (ws' := RW g h0 ad (va_up (va_up (va_up (va_up (va_up F 4 ac) 5 t.2.1) 6 E) 7 0) 8 o) (va_up A 1 (emS S0 ac t.2.2))) rfl dX12_figures_27 (fun H locs hS => ?_)
      refine li_iconst hC dX12_figures_30 ?_
      refine li_istore_n hC (lv' := [(1, .int (iI 0)), (0, .ref h0)]) hl (by decide) rfl dX12_figures_31 (fun ls hl => ?_)
      refine li_iconst hC dX12_figures_32 ?_
      refine li_istore_n hC (lv' := [(2, .int (iI 0)), (1, .int (iI 0)), (0, .ref h0)]) hl (by decide) rfl dX12_figures_33 (fun ls hl => ?_)
      refine li_iload_n hC hl 0 rfl dX12_figures_34 ?_
      refine li_iconst hC dX12_figures_35 ?_
      refine li_icmp_ge (tgt := 97) hC (by decide) (rg (by decide) (by decide)) (rg (by decide) (by decide)) dX12_figures_36 (fun c6 => ?_) (fun c6 => ?_)
      · exact absurd c6 (by decide)
      · refine li_aload_n hC hl 2 rfl dX12_figures_39 ?_
        refine li_get hC hK.1 ck_X12 (hS.1 0 _ rfl) 7 (by decide) fl_X12_66 rfl (v := .int (iI 0)) rfl dX12_figures_40 ?_
        refine li_if_ne (tgt := 97) hC (by decide) (rg (by decide) (by decide)) dX12_figures_43 (fun c7 => ?_) (fun c7 => ?_)
        · exact absurd c7 (by decide)
        · refine li_aload_n hC hl 2 rfl dX12_figures_46 ?_
          refine wr_callVi hC (c_X12_here l g h0 ad F A S0 ac E o (0, t.2.1, t.2.2) hP (okT_mk (by omega) (by omega) (by omega)) _) mk_X12_here ml_X12_70 (rr (by decide)) ⟨by simp only [rmC]; omega, by simp only [rmC]; omega⟩ hK hS (li_recv hK.1 ck_X12 (hS.1 0 _ rfl)) rfl hl.1 rfl (Nat.le_of_ble_eq_true rfl) dX12_figures_47 (fun v w H locs hp hS => ?_)
          obtain ⟨hp1, hp2⟩ := hp
          have hp1 : v = iI (hereT S0 E t.2.1) := hp1
          have hp2 : w = RW g h0 ad (va_up (va_up (va_up (va_up (va_up F 4 ac) 5 t.2.1) 6 E) 7 0) 8 o) (va_up A 1 (emS S0 ac t.2.2)) := hp2
          subst hp1 hp2
          have q8 := hereT_rng hP (q := t.2.1) (by omega)
          refine li_bipush hC (z := 48) rfl dX12_figures_50 ?_
          refine li_bipush hC (z := 57) rfl dX12_figures_52 ?_
          refine ro_callSi hC (c_X12_in l g (hereT S0 E t.2.1) 48 57 (rg (by omega) (by omega)) (rg (by decide) (by decide)) (rg (by decide) (by decide))) mk_X12_in ml_X12_56 (rr (by decide)) ⟨Nat.le_of_ble_eq_true rfl, Nat.le_of_ble_eq_true rfl⟩ hK.1 (hS.ro hK) trivial rfl hl.1 rfl (Nat.le_of_ble_eq_true rfl) dX12_figures_54 ?_
          refine li_ifeq_b (tgt := 97) hC (by decide) dX12_figures_57 (fun c9 => ?_) (fun c9 => ?_)
          · refine li_iload_n hC hl 1 rfl dX12_figures_97 ?_
            exact hQ _ _ _ _ _ _ _ _ dX12_figures_98 hS (by omega) (by omega) (by unfold figV figT digit; first | (exfalso; omega) | (rw [iteP_t (by omega), iteP_t (by omega), iteP_t (by omega), iteP_t (by omega)]; exact ⟨iI_inj (by omega), by rw [show (t.2.1 + 1) + 1 = t.2.1 + 2 by omega]⟩) | (rw [iteP_t (by omega), iteP_f (by omega), iteP_t (by omega), iteP_f (by omega)]; exact ⟨iI_inj (by omega), rfl⟩) | (rw [iteP_f (by omega), iteP_f (by omega)]; exact ⟨iI_inj (by omega), rfl⟩))
          · refine li_iload_n hC hl 0 rfl dX12_figures_60 ?_
            refine li_if_eq (tgt := 68) hC (by decide) (rg (by decide) (by decide)) dX12_figures_61 (fun c10 => ?_) (fun c10 => ?_)
            · refine li_bipush hC (z := 10) rfl dX12_figures_68 ?_
              refine li_iload_n hC hl 1 rfl dX12_figures_70 ?_
              refine li_imul hC dX12_figures_71 ?_
              refine li_aload_n hC hl 2 rfl dX12_figures_72 ?_
              refine wr_callVi hC (c_X12_here l g h0 ad F A S0 ac E o (0, t.2.1, t.2.2) hP (okT_mk (by omega) (by omega) (by omega)) _) mk_X12_here ml_X12_70 (rr (by decide)) ⟨by simp only [rmC]; omega, by simp only [rmC]; omega⟩ hK hS (li_recv hK.1 ck_X12 (hS.1 0 _ rfl)) rfl hl.1 rfl (Nat.le_of_ble_eq_true rfl) dX12_figures_73 (fun v w H locs hp hS => ?_)
              obtain ⟨hp1, hp2⟩ := hp
              have hp1 : v = iI (hereT S0 E t.2.1) := hp1
              have hp2 : w = RW g h0 ad (va_up (va_up (va_up (va_up (va_up F 4 ac) 5 t.2.1) 6 E) 7 0) 8 o) (va_up A 1 (emS S0 ac t.2.2)) := hp2
              subst hp1 hp2
              have q11 := hereT_rng hP (q := t.2.1) (by omega)
              refine li_iadd hC dX12_figures_76 ?_
              refine li_bipush hC (z := 48) rfl dX12_figures_77 ?_
              refine li_isub hC dX12_figures_79 ?_
              refine li_istore_n hC (lv' := [(1, .int (iI (((10 * 0) + (hereT S0 E t.2.1)) - 48))), (2, .int (iI 0)), (0, .ref h0)]) hl (by decide) rfl dX12_figures_80 (fun ls hl => ?_)
              refine li_aload_n hC hl 2 rfl dX12_figures_81 ?_
              refine li_dup hC rfl dX12_figures_82 ?_
              refine li_get hC hK.1 ck_X12 (hS.1 0 _ rfl) 5 (by decide) fl_X12_60 rfl (v := .int (iI t.2.1)) rfl dX12_figures_83 ?_
              refine li_iconst hC dX12_figures_86 ?_
              refine li_iadd hC dX12_figures_87 ?_
              refine li_put hC hK hS ck_X12 0 rfl 5 (by decide) fl_X12_60 rfl rfl (v := .int (iI (t.2.1 + 1))) rfl rfl (Nat.le_of_ble_eq_true rfl) (ws' := RW g h0 ad (va_up (va_up (va_up (va_up (va_up F 4 ac) 5 (t.2.1 + 1)) 6 E) 7 0) 8 o) (va_up A 1 (emS S0 ac t.2.2))) rfl dX12_figures_88 (fun H locs hS => ?_)
              refine li_iinc hC (lv' := [(2, .int (iI (0 + 1))), (1, .int (iI (((10 * 0) + (hereT S0 E t.2.1)) - 48))), (0, .ref h0)]) hl 1 rfl (by decide) rfl dX12_figures_91 (fun ls hl => ?_)
              refine li_goto (tgt := 34) hC (by decide) dX12_figures_94 ?_
              refine li_iload_n hC hl 0 rfl dX12_figures_34 ?_
              refine li_iconst hC dX12_figures_35 ?_
              refine li_icmp_ge (tgt := 97) hC (by decide) (rg (by omega) (by omega)) (rg (by decide) (by decide)) dX12_figures_36 (fun c12 => ?_) (fun c12 => ?_)
              · exact absurd c12 (by decide)
              · refine li_aload_n hC hl 2 rfl dX12_figures_39 ?_
                refine li_get hC hK.1 ck_X12 (hS.1 0 _ rfl) 7 (by decide) fl_X12_66 rfl (v := .int (iI 0)) rfl dX12_figures_40 ?_
                refine li_if_ne (tgt := 97) hC (by decide) (rg (by decide) (by decide)) dX12_figures_43 (fun c13 => ?_) (fun c13 => ?_)
                · exact absurd c13 (by decide)
                · refine li_aload_n hC hl 2 rfl dX12_figures_46 ?_
                  refine wr_callVi hC (c_X12_here l g h0 ad F A S0 ac E o (0, t.2.1 + 1, t.2.2) hP (okT_mk (by omega) (by omega) (by omega)) _) mk_X12_here ml_X12_70 (rr (by decide)) ⟨by simp only [rmC]; omega, by simp only [rmC]; omega⟩ hK hS (li_recv hK.1 ck_X12 (hS.1 0 _ rfl)) rfl hl.1 rfl (Nat.le_of_ble_eq_true rfl) dX12_figures_47 (fun v w H locs hp hS => ?_)
                  obtain ⟨hp1, hp2⟩ := hp
                  have hp1 : v = iI (hereT S0 E (t.2.1 + 1)) := hp1
                  have hp2 : w = RW g h0 ad (va_up (va_up (va_up (va_up (va_up F 4 ac) 5 (t.2.1 + 1)) 6 E) 7 0) 8 o) (va_up A 1 (emS S0 ac t.2.2)) := hp2
                  subst hp1 hp2
                  have q14 := hereT_rng hP (q := t.2.1 + 1) (by omega)
                  refine li_bipush hC (z := 48) rfl dX12_figures_50 ?_
                  refine li_bipush hC (z := 57) rfl dX12_figures_52 ?_
                  refine ro_callSi hC (c_X12_in l g (hereT S0 E (t.2.1 + 1)) 48 57 (rg (by omega) (by omega)) (rg (by decide) (by decide)) (rg (by decide) (by decide))) mk_X12_in ml_X12_56 (rr (by decide)) ⟨Nat.le_of_ble_eq_true rfl, Nat.le_of_ble_eq_true rfl⟩ hK.1 (hS.ro hK) trivial rfl hl.1 rfl (Nat.le_of_ble_eq_true rfl) dX12_figures_54 ?_
                  refine li_ifeq_b (tgt := 97) hC (by decide) dX12_figures_57 (fun c15 => ?_) (fun c15 => ?_)
                  · refine li_iload_n hC hl 1 rfl dX12_figures_97 ?_
                    exact hQ _ _ _ _ _ _ _ _ dX12_figures_98 hS (by omega) (by omega) (by unfold figV figT digit; first | (exfalso; omega) | (rw [iteP_t (by omega), iteP_t (by omega), iteP_t (by omega), iteP_t (by omega)]; exact ⟨iI_inj (by omega), by rw [show (t.2.1 + 1) + 1 = t.2.1 + 2 by omega]⟩) | (rw [iteP_t (by omega), iteP_f (by omega), iteP_t (by omega), iteP_f (by omega)]; exact ⟨iI_inj (by omega), rfl⟩) | (rw [iteP_f (by omega), iteP_f (by omega)]; exact ⟨iI_inj (by omega), rfl⟩))
                  · refine li_iload_n hC hl 0 rfl dX12_figures_60 ?_
                    refine li_if_eq (tgt := 68) hC (by decide) (rg (by omega) (by omega)) dX12_figures_61 (fun c16 => ?_) (fun c16 => ?_)
                    · exact absurd c16 (by decide)
                    · refine li_iload_n hC hl 1 rfl dX12_figures_64 ?_
                      refine li_if_le (tgt := 97) hC (by decide) (rg (by omega) (by omega)) dX12_figures_65 (fun c17 => ?_) (fun c17 => ?_)
                      · refine li_iload_n hC hl 1 rfl dX12_figures_97 ?_
                        exact hQ _ _ _ _ _ _ _ _ dX12_figures_98 hS (by omega) (by omega) (by unfold figV figT digit; first | (exfalso; omega) | (rw [iteP_t (by omega), iteP_t (by omega), iteP_t (by omega), iteP_t (by omega)]; exact ⟨iI_inj (by omega), by rw [show (t.2.1 + 1) + 1 = t.2.1 + 2 by omega]⟩) | (rw [iteP_t (by omega), iteP_f (by omega), iteP_t (by omega), iteP_f (by omega)]; exact ⟨iI_inj (by omega), rfl⟩) | (rw [iteP_f (by omega), iteP_f (by omega)]; exact ⟨iI_inj (by omega), rfl⟩))
                      · refine li_bipush hC (z := 10) rfl dX12_figures_68 ?_
                        refine li_iload_n hC hl 1 rfl dX12_figures_70 ?_
                        refine li_imul hC dX12_figures_71 ?_
                        refine li_aload_n hC hl 2 rfl dX12_figures_72 ?_
                        refine wr_callVi hC (c_X12_here l g h0 ad F A S0 ac E o (0, t.2.1 + 1, t.2.2) hP (okT_mk (by omega) (by omega) (by omega)) _) mk_X12_here ml_X12_70 (rr (by decide)) ⟨by simp only [rmC]; omega, by simp only [rmC]; omega⟩ hK hS (li_recv hK.1 ck_X12 (hS.1 0 _ rfl)) rfl hl.1 rfl (Nat.le_of_ble_eq_true rfl) dX12_figures_73 (fun v w H locs hp hS => ?_)
                        obtain ⟨hp1, hp2⟩ := hp
                        have hp1 : v = iI (hereT S0 E (t.2.1 + 1)) := hp1
                        have hp2 : w = RW g h0 ad (va_up (va_up (va_up (va_up (va_up F 4 ac) 5 (t.2.1 + 1)) 6 E) 7 0) 8 o) (va_up A 1 (emS S0 ac t.2.2)) := hp2
                        subst hp1 hp2
                        have q18 := hereT_rng hP (q := t.2.1 + 1) (by omega)
                        refine li_iadd hC dX12_figures_76 ?_
                        refine li_bipush hC (z := 48) rfl dX12_figures_77 ?_
                        refine li_isub hC dX12_figures_79 ?_
                        refine li_istore_n hC (lv' := [(1, .int (iI (((10 * (((10 * 0) + (hereT S0 E t.2.1)) - 48)) + (hereT S0 E (t.2.1 + 1))) - 48))), (2, .int (iI (0 + 1))), (0, .ref h0)]) hl (by decide) rfl dX12_figures_80 (fun ls hl => ?_)
                        refine li_aload_n hC hl 2 rfl dX12_figures_81 ?_
                        refine li_dup hC rfl dX12_figures_82 ?_
                        refine li_get hC hK.1 ck_X12 (hS.1 0 _ rfl) 5 (by decide) fl_X12_60 rfl (v := .int (iI (t.2.1 + 1))) rfl dX12_figures_83 ?_
                        refine li_iconst hC dX12_figures_86 ?_
                        refine li_iadd hC dX12_figures_87 ?_
                        refine li_put hC hK hS ck_X12 0 rfl 5 (by decide) fl_X12_60 rfl rfl (v := .int (iI ((t.2.1 + 1) + 1))) rfl rfl (Nat.le_of_ble_eq_true rfl) (ws' := RW g h0 ad (va_up (va_up (va_up (va_up (va_up F 4 ac) 5 ((t.2.1 + 1) + 1)) 6 E) 7 0) 8 o) (va_up A 1 (emS S0 ac t.2.2))) rfl dX12_figures_88 (fun H locs hS => ?_)
                        refine li_iinc hC (lv' := [(2, .int (iI ((0 + 1) + 1))), (1, .int (iI (((10 * (((10 * 0) + (hereT S0 E t.2.1)) - 48)) + (hereT S0 E (t.2.1 + 1))) - 48))), (0, .ref h0)]) hl 1 rfl (by decide) rfl dX12_figures_91 (fun ls hl => ?_)
                        refine li_goto (tgt := 34) hC (by decide) dX12_figures_94 ?_
                        refine li_iload_n hC hl 0 rfl dX12_figures_34 ?_
                        refine li_iconst hC dX12_figures_35 ?_
                        refine li_icmp_ge (tgt := 97) hC (by decide) (rg (by omega) (by omega)) (rg (by decide) (by decide)) dX12_figures_36 (fun c19 => ?_) (fun c19 => ?_)
                        · refine li_iload_n hC hl 1 rfl dX12_figures_97 ?_
                          exact hQ _ _ _ _ _ _ _ _ dX12_figures_98 hS (by omega) (by omega) (by unfold figV figT digit; first | (exfalso; omega) | (rw [iteP_t (by omega), iteP_t (by omega), iteP_t (by omega), iteP_t (by omega)]; exact ⟨iI_inj (by omega), by rw [show (t.2.1 + 1) + 1 = t.2.1 + 2 by omega]⟩) | (rw [iteP_t (by omega), iteP_f (by omega), iteP_t (by omega), iteP_f (by omega)]; exact ⟨iI_inj (by omega), rfl⟩) | (rw [iteP_f (by omega), iteP_f (by omega)]; exact ⟨iI_inj (by omega), rfl⟩))
                        · exact absurd c19 (by decide)
            · exact absurd c10 (by decide)
    · refine li_iconst hC dX12_figures_22 ?_
      refine li_goto (tgt := 27) hC (by decide) dX12_figures_23 ?_
      refine li_put hC hK hS ck_X12 0 rfl 7 (by decide) fl_X12_66 rfl rfl (v := .int (iI 1)) (nar_01 (Or.inr rfl)) (fit_01 (Or.inr rfl)) (Nat.le_of_ble_eq_true rfl) (ws' := RW g h0 ad (va_up (va_up (va_up (va_up (va_up F 4 ac) 5 t.2.1) 6 E) 7 1) 8 o) (va_up A 1 (emS S0 ac t.2.2))) rfl dX12_figures_27 (fun H locs hS => ?_)
      refine li_iconst hC dX12_figures_30 ?_
      refine li_istore_n hC (lv' := [(1, .int (iI 0)), (0, .ref h0)]) hl (by decide) rfl dX12_figures_31 (fun ls hl => ?_)
      refine li_iconst hC dX12_figures_32 ?_
      refine li_istore_n hC (lv' := [(2, .int (iI 0)), (1, .int (iI 0)), (0, .ref h0)]) hl (by decide) rfl dX12_figures_33 (fun ls hl => ?_)
      refine li_iload_n hC hl 0 rfl dX12_figures_34 ?_
      refine li_iconst hC dX12_figures_35 ?_
      refine li_icmp_ge (tgt := 97) hC (by decide) (rg (by decide) (by decide)) (rg (by decide) (by decide)) dX12_figures_36 (fun c20 => ?_) (fun c20 => ?_)
      · exact absurd c20 (by decide)
      · refine li_aload_n hC hl 2 rfl dX12_figures_39 ?_
        refine li_get hC hK.1 ck_X12 (hS.1 0 _ rfl) 7 (by decide) fl_X12_66 rfl (v := .int (iI 1)) rfl dX12_figures_40 ?_
        refine li_if_ne (tgt := 97) hC (by decide) (rg (by decide) (by decide)) dX12_figures_43 (fun c21 => ?_) (fun c21 => ?_)
        · refine li_iload_n hC hl 1 rfl dX12_figures_97 ?_
          exact hQ _ _ _ _ _ _ _ _ dX12_figures_98 hS (by omega) (by omega) (by unfold figV figT digit; first | (exfalso; omega) | (rw [iteP_t (by omega), iteP_t (by omega), iteP_t (by omega), iteP_t (by omega)]; exact ⟨iI_inj (by omega), by rw [show (t.2.1 + 1) + 1 = t.2.1 + 2 by omega]⟩) | (rw [iteP_t (by omega), iteP_f (by omega), iteP_t (by omega), iteP_f (by omega)]; exact ⟨iI_inj (by omega), rfl⟩) | (rw [iteP_f (by omega), iteP_f (by omega)]; exact ⟨iI_inj (by omega), rfl⟩))
        · exact absurd c21 (by decide)
set_option maxHeartbeats 4000000 in
set_option maxRecDepth 100000 in
theorem c_X12_among (l : Launch) (g : GG) (h0 : Nat) (ad : Nat → Nat) (F : Nat → Int) (A : Nat → Nat → Int) (S0 : Nat → Int) (ac : Int) (E : Int) (o : Int) (t : PT) (i : Nat) (hP : PIn S0 ac E) (ht : okT E t) (hi : i < 6) (sz : Nat) : MwrI l g yX12_among cX12_among 3 6 0 0 [.ref h0, .ref (g.2.2.1 i)] sz (RW g h0 ad (va_up (va_up (va_up (va_up (va_up F 4 ac) 5 t.2.1) 6 E) 7 t.1) 8 o) (va_up A 1 (emS S0 ac t.2.2))) (fun v w => v = iI (amV S0 E i t.2.1) ∧ w = RW g h0 ad (va_up (va_up (va_up (va_up (va_up F 4 ac) 5 (((t.1, amQ S0 E i t.2.1, t.2.2)).2.1)) 6 E) 7 (((t.1, amQ S0 E i t.2.1, t.2.2)).1)) 8 o) (va_up A 1 (emS S0 ac ((t.1, amQ S0 E i t.2.1, t.2.2)).2.2))) := by
  refine wr_startI (own := RX12) (by decide) rfl (Nat.le_of_ble_eq_true rfl) ?_
  intro Pg Ev s Mi args below Mt Cd ls Q Aw hC hK hS hnm hl hQ
  have hta := ht.1; have htb := ht.2.1; have htc := ht.2.2; have hPa := hP.1; have hPb := hP.2.1
  have hs6 := sLen_ok i hi
  have hl : lv_has ls 3 [(0, .ref h0), (1, .ref (g.2.2.1 i))] := hl
  obtain ⟨H, hH⟩ : ∃ H, H = s.heap := ⟨_, rfl⟩
  obtain ⟨locs, hlo⟩ : ∃ locs : List Loc, locs = [] := ⟨_, rfl⟩
  have hS : St g Aw s.heap H locs (RW g h0 ad (va_up (va_up (va_up (va_up (va_up F 4 ac) 5 t.2.1) 6 E) 7 t.1) 8 o) (va_up A 1 (emS S0 ac t.2.2))) := by rw [hH, hlo]; exact hS
  have goal : W Pg l Ev (rmC 6 0 0) s Mi args below Mt Cd H locs 0 0 Q (F0 Mi 0 ls []) := ?goal
  · rw [hH, hlo] at goal; exact goal
  clear hH hlo
  refine li_iconst hC dX12_among_0 ?_
  refine li_istore_n hC (lv' := [(2, .int (iI 0)), (0, .ref h0), (1, .ref (g.2.2.1 i))]) hl (by decide) rfl dX12_among_1 (fun ls hl => ?_)
  have L2_1 : ∀ (fuel : Nat) (k : Int) (ls : Array Slot) (H : Heap) (locs : List Loc), St g Aw s.heap H locs (RW g h0 ad (va_up (va_up (va_up (va_up (va_up F 4 ac) 5 t.2.1) 6 E) 7 t.1) 8 o) (va_up A 1 (emS S0 ac t.2.2))) → lv_has ls 3 [(0, .ref h0), (1, .ref (g.2.2.1 i)), (2, .int (iI k))] → (0 ≤ k ∧ k ≤ ((sLen.getD i 0 : Nat) : Int)) → (amV S0 E i t.2.1 = amG (hereT S0 E t.2.1) i k (((sLen.getD i 0 : Nat) : Int) - k).toNat) → ((((sLen.getD i 0 : Nat) : Int) - k).toNat) < fuel → W Pg l Ev (rmC 6 0 0) s Mi args below Mt Cd H locs 0 0 Q (F0 Mi 2 ls []) := by
    intro fuel
    induction fuel with
    | zero => intro k ls H locs hS hl hk hz hm; exact absurd hm (Nat.not_lt_zero _)
    | succ fuel ih2 =>
      intro k ls H locs hS hl hk hz hm
      refine li_iload_n hC hl 2 rfl dX12_among_2 ?_
      refine li_aload_n hC hl 1 rfl dX12_among_3 ?_
      refine ro_callVi hC (c_J0_length_8abf5 l g hi) mk_J0_length_8abf5 ml_X12_74 (rr (by decide)) ⟨Nat.zero_le _, Nat.zero_le _⟩ hK.1 (hS.ro hK) trivial (str_recv hK.2.1 hi hS.2.2) rfl hl.1 rfl (Nat.le_of_ble_eq_true rfl) dX12_among_4 ?_
      refine li_icmp_ge (tgt := 40) hC (by decide) (rg (by omega) (by omega)) (rg (by omega) (by omega)) dX12_among_7 (fun c2 => ?_) (fun c2 => ?_)
      · refine li_iconst hC dX12_among_40 ?_
        exact hQ _ _ _ _ _ _ _ _ dX12_among_41 hS (by omega) (by omega) (by have e9 : amV S0 E i t.2.1 = -1 := (by rw [hz, show (((sLen.getD i 0 : Nat) : Int) - k).toNat = 0 by omega]; rfl); refine ⟨iI_inj e9.symm, ?_⟩; unfold amQ; rw [if_pos e9])
      · refine li_aload_n hC hl 0 rfl dX12_among_10 ?_
        refine wr_callVi hC (c_X12_here l g h0 ad F A S0 ac E o t hP ht _) mk_X12_here ml_X12_70 (rr (by decide)) ⟨by simp only [rmC]; omega, by simp only [rmC]; omega⟩ hK hS (li_recv hK.1 ck_X12 (hS.1 0 _ rfl)) rfl hl.1 rfl (Nat.le_of_ble_eq_true rfl) dX12_among_11 (fun v w H locs hp hS => ?_)
        obtain ⟨hp1, hp2⟩ := hp
        have hp1 : v = iI (hereT S0 E t.2.1) := hp1
        have hp2 : w = RW g h0 ad (va_up (va_up (va_up (va_up (va_up F 4 ac) 5 t.2.1) 6 E) 7 t.1) 8 o) (va_up A 1 (emS S0 ac t.2.2)) := hp2
        subst hp1 hp2
        have q3 := hereT_rng hP (q := t.2.1) (by omega)
        refine li_aload_n hC hl 1 rfl dX12_among_14 ?_
        refine li_iload_n hC hl 2 rfl dX12_among_15 ?_
        refine ro_callVi hC (c_J0_charAt_5068e l g (k := k) hi ⟨by omega, by omega⟩) mk_J0_charAt_5068e ml_X12_79 (rr (by decide)) ⟨Nat.zero_le _, Nat.zero_le _⟩ hK.1 (hS.ro hK) trivial (str_recv hK.2.1 hi hS.2.2) rfl hl.1 rfl (Nat.le_of_ble_eq_true rfl) dX12_among_16 ?_
        have q4 := chS_nn hi (show k.toNat < sLen.getD i 0 by omega)
        refine li_icmp_ne (tgt := 34) hC (by decide) (rg (by omega) (by omega)) (rg (by omega) (by omega)) dX12_among_19 (fun c5 => ?_) (fun c5 => ?_)
        · refine li_iinc hC (lv' := [(2, .int (iI (k + 1))), (0, .ref h0), (1, .ref (g.2.2.1 i))]) hl 2 rfl (by decide) rfl dX12_among_34 (fun ls hl => ?_)
          refine li_goto (tgt := 2) hC (by decide) dX12_among_37 ?_
          exact ih2 (k + 1) _ _ _ hS (lv_sub hl [1, 2, 0] rfl) (by omega) (by rw [hz, amG_s (by omega), if_neg (by assumption)]) (by omega)
        · refine li_aload_n hC hl 0 rfl dX12_among_22 ?_
          refine li_dup hC rfl dX12_among_23 ?_
          refine li_get hC hK.1 ck_X12 (hS.1 0 _ rfl) 5 (by decide) fl_X12_60 rfl (v := .int (iI t.2.1)) rfl dX12_among_24 ?_
          refine li_iconst hC dX12_among_27 ?_
          refine li_iadd hC dX12_among_28 ?_
          refine li_put hC hK hS ck_X12 0 rfl 5 (by decide) fl_X12_60 rfl rfl (v := .int (iI (t.2.1 + 1))) rfl rfl (Nat.le_of_ble_eq_true rfl) (ws' := RW g h0 ad (va_up (va_up (va_up (va_up (va_up F 4 ac) 5 (t.2.1 + 1)) 6 E) 7 t.1) 8 o) (va_up A 1 (emS S0 ac t.2.2))) rfl dX12_among_29 (fun H locs hS => ?_)
          refine li_iload_n hC hl 2 rfl dX12_among_32 ?_
          exact hQ _ _ _ _ _ _ _ _ dX12_among_33 hS (by omega) (by omega) (by have e9 : amV S0 E i t.2.1 = k := (by rw [hz, amG_s (by omega), if_pos (by assumption)]); refine ⟨iI_inj e9.symm, ?_⟩; unfold amQ; rw [if_neg (by omega)])
  exact L2_1 (((((sLen.getD i 0 : Nat) : Int) - 0).toNat) + 1) 0 _ _ _ hS (lv_sub hl [1, 2, 0] rfl) (by omega) (by exact amG_0) (by omega)
set_option maxHeartbeats 4000000 in
set_option maxRecDepth 100000 in
theorem c_X12_emits (l : Launch) (g : GG) (h0 : Nat) (ad : Nat → Nat) (F : Nat → Int) (A : Nat → Nat → Int) (S0 : Nat → Int) (ac : Int) (E : Int) (o : Int) (t : PT) (x : Int) (hP : PIn S0 ac E) (ht : okT E t) (hem : t.1 = 0 → (t.2.2.length : Int) + 1 ≤ t.2.1) (sz : Nat) : MwrV l g yX12_emits cX12_emits 2 1 0 0 [.ref h0, .int (iI x)] sz (RW g h0 ad (va_up (va_up (va_up (va_up (va_up F 4 ac) 5 t.2.1) 6 E) 7 t.1) 8 o) (va_up A 1 (emS S0 ac t.2.2))) (fun w => w = RW g h0 ad (va_up (va_up (va_up (va_up (va_up F 4 ac) 5 ((emitT x t).2.1)) 6 E) 7 ((emitT x t).1)) 8 o) (va_up A 1 (emS S0 ac (emitT x t).2.2))) := by
  refine wr_startV (own := RX12) (by decide) rfl (Nat.le_of_ble_eq_true rfl) ?_
  intro Pg Ev s Mi args below Mt Cd ls Q Aw hC hK hS hnm hl hQ
  have hta := ht.1; have htb := ht.2.1; have htc := ht.2.2; have hPa := hP.1; have hPb := hP.2.1
  have hl : lv_has ls 2 [(0, .ref h0), (1, .int (iI x))] := hl
  obtain ⟨H, hH⟩ : ∃ H, H = s.heap := ⟨_, rfl⟩
  obtain ⟨locs, hlo⟩ : ∃ locs : List Loc, locs = [] := ⟨_, rfl⟩
  have hS : St g Aw s.heap H locs (RW g h0 ad (va_up (va_up (va_up (va_up (va_up F 4 ac) 5 t.2.1) 6 E) 7 t.1) 8 o) (va_up A 1 (emS S0 ac t.2.2))) := by rw [hH, hlo]; exact hS
  have goal : W Pg l Ev (rmC 1 0 0) s Mi args below Mt Cd H locs 0 0 Q (F0 Mi 0 ls []) := ?goal
  · rw [hH, hlo] at goal; exact goal
  clear hH hlo
  refine li_aload_n hC hl 0 rfl dX12_emits_0 ?_
  refine li_get hC hK.1 ck_X12 (hS.1 0 _ rfl) 7 (by decide) fl_X12_66 rfl (v := .int (iI t.1)) rfl dX12_emits_1 ?_
  refine li_if_ne (tgt := 56) hC (by decide) (rg (by omega) (by omega)) dX12_emits_4 (fun c1 => ?_) (fun c1 => ?_)
  · exact hQ _ _ _ _ _ _ _ dX12_emits_56 hS (by omega) (by omega) (by rw [show emitT x t = t from if_pos (by assumption)])
  · refine li_aload_n hC hl 0 rfl dX12_emits_7 ?_
    refine li_get hC hK.1 ck_X12 (hS.1 0 _ rfl) 1 (by decide) fl_X12_9 rfl (v := .ref (ad 1)) rfl dX12_emits_8 ?_
    refine li_sipush hC (z := 239) rfl dX12_emits_11 ?_
    refine li_sipush hC (z := 140) rfl dX12_emits_14 ?_
    refine li_aload_n hC hl 0 rfl dX12_emits_17 ?_
    refine li_get hC hK.1 ck_X12 (hS.1 0 _ rfl) 4 (by decide) fl_X12_87 rfl (v := .int (iI ac)) rfl dX12_emits_18 ?_
    refine li_imul hC dX12_emits_21 ?_
    refine li_iadd hC dX12_emits_22 ?_
    refine li_aload_n hC hl 0 rfl dX12_emits_23 ?_
    refine li_get hC hK.1 ck_X12 (hS.1 0 _ rfl) 1 (by decide) fl_X12_9 rfl (v := .ref (ad 1)) rfl dX12_emits_24 ?_
    refine li_sipush hC (z := 234) rfl dX12_emits_27 ?_
    refine li_aload_n hC hl 0 rfl dX12_emits_30 ?_
    refine li_get hC hK.1 ck_X12 (hS.1 0 _ rfl) 4 (by decide) fl_X12_87 rfl (v := .int (iI ac)) rfl dX12_emits_31 ?_
    refine li_iadd hC dX12_emits_34 ?_
    refine li_iald (f := (emS S0 ac t.2.2)) hC hK.1 (hS.1 1 _ rfl) ⟨by omega, by omega⟩ (by decide) dX12_emits_35 ?_
    rw [emS_cnt hP t.2.2 (by omega)]
    refine li_iadd hC dX12_emits_36 ?_
    refine li_iload_n hC hl 1 rfl dX12_emits_37 ?_
    refine li_iast hC hK hS 1 (n := 939) (f := (emS S0 ac t.2.2)) (z := (239 + (140 * ac)) + ((t.2.2).length : Int)) rfl ⟨by omega, by omega⟩ (by decide) (ws' := RW g h0 ad (va_up (va_up (va_up (va_up (va_up F 4 ac) 5 t.2.1) 6 E) 7 t.1) 8 o) (va_up A 1 (va_up (emS S0 ac t.2.2) (((239 + (140 * ac)) + ((t.2.2).length : Int)).toNat) x))) rfl dX12_emits_38 (fun H locs hS => ?_)
    refine li_aload_n hC hl 0 rfl dX12_emits_39 ?_
    refine li_get hC hK.1 ck_X12 (hS.1 0 _ rfl) 1 (by decide) fl_X12_9 rfl (v := .ref (ad 1)) rfl dX12_emits_40 ?_
    refine li_sipush hC (z := 234) rfl dX12_emits_43 ?_
    refine li_aload_n hC hl 0 rfl dX12_emits_46 ?_
    refine li_get hC hK.1 ck_X12 (hS.1 0 _ rfl) 4 (by decide) fl_X12_87 rfl (v := .int (iI ac)) rfl dX12_emits_47 ?_
    refine li_iadd hC dX12_emits_50 ?_
    refine li_dup2 hC rfl rfl dX12_emits_51 ?_
    refine li_iald (f := va_up (emS S0 ac t.2.2) (((239 + (140 * ac)) + ((t.2.2).length : Int)).toNat) x) hC hK.1 (hS.1 1 _ rfl) ⟨by omega, by omega⟩ (by decide) dX12_emits_52 ?_
    rw [up_ne (emS S0 ac t.2.2) x (show ((234 + ac).toNat : Nat) ≠ ((239 + (140 * ac)) + ((t.2.2).length : Int)).toNat by omega)]
    refine li_iconst hC dX12_emits_53 ?_
    refine li_iadd hC dX12_emits_54 ?_
    refine li_iast hC hK hS 1 (n := 939) (f := va_up (emS S0 ac t.2.2) (((239 + (140 * ac)) + ((t.2.2).length : Int)).toNat) x) (z := 234 + ac) rfl ⟨by omega, by omega⟩ (by decide) (ws' := RW g h0 ad (va_up (va_up (va_up (va_up (va_up F 4 ac) 5 t.2.1) 6 E) 7 t.1) 8 o) (va_up A 1 (va_up (va_up (emS S0 ac t.2.2) (((239 + (140 * ac)) + ((t.2.2).length : Int)).toNat) x) ((234 + ac).toNat) (((emS S0 ac t.2.2) ((234 + ac).toNat)) + 1)))) rfl dX12_emits_55 (fun H locs hS => ?_)
    exact hQ _ _ _ _ _ _ _ dX12_emits_56 hS (by omega) (by omega) (by rw [show emitT x t = (t.1, t.2.1, t.2.2 ++ [x]) from if_neg (by omega)]; show _ = RW g h0 ad _ (va_up A 1 (emS S0 ac (t.2.2 ++ [x]))); rw [emS_app]; unfold emit1; rw [emS_cnt hP t.2.2 (by omega)])
