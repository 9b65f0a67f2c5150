theorem love_98 {B : Nat → Int} {Z : Int} {t u : PT} (hu : u = spellT B Z 1 (sLen.getD 1 0) t) (h : u.1 = 0) : hereT B Z t.2.1 = 98 := by
  apply Classical.byContradiction
  intro h9
  rw [hu, spell_ne (by decide) (by rw [show chS 1 0 = 98 by decide +kernel]; exact h9)] at h
  exact absurd (show (1 : Int) = 0 from h) (by decide)
set_option maxHeartbeats 4000000 in
set_option maxRecDepth 100000 in
theorem c_X5_readsMeasure_1 (l : Launch) (g : GG) (ad : Nat → Nat) (F : Nat → Int) (A : Nat → Nat → Int) (E : Nat → Nat) (tl : va_W) (B : Nat → Int) (ac : Int) (Z : Int) (wd : Int) (rv : Int) (nu : Int) (t : PT) (hP : PIn B ac Z) (hT : TapI F A B Z) (ht : okT Z t) (ht0 : t.1 = 0) (sz : Nat) : MwrZ l g yX5_readsMeasure cX5_readsMeasure 2 7 0 0 [.ref (ad 39), .int (iI 1)] sz (RdW g ad F A E tl wd rv nu t) (fun v w => v = iI (b2 ((figT B Z (spellT B Z 2 5 t)).1 = 0)) ∧ ∃ nu2 wd2 rv2 : Int, w = RdW g ad F A E tl wd2 rv2 nu2 (figT B Z (spellT B Z 2 5 t)) ∧ ((figT B Z (spellT B Z 2 5 t)).1 = 0 → wd2 = clampS (figV B Z (spellT B Z 2 5 t)) 10 30 ∧ rv2 = rv)) := by
  refine wr_startZ (own := RX5) (by decide) rfl (Nat.le_of_ble_eq_true rfl) ?_
  intro Pg Ev s Mi args below Mt Cd ls Q Aw hC hK hS hnm hl hQ
  have hta := ht.1; have htb := ht.2.1; have htc := ht.2.2; have hPa := hP.1; have hPb := hP.2.1
  have hl : lv_has ls 2 [(0, .ref (ad 39)), (1, .int (iI 1))] := hl
  obtain ⟨H, hH⟩ : ∃ H, H = s.heap := ⟨_, rfl⟩
  obtain ⟨locs, hlo⟩ : ∃ locs : List Loc, locs = [] := ⟨_, rfl⟩
  have hS : St g Aw s.heap H locs (RdW g ad F A E tl wd rv nu t) := by rw [hH, hlo]; exact hS
  have goal : W Pg l Ev (rmC 7 0 0) s Mi args below Mt Cd H locs 0 0 Q (F0 Mi 0 ls []) := ?goal
  · rw [hH, hlo] at goal; exact goal
  clear hH hlo
  refine li_aload_n hC hl 0 rfl dX5_readsMeasure_0 ?_
  refine li_iload_n hC hl 1 rfl dX5_readsMeasure_1 ?_
  refine li_if_eq (tgt := 10) hC (by decide) (rg (by decide) (by decide)) dX5_readsMeasure_2 (fun c1 => ?_) (fun c1 => ?_)
  · exact absurd c1 (by decide)
  · refine li_ldcS hC hK.1.2.2.1.2.2.1 dX5_readsMeasure_5 ?_
    refine li_goto (tgt := 12) hC (by decide) dX5_readsMeasure_7 ?_
    refine wr_callVz hC (c_X5_takesWord l g ad F A E tl B ac Z wd rv nu t 2 hP hT ht (show t.1 = 0 by omega) (by decide) _) mk_X5_takesWord ml_X5_59 (rr (by decide)) ⟨by simp only [rmC]; omega, by simp only [rmC]; omega⟩ hK hS (li_recv hK.1 ck_X5 (hS.1 39 _ rfl)) rfl hl.1 rfl (Nat.le_of_ble_eq_true rfl) dX5_readsMeasure_12 (fun v w H locs hp hS => ?_)
    obtain ⟨hv, nu3, hp⟩ := hp
    have hp : w = RdW g ad F A E tl wd rv nu3 (spellT B Z 2 (sLen.getD 2 0) t) := hp
    obtain ⟨t2, ht2⟩ : ∃ z : PT, z = spellT B Z 2 (sLen.getD 2 0) t := ⟨_, rfl⟩
    rw [← ht2] at hp hv
    rw [hp] at hS
    rw [hv]
    obtain ⟨okt2, get2⟩ := spellT_ok hP (i := 2) (by decide) ht (sLen.getD 2 0) (Nat.le_refl _)
    rw [← ht2] at okt2 get2
    have t2a := okt2.1; have t2b := okt2.2.1; have t2c := okt2.2.2; have t2d := get2.1; have t2e := get2.2; try dsimp only at t2d t2e
    refine li_ifeq_b (tgt := 25) hC (by decide) dX5_readsMeasure_15 (fun c4 => ?_) (fun c4 => ?_)
    · refine li_iconst hC dX5_readsMeasure_25 ?_
      exact hQ _ _ _ _ _ _ _ _ dX5_readsMeasure_26 hS (by omega) (by omega) (by omega) (by rw [show spellT B Z 2 5 t = t2 from ht2.symm, fig_w (by omega)]; exact ⟨iI_inj (b2_f (by assumption)).symm, nu3, wd, rv, rfl, fun h9 => absurd h9 (by assumption)⟩)
    · refine li_aload_n hC hl 0 rfl dX5_readsMeasure_18 ?_
      refine wr_callVz hC (c_X5_takesNumber l g ad F A E tl B ac Z wd rv nu3 t2 hP hT okt2 (show t2.1 = 0 by omega) _) mk_X5_takesNumber ml_X5_63 (rr (by decide)) ⟨by simp only [rmC]; omega, by simp only [rmC]; omega⟩ hK hS (li_recv hK.1 ck_X5 (hS.1 39 _ rfl)) rfl hl.1 rfl (Nat.le_of_ble_eq_true rfl) dX5_readsMeasure_19 (fun v w H locs hp hS => ?_)
      obtain ⟨hv, nu6, hp, hnu6⟩ := hp
      have hp : w = RdW g ad F A E tl wd rv nu6 (figT B Z t2) := hp
      obtain ⟨t5, ht5⟩ : ∃ z : PT, z = figT B Z t2 := ⟨_, rfl⟩
      rw [← ht5] at hp hv hnu6
      rw [hp] at hS
      rw [hv]
      obtain ⟨okt5, get5⟩ := (⟨(figT_ok hP okt2).1, (figT_ok hP okt2).2.1⟩ : okT Z (figT B Z t2) ∧ geT t2 (figT B Z t2))
      rw [← ht5] at okt5 get5
      have t5a := okt5.1; have t5b := okt5.2.1; have t5c := okt5.2.2; have t5d := get5.1; have t5e := get5.2; try dsimp only at t5d t5e
      have nu6v := (figT_ok hP okt2).2.2.1
      have nu6l := (figT_ok hP okt2).2.2.2
      rw [← ht5] at nu6l
      refine li_ifne_b (tgt := 27) hC (by decide) dX5_readsMeasure_22 (fun c7 => ?_) (fun c7 => ?_)
      · have e7 := hnu6 (by assumption); have e8 := nu6v; rw [← e7] at e8
        refine li_iload_n hC hl 1 rfl dX5_readsMeasure_27 ?_
        refine li_if_eq (tgt := 52) hC (by decide) (rg (by decide) (by decide)) dX5_readsMeasure_28 (fun c8 => ?_) (fun c8 => ?_)
        · exact absurd c8 (by decide)
        · refine li_aload_n hC hl 0 rfl dX5_readsMeasure_31 ?_
          refine li_bipush hC (z := 10) rfl dX5_readsMeasure_32 ?_
          refine li_bipush hC (z := 30) rfl dX5_readsMeasure_34 ?_
          refine li_aload_n hC hl 0 rfl dX5_readsMeasure_36 ?_
          refine li_get hC hK.1 ck_X5 (hS.1 39 _ rfl) 5 (by decide) fl_X5_66 rfl (v := .int (iI nu6)) rfl dX5_readsMeasure_37 ?_
          refine ro_callSi hC (c_J9_min_7cf53 l g 30 nu6 (rg (by omega) (by omega)) (rg (by omega) (by omega))) mk_J9_min_7cf53 ml_X5_79 (rr (by decide)) ⟨Nat.le_of_ble_eq_true rfl, Nat.le_of_ble_eq_true rfl⟩ hK.1 (hS.ro hK) trivial rfl hl.1 rfl (Nat.le_of_ble_eq_true rfl) dX5_readsMeasure_40 ?_
          refine ro_callSi hC (c_J9_max_7cf53 l g 10 (if nu6 < 30 then nu6 else 30) (rg (by omega) (by omega)) (rg (by omega) (by omega))) mk_J9_max_7cf53 ml_X5_85 (rr (by decide)) ⟨Nat.le_of_ble_eq_true rfl, Nat.le_of_ble_eq_true rfl⟩ hK.1 (hS.ro hK) trivial rfl hl.1 rfl (Nat.le_of_ble_eq_true rfl) dX5_readsMeasure_43 ?_
          refine li_put hC hK hS ck_X5 39 rfl 3 (by decide) fl_X5_27 rfl rfl (v := .int (iI (if 10 < (if nu6 < 30 then nu6 else 30) then (if nu6 < 30 then nu6 else 30) else 10))) rfl rfl (Nat.le_of_ble_eq_true rfl) (ws' := RdW g ad F A E tl (if 10 < (if nu6 < 30 then nu6 else 30) then (if nu6 < 30 then nu6 else 30) else 10) rv nu6 t5) rfl dX5_readsMeasure_46 (fun H locs hS => ?_)
          refine li_goto (tgt := 60) hC (by decide) dX5_readsMeasure_49 ?_
          refine li_iconst hC dX5_readsMeasure_60 ?_
          exact hQ _ _ _ _ _ _ _ _ dX5_readsMeasure_61 hS (by omega) (by omega) (by omega) (by rw [show spellT B Z 2 5 t = t2 from ht2.symm, ← ht5]; exact ⟨iI_inj (b2_t (by assumption)).symm, nu6, (if 10 < (if nu6 < 30 then nu6 else 30) then (if nu6 < 30 then nu6 else 30) else 10), rv, rfl, fun h9 => ⟨by rw [← hnu6 h9]; unfold clampS; (repeat' split) <;> omega, rfl⟩⟩)
      · refine li_iconst hC dX5_readsMeasure_25 ?_
        exact hQ _ _ _ _ _ _ _ _ dX5_readsMeasure_26 hS (by omega) (by omega) (by omega) (by rw [show spellT B Z 2 5 t = t2 from ht2.symm, ← ht5]; exact ⟨iI_inj (b2_f (by assumption)).symm, nu6, wd, rv, rfl, fun h9 => absurd h9 (by assumption)⟩)
set_option maxHeartbeats 4000000 in
set_option maxRecDepth 100000 in
theorem c_X5_readsMeasure_0 (l : Launch) (g : GG) (ad : Nat → Nat) (F : Nat → Int) (A : Nat → Nat → Int) (E : Nat → Nat) (tl : va_W) (B : Nat → Int) (ac : Int) (Z : Int) (wd : Int) (rv : Int) (nu : Int) (t : PT) (hP : PIn B ac Z) (hT : TapI F A B Z) (ht : okT Z t) (ht0 : t.1 = 0) (sz : Nat) : MwrZ l g yX5_readsMeasure cX5_readsMeasure 2 7 0 0 [.ref (ad 39), .int (iI 0)] sz (RdW g ad F A E tl wd rv nu t) (fun v w => v = iI (b2 ((figT B Z (spellT B Z 3 6 t)).1 = 0)) ∧ ∃ nu2 wd2 rv2 : Int, w = RdW g ad F A E tl wd2 rv2 nu2 (figT B Z (spellT B Z 3 6 t)) ∧ ((figT B Z (spellT B Z 3 6 t)).1 = 0 → wd2 = wd ∧ rv2 = figV B Z (spellT B Z 3 6 t))) := by
  refine wr_startZ (own := RX5) (by decide) rfl (Nat.le_of_ble_eq_true rfl) ?_
  intro Pg Ev s Mi args below Mt Cd ls Q Aw hC hK hS hnm hl hQ
  have hta := ht.1; have htb := ht.2.1; have htc := ht.2.2; have hPa := hP.1; have hPb := hP.2.1
  have hl : lv_has ls 2 [(0, .ref (ad 39)), (1, .int (iI 0))] := hl
  obtain ⟨H, hH⟩ : ∃ H, H = s.heap := ⟨_, rfl⟩
  obtain ⟨locs, hlo⟩ : ∃ locs : List Loc, locs = [] := ⟨_, rfl⟩
  have hS : St g Aw s.heap H locs (RdW g ad F A E tl wd rv nu t) := by rw [hH, hlo]; exact hS
  have goal : W Pg l Ev (rmC 7 0 0) s Mi args below Mt Cd H locs 0 0 Q (F0 Mi 0 ls []) := ?goal
  · rw [hH, hlo] at goal; exact goal
  clear hH hlo
  refine li_aload_n hC hl 0 rfl dX5_readsMeasure_0 ?_
  refine li_iload_n hC hl 1 rfl dX5_readsMeasure_1 ?_
  refine li_if_eq (tgt := 10) hC (by decide) (rg (by decide) (by decide)) dX5_readsMeasure_2 (fun c1 => ?_) (fun c1 => ?_)
  · refine li_ldcS hC hK.1.2.2.1.2.2.2.1 dX5_readsMeasure_10 ?_
    refine wr_callVz hC (c_X5_takesWord l g ad F A E tl B ac Z wd rv nu t 3 hP hT ht (show t.1 = 0 by omega) (by decide) _) mk_X5_takesWord ml_X5_59 (rr (by decide)) ⟨by simp only [rmC]; omega, by simp only [rmC]; omega⟩ hK hS (li_recv hK.1 ck_X5 (hS.1 39 _ rfl)) rfl hl.1 rfl (Nat.le_of_ble_eq_true rfl) dX5_readsMeasure_12 (fun v w H locs hp hS => ?_)
    obtain ⟨hv, nu3, hp⟩ := hp
    have hp : w = RdW g ad F A E tl wd rv nu3 (spellT B Z 3 (sLen.getD 3 0) t) := hp
    obtain ⟨t2, ht2⟩ : ∃ z : PT, z = spellT B Z 3 (sLen.getD 3 0) t := ⟨_, rfl⟩
    rw [← ht2] at hp hv
    rw [hp] at hS
    rw [hv]
    obtain ⟨okt2, get2⟩ := spellT_ok hP (i := 3) (by decide) ht (sLen.getD 3 0) (Nat.le_refl _)
    rw [← ht2] at okt2 get2
    have t2a := okt2.1; have t2b := okt2.2.1; have t2c := okt2.2.2; have t2d := get2.1; have t2e := get2.2; try dsimp only at t2d t2e
    refine li_ifeq_b (tgt := 25) hC (by decide) dX5_readsMeasure_15 (fun c4 => ?_) (fun c4 => ?_)
    · refine li_iconst hC dX5_readsMeasure_25 ?_
      exact hQ _ _ _ _ _ _ _ _ dX5_readsMeasure_26 hS (by omega) (by omega) (by omega) (by rw [show spellT B Z 3 6 t = t2 from ht2.symm, fig_w (by omega)]; exact ⟨iI_inj (b2_f (by assumption)).symm, nu3, wd, rv, rfl, fun h9 => absurd h9 (by assumption)⟩)
    · refine li_aload_n hC hl 0 rfl dX5_readsMeasure_18 ?_
      refine wr_callVz hC (c_X5_takesNumber l g ad F A E tl B ac Z wd rv nu3 t2 hP hT okt2 (show t2.1 = 0 by omega) _) mk_X5_takesNumber ml_X5_63 (rr (by decide)) ⟨by simp only [rmC]; omega, by simp only [rmC]; omega⟩ hK hS (li_recv hK.1 ck_X5 (hS.1 39 _ rfl)) rfl hl.1 rfl (Nat.le_of_ble_eq_true rfl) dX5_readsMeasure_19 (fun v w H locs hp hS => ?_)
      obtain ⟨hv, nu6, hp, hnu6⟩ := hp
      have hp : w = RdW g ad F A E tl wd rv nu6 (figT B Z t2) := hp
      obtain ⟨t5, ht5⟩ : ∃ z : PT, z = figT B Z t2 := ⟨_, rfl⟩
      rw [← ht5] at hp hv hnu6
      rw [hp] at hS
      rw [hv]
      obtain ⟨okt5, get5⟩ := (⟨(figT_ok hP okt2).1, (figT_ok hP okt2).2.1⟩ : okT Z (figT B Z t2) ∧ geT t2 (figT B Z t2))
      rw [← ht5] at okt5 get5
      have t5a := okt5.1; have t5b := okt5.2.1; have t5c := okt5.2.2; have t5d := get5.1; have t5e := get5.2; try dsimp only at t5d t5e
      have nu6v := (figT_ok hP okt2).2.2.1
      have nu6l := (figT_ok hP okt2).2.2.2
      rw [← ht5] at nu6l
      refine li_ifne_b (tgt := 27) hC (by decide) dX5_readsMeasure_22 (fun c7 => ?_) (fun c7 => ?_)
      · have e7 := hnu6 (by assumption); have e8 := nu6v; rw [← e7] at e8
        refine li_iload_n hC hl 1 rfl dX5_readsMeasure_27 ?_
        refine li_if_eq (tgt := 52) hC (by decide) (rg (by decide) (by decide)) dX5_readsMeasure_28 (fun c8 => ?_) (fun c8 => ?_)
        · refine li_aload_n hC hl 0 rfl dX5_readsMeasure_52 ?_
          refine li_aload_n hC hl 0 rfl dX5_readsMeasure_53 ?_
          refine li_get hC hK.1 ck_X5 (hS.1 39 _ rfl) 5 (by decide) fl_X5_66 rfl (v := .int (iI nu6)) rfl dX5_readsMeasure_54 ?_
          refine li_put hC hK hS ck_X5 39 rfl 4 (by decide) fl_X5_30 rfl rfl (v := .int (iI nu6)) rfl rfl (Nat.le_of_ble_eq_true rfl) (ws' := RdW g ad F A E tl wd nu6 nu6 t5) rfl dX5_readsMeasure_57 (fun H locs hS => ?_)
          refine li_iconst hC dX5_readsMeasure_60 ?_
          exact hQ _ _ _ _ _ _ _ _ dX5_readsMeasure_61 hS (by omega) (by omega) (by omega) (by rw [show spellT B Z 3 6 t = t2 from ht2.symm, ← ht5]; exact ⟨iI_inj (b2_t (by assumption)).symm, nu6, wd, nu6, rfl, fun h9 => ⟨by rfl, hnu6 h9⟩⟩)
        · exact absurd c8 (by decide)
      · refine li_iconst hC dX5_readsMeasure_25 ?_
        exact hQ _ _ _ _ _ _ _ _ dX5_readsMeasure_26 hS (by omega) (by omega) (by omega) (by rw [show spellT B Z 3 6 t = t2 from ht2.symm, ← ht5]; exact ⟨iI_inj (b2_f (by assumption)).symm, nu6, wd, rv, rfl, fun h9 => absurd h9 (by assumption)⟩)
  · exact absurd c1 (by decide)
set_option maxHeartbeats 4000000 in
set_option maxRecDepth 100000 in
theorem c_X5_readsClause (l : Launch) (g : GG) (ad : Nat → Nat) (F : Nat → Int) (A : Nat → Nat → Int) (E : Nat → Nat) (tl : va_W) (B : Nat → Int) (ac : Int) (Z : Int) (wd : Int) (rv : Int) (nu : Int) (t : PT) (hP : PIn B ac Z) (hT : TapI F A B Z) (ht : okT Z t) (ht0 : t.1 = 0) (hM : wd = clampS (B (224 + ac).toNat) 10 30 ∧ rv = B (229 + ac).toNat) (sz : Nat) : MwrZ l g yX5_readsClause cX5_readsClause 4 26 0 0 [.ref (ad 39)] sz (RdW g ad F A E tl wd rv nu t) (fun v w => v = iI (b2 ((clauseT B Z t).1 = 0)) ∧ ∃ nu2 wd2 rv2 : Int, w = RdW g ad F A E tl wd2 rv2 nu2 (clauseT B Z t) ∧ ((clauseT B Z t).1 = 0 → wd2 = clampS (clauseB B ac Z t (224 + ac).toNat) 10 30 ∧ rv2 = clauseB B ac Z t (229 + ac).toNat)) := by
  refine wr_startZ (own := RX5) (by decide) rfl (Nat.le_of_ble_eq_true rfl) ?_
  intro Pg Ev s Mi args below Mt Cd ls Q Aw hC hK hS hnm hl hQ
  have hta := ht.1; have htb := ht.2.1; have htc := ht.2.2; have hPa := hP.1; have hPb := hP.2.1
  have hl : lv_has ls 4 [(0, .ref (ad 39))] := hl
  obtain ⟨H, hH⟩ : ∃ H, H = s.heap := ⟨_, rfl⟩
  obtain ⟨locs, hlo⟩ : ∃ locs : List Loc, locs = [] := ⟨_, rfl⟩
  have hS : St g Aw s.heap H locs (RdW g ad F A E tl wd rv nu t) := by rw [hH, hlo]; exact hS
  have goal : W Pg l Ev (rmC 26 0 0) s Mi args below Mt Cd H locs 0 0 Q (F0 Mi 0 ls []) := ?goal
  · rw [hH, hlo] at goal; exact goal
  clear hH hlo
  refine li_aload_n hC hl 0 rfl dX5_readsClause_0 ?_
  refine ro_callVi hC (c_X5_next l g ad F A E tl B ac Z wd rv nu t hP hT (by first | omega | (dsimp only; omega))) mk_X5_next ml_X5_48 (rr (by decide)) ⟨Nat.le_of_ble_eq_true rfl, Nat.le_of_ble_eq_true rfl⟩ hK.1 (hS.ro hK) hS.1 (li_recv hK.1 ck_X5 (hS.1 39 _ rfl)) rfl hl.1 rfl (Nat.le_of_ble_eq_true rfl) dX5_readsClause_1 ?_
  have q1 := hereT_rng hP (q := t.2.1) (by omega)
  refine li_istore_n hC (lv' := [(1, .int (iI (hereT B Z t.2.1))), (0, .ref (ad 39))]) hl (by decide) rfl dX5_readsClause_4 (fun ls hl => ?_)
  refine li_iload_n hC hl 0 rfl dX5_readsClause_5 ?_
  refine li_bipush hC (z := 119) rfl dX5_readsClause_6 ?_
  refine li_icmp_eq (tgt := 17) hC (by decide) (rg (by omega) (by omega)) (rg (by decide) (by decide)) dX5_readsClause_8 (fun c2 => ?_) (fun c2 => ?_)
  · refine li_aload_n hC hl 1 rfl dX5_readsClause_17 ?_
    refine li_iload_n hC hl 0 rfl dX5_readsClause_18 ?_
    refine li_bipush hC (z := 119) rfl dX5_readsClause_19 ?_
    refine li_icmp_ne (tgt := 28) hC (by decide) (rg (by omega) (by omega)) (rg (by decide) (by decide)) dX5_readsClause_21 (fun c3 => ?_) (fun c3 => ?_)
    · refine li_iconst hC dX5_readsClause_28 ?_
      refine wr_callVz hC (c_X5_readsMeasure_0 l g ad F A E tl B ac Z wd rv nu t hP hT ht (show t.1 = 0 by omega) _) mk_X5_readsMeasure ml_X5_51 (rr (by decide)) ⟨by simp only [rmC]; omega, by simp only [rmC]; omega⟩ hK hS (li_recv hK.1 ck_X5 (hS.1 39 _ rfl)) rfl hl.1 rfl (Nat.le_of_ble_eq_true rfl) dX5_readsClause_29 (fun v w H locs hp hS => ?_)
      obtain ⟨hv, nu5, nu5w, nu5r, hp, hnu5⟩ := hp
      obtain ⟨t4, ht4⟩ : ∃ z : PT, z = figT B Z (spellT B Z 3 6 t) := ⟨_, rfl⟩
      rw [← ht4] at hp hv hnu5; rw [hp] at hS; rw [hv]
      exact hQ _ _ _ _ _ _ _ _ dX5_readsClause_32 hS (by omega) (by omega) (b2_01 _) (by have e9 : clauseT B Z t = t4 := (by unfold clauseT; rw [if_neg (by omega), if_pos (by omega), ht4]); rw [e9]; exact ⟨rfl, nu5, nu5w, nu5r, rfl, fun h9 => ⟨by rw [(hnu5 h9).1]; unfold clauseB tellB; rw [if_neg (by omega), if_pos (by omega), iteP_t (by show (figT B Z (spellT B Z 3 6 t)).1 = 0; rw [← ht4]; exact h9), up_ne _ _ (by omega)]; exact hM.1, by rw [(hnu5 h9).2]; unfold clauseB tellB; rw [if_neg (by omega), if_pos (by omega), iteP_t (by show (figT B Z (spellT B Z 3 6 t)).1 = 0; rw [← ht4]; exact h9), up_same]; rfl⟩⟩)
    · refine li_iconst hC dX5_readsClause_24 ?_
      refine li_goto (tgt := 29) hC (by decide) dX5_readsClause_25 ?_
      refine wr_callVz hC (c_X5_readsMeasure_1 l g ad F A E tl B ac Z wd rv nu t hP hT ht (show t.1 = 0 by omega) _) mk_X5_readsMeasure ml_X5_51 (rr (by decide)) ⟨by simp only [rmC]; omega, by simp only [rmC]; omega⟩ hK hS (li_recv hK.1 ck_X5 (hS.1 39 _ rfl)) rfl hl.1 rfl (Nat.le_of_ble_eq_true rfl) dX5_readsClause_29 (fun v w H locs hp hS => ?_)
      obtain ⟨hv, nu7, nu7w, nu7r, hp, hnu7⟩ := hp
      obtain ⟨t6, ht6⟩ : ∃ z : PT, z = figT B Z (spellT B Z 2 5 t) := ⟨_, rfl⟩
      rw [← ht6] at hp hv hnu7; rw [hp] at hS; rw [hv]
      exact hQ _ _ _ _ _ _ _ _ dX5_readsClause_32 hS (by omega) (by omega) (b2_01 _) (by have e9 : clauseT B Z t = t6 := (by unfold clauseT; rw [if_pos (by omega), ht6]); rw [e9]; exact ⟨rfl, nu7, nu7w, nu7r, rfl, fun h9 => ⟨by rw [(hnu7 h9).1]; unfold clauseB tellB; rw [if_pos (by omega), iteP_t (by show (figT B Z (spellT B Z 2 5 t)).1 = 0; rw [← ht6]; exact h9), up_same]; rfl, by rw [(hnu7 h9).2]; unfold clauseB tellB; rw [if_pos (by omega), iteP_t (by show (figT B Z (spellT B Z 2 5 t)).1 = 0; rw [← ht6]; exact h9), up_ne _ _ (by omega)]; exact hM.2⟩⟩)
  · refine li_iload_n hC hl 0 rfl dX5_readsClause_11 ?_
    refine li_bipush hC (z := 114) rfl dX5_readsClause_12 ?_
    refine li_icmp_ne (tgt := 33) hC (by decide) (rg (by omega) (by omega)) (rg (by decide) (by decide)) dX5_readsClause_14 (fun c8 => ?_) (fun c8 => ?_)
    · refine li_iload_n hC hl 0 rfl dX5_readsClause_33 ?_
      refine li_bipush hC (z := 108) rfl dX5_readsClause_34 ?_
      refine li_icmp_ne (tgt := 43) hC (by decide) (rg (by omega) (by omega)) (rg (by decide) (by decide)) dX5_readsClause_36 (fun c9 => ?_) (fun c9 => ?_)
      · refine li_iconst hC dX5_readsClause_43 ?_
        refine li_istore_n hC (lv' := [(2, .int (iI 0)), (1, .int (iI (hereT B Z t.2.1))), (0, .ref (ad 39))]) hl (by decide) rfl dX5_readsClause_44 (fun ls hl => ?_)
        refine li_aload_n hC hl 2 rfl dX5_readsClause_45 ?_
        refine li_iload_n hC hl 0 rfl dX5_readsClause_46 ?_
        refine li_if_eq (tgt := 55) hC (by decide) (rg (by decide) (by decide)) dX5_readsClause_47 (fun c10 => ?_) (fun c10 => ?_)
        · refine li_ldcS hC hK.1.2.2.1.2.1 dX5_readsClause_55 ?_
          refine wr_callVz hC (c_X5_takesWord l g ad F A E tl B ac Z wd rv nu t 1 hP hT ht (show t.1 = 0 by omega) (by decide) _) mk_X5_takesWord ml_X5_59 (rr (by decide)) ⟨by simp only [rmC]; omega, by simp only [rmC]; omega⟩ hK hS (li_recv hK.1 ck_X5 (hS.1 39 _ rfl)) rfl hl.1 rfl (Nat.le_of_ble_eq_true rfl) dX5_readsClause_57 (fun v w H locs hp hS => ?_)
          obtain ⟨hv, nu12, hp⟩ := hp
          have hp : w = RdW g ad F A E tl wd rv nu12 (spellT B Z 1 (sLen.getD 1 0) t) := hp
          obtain ⟨t11, ht11⟩ : ∃ z : PT, z = spellT B Z 1 (sLen.getD 1 0) t := ⟨_, rfl⟩
          rw [← ht11] at hp hv
          rw [hp] at hS
          rw [hv]
          obtain ⟨okt11, get11⟩ := spellT_ok hP (i := 1) (by decide) ht (sLen.getD 1 0) (Nat.le_refl _)
          rw [← ht11] at okt11 get11
          have t11a := okt11.1; have t11b := okt11.2.1; have t11c := okt11.2.2; have t11d := get11.1; have t11e := get11.2; try dsimp only at t11d t11e
          refine li_ifeq_b (tgt := 70) hC (by decide) dX5_readsClause_60 (fun c13 => ?_) (fun c13 => ?_)
          · refine li_iconst hC dX5_readsClause_70 ?_
            exact hQ _ _ _ _ _ _ _ _ dX5_readsClause_71 hS (by omega) (by omega) (by omega) (by have e9 : clauseT B Z t = t11 := (by by_cases h98 : hereT B Z t.2.1 = 98; { unfold clauseT; rw [if_neg (by omega), if_neg (by omega), if_neg (by omega), if_pos (by omega), much_1 ht11 (by omega)] }; { unfold clauseT; rw [if_neg (by omega), if_neg (by omega), if_neg (by omega), if_neg h98, ht11]; exact (spell_ne (by decide) (by rw [show chS 1 0 = 98 by decide +kernel]; exact h98)).symm }); rw [e9]; exact ⟨iI_inj (b2_f (by assumption)).symm, nu12, wd, rv, rfl, fun h9 => absurd h9 (by assumption)⟩)
          · refine li_aload_n hC hl 2 rfl dX5_readsClause_63 ?_
            refine wr_callVz hC (c_X5_takesNumber l g ad F A E tl B ac Z wd rv nu12 t11 hP hT okt11 (show t11.1 = 0 by omega) _) mk_X5_takesNumber ml_X5_63 (rr (by decide)) ⟨by simp only [rmC]; omega, by simp only [rmC]; omega⟩ hK hS (li_recv hK.1 ck_X5 (hS.1 39 _ rfl)) rfl hl.1 rfl (Nat.le_of_ble_eq_true rfl) dX5_readsClause_64 (fun v w H locs hp hS => ?_)
            obtain ⟨hv, nu15, hp, hnu15⟩ := hp
            have hp : w = RdW g ad F A E tl wd rv nu15 (figT B Z t11) := hp
            obtain ⟨t14, ht14⟩ : ∃ z : PT, z = figT B Z t11 := ⟨_, rfl⟩
            rw [← ht14] at hp hv hnu15
            rw [hp] at hS
            rw [hv]
            obtain ⟨okt14, get14⟩ := (⟨(figT_ok hP okt11).1, (figT_ok hP okt11).2.1⟩ : okT Z (figT B Z t11) ∧ geT t11 (figT B Z t11))
            rw [← ht14] at okt14 get14
            have t14a := okt14.1; have t14b := okt14.2.1; have t14c := okt14.2.2; have t14d := get14.1; have t14e := get14.2; try dsimp only at t14d t14e
            have nu15v := (figT_ok hP okt11).2.2.1
            have nu15l := (figT_ok hP okt11).2.2.2
            rw [← ht14] at nu15l
            refine li_ifne_b (tgt := 72) hC (by decide) dX5_readsClause_67 (fun c16 => ?_) (fun c16 => ?_)
            · refine li_iload_n hC hl 0 rfl dX5_readsClause_72 ?_
              refine li_if_eq (tgt := 82) hC (by decide) (rg (by decide) (by decide)) dX5_readsClause_73 (fun c17 => ?_) (fun c17 => ?_)
              · refine li_sipush hC (z := 20000) rfl dX5_readsClause_82 ?_
                refine li_aload_n hC hl 2 rfl dX5_readsClause_85 ?_
                refine li_get hC hK.1 ck_X5 (hS.1 39 _ rfl) 5 (by decide) fl_X5_66 rfl (v := .int (iI nu15)) rfl dX5_readsClause_86 ?_
                refine li_iadd hC dX5_readsClause_89 ?_
                refine li_istore_n hC (lv' := [(3, .int (iI (20000 + nu15))), (2, .int (iI 0)), (1, .int (iI (hereT B Z t.2.1))), (0, .ref (ad 39))]) hl (by decide) rfl dX5_readsClause_90 (fun ls hl => ?_)
                refine li_aload_n hC hl 3 rfl dX5_readsClause_91 ?_
                refine li_bipush hC (z := 32) rfl dX5_readsClause_92 ?_
                refine wr_callVz hC (c_X5_takes l g ad F A E tl B ac Z wd rv nu15 t14 32 hP hT okt14 (show t14.1 = 0 by omega) (by first | omega | (dsimp only; omega)) _) mk_X5_takes ml_X5_44 (rr (by decide)) ⟨by simp only [rmC]; omega, by simp only [rmC]; omega⟩ hK hS (li_recv hK.1 ck_X5 (hS.1 39 _ rfl)) rfl hl.1 rfl (Nat.le_of_ble_eq_true rfl) dX5_readsClause_94 (fun v w H locs hp hS => ?_)
                obtain ⟨hv, nu19, hp⟩ := hp
                have hp : w = RdW g ad F A E tl wd rv nu19 (mustT B Z 32 t14) := hp
                obtain ⟨t18, ht18⟩ : ∃ z : PT, z = mustT B Z 32 t14 := ⟨_, rfl⟩
                rw [← ht18] at hp hv
                rw [hp] at hS
                rw [hv]
                obtain ⟨okt18, get18⟩ := mustT_ok (c := 32) hP okt14 (by omega)
                rw [← ht18] at okt18 get18
                have t18a := okt18.1; have t18b := okt18.2.1; have t18c := okt18.2.2; have t18d := get18.1; have t18e := get18.2; try dsimp only at t18d t18e
                refine li_ifeq_b (tgt := 108) hC (by decide) dX5_readsClause_97 (fun c20 => ?_) (fun c20 => ?_)
                · refine li_iconst hC dX5_readsClause_108 ?_
                  exact hQ _ _ _ _ _ _ _ _ dX5_readsClause_109 hS (by omega) (by omega) (by omega) (by have h98 : hereT B Z t.2.1 = 98 := (love_98 ht11 (by assumption)); have e9 : clauseT B Z t = t18 := (by unfold clauseT; rw [if_neg (by omega), if_neg (by omega), if_neg (by omega), if_pos (by omega), much_3 ht11 ht14 ht18 (by omega)]); rw [e9]; exact ⟨iI_inj (b2_f (by assumption)).symm, nu19, wd, rv, rfl, fun h9 => absurd h9 (by assumption)⟩)
                · have el := (must_eq ht18 (by assumption) (by assumption)).2; have el1 := congrArg (fun z : PT => z.2.1) el; have el2 := congrArg (fun z : PT => z.2.2.length) el; dsimp only at el1 el2
                  refine li_aload_n hC hl 3 rfl dX5_readsClause_100 ?_
                  refine li_iconst hC dX5_readsClause_101 ?_
                  refine wr_callVz hC ((c_obe l g 5).2.2 ad F A E tl B ac Z wd rv nu19 t18 0 500 hP hT okt18 (show t18.1 = 0 by omega) (by first | omega | (dsimp only; omega)) (by first | omega | (dsimp only; omega)) (by first | omega | (dsimp only; omega)) _) mk_X5_readsEither ml_X5_69 (rr (by omega)) ⟨by simp only [rmC]; omega, by simp only [rmC]; omega⟩ hK hS (li_recv hK.1 ck_X5 (hS.1 39 _ rfl)) rfl hl.1 rfl (Nat.le_of_ble_eq_true rfl) dX5_readsClause_102 (fun v w H locs hp hS => ?_)
                  obtain ⟨hv, nu22, hp⟩ := hp
                  have hp : w = RdW g ad F A E tl wd rv nu22 (pT B Z 500 2 0 t18) := hp
                  obtain ⟨t21, ht21⟩ : ∃ z : PT, z = pT B Z 500 2 0 t18 := ⟨_, rfl⟩
                  rw [← ht21] at hp hv
                  rw [hp] at hS
                  rw [hv]
                  obtain ⟨okt21, get21⟩ := (pT_ok hP 500 2 0 t18 okt18)
                  rw [← ht21] at okt21 get21
                  have t21a := okt21.1; have t21b := okt21.2.1; have t21c := okt21.2.2; have t21d := get21.1; have t21e := get21.2; try dsimp only at t21d t21e
                  refine li_ifne_b (tgt := 110) hC (by decide) dX5_readsClause_105 (fun c23 => ?_) (fun c23 => ?_)
                  · refine li_aload_n hC hl 3 rfl dX5_readsClause_110 ?_
                    refine li_get hC hK.1 ck_X5 (hS.1 39 _ rfl) 1 (by decide) fl_X5_14 rfl (v := .ref (ad 40)) rfl dX5_readsClause_111 ?_
                    refine li_iload_n hC hl 0 rfl dX5_readsClause_114 ?_
                    refine wr_callVv hC (c_X6_add l g (ws := RdW g ad F A E tl wd rv nu22 t21) (i := 40) (j := 41) (a := (ad 40)) (b := (ad 41)) (n := 100) (f := cdA (A 41) t21.2.2) (sz := (t21.2.2.length : Int)) rfl rfl (Nat.le_of_ble_eq_true rfl) (v := 20000 + nu15) ⟨by omega, by omega⟩ (by decide) (ws2 := RdW g ad F A E tl wd rv nu22 (t21.1, t21.2.1, t21.2.2 ++ [(-200) - figV B Z t11])) (rdw_add (y := (-200) - figV B Z t11) (by rw [hnu15 (by assumption)]; exact (cvS_neg (by omega)).2)) _) mk_X6_add ml_X5_72 (rr (by decide)) ⟨by simp only [rmC]; omega, by simp only [rmC]; omega⟩ hK hS (li_recv hK.1 ck_X6 (hS.1 40 _ rfl)) rfl hl.1 rfl (Nat.le_of_ble_eq_true rfl) dX5_readsClause_115 (fun w H locs hp hS => ?_)
                    rw [hp] at hS
                    have hS : St g Aw s.heap H locs (RdW g ad F A E tl wd rv nu22 (t21.1, t21.2.1, t21.2.2 ++ [(-200) - figV B Z t11])) := hS
                    refine li_iconst hC dX5_readsClause_118 ?_
                    exact hQ _ _ _ _ _ _ _ _ dX5_readsClause_119 hS (by omega) (by omega) (by omega) (by have h98 : hereT B Z t.2.1 = 98 := (love_98 ht11 (by assumption)); have e9 : clauseT B Z t = (t21.1, t21.2.1, t21.2.2 ++ [(-200) - figV B Z t11]) := (by unfold clauseT; rw [if_neg (by omega), if_neg (by omega), if_neg (by omega), if_pos (by omega), much_4 ht11 ht14 ht18 ht21, emit_0 (by assumption)]); rw [e9]; exact ⟨iI_inj (b2_t (by assumption)).symm, nu22, wd, rv, rfl, fun h9 => by rw [show clauseB B ac Z t = B from (by unfold clauseB; rw [if_neg (by omega), if_neg (by omega)])]; exact hM⟩)
                  · refine li_iconst hC dX5_readsClause_108 ?_
                    exact hQ _ _ _ _ _ _ _ _ dX5_readsClause_109 hS (by omega) (by omega) (by omega) (by have h98 : hereT B Z t.2.1 = 98 := (love_98 ht11 (by assumption)); have e9 : clauseT B Z t = t21 := (by unfold clauseT; rw [if_neg (by omega), if_neg (by omega), if_neg (by omega), if_pos (by omega), much_4 ht11 ht14 ht18 ht21, emit_1 (by assumption)]); rw [e9]; exact ⟨iI_inj (b2_f (by assumption)).symm, nu22, wd, rv, rfl, fun h9 => absurd h9 (by assumption)⟩)
              · exact absurd c17 (by decide)
            · refine li_iconst hC dX5_readsClause_70 ?_
              exact hQ _ _ _ _ _ _ _ _ dX5_readsClause_71 hS (by omega) (by omega) (by omega) (by have h98 : hereT B Z t.2.1 = 98 := (love_98 ht11 (by assumption)); have e9 : clauseT B Z t = t14 := (by unfold clauseT; rw [if_neg (by omega), if_neg (by omega), if_neg (by omega), if_pos (by omega), much_2 ht11 ht14 (by omega)]); rw [e9]; exact ⟨iI_inj (b2_f (by assumption)).symm, nu15, wd, rv, rfl, fun h9 => absurd h9 (by assumption)⟩)
        · exact absurd c10 (by decide)
      · refine li_iconst hC dX5_readsClause_39 ?_
        refine li_goto (tgt := 44) hC (by decide) dX5_readsClause_40 ?_
        refine li_istore_n hC (lv' := [(2, .int (iI 1)), (1, .int (iI (hereT B Z t.2.1))), (0, .ref (ad 39))]) hl (by decide) rfl dX5_readsClause_44 (fun ls hl => ?_)
        refine li_aload_n hC hl 2 rfl dX5_readsClause_45 ?_
        refine li_iload_n hC hl 0 rfl dX5_readsClause_46 ?_
        refine li_if_eq (tgt := 55) hC (by decide) (rg (by decide) (by decide)) dX5_readsClause_47 (fun c24 => ?_) (fun c24 => ?_)
        · exact absurd c24 (by decide)
        · refine li_ldcS hC hK.1.2.2.1.1 dX5_readsClause_50 ?_
          refine li_goto (tgt := 57) hC (by decide) dX5_readsClause_52 ?_
          refine wr_callVz hC (c_X5_takesWord l g ad F A E tl B ac Z wd rv nu t 0 hP hT ht (show t.1 = 0 by omega) (by decide) _) mk_X5_takesWord ml_X5_59 (rr (by decide)) ⟨by simp only [rmC]; omega, by simp only [rmC]; omega⟩ hK hS (li_recv hK.1 ck_X5 (hS.1 39 _ rfl)) rfl hl.1 rfl (Nat.le_of_ble_eq_true rfl) dX5_readsClause_57 (fun v w H locs hp hS => ?_)
          obtain ⟨hv, nu26, hp⟩ := hp
          have hp : w = RdW g ad F A E tl wd rv nu26 (spellT B Z 0 (sLen.getD 0 0) t) := hp
          obtain ⟨t25, ht25⟩ : ∃ z : PT, z = spellT B Z 0 (sLen.getD 0 0) t := ⟨_, rfl⟩
          rw [← ht25] at hp hv
          rw [hp] at hS
          rw [hv]
          obtain ⟨okt25, get25⟩ := spellT_ok hP (i := 0) (by decide) ht (sLen.getD 0 0) (Nat.le_refl _)
          rw [← ht25] at okt25 get25
          have t25a := okt25.1; have t25b := okt25.2.1; have t25c := okt25.2.2; have t25d := get25.1; have t25e := get25.2; try dsimp only at t25d t25e
          refine li_ifeq_b (tgt := 70) hC (by decide) dX5_readsClause_60 (fun c27 => ?_) (fun c27 => ?_)
          · refine li_iconst hC dX5_readsClause_70 ?_
            exact hQ _ _ _ _ _ _ _ _ dX5_readsClause_71 hS (by omega) (by omega) (by omega) (by have e9 : clauseT B Z t = t25 := (by unfold clauseT; rw [if_neg (by omega), if_neg (by omega), if_pos (by omega), much_1 ht25 (by omega)]); rw [e9]; exact ⟨iI_inj (b2_f (by assumption)).symm, nu26, wd, rv, rfl, fun h9 => absurd h9 (by assumption)⟩)
          · refine li_aload_n hC hl 2 rfl dX5_readsClause_63 ?_
            refine wr_callVz hC (c_X5_takesNumber l g ad F A E tl B ac Z wd rv nu26 t25 hP hT okt25 (show t25.1 = 0 by omega) _) mk_X5_takesNumber ml_X5_63 (rr (by decide)) ⟨by simp only [rmC]; omega, by simp only [rmC]; omega⟩ hK hS (li_recv hK.1 ck_X5 (hS.1 39 _ rfl)) rfl hl.1 rfl (Nat.le_of_ble_eq_true rfl) dX5_readsClause_64 (fun v w H locs hp hS => ?_)
            obtain ⟨hv, nu29, hp, hnu29⟩ := hp
            have hp : w = RdW g ad F A E tl wd rv nu29 (figT B Z t25) := hp
            obtain ⟨t28, ht28⟩ : ∃ z : PT, z = figT B Z t25 := ⟨_, rfl⟩
            rw [← ht28] at hp hv hnu29
            rw [hp] at hS
            rw [hv]
            obtain ⟨okt28, get28⟩ := (⟨(figT_ok hP okt25).1, (figT_ok hP okt25).2.1⟩ : okT Z (figT B Z t25) ∧ geT t25 (figT B Z t25))
            rw [← ht28] at okt28 get28
            have t28a := okt28.1; have t28b := okt28.2.1; have t28c := okt28.2.2; have t28d := get28.1; have t28e := get28.2; try dsimp only at t28d t28e
            have nu29v := (figT_ok hP okt25).2.2.1
            have nu29l := (figT_ok hP okt25).2.2.2
            rw [← ht28] at nu29l
            refine li_ifne_b (tgt := 72) hC (by decide) dX5_readsClause_67 (fun c30 => ?_) (fun c30 => ?_)
            · refine li_iload_n hC hl 0 rfl dX5_readsClause_72 ?_
              refine li_if_eq (tgt := 82) hC (by decide) (rg (by decide) (by decide)) dX5_readsClause_73 (fun c31 => ?_) (fun c31 => ?_)
              · exact absurd c31 (by decide)
              · refine li_sipush hC (z := 10000) rfl dX5_readsClause_76 ?_
                refine li_goto (tgt := 85) hC (by decide) dX5_readsClause_79 ?_
                refine li_aload_n hC hl 2 rfl dX5_readsClause_85 ?_
                refine li_get hC hK.1 ck_X5 (hS.1 39 _ rfl) 5 (by decide) fl_X5_66 rfl (v := .int (iI nu29)) rfl dX5_readsClause_86 ?_
                refine li_iadd hC dX5_readsClause_89 ?_
                refine li_istore_n hC (lv' := [(3, .int (iI (10000 + nu29))), (2, .int (iI 1)), (1, .int (iI (hereT B Z t.2.1))), (0, .ref (ad 39))]) hl (by decide) rfl dX5_readsClause_90 (fun ls hl => ?_)
                refine li_aload_n hC hl 3 rfl dX5_readsClause_91 ?_
                refine li_bipush hC (z := 32) rfl dX5_readsClause_92 ?_
                refine wr_callVz hC (c_X5_takes l g ad F A E tl B ac Z wd rv nu29 t28 32 hP hT okt28 (show t28.1 = 0 by omega) (by first | omega | (dsimp only; omega)) _) mk_X5_takes ml_X5_44 (rr (by decide)) ⟨by simp only [rmC]; omega, by simp only [rmC]; omega⟩ hK hS (li_recv hK.1 ck_X5 (hS.1 39 _ rfl)) rfl hl.1 rfl (Nat.le_of_ble_eq_true rfl) dX5_readsClause_94 (fun v w H locs hp hS => ?_)
                obtain ⟨hv, nu33, hp⟩ := hp
                have hp : w = RdW g ad F A E tl wd rv nu33 (mustT B Z 32 t28) := hp
                obtain ⟨t32, ht32⟩ : ∃ z : PT, z = mustT B Z 32 t28 := ⟨_, rfl⟩
                rw [← ht32] at hp hv
                rw [hp] at hS
                rw [hv]
                obtain ⟨okt32, get32⟩ := mustT_ok (c := 32) hP okt28 (by omega)
                rw [← ht32] at okt32 get32
                have t32a := okt32.1; have t32b := okt32.2.1; have t32c := okt32.2.2; have t32d := get32.1; have t32e := get32.2; try dsimp only at t32d t32e
                refine li_ifeq_b (tgt := 108) hC (by decide) dX5_readsClause_97 (fun c34 => ?_) (fun c34 => ?_)
                · refine li_iconst hC dX5_readsClause_108 ?_
                  exact hQ _ _ _ _ _ _ _ _ dX5_readsClause_109 hS (by omega) (by omega) (by omega) (by have e9 : clauseT B Z t = t32 := (by unfold clauseT; rw [if_neg (by omega), if_neg (by omega), if_pos (by omega), much_3 ht25 ht28 ht32 (by omega)]); rw [e9]; exact ⟨iI_inj (b2_f (by assumption)).symm, nu33, wd, rv, rfl, fun h9 => absurd h9 (by assumption)⟩)
                · have el := (must_eq ht32 (by assumption) (by assumption)).2; have el1 := congrArg (fun z : PT => z.2.1) el; have el2 := congrArg (fun z : PT => z.2.2.length) el; dsimp only at el1 el2
                  refine li_aload_n hC hl 3 rfl dX5_readsClause_100 ?_
                  refine li_iconst hC dX5_readsClause_101 ?_
                  refine wr_callVz hC ((c_obe l g 5).2.2 ad F A E tl B ac Z wd rv nu33 t32 0 500 hP hT okt32 (show t32.1 = 0 by omega) (by first | omega | (dsimp only; omega)) (by first | omega | (dsimp only; omega)) (by first | omega | (dsimp only; omega)) _) mk_X5_readsEither ml_X5_69 (rr (by omega)) ⟨by simp only [rmC]; omega, by simp only [rmC]; omega⟩ hK hS (li_recv hK.1 ck_X5 (hS.1 39 _ rfl)) rfl hl.1 rfl (Nat.le_of_ble_eq_true rfl) dX5_readsClause_102 (fun v w H locs hp hS => ?_)
                  obtain ⟨hv, nu36, hp⟩ := hp
                  have hp : w = RdW g ad F A E tl wd rv nu36 (pT B Z 500 2 0 t32) := hp
                  obtain ⟨t35, ht35⟩ : ∃ z : PT, z = pT B Z 500 2 0 t32 := ⟨_, rfl⟩
                  rw [← ht35] at hp hv
                  rw [hp] at hS
                  rw [hv]
                  obtain ⟨okt35, get35⟩ := (pT_ok hP 500 2 0 t32 okt32)
                  rw [← ht35] at okt35 get35
                  have t35a := okt35.1; have t35b := okt35.2.1; have t35c := okt35.2.2; have t35d := get35.1; have t35e := get35.2; try dsimp only at t35d t35e
                  refine li_ifne_b (tgt := 110) hC (by decide) dX5_readsClause_105 (fun c37 => ?_) (fun c37 => ?_)
                  · refine li_aload_n hC hl 3 rfl dX5_readsClause_110 ?_
                    refine li_get hC hK.1 ck_X5 (hS.1 39 _ rfl) 1 (by decide) fl_X5_14 rfl (v := .ref (ad 40)) rfl dX5_readsClause_111 ?_
                    refine li_iload_n hC hl 0 rfl dX5_readsClause_114 ?_
                    refine wr_callVv hC (c_X6_add l g (ws := RdW g ad F A E tl wd rv nu36 t35) (i := 40) (j := 41) (a := (ad 40)) (b := (ad 41)) (n := 100) (f := cdA (A 41) t35.2.2) (sz := (t35.2.2.length : Int)) rfl rfl (Nat.le_of_ble_eq_true rfl) (v := 10000 + nu29) ⟨by omega, by omega⟩ (by decide) (ws2 := RdW g ad F A E tl wd rv nu36 (t35.1, t35.2.1, t35.2.2 ++ [(-10) - figV B Z t25])) (rdw_add (y := (-10) - figV B Z t25) (by rw [hnu29 (by assumption)]; exact (cvS_neg (by omega)).1)) _) mk_X6_add ml_X5_72 (rr (by decide)) ⟨by simp only [rmC]; omega, by simp only [rmC]; omega⟩ hK hS (li_recv hK.1 ck_X6 (hS.1 40 _ rfl)) rfl hl.1 rfl (Nat.le_of_ble_eq_true rfl) dX5_readsClause_115 (fun w H locs hp hS => ?_)
                    rw [hp] at hS
                    have hS : St g Aw s.heap H locs (RdW g ad F A E tl wd rv nu36 (t35.1, t35.2.1, t35.2.2 ++ [(-10) - figV B Z t25])) := hS
                    refine li_iconst hC dX5_readsClause_118 ?_
                    exact hQ _ _ _ _ _ _ _ _ dX5_readsClause_119 hS (by omega) (by omega) (by omega) (by have e9 : clauseT B Z t = (t35.1, t35.2.1, t35.2.2 ++ [(-10) - figV B Z t25]) := (by unfold clauseT; rw [if_neg (by omega), if_neg (by omega), if_pos (by omega), much_4 ht25 ht28 ht32 ht35, emit_0 (by assumption)]); rw [e9]; exact ⟨iI_inj (b2_t (by assumption)).symm, nu36, wd, rv, rfl, fun h9 => by rw [show clauseB B ac Z t = B from (by unfold clauseB; rw [if_neg (by omega), if_neg (by omega)])]; exact hM⟩)
                  · refine li_iconst hC dX5_readsClause_108 ?_
                    exact hQ _ _ _ _ _ _ _ _ dX5_readsClause_109 hS (by omega) (by omega) (by omega) (by have e9 : clauseT B Z t = t35 := (by unfold clauseT; rw [if_neg (by omega), if_neg (by omega), if_pos (by omega), much_4 ht25 ht28 ht32 ht35, emit_1 (by assumption)]); rw [e9]; exact ⟨iI_inj (b2_f (by assumption)).symm, nu36, wd, rv, rfl, fun h9 => absurd h9 (by assumption)⟩)
            · refine li_iconst hC dX5_readsClause_70 ?_
              exact hQ _ _ _ _ _ _ _ _ dX5_readsClause_71 hS (by omega) (by omega) (by omega) (by have e9 : clauseT B Z t = t28 := (by unfold clauseT; rw [if_neg (by omega), if_neg (by omega), if_pos (by omega), much_2 ht25 ht28 (by omega)]); rw [e9]; exact ⟨iI_inj (b2_f (by assumption)).symm, nu29, wd, rv, rfl, fun h9 => absurd h9 (by assumption)⟩)
    · refine li_aload_n hC hl 1 rfl dX5_readsClause_17 ?_
      refine li_iload_n hC hl 0 rfl dX5_readsClause_18 ?_
      refine li_bipush hC (z := 119) rfl dX5_readsClause_19 ?_
      refine li_icmp_ne (tgt := 28) hC (by decide) (rg (by omega) (by omega)) (rg (by decide) (by decide)) dX5_readsClause_21 (fun c38 => ?_) (fun c38 => ?_)
      · refine li_iconst hC dX5_readsClause_28 ?_
        refine wr_callVz hC (c_X5_readsMeasure_0 l g ad F A E tl B ac Z wd rv nu t hP hT ht (show t.1 = 0 by omega) _) mk_X5_readsMeasure ml_X5_51 (rr (by decide)) ⟨by simp only [rmC]; omega, by simp only [rmC]; omega⟩ hK hS (li_recv hK.1 ck_X5 (hS.1 39 _ rfl)) rfl hl.1 rfl (Nat.le_of_ble_eq_true rfl) dX5_readsClause_29 (fun v w H locs hp hS => ?_)
        obtain ⟨hv, nu40, nu40w, nu40r, hp, hnu40⟩ := hp
        obtain ⟨t39, ht39⟩ : ∃ z : PT, z = figT B Z (spellT B Z 3 6 t) := ⟨_, rfl⟩
        rw [← ht39] at hp hv hnu40; rw [hp] at hS; rw [hv]
        exact hQ _ _ _ _ _ _ _ _ dX5_readsClause_32 hS (by omega) (by omega) (b2_01 _) (by have e9 : clauseT B Z t = t39 := (by unfold clauseT; rw [if_neg (by omega), if_pos (by omega), ht39]); rw [e9]; exact ⟨rfl, nu40, nu40w, nu40r, rfl, fun h9 => ⟨by rw [(hnu40 h9).1]; unfold clauseB tellB; rw [if_neg (by omega), if_pos (by omega), iteP_t (by show (figT B Z (spellT B Z 3 6 t)).1 = 0; rw [← ht39]; exact h9), up_ne _ _ (by omega)]; exact hM.1, by rw [(hnu40 h9).2]; unfold clauseB tellB; rw [if_neg (by omega), if_pos (by omega), iteP_t (by show (figT B Z (spellT B Z 3 6 t)).1 = 0; rw [← ht39]; exact h9), up_same]; rfl⟩⟩)
      · refine li_iconst hC dX5_readsClause_24 ?_
        refine li_goto (tgt := 29) hC (by decide) dX5_readsClause_25 ?_
        refine wr_callVz hC (c_X5_readsMeasure_1 l g ad F A E tl B ac Z wd rv nu t hP hT ht (show t.1 = 0 by omega) _) mk_X5_readsMeasure ml_X5_51 (rr (by decide)) ⟨by simp only [rmC]; omega, by simp only [rmC]; omega⟩ hK hS (li_recv hK.1 ck_X5 (hS.1 39 _ rfl)) rfl hl.1 rfl (Nat.le_of_ble_eq_true rfl) dX5_readsClause_29 (fun v w H locs hp hS => ?_)
        obtain ⟨hv, nu42, nu42w, nu42r, hp, hnu42⟩ := hp
        obtain ⟨t41, ht41⟩ : ∃ z : PT, z = figT B Z (spellT B Z 2 5 t) := ⟨_, rfl⟩
        rw [← ht41] at hp hv hnu42; rw [hp] at hS; rw [hv]
        exact hQ _ _ _ _ _ _ _ _ dX5_readsClause_32 hS (by omega) (by omega) (b2_01 _) (by have e9 : clauseT B Z t = t41 := (by unfold clauseT; rw [if_pos (by omega), ht41]); rw [e9]; exact ⟨rfl, nu42, nu42w, nu42r, rfl, fun h9 => ⟨by rw [(hnu42 h9).1]; unfold clauseB tellB; rw [if_pos (by omega), iteP_t (by show (figT B Z (spellT B Z 2 5 t)).1 = 0; rw [← ht41]; exact h9), up_same]; rfl, by rw [(hnu42 h9).2]; unfold clauseB tellB; rw [if_pos (by omega), iteP_t (by show (figT B Z (spellT B Z 2 5 t)).1 = 0; rw [← ht41]; exact h9), up_ne _ _ (by omega)]; exact hM.2⟩⟩)
