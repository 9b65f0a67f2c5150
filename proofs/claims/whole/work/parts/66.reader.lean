set_option maxHeartbeats 4000000 in
set_option maxRecDepth 100000 in
theorem c_X5_next (l : Launch) (g : GG) (ad : Nat → Nat) (F : Nat → Int) (A : Nat → Nat → Int) (E : Nat → Nat) (tl : va_W) (B : Nat → Int) (ac : Int) (Z : Int) (wd : Int) (rv : Int) (nu : Int) (t : PT) (hP : PIn B ac Z) (hT : TapI F A B Z) (hq : 0 ≤ t.2.1 ∧ t.2.1 ≤ Z) : MroI l g yX5_next cX5_next 1 3 [.ref (ad 39)] (fun H => va_P g.1 vwCl (RdW g ad F A E tl wd rv nu t) H) (iI (hereT B Z t.2.1)) := by
  refine ro_startI (own := RX5) (by decide) rfl (Nat.le_of_ble_eq_true rfl) ?_
  intro Pg Ev s Mi args below Mt Cd ls Q hC hK hE hPi hl hQ
  have hl : lv_has ls 1 [(0, .ref (ad 39))] := hl
  have hPb := hP.2.1
  refine li_aload_n hC hl 0 rfl dX5_next_0 ?_
  refine li_get hC hK ck_X5 (hPi 39 _ rfl) 2 (by decide) fl_X5_23 rfl (v := .int (iI t.2.1)) rfl dX5_next_1 ?_
  refine li_aload_n hC hl 0 rfl dX5_next_4 ?_
  refine li_get hC hK ck_X5 (hPi 39 _ rfl) 0 (by decide) fl_X5_20 rfl (v := .ref (ad 4)) rfl dX5_next_5 ?_
  refine ro_callVi hC (c_X6_size l g (ws := RdW g ad F A E tl wd rv nu t) (i := 4) (j := 5) (a := (ad 4)) (b := (ad 5)) (n := 100) (f := (A 5)) (sz := F 4) rfl rfl (Nat.le_of_ble_eq_true rfl)) mk_X6_size ml_X5_40 (rr (by decide)) ⟨Nat.zero_le _, Nat.zero_le _⟩ hK hE hPi (li_recv hK ck_X6 (hPi 4 _ rfl)) rfl hl.1 rfl (Nat.le_of_ble_eq_true rfl) dX5_next_8 ?_
  rw [show F 4 = Z from hT.1]
  refine li_icmp_ge (tgt := 28) hC (by decide) (rg (by omega) (by omega)) (rg (by omega) (by omega)) dX5_next_11 (fun c1 => ?_) (fun c1 => ?_)
  · refine li_iconst hC dX5_next_28 ?_
    exact hQ _ _ _ dX5_next_29 (iI_inj (by unfold hereT; first | (rw [if_pos (by assumption)]; done) | (rw [if_neg (by omega)]; done)))
  · refine li_aload_n hC hl 0 rfl dX5_next_14 ?_
    refine li_get hC hK ck_X5 (hPi 39 _ rfl) 0 (by decide) fl_X5_20 rfl (v := .ref (ad 4)) rfl dX5_next_15 ?_
    refine li_aload_n hC hl 0 rfl dX5_next_18 ?_
    refine li_get hC hK ck_X5 (hPi 39 _ rfl) 2 (by decide) fl_X5_23 rfl (v := .int (iI t.2.1)) rfl dX5_next_19 ?_
    refine ro_callVi hC (c_X6_get l g (ws := RdW g ad F A E tl wd rv nu t) (i := 4) (j := 5) (a := (ad 4)) (b := (ad 5)) (n := 100) (f := (A 5)) (sz := F 4) rfl rfl (Nat.le_of_ble_eq_true rfl) (k := t.2.1) ⟨by omega, by omega⟩) mk_X6_get ml_X5_117 (rr (by decide)) ⟨Nat.zero_le _, Nat.zero_le _⟩ hK hE hPi (li_recv hK ck_X6 (hPi 4 _ rfl)) rfl hl.1 rfl (Nat.le_of_ble_eq_true rfl) dX5_next_22 ?_
    rw [hT.2 t.2.1 (by omega) (by omega)]
    refine li_goto (tgt := 29) hC (by decide) dX5_next_25 ?_
    exact hQ _ _ _ dX5_next_29 (iI_inj (by unfold hereT; first | (rw [if_pos (by assumption)]; done) | (rw [if_neg (by omega)]; done)))
set_option maxHeartbeats 4000000 in
set_option maxRecDepth 100000 in
theorem c_X5_takes (l : Launch) (g : GG) (ad : Nat → Nat) (F : Nat → Int) (A : Nat → Nat → Int) (E : Nat → Nat) (tl : va_W) (B : Nat → Int) (ac : Int) (Z : Int) (wd : Int) (rv : Int) (nu : Int) (t : PT) (c : Int) (hP : PIn B ac Z) (hT : TapI F A B Z) (ht : okT Z t) (ht0 : t.1 = 0) (hc : 0 ≤ c ∧ c ≤ 127) (sz : Nat) : MwrZ l g yX5_takes cX5_takes 2 4 0 0 [.ref (ad 39), .int (iI c)] sz (RdW g ad F A E tl wd rv nu t) (fun v w => v = iI (b2 ((mustT B Z c t).1 = 0)) ∧ ∃ nu2 : Int, w = RdW g ad F A E tl wd rv nu2 (mustT B Z c t)) := by
  refine wr_startZ (own := RX5) (by decide) rfl (Nat.le_of_ble_eq_true rfl) ?_
  intro Pg Ev s Mi args below Mt Cd ls Q Aw hC hK hS hnm hl hQ
  have hta := ht.1; have htb := ht.2.1; have htc := ht.2.2; have hPa := hP.1; have hPb := hP.2.1
  have hl : lv_has ls 2 [(0, .ref (ad 39)), (1, .int (iI c))] := hl
  obtain ⟨H, hH⟩ : ∃ H, H = s.heap := ⟨_, rfl⟩
  obtain ⟨locs, hlo⟩ : ∃ locs : List Loc, locs = [] := ⟨_, rfl⟩
  have hS : St g Aw s.heap H locs (RdW g ad F A E tl wd rv nu t) := by rw [hH, hlo]; exact hS
  have goal : W Pg l Ev (rmC 4 0 0) s Mi args below Mt Cd H locs 0 0 Q (F0 Mi 0 ls []) := ?goal
  · rw [hH, hlo] at goal; exact goal
  clear hH hlo
  refine li_aload_n hC hl 0 rfl dX5_takes_0 ?_
  refine ro_callVi hC (c_X5_next l g ad F A E tl B ac Z wd rv nu t hP hT (by first | omega | (dsimp only; omega))) mk_X5_next ml_X5_48 (rr (by decide)) ⟨Nat.le_of_ble_eq_true rfl, Nat.le_of_ble_eq_true rfl⟩ hK.1 (hS.ro hK) hS.1 (li_recv hK.1 ck_X5 (hS.1 39 _ rfl)) rfl hl.1 rfl (Nat.le_of_ble_eq_true rfl) dX5_takes_1 ?_
  have q1 := hereT_rng hP (q := t.2.1) (by omega)
  refine li_iload_n hC hl 1 rfl dX5_takes_4 ?_
  refine li_icmp_eq (tgt := 10) hC (by decide) (rg (by omega) (by omega)) (rg (by omega) (by omega)) dX5_takes_5 (fun c2 => ?_) (fun c2 => ?_)
  · refine li_aload_n hC hl 0 rfl dX5_takes_10 ?_
    refine li_dup hC rfl dX5_takes_11 ?_
    refine li_get hC hK.1 ck_X5 (hS.1 39 _ rfl) 2 (by decide) fl_X5_23 rfl (v := .int (iI t.2.1)) rfl dX5_takes_12 ?_
    refine li_iconst hC dX5_takes_15 ?_
    refine li_iadd hC dX5_takes_16 ?_
    refine li_put hC hK hS ck_X5 39 rfl 2 (by decide) fl_X5_23 rfl rfl (v := .int (iI (t.2.1 + 1))) rfl rfl (Nat.le_of_ble_eq_true rfl) (ws' := RdW g ad F A E tl wd rv nu (t.1, t.2.1 + 1, t.2.2)) rfl dX5_takes_17 (fun H locs hS => ?_)
    refine li_iconst hC dX5_takes_20 ?_
    exact hQ _ _ _ _ _ _ _ _ dX5_takes_21 hS (by omega) (by omega) (by omega) (by rw [must_0 ht0 (by assumption)]; exact ⟨iI_inj (b2_t rfl).symm, nu, rfl⟩)
  · refine li_iconst hC dX5_takes_8 ?_
    exact hQ _ _ _ _ _ _ _ _ dX5_takes_9 hS (by omega) (by omega) (by omega) (by rw [must_1 (by assumption)]; exact ⟨iI_inj (b2_f (by show ¬ (1 : Int) = 0; decide)).symm, nu, rfl⟩)
set_option maxHeartbeats 4000000 in
set_option maxRecDepth 100000 in
theorem c_X5_takesWord (l : Launch) (g : GG) (ad : Nat → Nat) (F : Nat → Int) (A : Nat → Nat → Int) (E : Nat → Nat) (tl : va_W) (B : Nat → Int) (ac : Int) (Z : Int) (wd : Int) (rv : Int) (nu : Int) (t : PT) (i : Nat) (hP : PIn B ac Z) (hT : TapI F A B Z) (ht : okT Z t) (ht0 : t.1 = 0) (hi : i < 6) (sz : Nat) : MwrZ l g yX5_takesWord cX5_takesWord 3 6 0 0 [.ref (ad 39), .ref (g.2.2.1 i)] sz (RdW g ad F A E tl wd rv nu t) (fun v w => v = iI (b2 ((spellT B Z i (sLen.getD i 0) t).1 = 0)) ∧ ∃ nu2 : Int, w = RdW g ad F A E tl wd rv nu2 (spellT B Z i (sLen.getD i 0) t)) := by
  refine wr_startZ (own := RX5) (by decide) rfl (Nat.le_of_ble_eq_true rfl) ?_
  intro Pg Ev s Mi args below Mt Cd ls Q Aw hC hK hS hnm hl hQ
  have hta := ht.1; have htb := ht.2.1; have htc := ht.2.2; have hPa := hP.1; have hPb := hP.2.1
  have hs6 := sLen_ok i hi
  have hl : lv_has ls 3 [(0, .ref (ad 39)), (1, .ref (g.2.2.1 i))] := hl
  obtain ⟨H, hH⟩ : ∃ H, H = s.heap := ⟨_, rfl⟩
  obtain ⟨locs, hlo⟩ : ∃ locs : List Loc, locs = [] := ⟨_, rfl⟩
  have hS : St g Aw s.heap H locs (RdW g ad F A E tl wd rv nu t) := by rw [hH, hlo]; exact hS
  have goal : W Pg l Ev (rmC 6 0 0) s Mi args below Mt Cd H locs 0 0 Q (F0 Mi 0 ls []) := ?goal
  · rw [hH, hlo] at goal; exact goal
  clear hH hlo
  refine li_iconst hC dX5_takesWord_0 ?_
  refine li_istore_n hC (lv' := [(2, .int (iI 0)), (0, .ref (ad 39)), (1, .ref (g.2.2.1 i))]) hl (by decide) rfl dX5_takesWord_1 (fun ls hl => ?_)
  have L2_1 : ∀ (fuel : Nat) (k : Int) (u : PT) (nv : Int) (ls : Array Slot) (H : Heap) (locs : List Loc), St g Aw s.heap H locs (RdW g ad F A E tl wd rv nv u) → lv_has ls 3 [(0, .ref (ad 39)), (1, .ref (g.2.2.1 i)), (2, .int (iI k))] → (0 ≤ k ∧ k ≤ ((sLen.getD i 0 : Nat) : Int)) → (okT Z u ∧ u = spellT B Z i k.toNat t) → (u.1 = 0) → ((((sLen.getD i 0 : Nat) : Int) - k).toNat) < fuel → W Pg l Ev (rmC 6 0 0) s Mi args below Mt Cd H locs 0 0 Q (F0 Mi 2 ls []) := by
    intro fuel
    induction fuel with
    | zero => intro k u nv ls H locs hS hl hk hu hu0 hm; exact absurd hm (Nat.not_lt_zero _)
    | succ fuel ih2 =>
      intro k u nv ls H locs hS hl hk hu hu0 hm
      have hua := hu.1.1; have hub := hu.1.2.1; have huc := hu.1.2.2
      refine li_iload_n hC hl 2 rfl dX5_takesWord_2 ?_
      refine li_aload_n hC hl 1 rfl dX5_takesWord_3 ?_
      refine ro_callVi hC (c_J0_length_8abf5 l g hi) mk_J0_length_8abf5 ml_X5_108 (rr (by decide)) ⟨Nat.zero_le _, Nat.zero_le _⟩ hK.1 (hS.ro hK) trivial (str_recv hK.2.1 hi hS.2.2) rfl hl.1 rfl (Nat.le_of_ble_eq_true rfl) dX5_takesWord_4 ?_
      refine li_icmp_ge (tgt := 30) hC (by decide) (rg (by omega) (by omega)) (rg (by omega) (by omega)) dX5_takesWord_7 (fun c2 => ?_) (fun c2 => ?_)
      · refine li_iconst hC dX5_takesWord_30 ?_
        exact hQ _ _ _ _ _ _ _ _ dX5_takesWord_31 hS (by omega) (by omega) (by omega) (by have e9 : spellT B Z i (sLen.getD i 0) t = u := (by rw [hu.2, show k.toNat = sLen.getD i 0 by omega]); rw [e9]; exact ⟨iI_inj (b2_t hu0).symm, nv, rfl⟩)
      · refine li_aload_n hC hl 0 rfl dX5_takesWord_10 ?_
        refine li_aload_n hC hl 1 rfl dX5_takesWord_11 ?_
        refine li_iload_n hC hl 2 rfl dX5_takesWord_12 ?_
        refine ro_callVi hC (c_J0_charAt_5068e l g (k := k) hi ⟨by omega, by omega⟩) mk_J0_charAt_5068e ml_X5_113 (rr (by decide)) ⟨Nat.zero_le _, Nat.zero_le _⟩ hK.1 (hS.ro hK) trivial (str_recv hK.2.1 hi hS.2.2) rfl hl.1 rfl (Nat.le_of_ble_eq_true rfl) dX5_takesWord_13 ?_
        have q3 := chS_nn hi (show k.toNat < sLen.getD i 0 by omega)
        refine wr_callVz hC (c_X5_takes l g ad F A E tl B ac Z wd rv nv u (chS i k.toNat) hP hT hu.1 (show u.1 = 0 by omega) (by first | omega | (dsimp only; omega)) _) mk_X5_takes ml_X5_44 (rr (by decide)) ⟨by simp only [rmC]; omega, by simp only [rmC]; omega⟩ hK hS (li_recv hK.1 ck_X5 (hS.1 39 _ rfl)) rfl hl.1 rfl (Nat.le_of_ble_eq_true rfl) dX5_takesWord_16 (fun v w H locs hp hS => ?_)
        obtain ⟨hv, nu5, hp⟩ := hp
        have hp : w = RdW g ad F A E tl wd rv nu5 (mustT B Z (chS i k.toNat) u) := hp
        obtain ⟨t4, ht4⟩ : ∃ z : PT, z = mustT B Z (chS i k.toNat) u := ⟨_, rfl⟩
        rw [← ht4] at hp hv
        rw [hp] at hS
        rw [hv]
        obtain ⟨okt4, get4⟩ := mustT_ok (c := chS i k.toNat) hP hu.1 (by omega)
        rw [← ht4] at okt4 get4
        have t4a := okt4.1; have t4b := okt4.2.1; have t4c := okt4.2.2; have t4d := get4.1; have t4e := get4.2; try dsimp only at t4d t4e
        refine li_ifne_b (tgt := 24) hC (by decide) dX5_takesWord_19 (fun c6 => ?_) (fun c6 => ?_)
        · refine li_iinc hC (lv' := [(2, .int (iI (k + 1))), (0, .ref (ad 39)), (1, .ref (g.2.2.1 i))]) hl 2 rfl (by decide) rfl dX5_takesWord_24 (fun ls hl => ?_)
          refine li_goto (tgt := 2) hC (by decide) dX5_takesWord_27 ?_
          exact ih2 (k + 1) t4 nu5 _ _ _ hS (lv_sub hl [1, 2, 0] rfl) (by omega) (by exact ⟨okt4, by rw [spellT_s hk.1, ← hu.2]; exact ht4⟩) (by omega) (by omega)
        · refine li_iconst hC dX5_takesWord_22 ?_
          exact hQ _ _ _ _ _ _ _ _ dX5_takesWord_23 hS (by omega) (by omega) (by omega) (by have e8 : spellT B Z i (k + 1).toNat t = t4 := (by rw [spellT_s hk.1, ← hu.2]; exact ht4.symm); have e9 : spellT B Z i (sLen.getD i 0) t = t4 := (by rw [spell_w hk.1 (by omega) (by rw [e8]; omega), e8]); rw [e9]; exact ⟨iI_inj (b2_f (by assumption)).symm, nu5, rfl⟩)
  exact L2_1 (((((sLen.getD i 0 : Nat) : Int) - 0).toNat) + 1) 0 t nu _ _ _ hS (lv_sub hl [1, 2, 0] rfl) (by omega) (by exact ⟨ht, rfl⟩) (by omega) (by omega)
set_option maxHeartbeats 4000000 in
set_option maxRecDepth 100000 in
theorem c_X5_takesNumber (l : Launch) (g : GG) (ad : Nat → Nat) (F : Nat → Int) (A : Nat → Nat → Int) (E : Nat → Nat) (tl : va_W) (B : Nat → Int) (ac : Int) (Z : Int) (wd : Int) (rv : Int) (nu : Int) (t : PT) (hP : PIn B ac Z) (hT : TapI F A B Z) (ht : okT Z t) (ht0 : t.1 = 0) (sz : Nat) : MwrZ l g yX5_takesNumber cX5_takesNumber 2 4 0 0 [.ref (ad 39)] sz (RdW g ad F A E tl wd rv nu t) (fun v w => v = iI (b2 ((figT B Z t).1 = 0)) ∧ ∃ nu2 : Int, w = RdW g ad F A E tl wd rv nu2 (figT B Z t) ∧ ((figT B Z t).1 = 0 → nu2 = figV B Z t)) := by
  refine wr_startZ (own := RX5) (by decide) rfl (Nat.le_of_ble_eq_true rfl) ?_
  intro Pg Ev s Mi args below Mt Cd ls Q Aw hC hK hS hnm hl hQ
  have hta := ht.1; have htb := ht.2.1; have htc := ht.2.2; have hPa := hP.1; have hPb := hP.2.1
  have hl : lv_has ls 2 [(0, .ref (ad 39))] := hl
  obtain ⟨H, hH⟩ : ∃ H, H = s.heap := ⟨_, rfl⟩
  obtain ⟨locs, hlo⟩ : ∃ locs : List Loc, locs = [] := ⟨_, rfl⟩
  have hS : St g Aw s.heap H locs (RdW g ad F A E tl wd rv nu t) := by rw [hH, hlo]; exact hS
  have goal : W Pg l Ev (rmC 4 0 0) s Mi args below Mt Cd H locs 0 0 Q (F0 Mi 0 ls []) := ?goal
  · rw [hH, hlo] at goal; exact goal
  clear hH hlo
  refine li_aload_n hC hl 0 rfl dX5_takesNumber_0 ?_
  refine ro_callVi hC (c_X5_next l g ad F A E tl B ac Z wd rv nu t hP hT (by first | omega | (dsimp only; omega))) mk_X5_next ml_X5_48 (rr (by decide)) ⟨Nat.le_of_ble_eq_true rfl, Nat.le_of_ble_eq_true rfl⟩ hK.1 (hS.ro hK) hS.1 (li_recv hK.1 ck_X5 (hS.1 39 _ rfl)) rfl hl.1 rfl (Nat.le_of_ble_eq_true rfl) dX5_takesNumber_1 ?_
  have q1 := hereT_rng hP (q := t.2.1) (by omega)
  refine li_istore_n hC (lv' := [(1, .int (iI (hereT B Z t.2.1))), (0, .ref (ad 39))]) hl (by decide) rfl dX5_takesNumber_4 (fun ls hl => ?_)
  refine li_iload_n hC hl 0 rfl dX5_takesNumber_5 ?_
  refine li_bipush hC (z := 48) rfl dX5_takesNumber_6 ?_
  refine li_icmp_lt (tgt := 17) hC (by decide) (rg (by omega) (by omega)) (rg (by decide) (by decide)) dX5_takesNumber_8 (fun c2 => ?_) (fun c2 => ?_)
  · refine li_iconst hC dX5_takesNumber_17 ?_
    exact hQ _ _ _ _ _ _ _ _ dX5_takesNumber_18 hS (by omega) (by omega) (by omega) (by rw [fig_1 (by omega)]; exact ⟨iI_inj (b2_f (by show ¬ (1 : Int) = 0; decide)).symm, nu, rfl, fun h9 => absurd (show (1 : Int) = 0 from h9) (by decide)⟩)
  · refine li_iload_n hC hl 0 rfl dX5_takesNumber_11 ?_
    refine li_bipush hC (z := 57) rfl dX5_takesNumber_12 ?_
    refine li_icmp_le (tgt := 19) hC (by decide) (rg (by omega) (by omega)) (rg (by decide) (by decide)) dX5_takesNumber_14 (fun c3 => ?_) (fun c3 => ?_)
    · refine li_aload_n hC hl 1 rfl dX5_takesNumber_19 ?_
      refine li_dup hC rfl dX5_takesNumber_20 ?_
      refine li_get hC hK.1 ck_X5 (hS.1 39 _ rfl) 2 (by decide) fl_X5_23 rfl (v := .int (iI t.2.1)) rfl dX5_takesNumber_21 ?_
      refine li_iconst hC dX5_takesNumber_24 ?_
      refine li_iadd hC dX5_takesNumber_25 ?_
      refine li_put hC hK hS ck_X5 39 rfl 2 (by decide) fl_X5_23 rfl rfl (v := .int (iI (t.2.1 + 1))) rfl rfl (Nat.le_of_ble_eq_true rfl) (ws' := RdW g ad F A E tl wd rv nu (t.1, t.2.1 + 1, t.2.2)) rfl dX5_takesNumber_26 (fun H locs hS => ?_)
      refine li_aload_n hC hl 1 rfl dX5_takesNumber_29 ?_
      refine li_iload_n hC hl 0 rfl dX5_takesNumber_30 ?_
      refine li_bipush hC (z := 48) rfl dX5_takesNumber_31 ?_
      refine li_isub hC dX5_takesNumber_33 ?_
      refine li_put hC hK hS ck_X5 39 rfl 5 (by decide) fl_X5_66 rfl rfl (v := .int (iI ((hereT B Z t.2.1) - 48))) rfl rfl (Nat.le_of_ble_eq_true rfl) (ws' := RdW g ad F A E tl wd rv ((hereT B Z t.2.1) - 48) (t.1, t.2.1 + 1, t.2.2)) rfl dX5_takesNumber_34 (fun H locs hS => ?_)
      refine li_aload_n hC hl 1 rfl dX5_takesNumber_37 ?_
      refine ro_callVi hC (c_X5_next l g ad F A E tl B ac Z wd rv ((hereT B Z t.2.1) - 48) (t.1, t.2.1 + 1, t.2.2) hP hT (by first | omega | (dsimp only; omega))) mk_X5_next ml_X5_48 (rr (by decide)) ⟨Nat.le_of_ble_eq_true rfl, Nat.le_of_ble_eq_true rfl⟩ hK.1 (hS.ro hK) hS.1 (li_recv hK.1 ck_X5 (hS.1 39 _ rfl)) rfl hl.1 rfl (Nat.le_of_ble_eq_true rfl) dX5_takesNumber_38 ?_
      have q4 := hereT_rng hP (q := t.2.1 + 1) (by omega)
      rw [show hereT B Z (t.1, t.2.1 + 1, t.2.2).2.1 = hereT B Z (t.2.1 + 1) from rfl]
      refine li_istore_n hC (lv' := [(1, .int (iI (hereT B Z (t.2.1 + 1)))), (0, .ref (ad 39))]) hl (by decide) rfl dX5_takesNumber_41 (fun ls hl => ?_)
      refine li_aload_n hC hl 1 rfl dX5_takesNumber_42 ?_
      refine li_get hC hK.1 ck_X5 (hS.1 39 _ rfl) 5 (by decide) fl_X5_66 rfl (v := .int (iI ((hereT B Z t.2.1) - 48))) rfl dX5_takesNumber_43 ?_
      refine li_if_le (tgt := 87) hC (by decide) (rg (by omega) (by omega)) dX5_takesNumber_46 (fun c5 => ?_) (fun c5 => ?_)
      · refine li_iconst hC dX5_takesNumber_87 ?_
        exact hQ _ _ _ _ _ _ _ _ dX5_takesNumber_88 hS (by omega) (by omega) (by omega) (by obtain ⟨e8, e9⟩ := fig_3 (B := B) (Z := Z) ht0 (by omega) (by omega); rw [e8]; exact ⟨iI_inj (b2_t rfl).symm, ((hereT B Z t.2.1) - 48), rfl, fun _ => by rw [e9]⟩)
      · refine li_iload_n hC hl 0 rfl dX5_takesNumber_49 ?_
        refine li_bipush hC (z := 48) rfl dX5_takesNumber_50 ?_
        refine li_icmp_lt (tgt := 87) hC (by decide) (rg (by omega) (by omega)) (rg (by decide) (by decide)) dX5_takesNumber_52 (fun c6 => ?_) (fun c6 => ?_)
        · refine li_iconst hC dX5_takesNumber_87 ?_
          exact hQ _ _ _ _ _ _ _ _ dX5_takesNumber_88 hS (by omega) (by omega) (by omega) (by obtain ⟨e8, e9⟩ := fig_3 (B := B) (Z := Z) ht0 (by omega) (by omega); rw [e8]; exact ⟨iI_inj (b2_t rfl).symm, ((hereT B Z t.2.1) - 48), rfl, fun _ => by rw [e9]⟩)
        · refine li_iload_n hC hl 0 rfl dX5_takesNumber_55 ?_
          refine li_bipush hC (z := 57) rfl dX5_takesNumber_56 ?_
          refine li_icmp_gt (tgt := 87) hC (by decide) (rg (by omega) (by omega)) (rg (by decide) (by decide)) dX5_takesNumber_58 (fun c7 => ?_) (fun c7 => ?_)
          · refine li_iconst hC dX5_takesNumber_87 ?_
            exact hQ _ _ _ _ _ _ _ _ dX5_takesNumber_88 hS (by omega) (by omega) (by omega) (by obtain ⟨e8, e9⟩ := fig_3 (B := B) (Z := Z) ht0 (by omega) (by omega); rw [e8]; exact ⟨iI_inj (b2_t rfl).symm, ((hereT B Z t.2.1) - 48), rfl, fun _ => by rw [e9]⟩)
          · refine li_aload_n hC hl 1 rfl dX5_takesNumber_61 ?_
            refine li_dup hC rfl dX5_takesNumber_62 ?_
            refine li_get hC hK.1 ck_X5 (hS.1 39 _ rfl) 2 (by decide) fl_X5_23 rfl (v := .int (iI (t.2.1 + 1))) rfl dX5_takesNumber_63 ?_
            refine li_iconst hC dX5_takesNumber_66 ?_
            refine li_iadd hC dX5_takesNumber_67 ?_
            refine li_put hC hK hS ck_X5 39 rfl 2 (by decide) fl_X5_23 rfl rfl (v := .int (iI ((t.2.1 + 1) + 1))) rfl rfl (Nat.le_of_ble_eq_true rfl) (ws' := RdW g ad F A E tl wd rv ((hereT B Z t.2.1) - 48) (t.1, (t.2.1 + 1) + 1, t.2.2)) rfl dX5_takesNumber_68 (fun H locs hS => ?_)
            refine li_aload_n hC hl 1 rfl dX5_takesNumber_71 ?_
            refine li_aload_n hC hl 1 rfl dX5_takesNumber_72 ?_
            refine li_get hC hK.1 ck_X5 (hS.1 39 _ rfl) 5 (by decide) fl_X5_66 rfl (v := .int (iI ((hereT B Z t.2.1) - 48))) rfl dX5_takesNumber_73 ?_
            refine li_bipush hC (z := 10) rfl dX5_takesNumber_76 ?_
            refine li_imul hC dX5_takesNumber_78 ?_
            refine li_iload_n hC hl 0 rfl dX5_takesNumber_79 ?_
            refine li_iadd hC dX5_takesNumber_80 ?_
            refine li_bipush hC (z := 48) rfl dX5_takesNumber_81 ?_
            refine li_isub hC dX5_takesNumber_83 ?_
            refine li_put hC hK hS ck_X5 39 rfl 5 (by decide) fl_X5_66 rfl rfl (v := .int (iI (((((hereT B Z t.2.1) - 48) * 10) + (hereT B Z (t.2.1 + 1))) - 48))) rfl rfl (Nat.le_of_ble_eq_true rfl) (ws' := RdW g ad F A E tl wd rv (((((hereT B Z t.2.1) - 48) * 10) + (hereT B Z (t.2.1 + 1))) - 48) (t.1, (t.2.1 + 1) + 1, t.2.2)) rfl dX5_takesNumber_84 (fun H locs hS => ?_)
            refine li_iconst hC dX5_takesNumber_87 ?_
            exact hQ _ _ _ _ _ _ _ _ dX5_takesNumber_88 hS (by omega) (by omega) (by omega) (by obtain ⟨e8, e9⟩ := fig_2 (B := B) (Z := Z) ht0 (by omega) (by omega); rw [e8]; exact ⟨iI_inj (b2_t rfl).symm, (((((hereT B Z t.2.1) - 48) * 10) + (hereT B Z (t.2.1 + 1))) - 48), by rw [show t.2.1 + 2 = (t.2.1 + 1) + 1 by omega]; rfl, fun _ => by rw [e9]; omega⟩)
    · refine li_iconst hC dX5_takesNumber_17 ?_
      exact hQ _ _ _ _ _ _ _ _ dX5_takesNumber_18 hS (by omega) (by omega) (by omega) (by rw [fig_1 (by omega)]; exact ⟨iI_inj (b2_f (by show ¬ (1 : Int) = 0; decide)).symm, nu, rfl, fun h9 => absurd (show (1 : Int) = 0 from h9) (by decide)⟩)
set_option maxHeartbeats 4000000 in
set_option maxRecDepth 100000 in
theorem c_X5_takesOneOf (l : Launch) (g : GG) (ad : Nat → Nat) (F : Nat → Int) (A : Nat → Nat → Int) (E : Nat → Nat) (tl : va_W) (B : Nat → Int) (ac : Int) (Z : Int) (wd : Int) (rv : Int) (nu : Int) (t : PT) (i : Nat) (hP : PIn B ac Z) (hT : TapI F A B Z) (ht : okT Z t) (ht0 : t.1 = 0) (hi : i < 6) (sz : Nat) : MwrI l g yX5_takesOneOf cX5_takesOneOf 4 6 0 0 [.ref (ad 39), .ref (g.2.2.1 i)] sz (RdW g ad F A E tl wd rv nu t) (fun v w => v = iI (amV B Z i t.2.1) ∧ w = RdW g ad F A E tl wd rv nu (t.1, amQ B Z i t.2.1, t.2.2)) := by
  refine wr_startI (own := RX5) (by decide) rfl (Nat.le_of_ble_eq_true rfl) ?_
  intro Pg Ev s Mi args below Mt Cd ls Q Aw hC hK hS hnm hl hQ
  have hta := ht.1; have htb := ht.2.1; have htc := ht.2.2; have hPa := hP.1; have hPb := hP.2.1
  have hs6 := sLen_ok i hi
  have hl : lv_has ls 4 [(0, .ref (ad 39)), (1, .ref (g.2.2.1 i))] := hl
  obtain ⟨H, hH⟩ : ∃ H, H = s.heap := ⟨_, rfl⟩
  obtain ⟨locs, hlo⟩ : ∃ locs : List Loc, locs = [] := ⟨_, rfl⟩
  have hS : St g Aw s.heap H locs (RdW g ad F A E tl wd rv nu t) := by rw [hH, hlo]; exact hS
  have goal : W Pg l Ev (rmC 6 0 0) s Mi args below Mt Cd H locs 0 0 Q (F0 Mi 0 ls []) := ?goal
  · rw [hH, hlo] at goal; exact goal
  clear hH hlo
  refine li_aload_n hC hl 0 rfl dX5_takesOneOf_0 ?_
  refine ro_callVi hC (c_X5_next l g ad F A E tl B ac Z wd rv nu t hP hT (by first | omega | (dsimp only; omega))) mk_X5_next ml_X5_48 (rr (by decide)) ⟨Nat.le_of_ble_eq_true rfl, Nat.le_of_ble_eq_true rfl⟩ hK.1 (hS.ro hK) hS.1 (li_recv hK.1 ck_X5 (hS.1 39 _ rfl)) rfl hl.1 rfl (Nat.le_of_ble_eq_true rfl) dX5_takesOneOf_1 ?_
  have q1 := hereT_rng hP (q := t.2.1) (by omega)
  refine li_istore_n hC (lv' := [(2, .int (iI (hereT B Z t.2.1))), (0, .ref (ad 39)), (1, .ref (g.2.2.1 i))]) hl (by decide) rfl dX5_takesOneOf_4 (fun ls hl => ?_)
  refine li_iconst hC dX5_takesOneOf_5 ?_
  refine li_istore_n hC (lv' := [(3, .int (iI 0)), (2, .int (iI (hereT B Z t.2.1))), (0, .ref (ad 39)), (1, .ref (g.2.2.1 i))]) hl (by decide) rfl dX5_takesOneOf_6 (fun ls hl => ?_)
  have L7_2 : ∀ (fuel : Nat) (k : Int) (ls : Array Slot) (H : Heap) (locs : List Loc), St g Aw s.heap H locs (RdW g ad F A E tl wd rv nu t) → lv_has ls 4 [(2, .int (iI (hereT B Z t.2.1))), (0, .ref (ad 39)), (1, .ref (g.2.2.1 i)), (3, .int (iI k))] → (0 ≤ k ∧ k ≤ ((sLen.getD i 0 : Nat) : Int)) → (amV B Z i t.2.1 = amG (hereT B Z t.2.1) i k (((sLen.getD i 0 : Nat) : Int) - k).toNat) → ((((sLen.getD i 0 : Nat) : Int) - k).toNat) < fuel → W Pg l Ev (rmC 6 0 0) s Mi args below Mt Cd H locs 0 0 Q (F0 Mi 7 ls []) := by
    intro fuel
    induction fuel with
    | zero => intro k ls H locs hS hl hk hz hm; exact absurd hm (Nat.not_lt_zero _)
    | succ fuel ih7 =>
      intro k ls H locs hS hl hk hz hm
      refine li_iload_n hC hl 3 rfl dX5_takesOneOf_7 ?_
      refine li_aload_n hC hl 2 rfl dX5_takesOneOf_8 ?_
      refine ro_callVi hC (c_J0_length_8abf5 l g hi) mk_J0_length_8abf5 ml_X5_108 (rr (by decide)) ⟨Nat.zero_le _, Nat.zero_le _⟩ hK.1 (hS.ro hK) trivial (str_recv hK.2.1 hi hS.2.2) rfl hl.1 rfl (Nat.le_of_ble_eq_true rfl) dX5_takesOneOf_9 ?_
      refine li_icmp_ge (tgt := 42) hC (by decide) (rg (by omega) (by omega)) (rg (by omega) (by omega)) dX5_takesOneOf_12 (fun c3 => ?_) (fun c3 => ?_)
      · refine li_iconst hC dX5_takesOneOf_42 ?_
        exact hQ _ _ _ _ _ _ _ _ dX5_takesOneOf_43 hS (by omega) (by omega) (by have e9 : amV B Z i t.2.1 = -1 := (by rw [hz, show (((sLen.getD i 0 : Nat) : Int) - k).toNat = 0 by omega]; rfl); refine ⟨iI_inj e9.symm, ?_⟩; unfold amQ; rw [if_pos e9])
      · refine li_aload_n hC hl 2 rfl dX5_takesOneOf_15 ?_
        refine li_iload_n hC hl 3 rfl dX5_takesOneOf_16 ?_
        refine ro_callVi hC (c_J0_charAt_5068e l g (k := k) hi ⟨by omega, by omega⟩) mk_J0_charAt_5068e ml_X5_113 (rr (by decide)) ⟨Nat.zero_le _, Nat.zero_le _⟩ hK.1 (hS.ro hK) trivial (str_recv hK.2.1 hi hS.2.2) rfl hl.1 rfl (Nat.le_of_ble_eq_true rfl) dX5_takesOneOf_17 ?_
        have q4 := chS_nn hi (show k.toNat < sLen.getD i 0 by omega)
        refine li_iload_n hC hl 0 rfl dX5_takesOneOf_20 ?_
        refine li_icmp_ne (tgt := 36) hC (by decide) (rg (by omega) (by omega)) (rg (by omega) (by omega)) dX5_takesOneOf_21 (fun c5 => ?_) (fun c5 => ?_)
        · refine li_iinc hC (lv' := [(3, .int (iI (k + 1))), (2, .int (iI (hereT B Z t.2.1))), (0, .ref (ad 39)), (1, .ref (g.2.2.1 i))]) hl 3 rfl (by decide) rfl dX5_takesOneOf_36 (fun ls hl => ?_)
          refine li_goto (tgt := 7) hC (by decide) dX5_takesOneOf_39 ?_
          exact ih7 (k + 1) _ _ _ hS (lv_sub hl [1, 2, 3, 0] rfl) (by omega) (by rw [hz, amG_s (by omega), if_neg (fun h9 => absurd h9.symm (by assumption))]) (by omega)
        · refine li_aload_n hC hl 1 rfl dX5_takesOneOf_24 ?_
          refine li_dup hC rfl dX5_takesOneOf_25 ?_
          refine li_get hC hK.1 ck_X5 (hS.1 39 _ rfl) 2 (by decide) fl_X5_23 rfl (v := .int (iI t.2.1)) rfl dX5_takesOneOf_26 ?_
          refine li_iconst hC dX5_takesOneOf_29 ?_
          refine li_iadd hC dX5_takesOneOf_30 ?_
          refine li_put hC hK hS ck_X5 39 rfl 2 (by decide) fl_X5_23 rfl rfl (v := .int (iI (t.2.1 + 1))) rfl rfl (Nat.le_of_ble_eq_true rfl) (ws' := RdW g ad F A E tl wd rv nu (t.1, t.2.1 + 1, t.2.2)) rfl dX5_takesOneOf_31 (fun H locs hS => ?_)
          refine li_iload_n hC hl 3 rfl dX5_takesOneOf_34 ?_
          exact hQ _ _ _ _ _ _ _ _ dX5_takesOneOf_35 hS (by omega) (by omega) (by have e9 : amV B Z i t.2.1 = k := (by rw [hz, amG_s (by omega), if_pos (by omega)]); refine ⟨iI_inj e9.symm, ?_⟩; unfold amQ; rw [if_neg (by omega)])
  exact L7_2 (((((sLen.getD i 0 : Nat) : Int) - 0).toNat) + 1) 0 _ _ _ hS (lv_sub hl [1, 2, 3, 0] rfl) (by omega) (by exact amG_0) (by omega)
set_option maxHeartbeats 4000000 in
set_option maxRecDepth 100000 in
theorem c_X5_readsTest (l : Launch) (g : GG) (ad : Nat → Nat) (F : Nat → Int) (A : Nat → Nat → Int) (E : Nat → Nat) (tl : va_W) (B : Nat → Int) (ac : Int) (Z : Int) (wd : Int) (rv : Int) (nu : Int) (t : PT) (hP : PIn B ac Z) (hT : TapI F A B Z) (ht : okT Z t) (ht0 : t.1 = 0) (sz : Nat) : MwrZ l g yX5_readsTest cX5_readsTest 3 7 0 0 [.ref (ad 39)] sz (RdW g ad F A E tl wd rv nu t) (fun v w => v = iI (b2 ((testT B Z t).1 = 0)) ∧ ∃ nu2 : Int, w = RdW g ad F A E tl wd rv nu2 (testT B Z t)) := by
  refine wr_startZ (own := RX5) (by decide) rfl (Nat.le_of_ble_eq_true rfl) ?_
  intro Pg Ev s Mi args below Mt Cd ls Q Aw hC hK hS hnm hl hQ
  have hta := ht.1; have htb := ht.2.1; have htc := ht.2.2; have hPa := hP.1; have hPb := hP.2.1
  have hl : lv_has ls 3 [(0, .ref (ad 39))] := hl
  obtain ⟨H, hH⟩ : ∃ H, H = s.heap := ⟨_, rfl⟩
  obtain ⟨locs, hlo⟩ : ∃ locs : List Loc, locs = [] := ⟨_, rfl⟩
  have hS : St g Aw s.heap H locs (RdW g ad F A E tl wd rv nu t) := by rw [hH, hlo]; exact hS
  have goal : W Pg l Ev (rmC 7 0 0) s Mi args below Mt Cd H locs 0 0 Q (F0 Mi 0 ls []) := ?goal
  · rw [hH, hlo] at goal; exact goal
  clear hH hlo
  refine li_aload_n hC hl 0 rfl dX5_readsTest_0 ?_
  refine li_ldcS hC hK.1.2.2.1.2.2.2.2.1 dX5_readsTest_1 ?_
  refine wr_callVi hC (c_X5_takesOneOf l g ad F A E tl B ac Z wd rv nu t 4 hP hT ht (show t.1 = 0 by omega) (by decide) _) mk_X5_takesOneOf ml_X5_102 (rr (by decide)) ⟨by simp only [rmC]; omega, by simp only [rmC]; omega⟩ hK hS (li_recv hK.1 ck_X5 (hS.1 39 _ rfl)) rfl hl.1 rfl (Nat.le_of_ble_eq_true rfl) dX5_readsTest_3 (fun v w H locs hp hS => ?_)
  obtain ⟨hv, hp⟩ := hp
  have hv : v = iI (amV B Z 4 t.2.1) := hv
  have hp : w = RdW g ad F A E tl wd rv nu (t.1, amQ B Z 4 t.2.1, t.2.2) := hp
  obtain ⟨a1, ha1⟩ : ∃ z : Int, z = amV B Z 4 t.2.1 := ⟨_, rfl⟩
  rw [← ha1] at hv
  rw [hp] at hS; rw [hv]
  have q2 := amV_rng hP (i := 4) (by decide) (q := t.2.1) (by omega)
  rw [← ha1, show sLen.getD 4 0 = 6 from rfl] at q2
  refine li_istore_n hC (lv' := [(1, .int (iI a1)), (0, .ref (ad 39))]) hl (by decide) rfl dX5_readsTest_6 (fun ls hl => ?_)
  refine li_iload_n hC hl 0 rfl dX5_readsTest_7 ?_
  refine li_if_ge (tgt := 13) hC (by decide) (rg (by omega) (by omega)) dX5_readsTest_8 (fun c3 => ?_) (fun c3 => ?_)
  · rw [show amQ B Z 4 t.2.1 = t.2.1 + 1 from if_neg (by omega)] at hS
    refine li_aload_n hC hl 1 rfl dX5_readsTest_13 ?_
    refine li_ldcS hC hK.1.2.2.1.2.2.2.2.2 dX5_readsTest_14 ?_
    refine wr_callVi hC (c_X5_takesOneOf l g ad F A E tl B ac Z wd rv nu (t.1, t.2.1 + 1, t.2.2) 5 hP hT (okT_mk (by omega) (by omega) (by omega) : okT Z (t.1, t.2.1 + 1, t.2.2)) (show t.1 = 0 by omega) (by decide) _) mk_X5_takesOneOf ml_X5_102 (rr (by decide)) ⟨by simp only [rmC]; omega, by simp only [rmC]; omega⟩ hK hS (li_recv hK.1 ck_X5 (hS.1 39 _ rfl)) rfl hl.1 rfl (Nat.le_of_ble_eq_true rfl) dX5_readsTest_16 (fun v w H locs hp hS => ?_)
    obtain ⟨hv, hp⟩ := hp
    have hv : v = iI (amV B Z 5 (t.2.1 + 1)) := hv
    have hp : w = RdW g ad F A E tl wd rv nu (t.1, amQ B Z 5 (t.2.1 + 1), t.2.2) := hp
    obtain ⟨a4, ha4⟩ : ∃ z : Int, z = amV B Z 5 (t.2.1 + 1) := ⟨_, rfl⟩
    rw [← ha4] at hv
    rw [hp] at hS; rw [hv]
    have q5 := amV_rng hP (i := 5) (by decide) (q := t.2.1 + 1) (by omega)
    rw [← ha4, show sLen.getD 5 0 = 3 from rfl] at q5
    refine li_istore_n hC (lv' := [(2, .int (iI a4)), (1, .int (iI a1)), (0, .ref (ad 39))]) hl (by decide) rfl dX5_readsTest_19 (fun ls hl => ?_)
    refine li_iload_n hC hl 0 rfl dX5_readsTest_20 ?_
    refine li_if_lt (tgt := 31) hC (by decide) (rg (by omega) (by omega)) dX5_readsTest_21 (fun c6 => ?_) (fun c6 => ?_)
    · rw [show amQ B Z 5 (t.2.1 + 1) = t.2.1 + 1 from if_pos (by omega)] at hS
      refine li_iconst hC dX5_readsTest_31 ?_
      exact hQ _ _ _ _ _ _ _ _ dX5_readsTest_32 hS (by omega) (by omega) (by omega) (by rw [show testT B Z t = (1, t.2.1 + 1, t.2.2) from (by unfold testT; rw [if_neg (by omega), if_pos (by omega)])]; exact ⟨iI_inj (b2_f (by show ¬ (1 : Int) = 0; decide)).symm, nu, rfl⟩)
    · rw [show amQ B Z 5 (t.2.1 + 1) = t.2.1 + 2 from (by rw [show t.2.1 + 2 = (t.2.1 + 1) + 1 by omega]; exact if_neg (by omega))] at hS
      refine li_aload_n hC hl 2 rfl dX5_readsTest_24 ?_
      refine wr_callVz hC (c_X5_takesNumber l g ad F A E tl B ac Z wd rv nu (t.1, t.2.1 + 2, t.2.2) hP hT (okT_mk (by omega) (by omega) (by omega) : okT Z (t.1, t.2.1 + 2, t.2.2)) (show t.1 = 0 by omega) _) mk_X5_takesNumber ml_X5_63 (rr (by decide)) ⟨by simp only [rmC]; omega, by simp only [rmC]; omega⟩ hK hS (li_recv hK.1 ck_X5 (hS.1 39 _ rfl)) rfl hl.1 rfl (Nat.le_of_ble_eq_true rfl) dX5_readsTest_25 (fun v w H locs hp hS => ?_)
      obtain ⟨hv, nu8, hp, hnu8⟩ := hp
      have hp : w = RdW g ad F A E tl wd rv nu8 (figT B Z (t.1, t.2.1 + 2, t.2.2)) := hp
      obtain ⟨t7, ht7⟩ : ∃ z : PT, z = figT B Z (t.1, t.2.1 + 2, t.2.2) := ⟨_, rfl⟩
      rw [← ht7] at hp hv hnu8
      rw [hp] at hS
      rw [hv]
      obtain ⟨okt7, get7⟩ := (⟨(figT_ok hP (okT_mk (by omega) (by omega) (by omega) : okT Z (t.1, t.2.1 + 2, t.2.2))).1, (figT_ok hP (okT_mk (by omega) (by omega) (by omega) : okT Z (t.1, t.2.1 + 2, t.2.2))).2.1⟩ : okT Z (figT B Z (t.1, t.2.1 + 2, t.2.2)) ∧ geT (t.1, t.2.1 + 2, t.2.2) (figT B Z (t.1, t.2.1 + 2, t.2.2)))
      rw [← ht7] at okt7 get7
      have t7a := okt7.1; have t7b := okt7.2.1; have t7c := okt7.2.2; have t7d := get7.1; have t7e := get7.2; try dsimp only at t7d t7e
      have nu8v := (figT_ok hP (okT_mk (by omega) (by omega) (by omega) : okT Z (t.1, t.2.1 + 2, t.2.2))).2.2.1
      have nu8l := (figT_ok hP (okT_mk (by omega) (by omega) (by omega) : okT Z (t.1, t.2.1 + 2, t.2.2))).2.2.2
      rw [← ht7] at nu8l
      refine li_ifne_b (tgt := 33) hC (by decide) dX5_readsTest_28 (fun c9 => ?_) (fun c9 => ?_)
      · refine li_aload_n hC hl 2 rfl dX5_readsTest_33 ?_
        refine li_get hC hK.1 ck_X5 (hS.1 39 _ rfl) 1 (by decide) fl_X5_14 rfl (v := .ref (ad 40)) rfl dX5_readsTest_34 ?_
        refine li_sipush hC (z := 1000) rfl dX5_readsTest_37 ?_
        refine li_iload_n hC hl 1 rfl dX5_readsTest_40 ?_
        refine li_iconst hC dX5_readsTest_41 ?_
        refine li_imul hC dX5_readsTest_42 ?_
        refine li_iload_n hC hl 0 rfl dX5_readsTest_43 ?_
        refine li_iadd hC dX5_readsTest_44 ?_
        refine li_bipush hC (z := 100) rfl dX5_readsTest_45 ?_
        refine li_imul hC dX5_readsTest_47 ?_
        refine li_iadd hC dX5_readsTest_48 ?_
        refine li_aload_n hC hl 2 rfl dX5_readsTest_49 ?_
        refine li_get hC hK.1 ck_X5 (hS.1 39 _ rfl) 5 (by decide) fl_X5_66 rfl (v := .int (iI nu8)) rfl dX5_readsTest_50 ?_
        refine li_iadd hC dX5_readsTest_53 ?_
        refine wr_callVv hC (c_X6_add l g (ws := RdW g ad F A E tl wd rv nu8 t7) (i := 40) (j := 41) (a := (ad 40)) (b := (ad 41)) (n := 100) (f := cdA (A 41) t7.2.2) (sz := (t7.2.2.length : Int)) rfl rfl (Nat.le_of_ble_eq_true rfl) (v := (1000 + (((a1 * 3) + a4) * 100)) + nu8) ⟨by omega, by omega⟩ (by decide) (ws2 := RdW g ad F A E tl wd rv nu8 (t7.1, t7.2.1, t7.2.2 ++ [a1 + 8 * a4 + 32 * figV B Z (t.1, t.2.1 + 2, t.2.2)])) (rdw_add (y := a1 + 8 * a4 + 32 * figV B Z (t.1, t.2.1 + 2, t.2.2)) (by rw [hnu8 (by assumption)]; exact cvS_test (by omega) (by omega) (by omega))) _) mk_X6_add ml_X5_72 (rr (by decide)) ⟨by simp only [rmC]; omega, by simp only [rmC]; omega⟩ hK hS (li_recv hK.1 ck_X6 (hS.1 40 _ rfl)) rfl hl.1 rfl (Nat.le_of_ble_eq_true rfl) dX5_readsTest_54 (fun w H locs hp hS => ?_)
        rw [hp] at hS
        have hS : St g Aw s.heap H locs (RdW g ad F A E tl wd rv nu8 (t7.1, t7.2.1, t7.2.2 ++ [a1 + 8 * a4 + 32 * figV B Z (t.1, t.2.1 + 2, t.2.2)])) := hS
        refine li_iconst hC dX5_readsTest_57 ?_
        exact hQ _ _ _ _ _ _ _ _ dX5_readsTest_58 hS (by omega) (by omega) (by omega) (by have e9 : testT B Z t = (t7.1, t7.2.1, t7.2.2 ++ [a1 + 8 * a4 + 32 * figV B Z (t.1, t.2.1 + 2, t.2.2)]) := (by unfold testT; rw [if_neg (by omega), if_neg (by omega), ← ha1, ← ha4, ← ht0, ← ht7, emit_0 (by omega)]); rw [e9]; exact ⟨iI_inj (b2_t (by assumption)).symm, nu8, rfl⟩)
      · refine li_iconst hC dX5_readsTest_31 ?_
        exact hQ _ _ _ _ _ _ _ _ dX5_readsTest_32 hS (by omega) (by omega) (by omega) (by have e9 : testT B Z t = t7 := (by unfold testT; rw [if_neg (by omega), if_neg (by omega), ← ht0, ← ht7, emit_1 (by assumption)]); rw [e9]; exact ⟨iI_inj (b2_f (by assumption)).symm, nu8, rfl⟩)
  · rw [show amQ B Z 4 t.2.1 = t.2.1 from if_pos (by omega)] at hS
    refine li_iconst hC dX5_readsTest_11 ?_
    exact hQ _ _ _ _ _ _ _ _ dX5_readsTest_12 hS (by omega) (by omega) (by omega) (by rw [show testT B Z t = (1, t.2.1, t.2.2) from if_pos (by omega)]; exact ⟨iI_inj (b2_f (by show ¬ (1 : Int) = 0; decide)).symm, nu, rfl⟩)
