theorem tap_B {S B : Nat → Int} {q : Int} (h1 : 0 ≤ S 1 ∧ S 1 ≤ 4) (hs : sameB (S 1) (mapB S) B) (hq : 0 ≤ q ∧ q < 100) : tapS B q = tapS S q := by
  unfold tapS
  rw [hs _ (by omega) (by omega)]
  unfold mapB
  rw [up_ne _ _ (by omega), up_ne _ _ (by omega), up_ne _ _ (by omega), up_ne _ _ (by omega)]
theorem tapI_B {F : Nat → Int} {A : Nat → Nat → Int} {S B : Nat → Int} (hT : InvT S) (h1 : S 1 ≠ 5) (h : TapI F A S (S 5)) (hs : sameB (S 1) (mapB S) B) : TapI F A B (S 5) := by
  have a := hT.1
  have b := hT.2.1
  exact ⟨h.1, fun q h0 h2 => by rw [tap_B (by omega) hs (by omega)]; exact h.2 q h0 h2⟩
theorem sameB.rf (ac : Int) (B : Nat → Int) : sameB ac B B := fun _ _ _ => rfl
set_option maxHeartbeats 4000000 in
set_option maxRecDepth 100000 in
theorem c_X5_read (l : Launch) (g : GG) (ad : Nat → Nat) (F : Nat → Int) (A : Nat → Nat → Int) (E : Nat → Nat) (tl : va_W) (S : Nat → Int) (hTS : InvT S) (h1 : S 1 ≠ 5) (hTp : TapI F A S (S 5)) (sz : Nat) : MwrZ l g yX5_read cX5_read 2 27 0 0 [.ref (ad 39)] sz (CW g ad F A E tl) (fun v w => v = iI (b2 (¬ mapBad S (mapX S))) ∧ ∃ nu2 wd2 rv2 : Int, w = RdW g ad F A E tl wd2 rv2 nu2 (mapX S).2 ∧ (¬ mapBad S (mapX S) → wd2 = clampS ((mapX S).1 (224 + S 1).toNat) 10 30 ∧ rv2 = (mapX S).1 (229 + S 1).toNat) ∧ okT (S 5) (mapX S).2 ∧ sameB (S 1) (mapB S) (mapX S).1) := by
  refine wr_startZ (own := RX5) (by decide) rfl (Nat.le_of_ble_eq_true rfl) ?_
  intro Pg Ev s Mi args below Mt Cd ls Q Aw hC hK hS hnm hl hQ
  have hT1 := hTS.1; have hT2 := hTS.2.1
  obtain ⟨Z, hZ⟩ : ∃ z : Int, z = S 5 := ⟨_, rfl⟩
  obtain ⟨ac, hac⟩ : ∃ z : Int, z = S 1 := ⟨_, rfl⟩
  have hP0 : PIn (mapB S) ac Z := by rw [hac, hZ]; exact mapB_PIn hTS h1
  have hT0 : TapI F A (mapB S) Z := by rw [hZ]; exact tapI_B hTS h1 hTp (sameB.rf _ _)
  have hPb := hP0.2.1
  have ok0 : okT Z (0, 0, []) := okT_mk (by omega) (by omega) (by show ((0 : Nat) : Int) ≤ 0; omega)
  have hl : lv_has ls 2 [(0, .ref (ad 39))] := hl
  obtain ⟨H, hH⟩ : ∃ H, H = s.heap := ⟨_, rfl⟩
  obtain ⟨locs, hlo⟩ : ∃ locs : List Loc, locs = [] := ⟨_, rfl⟩
  have hS : St g Aw s.heap H locs (CW g ad F A E tl) := by rw [hH, hlo]; exact hS
  have goal : W Pg l Ev (rmC 27 0 0) s Mi args below Mt Cd H locs 0 0 Q (F0 Mi 0 ls []) := ?goal
  · rw [hH, hlo] at goal; exact goal
  clear hH hlo
  refine li_aload_n hC hl 0 rfl dX5_read_0 ?_
  refine li_iconst hC dX5_read_1 ?_
  refine li_put hC hK hS ck_X5 39 rfl 2 (by decide) fl_X5_23 rfl rfl (v := .int (iI 0)) rfl rfl (Nat.le_of_ble_eq_true rfl) (ws' := CW g ad (va_up F 67 0) A E tl) rfl dX5_read_2 (fun H locs hS => ?_)
  refine li_aload_n hC hl 0 rfl dX5_read_5 ?_
  refine li_bipush hC (z := 24) rfl dX5_read_6 ?_
  refine li_put hC hK hS ck_X5 39 rfl 3 (by decide) fl_X5_27 rfl rfl (v := .int (iI 24)) rfl rfl (Nat.le_of_ble_eq_true rfl) (ws' := CW g ad (va_up (va_up F 67 0) 68 24) A E tl) rfl dX5_read_8 (fun H locs hS => ?_)
  refine li_aload_n hC hl 0 rfl dX5_read_11 ?_
  refine li_bipush hC (z := 99) rfl dX5_read_12 ?_
  refine li_put hC hK hS ck_X5 39 rfl 4 (by decide) fl_X5_30 rfl rfl (v := .int (iI 99)) rfl rfl (Nat.le_of_ble_eq_true rfl) (ws' := CW g ad (va_up (va_up (va_up F 67 0) 68 24) 69 99) A E tl) rfl dX5_read_14 (fun H locs hS => ?_)
  refine li_aload_n hC hl 0 rfl dX5_read_17 ?_
  refine li_get hC hK.1 ck_X5 (hS.1 39 _ rfl) 1 (by decide) fl_X5_14 rfl (v := .ref (ad 40)) rfl dX5_read_18 ?_
  refine wr_callVv hC (c_X6_clear l g (ws := CW g ad (va_up (va_up (va_up F 67 0) 68 24) 69 99) A E tl) (i := 40) (a := (ad 40)) (b := (ad 41)) (sz := F 40) rfl (ws2 := CW g ad (va_up (va_up (va_up (va_up F 40 0) 67 0) 68 24) 69 99) A E tl) rfl _) mk_X6_clear ml_X5_33 (rr (by decide)) ⟨by simp only [rmC]; omega, by simp only [rmC]; omega⟩ hK hS (li_recv hK.1 ck_X6 (hS.1 40 _ rfl)) rfl hl.1 rfl (Nat.le_of_ble_eq_true rfl) dX5_read_21 (fun w H locs hp hS => ?_)
  subst hp
  have hS : St g Aw s.heap H locs (RdW g ad F A E tl 24 99 (F 70) (0, 0, [])) := by rw [← rdw_0]; exact hS
  refine li_iconst hC dX5_read_24 ?_
  refine li_istore_n hC (lv' := [(1, .int (iI 1)), (0, .ref (ad 39))]) hl (by decide) rfl dX5_read_25 (fun ls hl => ?_)
  have L26_1 : ∀ (fuel : Nat) (n : Int) (Bv : Nat → Int) (u : PT) (wdv : Int) (rvv : Int) (nuv : Int) (ls : Array Slot) (H : Heap) (locs : List Loc), St g Aw s.heap H locs (RdW g ad F A E tl wdv rvv nuv u) → lv_has ls 2 [(0, .ref (ad 39)), (1, .int (iI n))] → (1 ≤ n ∧ n ≤ 10) → (okT Z u) → (u.1 = 0) → (PIn Bv ac Z) → (TapI F A Bv Z) → (sameB ac (mapB S) Bv) → (wdv = clampS (Bv (224 + ac).toNat) 10 30 ∧ rvv = Bv (229 + ac).toNat) → (mapX S = mlT ac Z (10 - n).toNat (clauseC ac Z (Bv, u))) → (((11 : Int) - n).toNat) < fuel → W Pg l Ev (rmC 27 0 0) s Mi args below Mt Cd H locs 0 0 Q (F0 Mi 26 ls []) := by
    intro fuel
    induction fuel with
    | zero => intro n Bv u wdv rvv nuv ls H locs hS hl hn hu hu0 hP hT hsm hM hx hm; exact absurd hm (Nat.not_lt_zero _)
    | succ fuel ih26 =>
      intro n Bv u wdv rvv nuv ls H locs hS hl hn hu hu0 hP hT hsm hM hx hm
      have hua := hu.1; have hub := hu.2.1; have huc := hu.2.2
      refine li_iload_n hC hl 1 rfl dX5_read_26 ?_
      refine li_bipush hC (z := 10) rfl dX5_read_27 ?_
      refine li_icmp_gt (tgt := 80) hC (by decide) (rg (by omega) (by omega)) (rg (by decide) (by decide)) dX5_read_29 (fun c2 => ?_) (fun c2 => ?_)
      · exfalso; omega
      · refine li_aload_n hC hl 0 rfl dX5_read_32 ?_
        refine wr_callVz hC (c_X5_readsClause l g ad F A E tl Bv ac Z wdv rvv nuv u hP hT hu (show u.1 = 0 by omega) hM _) mk_X5_readsClause ml_X5_36 (rr (by decide)) ⟨by simp only [rmC]; omega, by simp only [rmC]; omega⟩ hK hS (li_recv hK.1 ck_X5 (hS.1 39 _ rfl)) rfl hl.1 rfl (Nat.le_of_ble_eq_true rfl) dX5_read_33 (fun v w H locs hp hS => ?_)
        obtain ⟨hv, nu4, nu4w, nu4r, hp, hnu4⟩ := hp
        obtain ⟨t3, ht3⟩ : ∃ z : PT, z = clauseT Bv Z u := ⟨_, rfl⟩
        obtain ⟨B5, hB5⟩ : ∃ z : Nat → Int, z = clauseB Bv ac Z u := ⟨_, rfl⟩
        rw [← ht3] at hp hv hnu4; rw [← hB5] at hnu4; rw [hp] at hS; rw [hv]
        obtain ⟨okt3, get3⟩ := clauseT_ok hP hu
        rw [← ht3] at okt3 get3
        have t3a := okt3.1; have t3b := okt3.2.1; have t3c := okt3.2.2; have t3d := get3.1; have t3e := get3.2; try dsimp only at t3d t3e
        have smB5 : sameB ac (mapB S) B5 := hsm.tr (by rw [hB5]; exact clauseB_same)
        have hP := sameB_PIn hP0 smB5
        have hT : TapI F A B5 Z := by rw [hZ]; exact tapI_B hTS h1 hTp (by rw [← hac]; exact smB5)
        refine li_ifne_b (tgt := 41) hC (by decide) dX5_read_36 (fun c6 => ?_) (fun c6 => ?_)
        · refine li_aload_n hC hl 0 rfl dX5_read_41 ?_
          refine li_get hC hK.1 ck_X5 (hS.1 39 _ rfl) 2 (by decide) fl_X5_23 rfl (v := .int (iI t3.2.1)) rfl dX5_read_42 ?_
          refine li_aload_n hC hl 0 rfl dX5_read_45 ?_
          refine li_get hC hK.1 ck_X5 (hS.1 39 _ rfl) 0 (by decide) fl_X5_20 rfl (v := .ref (ad 4)) rfl dX5_read_46 ?_
          refine ro_callVi hC (c_X6_size l g (ws := RdW g ad F A E tl nu4w nu4r nu4 t3) (i := 4) (j := 5) (a := (ad 4)) (b := (ad 5)) (n := 100) (f := (A 5)) (sz := F 4) rfl rfl (Nat.le_of_ble_eq_true rfl)) mk_X6_size ml_X5_40 (rr (by decide)) ⟨by simp only [rmC]; omega, by simp only [rmC]; omega⟩ hK.1 (hS.ro hK) hS.1 (li_recv hK.1 ck_X6 (hS.1 4 _ rfl)) rfl hl.1 rfl (Nat.le_of_ble_eq_true rfl) dX5_read_49 ?_
          rw [show F 4 = Z from hT.1]
          refine li_icmp_lt (tgt := 57) hC (by decide) (rg (by omega) (by omega)) (rg (by omega) (by omega)) dX5_read_52 (fun c7 => ?_) (fun c7 => ?_)
          · refine li_iload_n hC hl 1 rfl dX5_read_57 ?_
            refine li_bipush hC (z := 10) rfl dX5_read_58 ?_
            refine li_icmp_eq (tgt := 72) hC (by decide) (rg (by omega) (by omega)) (rg (by decide) (by decide)) dX5_read_60 (fun c8 => ?_) (fun c8 => ?_)
            · refine li_iconst hC dX5_read_72 ?_
              exact hQ _ _ _ _ _ _ _ _ dX5_read_73 hS (by omega) (by omega) (by omega) (by have hX : mapX S = (B5, t3) := (by rw [hx, show clauseC ac Z (Bv, u) = (B5, t3) from (by unfold clauseC; rw [hB5, ht3])]; exact mlT_e (Or.inl (by omega))); have hbad : mapBad S (B5, t3) := Or.inr (show t3.2.1 ≠ S 5 by omega); rw [hX]; exact ⟨iI_inj (b2_f (fun h9 => h9 hbad)).symm, nu4, nu4w, nu4r, rfl, fun h9 => absurd hbad h9, (by rw [← hZ]; exact okt3), (by rw [← hac]; exact smB5)⟩)
            · refine li_aload_n hC hl 0 rfl dX5_read_63 ?_
              refine li_bipush hC (z := 59) rfl dX5_read_64 ?_
              refine wr_callVz hC (c_X5_takes l g ad F A E tl B5 ac Z nu4w nu4r nu4 t3 59 hP hT okt3 (show t3.1 = 0 by omega) (by first | omega | (dsimp only; omega)) _) mk_X5_takes ml_X5_44 (rr (by decide)) ⟨by simp only [rmC]; omega, by simp only [rmC]; omega⟩ hK hS (li_recv hK.1 ck_X5 (hS.1 39 _ rfl)) rfl hl.1 rfl (Nat.le_of_ble_eq_true rfl) dX5_read_66 (fun v w H locs hp hS => ?_)
              obtain ⟨hv, nu10, hp⟩ := hp
              have hp : w = RdW g ad F A E tl nu4w nu4r nu10 (mustT B5 Z 59 t3) := hp
              obtain ⟨t9, ht9⟩ : ∃ z : PT, z = mustT B5 Z 59 t3 := ⟨_, rfl⟩
              rw [← ht9] at hp hv
              rw [hp] at hS
              rw [hv]
              obtain ⟨okt9, get9⟩ := mustT_ok (c := 59) hP okt3 (by omega)
              rw [← ht9] at okt9 get9
              have t9a := okt9.1; have t9b := okt9.2.1; have t9c := okt9.2.2; have t9d := get9.1; have t9e := get9.2; try dsimp only at t9d t9e
              refine li_ifne_b (tgt := 74) hC (by decide) dX5_read_69 (fun c11 => ?_) (fun c11 => ?_)
              · refine li_iinc hC (lv' := [(1, .int (iI (n + 1))), (0, .ref (ad 39))]) hl 1 rfl (by decide) rfl dX5_read_74 (fun ls hl => ?_)
                refine li_goto (tgt := 26) hC (by decide) dX5_read_77 ?_
                exact ih26 (n + 1) B5 t9 nu4w nu4r nu10 _ _ _ hS (lv_sub hl [1, 0] rfl) (by omega) (by exact okt9) (by omega) (by exact hP) (by exact hT) (by exact smB5) (by exact hnu4 (by assumption)) (by obtain ⟨he9, hf9⟩ := must_eq ht9 (by assumption) (by assumption); rw [hx, show clauseC ac Z (Bv, u) = (B5, t3) from (by unfold clauseC; rw [hB5, ht3]), mlT_s (by omega) (by assumption) he9, hf9]) (by omega)
              · refine li_iconst hC dX5_read_72 ?_
                exact hQ _ _ _ _ _ _ _ _ dX5_read_73 hS (by omega) (by omega) (by omega) (by obtain ⟨he9, hf9⟩ := must_ne ht9 (show t3.1 = 0 by assumption) (by assumption); have hX : mapX S = (B5, t3) := (by rw [hx, show clauseC ac Z (Bv, u) = (B5, t3) from (by unfold clauseC; rw [hB5, ht3])]; exact mlT_e (Or.inr (Or.inr he9))); have hbad : mapBad S (B5, t3) := Or.inr (show t3.2.1 ≠ S 5 by omega); rw [hX]; exact ⟨iI_inj (b2_f (fun h9 => h9 hbad)).symm, nu10, nu4w, nu4r, by rw [hf9]; rfl, fun h9 => absurd hbad h9, (by rw [← hZ]; exact okt3), (by rw [← hac]; exact smB5)⟩)
          · refine li_iconst hC dX5_read_55 ?_
            exact hQ _ _ _ _ _ _ _ _ dX5_read_56 hS (by omega) (by omega) (by omega) (by have hX : mapX S = (B5, t3) := (by rw [hx, show clauseC ac Z (Bv, u) = (B5, t3) from (by unfold clauseC; rw [hB5, ht3])]; exact mlT_e (Or.inr (Or.inr (by show hereT B5 Z t3.2.1 ≠ 59; unfold hereT; rw [if_neg (by omega)]; decide)))); rw [hX]; exact ⟨iI_inj (b2_t (fun h9 => by rcases h9 with h9 | h9; { exact h9 (by assumption) }; { exact h9 (show t3.2.1 = S 5 by omega) })).symm, nu4, nu4w, nu4r, rfl, fun _ => by rw [← hac]; exact hnu4 (by assumption), (by rw [← hZ]; exact okt3), (by rw [← hac]; exact smB5)⟩)
        · refine li_iconst hC dX5_read_39 ?_
          exact hQ _ _ _ _ _ _ _ _ dX5_read_40 hS (by omega) (by omega) (by omega) (by have hX : mapX S = (B5, t3) := (by rw [hx, show clauseC ac Z (Bv, u) = (B5, t3) from (by unfold clauseC; rw [hB5, ht3])]; exact mlT_e (Or.inr (Or.inl (by assumption)))); have hbad : mapBad S (B5, t3) := Or.inl (by assumption); rw [hX]; exact ⟨iI_inj (b2_f (fun h9 => h9 hbad)).symm, nu4, nu4w, nu4r, rfl, fun h9 => absurd hbad h9, (by rw [← hZ]; exact okt3), (by rw [← hac]; exact smB5)⟩)
  exact L26_1 ((((11 : Int) - 1).toNat) + 1) 1 (mapB S) (0, 0, []) 24 99 (F 70) _ _ _ hS (lv_sub hl [1, 0] rfl) (by omega) (by exact ok0) (by rfl) (by exact hP0) (by exact hT0) (by exact sameB.rf _ _) (by unfold mapB; rw [hac]; refine ⟨?_, ?_⟩; { rw [up_ne _ _ (by omega), up_ne _ _ (by omega), up_same]; rfl }; { rw [up_ne _ _ (by omega), up_same] }) (by unfold mapX; rw [hac, hZ]; rfl) (by omega)
set_option maxHeartbeats 4000000 in
set_option maxRecDepth 100000 in
theorem c_X11_map (l : Launch) (g : GG) (ad : Nat → Nat) (F : Nat → Int) (A : Nat → Nat → Int) (E : Nat → Nat) (tl : va_W) (S : Nat → Int) (nm : Nat → Nat) (hSh : ShW g ad F A E tl S nm) (hI : InvD S) (hH : InvH S) (h5 : 0 ≤ S 5 ∧ S 5 ≤ 100) (h2 : 0 ≤ S 2 ∧ S 2 ≤ 5) (h3 : 0 ≤ S 3 ∧ S 3 ≤ 8) (h4 : 0 ≤ S 4 ∧ S 4 ≤ 8) (hTS : InvT S) (hMI : InvM S) (hC0 : InvC S) (sz : Nat) : MwrI l g yX11_map cX11_map 2 28 0 0 [.ref (ad 0)] sz (CW g ad F A E tl) (fun v w => v = iI (mapR S) ∧ ∃ F2 A2, w = CW g ad F2 A2 E tl ∧ KpS F F2 A A2 ∧ ShW g ad F2 A2 E tl (mapS S) nm) := by
  refine wr_startI (own := RX11) (by decide) rfl (Nat.le_of_ble_eq_true rfl) ?_
  intro Pg Ev s Mi args below Mt Cd ls Q Aw hC hK hS hnm hl hQ
  have hSh0 := hSh
  obtain ⟨hTp, hCd, hNs, hWh, hRw, hSn, hPl, hBk, hMp⟩ := hSh0
  have hNm := hNs.2.2
  have hD0 := hI.1
  have hNs0 := hNs.1
  have e4 := hTp.1
  have e13 := hSn.1
  have e15 := hPl.1
  have e17 := hBk.1
  have hT1 := hTS.1; have hT2 := hTS.2.1
  have hl : lv_has ls 2 [(0, .ref (ad 0))] := hl
  obtain ⟨H, hH⟩ : ∃ H, H = s.heap := ⟨_, rfl⟩
  obtain ⟨locs, hlo⟩ : ∃ locs : List Loc, locs = [] := ⟨_, rfl⟩
  have hS : St g Aw s.heap H locs (CW g ad F A E tl) := by rw [hH, hlo]; exact hS
  have goal : W Pg l Ev (rmC 28 0 0) s Mi args below Mt Cd H locs 0 0 Q (F0 Mi 0 ls []) := ?goal
  · rw [hH, hlo] at goal; exact goal
  clear hH hlo
  refine li_aload_n hC hl 0 rfl dX11_map_0 ?_
  refine li_get hC hK.1 ck_X11 (hS.1 0 _ rfl) 1 (by decide) fl_X11_23 rfl (v := .ref (ad 3)) rfl dX11_map_1 ?_
  refine li_get hC hK.1 ck_X8 (hS.1 3 _ rfl) 9 (by decide) fl_X11_58 rfl (v := .int (iI (S 1))) (by rw [← show F 60 = S 1 from hMp.1]; rfl) dX11_map_4 ?_
  refine li_iconst hC dX11_map_7 ?_
  refine li_icmp_lt (tgt := 14) hC (by decide) (rg (by omega) (by omega)) (rg (by decide) (by decide)) dX11_map_8 (fun c1 => ?_) (fun c1 => ?_)
  · have h1 : S 1 ≠ 5 := by omega
    refine li_aload_n hC hl 0 rfl dX11_map_14 ?_
    refine li_get hC hK.1 ck_X11 (hS.1 0 _ rfl) 3 (by decide) fl_X11_38 rfl (v := .ref (ad 39)) rfl dX11_map_15 ?_
    refine wr_callVz hC (c_X5_read l g ad F A E tl S hTS h1 hTp _) mk_X5_read ml_X11_62 (rr (by decide)) ⟨by simp only [rmC]; omega, by simp only [rmC]; omega⟩ hK hS (li_recv hK.1 ck_X5 (hS.1 39 _ rfl)) rfl hl.1 rfl (Nat.le_of_ble_eq_true rfl) dX11_map_18 (fun v w H locs hp hS => ?_)
    obtain ⟨hv, nu2, wd2, rv2, hp, hrel, hok, hsm⟩ := hp
    obtain ⟨x, hx⟩ : ∃ z : CT, z = mapX S := ⟨_, rfl⟩
    rw [← hx] at hv hp hrel hok hsm
    rw [hp] at hS
    rw [hv]
    have hS : St g Aw s.heap H locs (CW g ad (va_up (va_up (va_up (va_up (va_up F 40 (x.2.2.2.length : Int)) 67 x.2.2.1) 68 wd2) 69 rv2) 70 nu2) (va_up A 41 (cdA (A 41) x.2.2.2)) E tl) := hS
    have hl100 : (x.2.2.2.length : Int) ≤ 100 := by have a1 := hok.2.1; have a2 := hok.2.2; omega
    have hpos := hok.2.1
    refine li_istore_n hC (lv' := [(1, .int (iI (b2 (¬ mapBad S x)))), (0, .ref (ad 0))]) hl (by decide) rfl dX11_map_21 (fun ls hl => ?_)
    refine li_aload_n hC hl 1 rfl dX11_map_22 ?_
    refine li_get hC hK.1 ck_X11 (hS.1 0 _ rfl) 1 (by decide) fl_X11_23 rfl (v := .ref (ad 3)) rfl dX11_map_23 ?_
    refine li_get hC hK.1 ck_X8 (hS.1 3 _ rfl) 0 (by decide) fl_X11_32 rfl (v := .ref (ad 4)) rfl dX11_map_26 ?_
    refine wr_callVv hC (c_X6_clear l g (ws := CW g ad (va_up (va_up (va_up (va_up (va_up F 40 (x.2.2.2.length : Int)) 67 x.2.2.1) 68 wd2) 69 rv2) 70 nu2) (va_up A 41 (cdA (A 41) x.2.2.2)) E tl) (i := 4) (a := (ad 4)) (b := (ad 5)) (sz := F 4) rfl (ws2 := CW g ad (va_up (va_up (va_up (va_up (va_up (va_up F 4 0) 40 (x.2.2.2.length : Int)) 67 x.2.2.1) 68 wd2) 69 rv2) 70 nu2) (va_up A 41 (cdA (A 41) x.2.2.2)) E tl) rfl _) mk_X6_clear ml_X11_66 (rr (by decide)) ⟨by simp only [rmC]; omega, by simp only [rmC]; omega⟩ hK hS (li_recv hK.1 ck_X6 (hS.1 4 _ rfl)) rfl hl.1 rfl (Nat.le_of_ble_eq_true rfl) dX11_map_29 (fun w H locs hp hS => ?_)
    subst hp
    refine li_iload_n hC hl 0 rfl dX11_map_32 ?_
    refine li_ifne_b (tgt := 47) hC (by decide) dX11_map_33 (fun c2 => ?_) (fun c2 => ?_)
    · refine li_aload_n hC hl 1 rfl dX11_map_47 ?_
      refine li_get hC hK.1 ck_X11 (hS.1 0 _ rfl) 1 (by decide) fl_X11_23 rfl (v := .ref (ad 3)) rfl dX11_map_48 ?_
      refine li_aload_n hC hl 1 rfl dX11_map_51 ?_
      refine li_get hC hK.1 ck_X11 (hS.1 0 _ rfl) 3 (by decide) fl_X11_38 rfl (v := .ref (ad 39)) rfl dX11_map_52 ?_
      refine wr_callVv hC (c_X8_hold l g ad (va_up (va_up (va_up (va_up (va_up (va_up F 4 0) 40 (x.2.2.2.length : Int)) 67 x.2.2.1) 68 wd2) 69 rv2) 70 nu2) (va_up A 41 (cdA (A 41) x.2.2.2)) E tl S nm hI _) mk_X8_hold ml_X11_72 (rr (by decide)) ⟨by simp only [rmC]; omega, by simp only [rmC]; omega⟩ hK hS (li_recv hK.1 ck_X8 (hS.1 3 _ rfl)) rfl hl.1 rfl (Nat.le_of_ble_eq_true rfl) dX11_map_55 (fun w H locs hp hS => ?_)
      rw [show w = _ from hp] at hS
      have hS : St g Aw s.heap H locs (CW g ad (va_up (va_up (va_up (va_up (va_up (va_up (va_up (va_up (va_up (va_up F 4 0) 6 (x.2.2.2.length : Int)) 40 (x.2.2.2.length : Int)) 60 (F 60 + 1)) 61 wd2) 62 rv2) 67 x.2.2.1) 68 wd2) 69 rv2) 70 nu2) (va_up (va_up A 7 (cdA (A 41) x.2.2.2)) 41 (cdA (A 41) x.2.2.2)) E tl) := hS
      refine li_aload_n hC hl 1 rfl dX11_map_58 ?_
      refine li_get hC hK.1 ck_X11 (hS.1 0 _ rfl) 1 (by decide) fl_X11_23 rfl (v := .ref (ad 3)) rfl dX11_map_59 ?_
      refine li_get hC hK.1 ck_X8 (hS.1 3 _ rfl) 9 (by decide) fl_X11_58 rfl (v := .int (iI (F 60 + 1))) rfl dX11_map_62 ?_
      refine li_iconst hC dX11_map_65 ?_
      refine li_isub hC dX11_map_66 ?_
      exact hQ _ _ _ _ _ _ _ _ dX11_map_67 hS (by omega) (by omega) (⟨iI_inj (by unfold mapR; rw [iteP_f h1, ← hx, iteP_f (show ¬ mapBad S x from c2)]; have e9 := hMp.1; omega), (va_up (va_up (va_up (va_up (va_up (va_up (va_up (va_up (va_up (va_up F 4 0) 6 (x.2.2.2.length : Int)) 40 (x.2.2.2.length : Int)) 60 (F 60 + 1)) 61 wd2) 62 rv2) 67 x.2.2.1) 68 wd2) 69 rv2) 70 nu2), (va_up (va_up A 7 (cdA (A 41) x.2.2.2)) 41 (cdA (A 41) x.2.2.2)), rfl, ⟨fun k hk => (by first | rfl | (repeat rw [up_ne _ _ (by omega)])), fun k hk => (by first | rfl | (repeat rw [up_ne _ _ (by omega)]))⟩, (by unfold mapS; rw [iteP_f h1, ← hx, iteP_f (show ¬ mapBad S x from c2)]; have hmh := map_held hTS hMI hH hC0 h1 hsm hl100; unfold ShW ShP; exact ⟨⟨by show (0 : Int) = _; rw [(show (va_up (va_up (emS x.1 (S 1) x.2.2.2) 1 (S 1 + 1)) 6 (S 1)) 5 = 0 by rw [up_ne _ _ (by omega), up_ne _ _ (by omega)]; exact map_5 hTS h1 hsm)], fun i h0 h9 => by rw [(show (va_up (va_up (emS x.1 (S 1) x.2.2.2) 1 (S 1 + 1)) 6 (S 1)) 5 = 0 by rw [up_ne _ _ (by omega), up_ne _ _ (by omega)]; exact map_5 hTS h1 hsm)] at h9; omega⟩, ⟨(map_new hTS h1 hsm hl100).1.symm, fun i h0 h9 => by rw [(map_new hTS h1 hsm hl100).1] at h9; show cdA (A 41) x.2.2.2 i.toNat = _; rw [(map_new hTS h1 hsm hl100).2.1 _ (by omega)]; unfold cdA; rw [if_pos (by omega)]⟩, sh3 (T := (va_up (va_up (emS x.1 (S 1) x.2.2.2) 1 (S 1 + 1)) 6 (S 1))) (S := S) (fun j hj => by rw [up_ne _ _ (by omega), up_ne _ _ (by omega)]; exact map_lo hTS h1 hsm (by omega) (by omega) (by omega) (by omega)) hD0 hNs, sh4 (T := (va_up (va_up (emS x.1 (S 1) x.2.2.2) 1 (S 1 + 1)) 6 (S 1))) (S := S) (fun j hj => by rw [up_ne _ _ (by omega), up_ne _ _ (by omega)]; exact map_lo hTS h1 hsm (by omega) (by omega) (by omega) (by omega)) hD0 hWh, sh5 (T := (va_up (va_up (emS x.1 (S 1) x.2.2.2) 1 (S 1 + 1)) 6 (S 1))) (S := S) (fun j hj => by rw [up_ne _ _ (by omega), up_ne _ _ (by omega)]; exact map_lo hTS h1 hsm (by omega) (by omega) (by omega) (by omega)) hRw, sh6 (T := (va_up (va_up (emS x.1 (S 1) x.2.2.2) 1 (S 1 + 1)) 6 (S 1))) (S := S) (fun j hj => by rw [up_ne _ _ (by omega), up_ne _ _ (by omega)]; exact map_lo hTS h1 hsm (by omega) (by omega) (by omega) (by omega)) h2.2 hSn, sh7 (T := (va_up (va_up (emS x.1 (S 1) x.2.2.2) 1 (S 1 + 1)) 6 (S 1))) (S := S) (fun j hj => by rw [up_ne _ _ (by omega), up_ne _ _ (by omega)]; exact map_lo hTS h1 hsm (by omega) (by omega) (by omega) (by omega)) h3.2 hPl, sh8 (T := (va_up (va_up (emS x.1 (S 1) x.2.2.2) 1 (S 1 + 1)) 6 (S 1))) (S := S) (fun j hj => by rw [up_ne _ _ (by omega), up_ne _ _ (by omega)]; exact map_lo hTS h1 hsm (by omega) (by omega) (by omega) (by omega)) h4.2 hBk, ⟨by show F 60 + 1 = _; rw [up_ne _ _ (by omega), up_same]; have e9 := hMp.1; omega, by rw [(map_new hTS h1 hsm hl100).2.2.1]; exact (hrel (show ¬ mapBad S x from c2)).1, by rw [(map_new hTS h1 hsm hl100).2.2.2]; exact (hrel (show ¬ mapBad S x from c2)).2⟩⟩)⟩)
    · refine li_bipush hC (z := -10) rfl dX11_map_36 ?_
      refine li_aload_n hC hl 1 rfl dX11_map_38 ?_
      refine li_get hC hK.1 ck_X11 (hS.1 0 _ rfl) 3 (by decide) fl_X11_38 rfl (v := .ref (ad 39)) rfl dX11_map_39 ?_
      refine li_get hC hK.1 ck_X5 (hS.1 39 _ rfl) 2 (by decide) fl_X11_69 rfl (v := .int (iI x.2.2.1)) rfl dX11_map_42 ?_
      refine li_isub hC dX11_map_45 ?_
      exact hQ _ _ _ _ _ _ _ _ dX11_map_46 hS (by omega) (by omega) (⟨iI_inj (by unfold mapR; rw [iteP_f h1, ← hx, iteP_t (show mapBad S x from Classical.byContradiction fun h9 => c2 h9)]), (va_up (va_up (va_up (va_up (va_up (va_up F 4 0) 40 (x.2.2.2.length : Int)) 67 x.2.2.1) 68 wd2) 69 rv2) 70 nu2), (va_up A 41 (cdA (A 41) x.2.2.2)), rfl, ⟨fun k hk => (by first | rfl | (repeat rw [up_ne _ _ (by omega)])), fun k hk => (by first | rfl | (repeat rw [up_ne _ _ (by omega)]))⟩, (by unfold mapS; rw [iteP_f h1, ← hx, iteP_t (show mapBad S x from Classical.byContradiction fun h9 => c2 h9)]; have hmh := map_held hTS hMI hH hC0 h1 hsm hl100; unfold ShW ShP; exact ⟨⟨by show (0 : Int) = _; rw [(show (emS x.1 (S 1) x.2.2.2) 5 = 0 by exact map_5 hTS h1 hsm)], fun i h0 h9 => by rw [(show (emS x.1 (S 1) x.2.2.2) 5 = 0 by exact map_5 hTS h1 hsm)] at h9; omega⟩, ⟨by rw [hmh.1]; exact hCd.1, fun i h0 h9 => by rw [hmh.1] at h9; rw [hmh.2.1 _ (by omega)]; exact hCd.2 i h0 h9⟩, sh3 (T := (emS x.1 (S 1) x.2.2.2)) (S := S) (fun j hj => by exact map_lo hTS h1 hsm (by omega) (by omega) (by omega) (by omega)) hD0 hNs, sh4 (T := (emS x.1 (S 1) x.2.2.2)) (S := S) (fun j hj => by exact map_lo hTS h1 hsm (by omega) (by omega) (by omega) (by omega)) hD0 hWh, sh5 (T := (emS x.1 (S 1) x.2.2.2)) (S := S) (fun j hj => by exact map_lo hTS h1 hsm (by omega) (by omega) (by omega) (by omega)) hRw, sh6 (T := (emS x.1 (S 1) x.2.2.2)) (S := S) (fun j hj => by exact map_lo hTS h1 hsm (by omega) (by omega) (by omega) (by omega)) h2.2 hSn, sh7 (T := (emS x.1 (S 1) x.2.2.2)) (S := S) (fun j hj => by exact map_lo hTS h1 hsm (by omega) (by omega) (by omega) (by omega)) h3.2 hPl, sh8 (T := (emS x.1 (S 1) x.2.2.2)) (S := S) (fun j hj => by exact map_lo hTS h1 hsm (by omega) (by omega) (by omega) (by omega)) h4.2 hBk, ⟨by rw [map_lo hTS h1 hsm (by omega) (by omega) (by omega) (by omega)]; exact hMp.1, by rw [hmh.2.2.1]; exact hMp.2.1, by rw [hmh.2.2.2]; exact hMp.2.2⟩⟩)⟩)
  · refine li_bipush hC (z := -4) rfl dX11_map_11 ?_
    exact hQ _ _ _ _ _ _ _ _ dX11_map_13 hS (by omega) (by omega) (⟨iI_inj (by unfold mapR; rw [iteP_t (by omega)]), F, A, rfl, KpS.rf _ _, (by unfold mapS; rw [iteP_t (by omega)]; exact hSh)⟩)
