theorem opp_ok {S : Nat → Int} {ac E : Int} (hP : PIn S ac E) (n : Nat) (o : Int) (t : PT) (h : okT E t) (hl : (t.2.2.length : Int) + 1 ≤ t.2.1) : okT E (emitT (-1) (pT S E n 0 o t)) ∧ (t.2.1 ≤ (emitT (-1) (pT S E n 0 o t)).2.1 ∧ t.2.1 - t.2.2.length - 1 ≤ (emitT (-1) (pT S E n 0 o t)).2.1 - (emitT (-1) (pT S E n 0 o t)).2.2.length) := by
  obtain ⟨h1, h2⟩ := pT_ok hP n 0 o t h
  have h3 := h2.1; have h4 := h2.2
  obtain ⟨k1, k2, k3, k4⟩ := emitT_ok (x := -1) h1 (fun _ => by omega)
  exact ⟨k1, by omega, by omega⟩
def OneP (l : Launch) (g : GG) (d : Nat) : Prop := ∀ (ad : Nat → Nat) (F : Nat → Int) (A : Nat → Nat → Int) (E : Nat → Nat) (tl : va_W) (B : Nat → Int) (ac : Int) (Z : Int) (wd : Int) (rv : Int) (nu : Int) (t : PT) (o : Int) (n : Nat) (hP : PIn B ac Z) (hT : TapI F A B Z) (ht : okT Z t) (ht0 : t.1 = 0) (hd : (d : Int) + o = 5) (ho : 0 ≤ o) (hn : 4 * (Z - t.2.1) + 1 ≤ (n : Int)) (sz : Nat), MwrZ l g yX5_readsOne cX5_readsOne 3 (8 + 3 * d) 0 0 [.ref (ad 39), .int (iI o)] sz (RdW g ad F A E tl wd rv nu t) (fun v w => v = iI (b2 ((pT B Z n 0 o t).1 = 0)) ∧ ∃ nu2 : Int, w = RdW g ad F A E tl wd rv nu2 (pT B Z n 0 o t))
def OppP (l : Launch) (g : GG) (d : Nat) : Prop := ∀ (ad : Nat → Nat) (F : Nat → Int) (A : Nat → Nat → Int) (E : Nat → Nat) (tl : va_W) (B : Nat → Int) (ac : Int) (Z : Int) (wd : Int) (rv : Int) (nu : Int) (t : PT) (o : Int) (n : Nat) (hP : PIn B ac Z) (hT : TapI F A B Z) (ht : okT Z t) (ht0 : t.1 = 0) (hd : (d : Int) + o = 5) (ho : 0 ≤ o) (hn : 4 * (Z - t.2.1) + 1 ≤ (n : Int)) (hle : (t.2.2.length : Int) + 1 ≤ t.2.1) (sz : Nat), MwrZ l g yX5_readsOpposite cX5_readsOpposite 2 (9 + 3 * d) 0 0 [.ref (ad 39), .int (iI o)] sz (RdW g ad F A E tl wd rv nu t) (fun v w => v = iI (b2 ((emitT (-1) (pT B Z n 0 o t)).1 = 0)) ∧ ∃ nu2 : Int, w = RdW g ad F A E tl wd rv nu2 (emitT (-1) (pT B Z n 0 o t)))
def BothP (l : Launch) (g : GG) (d : Nat) : Prop := ∀ (ad : Nat → Nat) (F : Nat → Int) (A : Nat → Nat → Int) (E : Nat → Nat) (tl : va_W) (B : Nat → Int) (ac : Int) (Z : Int) (wd : Int) (rv : Int) (nu : Int) (t : PT) (o : Int) (n : Nat) (hP : PIn B ac Z) (hT : TapI F A B Z) (ht : okT Z t) (ht0 : t.1 = 0) (hd : (d : Int) + o = 5) (ho : 0 ≤ o) (hn : 4 * (Z - t.2.1) + 2 ≤ (n : Int)) (sz : Nat), MwrZ l g yX5_readsBoth cX5_readsBoth 3 (9 + 3 * d) 0 0 [.ref (ad 39), .int (iI o)] sz (RdW g ad F A E tl wd rv nu t) (fun v w => v = iI (b2 ((pT B Z n 1 o t).1 = 0)) ∧ ∃ nu2 : Int, w = RdW g ad F A E tl wd rv nu2 (pT B Z n 1 o t))
def EithP (l : Launch) (g : GG) (d : Nat) : Prop := ∀ (ad : Nat → Nat) (F : Nat → Int) (A : Nat → Nat → Int) (E : Nat → Nat) (tl : va_W) (B : Nat → Int) (ac : Int) (Z : Int) (wd : Int) (rv : Int) (nu : Int) (t : PT) (o : Int) (n : Nat) (hP : PIn B ac Z) (hT : TapI F A B Z) (ht : okT Z t) (ht0 : t.1 = 0) (hd : (d : Int) + o = 5) (ho : 0 ≤ o) (hn : 4 * (Z - t.2.1) + 3 ≤ (n : Int)) (sz : Nat), MwrZ l g yX5_readsEither cX5_readsEither 3 (10 + 3 * d) 0 0 [.ref (ad 39), .int (iI o)] sz (RdW g ad F A E tl wd rv nu t) (fun v w => v = iI (b2 ((pT B Z n 2 o t).1 = 0)) ∧ ∃ nu2 : Int, w = RdW g ad F A E tl wd rv nu2 (pT B Z n 2 o t))
set_option maxHeartbeats 4000000 in
set_option maxRecDepth 100000 in
theorem c_opp (l : Launch) (g : GG) (d : Nat) (hF : OneP l g d) : OppP l g d := by
  intro ad F A E tl B ac Z wd rv nu t o n hP hT ht ht0 hd ho hn hle sz
  refine wr_startZ (own := RX5) (by decide) rfl (Nat.le_of_ble_eq_true rfl) ?_
  intro Pg Ev s Mi args below Mt Cd ls Q Aw hC hK hS hnm hl hQ
  have hta := ht.1; have htb := ht.2.1; have htc := ht.2.2; have hPa := hP.1; have hPb := hP.2.1
  have hl : lv_has ls 2 [(0, .ref (ad 39)), (1, .int (iI o))] := hl
  obtain ⟨H, hH⟩ : ∃ H, H = s.heap := ⟨_, rfl⟩
  obtain ⟨locs, hlo⟩ : ∃ locs : List Loc, locs = [] := ⟨_, rfl⟩
  have hS : St g Aw s.heap H locs (RdW g ad F A E tl wd rv nu t) := by rw [hH, hlo]; exact hS
  have goal : W Pg l Ev (rmC (9 + 3 * d) 0 0) s Mi args below Mt Cd H locs 0 0 Q (F0 Mi 0 ls []) := ?goal
  · rw [hH, hlo] at goal; exact goal
  clear hH hlo
  refine li_aload_n hC hl 0 rfl dX5_readsOpposite_0 ?_
  refine li_iload_n hC hl 1 rfl dX5_readsOpposite_1 ?_
  refine wr_callVz hC (hF ad F A E tl B ac Z wd rv nu t o n hP hT ht (show t.1 = 0 by omega) (by first | omega | (dsimp only; omega)) (by first | omega | (dsimp only; omega)) (by first | omega | (dsimp only; omega)) _) mk_X5_readsOne ml_X5_91 (rr (by omega)) ⟨by simp only [rmC]; omega, by simp only [rmC]; omega⟩ hK hS (li_recv hK.1 ck_X5 (hS.1 39 _ rfl)) rfl hl.1 rfl (Nat.le_of_ble_eq_true rfl) dX5_readsOpposite_2 (fun v w H locs hp hS => ?_)
  obtain ⟨hv, nu2, hp⟩ := hp
  have hp : w = RdW g ad F A E tl wd rv nu2 (pT B Z n 0 o t) := hp
  obtain ⟨t1, ht1⟩ : ∃ z : PT, z = pT B Z n 0 o t := ⟨_, rfl⟩
  rw [← ht1] at hp hv
  rw [hp] at hS
  rw [hv]
  obtain ⟨okt1, get1⟩ := (pT_ok hP n 0 o t ht)
  rw [← ht1] at okt1 get1
  have t1a := okt1.1; have t1b := okt1.2.1; have t1c := okt1.2.2; have t1d := get1.1; have t1e := get1.2; try dsimp only at t1d t1e
  refine li_ifne_b (tgt := 10) hC (by decide) dX5_readsOpposite_5 (fun c3 => ?_) (fun c3 => ?_)
  · refine li_aload_n hC hl 0 rfl dX5_readsOpposite_10 ?_
    refine li_get hC hK.1 ck_X5 (hS.1 39 _ rfl) 1 (by decide) fl_X5_14 rfl (v := .ref (ad 40)) rfl dX5_readsOpposite_11 ?_
    refine li_iconst hC dX5_readsOpposite_14 ?_
    refine wr_callVv hC (c_X6_add l g (ws := RdW g ad F A E tl wd rv nu2 t1) (i := 40) (j := 41) (a := (ad 40)) (b := (ad 41)) (n := 100) (f := cdA (A 41) t1.2.2) (sz := (t1.2.2.length : Int)) rfl rfl (Nat.le_of_ble_eq_true rfl) (v := 1) ⟨by omega, by omega⟩ (by decide) (ws2 := RdW g ad F A E tl wd rv nu2 (t1.1, t1.2.1, t1.2.2 ++ [(-1)])) (rdw_add (y := (-1)) rfl) _) mk_X6_add ml_X5_72 (rr (by omega)) ⟨by simp only [rmC]; omega, by simp only [rmC]; omega⟩ hK hS (li_recv hK.1 ck_X6 (hS.1 40 _ rfl)) rfl hl.1 rfl (Nat.le_of_ble_eq_true rfl) dX5_readsOpposite_15 (fun w H locs hp hS => ?_)
    rw [hp] at hS
    have hS : St g Aw s.heap H locs (RdW g ad F A E tl wd rv nu2 (t1.1, t1.2.1, t1.2.2 ++ [(-1)])) := hS
    refine li_iconst hC dX5_readsOpposite_18 ?_
    exact hQ _ _ _ _ _ _ _ _ dX5_readsOpposite_19 hS (by omega) (by omega) (by omega) (by rw [← ht1, emit_0 (by omega)]; exact ⟨iI_inj (b2_t (by assumption)).symm, nu2, rfl⟩)
  · refine li_iconst hC dX5_readsOpposite_8 ?_
    exact hQ _ _ _ _ _ _ _ _ dX5_readsOpposite_9 hS (by omega) (by omega) (by omega) (by rw [← ht1, emit_1 (by assumption)]; exact ⟨iI_inj (b2_f (by assumption)).symm, nu2, rfl⟩)
set_option maxHeartbeats 4000000 in
set_option maxRecDepth 100000 in
theorem c_one (l : Launch) (g : GG) (d : Nat) (hF : ∀ k, k < d → OppP l g k) (hG : ∀ k, k < d → EithP l g k) : OneP l g d := by
  intro ad F A E tl B ac Z wd rv nu t o n hP hT ht ht0 hd ho hn sz
  refine wr_startZ (own := RX5) (by decide) rfl (Nat.le_of_ble_eq_true rfl) ?_
  intro Pg Ev s Mi args below Mt Cd ls Q Aw hC hK hS hnm hl hQ
  have hta := ht.1; have htb := ht.2.1; have htc := ht.2.2; have hPa := hP.1; have hPb := hP.2.1
  have hl : lv_has ls 3 [(0, .ref (ad 39)), (1, .int (iI o))] := hl
  obtain ⟨H, hH⟩ : ∃ H, H = s.heap := ⟨_, rfl⟩
  obtain ⟨locs, hlo⟩ : ∃ locs : List Loc, locs = [] := ⟨_, rfl⟩
  have hS : St g Aw s.heap H locs (RdW g ad F A E tl wd rv nu t) := by rw [hH, hlo]; exact hS
  have goal : W Pg l Ev (rmC (8 + 3 * d) 0 0) s Mi args below Mt Cd H locs 0 0 Q (F0 Mi 0 ls []) := ?goal
  · rw [hH, hlo] at goal; exact goal
  clear hH hlo
  refine li_aload_n hC hl 0 rfl dX5_readsOne_0 ?_
  refine ro_callVi hC (c_X5_next l g ad F A E tl B ac Z wd rv nu t hP hT (by first | omega | (dsimp only; omega))) mk_X5_next ml_X5_48 (rr (by omega)) ⟨Nat.zero_le _, Nat.zero_le _⟩ hK.1 (hS.ro hK) hS.1 (li_recv hK.1 ck_X5 (hS.1 39 _ rfl)) rfl hl.1 rfl (Nat.le_of_ble_eq_true rfl) dX5_readsOne_1 ?_
  have q1 := hereT_rng hP (q := t.2.1) (by omega)
  refine li_istore_n hC (lv' := [(2, .int (iI (hereT B Z t.2.1))), (0, .ref (ad 39)), (1, .int (iI o))]) hl (by decide) rfl dX5_readsOne_4 (fun ls hl => ?_)
  refine li_iload_n hC hl 0 rfl dX5_readsOne_5 ?_
  refine li_bipush hC (z := 33) rfl dX5_readsOne_6 ?_
  refine li_icmp_eq (tgt := 22) hC (by decide) (rg (by omega) (by omega)) (rg (by decide) (by decide)) dX5_readsOne_8 (fun c2 => ?_) (fun c2 => ?_)
  · refine li_iload_n hC hl 2 rfl dX5_readsOne_22 ?_
    refine li_iconst hC dX5_readsOne_23 ?_
    refine li_icmp_lt (tgt := 29) hC (by decide) (rg (by omega) (by omega)) (rg (by decide) (by decide)) dX5_readsOne_24 (fun c3 => ?_) (fun c3 => ?_)
    · refine li_aload_n hC hl 1 rfl dX5_readsOne_29 ?_
      refine li_dup hC rfl dX5_readsOne_30 ?_
      refine li_get hC hK.1 ck_X5 (hS.1 39 _ rfl) 2 (by decide) fl_X5_23 rfl (v := .int (iI t.2.1)) rfl dX5_readsOne_31 ?_
      refine li_iconst hC dX5_readsOne_34 ?_
      refine li_iadd hC dX5_readsOne_35 ?_
      refine li_put hC hK hS ck_X5 39 rfl 2 (by decide) fl_X5_23 rfl rfl (v := .int (iI (t.2.1 + 1))) rfl rfl (Nat.le_of_ble_eq_true rfl) (ws' := RdW g ad F A E tl wd rv nu (t.1, t.2.1 + 1, t.2.2)) rfl dX5_readsOne_36 (fun H locs hS => ?_)
      refine li_iload_n hC hl 0 rfl dX5_readsOne_39 ?_
      refine li_bipush hC (z := 40) rfl dX5_readsOne_40 ?_
      refine li_icmp_ne (tgt := 72) hC (by decide) (rg (by omega) (by omega)) (rg (by decide) (by decide)) dX5_readsOne_42 (fun c4 => ?_) (fun c4 => ?_)
      · refine li_aload_n hC hl 1 rfl dX5_readsOne_72 ?_
        refine li_iload_n hC hl 2 rfl dX5_readsOne_73 ?_
        refine li_iconst hC dX5_readsOne_74 ?_
        refine li_iadd hC dX5_readsOne_75 ?_
        refine wr_callVz hC (hF (d - 1) (by omega) ad F A E tl B ac Z wd rv nu (t.1, t.2.1 + 1, t.2.2) (o + 1) (n - 1) hP hT (okT_mk (by omega) (by omega) (by omega) : okT Z (t.1, t.2.1 + 1, t.2.2)) (show t.1 = 0 by omega) (by first | omega | (dsimp only; omega)) (by first | omega | (dsimp only; omega)) (by first | omega | (dsimp only; omega)) (by first | omega | (dsimp only; omega)) _) mk_X5_readsOpposite ml_X5_97 (rr (by omega)) ⟨by simp only [rmC]; omega, by simp only [rmC]; omega⟩ hK hS (li_recv hK.1 ck_X5 (hS.1 39 _ rfl)) rfl hl.1 rfl (Nat.le_of_ble_eq_true rfl) dX5_readsOne_76 (fun v w H locs hp hS => ?_)
        obtain ⟨hv, nu6, hp⟩ := hp
        have hp : w = RdW g ad F A E tl wd rv nu6 (emitT (-1) (pT B Z (n - 1) 0 (o + 1) (t.1, t.2.1 + 1, t.2.2))) := hp
        obtain ⟨t5, ht5⟩ : ∃ z : PT, z = emitT (-1) (pT B Z (n - 1) 0 (o + 1) (t.1, t.2.1 + 1, t.2.2)) := ⟨_, rfl⟩
        rw [← ht5] at hp hv
        rw [hp] at hS
        rw [hv]
        obtain ⟨okt5, get5⟩ := opp_ok hP (n - 1) (o + 1) (t.1, t.2.1 + 1, t.2.2) (okT_mk (by omega) (by omega) (by omega) : okT Z (t.1, t.2.1 + 1, t.2.2)) (by first | omega | (dsimp only; omega))
        rw [← ht5] at okt5 get5
        have t5a := okt5.1; have t5b := okt5.2.1; have t5c := okt5.2.2; have t5d := get5.1; have t5e := get5.2; try dsimp only at t5d t5e
        exact hQ _ _ _ _ _ _ _ _ dX5_readsOne_79 hS (by omega) (by omega) (b2_01 _) (by rw [pT_nn (by omega) ht0 (by omega) (by omega), ← ht5]; exact ⟨rfl, nu6, rfl⟩)
      · refine li_aload_n hC hl 1 rfl dX5_readsOne_45 ?_
        refine li_iload_n hC hl 2 rfl dX5_readsOne_46 ?_
        refine li_iconst hC dX5_readsOne_47 ?_
        refine li_iadd hC dX5_readsOne_48 ?_
        refine wr_callVz hC (hG (d - 1) (by omega) ad F A E tl B ac Z wd rv nu (t.1, t.2.1 + 1, t.2.2) (o + 1) (n - 1) hP hT (okT_mk (by omega) (by omega) (by omega) : okT Z (t.1, t.2.1 + 1, t.2.2)) (show t.1 = 0 by omega) (by first | omega | (dsimp only; omega)) (by first | omega | (dsimp only; omega)) (by first | omega | (dsimp only; omega)) _) mk_X5_readsEither ml_X5_69 (rr (by omega)) ⟨by simp only [rmC]; omega, by simp only [rmC]; omega⟩ hK hS (li_recv hK.1 ck_X5 (hS.1 39 _ rfl)) rfl hl.1 rfl (Nat.le_of_ble_eq_true rfl) dX5_readsOne_49 (fun v w H locs hp hS => ?_)
        obtain ⟨hv, nu8, hp⟩ := hp
        have hp : w = RdW g ad F A E tl wd rv nu8 (pT B Z (n - 1) 2 (o + 1) (t.1, t.2.1 + 1, t.2.2)) := hp
        obtain ⟨t7, ht7⟩ : ∃ z : PT, z = pT B Z (n - 1) 2 (o + 1) (t.1, t.2.1 + 1, t.2.2) := ⟨_, rfl⟩
        rw [← ht7] at hp hv
        rw [hp] at hS
        rw [hv]
        obtain ⟨okt7, get7⟩ := (pT_ok hP (n - 1) 2 (o + 1) (t.1, t.2.1 + 1, t.2.2) (okT_mk (by omega) (by omega) (by omega) : okT Z (t.1, t.2.1 + 1, t.2.2)))
        rw [← ht7] at okt7 get7
        have t7a := okt7.1; have t7b := okt7.2.1; have t7c := okt7.2.2; have t7d := get7.1; have t7e := get7.2; try dsimp only at t7d t7e
        refine li_ifeq_b (tgt := 68) hC (by decide) dX5_readsOne_52 (fun c9 => ?_) (fun c9 => ?_)
        · refine li_iconst hC dX5_readsOne_68 ?_
          refine li_goto (tgt := 79) hC (by decide) dX5_readsOne_69 ?_
          exact hQ _ _ _ _ _ _ _ _ dX5_readsOne_79 hS (by omega) (by omega) (by omega) (by rw [pT_np (by omega) ht0 (by omega) (by omega), ← ht7, must_w (by omega)]; exact ⟨iI_inj (b2_f (by assumption)).symm, nu8, rfl⟩)
        · refine li_aload_n hC hl 1 rfl dX5_readsOne_55 ?_
          refine li_bipush hC (z := 41) rfl dX5_readsOne_56 ?_
          refine wr_callVz hC (c_X5_takes l g ad F A E tl B ac Z wd rv nu8 t7 41 hP hT okt7 (show t7.1 = 0 by omega) (by first | omega | (dsimp only; omega)) _) mk_X5_takes ml_X5_44 (rr (by omega)) ⟨by simp only [rmC]; omega, by simp only [rmC]; omega⟩ hK hS (li_recv hK.1 ck_X5 (hS.1 39 _ rfl)) rfl hl.1 rfl (Nat.le_of_ble_eq_true rfl) dX5_readsOne_58 (fun v w H locs hp hS => ?_)
          obtain ⟨hv, nu11, hp⟩ := hp
          have hp : w = RdW g ad F A E tl wd rv nu11 (mustT B Z 41 t7) := hp
          obtain ⟨t10, ht10⟩ : ∃ z : PT, z = mustT B Z 41 t7 := ⟨_, rfl⟩
          rw [← ht10] at hp hv
          rw [hp] at hS
          rw [hv]
          obtain ⟨okt10, get10⟩ := mustT_ok (c := 41) hP okt7 (by omega)
          rw [← ht10] at okt10 get10
          have t10a := okt10.1; have t10b := okt10.2.1; have t10c := okt10.2.2; have t10d := get10.1; have t10e := get10.2; try dsimp only at t10d t10e
          refine li_ifeq_b (tgt := 68) hC (by decide) dX5_readsOne_61 (fun c12 => ?_) (fun c12 => ?_)
          · refine li_iconst hC dX5_readsOne_68 ?_
            refine li_goto (tgt := 79) hC (by decide) dX5_readsOne_69 ?_
            exact hQ _ _ _ _ _ _ _ _ dX5_readsOne_79 hS (by omega) (by omega) (by omega) (by rw [pT_np (by omega) ht0 (by omega) (by omega), ← ht7, ← ht10]; exact ⟨iI_inj (b2_f (by assumption)).symm, nu11, rfl⟩)
          · refine li_iconst hC dX5_readsOne_64 ?_
            refine li_goto (tgt := 79) hC (by decide) dX5_readsOne_65 ?_
            exact hQ _ _ _ _ _ _ _ _ dX5_readsOne_79 hS (by omega) (by omega) (by omega) (by rw [pT_np (by omega) ht0 (by omega) (by omega), ← ht7, ← ht10]; exact ⟨iI_inj (b2_t (by assumption)).symm, nu11, rfl⟩)
    · refine li_iconst hC dX5_readsOne_27 ?_
      exact hQ _ _ _ _ _ _ _ _ dX5_readsOne_28 hS (by omega) (by omega) (by omega) (by rw [show o = 5 by omega, pT_n5 (by omega) ht0 (by omega)]; exact ⟨iI_inj (b2_f (by show ¬ (1 : Int) = 0; decide)).symm, nu, rfl⟩)
  · refine li_iload_n hC hl 0 rfl dX5_readsOne_11 ?_
    refine li_bipush hC (z := 40) rfl dX5_readsOne_12 ?_
    refine li_icmp_eq (tgt := 22) hC (by decide) (rg (by omega) (by omega)) (rg (by decide) (by decide)) dX5_readsOne_14 (fun c13 => ?_) (fun c13 => ?_)
    · refine li_iload_n hC hl 2 rfl dX5_readsOne_22 ?_
      refine li_iconst hC dX5_readsOne_23 ?_
      refine li_icmp_lt (tgt := 29) hC (by decide) (rg (by omega) (by omega)) (rg (by decide) (by decide)) dX5_readsOne_24 (fun c14 => ?_) (fun c14 => ?_)
      · refine li_aload_n hC hl 1 rfl dX5_readsOne_29 ?_
        refine li_dup hC rfl dX5_readsOne_30 ?_
        refine li_get hC hK.1 ck_X5 (hS.1 39 _ rfl) 2 (by decide) fl_X5_23 rfl (v := .int (iI t.2.1)) rfl dX5_readsOne_31 ?_
        refine li_iconst hC dX5_readsOne_34 ?_
        refine li_iadd hC dX5_readsOne_35 ?_
        refine li_put hC hK hS ck_X5 39 rfl 2 (by decide) fl_X5_23 rfl rfl (v := .int (iI (t.2.1 + 1))) rfl rfl (Nat.le_of_ble_eq_true rfl) (ws' := RdW g ad F A E tl wd rv nu (t.1, t.2.1 + 1, t.2.2)) rfl dX5_readsOne_36 (fun H locs hS => ?_)
        refine li_iload_n hC hl 0 rfl dX5_readsOne_39 ?_
        refine li_bipush hC (z := 40) rfl dX5_readsOne_40 ?_
        refine li_icmp_ne (tgt := 72) hC (by decide) (rg (by omega) (by omega)) (rg (by decide) (by decide)) dX5_readsOne_42 (fun c15 => ?_) (fun c15 => ?_)
        · refine li_aload_n hC hl 1 rfl dX5_readsOne_72 ?_
          refine li_iload_n hC hl 2 rfl dX5_readsOne_73 ?_
          refine li_iconst hC dX5_readsOne_74 ?_
          refine li_iadd hC dX5_readsOne_75 ?_
          refine wr_callVz hC (hF (d - 1) (by omega) ad F A E tl B ac Z wd rv nu (t.1, t.2.1 + 1, t.2.2) (o + 1) (n - 1) hP hT (okT_mk (by omega) (by omega) (by omega) : okT Z (t.1, t.2.1 + 1, t.2.2)) (show t.1 = 0 by omega) (by first | omega | (dsimp only; omega)) (by first | omega | (dsimp only; omega)) (by first | omega | (dsimp only; omega)) (by first | omega | (dsimp only; omega)) _) mk_X5_readsOpposite ml_X5_97 (rr (by omega)) ⟨by simp only [rmC]; omega, by simp only [rmC]; omega⟩ hK hS (li_recv hK.1 ck_X5 (hS.1 39 _ rfl)) rfl hl.1 rfl (Nat.le_of_ble_eq_true rfl) dX5_readsOne_76 (fun v w H locs hp hS => ?_)
          obtain ⟨hv, nu17, hp⟩ := hp
          have hp : w = RdW g ad F A E tl wd rv nu17 (emitT (-1) (pT B Z (n - 1) 0 (o + 1) (t.1, t.2.1 + 1, t.2.2))) := hp
          obtain ⟨t16, ht16⟩ : ∃ z : PT, z = emitT (-1) (pT B Z (n - 1) 0 (o + 1) (t.1, t.2.1 + 1, t.2.2)) := ⟨_, rfl⟩
          rw [← ht16] at hp hv
          rw [hp] at hS
          rw [hv]
          obtain ⟨okt16, get16⟩ := opp_ok hP (n - 1) (o + 1) (t.1, t.2.1 + 1, t.2.2) (okT_mk (by omega) (by omega) (by omega) : okT Z (t.1, t.2.1 + 1, t.2.2)) (by first | omega | (dsimp only; omega))
          rw [← ht16] at okt16 get16
          have t16a := okt16.1; have t16b := okt16.2.1; have t16c := okt16.2.2; have t16d := get16.1; have t16e := get16.2; try dsimp only at t16d t16e
          exact hQ _ _ _ _ _ _ _ _ dX5_readsOne_79 hS (by omega) (by omega) (b2_01 _) (by rw [pT_nn (by omega) ht0 (by omega) (by omega), ← ht16]; exact ⟨rfl, nu17, rfl⟩)
        · refine li_aload_n hC hl 1 rfl dX5_readsOne_45 ?_
          refine li_iload_n hC hl 2 rfl dX5_readsOne_46 ?_
          refine li_iconst hC dX5_readsOne_47 ?_
          refine li_iadd hC dX5_readsOne_48 ?_
          refine wr_callVz hC (hG (d - 1) (by omega) ad F A E tl B ac Z wd rv nu (t.1, t.2.1 + 1, t.2.2) (o + 1) (n - 1) hP hT (okT_mk (by omega) (by omega) (by omega) : okT Z (t.1, t.2.1 + 1, t.2.2)) (show t.1 = 0 by omega) (by first | omega | (dsimp only; omega)) (by first | omega | (dsimp only; omega)) (by first | omega | (dsimp only; omega)) _) mk_X5_readsEither ml_X5_69 (rr (by omega)) ⟨by simp only [rmC]; omega, by simp only [rmC]; omega⟩ hK hS (li_recv hK.1 ck_X5 (hS.1 39 _ rfl)) rfl hl.1 rfl (Nat.le_of_ble_eq_true rfl) dX5_readsOne_49 (fun v w H locs hp hS => ?_)
          obtain ⟨hv, nu19, hp⟩ := hp
          have hp : w = RdW g ad F A E tl wd rv nu19 (pT B Z (n - 1) 2 (o + 1) (t.1, t.2.1 + 1, t.2.2)) := hp
          obtain ⟨t18, ht18⟩ : ∃ z : PT, z = pT B Z (n - 1) 2 (o + 1) (t.1, t.2.1 + 1, t.2.2) := ⟨_, rfl⟩
          rw [← ht18] at hp hv
          rw [hp] at hS
          rw [hv]
          obtain ⟨okt18, get18⟩ := (pT_ok hP (n - 1) 2 (o + 1) (t.1, t.2.1 + 1, t.2.2) (okT_mk (by omega) (by omega) (by omega) : okT Z (t.1, t.2.1 + 1, t.2.2)))
          rw [← ht18] at okt18 get18
          have t18a := okt18.1; have t18b := okt18.2.1; have t18c := okt18.2.2; have t18d := get18.1; have t18e := get18.2; try dsimp only at t18d t18e
          refine li_ifeq_b (tgt := 68) hC (by decide) dX5_readsOne_52 (fun c20 => ?_) (fun c20 => ?_)
          · refine li_iconst hC dX5_readsOne_68 ?_
            refine li_goto (tgt := 79) hC (by decide) dX5_readsOne_69 ?_
            exact hQ _ _ _ _ _ _ _ _ dX5_readsOne_79 hS (by omega) (by omega) (by omega) (by rw [pT_np (by omega) ht0 (by omega) (by omega), ← ht18, must_w (by omega)]; exact ⟨iI_inj (b2_f (by assumption)).symm, nu19, rfl⟩)
          · refine li_aload_n hC hl 1 rfl dX5_readsOne_55 ?_
            refine li_bipush hC (z := 41) rfl dX5_readsOne_56 ?_
            refine wr_callVz hC (c_X5_takes l g ad F A E tl B ac Z wd rv nu19 t18 41 hP hT okt18 (show t18.1 = 0 by omega) (by first | omega | (dsimp only; omega)) _) mk_X5_takes ml_X5_44 (rr (by omega)) ⟨by simp only [rmC]; omega, by simp only [rmC]; omega⟩ hK hS (li_recv hK.1 ck_X5 (hS.1 39 _ rfl)) rfl hl.1 rfl (Nat.le_of_ble_eq_true rfl) dX5_readsOne_58 (fun v w H locs hp hS => ?_)
            obtain ⟨hv, nu22, hp⟩ := hp
            have hp : w = RdW g ad F A E tl wd rv nu22 (mustT B Z 41 t18) := hp
            obtain ⟨t21, ht21⟩ : ∃ z : PT, z = mustT B Z 41 t18 := ⟨_, rfl⟩
            rw [← ht21] at hp hv
            rw [hp] at hS
            rw [hv]
            obtain ⟨okt21, get21⟩ := mustT_ok (c := 41) hP okt18 (by omega)
            rw [← ht21] at okt21 get21
            have t21a := okt21.1; have t21b := okt21.2.1; have t21c := okt21.2.2; have t21d := get21.1; have t21e := get21.2; try dsimp only at t21d t21e
            refine li_ifeq_b (tgt := 68) hC (by decide) dX5_readsOne_61 (fun c23 => ?_) (fun c23 => ?_)
            · refine li_iconst hC dX5_readsOne_68 ?_
              refine li_goto (tgt := 79) hC (by decide) dX5_readsOne_69 ?_
              exact hQ _ _ _ _ _ _ _ _ dX5_readsOne_79 hS (by omega) (by omega) (by omega) (by rw [pT_np (by omega) ht0 (by omega) (by omega), ← ht18, ← ht21]; exact ⟨iI_inj (b2_f (by assumption)).symm, nu22, rfl⟩)
            · refine li_iconst hC dX5_readsOne_64 ?_
              refine li_goto (tgt := 79) hC (by decide) dX5_readsOne_65 ?_
              exact hQ _ _ _ _ _ _ _ _ dX5_readsOne_79 hS (by omega) (by omega) (by omega) (by rw [pT_np (by omega) ht0 (by omega) (by omega), ← ht18, ← ht21]; exact ⟨iI_inj (b2_t (by assumption)).symm, nu22, rfl⟩)
      · refine li_iconst hC dX5_readsOne_27 ?_
        exact hQ _ _ _ _ _ _ _ _ dX5_readsOne_28 hS (by omega) (by omega) (by omega) (by rw [show o = 5 by omega, pT_n5 (by omega) ht0 (by omega)]; exact ⟨iI_inj (b2_f (by show ¬ (1 : Int) = 0; decide)).symm, nu, rfl⟩)
    · refine li_aload_n hC hl 1 rfl dX5_readsOne_17 ?_
      refine wr_callVz hC (c_X5_readsTest l g ad F A E tl B ac Z wd rv nu t hP hT ht (show t.1 = 0 by omega) _) mk_X5_readsTest ml_X5_94 (rr (by omega)) ⟨by simp only [rmC]; omega, by simp only [rmC]; omega⟩ hK hS (li_recv hK.1 ck_X5 (hS.1 39 _ rfl)) rfl hl.1 rfl (Nat.le_of_ble_eq_true rfl) dX5_readsOne_18 (fun v w H locs hp hS => ?_)
      obtain ⟨hv, nu25, hp⟩ := hp
      have hp : w = RdW g ad F A E tl wd rv nu25 (testT B Z t) := hp
      obtain ⟨t24, ht24⟩ : ∃ z : PT, z = testT B Z t := ⟨_, rfl⟩
      rw [← ht24] at hp hv
      rw [hp] at hS
      rw [hv]
      obtain ⟨okt24, get24⟩ := testT_ok hP ht
      rw [← ht24] at okt24 get24
      have t24a := okt24.1; have t24b := okt24.2.1; have t24c := okt24.2.2; have t24d := get24.1; have t24e := get24.2; try dsimp only at t24d t24e
      exact hQ _ _ _ _ _ _ _ _ dX5_readsOne_21 hS (by omega) (by omega) (b2_01 _) (by rw [pT_n0 (by omega) ht0 (by omega) (by omega), ← ht24]; exact ⟨rfl, nu25, rfl⟩)
set_option maxHeartbeats 4000000 in
set_option maxRecDepth 100000 in
theorem c_both (l : Launch) (g : GG) (d : Nat) (hF : OneP l g d) : BothP l g d := by
  intro ad F A E tl B ac Z wd rv nu t o n hP hT ht ht0 hd ho hn sz
  refine wr_startZ (own := RX5) (by decide) rfl (Nat.le_of_ble_eq_true rfl) ?_
  intro Pg Ev s Mi args below Mt Cd ls Q Aw hC hK hS hnm hl hQ
  have hta := ht.1; have htb := ht.2.1; have htc := ht.2.2; have hPa := hP.1; have hPb := hP.2.1
  have hl : lv_has ls 3 [(0, .ref (ad 39)), (1, .int (iI o))] := hl
  obtain ⟨H, hH⟩ : ∃ H, H = s.heap := ⟨_, rfl⟩
  obtain ⟨locs, hlo⟩ : ∃ locs : List Loc, locs = [] := ⟨_, rfl⟩
  have hS : St g Aw s.heap H locs (RdW g ad F A E tl wd rv nu t) := by rw [hH, hlo]; exact hS
  have goal : W Pg l Ev (rmC (9 + 3 * d) 0 0) s Mi args below Mt Cd H locs 0 0 Q (F0 Mi 0 ls []) := ?goal
  · rw [hH, hlo] at goal; exact goal
  clear hH hlo
  refine li_aload_n hC hl 0 rfl dX5_readsBoth_0 ?_
  refine li_iload_n hC hl 1 rfl dX5_readsBoth_1 ?_
  refine wr_callVz hC (hF ad F A E tl B ac Z wd rv nu t o (n - 1) hP hT ht (show t.1 = 0 by omega) (by first | omega | (dsimp only; omega)) (by first | omega | (dsimp only; omega)) (by first | omega | (dsimp only; omega)) _) mk_X5_readsOne ml_X5_91 (rr (by omega)) ⟨by simp only [rmC]; omega, by simp only [rmC]; omega⟩ hK hS (li_recv hK.1 ck_X5 (hS.1 39 _ rfl)) rfl hl.1 rfl (Nat.le_of_ble_eq_true rfl) dX5_readsBoth_2 (fun v w H locs hp hS => ?_)
  obtain ⟨hv, nu2, hp⟩ := hp
  have hp : w = RdW g ad F A E tl wd rv nu2 (pT B Z (n - 1) 0 o t) := hp
  obtain ⟨t1, ht1⟩ : ∃ z : PT, z = pT B Z (n - 1) 0 o t := ⟨_, rfl⟩
  rw [← ht1] at hp hv
  rw [hp] at hS
  rw [hv]
  obtain ⟨okt1, get1⟩ := (pT_ok hP (n - 1) 0 o t ht)
  rw [← ht1] at okt1 get1
  have t1a := okt1.1; have t1b := okt1.2.1; have t1c := okt1.2.2; have t1d := get1.1; have t1e := get1.2; try dsimp only at t1d t1e
  refine li_ifne_b (tgt := 10) hC (by decide) dX5_readsBoth_5 (fun c3 => ?_) (fun c3 => ?_)
  · refine li_iconst hC dX5_readsBoth_10 ?_
    refine li_istore_n hC (lv' := [(2, .int (iI 0)), (0, .ref (ad 39)), (1, .int (iI o))]) hl (by decide) rfl dX5_readsBoth_11 (fun ls hl => ?_)
    have L12_4 : ∀ (fuel : Nat) (k : Int) (u : PT) (m : Nat) (nv : Int) (ls : Array Slot) (H : Heap) (locs : List Loc), St g Aw s.heap H locs (RdW g ad F A E tl wd rv nv u) → lv_has ls 3 [(0, .ref (ad 39)), (1, .int (iI o)), (2, .int (iI k))] → (0 ≤ k ∧ k ≤ 100 ∧ k ≤ u.2.1) → (okT Z u) → (u.1 = 0) → (4 * (Z - u.2.1) + 1 ≤ (m : Int)) → (pT B Z (n - 1) 3 o t1 = pT B Z m 3 o u) → ((Z - u.2.1).toNat) < fuel → W Pg l Ev (rmC (9 + 3 * d) 0 0) s Mi args below Mt Cd H locs 0 0 Q (F0 Mi 12 ls []) := by
      intro fuel
      induction fuel with
      | zero => intro k u m nv ls H locs hS hl hk hu hu0 hu2 hu3 hm; exact absurd hm (Nat.not_lt_zero _)
      | succ fuel ih12 =>
        intro k u m nv ls H locs hS hl hk hu hu0 hu2 hu3 hm
        have hua := hu.1; have hub := hu.2.1; have huc := hu.2.2
        refine li_iload_n hC hl 2 rfl dX5_readsBoth_12 ?_
        refine li_bipush hC (z := 100) rfl dX5_readsBoth_13 ?_
        refine li_icmp_ge (tgt := 51) hC (by decide) (rg (by omega) (by omega)) (rg (by decide) (by decide)) dX5_readsBoth_15 (fun c5 => ?_) (fun c5 => ?_)
        · refine li_iconst hC dX5_readsBoth_51 ?_
          exact hQ _ _ _ _ _ _ _ _ dX5_readsBoth_52 hS (by omega) (by omega) (by omega) (by rw [pT_s1 (by omega), ← ht1, hu3, pT_e3 (Or.inr (by unfold hereT; rw [if_neg (by omega)]; decide))]; exact ⟨iI_inj (b2_t hu0).symm, nv, rfl⟩)
        · refine li_aload_n hC hl 0 rfl dX5_readsBoth_18 ?_
          refine li_bipush hC (z := 38) rfl dX5_readsBoth_19 ?_
          refine wr_callVz hC (c_X5_takes l g ad F A E tl B ac Z wd rv nv u 38 hP hT hu (show u.1 = 0 by omega) (by first | omega | (dsimp only; omega)) _) mk_X5_takes ml_X5_44 (rr (by omega)) ⟨by simp only [rmC]; omega, by simp only [rmC]; omega⟩ hK hS (li_recv hK.1 ck_X5 (hS.1 39 _ rfl)) rfl hl.1 rfl (Nat.le_of_ble_eq_true rfl) dX5_readsBoth_21 (fun v w H locs hp hS => ?_)
          obtain ⟨hv, nu7, hp⟩ := hp
          have hp : w = RdW g ad F A E tl wd rv nu7 (mustT B Z 38 u) := hp
          obtain ⟨t6, ht6⟩ : ∃ z : PT, z = mustT B Z 38 u := ⟨_, rfl⟩
          rw [← ht6] at hp hv
          rw [hp] at hS
          rw [hv]
          obtain ⟨okt6, get6⟩ := mustT_ok (c := 38) hP hu (by omega)
          rw [← ht6] at okt6 get6
          have t6a := okt6.1; have t6b := okt6.2.1; have t6c := okt6.2.2; have t6d := get6.1; have t6e := get6.2; try dsimp only at t6d t6e
          refine li_ifeq_b (tgt := 51) hC (by decide) dX5_readsBoth_24 (fun c8 => ?_) (fun c8 => ?_)
          · refine li_iconst hC dX5_readsBoth_51 ?_
            exact hQ _ _ _ _ _ _ _ _ dX5_readsBoth_52 hS (by omega) (by omega) (by omega) (by obtain ⟨he9, hf9⟩ := must_ne ht6 hu0 (by assumption); rw [pT_s1 (by omega), ← ht1, hu3, pT_e3 (Or.inr he9), hf9]; exact ⟨iI_inj (b2_t hu0).symm, nu7, rfl⟩)
          · obtain ⟨het6, hft6⟩ := must_eq ht6 hu0 (by assumption)
            have e7t6 := congrArg (fun z : PT => z.2.1) hft6; have e8t6 := congrArg (fun z : PT => z.2.2.length) hft6; dsimp only at e7t6 e8t6
            refine li_aload_n hC hl 0 rfl dX5_readsBoth_27 ?_
            refine li_iload_n hC hl 1 rfl dX5_readsBoth_28 ?_
            refine wr_callVz hC (hF ad F A E tl B ac Z wd rv nu7 t6 o (m - 1) hP hT okt6 (show t6.1 = 0 by omega) (by first | omega | (dsimp only; omega)) (by first | omega | (dsimp only; omega)) (by first | omega | (dsimp only; omega)) _) mk_X5_readsOne ml_X5_91 (rr (by omega)) ⟨by simp only [rmC]; omega, by simp only [rmC]; omega⟩ hK hS (li_recv hK.1 ck_X5 (hS.1 39 _ rfl)) rfl hl.1 rfl (Nat.le_of_ble_eq_true rfl) dX5_readsBoth_29 (fun v w H locs hp hS => ?_)
            obtain ⟨hv, nu10, hp⟩ := hp
            have hp : w = RdW g ad F A E tl wd rv nu10 (pT B Z (m - 1) 0 o t6) := hp
            obtain ⟨t9, ht9⟩ : ∃ z : PT, z = pT B Z (m - 1) 0 o t6 := ⟨_, rfl⟩
            rw [← ht9] at hp hv
            rw [hp] at hS
            rw [hv]
            obtain ⟨okt9, get9⟩ := (pT_ok hP (m - 1) 0 o t6 okt6)
            rw [← ht9] at okt9 get9
            have t9a := okt9.1; have t9b := okt9.2.1; have t9c := okt9.2.2; have t9d := get9.1; have t9e := get9.2; try dsimp only at t9d t9e
            refine li_ifne_b (tgt := 37) hC (by decide) dX5_readsBoth_32 (fun c11 => ?_) (fun c11 => ?_)
            · refine li_aload_n hC hl 0 rfl dX5_readsBoth_37 ?_
              refine li_get hC hK.1 ck_X5 (hS.1 39 _ rfl) 1 (by decide) fl_X5_14 rfl (v := .ref (ad 40)) rfl dX5_readsBoth_38 ?_
              refine li_iconst hC dX5_readsBoth_41 ?_
              refine wr_callVv hC (c_X6_add l g (ws := RdW g ad F A E tl wd rv nu10 t9) (i := 40) (j := 41) (a := (ad 40)) (b := (ad 41)) (n := 100) (f := cdA (A 41) t9.2.2) (sz := (t9.2.2.length : Int)) rfl rfl (Nat.le_of_ble_eq_true rfl) (v := 2) ⟨by omega, by omega⟩ (by decide) (ws2 := RdW g ad F A E tl wd rv nu10 (t9.1, t9.2.1, t9.2.2 ++ [(-2)])) (rdw_add (y := (-2)) rfl) _) mk_X6_add ml_X5_72 (rr (by omega)) ⟨by simp only [rmC]; omega, by simp only [rmC]; omega⟩ hK hS (li_recv hK.1 ck_X6 (hS.1 40 _ rfl)) rfl hl.1 rfl (Nat.le_of_ble_eq_true rfl) dX5_readsBoth_42 (fun w H locs hp hS => ?_)
              rw [hp] at hS
              have hS : St g Aw s.heap H locs (RdW g ad F A E tl wd rv nu10 (t9.1, t9.2.1, t9.2.2 ++ [(-2)])) := hS
              refine li_iinc hC (lv' := [(2, .int (iI (k + 1))), (0, .ref (ad 39)), (1, .int (iI o))]) hl 2 rfl (by decide) rfl dX5_readsBoth_45 (fun ls hl => ?_)
              refine li_goto (tgt := 12) hC (by decide) dX5_readsBoth_48 ?_
              exact ih12 (k + 1) (t9.1, t9.2.1, t9.2.2 ++ [(-2)]) (m - 1) nu10 _ _ _ hS (lv_sub hl [1, 2, 0] rfl) (by (try dsimp only); have e7 := congrArg (fun z : PT => z.2.1) hft6; dsimp only at e7; omega) (by have e9 := (emitT_ok (x := -2) okt9 (by omega)).1; rw [emit_0 (by omega)] at e9; exact e9) (by show t9.1 = 0; omega) (by (try dsimp only); have e7 := congrArg (fun z : PT => z.2.1) hft6; dsimp only at e7; omega) (by rw [hu3, pT_s3 (by omega) hu0 het6, ← hft6, ← ht9, emit_0 (by omega)]) (by (try dsimp only); omega)
            · refine li_iconst hC dX5_readsBoth_35 ?_
              exact hQ _ _ _ _ _ _ _ _ dX5_readsBoth_36 hS (by omega) (by omega) (by omega) (by rw [pT_s1 (by omega), ← ht1, hu3, pT_s3 (by omega) hu0 het6, ← hft6, ← ht9, emit_1 (by assumption), pT_e3 (Or.inl (by assumption))]; exact ⟨iI_inj (b2_f (by assumption)).symm, nu10, rfl⟩)
    exact L12_4 (((Z - t1.2.1).toNat) + 1) 0 t1 (n - 1) nu2 _ _ _ hS (lv_sub hl [1, 2, 0] rfl) (by omega) (by exact okt1) (by omega) (by omega) (by rfl) (by omega)
  · refine li_iconst hC dX5_readsBoth_8 ?_
    exact hQ _ _ _ _ _ _ _ _ dX5_readsBoth_9 hS (by omega) (by omega) (by omega) (by rw [pT_s1 (by omega), ← ht1, pT_e3 (Or.inl (by assumption))]; exact ⟨iI_inj (b2_f (by assumption)).symm, nu2, rfl⟩)
set_option maxHeartbeats 4000000 in
set_option maxRecDepth 100000 in
theorem c_eith (l : Launch) (g : GG) (d : Nat) (hF : BothP l g d) : EithP l g d := by
  intro ad F A E tl B ac Z wd rv nu t o n hP hT ht ht0 hd ho hn sz
  refine wr_startZ (own := RX5) (by decide) rfl (Nat.le_of_ble_eq_true rfl) ?_
  intro Pg Ev s Mi args below Mt Cd ls Q Aw hC hK hS hnm hl hQ
  have hta := ht.1; have htb := ht.2.1; have htc := ht.2.2; have hPa := hP.1; have hPb := hP.2.1
  have hl : lv_has ls 3 [(0, .ref (ad 39)), (1, .int (iI o))] := hl
  obtain ⟨H, hH⟩ : ∃ H, H = s.heap := ⟨_, rfl⟩
  obtain ⟨locs, hlo⟩ : ∃ locs : List Loc, locs = [] := ⟨_, rfl⟩
  have hS : St g Aw s.heap H locs (RdW g ad F A E tl wd rv nu t) := by rw [hH, hlo]; exact hS
  have goal : W Pg l Ev (rmC (10 + 3 * d) 0 0) s Mi args below Mt Cd H locs 0 0 Q (F0 Mi 0 ls []) := ?goal
  · rw [hH, hlo] at goal; exact goal
  clear hH hlo
  refine li_aload_n hC hl 0 rfl dX5_readsEither_0 ?_
  refine li_iload_n hC hl 1 rfl dX5_readsEither_1 ?_
  refine wr_callVz hC (hF ad F A E tl B ac Z wd rv nu t o (n - 1) hP hT ht (show t.1 = 0 by omega) (by first | omega | (dsimp only; omega)) (by first | omega | (dsimp only; omega)) (by first | omega | (dsimp only; omega)) _) mk_X5_readsBoth ml_X5_88 (rr (by omega)) ⟨by simp only [rmC]; omega, by simp only [rmC]; omega⟩ hK hS (li_recv hK.1 ck_X5 (hS.1 39 _ rfl)) rfl hl.1 rfl (Nat.le_of_ble_eq_true rfl) dX5_readsEither_2 (fun v w H locs hp hS => ?_)
  obtain ⟨hv, nu2, hp⟩ := hp
  have hp : w = RdW g ad F A E tl wd rv nu2 (pT B Z (n - 1) 1 o t) := hp
  obtain ⟨t1, ht1⟩ : ∃ z : PT, z = pT B Z (n - 1) 1 o t := ⟨_, rfl⟩
  rw [← ht1] at hp hv
  rw [hp] at hS
  rw [hv]
  obtain ⟨okt1, get1⟩ := (pT_ok hP (n - 1) 1 o t ht)
  rw [← ht1] at okt1 get1
  have t1a := okt1.1; have t1b := okt1.2.1; have t1c := okt1.2.2; have t1d := get1.1; have t1e := get1.2; try dsimp only at t1d t1e
  refine li_ifne_b (tgt := 10) hC (by decide) dX5_readsEither_5 (fun c3 => ?_) (fun c3 => ?_)
  · refine li_iconst hC dX5_readsEither_10 ?_
    refine li_istore_n hC (lv' := [(2, .int (iI 0)), (0, .ref (ad 39)), (1, .int (iI o))]) hl (by decide) rfl dX5_readsEither_11 (fun ls hl => ?_)
    have L12_4 : ∀ (fuel : Nat) (k : Int) (u : PT) (m : Nat) (nv : Int) (ls : Array Slot) (H : Heap) (locs : List Loc), St g Aw s.heap H locs (RdW g ad F A E tl wd rv nv u) → lv_has ls 3 [(0, .ref (ad 39)), (1, .int (iI o)), (2, .int (iI k))] → (0 ≤ k ∧ k ≤ 100 ∧ k ≤ u.2.1) → (okT Z u) → (u.1 = 0) → (4 * (Z - u.2.1) + 1 ≤ (m : Int)) → (pT B Z (n - 1) 4 o t1 = pT B Z m 4 o u) → ((Z - u.2.1).toNat) < fuel → W Pg l Ev (rmC (10 + 3 * d) 0 0) s Mi args below Mt Cd H locs 0 0 Q (F0 Mi 12 ls []) := by
      intro fuel
      induction fuel with
      | zero => intro k u m nv ls H locs hS hl hk hu hu0 hu2 hu3 hm; exact absurd hm (Nat.not_lt_zero _)
      | succ fuel ih12 =>
        intro k u m nv ls H locs hS hl hk hu hu0 hu2 hu3 hm
        have hua := hu.1; have hub := hu.2.1; have huc := hu.2.2
        refine li_iload_n hC hl 2 rfl dX5_readsEither_12 ?_
        refine li_bipush hC (z := 100) rfl dX5_readsEither_13 ?_
        refine li_icmp_ge (tgt := 51) hC (by decide) (rg (by omega) (by omega)) (rg (by decide) (by decide)) dX5_readsEither_15 (fun c5 => ?_) (fun c5 => ?_)
        · refine li_iconst hC dX5_readsEither_51 ?_
          exact hQ _ _ _ _ _ _ _ _ dX5_readsEither_52 hS (by omega) (by omega) (by omega) (by rw [pT_s2 (by omega), ← ht1, hu3, pT_e4 (Or.inr (by unfold hereT; rw [if_neg (by omega)]; decide))]; exact ⟨iI_inj (b2_t hu0).symm, nv, rfl⟩)
        · refine li_aload_n hC hl 0 rfl dX5_readsEither_18 ?_
          refine li_bipush hC (z := 124) rfl dX5_readsEither_19 ?_
          refine wr_callVz hC (c_X5_takes l g ad F A E tl B ac Z wd rv nv u 124 hP hT hu (show u.1 = 0 by omega) (by first | omega | (dsimp only; omega)) _) mk_X5_takes ml_X5_44 (rr (by omega)) ⟨by simp only [rmC]; omega, by simp only [rmC]; omega⟩ hK hS (li_recv hK.1 ck_X5 (hS.1 39 _ rfl)) rfl hl.1 rfl (Nat.le_of_ble_eq_true rfl) dX5_readsEither_21 (fun v w H locs hp hS => ?_)
          obtain ⟨hv, nu7, hp⟩ := hp
          have hp : w = RdW g ad F A E tl wd rv nu7 (mustT B Z 124 u) := hp
          obtain ⟨t6, ht6⟩ : ∃ z : PT, z = mustT B Z 124 u := ⟨_, rfl⟩
          rw [← ht6] at hp hv
          rw [hp] at hS
          rw [hv]
          obtain ⟨okt6, get6⟩ := mustT_ok (c := 124) hP hu (by omega)
          rw [← ht6] at okt6 get6
          have t6a := okt6.1; have t6b := okt6.2.1; have t6c := okt6.2.2; have t6d := get6.1; have t6e := get6.2; try dsimp only at t6d t6e
          refine li_ifeq_b (tgt := 51) hC (by decide) dX5_readsEither_24 (fun c8 => ?_) (fun c8 => ?_)
          · refine li_iconst hC dX5_readsEither_51 ?_
            exact hQ _ _ _ _ _ _ _ _ dX5_readsEither_52 hS (by omega) (by omega) (by omega) (by obtain ⟨he9, hf9⟩ := must_ne ht6 hu0 (by assumption); rw [pT_s2 (by omega), ← ht1, hu3, pT_e4 (Or.inr he9), hf9]; exact ⟨iI_inj (b2_t hu0).symm, nu7, rfl⟩)
          · obtain ⟨het6, hft6⟩ := must_eq ht6 hu0 (by assumption)
            have e7t6 := congrArg (fun z : PT => z.2.1) hft6; have e8t6 := congrArg (fun z : PT => z.2.2.length) hft6; dsimp only at e7t6 e8t6
            refine li_aload_n hC hl 0 rfl dX5_readsEither_27 ?_
            refine li_iload_n hC hl 1 rfl dX5_readsEither_28 ?_
            refine wr_callVz hC (hF ad F A E tl B ac Z wd rv nu7 t6 o (m - 1) hP hT okt6 (show t6.1 = 0 by omega) (by first | omega | (dsimp only; omega)) (by first | omega | (dsimp only; omega)) (by first | omega | (dsimp only; omega)) _) mk_X5_readsBoth ml_X5_88 (rr (by omega)) ⟨by simp only [rmC]; omega, by simp only [rmC]; omega⟩ hK hS (li_recv hK.1 ck_X5 (hS.1 39 _ rfl)) rfl hl.1 rfl (Nat.le_of_ble_eq_true rfl) dX5_readsEither_29 (fun v w H locs hp hS => ?_)
            obtain ⟨hv, nu10, hp⟩ := hp
            have hp : w = RdW g ad F A E tl wd rv nu10 (pT B Z (m - 1) 1 o t6) := hp
            obtain ⟨t9, ht9⟩ : ∃ z : PT, z = pT B Z (m - 1) 1 o t6 := ⟨_, rfl⟩
            rw [← ht9] at hp hv
            rw [hp] at hS
            rw [hv]
            obtain ⟨okt9, get9⟩ := (pT_ok hP (m - 1) 1 o t6 okt6)
            rw [← ht9] at okt9 get9
            have t9a := okt9.1; have t9b := okt9.2.1; have t9c := okt9.2.2; have t9d := get9.1; have t9e := get9.2; try dsimp only at t9d t9e
            refine li_ifne_b (tgt := 37) hC (by decide) dX5_readsEither_32 (fun c11 => ?_) (fun c11 => ?_)
            · refine li_aload_n hC hl 0 rfl dX5_readsEither_37 ?_
              refine li_get hC hK.1 ck_X5 (hS.1 39 _ rfl) 1 (by decide) fl_X5_14 rfl (v := .ref (ad 40)) rfl dX5_readsEither_38 ?_
              refine li_iconst hC dX5_readsEither_41 ?_
              refine wr_callVv hC (c_X6_add l g (ws := RdW g ad F A E tl wd rv nu10 t9) (i := 40) (j := 41) (a := (ad 40)) (b := (ad 41)) (n := 100) (f := cdA (A 41) t9.2.2) (sz := (t9.2.2.length : Int)) rfl rfl (Nat.le_of_ble_eq_true rfl) (v := 3) ⟨by omega, by omega⟩ (by decide) (ws2 := RdW g ad F A E tl wd rv nu10 (t9.1, t9.2.1, t9.2.2 ++ [(-3)])) (rdw_add (y := (-3)) rfl) _) mk_X6_add ml_X5_72 (rr (by omega)) ⟨by simp only [rmC]; omega, by simp only [rmC]; omega⟩ hK hS (li_recv hK.1 ck_X6 (hS.1 40 _ rfl)) rfl hl.1 rfl (Nat.le_of_ble_eq_true rfl) dX5_readsEither_42 (fun w H locs hp hS => ?_)
              rw [hp] at hS
              have hS : St g Aw s.heap H locs (RdW g ad F A E tl wd rv nu10 (t9.1, t9.2.1, t9.2.2 ++ [(-3)])) := hS
              refine li_iinc hC (lv' := [(2, .int (iI (k + 1))), (0, .ref (ad 39)), (1, .int (iI o))]) hl 2 rfl (by decide) rfl dX5_readsEither_45 (fun ls hl => ?_)
              refine li_goto (tgt := 12) hC (by decide) dX5_readsEither_48 ?_
              exact ih12 (k + 1) (t9.1, t9.2.1, t9.2.2 ++ [(-3)]) (m - 1) nu10 _ _ _ hS (lv_sub hl [1, 2, 0] rfl) (by (try dsimp only); have e7 := congrArg (fun z : PT => z.2.1) hft6; dsimp only at e7; omega) (by have e9 := (emitT_ok (x := -3) okt9 (by omega)).1; rw [emit_0 (by omega)] at e9; exact e9) (by show t9.1 = 0; omega) (by (try dsimp only); have e7 := congrArg (fun z : PT => z.2.1) hft6; dsimp only at e7; omega) (by rw [hu3, pT_s4 (by omega) hu0 het6, ← hft6, ← ht9, emit_0 (by omega)]) (by (try dsimp only); omega)
            · refine li_iconst hC dX5_readsEither_35 ?_
              exact hQ _ _ _ _ _ _ _ _ dX5_readsEither_36 hS (by omega) (by omega) (by omega) (by rw [pT_s2 (by omega), ← ht1, hu3, pT_s4 (by omega) hu0 het6, ← hft6, ← ht9, emit_1 (by assumption), pT_e4 (Or.inl (by assumption))]; exact ⟨iI_inj (b2_f (by assumption)).symm, nu10, rfl⟩)
    exact L12_4 (((Z - t1.2.1).toNat) + 1) 0 t1 (n - 1) nu2 _ _ _ hS (lv_sub hl [1, 2, 0] rfl) (by omega) (by exact okt1) (by omega) (by omega) (by rfl) (by omega)
  · refine li_iconst hC dX5_readsEither_8 ?_
    exact hQ _ _ _ _ _ _ _ _ dX5_readsEither_9 hS (by omega) (by omega) (by omega) (by rw [pT_s2 (by omega), ← ht1, pT_e4 (Or.inl (by assumption))]; exact ⟨iI_inj (b2_f (by assumption)).symm, nu2, rfl⟩)
theorem c_obe (l : Launch) (g : GG) : ∀ d : Nat, (OneP l g d ∧ OppP l g d) ∧ BothP l g d ∧ EithP l g d := by
  intro d
  induction d using Nat.strongRecOn with
  | _ d ih =>
  have hF := c_one l g d (fun k hk => (ih k hk).1.2) (fun k hk => (ih k hk).2.2)
  have hE := c_both l g d hF
  exact ⟨⟨hF, c_opp l g d hF⟩, hE, c_eith l g d hE⟩
