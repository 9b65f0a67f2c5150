theorem pT_t {S : Nat → Int} {E o : Int} {n m : Nat} {t u : PT} (h : u = pT S E n m o t) (h1 : t.1 = 1) : u = t := by rw [h, pT_w n m o t (by omega)]
theorem figT_w {S : Nat → Int} {E q : Int} {L : List Int} : figT S E (1, q, L) = (1, q, L) := iteP_f (fun h => absurd (show (1 : Int) = 0 from h.1) (by decide))
theorem emitT_w {x q : Int} {L : List Int} : emitT x (1, q, L) = (1, q, L) := if_pos (by show (1 : Int) ≠ 0; decide)
def FacP (l : Launch) (g : GG) (d : Nat) : Prop := ∀ (h0 : Nat) (ad : Nat → Nat) (F : Nat → Int) (A : Nat → Nat → Int) (S0 : Nat → Int) (ac : Int) (E : Int) (o : Int) (t : PT) (n : Nat) (hP : PIn S0 ac E) (ht : okT E t) (hd : (d : Int) + o = 6) (ho : 0 ≤ o) (hw6 : o = 6 → t.1 = 1) (hn : t.1 = 0 → 4 * (E - t.2.1) + 1 ≤ (n : Int)) (sz : Nat), MwrV l g yX12_factor cX12_factor 5 (7 + 3 * d) 0 0 [.ref h0] sz (RW g h0 ad (va_up (va_up (va_up (va_up (va_up F 4 ac) 5 t.2.1) 6 E) 7 t.1) 8 o) (va_up A 1 (emS S0 ac t.2.2))) (fun w => w = RW g h0 ad (va_up (va_up (va_up (va_up (va_up F 4 ac) 5 ((pT S0 E n 0 o t).2.1)) 6 E) 7 ((pT S0 E n 0 o t).1)) 8 o) (va_up A 1 (emS S0 ac (pT S0 E n 0 o t).2.2)))
def EveP (l : Launch) (g : GG) (d : Nat) : Prop := ∀ (h0 : Nat) (ad : Nat → Nat) (F : Nat → Int) (A : Nat → Nat → Int) (S0 : Nat → Int) (ac : Int) (E : Int) (o : Int) (t : PT) (n : Nat) (hP : PIn S0 ac E) (ht : okT E t) (hd : (d : Int) + o = 6) (ho : 0 ≤ o) (hw6 : o = 6 → t.1 = 1) (hn : t.1 = 0 → 4 * (E - t.2.1) + 2 ≤ (n : Int)) (sz : Nat), MwrV l g yX12_every cX12_every 1 (8 + 3 * d) 0 0 [.ref h0] sz (RW g h0 ad (va_up (va_up (va_up (va_up (va_up F 4 ac) 5 t.2.1) 6 E) 7 t.1) 8 o) (va_up A 1 (emS S0 ac t.2.2))) (fun w => w = RW g h0 ad (va_up (va_up (va_up (va_up (va_up F 4 ac) 5 ((pT S0 E n 1 o t).2.1)) 6 E) 7 ((pT S0 E n 1 o t).1)) 8 o) (va_up A 1 (emS S0 ac (pT S0 E n 1 o t).2.2)))
def SomP (l : Launch) (g : GG) (d : Nat) : Prop := ∀ (h0 : Nat) (ad : Nat → Nat) (F : Nat → Int) (A : Nat → Nat → Int) (S0 : Nat → Int) (ac : Int) (E : Int) (o : Int) (t : PT) (n : Nat) (hP : PIn S0 ac E) (ht : okT E t) (hd : (d : Int) + o = 6) (ho : 0 ≤ o) (hw6 : o = 6 → t.1 = 1) (hn : t.1 = 0 → 4 * (E - t.2.1) + 3 ≤ (n : Int)) (sz : Nat), MwrV l g yX12_some cX12_some 1 (9 + 3 * d) 0 0 [.ref h0] sz (RW g h0 ad (va_up (va_up (va_up (va_up (va_up F 4 ac) 5 t.2.1) 6 E) 7 t.1) 8 o) (va_up A 1 (emS S0 ac t.2.2))) (fun w => w = RW g h0 ad (va_up (va_up (va_up (va_up (va_up F 4 ac) 5 ((pT S0 E n 2 o t).2.1)) 6 E) 7 ((pT S0 E n 2 o t).1)) 8 o) (va_up A 1 (emS S0 ac (pT S0 E n 2 o t).2.2)))
set_option maxHeartbeats 4000000 in
set_option maxRecDepth 100000 in
theorem c_fac (l : Launch) (g : GG) (d : Nat) (hF : ∀ k, k < d → FacP l g k) (hG : ∀ k, k < d → SomP l g k) : FacP l g d := by
  intro h0 ad F A S0 ac E o t n hP ht hd ho hw6 hn sz
  refine wr_startV (own := RX12) (by decide) rfl (Nat.le_of_ble_eq_true rfl) ?_
  intro Pg Ev s Mi args below Mt Cd ls Q Aw hC hK hS hnm hl hQ
  have hta := ht.1; have htb := ht.2.1; have htc := ht.2.2; have hPa := hP.1; have hPb := hP.2.1
  have hl : lv_has ls 5 [(0, .ref h0)] := hl
  obtain ⟨H, hH⟩ : ∃ H, H = s.heap := ⟨_, rfl⟩
  obtain ⟨locs, hlo⟩ : ∃ locs : List Loc, locs = [] := ⟨_, rfl⟩
  have hS : St g Aw s.heap H locs (RW g h0 ad (va_up (va_up (va_up (va_up (va_up F 4 ac) 5 t.2.1) 6 E) 7 t.1) 8 o) (va_up A 1 (emS S0 ac t.2.2))) := by rw [hH, hlo]; exact hS
  have goal : W Pg l Ev (rmC (7 + 3 * d) 0 0) s Mi args below Mt Cd H locs 0 0 Q (F0 Mi 0 ls []) := ?goal
  · rw [hH, hlo] at goal; exact goal
  clear hH hlo
  refine li_aload_n hC hl 0 rfl dX12_factor_0 ?_
  refine li_get hC hK.1 ck_X12 (hS.1 0 _ rfl) 7 (by decide) fl_X12_66 rfl (v := .int (iI t.1)) rfl dX12_factor_1 ?_
  refine li_if_eq (tgt := 8) hC (by decide) (rg (by omega) (by omega)) dX12_factor_4 (fun c1 => ?_) (fun c1 => ?_)
  · refine li_aload_n hC hl 0 rfl dX12_factor_8 ?_
    refine wr_callVi hC (c_X12_here l g h0 ad F A S0 ac E o t hP ht _) mk_X12_here ml_X12_70 (rr (by omega)) ⟨by simp only [rmC]; omega, by simp only [rmC]; omega⟩ hK hS (li_recv hK.1 ck_X12 (hS.1 0 _ rfl)) rfl hl.1 rfl (Nat.le_of_ble_eq_true rfl) dX12_factor_9 (fun v w H locs hp hS => ?_)
    obtain ⟨hp1, hp2⟩ := hp
    have hp1 : v = iI (hereT S0 E t.2.1) := hp1
    have hp2 : w = RW g h0 ad (va_up (va_up (va_up (va_up (va_up F 4 ac) 5 t.2.1) 6 E) 7 t.1) 8 o) (va_up A 1 (emS S0 ac t.2.2)) := hp2
    subst hp1 hp2
    have q2 := hereT_rng hP (q := t.2.1) (by omega)
    refine li_istore_n hC (lv' := [(1, .int (iI (hereT S0 E t.2.1))), (0, .ref h0)]) hl (by decide) rfl dX12_factor_12 (fun ls hl => ?_)
    refine li_iload_n hC hl 0 rfl dX12_factor_13 ?_
    refine li_bipush hC (z := 33) rfl dX12_factor_14 ?_
    refine li_icmp_eq (tgt := 25) hC (by decide) (rg (by omega) (by omega)) (rg (by decide) (by decide)) dX12_factor_16 (fun c3 => ?_) (fun c3 => ?_)
    · refine li_aload_n hC hl 1 rfl dX12_factor_25 ?_
      refine li_aload_n hC hl 1 rfl dX12_factor_26 ?_
      refine li_get hC hK.1 ck_X12 (hS.1 0 _ rfl) 8 (by decide) fl_X12_90 rfl (v := .int (iI o)) rfl dX12_factor_27 ?_
      refine li_iconst hC dX12_factor_30 ?_
      refine li_icmp_ne (tgt := 38) hC (by decide) (rg (by omega) (by omega)) (rg (by decide) (by decide)) dX12_factor_31 (fun c4 => ?_) (fun c4 => ?_)
      · refine li_iconst hC dX12_factor_38 ?_
        refine li_put hC hK hS ck_X12 0 rfl 7 (by decide) fl_X12_66 rfl rfl (v := .int (iI 0)) (nar_01 (Or.inl rfl)) (fit_01 (Or.inl rfl)) (Nat.le_of_ble_eq_true rfl) (ws' := RW g h0 ad (va_up (va_up (va_up (va_up (va_up F 4 ac) 5 t.2.1) 6 E) 7 0) 8 o) (va_up A 1 (emS S0 ac t.2.2))) rfl dX12_factor_39 (fun H locs hS => ?_)
        refine li_aload_n hC hl 1 rfl dX12_factor_42 ?_
        refine li_dup hC rfl dX12_factor_43 ?_
        refine li_get hC hK.1 ck_X12 (hS.1 0 _ rfl) 8 (by decide) fl_X12_90 rfl (v := .int (iI o)) rfl dX12_factor_44 ?_
        refine li_iconst hC dX12_factor_47 ?_
        refine li_iadd hC dX12_factor_48 ?_
        refine li_put hC hK hS ck_X12 0 rfl 8 (by decide) fl_X12_90 rfl rfl (v := .int (iI (o + 1))) rfl rfl (Nat.le_of_ble_eq_true rfl) (ws' := RW g h0 ad (va_up (va_up (va_up (va_up (va_up F 4 ac) 5 t.2.1) 6 E) 7 0) 8 (o + 1)) (va_up A 1 (emS S0 ac t.2.2))) rfl dX12_factor_49 (fun H locs hS => ?_)
        refine li_aload_n hC hl 1 rfl dX12_factor_52 ?_
        refine li_dup hC rfl dX12_factor_53 ?_
        refine li_get hC hK.1 ck_X12 (hS.1 0 _ rfl) 5 (by decide) fl_X12_60 rfl (v := .int (iI t.2.1)) rfl dX12_factor_54 ?_
        refine li_aload_n hC hl 1 rfl dX12_factor_57 ?_
        refine li_get hC hK.1 ck_X12 (hS.1 0 _ rfl) 7 (by decide) fl_X12_66 rfl (v := .int (iI 0)) rfl dX12_factor_58 ?_
        refine li_if_eq (tgt := 68) hC (by decide) (rg (by decide) (by decide)) dX12_factor_61 (fun c5 => ?_) (fun c5 => ?_)
        · refine li_iconst hC dX12_factor_68 ?_
          refine li_iadd hC dX12_factor_69 ?_
          refine li_put hC hK hS ck_X12 0 rfl 5 (by decide) fl_X12_60 rfl rfl (v := .int (iI (t.2.1 + 1))) rfl rfl (Nat.le_of_ble_eq_true rfl) (ws' := RW g h0 ad (va_up (va_up (va_up (va_up (va_up F 4 ac) 5 (t.2.1 + 1)) 6 E) 7 0) 8 (o + 1)) (va_up A 1 (emS S0 ac t.2.2))) rfl dX12_factor_70 (fun H locs hS => ?_)
          refine li_iload_n hC hl 0 rfl dX12_factor_73 ?_
          refine li_bipush hC (z := 33) rfl dX12_factor_74 ?_
          refine li_icmp_ne (tgt := 91) hC (by decide) (rg (by omega) (by omega)) (rg (by decide) (by decide)) dX12_factor_76 (fun c6 => ?_) (fun c6 => ?_)
          · refine li_aload_n hC hl 1 rfl dX12_factor_91 ?_
            refine wr_callVv hC (hG (d - 1) (by omega) h0 ad F A S0 ac E (o + 1) (0, t.2.1 + 1, t.2.2) (n - 1) hP (okT_mk (by omega) (by omega) (by omega)) (by first | omega | (dsimp only; omega)) (by first | omega | (dsimp only; omega)) (by first | omega | (dsimp only; omega)) (by first | omega | (dsimp only; omega)) _) mk_X12_some ml_X12_99 (rr (by omega)) ⟨by simp only [rmC]; omega, by simp only [rmC]; omega⟩ hK hS (li_recv hK.1 ck_X12 (hS.1 0 _ rfl)) rfl hl.1 rfl (Nat.le_of_ble_eq_true rfl) dX12_factor_92 (fun w H locs hp hS => ?_)
            have hp : w = RW g h0 ad (va_up (va_up (va_up (va_up (va_up F 4 ac) 5 ((pT S0 E (n - 1) 2 (o + 1) (0, t.2.1 + 1, t.2.2)).2.1)) 6 E) 7 ((pT S0 E (n - 1) 2 (o + 1) (0, t.2.1 + 1, t.2.2)).1)) 8 (o + 1)) (va_up A 1 (emS S0 ac (pT S0 E (n - 1) 2 (o + 1) (0, t.2.1 + 1, t.2.2)).2.2)) := hp
            obtain ⟨t7, ht7⟩ : ∃ z : PT, z = pT S0 E (n - 1) 2 (o + 1) (0, t.2.1 + 1, t.2.2) := ⟨_, rfl⟩
            rw [← ht7] at hp
            subst hp
            obtain ⟨okt7, get7⟩ := (pT_ok hP (n - 1) 2 (o + 1) (0, t.2.1 + 1, t.2.2) (okT_mk (by omega) (by omega) (by omega)))
            rw [← ht7] at okt7 get7
            have t7a := okt7.1; have t7b := okt7.2.1; have t7c := okt7.2.2; have t7d := get7.1; have t7e := get7.2; try dsimp only at t7d t7e
            refine li_aload_n hC hl 1 rfl dX12_factor_95 ?_
            refine li_bipush hC (z := 41) rfl dX12_factor_96 ?_
            refine wr_callVv hC (c_X12_must l g h0 ad F A S0 ac E (o + 1) t7 41 hP okt7 (by omega) _) mk_X12_must ml_X12_83 (rr (by omega)) ⟨by simp only [rmC]; omega, by simp only [rmC]; omega⟩ hK hS (li_recv hK.1 ck_X12 (hS.1 0 _ rfl)) rfl hl.1 rfl (Nat.le_of_ble_eq_true rfl) dX12_factor_98 (fun w H locs hp hS => ?_)
            have hp : w = RW g h0 ad (va_up (va_up (va_up (va_up (va_up F 4 ac) 5 ((mustT S0 E 41 t7).2.1)) 6 E) 7 ((mustT S0 E 41 t7).1)) 8 (o + 1)) (va_up A 1 (emS S0 ac (mustT S0 E 41 t7).2.2)) := hp
            obtain ⟨t8, ht8⟩ : ∃ z : PT, z = mustT S0 E 41 t7 := ⟨_, rfl⟩
            rw [← ht8] at hp
            subst hp
            obtain ⟨okt8, get8⟩ := mustT_ok (c := 41) hP okt7 (by omega)
            rw [← ht8] at okt8 get8
            have t8a := okt8.1; have t8b := okt8.2.1; have t8c := okt8.2.2; have t8d := get8.1; have t8e := get8.2; try dsimp only at t8d t8e
            refine li_aload_n hC hl 1 rfl dX12_factor_101 ?_
            refine li_dup hC rfl dX12_factor_102 ?_
            refine li_get hC hK.1 ck_X12 (hS.1 0 _ rfl) 8 (by decide) fl_X12_90 rfl (v := .int (iI (o + 1))) rfl dX12_factor_103 ?_
            refine li_iconst hC dX12_factor_106 ?_
            refine li_isub hC dX12_factor_107 ?_
            refine li_put hC hK hS ck_X12 0 rfl 8 (by decide) fl_X12_90 rfl rfl (v := .int (iI ((o + 1) - 1))) rfl rfl (Nat.le_of_ble_eq_true rfl) (ws' := RW g h0 ad (va_up (va_up (va_up (va_up (va_up F 4 ac) 5 t8.2.1) 6 E) 7 t8.1) 8 ((o + 1) - 1)) (va_up A 1 (emS S0 ac t8.2.2))) rfl dX12_factor_108 (fun H locs hS => ?_)
            rw [show (o + 1) - 1 = o by omega] at hS
            exact hQ _ _ _ _ _ _ _ dX12_factor_111 hS (by omega) (by omega) (by first | (exfalso; omega) | skip; have e9 : pT S0 E n 0 o t = t8 := (by rw [pT_s0 (by omega) (by omega), if_neg (by omega), if_pos (by assumption), if_neg (by assumption), if_neg (by assumption), ← ht7, ← ht8]); rw [e9])
          · refine li_aload_n hC hl 1 rfl dX12_factor_79 ?_
            refine wr_callVv hC (hF (d - 1) (by omega) h0 ad F A S0 ac E (o + 1) (0, t.2.1 + 1, t.2.2) (n - 1) hP (okT_mk (by omega) (by omega) (by omega)) (by first | omega | (dsimp only; omega)) (by first | omega | (dsimp only; omega)) (by first | omega | (dsimp only; omega)) (by first | omega | (dsimp only; omega)) _) mk_X12_factor ml_X12_93 (rr (by omega)) ⟨by simp only [rmC]; omega, by simp only [rmC]; omega⟩ hK hS (li_recv hK.1 ck_X12 (hS.1 0 _ rfl)) rfl hl.1 rfl (Nat.le_of_ble_eq_true rfl) dX12_factor_80 (fun w H locs hp hS => ?_)
            have hp : w = RW g h0 ad (va_up (va_up (va_up (va_up (va_up F 4 ac) 5 ((pT S0 E (n - 1) 0 (o + 1) (0, t.2.1 + 1, t.2.2)).2.1)) 6 E) 7 ((pT S0 E (n - 1) 0 (o + 1) (0, t.2.1 + 1, t.2.2)).1)) 8 (o + 1)) (va_up A 1 (emS S0 ac (pT S0 E (n - 1) 0 (o + 1) (0, t.2.1 + 1, t.2.2)).2.2)) := hp
            obtain ⟨t9, ht9⟩ : ∃ z : PT, z = pT S0 E (n - 1) 0 (o + 1) (0, t.2.1 + 1, t.2.2) := ⟨_, rfl⟩
            rw [← ht9] at hp
            subst hp
            obtain ⟨okt9, get9⟩ := (pT_ok hP (n - 1) 0 (o + 1) (0, t.2.1 + 1, t.2.2) (okT_mk (by omega) (by omega) (by omega)))
            rw [← ht9] at okt9 get9
            have t9a := okt9.1; have t9b := okt9.2.1; have t9c := okt9.2.2; have t9d := get9.1; have t9e := get9.2; try dsimp only at t9d t9e
            refine li_aload_n hC hl 1 rfl dX12_factor_83 ?_
            refine li_iconst hC dX12_factor_84 ?_
            refine wr_callVv hC (c_X12_emits l g h0 ad F A S0 ac E (o + 1) t9 (-1) hP okt9 (by omega) _) mk_X12_emits ml_X12_96 (rr (by omega)) ⟨by simp only [rmC]; omega, by simp only [rmC]; omega⟩ hK hS (li_recv hK.1 ck_X12 (hS.1 0 _ rfl)) rfl hl.1 rfl (Nat.le_of_ble_eq_true rfl) dX12_factor_85 (fun w H locs hp hS => ?_)
            have hp : w = RW g h0 ad (va_up (va_up (va_up (va_up (va_up F 4 ac) 5 ((emitT (-1) t9).2.1)) 6 E) 7 ((emitT (-1) t9).1)) 8 (o + 1)) (va_up A 1 (emS S0 ac (emitT (-1) t9).2.2)) := hp
            obtain ⟨t10, ht10⟩ : ∃ z : PT, z = emitT (-1) t9 := ⟨_, rfl⟩
            rw [← ht10] at hp
            subst hp
            obtain ⟨okt10, t10f, t10h, t10g⟩ := emitT_ok (x := -1) okt9 (by omega)
            rw [← ht10] at okt10 t10f t10h t10g
            have t10a := okt10.1; have t10b := okt10.2.1; have t10c := okt10.2.2
            refine li_goto (tgt := 101) hC (by decide) dX12_factor_88 ?_
            refine li_aload_n hC hl 1 rfl dX12_factor_101 ?_
            refine li_dup hC rfl dX12_factor_102 ?_
            refine li_get hC hK.1 ck_X12 (hS.1 0 _ rfl) 8 (by decide) fl_X12_90 rfl (v := .int (iI (o + 1))) rfl dX12_factor_103 ?_
            refine li_iconst hC dX12_factor_106 ?_
            refine li_isub hC dX12_factor_107 ?_
            refine li_put hC hK hS ck_X12 0 rfl 8 (by decide) fl_X12_90 rfl rfl (v := .int (iI ((o + 1) - 1))) rfl rfl (Nat.le_of_ble_eq_true rfl) (ws' := RW g h0 ad (va_up (va_up (va_up (va_up (va_up F 4 ac) 5 t10.2.1) 6 E) 7 t10.1) 8 ((o + 1) - 1)) (va_up A 1 (emS S0 ac t10.2.2))) rfl dX12_factor_108 (fun H locs hS => ?_)
            rw [show (o + 1) - 1 = o by omega] at hS
            exact hQ _ _ _ _ _ _ _ dX12_factor_111 hS (by omega) (by omega) (by first | (exfalso; omega) | skip; have e9 : pT S0 E n 0 o t = t10 := (by rw [pT_s0 (by omega) (by omega), if_pos (by assumption), if_neg (by assumption), if_neg (by assumption), ← ht9, ← ht10]); rw [e9])
        · exact absurd c5 (by decide)
      · refine li_iconst hC dX12_factor_34 ?_
        refine li_goto (tgt := 39) hC (by decide) dX12_factor_35 ?_
        refine li_put hC hK hS ck_X12 0 rfl 7 (by decide) fl_X12_66 rfl rfl (v := .int (iI 1)) (nar_01 (Or.inr rfl)) (fit_01 (Or.inr rfl)) (Nat.le_of_ble_eq_true rfl) (ws' := RW g h0 ad (va_up (va_up (va_up (va_up (va_up F 4 ac) 5 t.2.1) 6 E) 7 1) 8 o) (va_up A 1 (emS S0 ac t.2.2))) rfl dX12_factor_39 (fun H locs hS => ?_)
        refine li_aload_n hC hl 1 rfl dX12_factor_42 ?_
        refine li_dup hC rfl dX12_factor_43 ?_
        refine li_get hC hK.1 ck_X12 (hS.1 0 _ rfl) 8 (by decide) fl_X12_90 rfl (v := .int (iI o)) rfl dX12_factor_44 ?_
        refine li_iconst hC dX12_factor_47 ?_
        refine li_iadd hC dX12_factor_48 ?_
        refine li_put hC hK hS ck_X12 0 rfl 8 (by decide) fl_X12_90 rfl rfl (v := .int (iI (o + 1))) rfl rfl (Nat.le_of_ble_eq_true rfl) (ws' := RW g h0 ad (va_up (va_up (va_up (va_up (va_up F 4 ac) 5 t.2.1) 6 E) 7 1) 8 (o + 1)) (va_up A 1 (emS S0 ac t.2.2))) rfl dX12_factor_49 (fun H locs hS => ?_)
        refine li_aload_n hC hl 1 rfl dX12_factor_52 ?_
        refine li_dup hC rfl dX12_factor_53 ?_
        refine li_get hC hK.1 ck_X12 (hS.1 0 _ rfl) 5 (by decide) fl_X12_60 rfl (v := .int (iI t.2.1)) rfl dX12_factor_54 ?_
        refine li_aload_n hC hl 1 rfl dX12_factor_57 ?_
        refine li_get hC hK.1 ck_X12 (hS.1 0 _ rfl) 7 (by decide) fl_X12_66 rfl (v := .int (iI 1)) rfl dX12_factor_58 ?_
        refine li_if_eq (tgt := 68) hC (by decide) (rg (by decide) (by decide)) dX12_factor_61 (fun c11 => ?_) (fun c11 => ?_)
        · exact absurd c11 (by decide)
        · refine li_iconst hC dX12_factor_64 ?_
          refine li_goto (tgt := 69) hC (by decide) dX12_factor_65 ?_
          refine li_iadd hC dX12_factor_69 ?_
          refine li_put hC hK hS ck_X12 0 rfl 5 (by decide) fl_X12_60 rfl rfl (v := .int (iI (t.2.1 + 0))) rfl rfl (Nat.le_of_ble_eq_true rfl) (ws' := RW g h0 ad (va_up (va_up (va_up (va_up (va_up F 4 ac) 5 (t.2.1 + 0)) 6 E) 7 1) 8 (o + 1)) (va_up A 1 (emS S0 ac t.2.2))) rfl dX12_factor_70 (fun H locs hS => ?_)
          rw [Int.add_zero] at hS
          refine li_iload_n hC hl 0 rfl dX12_factor_73 ?_
          refine li_bipush hC (z := 33) rfl dX12_factor_74 ?_
          refine li_icmp_ne (tgt := 91) hC (by decide) (rg (by omega) (by omega)) (rg (by decide) (by decide)) dX12_factor_76 (fun c12 => ?_) (fun c12 => ?_)
          · refine li_aload_n hC hl 1 rfl dX12_factor_91 ?_
            refine wr_callVv hC (hG (d - 1) (by omega) h0 ad F A S0 ac E (o + 1) (1, t.2.1, t.2.2) (n - 1) hP (okT_mk (by omega) (by omega) (by omega)) (by first | omega | (dsimp only; omega)) (by first | omega | (dsimp only; omega)) (by first | omega | (dsimp only; omega)) (by first | omega | (dsimp only; omega)) _) mk_X12_some ml_X12_99 (rr (by omega)) ⟨by simp only [rmC]; omega, by simp only [rmC]; omega⟩ hK hS (li_recv hK.1 ck_X12 (hS.1 0 _ rfl)) rfl hl.1 rfl (Nat.le_of_ble_eq_true rfl) dX12_factor_92 (fun w H locs hp hS => ?_)
            have hp : w = RW g h0 ad (va_up (va_up (va_up (va_up (va_up F 4 ac) 5 ((pT S0 E (n - 1) 2 (o + 1) (1, t.2.1, t.2.2)).2.1)) 6 E) 7 ((pT S0 E (n - 1) 2 (o + 1) (1, t.2.1, t.2.2)).1)) 8 (o + 1)) (va_up A 1 (emS S0 ac (pT S0 E (n - 1) 2 (o + 1) (1, t.2.1, t.2.2)).2.2)) := hp
            obtain ⟨t13, ht13⟩ : ∃ z : PT, z = pT S0 E (n - 1) 2 (o + 1) (1, t.2.1, t.2.2) := ⟨_, rfl⟩
            rw [← ht13] at hp
            subst hp
            obtain ⟨okt13, get13⟩ := (pT_ok hP (n - 1) 2 (o + 1) (1, t.2.1, t.2.2) (okT_mk (by omega) (by omega) (by omega)))
            rw [← ht13] at okt13 get13
            have t13a := okt13.1; have t13b := okt13.2.1; have t13c := okt13.2.2; have t13d := get13.1; have t13e := get13.2; try dsimp only at t13d t13e
            have t13z := pT_t ht13 rfl
            have t13y : t13.1 = 1 := by rw [t13z]
            refine li_aload_n hC hl 1 rfl dX12_factor_95 ?_
            refine li_bipush hC (z := 41) rfl dX12_factor_96 ?_
            refine wr_callVv hC (c_X12_must l g h0 ad F A S0 ac E (o + 1) t13 41 hP okt13 (by omega) _) mk_X12_must ml_X12_83 (rr (by omega)) ⟨by simp only [rmC]; omega, by simp only [rmC]; omega⟩ hK hS (li_recv hK.1 ck_X12 (hS.1 0 _ rfl)) rfl hl.1 rfl (Nat.le_of_ble_eq_true rfl) dX12_factor_98 (fun w H locs hp hS => ?_)
            have hp : w = RW g h0 ad (va_up (va_up (va_up (va_up (va_up F 4 ac) 5 ((mustT S0 E 41 t13).2.1)) 6 E) 7 ((mustT S0 E 41 t13).1)) 8 (o + 1)) (va_up A 1 (emS S0 ac (mustT S0 E 41 t13).2.2)) := hp
            obtain ⟨t14, ht14⟩ : ∃ z : PT, z = mustT S0 E 41 t13 := ⟨_, rfl⟩
            rw [← ht14] at hp
            subst hp
            obtain ⟨okt14, get14⟩ := mustT_ok (c := 41) hP okt13 (by omega)
            rw [← ht14] at okt14 get14
            have t14a := okt14.1; have t14b := okt14.2.1; have t14c := okt14.2.2; have t14d := get14.1; have t14e := get14.2; try dsimp only at t14d t14e
            refine li_aload_n hC hl 1 rfl dX12_factor_101 ?_
            refine li_dup hC rfl dX12_factor_102 ?_
            refine li_get hC hK.1 ck_X12 (hS.1 0 _ rfl) 8 (by decide) fl_X12_90 rfl (v := .int (iI (o + 1))) rfl dX12_factor_103 ?_
            refine li_iconst hC dX12_factor_106 ?_
            refine li_isub hC dX12_factor_107 ?_
            refine li_put hC hK hS ck_X12 0 rfl 8 (by decide) fl_X12_90 rfl rfl (v := .int (iI ((o + 1) - 1))) rfl rfl (Nat.le_of_ble_eq_true rfl) (ws' := RW g h0 ad (va_up (va_up (va_up (va_up (va_up F 4 ac) 5 t14.2.1) 6 E) 7 t14.1) 8 ((o + 1) - 1)) (va_up A 1 (emS S0 ac t14.2.2))) rfl dX12_factor_108 (fun H locs hS => ?_)
            rw [show (o + 1) - 1 = o by omega] at hS
            exact hQ _ _ _ _ _ _ _ dX12_factor_111 hS (by omega) (by omega) (by first | (exfalso; omega) | skip; have e9 : pT S0 E n 0 o t = t14 := (by rw [pT_s0 (by omega) (by omega), if_neg (by omega), if_pos (by assumption), if_pos (by assumption), if_pos (by assumption), ← ht13, ← ht14]); rw [e9])
          · refine li_aload_n hC hl 1 rfl dX12_factor_79 ?_
            refine wr_callVv hC (hF (d - 1) (by omega) h0 ad F A S0 ac E (o + 1) (1, t.2.1, t.2.2) (n - 1) hP (okT_mk (by omega) (by omega) (by omega)) (by first | omega | (dsimp only; omega)) (by first | omega | (dsimp only; omega)) (by first | omega | (dsimp only; omega)) (by first | omega | (dsimp only; omega)) _) mk_X12_factor ml_X12_93 (rr (by omega)) ⟨by simp only [rmC]; omega, by simp only [rmC]; omega⟩ hK hS (li_recv hK.1 ck_X12 (hS.1 0 _ rfl)) rfl hl.1 rfl (Nat.le_of_ble_eq_true rfl) dX12_factor_80 (fun w H locs hp hS => ?_)
            have hp : w = RW g h0 ad (va_up (va_up (va_up (va_up (va_up F 4 ac) 5 ((pT S0 E (n - 1) 0 (o + 1) (1, t.2.1, t.2.2)).2.1)) 6 E) 7 ((pT S0 E (n - 1) 0 (o + 1) (1, t.2.1, t.2.2)).1)) 8 (o + 1)) (va_up A 1 (emS S0 ac (pT S0 E (n - 1) 0 (o + 1) (1, t.2.1, t.2.2)).2.2)) := hp
            obtain ⟨t15, ht15⟩ : ∃ z : PT, z = pT S0 E (n - 1) 0 (o + 1) (1, t.2.1, t.2.2) := ⟨_, rfl⟩
            rw [← ht15] at hp
            subst hp
            obtain ⟨okt15, get15⟩ := (pT_ok hP (n - 1) 0 (o + 1) (1, t.2.1, t.2.2) (okT_mk (by omega) (by omega) (by omega)))
            rw [← ht15] at okt15 get15
            have t15a := okt15.1; have t15b := okt15.2.1; have t15c := okt15.2.2; have t15d := get15.1; have t15e := get15.2; try dsimp only at t15d t15e
            have t15z := pT_t ht15 rfl
            have t15y : t15.1 = 1 := by rw [t15z]
            refine li_aload_n hC hl 1 rfl dX12_factor_83 ?_
            refine li_iconst hC dX12_factor_84 ?_
            refine wr_callVv hC (c_X12_emits l g h0 ad F A S0 ac E (o + 1) t15 (-1) hP okt15 (by omega) _) mk_X12_emits ml_X12_96 (rr (by omega)) ⟨by simp only [rmC]; omega, by simp only [rmC]; omega⟩ hK hS (li_recv hK.1 ck_X12 (hS.1 0 _ rfl)) rfl hl.1 rfl (Nat.le_of_ble_eq_true rfl) dX12_factor_85 (fun w H locs hp hS => ?_)
            have hp : w = RW g h0 ad (va_up (va_up (va_up (va_up (va_up F 4 ac) 5 ((emitT (-1) t15).2.1)) 6 E) 7 ((emitT (-1) t15).1)) 8 (o + 1)) (va_up A 1 (emS S0 ac (emitT (-1) t15).2.2)) := hp
            obtain ⟨t16, ht16⟩ : ∃ z : PT, z = emitT (-1) t15 := ⟨_, rfl⟩
            rw [← ht16] at hp
            subst hp
            obtain ⟨okt16, t16f, t16h, t16g⟩ := emitT_ok (x := -1) okt15 (by omega)
            rw [← ht16] at okt16 t16f t16h t16g
            have t16a := okt16.1; have t16b := okt16.2.1; have t16c := okt16.2.2
            refine li_goto (tgt := 101) hC (by decide) dX12_factor_88 ?_
            refine li_aload_n hC hl 1 rfl dX12_factor_101 ?_
            refine li_dup hC rfl dX12_factor_102 ?_
            refine li_get hC hK.1 ck_X12 (hS.1 0 _ rfl) 8 (by decide) fl_X12_90 rfl (v := .int (iI (o + 1))) rfl dX12_factor_103 ?_
            refine li_iconst hC dX12_factor_106 ?_
            refine li_isub hC dX12_factor_107 ?_
            refine li_put hC hK hS ck_X12 0 rfl 8 (by decide) fl_X12_90 rfl rfl (v := .int (iI ((o + 1) - 1))) rfl rfl (Nat.le_of_ble_eq_true rfl) (ws' := RW g h0 ad (va_up (va_up (va_up (va_up (va_up F 4 ac) 5 t16.2.1) 6 E) 7 t16.1) 8 ((o + 1) - 1)) (va_up A 1 (emS S0 ac t16.2.2))) rfl dX12_factor_108 (fun H locs hS => ?_)
            rw [show (o + 1) - 1 = o by omega] at hS
            exact hQ _ _ _ _ _ _ _ dX12_factor_111 hS (by omega) (by omega) (by first | (exfalso; omega) | skip; have e9 : pT S0 E n 0 o t = t16 := (by rw [pT_s0 (by omega) (by omega), if_pos (by assumption), if_pos (by assumption), if_pos (by assumption), ← ht15, ← ht16]); rw [e9])
    · refine li_iload_n hC hl 0 rfl dX12_factor_19 ?_
      refine li_bipush hC (z := 40) rfl dX12_factor_20 ?_
      refine li_icmp_ne (tgt := 112) hC (by decide) (rg (by omega) (by omega)) (rg (by decide) (by decide)) dX12_factor_22 (fun c17 => ?_) (fun c17 => ?_)
      · refine li_aload_n hC hl 1 rfl dX12_factor_112 ?_
        refine li_ldcS hC hK.1.2.2.2.2.2.2.2.1 dX12_factor_113 ?_
        refine wr_callVi hC (c_X12_among l g h0 ad F A S0 ac E o t 4 hP ht (by decide) _) mk_X12_among ml_X12_104 (rr (by omega)) ⟨by simp only [rmC]; omega, by simp only [rmC]; omega⟩ hK hS (li_recv hK.1 ck_X12 (hS.1 0 _ rfl)) rfl hl.1 rfl (Nat.le_of_ble_eq_true rfl) dX12_factor_115 (fun v w H locs hp hS => ?_)
        obtain ⟨hp1, hp2⟩ := hp
        have hp1 : v = iI (amV S0 E 4 t.2.1) := hp1
        have hp2 : w = RW g h0 ad (va_up (va_up (va_up (va_up (va_up F 4 ac) 5 (amQ S0 E 4 t.2.1)) 6 E) 7 t.1) 8 o) (va_up A 1 (emS S0 ac t.2.2)) := hp2
        subst hp1 hp2
        obtain ⟨a18, ha18⟩ : ∃ z : Int, z = amV S0 E 4 t.2.1 := ⟨_, rfl⟩
        rw [← ha18]
        have q19 := amV_rng hP (i := 4) (by decide) (q := t.2.1) (by omega)
        rw [← ha18, show sLen.getD 4 0 = 6 from rfl] at q19
        refine li_istore_n hC (lv' := [(2, .int (iI a18)), (1, .int (iI (hereT S0 E t.2.1))), (0, .ref h0)]) hl (by decide) rfl dX12_factor_118 (fun ls hl => ?_)
        refine li_aload_n hC hl 2 rfl dX12_factor_119 ?_
        refine li_iload_n hC hl 0 rfl dX12_factor_120 ?_
        refine li_iconst hC dX12_factor_121 ?_
        refine li_icmp_ne (tgt := 129) hC (by decide) (rg (by omega) (by omega)) (rg (by decide) (by decide)) dX12_factor_122 (fun c20 => ?_) (fun c20 => ?_)
        · refine li_iconst hC dX12_factor_129 ?_
          refine li_put hC hK hS ck_X12 0 rfl 7 (by decide) fl_X12_66 rfl rfl (v := .int (iI 0)) (nar_01 (Or.inl rfl)) (fit_01 (Or.inl rfl)) (Nat.le_of_ble_eq_true rfl) (ws' := RW g h0 ad (va_up (va_up (va_up (va_up (va_up F 4 ac) 5 (amQ S0 E 4 t.2.1)) 6 E) 7 0) 8 o) (va_up A 1 (emS S0 ac t.2.2))) rfl dX12_factor_130 (fun H locs hS => ?_)
          rw [show amQ S0 E 4 t.2.1 = t.2.1 + 1 from if_neg (by omega)] at hS
          refine li_aload_n hC hl 2 rfl dX12_factor_133 ?_
          refine li_get hC hK.1 ck_X12 (hS.1 0 _ rfl) 7 (by decide) fl_X12_66 rfl (v := .int (iI 0)) rfl dX12_factor_134 ?_
          refine li_if_eq (tgt := 144) hC (by decide) (rg (by decide) (by decide)) dX12_factor_137 (fun c21 => ?_) (fun c21 => ?_)
          · refine li_aload_n hC hl 2 rfl dX12_factor_144 ?_
            refine li_ldcS hC hK.1.2.2.2.2.2.2.2.2 dX12_factor_145 ?_
            refine wr_callVi hC (c_X12_among l g h0 ad F A S0 ac E o (0, t.2.1 + 1, t.2.2) 5 hP (okT_mk (by omega) (by omega) (by omega)) (by decide) _) mk_X12_among ml_X12_104 (rr (by omega)) ⟨by simp only [rmC]; omega, by simp only [rmC]; omega⟩ hK hS (li_recv hK.1 ck_X12 (hS.1 0 _ rfl)) rfl hl.1 rfl (Nat.le_of_ble_eq_true rfl) dX12_factor_147 (fun v w H locs hp hS => ?_)
            obtain ⟨hp1, hp2⟩ := hp
            have hp1 : v = iI (amV S0 E 5 (t.2.1 + 1)) := hp1
            have hp2 : w = RW g h0 ad (va_up (va_up (va_up (va_up (va_up F 4 ac) 5 (amQ S0 E 5 (t.2.1 + 1))) 6 E) 7 0) 8 o) (va_up A 1 (emS S0 ac t.2.2)) := hp2
            subst hp1 hp2
            obtain ⟨a22, ha22⟩ : ∃ z : Int, z = amV S0 E 5 (t.2.1 + 1) := ⟨_, rfl⟩
            rw [← ha22]
            have q23 := amV_rng hP (i := 5) (by decide) (q := t.2.1 + 1) (by omega)
            rw [← ha22, show sLen.getD 5 0 = 3 from rfl] at q23
            refine li_istore_n hC (lv' := [(3, .int (iI a22)), (2, .int (iI a18)), (1, .int (iI (hereT S0 E t.2.1))), (0, .ref h0)]) hl (by decide) rfl dX12_factor_150 (fun ls hl => ?_)
            refine li_aload_n hC hl 3 rfl dX12_factor_151 ?_
            refine li_aload_n hC hl 3 rfl dX12_factor_152 ?_
            refine li_get hC hK.1 ck_X12 (hS.1 0 _ rfl) 7 (by decide) fl_X12_66 rfl (v := .int (iI 0)) rfl dX12_factor_153 ?_
            refine li_if_ne (tgt := 164) hC (by decide) (rg (by decide) (by decide)) dX12_factor_156 (fun c24 => ?_) (fun c24 => ?_)
            · exact absurd c24 (by decide)
            · refine li_iload_n hC hl 0 rfl dX12_factor_159 ?_
              refine li_iconst hC dX12_factor_160 ?_
              refine li_icmp_ne (tgt := 168) hC (by decide) (rg (by omega) (by omega)) (rg (by decide) (by decide)) dX12_factor_161 (fun c25 => ?_) (fun c25 => ?_)
              · refine li_iconst hC dX12_factor_168 ?_
                refine li_put hC hK hS ck_X12 0 rfl 7 (by decide) fl_X12_66 rfl rfl (v := .int (iI 0)) (nar_01 (Or.inl rfl)) (fit_01 (Or.inl rfl)) (Nat.le_of_ble_eq_true rfl) (ws' := RW g h0 ad (va_up (va_up (va_up (va_up (va_up F 4 ac) 5 (amQ S0 E 5 (t.2.1 + 1))) 6 E) 7 0) 8 o) (va_up A 1 (emS S0 ac t.2.2))) rfl dX12_factor_169 (fun H locs hS => ?_)
                rw [show amQ S0 E 5 (t.2.1 + 1) = (t.2.1 + 1) + 1 from if_neg (by omega), show (t.2.1 + 1) + 1 = t.2.1 + 2 by omega] at hS
                refine li_aload_n hC hl 3 rfl dX12_factor_172 ?_
                refine wr_callVi hC (c_X12_figures l g h0 ad F A S0 ac E o (0, t.2.1 + 2, t.2.2) hP (okT_mk (by omega) (by omega) (by omega)) _) mk_X12_figures ml_X12_110 (rr (by omega)) ⟨by simp only [rmC]; omega, by simp only [rmC]; omega⟩ hK hS (li_recv hK.1 ck_X12 (hS.1 0 _ rfl)) rfl hl.1 rfl (Nat.le_of_ble_eq_true rfl) dX12_factor_173 (fun v w H locs hp hS => ?_)
                obtain ⟨rfl, hp⟩ := hp
                have hp : w = RW g h0 ad (va_up (va_up (va_up (va_up (va_up F 4 ac) 5 ((figT S0 E (0, t.2.1 + 2, t.2.2)).2.1)) 6 E) 7 ((figT S0 E (0, t.2.1 + 2, t.2.2)).1)) 8 o) (va_up A 1 (emS S0 ac (figT S0 E (0, t.2.1 + 2, t.2.2)).2.2)) := hp
                obtain ⟨t26, ht26⟩ : ∃ z : PT, z = figT S0 E (0, t.2.1 + 2, t.2.2) := ⟨_, rfl⟩
                rw [← ht26] at hp
                subst hp
                obtain ⟨v27, hv27⟩ : ∃ z : Int, z = figV S0 E (0, t.2.1 + 2, t.2.2) := ⟨_, rfl⟩
                rw [← hv27]
                obtain ⟨okt26, get26, t26f, t26g⟩ := figT_ok hP (okT_mk (by omega) (by omega) (by omega) : okT E (0, t.2.1 + 2, t.2.2))
                rw [← ht26] at okt26 get26 t26g
                rw [← hv27] at t26f
                have t26a := okt26.1; have t26b := okt26.2.1; have t26c := okt26.2.2; have t26d := get26.1; have t26e := get26.2; try dsimp only at t26d t26e t26g
                refine li_istore hC (lv' := [(4, .int (iI v27)), (3, .int (iI a22)), (2, .int (iI a18)), (1, .int (iI (hereT S0 E t.2.1))), (0, .ref h0)]) hl (by decide) rfl dX12_factor_176 (fun ls hl => ?_)
                refine li_aload_n hC hl 4 rfl dX12_factor_178 ?_
                refine li_iload_n hC hl 2 rfl dX12_factor_179 ?_
                refine li_bipush hC (z := 8) rfl dX12_factor_180 ?_
                refine li_iload_n hC hl 1 rfl dX12_factor_182 ?_
                refine li_imul hC dX12_factor_183 ?_
                refine li_iadd hC dX12_factor_184 ?_
                refine li_bipush hC (z := 32) rfl dX12_factor_185 ?_
                refine li_iload hC hl 0 rfl dX12_factor_187 ?_
                refine li_imul hC dX12_factor_189 ?_
                refine li_iadd hC dX12_factor_190 ?_
                refine wr_callVv hC (c_X12_emits l g h0 ad F A S0 ac E o t26 ((a18 + (8 * a22)) + (32 * v27)) hP okt26 (by omega) _) mk_X12_emits ml_X12_96 (rr (by omega)) ⟨by simp only [rmC]; omega, by simp only [rmC]; omega⟩ hK hS (li_recv hK.1 ck_X12 (hS.1 0 _ rfl)) rfl hl.1 rfl (Nat.le_of_ble_eq_true rfl) dX12_factor_191 (fun w H locs hp hS => ?_)
                have hp : w = RW g h0 ad (va_up (va_up (va_up (va_up (va_up F 4 ac) 5 ((emitT ((a18 + (8 * a22)) + (32 * v27)) t26).2.1)) 6 E) 7 ((emitT ((a18 + (8 * a22)) + (32 * v27)) t26).1)) 8 o) (va_up A 1 (emS S0 ac (emitT ((a18 + (8 * a22)) + (32 * v27)) t26).2.2)) := hp
                obtain ⟨t28, ht28⟩ : ∃ z : PT, z = emitT ((a18 + (8 * a22)) + (32 * v27)) t26 := ⟨_, rfl⟩
                rw [← ht28] at hp
                subst hp
                obtain ⟨okt28, t28f, t28h, t28g⟩ := emitT_ok (x := (a18 + (8 * a22)) + (32 * v27)) okt26 (by omega)
                rw [← ht28] at okt28 t28f t28h t28g
                have t28a := okt28.1; have t28b := okt28.2.1; have t28c := okt28.2.2
                exact hQ _ _ _ _ _ _ _ dX12_factor_194 hS (by omega) (by omega) (by have e9 : pT S0 E n 0 o t = t28 := (by rw [pT_s0 (by omega) (by omega), if_neg (by omega), if_neg (by omega)]; unfold testT; rw [if_neg (by omega), if_neg (by omega), ← ha18, ← ha22, ← hv27, ← ht26, ← ht28]); rw [e9])
              · refine li_iconst hC dX12_factor_164 ?_
                refine li_goto (tgt := 169) hC (by decide) dX12_factor_165 ?_
                refine li_put hC hK hS ck_X12 0 rfl 7 (by decide) fl_X12_66 rfl rfl (v := .int (iI 1)) (nar_01 (Or.inr rfl)) (fit_01 (Or.inr rfl)) (Nat.le_of_ble_eq_true rfl) (ws' := RW g h0 ad (va_up (va_up (va_up (va_up (va_up F 4 ac) 5 (amQ S0 E 5 (t.2.1 + 1))) 6 E) 7 1) 8 o) (va_up A 1 (emS S0 ac t.2.2))) rfl dX12_factor_169 (fun H locs hS => ?_)
                rw [show amQ S0 E 5 (t.2.1 + 1) = t.2.1 + 1 from if_pos (by omega)] at hS
                refine li_aload_n hC hl 3 rfl dX12_factor_172 ?_
                refine wr_callVi hC (c_X12_figures l g h0 ad F A S0 ac E o (1, t.2.1 + 1, t.2.2) hP (okT_mk (by omega) (by omega) (by omega)) _) mk_X12_figures ml_X12_110 (rr (by omega)) ⟨by simp only [rmC]; omega, by simp only [rmC]; omega⟩ hK hS (li_recv hK.1 ck_X12 (hS.1 0 _ rfl)) rfl hl.1 rfl (Nat.le_of_ble_eq_true rfl) dX12_factor_173 (fun v w H locs hp hS => ?_)
                obtain ⟨rfl, hp⟩ := hp
                have hp : w = RW g h0 ad (va_up (va_up (va_up (va_up (va_up F 4 ac) 5 ((figT S0 E (1, t.2.1 + 1, t.2.2)).2.1)) 6 E) 7 ((figT S0 E (1, t.2.1 + 1, t.2.2)).1)) 8 o) (va_up A 1 (emS S0 ac (figT S0 E (1, t.2.1 + 1, t.2.2)).2.2)) := hp
                obtain ⟨t29, ht29⟩ : ∃ z : PT, z = figT S0 E (1, t.2.1 + 1, t.2.2) := ⟨_, rfl⟩
                rw [← ht29] at hp
                subst hp
                obtain ⟨v30, hv30⟩ : ∃ z : Int, z = figV S0 E (1, t.2.1 + 1, t.2.2) := ⟨_, rfl⟩
                rw [← hv30]
                obtain ⟨okt29, get29, t29f, t29g⟩ := figT_ok hP (okT_mk (by omega) (by omega) (by omega) : okT E (1, t.2.1 + 1, t.2.2))
                rw [← ht29] at okt29 get29 t29g
                rw [← hv30] at t29f
                have t29a := okt29.1; have t29b := okt29.2.1; have t29c := okt29.2.2; have t29d := get29.1; have t29e := get29.2; try dsimp only at t29d t29e t29g
                have t29z := ht29
                rw [figT_w] at t29z
                have t29y : t29.1 = 1 := by rw [t29z]
                refine li_istore hC (lv' := [(4, .int (iI v30)), (3, .int (iI a22)), (2, .int (iI a18)), (1, .int (iI (hereT S0 E t.2.1))), (0, .ref h0)]) hl (by decide) rfl dX12_factor_176 (fun ls hl => ?_)
                refine li_aload_n hC hl 4 rfl dX12_factor_178 ?_
                refine li_iload_n hC hl 2 rfl dX12_factor_179 ?_
                refine li_bipush hC (z := 8) rfl dX12_factor_180 ?_
                refine li_iload_n hC hl 1 rfl dX12_factor_182 ?_
                refine li_imul hC dX12_factor_183 ?_
                refine li_iadd hC dX12_factor_184 ?_
                refine li_bipush hC (z := 32) rfl dX12_factor_185 ?_
                refine li_iload hC hl 0 rfl dX12_factor_187 ?_
                refine li_imul hC dX12_factor_189 ?_
                refine li_iadd hC dX12_factor_190 ?_
                refine wr_callVv hC (c_X12_emits l g h0 ad F A S0 ac E o t29 ((a18 + (8 * a22)) + (32 * v30)) hP okt29 (by omega) _) mk_X12_emits ml_X12_96 (rr (by omega)) ⟨by simp only [rmC]; omega, by simp only [rmC]; omega⟩ hK hS (li_recv hK.1 ck_X12 (hS.1 0 _ rfl)) rfl hl.1 rfl (Nat.le_of_ble_eq_true rfl) dX12_factor_191 (fun w H locs hp hS => ?_)
                have hp : w = RW g h0 ad (va_up (va_up (va_up (va_up (va_up F 4 ac) 5 ((emitT ((a18 + (8 * a22)) + (32 * v30)) t29).2.1)) 6 E) 7 ((emitT ((a18 + (8 * a22)) + (32 * v30)) t29).1)) 8 o) (va_up A 1 (emS S0 ac (emitT ((a18 + (8 * a22)) + (32 * v30)) t29).2.2)) := hp
                obtain ⟨t31, ht31⟩ : ∃ z : PT, z = emitT ((a18 + (8 * a22)) + (32 * v30)) t29 := ⟨_, rfl⟩
                rw [← ht31] at hp
                subst hp
                obtain ⟨okt31, t31f, t31h, t31g⟩ := emitT_ok (x := (a18 + (8 * a22)) + (32 * v30)) okt29 (by omega)
                rw [← ht31] at okt31 t31f t31h t31g
                have t31a := okt31.1; have t31b := okt31.2.1; have t31c := okt31.2.2
                exact hQ _ _ _ _ _ _ _ dX12_factor_194 hS (by omega) (by omega) (by have e9 : pT S0 E n 0 o t = t31 := (by rw [pT_s0 (by omega) (by omega), if_neg (by omega), if_neg (by omega)]; unfold testT; rw [if_neg (by omega), if_pos (by omega), ht31, ht29, figT_w, emitT_w]); rw [e9])
          · exact absurd c21 (by decide)
        · refine li_iconst hC dX12_factor_125 ?_
          refine li_goto (tgt := 130) hC (by decide) dX12_factor_126 ?_
          refine li_put hC hK hS ck_X12 0 rfl 7 (by decide) fl_X12_66 rfl rfl (v := .int (iI 1)) (nar_01 (Or.inr rfl)) (fit_01 (Or.inr rfl)) (Nat.le_of_ble_eq_true rfl) (ws' := RW g h0 ad (va_up (va_up (va_up (va_up (va_up F 4 ac) 5 (amQ S0 E 4 t.2.1)) 6 E) 7 1) 8 o) (va_up A 1 (emS S0 ac t.2.2))) rfl dX12_factor_130 (fun H locs hS => ?_)
          rw [show amQ S0 E 4 t.2.1 = t.2.1 from if_pos (by omega)] at hS
          refine li_aload_n hC hl 2 rfl dX12_factor_133 ?_
          refine li_get hC hK.1 ck_X12 (hS.1 0 _ rfl) 7 (by decide) fl_X12_66 rfl (v := .int (iI 1)) rfl dX12_factor_134 ?_
          refine li_if_eq (tgt := 144) hC (by decide) (rg (by decide) (by decide)) dX12_factor_137 (fun c32 => ?_) (fun c32 => ?_)
          · exact absurd c32 (by decide)
          · refine li_iconst hC dX12_factor_140 ?_
            refine li_goto (tgt := 150) hC (by decide) dX12_factor_141 ?_
            refine li_istore_n hC (lv' := [(3, .int (iI 0)), (2, .int (iI a18)), (1, .int (iI (hereT S0 E t.2.1))), (0, .ref h0)]) hl (by decide) rfl dX12_factor_150 (fun ls hl => ?_)
            refine li_aload_n hC hl 3 rfl dX12_factor_151 ?_
            refine li_aload_n hC hl 3 rfl dX12_factor_152 ?_
            refine li_get hC hK.1 ck_X12 (hS.1 0 _ rfl) 7 (by decide) fl_X12_66 rfl (v := .int (iI 1)) rfl dX12_factor_153 ?_
            refine li_if_ne (tgt := 164) hC (by decide) (rg (by decide) (by decide)) dX12_factor_156 (fun c33 => ?_) (fun c33 => ?_)
            · refine li_iconst hC dX12_factor_164 ?_
              refine li_goto (tgt := 169) hC (by decide) dX12_factor_165 ?_
              refine li_put hC hK hS ck_X12 0 rfl 7 (by decide) fl_X12_66 rfl rfl (v := .int (iI 1)) (nar_01 (Or.inr rfl)) (fit_01 (Or.inr rfl)) (Nat.le_of_ble_eq_true rfl) (ws' := RW g h0 ad (va_up (va_up (va_up (va_up (va_up F 4 ac) 5 t.2.1) 6 E) 7 1) 8 o) (va_up A 1 (emS S0 ac t.2.2))) rfl dX12_factor_169 (fun H locs hS => ?_)
              refine li_aload_n hC hl 3 rfl dX12_factor_172 ?_
              refine wr_callVi hC (c_X12_figures l g h0 ad F A S0 ac E o (1, t.2.1, t.2.2) hP (okT_mk (by omega) (by omega) (by omega)) _) mk_X12_figures ml_X12_110 (rr (by omega)) ⟨by simp only [rmC]; omega, by simp only [rmC]; omega⟩ hK hS (li_recv hK.1 ck_X12 (hS.1 0 _ rfl)) rfl hl.1 rfl (Nat.le_of_ble_eq_true rfl) dX12_factor_173 (fun v w H locs hp hS => ?_)
              obtain ⟨rfl, hp⟩ := hp
              have hp : w = RW g h0 ad (va_up (va_up (va_up (va_up (va_up F 4 ac) 5 ((figT S0 E (1, t.2.1, t.2.2)).2.1)) 6 E) 7 ((figT S0 E (1, t.2.1, t.2.2)).1)) 8 o) (va_up A 1 (emS S0 ac (figT S0 E (1, t.2.1, t.2.2)).2.2)) := hp
              obtain ⟨t34, ht34⟩ : ∃ z : PT, z = figT S0 E (1, t.2.1, t.2.2) := ⟨_, rfl⟩
              rw [← ht34] at hp
              subst hp
              obtain ⟨v35, hv35⟩ : ∃ z : Int, z = figV S0 E (1, t.2.1, t.2.2) := ⟨_, rfl⟩
              rw [← hv35]
              obtain ⟨okt34, get34, t34f, t34g⟩ := figT_ok hP (okT_mk (by omega) (by omega) (by omega) : okT E (1, t.2.1, t.2.2))
              rw [← ht34] at okt34 get34 t34g
              rw [← hv35] at t34f
              have t34a := okt34.1; have t34b := okt34.2.1; have t34c := okt34.2.2; have t34d := get34.1; have t34e := get34.2; try dsimp only at t34d t34e t34g
              have t34z := ht34
              rw [figT_w] at t34z
              have t34y : t34.1 = 1 := by rw [t34z]
              refine li_istore hC (lv' := [(4, .int (iI v35)), (3, .int (iI 0)), (2, .int (iI a18)), (1, .int (iI (hereT S0 E t.2.1))), (0, .ref h0)]) hl (by decide) rfl dX12_factor_176 (fun ls hl => ?_)
              refine li_aload_n hC hl 4 rfl dX12_factor_178 ?_
              refine li_iload_n hC hl 2 rfl dX12_factor_179 ?_
              refine li_bipush hC (z := 8) rfl dX12_factor_180 ?_
              refine li_iload_n hC hl 1 rfl dX12_factor_182 ?_
              refine li_imul hC dX12_factor_183 ?_
              refine li_iadd hC dX12_factor_184 ?_
              refine li_bipush hC (z := 32) rfl dX12_factor_185 ?_
              refine li_iload hC hl 0 rfl dX12_factor_187 ?_
              refine li_imul hC dX12_factor_189 ?_
              refine li_iadd hC dX12_factor_190 ?_
              refine wr_callVv hC (c_X12_emits l g h0 ad F A S0 ac E o t34 ((a18 + (8 * 0)) + (32 * v35)) hP okt34 (by omega) _) mk_X12_emits ml_X12_96 (rr (by omega)) ⟨by simp only [rmC]; omega, by simp only [rmC]; omega⟩ hK hS (li_recv hK.1 ck_X12 (hS.1 0 _ rfl)) rfl hl.1 rfl (Nat.le_of_ble_eq_true rfl) dX12_factor_191 (fun w H locs hp hS => ?_)
              have hp : w = RW g h0 ad (va_up (va_up (va_up (va_up (va_up F 4 ac) 5 ((emitT ((a18 + (8 * 0)) + (32 * v35)) t34).2.1)) 6 E) 7 ((emitT ((a18 + (8 * 0)) + (32 * v35)) t34).1)) 8 o) (va_up A 1 (emS S0 ac (emitT ((a18 + (8 * 0)) + (32 * v35)) t34).2.2)) := hp
              obtain ⟨t36, ht36⟩ : ∃ z : PT, z = emitT ((a18 + (8 * 0)) + (32 * v35)) t34 := ⟨_, rfl⟩
              rw [← ht36] at hp
              subst hp
              obtain ⟨okt36, t36f, t36h, t36g⟩ := emitT_ok (x := (a18 + (8 * 0)) + (32 * v35)) okt34 (by omega)
              rw [← ht36] at okt36 t36f t36h t36g
              have t36a := okt36.1; have t36b := okt36.2.1; have t36c := okt36.2.2
              exact hQ _ _ _ _ _ _ _ dX12_factor_194 hS (by omega) (by omega) (by have e9 : pT S0 E n 0 o t = t36 := (by rw [pT_s0 (by omega) (by omega), if_neg (by omega), if_neg (by omega), show testT S0 E t = (1, t.2.1, t.2.2) from if_pos (by omega), ht36, ht34, figT_w, emitT_w]); rw [e9])
            · exact absurd c33 (by decide)
      · refine li_aload_n hC hl 1 rfl dX12_factor_25 ?_
        refine li_aload_n hC hl 1 rfl dX12_factor_26 ?_
        refine li_get hC hK.1 ck_X12 (hS.1 0 _ rfl) 8 (by decide) fl_X12_90 rfl (v := .int (iI o)) rfl dX12_factor_27 ?_
        refine li_iconst hC dX12_factor_30 ?_
        refine li_icmp_ne (tgt := 38) hC (by decide) (rg (by omega) (by omega)) (rg (by decide) (by decide)) dX12_factor_31 (fun c37 => ?_) (fun c37 => ?_)
        · refine li_iconst hC dX12_factor_38 ?_
          refine li_put hC hK hS ck_X12 0 rfl 7 (by decide) fl_X12_66 rfl rfl (v := .int (iI 0)) (nar_01 (Or.inl rfl)) (fit_01 (Or.inl rfl)) (Nat.le_of_ble_eq_true rfl) (ws' := RW g h0 ad (va_up (va_up (va_up (va_up (va_up F 4 ac) 5 t.2.1) 6 E) 7 0) 8 o) (va_up A 1 (emS S0 ac t.2.2))) rfl dX12_factor_39 (fun H locs hS => ?_)
          refine li_aload_n hC hl 1 rfl dX12_factor_42 ?_
          refine li_dup hC rfl dX12_factor_43 ?_
          refine li_get hC hK.1 ck_X12 (hS.1 0 _ rfl) 8 (by decide) fl_X12_90 rfl (v := .int (iI o)) rfl dX12_factor_44 ?_
          refine li_iconst hC dX12_factor_47 ?_
          refine li_iadd hC dX12_factor_48 ?_
          refine li_put hC hK hS ck_X12 0 rfl 8 (by decide) fl_X12_90 rfl rfl (v := .int (iI (o + 1))) rfl rfl (Nat.le_of_ble_eq_true rfl) (ws' := RW g h0 ad (va_up (va_up (va_up (va_up (va_up F 4 ac) 5 t.2.1) 6 E) 7 0) 8 (o + 1)) (va_up A 1 (emS S0 ac t.2.2))) rfl dX12_factor_49 (fun H locs hS => ?_)
          refine li_aload_n hC hl 1 rfl dX12_factor_52 ?_
          refine li_dup hC rfl dX12_factor_53 ?_
          refine li_get hC hK.1 ck_X12 (hS.1 0 _ rfl) 5 (by decide) fl_X12_60 rfl (v := .int (iI t.2.1)) rfl dX12_factor_54 ?_
          refine li_aload_n hC hl 1 rfl dX12_factor_57 ?_
          refine li_get hC hK.1 ck_X12 (hS.1 0 _ rfl) 7 (by decide) fl_X12_66 rfl (v := .int (iI 0)) rfl dX12_factor_58 ?_
          refine li_if_eq (tgt := 68) hC (by decide) (rg (by decide) (by decide)) dX12_factor_61 (fun c38 => ?_) (fun c38 => ?_)
          · refine li_iconst hC dX12_factor_68 ?_
            refine li_iadd hC dX12_factor_69 ?_
            refine li_put hC hK hS ck_X12 0 rfl 5 (by decide) fl_X12_60 rfl rfl (v := .int (iI (t.2.1 + 1))) rfl rfl (Nat.le_of_ble_eq_true rfl) (ws' := RW g h0 ad (va_up (va_up (va_up (va_up (va_up F 4 ac) 5 (t.2.1 + 1)) 6 E) 7 0) 8 (o + 1)) (va_up A 1 (emS S0 ac t.2.2))) rfl dX12_factor_70 (fun H locs hS => ?_)
            refine li_iload_n hC hl 0 rfl dX12_factor_73 ?_
            refine li_bipush hC (z := 33) rfl dX12_factor_74 ?_
            refine li_icmp_ne (tgt := 91) hC (by decide) (rg (by omega) (by omega)) (rg (by decide) (by decide)) dX12_factor_76 (fun c39 => ?_) (fun c39 => ?_)
            · refine li_aload_n hC hl 1 rfl dX12_factor_91 ?_
              refine wr_callVv hC (hG (d - 1) (by omega) h0 ad F A S0 ac E (o + 1) (0, t.2.1 + 1, t.2.2) (n - 1) hP (okT_mk (by omega) (by omega) (by omega)) (by first | omega | (dsimp only; omega)) (by first | omega | (dsimp only; omega)) (by first | omega | (dsimp only; omega)) (by first | omega | (dsimp only; omega)) _) mk_X12_some ml_X12_99 (rr (by omega)) ⟨by simp only [rmC]; omega, by simp only [rmC]; omega⟩ hK hS (li_recv hK.1 ck_X12 (hS.1 0 _ rfl)) rfl hl.1 rfl (Nat.le_of_ble_eq_true rfl) dX12_factor_92 (fun w H locs hp hS => ?_)
              have hp : w = RW g h0 ad (va_up (va_up (va_up (va_up (va_up F 4 ac) 5 ((pT S0 E (n - 1) 2 (o + 1) (0, t.2.1 + 1, t.2.2)).2.1)) 6 E) 7 ((pT S0 E (n - 1) 2 (o + 1) (0, t.2.1 + 1, t.2.2)).1)) 8 (o + 1)) (va_up A 1 (emS S0 ac (pT S0 E (n - 1) 2 (o + 1) (0, t.2.1 + 1, t.2.2)).2.2)) := hp
              obtain ⟨t40, ht40⟩ : ∃ z : PT, z = pT S0 E (n - 1) 2 (o + 1) (0, t.2.1 + 1, t.2.2) := ⟨_, rfl⟩
              rw [← ht40] at hp
              subst hp
              obtain ⟨okt40, get40⟩ := (pT_ok hP (n - 1) 2 (o + 1) (0, t.2.1 + 1, t.2.2) (okT_mk (by omega) (by omega) (by omega)))
              rw [← ht40] at okt40 get40
              have t40a := okt40.1; have t40b := okt40.2.1; have t40c := okt40.2.2; have t40d := get40.1; have t40e := get40.2; try dsimp only at t40d t40e
              refine li_aload_n hC hl 1 rfl dX12_factor_95 ?_
              refine li_bipush hC (z := 41) rfl dX12_factor_96 ?_
              refine wr_callVv hC (c_X12_must l g h0 ad F A S0 ac E (o + 1) t40 41 hP okt40 (by omega) _) mk_X12_must ml_X12_83 (rr (by omega)) ⟨by simp only [rmC]; omega, by simp only [rmC]; omega⟩ hK hS (li_recv hK.1 ck_X12 (hS.1 0 _ rfl)) rfl hl.1 rfl (Nat.le_of_ble_eq_true rfl) dX12_factor_98 (fun w H locs hp hS => ?_)
              have hp : w = RW g h0 ad (va_up (va_up (va_up (va_up (va_up F 4 ac) 5 ((mustT S0 E 41 t40).2.1)) 6 E) 7 ((mustT S0 E 41 t40).1)) 8 (o + 1)) (va_up A 1 (emS S0 ac (mustT S0 E 41 t40).2.2)) := hp
              obtain ⟨t41, ht41⟩ : ∃ z : PT, z = mustT S0 E 41 t40 := ⟨_, rfl⟩
              rw [← ht41] at hp
              subst hp
              obtain ⟨okt41, get41⟩ := mustT_ok (c := 41) hP okt40 (by omega)
              rw [← ht41] at okt41 get41
              have t41a := okt41.1; have t41b := okt41.2.1; have t41c := okt41.2.2; have t41d := get41.1; have t41e := get41.2; try dsimp only at t41d t41e
              refine li_aload_n hC hl 1 rfl dX12_factor_101 ?_
              refine li_dup hC rfl dX12_factor_102 ?_
              refine li_get hC hK.1 ck_X12 (hS.1 0 _ rfl) 8 (by decide) fl_X12_90 rfl (v := .int (iI (o + 1))) rfl dX12_factor_103 ?_
              refine li_iconst hC dX12_factor_106 ?_
              refine li_isub hC dX12_factor_107 ?_
              refine li_put hC hK hS ck_X12 0 rfl 8 (by decide) fl_X12_90 rfl rfl (v := .int (iI ((o + 1) - 1))) rfl rfl (Nat.le_of_ble_eq_true rfl) (ws' := RW g h0 ad (va_up (va_up (va_up (va_up (va_up F 4 ac) 5 t41.2.1) 6 E) 7 t41.1) 8 ((o + 1) - 1)) (va_up A 1 (emS S0 ac t41.2.2))) rfl dX12_factor_108 (fun H locs hS => ?_)
              rw [show (o + 1) - 1 = o by omega] at hS
              exact hQ _ _ _ _ _ _ _ dX12_factor_111 hS (by omega) (by omega) (by first | (exfalso; omega) | skip; have e9 : pT S0 E n 0 o t = t41 := (by rw [pT_s0 (by omega) (by omega), if_neg (by omega), if_pos (by assumption), if_neg (by assumption), if_neg (by assumption), ← ht40, ← ht41]); rw [e9])
            · refine li_aload_n hC hl 1 rfl dX12_factor_79 ?_
              refine wr_callVv hC (hF (d - 1) (by omega) h0 ad F A S0 ac E (o + 1) (0, t.2.1 + 1, t.2.2) (n - 1) hP (okT_mk (by omega) (by omega) (by omega)) (by first | omega | (dsimp only; omega)) (by first | omega | (dsimp only; omega)) (by first | omega | (dsimp only; omega)) (by first | omega | (dsimp only; omega)) _) mk_X12_factor ml_X12_93 (rr (by omega)) ⟨by simp only [rmC]; omega, by simp only [rmC]; omega⟩ hK hS (li_recv hK.1 ck_X12 (hS.1 0 _ rfl)) rfl hl.1 rfl (Nat.le_of_ble_eq_true rfl) dX12_factor_80 (fun w H locs hp hS => ?_)
              have hp : w = RW g h0 ad (va_up (va_up (va_up (va_up (va_up F 4 ac) 5 ((pT S0 E (n - 1) 0 (o + 1) (0, t.2.1 + 1, t.2.2)).2.1)) 6 E) 7 ((pT S0 E (n - 1) 0 (o + 1) (0, t.2.1 + 1, t.2.2)).1)) 8 (o + 1)) (va_up A 1 (emS S0 ac (pT S0 E (n - 1) 0 (o + 1) (0, t.2.1 + 1, t.2.2)).2.2)) := hp
              obtain ⟨t42, ht42⟩ : ∃ z : PT, z = pT S0 E (n - 1) 0 (o + 1) (0, t.2.1 + 1, t.2.2) := ⟨_, rfl⟩
              rw [← ht42] at hp
              subst hp
              obtain ⟨okt42, get42⟩ := (pT_ok hP (n - 1) 0 (o + 1) (0, t.2.1 + 1, t.2.2) (okT_mk (by omega) (by omega) (by omega)))
              rw [← ht42] at okt42 get42
              have t42a := okt42.1; have t42b := okt42.2.1; have t42c := okt42.2.2; have t42d := get42.1; have t42e := get42.2; try dsimp only at t42d t42e
              refine li_aload_n hC hl 1 rfl dX12_factor_83 ?_
              refine li_iconst hC dX12_factor_84 ?_
              refine wr_callVv hC (c_X12_emits l g h0 ad F A S0 ac E (o + 1) t42 (-1) hP okt42 (by omega) _) mk_X12_emits ml_X12_96 (rr (by omega)) ⟨by simp only [rmC]; omega, by simp only [rmC]; omega⟩ hK hS (li_recv hK.1 ck_X12 (hS.1 0 _ rfl)) rfl hl.1 rfl (Nat.le_of_ble_eq_true rfl) dX12_factor_85 (fun w H locs hp hS => ?_)
              have hp : w = RW g h0 ad (va_up (va_up (va_up (va_up (va_up F 4 ac) 5 ((emitT (-1) t42).2.1)) 6 E) 7 ((emitT (-1) t42).1)) 8 (o + 1)) (va_up A 1 (emS S0 ac (emitT (-1) t42).2.2)) := hp
              obtain ⟨t43, ht43⟩ : ∃ z : PT, z = emitT (-1) t42 := ⟨_, rfl⟩
              rw [← ht43] at hp
              subst hp
              obtain ⟨okt43, t43f, t43h, t43g⟩ := emitT_ok (x := -1) okt42 (by omega)
              rw [← ht43] at okt43 t43f t43h t43g
              have t43a := okt43.1; have t43b := okt43.2.1; have t43c := okt43.2.2
              refine li_goto (tgt := 101) hC (by decide) dX12_factor_88 ?_
              refine li_aload_n hC hl 1 rfl dX12_factor_101 ?_
              refine li_dup hC rfl dX12_factor_102 ?_
              refine li_get hC hK.1 ck_X12 (hS.1 0 _ rfl) 8 (by decide) fl_X12_90 rfl (v := .int (iI (o + 1))) rfl dX12_factor_103 ?_
              refine li_iconst hC dX12_factor_106 ?_
              refine li_isub hC dX12_factor_107 ?_
              refine li_put hC hK hS ck_X12 0 rfl 8 (by decide) fl_X12_90 rfl rfl (v := .int (iI ((o + 1) - 1))) rfl rfl (Nat.le_of_ble_eq_true rfl) (ws' := RW g h0 ad (va_up (va_up (va_up (va_up (va_up F 4 ac) 5 t43.2.1) 6 E) 7 t43.1) 8 ((o + 1) - 1)) (va_up A 1 (emS S0 ac t43.2.2))) rfl dX12_factor_108 (fun H locs hS => ?_)
              rw [show (o + 1) - 1 = o by omega] at hS
              exact hQ _ _ _ _ _ _ _ dX12_factor_111 hS (by omega) (by omega) (by first | (exfalso; omega) | skip; have e9 : pT S0 E n 0 o t = t43 := (by rw [pT_s0 (by omega) (by omega), if_pos (by assumption), if_neg (by assumption), if_neg (by assumption), ← ht42, ← ht43]); rw [e9])
          · exact absurd c38 (by decide)
        · refine li_iconst hC dX12_factor_34 ?_
          refine li_goto (tgt := 39) hC (by decide) dX12_factor_35 ?_
          refine li_put hC hK hS ck_X12 0 rfl 7 (by decide) fl_X12_66 rfl rfl (v := .int (iI 1)) (nar_01 (Or.inr rfl)) (fit_01 (Or.inr rfl)) (Nat.le_of_ble_eq_true rfl) (ws' := RW g h0 ad (va_up (va_up (va_up (va_up (va_up F 4 ac) 5 t.2.1) 6 E) 7 1) 8 o) (va_up A 1 (emS S0 ac t.2.2))) rfl dX12_factor_39 (fun H locs hS => ?_)
          refine li_aload_n hC hl 1 rfl dX12_factor_42 ?_
          refine li_dup hC rfl dX12_factor_43 ?_
          refine li_get hC hK.1 ck_X12 (hS.1 0 _ rfl) 8 (by decide) fl_X12_90 rfl (v := .int (iI o)) rfl dX12_factor_44 ?_
          refine li_iconst hC dX12_factor_47 ?_
          refine li_iadd hC dX12_factor_48 ?_
          refine li_put hC hK hS ck_X12 0 rfl 8 (by decide) fl_X12_90 rfl rfl (v := .int (iI (o + 1))) rfl rfl (Nat.le_of_ble_eq_true rfl) (ws' := RW g h0 ad (va_up (va_up (va_up (va_up (va_up F 4 ac) 5 t.2.1) 6 E) 7 1) 8 (o + 1)) (va_up A 1 (emS S0 ac t.2.2))) rfl dX12_factor_49 (fun H locs hS => ?_)
          refine li_aload_n hC hl 1 rfl dX12_factor_52 ?_
          refine li_dup hC rfl dX12_factor_53 ?_
          refine li_get hC hK.1 ck_X12 (hS.1 0 _ rfl) 5 (by decide) fl_X12_60 rfl (v := .int (iI t.2.1)) rfl dX12_factor_54 ?_
          refine li_aload_n hC hl 1 rfl dX12_factor_57 ?_
          refine li_get hC hK.1 ck_X12 (hS.1 0 _ rfl) 7 (by decide) fl_X12_66 rfl (v := .int (iI 1)) rfl dX12_factor_58 ?_
          refine li_if_eq (tgt := 68) hC (by decide) (rg (by decide) (by decide)) dX12_factor_61 (fun c44 => ?_) (fun c44 => ?_)
          · exact absurd c44 (by decide)
          · refine li_iconst hC dX12_factor_64 ?_
            refine li_goto (tgt := 69) hC (by decide) dX12_factor_65 ?_
            refine li_iadd hC dX12_factor_69 ?_
            refine li_put hC hK hS ck_X12 0 rfl 5 (by decide) fl_X12_60 rfl rfl (v := .int (iI (t.2.1 + 0))) rfl rfl (Nat.le_of_ble_eq_true rfl) (ws' := RW g h0 ad (va_up (va_up (va_up (va_up (va_up F 4 ac) 5 (t.2.1 + 0)) 6 E) 7 1) 8 (o + 1)) (va_up A 1 (emS S0 ac t.2.2))) rfl dX12_factor_70 (fun H locs hS => ?_)
            rw [Int.add_zero] at hS
            refine li_iload_n hC hl 0 rfl dX12_factor_73 ?_
            refine li_bipush hC (z := 33) rfl dX12_factor_74 ?_
            refine li_icmp_ne (tgt := 91) hC (by decide) (rg (by omega) (by omega)) (rg (by decide) (by decide)) dX12_factor_76 (fun c45 => ?_) (fun c45 => ?_)
            · refine li_aload_n hC hl 1 rfl dX12_factor_91 ?_
              refine wr_callVv hC (hG (d - 1) (by omega) h0 ad F A S0 ac E (o + 1) (1, t.2.1, t.2.2) (n - 1) hP (okT_mk (by omega) (by omega) (by omega)) (by first | omega | (dsimp only; omega)) (by first | omega | (dsimp only; omega)) (by first | omega | (dsimp only; omega)) (by first | omega | (dsimp only; omega)) _) mk_X12_some ml_X12_99 (rr (by omega)) ⟨by simp only [rmC]; omega, by simp only [rmC]; omega⟩ hK hS (li_recv hK.1 ck_X12 (hS.1 0 _ rfl)) rfl hl.1 rfl (Nat.le_of_ble_eq_true rfl) dX12_factor_92 (fun w H locs hp hS => ?_)
              have hp : w = RW g h0 ad (va_up (va_up (va_up (va_up (va_up F 4 ac) 5 ((pT S0 E (n - 1) 2 (o + 1) (1, t.2.1, t.2.2)).2.1)) 6 E) 7 ((pT S0 E (n - 1) 2 (o + 1) (1, t.2.1, t.2.2)).1)) 8 (o + 1)) (va_up A 1 (emS S0 ac (pT S0 E (n - 1) 2 (o + 1) (1, t.2.1, t.2.2)).2.2)) := hp
              obtain ⟨t46, ht46⟩ : ∃ z : PT, z = pT S0 E (n - 1) 2 (o + 1) (1, t.2.1, t.2.2) := ⟨_, rfl⟩
              rw [← ht46] at hp
              subst hp
              obtain ⟨okt46, get46⟩ := (pT_ok hP (n - 1) 2 (o + 1) (1, t.2.1, t.2.2) (okT_mk (by omega) (by omega) (by omega)))
              rw [← ht46] at okt46 get46
              have t46a := okt46.1; have t46b := okt46.2.1; have t46c := okt46.2.2; have t46d := get46.1; have t46e := get46.2; try dsimp only at t46d t46e
              have t46z := pT_t ht46 rfl
              have t46y : t46.1 = 1 := by rw [t46z]
              refine li_aload_n hC hl 1 rfl dX12_factor_95 ?_
              refine li_bipush hC (z := 41) rfl dX12_factor_96 ?_
              refine wr_callVv hC (c_X12_must l g h0 ad F A S0 ac E (o + 1) t46 41 hP okt46 (by omega) _) mk_X12_must ml_X12_83 (rr (by omega)) ⟨by simp only [rmC]; omega, by simp only [rmC]; omega⟩ hK hS (li_recv hK.1 ck_X12 (hS.1 0 _ rfl)) rfl hl.1 rfl (Nat.le_of_ble_eq_true rfl) dX12_factor_98 (fun w H locs hp hS => ?_)
              have hp : w = RW g h0 ad (va_up (va_up (va_up (va_up (va_up F 4 ac) 5 ((mustT S0 E 41 t46).2.1)) 6 E) 7 ((mustT S0 E 41 t46).1)) 8 (o + 1)) (va_up A 1 (emS S0 ac (mustT S0 E 41 t46).2.2)) := hp
              obtain ⟨t47, ht47⟩ : ∃ z : PT, z = mustT S0 E 41 t46 := ⟨_, rfl⟩
              rw [← ht47] at hp
              subst hp
              obtain ⟨okt47, get47⟩ := mustT_ok (c := 41) hP okt46 (by omega)
              rw [← ht47] at okt47 get47
              have t47a := okt47.1; have t47b := okt47.2.1; have t47c := okt47.2.2; have t47d := get47.1; have t47e := get47.2; try dsimp only at t47d t47e
              refine li_aload_n hC hl 1 rfl dX12_factor_101 ?_
              refine li_dup hC rfl dX12_factor_102 ?_
              refine li_get hC hK.1 ck_X12 (hS.1 0 _ rfl) 8 (by decide) fl_X12_90 rfl (v := .int (iI (o + 1))) rfl dX12_factor_103 ?_
              refine li_iconst hC dX12_factor_106 ?_
              refine li_isub hC dX12_factor_107 ?_
              refine li_put hC hK hS ck_X12 0 rfl 8 (by decide) fl_X12_90 rfl rfl (v := .int (iI ((o + 1) - 1))) rfl rfl (Nat.le_of_ble_eq_true rfl) (ws' := RW g h0 ad (va_up (va_up (va_up (va_up (va_up F 4 ac) 5 t47.2.1) 6 E) 7 t47.1) 8 ((o + 1) - 1)) (va_up A 1 (emS S0 ac t47.2.2))) rfl dX12_factor_108 (fun H locs hS => ?_)
              rw [show (o + 1) - 1 = o by omega] at hS
              exact hQ _ _ _ _ _ _ _ dX12_factor_111 hS (by omega) (by omega) (by first | (exfalso; omega) | skip; have e9 : pT S0 E n 0 o t = t47 := (by rw [pT_s0 (by omega) (by omega), if_neg (by omega), if_pos (by assumption), if_pos (by assumption), if_pos (by assumption), ← ht46, ← ht47]); rw [e9])
            · refine li_aload_n hC hl 1 rfl dX12_factor_79 ?_
              refine wr_callVv hC (hF (d - 1) (by omega) h0 ad F A S0 ac E (o + 1) (1, t.2.1, t.2.2) (n - 1) hP (okT_mk (by omega) (by omega) (by omega)) (by first | omega | (dsimp only; omega)) (by first | omega | (dsimp only; omega)) (by first | omega | (dsimp only; omega)) (by first | omega | (dsimp only; omega)) _) mk_X12_factor ml_X12_93 (rr (by omega)) ⟨by simp only [rmC]; omega, by simp only [rmC]; omega⟩ hK hS (li_recv hK.1 ck_X12 (hS.1 0 _ rfl)) rfl hl.1 rfl (Nat.le_of_ble_eq_true rfl) dX12_factor_80 (fun w H locs hp hS => ?_)
              have hp : w = RW g h0 ad (va_up (va_up (va_up (va_up (va_up F 4 ac) 5 ((pT S0 E (n - 1) 0 (o + 1) (1, t.2.1, t.2.2)).2.1)) 6 E) 7 ((pT S0 E (n - 1) 0 (o + 1) (1, t.2.1, t.2.2)).1)) 8 (o + 1)) (va_up A 1 (emS S0 ac (pT S0 E (n - 1) 0 (o + 1) (1, t.2.1, t.2.2)).2.2)) := hp
              obtain ⟨t48, ht48⟩ : ∃ z : PT, z = pT S0 E (n - 1) 0 (o + 1) (1, t.2.1, t.2.2) := ⟨_, rfl⟩
              rw [← ht48] at hp
              subst hp
              obtain ⟨okt48, get48⟩ := (pT_ok hP (n - 1) 0 (o + 1) (1, t.2.1, t.2.2) (okT_mk (by omega) (by omega) (by omega)))
              rw [← ht48] at okt48 get48
              have t48a := okt48.1; have t48b := okt48.2.1; have t48c := okt48.2.2; have t48d := get48.1; have t48e := get48.2; try dsimp only at t48d t48e
              have t48z := pT_t ht48 rfl
              have t48y : t48.1 = 1 := by rw [t48z]
              refine li_aload_n hC hl 1 rfl dX12_factor_83 ?_
              refine li_iconst hC dX12_factor_84 ?_
              refine wr_callVv hC (c_X12_emits l g h0 ad F A S0 ac E (o + 1) t48 (-1) hP okt48 (by omega) _) mk_X12_emits ml_X12_96 (rr (by omega)) ⟨by simp only [rmC]; omega, by simp only [rmC]; omega⟩ hK hS (li_recv hK.1 ck_X12 (hS.1 0 _ rfl)) rfl hl.1 rfl (Nat.le_of_ble_eq_true rfl) dX12_factor_85 (fun w H locs hp hS => ?_)
              have hp : w = RW g h0 ad (va_up (va_up (va_up (va_up (va_up F 4 ac) 5 ((emitT (-1) t48).2.1)) 6 E) 7 ((emitT (-1) t48).1)) 8 (o + 1)) (va_up A 1 (emS S0 ac (emitT (-1) t48).2.2)) := hp
              obtain ⟨t49, ht49⟩ : ∃ z : PT, z = emitT (-1) t48 := ⟨_, rfl⟩
              rw [← ht49] at hp
              subst hp
              obtain ⟨okt49, t49f, t49h, t49g⟩ := emitT_ok (x := -1) okt48 (by omega)
              rw [← ht49] at okt49 t49f t49h t49g
              have t49a := okt49.1; have t49b := okt49.2.1; have t49c := okt49.2.2
              refine li_goto (tgt := 101) hC (by decide) dX12_factor_88 ?_
              refine li_aload_n hC hl 1 rfl dX12_factor_101 ?_
              refine li_dup hC rfl dX12_factor_102 ?_
              refine li_get hC hK.1 ck_X12 (hS.1 0 _ rfl) 8 (by decide) fl_X12_90 rfl (v := .int (iI (o + 1))) rfl dX12_factor_103 ?_
              refine li_iconst hC dX12_factor_106 ?_
              refine li_isub hC dX12_factor_107 ?_
              refine li_put hC hK hS ck_X12 0 rfl 8 (by decide) fl_X12_90 rfl rfl (v := .int (iI ((o + 1) - 1))) rfl rfl (Nat.le_of_ble_eq_true rfl) (ws' := RW g h0 ad (va_up (va_up (va_up (va_up (va_up F 4 ac) 5 t49.2.1) 6 E) 7 t49.1) 8 ((o + 1) - 1)) (va_up A 1 (emS S0 ac t49.2.2))) rfl dX12_factor_108 (fun H locs hS => ?_)
              rw [show (o + 1) - 1 = o by omega] at hS
              exact hQ _ _ _ _ _ _ _ dX12_factor_111 hS (by omega) (by omega) (by first | (exfalso; omega) | skip; have e9 : pT S0 E n 0 o t = t49 := (by rw [pT_s0 (by omega) (by omega), if_pos (by assumption), if_pos (by assumption), if_pos (by assumption), ← ht48, ← ht49]); rw [e9])
  · exact hQ _ _ _ _ _ _ _ dX12_factor_7 hS (by omega) (by omega) (by rw [pT_w n 0 o t (by assumption)])
set_option maxHeartbeats 4000000 in
set_option maxRecDepth 100000 in
theorem c_eve (l : Launch) (g : GG) (d : Nat) (hF : FacP l g d) : EveP l g d := by
  intro h0 ad F A S0 ac E o t n hP ht hd ho hw6 hn sz
  refine wr_startV (own := RX12) (by decide) rfl (Nat.le_of_ble_eq_true rfl) ?_
  intro Pg Ev s Mi args below Mt Cd ls Q Aw hC hK hS hnm hl hQ
  have hta := ht.1; have htb := ht.2.1; have htc := ht.2.2; have hPa := hP.1; have hPb := hP.2.1
  have hl : lv_has ls 1 [(0, .ref h0)] := hl
  obtain ⟨H, hH⟩ : ∃ H, H = s.heap := ⟨_, rfl⟩
  obtain ⟨locs, hlo⟩ : ∃ locs : List Loc, locs = [] := ⟨_, rfl⟩
  have hS : St g Aw s.heap H locs (RW g h0 ad (va_up (va_up (va_up (va_up (va_up F 4 ac) 5 t.2.1) 6 E) 7 t.1) 8 o) (va_up A 1 (emS S0 ac t.2.2))) := by rw [hH, hlo]; exact hS
  have goal : W Pg l Ev (rmC (8 + 3 * d) 0 0) s Mi args below Mt Cd H locs 0 0 Q (F0 Mi 0 ls []) := ?goal
  · rw [hH, hlo] at goal; exact goal
  clear hH hlo
  refine li_aload_n hC hl 0 rfl dX12_every_0 ?_
  refine wr_callVv hC (hF h0 ad F A S0 ac E o t (n - 1) hP ht (by omega) (by omega) (by omega) (by omega) _) mk_X12_factor ml_X12_93 (rr (by omega)) ⟨by simp only [rmC]; omega, by simp only [rmC]; omega⟩ hK hS (li_recv hK.1 ck_X12 (hS.1 0 _ rfl)) rfl hl.1 rfl (Nat.le_of_ble_eq_true rfl) dX12_every_1 (fun w H locs hp hS => ?_)
  have hp : w = RW g h0 ad (va_up (va_up (va_up (va_up (va_up F 4 ac) 5 ((pT S0 E (n - 1) 0 o t).2.1)) 6 E) 7 ((pT S0 E (n - 1) 0 o t).1)) 8 o) (va_up A 1 (emS S0 ac (pT S0 E (n - 1) 0 o t).2.2)) := hp
  obtain ⟨t1, ht1⟩ : ∃ z : PT, z = pT S0 E (n - 1) 0 o t := ⟨_, rfl⟩
  rw [← ht1] at hp
  subst hp
  obtain ⟨okt1, get1⟩ := (pT_ok hP (n - 1) 0 o t ht)
  rw [← ht1] at okt1 get1
  have t1a := okt1.1; have t1b := okt1.2.1; have t1c := okt1.2.2; have t1d := get1.1; have t1e := get1.2; try dsimp only at t1d t1e
  have L4_2 : ∀ (fuel : Nat) (u : PT) (m : Nat) (ls : Array Slot) (H : Heap) (locs : List Loc), St g Aw s.heap H locs (RW g h0 ad (va_up (va_up (va_up (va_up (va_up F 4 ac) 5 u.2.1) 6 E) 7 u.1) 8 o) (va_up A 1 (emS S0 ac u.2.2))) → lv_has ls 1 [(0, .ref h0)] → (okT E u) → (u.1 = 0 → 4 * (E - u.2.1) + 1 ≤ (m : Int)) → (o = 6 → u.1 = 1) → (pT S0 E (n - 1) 3 o t1 = pT S0 E m 3 o u) → ((E - u.2.1).toNat) < fuel → W Pg l Ev (rmC (8 + 3 * d) 0 0) s Mi args below Mt Cd H locs 0 0 Q (F0 Mi 4 ls []) := by
    intro fuel
    induction fuel with
    | zero => intro u m ls H locs hS hl hu hu2 hu6 hu3 hm; exact absurd hm (Nat.not_lt_zero _)
    | succ fuel ih4 =>
      intro u m ls H locs hS hl hu hu2 hu6 hu3 hm
      have hua := hu.1; have hub := hu.2.1; have huc := hu.2.2
      refine li_aload_n hC hl 0 rfl dX12_every_4 ?_
      refine li_get hC hK.1 ck_X12 (hS.1 0 _ rfl) 7 (by decide) fl_X12_66 rfl (v := .int (iI u.1)) rfl dX12_every_5 ?_
      refine li_if_ne (tgt := 43) hC (by decide) (rg (by omega) (by omega)) dX12_every_8 (fun c3 => ?_) (fun c3 => ?_)
      · exact hQ _ _ _ _ _ _ _ dX12_every_43 hS (by omega) (by omega) (by have e8 := pT_e3 (S := S0) (E := E) (o := o) (n := m) (t := u) (by omega); have e9 : pT S0 E n 1 o t = u := (by rcases (show t.1 = 0 ∨ t.1 = 1 by omega) with h9 | h9; { rw [pT_s1 (by omega), ← ht1, hu3, e8] }; { rw [pT_w n 1 o t (by omega)]; have e7 := hu3; rw [e8, pT_t ht1 h9, pT_w _ _ _ _ (by omega)] at e7; exact e7 }); rw [e9])
      · refine li_aload_n hC hl 0 rfl dX12_every_11 ?_
        refine wr_callVi hC (c_X12_here l g h0 ad F A S0 ac E o u hP hu _) mk_X12_here ml_X12_70 (rr (by omega)) ⟨by simp only [rmC]; omega, by simp only [rmC]; omega⟩ hK hS (li_recv hK.1 ck_X12 (hS.1 0 _ rfl)) rfl hl.1 rfl (Nat.le_of_ble_eq_true rfl) dX12_every_12 (fun v w H locs hp hS => ?_)
        obtain ⟨hp1, hp2⟩ := hp
        have hp1 : v = iI (hereT S0 E u.2.1) := hp1
        have hp2 : w = RW g h0 ad (va_up (va_up (va_up (va_up (va_up F 4 ac) 5 u.2.1) 6 E) 7 u.1) 8 o) (va_up A 1 (emS S0 ac u.2.2)) := hp2
        subst hp1 hp2
        have q4 := hereT_rng hP (q := u.2.1) (by omega)
        refine li_bipush hC (z := 38) rfl dX12_every_15 ?_
        refine li_icmp_ne (tgt := 43) hC (by decide) (rg (by omega) (by omega)) (rg (by decide) (by decide)) dX12_every_17 (fun c5 => ?_) (fun c5 => ?_)
        · exact hQ _ _ _ _ _ _ _ dX12_every_43 hS (by omega) (by omega) (by have e8 := pT_e3 (S := S0) (E := E) (o := o) (n := m) (t := u) (by omega); have e9 : pT S0 E n 1 o t = u := (by rcases (show t.1 = 0 ∨ t.1 = 1 by omega) with h9 | h9; { rw [pT_s1 (by omega), ← ht1, hu3, e8] }; { rw [pT_w n 1 o t (by omega)]; have e7 := hu3; rw [e8, pT_t ht1 h9, pT_w _ _ _ _ (by omega)] at e7; exact e7 }); rw [e9])
        · refine li_aload_n hC hl 0 rfl dX12_every_20 ?_
          refine li_dup hC rfl dX12_every_21 ?_
          refine li_get hC hK.1 ck_X12 (hS.1 0 _ rfl) 5 (by decide) fl_X12_60 rfl (v := .int (iI u.2.1)) rfl dX12_every_22 ?_
          refine li_iconst hC dX12_every_25 ?_
          refine li_iadd hC dX12_every_26 ?_
          refine li_put hC hK hS ck_X12 0 rfl 5 (by decide) fl_X12_60 rfl rfl (v := .int (iI (u.2.1 + 1))) rfl rfl (Nat.le_of_ble_eq_true rfl) (ws' := RW g h0 ad (va_up (va_up (va_up (va_up (va_up F 4 ac) 5 (u.2.1 + 1)) 6 E) 7 u.1) 8 o) (va_up A 1 (emS S0 ac u.2.2))) rfl dX12_every_27 (fun H locs hS => ?_)
          refine li_aload_n hC hl 0 rfl dX12_every_30 ?_
          refine wr_callVv hC (hF h0 ad F A S0 ac E o (u.1, u.2.1 + 1, u.2.2) (m - 1) hP (okT_mk (by omega) (by omega) (by omega)) (by first | omega | (dsimp only; omega)) (by first | omega | (dsimp only; omega)) (by first | omega | (dsimp only; omega)) (by first | omega | (dsimp only; omega)) _) mk_X12_factor ml_X12_93 (rr (by omega)) ⟨by simp only [rmC]; omega, by simp only [rmC]; omega⟩ hK hS (li_recv hK.1 ck_X12 (hS.1 0 _ rfl)) rfl hl.1 rfl (Nat.le_of_ble_eq_true rfl) dX12_every_31 (fun w H locs hp hS => ?_)
          have hp : w = RW g h0 ad (va_up (va_up (va_up (va_up (va_up F 4 ac) 5 ((pT S0 E (m - 1) 0 o (u.1, u.2.1 + 1, u.2.2)).2.1)) 6 E) 7 ((pT S0 E (m - 1) 0 o (u.1, u.2.1 + 1, u.2.2)).1)) 8 o) (va_up A 1 (emS S0 ac (pT S0 E (m - 1) 0 o (u.1, u.2.1 + 1, u.2.2)).2.2)) := hp
          obtain ⟨t6, ht6⟩ : ∃ z : PT, z = pT S0 E (m - 1) 0 o (u.1, u.2.1 + 1, u.2.2) := ⟨_, rfl⟩
          rw [← ht6] at hp
          subst hp
          obtain ⟨okt6, get6⟩ := (pT_ok hP (m - 1) 0 o (u.1, u.2.1 + 1, u.2.2) (okT_mk (by omega) (by omega) (by omega)))
          rw [← ht6] at okt6 get6
          have t6a := okt6.1; have t6b := okt6.2.1; have t6c := okt6.2.2; have t6d := get6.1; have t6e := get6.2; try dsimp only at t6d t6e
          refine li_aload_n hC hl 0 rfl dX12_every_34 ?_
          refine li_bipush hC (z := -2) rfl dX12_every_35 ?_
          refine wr_callVv hC (c_X12_emits l g h0 ad F A S0 ac E o t6 (-2) hP okt6 (by omega) _) mk_X12_emits ml_X12_96 (rr (by omega)) ⟨by simp only [rmC]; omega, by simp only [rmC]; omega⟩ hK hS (li_recv hK.1 ck_X12 (hS.1 0 _ rfl)) rfl hl.1 rfl (Nat.le_of_ble_eq_true rfl) dX12_every_37 (fun w H locs hp hS => ?_)
          have hp : w = RW g h0 ad (va_up (va_up (va_up (va_up (va_up F 4 ac) 5 ((emitT (-2) t6).2.1)) 6 E) 7 ((emitT (-2) t6).1)) 8 o) (va_up A 1 (emS S0 ac (emitT (-2) t6).2.2)) := hp
          obtain ⟨t7, ht7⟩ : ∃ z : PT, z = emitT (-2) t6 := ⟨_, rfl⟩
          rw [← ht7] at hp
          subst hp
          obtain ⟨okt7, t7f, t7h, t7g⟩ := emitT_ok (x := -2) okt6 (by omega)
          rw [← ht7] at okt7 t7f t7h t7g
          have t7a := okt7.1; have t7b := okt7.2.1; have t7c := okt7.2.2
          refine li_goto (tgt := 4) hC (by decide) dX12_every_40 ?_
          exact ih4 t7 (m - 1) _ _ _ hS (lv_sub hl [0] rfl) (by exact okt7) (by omega) (by omega) (by rw [hu3, pT_s3 (by omega) (by assumption) (by assumption), ← ht6, ← ht7]) (by omega)
  exact L4_2 (((E - t1.2.1).toNat) + 1) t1 (n - 1) _ _ _ hS (lv_sub hl [0] rfl) (by exact okt1) (by rcases (show t.1 = 0 ∨ t.1 = 1 by omega) with h9 | h9; { omega }; { rw [pT_t ht1 h9]; omega }) (by intro h9; rw [pT_t ht1 (by omega)]; omega) (by rfl) (by omega)
set_option maxHeartbeats 4000000 in
set_option maxRecDepth 100000 in
theorem c_som (l : Launch) (g : GG) (d : Nat) (hF : EveP l g d) : SomP l g d := by
  intro h0 ad F A S0 ac E o t n hP ht hd ho hw6 hn sz
  refine wr_startV (own := RX12) (by decide) rfl (Nat.le_of_ble_eq_true rfl) ?_
  intro Pg Ev s Mi args below Mt Cd ls Q Aw hC hK hS hnm hl hQ
  have hta := ht.1; have htb := ht.2.1; have htc := ht.2.2; have hPa := hP.1; have hPb := hP.2.1
  have hl : lv_has ls 1 [(0, .ref h0)] := hl
  obtain ⟨H, hH⟩ : ∃ H, H = s.heap := ⟨_, rfl⟩
  obtain ⟨locs, hlo⟩ : ∃ locs : List Loc, locs = [] := ⟨_, rfl⟩
  have hS : St g Aw s.heap H locs (RW g h0 ad (va_up (va_up (va_up (va_up (va_up F 4 ac) 5 t.2.1) 6 E) 7 t.1) 8 o) (va_up A 1 (emS S0 ac t.2.2))) := by rw [hH, hlo]; exact hS
  have goal : W Pg l Ev (rmC (9 + 3 * d) 0 0) s Mi args below Mt Cd H locs 0 0 Q (F0 Mi 0 ls []) := ?goal
  · rw [hH, hlo] at goal; exact goal
  clear hH hlo
  refine li_aload_n hC hl 0 rfl dX12_some_0 ?_
  refine wr_callVv hC (hF h0 ad F A S0 ac E o t (n - 1) hP ht (by omega) (by omega) (by omega) (by omega) _) mk_X12_every ml_X12_113 (rr (by omega)) ⟨by simp only [rmC]; omega, by simp only [rmC]; omega⟩ hK hS (li_recv hK.1 ck_X12 (hS.1 0 _ rfl)) rfl hl.1 rfl (Nat.le_of_ble_eq_true rfl) dX12_some_1 (fun w H locs hp hS => ?_)
  have hp : w = RW g h0 ad (va_up (va_up (va_up (va_up (va_up F 4 ac) 5 ((pT S0 E (n - 1) 1 o t).2.1)) 6 E) 7 ((pT S0 E (n - 1) 1 o t).1)) 8 o) (va_up A 1 (emS S0 ac (pT S0 E (n - 1) 1 o t).2.2)) := hp
  obtain ⟨t1, ht1⟩ : ∃ z : PT, z = pT S0 E (n - 1) 1 o t := ⟨_, rfl⟩
  rw [← ht1] at hp
  subst hp
  obtain ⟨okt1, get1⟩ := (pT_ok hP (n - 1) 1 o t ht)
  rw [← ht1] at okt1 get1
  have t1a := okt1.1; have t1b := okt1.2.1; have t1c := okt1.2.2; have t1d := get1.1; have t1e := get1.2; try dsimp only at t1d t1e
  have L4_2 : ∀ (fuel : Nat) (u : PT) (m : Nat) (ls : Array Slot) (H : Heap) (locs : List Loc), St g Aw s.heap H locs (RW g h0 ad (va_up (va_up (va_up (va_up (va_up F 4 ac) 5 u.2.1) 6 E) 7 u.1) 8 o) (va_up A 1 (emS S0 ac u.2.2))) → lv_has ls 1 [(0, .ref h0)] → (okT E u) → (u.1 = 0 → 4 * (E - u.2.1) + 1 ≤ (m : Int)) → (o = 6 → u.1 = 1) → (pT S0 E (n - 1) 4 o t1 = pT S0 E m 4 o u) → ((E - u.2.1).toNat) < fuel → W Pg l Ev (rmC (9 + 3 * d) 0 0) s Mi args below Mt Cd H locs 0 0 Q (F0 Mi 4 ls []) := by
    intro fuel
    induction fuel with
    | zero => intro u m ls H locs hS hl hu hu2 hu6 hu3 hm; exact absurd hm (Nat.not_lt_zero _)
    | succ fuel ih4 =>
      intro u m ls H locs hS hl hu hu2 hu6 hu3 hm
      have hua := hu.1; have hub := hu.2.1; have huc := hu.2.2
      refine li_aload_n hC hl 0 rfl dX12_some_4 ?_
      refine li_get hC hK.1 ck_X12 (hS.1 0 _ rfl) 7 (by decide) fl_X12_66 rfl (v := .int (iI u.1)) rfl dX12_some_5 ?_
      refine li_if_ne (tgt := 43) hC (by decide) (rg (by omega) (by omega)) dX12_some_8 (fun c3 => ?_) (fun c3 => ?_)
      · exact hQ _ _ _ _ _ _ _ dX12_some_43 hS (by omega) (by omega) (by have e8 := pT_e4 (S := S0) (E := E) (o := o) (n := m) (t := u) (by omega); have e9 : pT S0 E n 2 o t = u := (by rcases (show t.1 = 0 ∨ t.1 = 1 by omega) with h9 | h9; { rw [pT_s2 (by omega), ← ht1, hu3, e8] }; { rw [pT_w n 2 o t (by omega)]; have e7 := hu3; rw [e8, pT_t ht1 h9, pT_w _ _ _ _ (by omega)] at e7; exact e7 }); rw [e9])
      · refine li_aload_n hC hl 0 rfl dX12_some_11 ?_
        refine wr_callVi hC (c_X12_here l g h0 ad F A S0 ac E o u hP hu _) mk_X12_here ml_X12_70 (rr (by omega)) ⟨by simp only [rmC]; omega, by simp only [rmC]; omega⟩ hK hS (li_recv hK.1 ck_X12 (hS.1 0 _ rfl)) rfl hl.1 rfl (Nat.le_of_ble_eq_true rfl) dX12_some_12 (fun v w H locs hp hS => ?_)
        obtain ⟨hp1, hp2⟩ := hp
        have hp1 : v = iI (hereT S0 E u.2.1) := hp1
        have hp2 : w = RW g h0 ad (va_up (va_up (va_up (va_up (va_up F 4 ac) 5 u.2.1) 6 E) 7 u.1) 8 o) (va_up A 1 (emS S0 ac u.2.2)) := hp2
        subst hp1 hp2
        have q4 := hereT_rng hP (q := u.2.1) (by omega)
        refine li_bipush hC (z := 124) rfl dX12_some_15 ?_
        refine li_icmp_ne (tgt := 43) hC (by decide) (rg (by omega) (by omega)) (rg (by decide) (by decide)) dX12_some_17 (fun c5 => ?_) (fun c5 => ?_)
        · exact hQ _ _ _ _ _ _ _ dX12_some_43 hS (by omega) (by omega) (by have e8 := pT_e4 (S := S0) (E := E) (o := o) (n := m) (t := u) (by omega); have e9 : pT S0 E n 2 o t = u := (by rcases (show t.1 = 0 ∨ t.1 = 1 by omega) with h9 | h9; { rw [pT_s2 (by omega), ← ht1, hu3, e8] }; { rw [pT_w n 2 o t (by omega)]; have e7 := hu3; rw [e8, pT_t ht1 h9, pT_w _ _ _ _ (by omega)] at e7; exact e7 }); rw [e9])
        · refine li_aload_n hC hl 0 rfl dX12_some_20 ?_
          refine li_dup hC rfl dX12_some_21 ?_
          refine li_get hC hK.1 ck_X12 (hS.1 0 _ rfl) 5 (by decide) fl_X12_60 rfl (v := .int (iI u.2.1)) rfl dX12_some_22 ?_
          refine li_iconst hC dX12_some_25 ?_
          refine li_iadd hC dX12_some_26 ?_
          refine li_put hC hK hS ck_X12 0 rfl 5 (by decide) fl_X12_60 rfl rfl (v := .int (iI (u.2.1 + 1))) rfl rfl (Nat.le_of_ble_eq_true rfl) (ws' := RW g h0 ad (va_up (va_up (va_up (va_up (va_up F 4 ac) 5 (u.2.1 + 1)) 6 E) 7 u.1) 8 o) (va_up A 1 (emS S0 ac u.2.2))) rfl dX12_some_27 (fun H locs hS => ?_)
          refine li_aload_n hC hl 0 rfl dX12_some_30 ?_
          refine wr_callVv hC (hF h0 ad F A S0 ac E o (u.1, u.2.1 + 1, u.2.2) (m - 1) hP (okT_mk (by omega) (by omega) (by omega)) (by first | omega | (dsimp only; omega)) (by first | omega | (dsimp only; omega)) (by first | omega | (dsimp only; omega)) (by first | omega | (dsimp only; omega)) _) mk_X12_every ml_X12_113 (rr (by omega)) ⟨by simp only [rmC]; omega, by simp only [rmC]; omega⟩ hK hS (li_recv hK.1 ck_X12 (hS.1 0 _ rfl)) rfl hl.1 rfl (Nat.le_of_ble_eq_true rfl) dX12_some_31 (fun w H locs hp hS => ?_)
          have hp : w = RW g h0 ad (va_up (va_up (va_up (va_up (va_up F 4 ac) 5 ((pT S0 E (m - 1) 1 o (u.1, u.2.1 + 1, u.2.2)).2.1)) 6 E) 7 ((pT S0 E (m - 1) 1 o (u.1, u.2.1 + 1, u.2.2)).1)) 8 o) (va_up A 1 (emS S0 ac (pT S0 E (m - 1) 1 o (u.1, u.2.1 + 1, u.2.2)).2.2)) := hp
          obtain ⟨t6, ht6⟩ : ∃ z : PT, z = pT S0 E (m - 1) 1 o (u.1, u.2.1 + 1, u.2.2) := ⟨_, rfl⟩
          rw [← ht6] at hp
          subst hp
          obtain ⟨okt6, get6⟩ := (pT_ok hP (m - 1) 1 o (u.1, u.2.1 + 1, u.2.2) (okT_mk (by omega) (by omega) (by omega)))
          rw [← ht6] at okt6 get6
          have t6a := okt6.1; have t6b := okt6.2.1; have t6c := okt6.2.2; have t6d := get6.1; have t6e := get6.2; try dsimp only at t6d t6e
          refine li_aload_n hC hl 0 rfl dX12_some_34 ?_
          refine li_bipush hC (z := -3) rfl dX12_some_35 ?_
          refine wr_callVv hC (c_X12_emits l g h0 ad F A S0 ac E o t6 (-3) hP okt6 (by omega) _) mk_X12_emits ml_X12_96 (rr (by omega)) ⟨by simp only [rmC]; omega, by simp only [rmC]; omega⟩ hK hS (li_recv hK.1 ck_X12 (hS.1 0 _ rfl)) rfl hl.1 rfl (Nat.le_of_ble_eq_true rfl) dX12_some_37 (fun w H locs hp hS => ?_)
          have hp : w = RW g h0 ad (va_up (va_up (va_up (va_up (va_up F 4 ac) 5 ((emitT (-3) t6).2.1)) 6 E) 7 ((emitT (-3) t6).1)) 8 o) (va_up A 1 (emS S0 ac (emitT (-3) t6).2.2)) := hp
          obtain ⟨t7, ht7⟩ : ∃ z : PT, z = emitT (-3) t6 := ⟨_, rfl⟩
          rw [← ht7] at hp
          subst hp
          obtain ⟨okt7, t7f, t7h, t7g⟩ := emitT_ok (x := -3) okt6 (by omega)
          rw [← ht7] at okt7 t7f t7h t7g
          have t7a := okt7.1; have t7b := okt7.2.1; have t7c := okt7.2.2
          refine li_goto (tgt := 4) hC (by decide) dX12_some_40 ?_
          exact ih4 t7 (m - 1) _ _ _ hS (lv_sub hl [0] rfl) (by exact okt7) (by omega) (by omega) (by rw [hu3, pT_s4 (by omega) (by assumption) (by assumption), ← ht6, ← ht7]) (by omega)
  exact L4_2 (((E - t1.2.1).toNat) + 1) t1 (n - 1) _ _ _ hS (lv_sub hl [0] rfl) (by exact okt1) (by rcases (show t.1 = 0 ∨ t.1 = 1 by omega) with h9 | h9; { omega }; { rw [pT_t ht1 h9]; omega }) (by intro h9; rw [pT_t ht1 (by omega)]; omega) (by rfl) (by omega)
theorem c_fes (l : Launch) (g : GG) : ∀ d : Nat, FacP l g d ∧ EveP l g d ∧ SomP l g d := by
  intro d
  induction d using Nat.strongRecOn with
  | _ d ih =>
  have hF := c_fac l g d (fun k hk => (ih k hk).1) (fun k hk => (ih k hk).2.2)
  have hE := c_eve l g d hF
  exact ⟨hF, hE, c_som l g d hE⟩
