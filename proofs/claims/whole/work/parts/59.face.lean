set_option maxHeartbeats 4000000 in
set_option maxRecDepth 100000 in
theorem c_X11_isOfKind (l : Launch) (g : GG) (q : Nat) (tr : Nat) (kd : Int) (i : Int) (v : Int) (lt : Int) (cl : Int) (r : Int) (k : Int) (hk0 : 0 ≤ k ∧ k ≤ 6) (hkd : 0 ≤ kd ∧ kd ≤ 6) : MroZ l g yX11_isOfKind cX11_isOfKind 2 1 [.ref q, .int (iI k)] (fun H => nmAt g q kd tr i v lt cl r H) (iI (b2 (underS kd k))) := by
  refine ro_startZ (own := RX11) (by decide) rfl (Nat.le_of_ble_eq_true rfl) ?_
  intro Pg Ev s Mi args below Mt Cd ls Q hC hK hE hP hl hQ
  have hl : lv_has ls 2 [(0, .ref q), (1, .int (iI k))] := hl
  refine li_iload_n hC hl 1 rfl dX11_isOfKind_0 ?_
  by_cases c1 : k = 1
  · refine li_tableIn (tgt := 40) hC (rg (by omega) (by omega)) (by omega) (by omega) (off := 39) (by rw [c1]; rfl) (by decide) dX11_isOfKind_1 ?_
    refine li_aload_n hC hl 0 rfl dX11_isOfKind_40 ?_
    refine li_inst1 hC hK hP cl_X11_271 dX11_isOfKind_41 ?_
    exact hQ _ _ _ dX11_isOfKind_44 (b2_01 _) (iI_inj (b2_ext (by rw [under_b hkd hk0]; omega)))
  by_cases c2 : k = 2
  · refine li_tableIn (tgt := 45) hC (rg (by omega) (by omega)) (by omega) (by omega) (off := 44) (by rw [c2]; rfl) (by decide) dX11_isOfKind_1 ?_
    refine li_aload_n hC hl 0 rfl dX11_isOfKind_45 ?_
    refine li_inst2 hC hK hP cl_X11_276 dX11_isOfKind_46 ?_
    exact hQ _ _ _ dX11_isOfKind_49 (b2_01 _) (iI_inj (b2_ext (by rw [under_b hkd hk0]; omega)))
  by_cases c3 : k = 3
  · refine li_tableIn (tgt := 50) hC (rg (by omega) (by omega)) (by omega) (by omega) (off := 49) (by rw [c3]; rfl) (by decide) dX11_isOfKind_1 ?_
    refine li_aload_n hC hl 0 rfl dX11_isOfKind_50 ?_
    refine li_inst3 hC hK hP cl_X11_279 dX11_isOfKind_51 ?_
    exact hQ _ _ _ dX11_isOfKind_54 (b2_01 _) (iI_inj (b2_ext (by rw [under_b hkd hk0]; omega)))
  by_cases c4 : k = 4
  · refine li_tableIn (tgt := 55) hC (rg (by omega) (by omega)) (by omega) (by omega) (off := 54) (by rw [c4]; rfl) (by decide) dX11_isOfKind_1 ?_
    refine li_aload_n hC hl 0 rfl dX11_isOfKind_55 ?_
    refine li_inst4 hC hK hP cl_X11_282 dX11_isOfKind_56 ?_
    exact hQ _ _ _ dX11_isOfKind_59 (b2_01 _) (iI_inj (b2_ext (by rw [under_b hkd hk0]; omega)))
  by_cases c5 : k = 5
  · refine li_tableIn (tgt := 60) hC (rg (by omega) (by omega)) (by omega) (by omega) (off := 59) (by rw [c5]; rfl) (by decide) dX11_isOfKind_1 ?_
    refine li_aload_n hC hl 0 rfl dX11_isOfKind_60 ?_
    refine li_inst5 hC hK hP cl_X11_285 dX11_isOfKind_61 ?_
    exact hQ _ _ _ dX11_isOfKind_64 (b2_01 _) (iI_inj (b2_ext (by rw [under_b hkd hk0]; omega)))
  by_cases c6 : k = 6
  · refine li_tableIn (tgt := 65) hC (rg (by omega) (by omega)) (by omega) (by omega) (off := 64) (by rw [c6]; rfl) (by decide) dX11_isOfKind_1 ?_
    refine li_aload_n hC hl 0 rfl dX11_isOfKind_65 ?_
    refine li_inst6 hC hK hP cl_X11_158 dX11_isOfKind_66 ?_
    exact hQ _ _ _ dX11_isOfKind_69 (b2_01 _) (iI_inj (b2_ext (by rw [under_b hkd hk0]; omega)))
  refine li_tableOut (tgt := 70) hC (rg (by omega) (by omega)) (by omega) (by decide) dX11_isOfKind_1 ?_
  refine li_iconst hC dX11_isOfKind_70 ?_
  exact hQ _ _ _ dX11_isOfKind_71 (Or.inr rfl) (iI_inj ((b2_t (by rw [under_b hkd hk0]; omega)).symm))
set_option maxHeartbeats 4000000 in
set_option maxRecDepth 100000 in
theorem c_X11_fraction (l : Launch) (g : GG) (up : Int) (lo : Int) (part : Int) (hu : -100000 ≤ up ∧ up ≤ 100000) (hlo : 0 ≤ lo ∧ lo ≤ 100) (hpart : rng part) : MroJ l g yX11_fraction cX11_fraction 5 1 [.int (iI up), .int (iI lo), .int (iI part)] (fun _ => True) (jI (iteP (0 < lo ∧ (0 ≤ part ∧ part ≤ 1)) (lowS up lo part) (-9223372036854775808))) := by
  refine ro_startJ (own := RX11) (by decide) rfl (Nat.le_of_ble_eq_true rfl) ?_
  intro Pg Ev s Mi args below Mt Cd ls Q hC hK hE hP hl hQ
  have hl : lv_has ls 5 [(0, .int (iI up)), (1, .int (iI lo)), (2, .int (iI part))] := hl
  refine li_iload_n hC hl 1 rfl dX11_fraction_0 ?_
  refine li_if_le (tgt := 13) hC (by decide) (rg (by omega) (by omega)) dX11_fraction_1 (fun c1 => ?_) (fun c1 => ?_)
  · refine li_ldc2 hC (z := -9223372036854775808) kl_X11_231 rfl dX11_fraction_13 ?_
    exact hQ _ _ _ dX11_fraction_16 (jI_inj (by rw [iteP_f (by omega)]))
  · refine li_iload_n hC hl 2 rfl dX11_fraction_4 ?_
    refine li_if_eq (tgt := 17) hC (by decide) hpart dX11_fraction_5 (fun c2 => ?_) (fun c2 => ?_)
    · have J26_3 : ∀ (x : Int) (ls : Array Slot), lv_has ls 5 [(0, .int (iI up)), (1, .int (iI lo)), (2, .int (iI part))] → (x = (if part = 0 then up else lo)) → (-100000 ≤ x ∧ x ≤ 100000) → W Pg l Ev (rmC 1 0 0) s Mi args below Mt Cd s.heap [] 0 0 Q (F0 Mi 26 ls [.int (iI x)]) := by
        intro x ls hl hx hx2
        refine li_istore_n hC (lv' := [(3, .int (iI x)), (0, .int (iI up)), (1, .int (iI lo)), (2, .int (iI part))]) hl (by decide) rfl dX11_fraction_26 (fun ls hl => ?_)
        refine li_iload_n hC hl 2 rfl dX11_fraction_27 ?_
        refine li_istore hC (lv' := [(4, .int (iI lo)), (3, .int (iI x)), (0, .int (iI up)), (1, .int (iI lo)), (2, .int (iI part))]) hl (by decide) rfl dX11_fraction_28 (fun ls hl => ?_)
        have L30_4 : ∀ (fuel : Nat) (k : Int) (ls : Array Slot), lv_has ls 5 [(3, .int (iI x)), (0, .int (iI up)), (1, .int (iI lo)), (2, .int (iI part)), (4, .int (iI k))] → (1 ≤ k ∧ k ≤ lo) → (∀ j : Int, k < j → j ≤ lo → ¬ (j ∣ up ∧ j ∣ lo)) → k.toNat < fuel → W Pg l Ev (rmC 1 0 0) s Mi args below Mt Cd s.heap [] 0 0 Q (F0 Mi 30 ls []) := by
          intro fuel
          induction fuel with
          | zero => intro k ls hl hk hz hm; exact absurd hm (Nat.not_lt_zero _)
          | succ fuel ih30 =>
            intro k ls hl hk hz hm
            refine li_iload hC hl 4 rfl dX11_fraction_30 ?_
            refine li_iconst hC dX11_fraction_32 ?_
            refine li_icmp_le (tgt := 62) hC (by decide) (rg (by omega) (by omega)) (rg (by decide) (by decide)) dX11_fraction_33 (fun c5 => ?_) (fun c5 => ?_)
            · refine li_iload_n hC hl 0 rfl dX11_fraction_62 ?_
              refine li_i2l hC (rg (by omega) (by omega)) dX11_fraction_63 ?_
              exact hQ _ _ _ dX11_fraction_64 (jI_inj (by rw [iteP_t (by omega)]; unfold lowS; rw [gcd_at (k := k) (by omega) (by omega) (by rw [show k = 1 by omega]; exact Int.one_dvd _) (by rw [show k = 1 by omega]; exact Int.one_dvd _) hz, ← hx, show k = 1 by omega, Int.tdiv_one]))
            · refine li_iload_n hC hl 1 rfl dX11_fraction_36 ?_
              refine li_iload hC hl 4 rfl dX11_fraction_37 ?_
              refine li_irem hC (by omega) (rg (by omega) (by omega)) dX11_fraction_39 ?_
              refine li_if_ne (tgt := 56) hC (by decide) (rng_of _) dX11_fraction_40 (fun c6 => ?_) (fun c6 => ?_)
              · refine li_iinc hC (lv' := [(4, .int (iI (k + (-1)))), (3, .int (iI x)), (0, .int (iI up)), (1, .int (iI lo)), (2, .int (iI part))]) hl 4 rfl (by decide) rfl dX11_fraction_56 (fun ls hl => ?_)
                refine li_goto (tgt := 30) hC (by decide) dX11_fraction_59 ?_
                exact ih30 (k + (-1)) _ (lv_sub hl [1, 2, 3, 4, 0] rfl) (by omega) (by intro j h1 h2 h3; rcases (show j = k ∨ k < j by omega) with h4 | h4; { rw [h4] at h3; have e1 := (irem_0 (a := up) (b := k) (by omega) (by omega)).mpr h3.1; have e2 := Int.emod_eq_zero_of_dvd h3.2; omega }; { exact hz j h4 h2 h3 }) (by omega)
              · refine li_iload_n hC hl 2 rfl dX11_fraction_43 ?_
                refine li_iload hC hl 4 rfl dX11_fraction_44 ?_
                have q91 := Int.emod_nonneg lo (b := k) (by omega)
                have q92 := Int.emod_lt_of_pos lo (b := k) (by omega)
                refine li_iremN hC (by omega) (by omega) (by omega) (by omega) dX11_fraction_46 ?_
                refine li_if_ne (tgt := 56) hC (by decide) (rg (by omega) (by omega)) dX11_fraction_47 (fun c7 => ?_) (fun c7 => ?_)
                · refine li_iinc hC (lv' := [(4, .int (iI (k + (-1)))), (3, .int (iI x)), (0, .int (iI up)), (1, .int (iI lo)), (2, .int (iI part))]) hl 4 rfl (by decide) rfl dX11_fraction_56 (fun ls hl => ?_)
                  refine li_goto (tgt := 30) hC (by decide) dX11_fraction_59 ?_
                  exact ih30 (k + (-1)) _ (lv_sub hl [1, 2, 3, 4, 0] rfl) (by omega) (by intro j h1 h2 h3; rcases (show j = k ∨ k < j by omega) with h4 | h4; { rw [h4] at h3; have e1 := (irem_0 (a := up) (b := k) (by omega) (by omega)).mpr h3.1; have e2 := Int.emod_eq_zero_of_dvd h3.2; omega }; { exact hz j h4 h2 h3 }) (by omega)
                · refine li_iload_n hC hl 0 rfl dX11_fraction_50 ?_
                  refine li_iload hC hl 4 rfl dX11_fraction_51 ?_
                  refine li_idiv hC (by omega) (rg (by omega) (by omega)) dX11_fraction_53 ?_
                  refine li_i2l hC (rng_of _) dX11_fraction_54 ?_
                  exact hQ _ _ _ dX11_fraction_55 (jI_inj (by rw [iteP_t (by omega)]; unfold lowS; rw [gcd_at (k := k) (by omega) (by omega) ((irem_0 (by omega) (by omega)).mp (by assumption)) (Int.dvd_of_emod_eq_zero (by assumption)) hz, ← hx]; exact idiv_t (by omega) (by omega)))
        exact L30_4 (lo.toNat + 1) lo _ (lv_sub hl [1, 2, 3, 4, 0] rfl) (by omega) (by intro j h1 h2; omega) (by omega)
      refine li_iload_n hC hl 2 rfl dX11_fraction_17 ?_
      refine li_if_ne (tgt := 25) hC (by decide) hpart dX11_fraction_18 (fun c8 => ?_) (fun c8 => ?_)
      · refine li_iload_n hC hl 1 rfl dX11_fraction_25 ?_
        exact J26_3 lo _ (lv_sub hl [0, 1, 2] rfl) (by first | (rw [if_pos (by omega)]; done) | (rw [if_neg (by omega)]; done)) (by omega)
      · refine li_iload_n hC hl 0 rfl dX11_fraction_21 ?_
        refine li_goto (tgt := 26) hC (by decide) dX11_fraction_22 ?_
        exact J26_3 up _ (lv_sub hl [0, 1, 2] rfl) (by first | (rw [if_pos (by omega)]; done) | (rw [if_neg (by omega)]; done)) (by omega)
    · refine li_iload_n hC hl 2 rfl dX11_fraction_8 ?_
      refine li_iconst hC dX11_fraction_9 ?_
      refine li_icmp_eq (tgt := 17) hC (by decide) hpart (rg (by decide) (by decide)) dX11_fraction_10 (fun c9 => ?_) (fun c9 => ?_)
      · have J26_10 : ∀ (x : Int) (ls : Array Slot), lv_has ls 5 [(0, .int (iI up)), (1, .int (iI lo)), (2, .int (iI part))] → (x = (if part = 0 then up else lo)) → (-100000 ≤ x ∧ x ≤ 100000) → W Pg l Ev (rmC 1 0 0) s Mi args below Mt Cd s.heap [] 0 0 Q (F0 Mi 26 ls [.int (iI x)]) := by
          intro x ls hl hx hx2
          refine li_istore_n hC (lv' := [(3, .int (iI x)), (0, .int (iI up)), (1, .int (iI lo)), (2, .int (iI part))]) hl (by decide) rfl dX11_fraction_26 (fun ls hl => ?_)
          refine li_iload_n hC hl 2 rfl dX11_fraction_27 ?_
          refine li_istore hC (lv' := [(4, .int (iI lo)), (3, .int (iI x)), (0, .int (iI up)), (1, .int (iI lo)), (2, .int (iI part))]) hl (by decide) rfl dX11_fraction_28 (fun ls hl => ?_)
          have L30_11 : ∀ (fuel : Nat) (k : Int) (ls : Array Slot), lv_has ls 5 [(3, .int (iI x)), (0, .int (iI up)), (1, .int (iI lo)), (2, .int (iI part)), (4, .int (iI k))] → (1 ≤ k ∧ k ≤ lo) → (∀ j : Int, k < j → j ≤ lo → ¬ (j ∣ up ∧ j ∣ lo)) → k.toNat < fuel → W Pg l Ev (rmC 1 0 0) s Mi args below Mt Cd s.heap [] 0 0 Q (F0 Mi 30 ls []) := by
            intro fuel
            induction fuel with
            | zero => intro k ls hl hk hz hm; exact absurd hm (Nat.not_lt_zero _)
            | succ fuel ih30 =>
              intro k ls hl hk hz hm
              refine li_iload hC hl 4 rfl dX11_fraction_30 ?_
              refine li_iconst hC dX11_fraction_32 ?_
              refine li_icmp_le (tgt := 62) hC (by decide) (rg (by omega) (by omega)) (rg (by decide) (by decide)) dX11_fraction_33 (fun c12 => ?_) (fun c12 => ?_)
              · refine li_iload_n hC hl 0 rfl dX11_fraction_62 ?_
                refine li_i2l hC (rg (by omega) (by omega)) dX11_fraction_63 ?_
                exact hQ _ _ _ dX11_fraction_64 (jI_inj (by rw [iteP_t (by omega)]; unfold lowS; rw [gcd_at (k := k) (by omega) (by omega) (by rw [show k = 1 by omega]; exact Int.one_dvd _) (by rw [show k = 1 by omega]; exact Int.one_dvd _) hz, ← hx, show k = 1 by omega, Int.tdiv_one]))
              · refine li_iload_n hC hl 1 rfl dX11_fraction_36 ?_
                refine li_iload hC hl 4 rfl dX11_fraction_37 ?_
                refine li_irem hC (by omega) (rg (by omega) (by omega)) dX11_fraction_39 ?_
                refine li_if_ne (tgt := 56) hC (by decide) (rng_of _) dX11_fraction_40 (fun c13 => ?_) (fun c13 => ?_)
                · refine li_iinc hC (lv' := [(4, .int (iI (k + (-1)))), (3, .int (iI x)), (0, .int (iI up)), (1, .int (iI lo)), (2, .int (iI part))]) hl 4 rfl (by decide) rfl dX11_fraction_56 (fun ls hl => ?_)
                  refine li_goto (tgt := 30) hC (by decide) dX11_fraction_59 ?_
                  exact ih30 (k + (-1)) _ (lv_sub hl [1, 2, 3, 4, 0] rfl) (by omega) (by intro j h1 h2 h3; rcases (show j = k ∨ k < j by omega) with h4 | h4; { rw [h4] at h3; have e1 := (irem_0 (a := up) (b := k) (by omega) (by omega)).mpr h3.1; have e2 := Int.emod_eq_zero_of_dvd h3.2; omega }; { exact hz j h4 h2 h3 }) (by omega)
                · refine li_iload_n hC hl 2 rfl dX11_fraction_43 ?_
                  refine li_iload hC hl 4 rfl dX11_fraction_44 ?_
                  have q91 := Int.emod_nonneg lo (b := k) (by omega)
                  have q92 := Int.emod_lt_of_pos lo (b := k) (by omega)
                  refine li_iremN hC (by omega) (by omega) (by omega) (by omega) dX11_fraction_46 ?_
                  refine li_if_ne (tgt := 56) hC (by decide) (rg (by omega) (by omega)) dX11_fraction_47 (fun c14 => ?_) (fun c14 => ?_)
                  · refine li_iinc hC (lv' := [(4, .int (iI (k + (-1)))), (3, .int (iI x)), (0, .int (iI up)), (1, .int (iI lo)), (2, .int (iI part))]) hl 4 rfl (by decide) rfl dX11_fraction_56 (fun ls hl => ?_)
                    refine li_goto (tgt := 30) hC (by decide) dX11_fraction_59 ?_
                    exact ih30 (k + (-1)) _ (lv_sub hl [1, 2, 3, 4, 0] rfl) (by omega) (by intro j h1 h2 h3; rcases (show j = k ∨ k < j by omega) with h4 | h4; { rw [h4] at h3; have e1 := (irem_0 (a := up) (b := k) (by omega) (by omega)).mpr h3.1; have e2 := Int.emod_eq_zero_of_dvd h3.2; omega }; { exact hz j h4 h2 h3 }) (by omega)
                  · refine li_iload_n hC hl 0 rfl dX11_fraction_50 ?_
                    refine li_iload hC hl 4 rfl dX11_fraction_51 ?_
                    refine li_idiv hC (by omega) (rg (by omega) (by omega)) dX11_fraction_53 ?_
                    refine li_i2l hC (rng_of _) dX11_fraction_54 ?_
                    exact hQ _ _ _ dX11_fraction_55 (jI_inj (by rw [iteP_t (by omega)]; unfold lowS; rw [gcd_at (k := k) (by omega) (by omega) ((irem_0 (by omega) (by omega)).mp (by assumption)) (Int.dvd_of_emod_eq_zero (by assumption)) hz, ← hx]; exact idiv_t (by omega) (by omega)))
          exact L30_11 (lo.toNat + 1) lo _ (lv_sub hl [1, 2, 3, 4, 0] rfl) (by omega) (by intro j h1 h2; omega) (by omega)
        refine li_iload_n hC hl 2 rfl dX11_fraction_17 ?_
        refine li_if_ne (tgt := 25) hC (by decide) hpart dX11_fraction_18 (fun c15 => ?_) (fun c15 => ?_)
        · refine li_iload_n hC hl 1 rfl dX11_fraction_25 ?_
          exact J26_10 lo _ (lv_sub hl [0, 1, 2] rfl) (by first | (rw [if_pos (by omega)]; done) | (rw [if_neg (by omega)]; done)) (by omega)
        · refine li_iload_n hC hl 0 rfl dX11_fraction_21 ?_
          refine li_goto (tgt := 26) hC (by decide) dX11_fraction_22 ?_
          exact J26_10 up _ (lv_sub hl [0, 1, 2] rfl) (by first | (rw [if_pos (by omega)]; done) | (rw [if_neg (by omega)]; done)) (by omega)
      · refine li_ldc2 hC (z := -9223372036854775808) kl_X11_231 rfl dX11_fraction_13 ?_
        exact hQ _ _ _ dX11_fraction_16 (jI_inj (by rw [iteP_f (by omega)]))
set_option maxHeartbeats 4000000 in
set_option maxRecDepth 100000 in
theorem c_X11_of (l : Launch) (g : GG) (ad : Nat → Nat) (F : Nat → Int) (A : Nat → Nat → Int) (E : Nat → Nat) (tl : va_W) (S : Nat → Int) (nm : Nat → Nat) (hSh : ShW g ad F A E tl S nm) (hI : InvD S) (n : Int) (what : Int) (hn : rng n) (hwhat : rng what) (hH : InvH S) : MroI l g yX11_of cX11_of 4 9 [.ref (ad 0), .int (iI n), .int (iI what)] (fun H => va_P g.1 vwCl (CW g ad F A E tl) H) (iI (if (0 ≤ n ∧ n < S 0) ∧ (0 ≤ what ∧ what ≤ 9) then ofS S n what else -1)) := by
  refine ro_startI (own := RX11) (by decide) rfl (Nat.le_of_ble_eq_true rfl) ?_
  intro Pg Ev s Mi args below Mt Cd ls Q hC hK hE hP hl hQ
  have hSh0 := hSh
  obtain ⟨hTp, hCd, hNs, hWh, hRw, hSn, hPl, hBk, hMp⟩ := hSh0
  have hNm := hNs.2.2
  have hD0 := hI.1
  have hNs0 := hNs.1
  have hl : lv_has ls 4 [(0, .ref (ad 0)), (1, .int (iI n)), (2, .int (iI what))] := hl
  refine li_aload_n hC hl 0 rfl dX11_of_0 ?_
  refine li_get hC hK ck_X11 (hP 0 _ rfl) 1 (by decide) fl_X11_23 rfl (v := .ref (ad 3)) rfl dX11_of_1 ?_
  refine li_iload_n hC hl 1 rfl dX11_of_4 ?_
  refine ro_callVq hC (c_X8_name l g ad F A E tl S nm hSh hI n hn) mk_X8_name ml_X11_106 (rr (by decide)) ⟨Nat.zero_le _, Nat.zero_le _⟩ hK hE hP (li_recv hK ck_X8 (hP 3 _ rfl)) rfl hl.1 rfl (Nat.le_of_ble_eq_true rfl) dX11_of_5 ?_
  by_cases cN1 : 0 ≤ n ∧ n < S 0
  · rw [iteP_t cN1, show va_rf (some (nm n.toNat)) = .ref (nm n.toNat) from rfl]
    have q3 := hI.2 n (by omega) (by omega)
    refine li_astore_n hC (lv' := [(3, .ref (nm n.toNat)), (0, .ref (ad 0)), (1, .int (iI n)), (2, .int (iI what))]) hl (by decide) rfl dX11_of_8 (fun ls hl => ?_)
    refine li_aload_n hC hl 0 rfl dX11_of_9 ?_
    refine li_ifnonnull (tgt := 15) hC (by decide) dX11_of_10 ?_
    refine li_iload_n hC hl 3 rfl dX11_of_15 ?_
    by_cases c4 : what = 0
    · refine li_tableIn (tgt := 72) hC hwhat (by omega) (by omega) (off := 56) (by rw [c4]; rfl) (by decide) dX11_of_16 ?_
      refine li_aload_n hC hl 0 rfl dX11_of_72 ?_
      refine v_kind hC hK hE (nm_at hP hNm hI (i := n) (by omega))   ml_X11_110 (rr (by decide)) ⟨Nat.zero_le _, Nat.zero_le _⟩ hl.1 rfl (Nat.le_of_ble_eq_true rfl) dX11_of_73 ?_
      exact hQ _ _ _ dX11_of_76 (iI_inj (by rw [if_pos (by omega)]; unfold ofS; rw [if_pos (by omega), show 7 + 7 * what + n = 7 + n by omega]))
    by_cases c5 : what = 1
    · refine li_tableIn (tgt := 77) hC hwhat (by omega) (by omega) (off := 61) (by rw [c5]; rfl) (by decide) dX11_of_16 ?_
      refine li_aload_n hC hl 0 rfl dX11_of_77 ?_
      refine li_getN2 hC hK (nm_at hP hNm hI (i := n) (by omega)) fl_X11_115 dX11_of_78 ?_
      exact hQ _ _ _ dX11_of_81 (iI_inj (by rw [if_pos (by omega)]; unfold ofS; rw [if_pos (by omega), show 7 + 7 * what + n = 14 + n by omega]))
    by_cases c6 : what = 2
    · refine li_tableIn (tgt := 82) hC hwhat (by omega) (by omega) (off := 66) (by rw [c6]; rfl) (by decide) dX11_of_16 ?_
      refine li_aload_n hC hl 0 rfl dX11_of_82 ?_
      refine li_getN3 hC hK (nm_at hP hNm hI (i := n) (by omega)) fl_X11_118 dX11_of_83 ?_
      exact hQ _ _ _ dX11_of_86 (iI_inj (by rw [if_pos (by omega)]; unfold ofS; rw [if_pos (by omega), show 7 + 7 * what + n = 21 + n by omega]))
    by_cases c7 : what = 3
    · refine li_tableIn (tgt := 87) hC hwhat (by omega) (by omega) (off := 71) (by rw [c7]; rfl) (by decide) dX11_of_16 ?_
      refine li_aload_n hC hl 0 rfl dX11_of_87 ?_
      refine li_getN4 hC hK (nm_at hP hNm hI (i := n) (by omega)) fl_X11_121 dX11_of_88 ?_
      exact hQ _ _ _ dX11_of_91 (iI_inj (by rw [if_pos (by omega)]; unfold ofS; rw [if_pos (by omega), show 7 + 7 * what + n = 28 + n by omega]))
    by_cases c8 : what = 4
    · refine li_tableIn (tgt := 92) hC hwhat (by omega) (by omega) (off := 76) (by rw [c8]; rfl) (by decide) dX11_of_16 ?_
      refine li_aload_n hC hl 0 rfl dX11_of_92 ?_
      refine li_getN5 hC hK (nm_at hP hNm hI (i := n) (by omega)) fl_X11_124 dX11_of_93 ?_
      exact hQ _ _ _ dX11_of_96 (iI_inj (by rw [if_pos (by omega)]; unfold ofS; rw [if_pos (by omega), show 7 + 7 * what + n = 35 + n by omega]))
    by_cases c9 : what = 5
    · refine li_tableIn (tgt := 97) hC hwhat (by omega) (by omega) (off := 81) (by rw [c9]; rfl) (by decide) dX11_of_16 ?_
      refine li_aload_n hC hl 0 rfl dX11_of_97 ?_
      refine li_aload_n hC hl 0 rfl dX11_of_98 ?_
      refine li_getN2 hC hK (nm_at hP hNm hI (i := n) (by omega)) fl_X11_115 dX11_of_99 ?_
      refine v_length hC hK hE (nm_at hP hNm hI (i := n) (by omega)) (z := S (14 + n).toNat) (by omega) (by omega) ml_X11_127 (rr (by decide)) ⟨Nat.zero_le _, Nat.zero_le _⟩ hl.1 rfl (Nat.le_of_ble_eq_true rfl) dX11_of_102 ?_
      have q10 := lenK_rng (k := S (7 + n).toNat) (v := S (14 + n).toNat) (l := S (21 + n).toNat) (by omega) (by omega)
      exact hQ _ _ _ dX11_of_105 (iI_inj (by rw [if_pos (by omega)]; unfold ofS; rw [if_neg (by omega), if_pos (by omega)]; rfl))
    by_cases c11 : what = 6
    · refine li_tableIn (tgt := 106) hC hwhat (by omega) (by omega) (off := 90) (by rw [c11]; rfl) (by decide) dX11_of_16 ?_
      refine li_aload_n hC hl 1 rfl dX11_of_106 ?_
      refine li_get hC hK ck_X11 (hP 0 _ rfl) 1 (by decide) fl_X11_23 rfl (v := .ref (ad 3)) rfl dX11_of_107 ?_
      refine li_get hC hK ck_X8 (hP 3 _ rfl) 3 (by decide) fl_X11_99 rfl (v := .ref (ad 9)) rfl dX11_of_110 ?_
      refine li_iload_n hC hl 2 rfl dX11_of_113 ?_
      refine ro_callVi hC (c_X6_get l g (ws := CW g ad F A E tl) (i := 9) (j := 10) (a := (ad 9)) (b := (ad 10)) (n := 7) (f := (A 10)) (sz := F 9) rfl rfl (Nat.le_of_ble_eq_true rfl) (k := n) ⟨by omega, by omega⟩) mk_X6_get ml_X11_131 (rr (by decide)) ⟨Nat.zero_le _, Nat.zero_le _⟩ hK hE hP (li_recv hK ck_X6 (hP 9 _ rfl)) rfl hl.1 rfl (Nat.le_of_ble_eq_true rfl) dX11_of_114 ?_
      rw [hWh n (by omega) (by omega)]
      have q12 := hI.2 n (by omega) (by omega)
      refine ro_callSi hC (c_X11_outward l g (S (42 + n).toNat) (rg (by omega) (by omega))) mk_X11_outward ml_X11_134 (rr (by decide)) ⟨Nat.le_of_ble_eq_true rfl, Nat.le_of_ble_eq_true rfl⟩ hK hE trivial rfl hl.1 rfl (Nat.le_of_ble_eq_true rfl) dX11_of_117 ?_
      have q13 : -5 ≤ orN (S (42 + n).toNat) ∧ orN (S (42 + n).toNat) ≤ 3 := orN_rng (by omega)
      exact hQ _ _ _ dX11_of_120 (iI_inj (by rw [if_pos (by omega)]; unfold ofS; rw [if_neg (by omega), if_neg (by omega), if_pos (by omega)]; rfl))
    by_cases c14 : what = 7
    · refine li_tableIn (tgt := 121) hC hwhat (by omega) (by omega) (off := 105) (by rw [c14]; rfl) (by decide) dX11_of_16 ?_
      refine li_aload_n hC hl 1 rfl dX11_of_121 ?_
      refine li_get hC hK ck_X11 (hP 0 _ rfl) 1 (by decide) fl_X11_23 rfl (v := .ref (ad 3)) rfl dX11_of_122 ?_
      refine li_iload_n hC hl 2 rfl dX11_of_125 ?_
      refine ro_callVi hC (c_X8_mayBe l g ad F A E tl S nm hSh hI n (by omega)) mk_X8_mayBe ml_X11_137 (rr (by decide)) ⟨Nat.le_of_ble_eq_true rfl, Nat.le_of_ble_eq_true rfl⟩ hK hE hP (li_recv hK ck_X8 (hP 3 _ rfl)) rfl hl.1 rfl (Nat.le_of_ble_eq_true rfl) dX11_of_126 ?_
      exact hQ _ _ _ dX11_of_129 (iI_inj (by rw [if_pos (by omega)]; unfold ofS; rw [if_neg (by omega), if_neg (by omega), if_neg (by omega)]; refine setB_ext (fun p h0 h1 => ?_); unfold plS; exact ⟨fun h => ⟨fun _ => h, fun _ => by omega, fun _ _ => by omega⟩, fun h => h.1 (by omega)⟩))
    by_cases c15 : what = 8
    · refine li_tableIn (tgt := 130) hC hwhat (by omega) (by omega) (off := 114) (by rw [c15]; rfl) (by decide) dX11_of_16 ?_
      refine li_aload_n hC hl 1 rfl dX11_of_130 ?_
      refine li_get hC hK ck_X11 (hP 0 _ rfl) 1 (by decide) fl_X11_23 rfl (v := .ref (ad 3)) rfl dX11_of_131 ?_
      refine li_iload_n hC hl 2 rfl dX11_of_134 ?_
      refine li_aload_n hC hl 1 rfl dX11_of_135 ?_
      refine li_get hC hK ck_X11 (hP 0 _ rfl) 1 (by decide) fl_X11_23 rfl (v := .ref (ad 3)) rfl dX11_of_136 ?_
      refine li_get hC hK ck_X8 (hP 3 _ rfl) 10 (by decide) fl_X11_140 rfl (v := .int (iI (wideS S))) (by rw [← show F 61 = wideS S from hMp.2.1]; rfl) dX11_of_139 ?_
      have hws := wideS_rng S
      refine ro_callVi hC (c_X8_fitting l g ad F A E tl S nm hSh hI n (wideS S) (by omega) (by omega)) mk_X8_fitting ml_X11_143 (rr (by decide)) ⟨Nat.le_of_ble_eq_true rfl, Nat.le_of_ble_eq_true rfl⟩ hK hE hP (li_recv hK ck_X8 (hP 3 _ rfl)) rfl hl.1 rfl (Nat.le_of_ble_eq_true rfl) dX11_of_142 ?_
      exact hQ _ _ _ dX11_of_145 (iI_inj (by rw [if_pos (by omega)]; unfold ofS; rw [if_neg (by omega), if_neg (by omega), if_neg (by omega)]; refine setB_ext (fun p h0 h1 => ?_); unfold plS; exact ⟨fun h => ⟨fun _ => by omega, fun _ => h, fun _ _ => by omega⟩, fun h => h.2.1 (by omega)⟩))
    by_cases c16 : what = 9
    · refine li_tableIn (tgt := 146) hC hwhat (by omega) (by omega) (off := 130) (by rw [c16]; rfl) (by decide) dX11_of_16 ?_
      refine li_aload_n hC hl 1 rfl dX11_of_146 ?_
      refine li_get hC hK ck_X11 (hP 0 _ rfl) 1 (by decide) fl_X11_23 rfl (v := .ref (ad 3)) rfl dX11_of_147 ?_
      refine li_iload_n hC hl 2 rfl dX11_of_150 ?_
      refine li_aload_n hC hl 1 rfl dX11_of_151 ?_
      refine li_get hC hK ck_X11 (hP 0 _ rfl) 1 (by decide) fl_X11_23 rfl (v := .ref (ad 3)) rfl dX11_of_152 ?_
      refine li_get hC hK ck_X8 (hP 3 _ rfl) 3 (by decide) fl_X11_99 rfl (v := .ref (ad 9)) rfl dX11_of_155 ?_
      refine ro_callVi hC (c_X8_free l g ad F A E tl S nm hSh hI n 9 (fun k => S (42 + k).toNat) (Or.inl rfl) hWh (fun k h0 h1 => (hI.2 k h0 h1).2.2.2.2.2.1) (by omega)) mk_X8_free ml_X11_147 (rr (by decide)) ⟨Nat.le_of_ble_eq_true rfl, Nat.le_of_ble_eq_true rfl⟩ hK hE hP (li_recv hK ck_X8 (hP 3 _ rfl)) rfl hl.1 rfl (Nat.le_of_ble_eq_true rfl) dX11_of_158 ?_
      exact hQ _ _ _ dX11_of_161 (iI_inj (by rw [if_pos (by omega)]; unfold ofS; rw [if_neg (by omega), if_neg (by omega), if_neg (by omega)]; refine setB_ext (fun p h0 h1 => ?_); unfold plS; exact ⟨fun h => ⟨fun _ => by omega, fun _ => by omega, fun _ _ => h⟩, fun h => h.2.2 (by omega) (by omega)⟩))
    refine li_tableOut (tgt := 162) hC hwhat (by omega) (by decide) dX11_of_16 ?_
    refine li_iconst hC dX11_of_162 ?_
    exact hQ _ _ _ dX11_of_163 (iI_inj (by rw [if_neg (by omega)]))
  · rw [iteP_f cN1, show va_rf none = .null from rfl]
    refine li_astore_nN hC (lv' := [(3, .null), (0, .ref (ad 0)), (1, .int (iI n)), (2, .int (iI what))]) hl (by decide) rfl dX11_of_8 (fun ls hl => ?_)
    refine li_aload_nN hC hl 0 rfl dX11_of_9 ?_
    refine li_ifnonnullN hC dX11_of_10 ?_
    refine li_iconst hC dX11_of_13 ?_
    exact hQ _ _ _ dX11_of_14 (iI_inj (by rw [if_neg (by omega)]))
set_option maxHeartbeats 4000000 in
set_option maxRecDepth 100000 in
theorem c_X11_good (l : Launch) (g : GG) (ad : Nat → Nat) (F : Nat → Int) (A : Nat → Nat → Int) (E : Nat → Nat) (tl : va_W) (S : Nat → Int) (nm : Nat → Nat) (hSh : ShW g ad F A E tl S nm) (hI : InvD S) (n : Int) (p : Int) (hn : rng n) (hp : rng p) (hH : InvH S) (hC0 : InvC S) (hG : InvG S) : MroI l g yX11_good cX11_good 3 9 [.ref (ad 0), .int (iI n), .int (iI p)] (fun H => va_P g.1 vwCl (CW g ad F A E tl) H) (iI (iteP ((0 ≤ n ∧ n < S 0) ∧ (0 ≤ p ∧ p ≤ 3)) (goodS S n p) (-10001))) := by
  refine ro_startI (own := RX11) (by decide) rfl (Nat.le_of_ble_eq_true rfl) ?_
  intro Pg Ev s Mi args below Mt Cd ls Q hC hK hE hP hl hQ
  have hSh0 := hSh
  obtain ⟨hTp, hCd, hNs, hWh, hRw, hSn, hPl, hBk, hMp⟩ := hSh0
  have hNm := hNs.2.2
  have hD0 := hI.1
  have hNs0 := hNs.1
  have hl : lv_has ls 3 [(0, .ref (ad 0)), (1, .int (iI n)), (2, .int (iI p))] := hl
  refine li_aload_n hC hl 0 rfl dX11_good_0 ?_
  refine li_get hC hK ck_X11 (hP 0 _ rfl) 1 (by decide) fl_X11_23 rfl (v := .ref (ad 3)) rfl dX11_good_1 ?_
  refine li_iload_n hC hl 1 rfl dX11_good_4 ?_
  refine ro_callVi hC (c_X8_has l g ad F A E tl S nm hSh hI n hn) mk_X8_has ml_X11_151 (rr (by decide)) ⟨Nat.le_of_ble_eq_true rfl, Nat.le_of_ble_eq_true rfl⟩ hK hE hP (li_recv hK ck_X8 (hP 3 _ rfl)) rfl hl.1 rfl (Nat.le_of_ble_eq_true rfl) dX11_good_5 ?_
  refine li_ifeq_b (tgt := 30) hC (by decide) dX11_good_8 (fun c1 => ?_) (fun c1 => ?_)
  · refine li_sipush hC (z := -10001) rfl dX11_good_30 ?_
    exact hQ _ _ _ dX11_good_33 (iI_inj (by first | (rw [iteP_t (by omega)]; done) | (rw [iteP_f (by omega)]; done)))
  · refine li_iload_n hC hl 2 rfl dX11_good_11 ?_
    refine ro_callSi hC (c_X11_isPlace l g p hp) mk_X11_isPlace ml_X11_155 (rr (by decide)) ⟨Nat.le_of_ble_eq_true rfl, Nat.le_of_ble_eq_true rfl⟩ hK hE trivial rfl hl.1 rfl (Nat.le_of_ble_eq_true rfl) dX11_good_12 ?_
    refine li_ifeq_b (tgt := 30) hC (by decide) dX11_good_15 (fun c2 => ?_) (fun c2 => ?_)
    · refine li_sipush hC (z := -10001) rfl dX11_good_30 ?_
      exact hQ _ _ _ dX11_good_33 (iI_inj (by first | (rw [iteP_t (by omega)]; done) | (rw [iteP_f (by omega)]; done)))
    · refine li_aload_n hC hl 0 rfl dX11_good_18 ?_
      refine li_get hC hK ck_X11 (hP 0 _ rfl) 1 (by decide) fl_X11_23 rfl (v := .ref (ad 3)) rfl dX11_good_19 ?_
      refine li_iload_n hC hl 1 rfl dX11_good_22 ?_
      refine li_iload_n hC hl 2 rfl dX11_good_23 ?_
      refine ro_callVi hC (c_X8_goodness l g ad F A E tl S nm hSh hI n p hH hC0 hG (by omega) (by omega)) mk_X8_goodness ml_X11_163 (rr (by decide)) ⟨Nat.le_of_ble_eq_true rfl, Nat.le_of_ble_eq_true rfl⟩ hK hE hP (li_recv hK ck_X8 (hP 3 _ rfl)) rfl hl.1 rfl (Nat.le_of_ble_eq_true rfl) dX11_good_24 ?_
      have q3 := goodS_rng hC0 n p
      refine li_goto (tgt := 33) hC (by decide) dX11_good_27 ?_
      exact hQ _ _ _ dX11_good_33 (iI_inj (by first | (rw [iteP_t (by omega)]; done) | (rw [iteP_f (by omega)]; done)))
set_option maxHeartbeats 4000000 in
set_option maxRecDepth 100000 in
theorem c_X11_told (l : Launch) (g : GG) (ad : Nat → Nat) (F : Nat → Int) (A : Nat → Nat → Int) (E : Nat → Nat) (tl : va_W) (S : Nat → Int) (nm : Nat → Nat) (hSh : ShW g ad F A E tl S nm) (hI : InvD S) (what : Int) (hwhat : rng what) (hH : InvH S) (hC0 : InvC S) (hG : InvG S) : MroI l g yX11_told cX11_told 2 9 [.ref (ad 0), .int (iI what)] (fun H => va_P g.1 vwCl (CW g ad F A E tl) H) (iI (toldS S what)) := by
  refine ro_startI (own := RX11) (by decide) rfl (Nat.le_of_ble_eq_true rfl) ?_
  intro Pg Ev s Mi args below Mt Cd ls Q hC hK hE hP hl hQ
  have hSh0 := hSh
  obtain ⟨hTp, hCd, hNs, hWh, hRw, hSn, hPl, hBk, hMp⟩ := hSh0
  have hNm := hNs.2.2
  have hD0 := hI.1
  have hNs0 := hNs.1
  have hl : lv_has ls 2 [(0, .ref (ad 0)), (1, .int (iI what))] := hl
  refine li_iload_n hC hl 1 rfl dX11_told_0 ?_
  by_cases c1 : what = 0
  · refine li_tableIn (tgt := 40) hC hwhat (by omega) (by omega) (off := 39) (by rw [c1]; rfl) (by decide) dX11_told_1 ?_
    refine li_aload_n hC hl 0 rfl dX11_told_40 ?_
    refine li_get hC hK ck_X11 (hP 0 _ rfl) 1 (by decide) fl_X11_23 rfl (v := .ref (ad 3)) rfl dX11_told_41 ?_
    refine li_get hC hK ck_X8 (hP 3 _ rfl) 10 (by decide) fl_X11_140 rfl (v := .int (iI (wideS S))) (by rw [← show F 61 = wideS S from hMp.2.1]; rfl) dX11_told_44 ?_
    exact hQ _ _ _ dX11_told_47 (iI_inj (by unfold toldS; rw [if_pos (by omega)]))
  by_cases c2 : what = 1
  · refine li_tableIn (tgt := 48) hC hwhat (by omega) (by omega) (off := 47) (by rw [c2]; rfl) (by decide) dX11_told_1 ?_
    refine li_aload_n hC hl 0 rfl dX11_told_48 ?_
    refine li_get hC hK ck_X11 (hP 0 _ rfl) 1 (by decide) fl_X11_23 rfl (v := .ref (ad 3)) rfl dX11_told_49 ?_
    refine li_get hC hK ck_X8 (hP 3 _ rfl) 11 (by decide) fl_X11_172 rfl (v := .int (iI (riverS S))) (by rw [← show F 62 = riverS S from hMp.2.2]; rfl) dX11_told_52 ?_
    exact hQ _ _ _ dX11_told_55 (iI_inj (by unfold toldS; rw [if_neg (by omega), if_pos (by omega)]))
  by_cases c3 : what = 2
  · refine li_tableIn (tgt := 56) hC hwhat (by omega) (by omega) (off := 55) (by rw [c3]; rfl) (by decide) dX11_told_1 ?_
    refine li_aload_n hC hl 0 rfl dX11_told_56 ?_
    refine li_get hC hK ck_X11 (hP 0 _ rfl) 1 (by decide) fl_X11_23 rfl (v := .ref (ad 3)) rfl dX11_told_57 ?_
    refine li_aload_n hC hl 0 rfl dX11_told_60 ?_
    refine li_get hC hK ck_X11 (hP 0 _ rfl) 1 (by decide) fl_X11_23 rfl (v := .ref (ad 3)) rfl dX11_told_61 ?_
    refine li_get hC hK ck_X8 (hP 3 _ rfl) 3 (by decide) fl_X11_99 rfl (v := .ref (ad 9)) rfl dX11_told_64 ?_
    refine ro_callVi hC (c_X8_laid l g ad F A E tl S nm hSh hI 9 (fun k => S (42 + k).toNat) (Or.inl rfl) hWh (fun k h0 h1 => (hI.2 k h0 h1).2.2.2.2.2.1)) mk_X8_laid ml_X11_175 (rr (by decide)) ⟨Nat.le_of_ble_eq_true rfl, Nat.le_of_ble_eq_true rfl⟩ hK hE hP (li_recv hK ck_X8 (hP 3 _ rfl)) rfl hl.1 rfl (Nat.le_of_ble_eq_true rfl) dX11_told_67 ?_
    refine ro_callSi hC (c_J6_bitCount_0f7a4 l g (setB (fun n => (fun k => S (42 + k).toNat) n ≠ 4) (S 0).toNat) (set7 _ (by omega))) mk_J6_bitCount_0f7a4 ml_X11_179 (rr (by decide)) ⟨Nat.zero_le _, Nat.zero_le _⟩ hK hE trivial rfl hl.1 rfl (Nat.le_of_ble_eq_true rfl) dX11_told_70 ?_
    rw [pc_set _ _ (by omega)]
    have q4 := cntB_rng (fun n => (fun k => S (42 + k).toNat) n ≠ 4) (S 0).toNat
    exact hQ _ _ _ dX11_told_73 (iI_inj (by unfold toldS; rw [if_neg (by omega), if_neg (by omega), if_pos (by omega)]; rfl))
  by_cases c5 : what = 3
  · refine li_tableIn (tgt := 74) hC hwhat (by omega) (by omega) (off := 73) (by rw [c5]; rfl) (by decide) dX11_told_1 ?_
    refine li_aload_n hC hl 0 rfl dX11_told_74 ?_
    refine li_get hC hK ck_X11 (hP 0 _ rfl) 1 (by decide) fl_X11_23 rfl (v := .ref (ad 3)) rfl dX11_told_75 ?_
    refine li_aload_n hC hl 0 rfl dX11_told_78 ?_
    refine li_get hC hK ck_X11 (hP 0 _ rfl) 1 (by decide) fl_X11_23 rfl (v := .ref (ad 3)) rfl dX11_told_79 ?_
    refine li_get hC hK ck_X8 (hP 3 _ rfl) 3 (by decide) fl_X11_99 rfl (v := .ref (ad 9)) rfl dX11_told_82 ?_
    refine ro_callVi hC (c_X8_score l g ad F A E tl S nm hSh hI 9 (fun k => S (42 + k).toNat) (Or.inl rfl) hWh (fun k h0 h1 => (hI.2 k h0 h1).2.2.2.2.2.1) hH hC0 hG) mk_X8_score ml_X11_184 (rr (by decide)) ⟨Nat.le_of_ble_eq_true rfl, Nat.le_of_ble_eq_true rfl⟩ hK hE hP (li_recv hK ck_X8 (hP 3 _ rfl)) rfl hl.1 rfl (Nat.le_of_ble_eq_true rfl) dX11_told_85 ?_
    exact hQ _ _ _ dX11_told_88 (iI_inj (by unfold toldS; rw [if_neg (by omega), if_neg (by omega), if_neg (by omega), if_pos (by omega)]; rfl))
  by_cases c6 : what = 4
  · refine li_tableIn (tgt := 89) hC hwhat (by omega) (by omega) (off := 88) (by rw [c6]; rfl) (by decide) dX11_told_1 ?_
    refine li_aload_n hC hl 0 rfl dX11_told_89 ?_
    refine li_get hC hK ck_X11 (hP 0 _ rfl) 1 (by decide) fl_X11_23 rfl (v := .ref (ad 3)) rfl dX11_told_90 ?_
    refine ro_callVi hC (c_X8_mistaken l g ad F A E tl S nm hSh hI) mk_X8_mistaken ml_X11_187 (rr (by decide)) ⟨Nat.le_of_ble_eq_true rfl, Nat.le_of_ble_eq_true rfl⟩ hK hE hP (li_recv hK ck_X8 (hP 3 _ rfl)) rfl hl.1 rfl (Nat.le_of_ble_eq_true rfl) dX11_told_93 ?_
    exact hQ _ _ _ dX11_told_96 (iI_inj (by unfold toldS; rw [if_neg (by omega), if_neg (by omega), if_neg (by omega), if_neg (by omega), if_pos (by omega)]))
  by_cases c7 : what = 5
  · refine li_tableIn (tgt := 97) hC hwhat (by omega) (by omega) (off := 96) (by rw [c7]; rfl) (by decide) dX11_told_1 ?_
    refine li_aload_n hC hl 0 rfl dX11_told_97 ?_
    refine li_get hC hK ck_X11 (hP 0 _ rfl) 1 (by decide) fl_X11_23 rfl (v := .ref (ad 3)) rfl dX11_told_98 ?_
    refine li_aload_n hC hl 0 rfl dX11_told_101 ?_
    refine li_get hC hK ck_X11 (hP 0 _ rfl) 1 (by decide) fl_X11_23 rfl (v := .ref (ad 3)) rfl dX11_told_102 ?_
    refine li_get hC hK ck_X8 (hP 3 _ rfl) 3 (by decide) fl_X11_99 rfl (v := .ref (ad 9)) rfl dX11_told_105 ?_
    refine ro_callVi hC (c_X8_laid l g ad F A E tl S nm hSh hI 9 (fun k => S (42 + k).toNat) (Or.inl rfl) hWh (fun k h0 h1 => (hI.2 k h0 h1).2.2.2.2.2.1)) mk_X8_laid ml_X11_175 (rr (by decide)) ⟨Nat.le_of_ble_eq_true rfl, Nat.le_of_ble_eq_true rfl⟩ hK hE hP (li_recv hK ck_X8 (hP 3 _ rfl)) rfl hl.1 rfl (Nat.le_of_ble_eq_true rfl) dX11_told_108 ?_
    exact hQ _ _ _ dX11_told_111 (iI_inj (by unfold toldS; rw [if_neg (by omega), if_neg (by omega), if_neg (by omega), if_neg (by omega), if_neg (by omega), if_pos (by omega)]))
  refine li_tableOut (tgt := 112) hC hwhat (by omega) (by decide) dX11_told_1 ?_
  refine li_sipush hC (z := -10001) rfl dX11_told_112 ?_
  exact hQ _ _ _ dX11_told_115 (iI_inj (by unfold toldS; rw [if_neg (by omega), if_neg (by omega), if_neg (by omega), if_neg (by omega), if_neg (by omega), if_neg (by omega)]))
set_option maxHeartbeats 4000000 in
set_option maxRecDepth 100000 in
theorem c_X11_clash (l : Launch) (g : GG) (ad : Nat → Nat) (F : Nat → Int) (A : Nat → Nat → Int) (E : Nat → Nat) (tl : va_W) (S : Nat → Int) (nm : Nat → Nat) (hSh : ShW g ad F A E tl S nm) (hI : InvD S) (a : Int) (p : Int) (b : Int) (q : Int) (ha : rng a) (hp : rng p) (hb : rng b) (hq : rng q) : MroI l g yX11_clash cX11_clash 5 9 [.ref (ad 0), .int (iI a), .int (iI p), .int (iI b), .int (iI q)] (fun H => va_P g.1 vwCl (CW g ad F A E tl) H) (iI (if (0 ≤ a ∧ a < S 0) ∧ (0 ≤ p ∧ p ≤ 3) ∧ (0 ≤ b ∧ b < S 0) ∧ (0 ≤ q ∧ q ≤ 3) then (if a = b then -2 else bothS S a p b q) else -1)) := by
  refine ro_startI (own := RX11) (by decide) rfl (Nat.le_of_ble_eq_true rfl) ?_
  intro Pg Ev s Mi args below Mt Cd ls Q hC hK hE hP hl hQ
  have hSh0 := hSh
  obtain ⟨hTp, hCd, hNs, hWh, hRw, hSn, hPl, hBk, hMp⟩ := hSh0
  have hNm := hNs.2.2
  have hD0 := hI.1
  have hNs0 := hNs.1
  have hl : lv_has ls 5 [(0, .ref (ad 0)), (1, .int (iI a)), (2, .int (iI p)), (3, .int (iI b)), (4, .int (iI q))] := hl
  refine li_aload_n hC hl 0 rfl dX11_clash_0 ?_
  refine li_get hC hK ck_X11 (hP 0 _ rfl) 1 (by decide) fl_X11_23 rfl (v := .ref (ad 3)) rfl dX11_clash_1 ?_
  refine li_iload_n hC hl 1 rfl dX11_clash_4 ?_
  refine ro_callVi hC (c_X8_has l g ad F A E tl S nm hSh hI a ha) mk_X8_has ml_X11_151 (rr (by decide)) ⟨Nat.le_of_ble_eq_true rfl, Nat.le_of_ble_eq_true rfl⟩ hK hE hP (li_recv hK ck_X8 (hP 3 _ rfl)) rfl hl.1 rfl (Nat.le_of_ble_eq_true rfl) dX11_clash_5 ?_
  refine li_ifeq_b (tgt := 37) hC (by decide) dX11_clash_8 (fun c1 => ?_) (fun c1 => ?_)
  · refine li_iconst hC dX11_clash_37 ?_
    exact hQ _ _ _ dX11_clash_38 (iI_inj (by rw [if_neg (by omega)]))
  · refine li_iload_n hC hl 2 rfl dX11_clash_11 ?_
    refine ro_callSi hC (c_X11_isPlace l g p hp) mk_X11_isPlace ml_X11_155 (rr (by decide)) ⟨Nat.le_of_ble_eq_true rfl, Nat.le_of_ble_eq_true rfl⟩ hK hE trivial rfl hl.1 rfl (Nat.le_of_ble_eq_true rfl) dX11_clash_12 ?_
    refine li_ifeq_b (tgt := 37) hC (by decide) dX11_clash_15 (fun c2 => ?_) (fun c2 => ?_)
    · refine li_iconst hC dX11_clash_37 ?_
      exact hQ _ _ _ dX11_clash_38 (iI_inj (by rw [if_neg (by omega)]))
    · refine li_aload_n hC hl 0 rfl dX11_clash_18 ?_
      refine li_get hC hK ck_X11 (hP 0 _ rfl) 1 (by decide) fl_X11_23 rfl (v := .ref (ad 3)) rfl dX11_clash_19 ?_
      refine li_iload_n hC hl 3 rfl dX11_clash_22 ?_
      refine ro_callVi hC (c_X8_has l g ad F A E tl S nm hSh hI b hb) mk_X8_has ml_X11_151 (rr (by decide)) ⟨Nat.le_of_ble_eq_true rfl, Nat.le_of_ble_eq_true rfl⟩ hK hE hP (li_recv hK ck_X8 (hP 3 _ rfl)) rfl hl.1 rfl (Nat.le_of_ble_eq_true rfl) dX11_clash_23 ?_
      refine li_ifeq_b (tgt := 37) hC (by decide) dX11_clash_26 (fun c3 => ?_) (fun c3 => ?_)
      · refine li_iconst hC dX11_clash_37 ?_
        exact hQ _ _ _ dX11_clash_38 (iI_inj (by rw [if_neg (by omega)]))
      · refine li_iload hC hl 4 rfl dX11_clash_29 ?_
        refine ro_callSi hC (c_X11_isPlace l g q hq) mk_X11_isPlace ml_X11_155 (rr (by decide)) ⟨Nat.le_of_ble_eq_true rfl, Nat.le_of_ble_eq_true rfl⟩ hK hE trivial rfl hl.1 rfl (Nat.le_of_ble_eq_true rfl) dX11_clash_31 ?_
        refine li_ifne_b (tgt := 39) hC (by decide) dX11_clash_34 (fun c4 => ?_) (fun c4 => ?_)
        · refine li_iload_n hC hl 1 rfl dX11_clash_39 ?_
          refine li_iload_n hC hl 3 rfl dX11_clash_40 ?_
          refine li_icmp_ne (tgt := 49) hC (by decide) ha hb dX11_clash_41 (fun c5 => ?_) (fun c5 => ?_)
          · refine li_aload_n hC hl 0 rfl dX11_clash_49 ?_
            refine li_get hC hK ck_X11 (hP 0 _ rfl) 1 (by decide) fl_X11_23 rfl (v := .ref (ad 3)) rfl dX11_clash_50 ?_
            refine li_iload_n hC hl 1 rfl dX11_clash_53 ?_
            refine li_iload_n hC hl 2 rfl dX11_clash_54 ?_
            refine li_iload_n hC hl 3 rfl dX11_clash_55 ?_
            refine li_iload hC hl 4 rfl dX11_clash_56 ?_
            refine ro_callVi hC (c_X8_shared l g ad F A E tl S nm hSh hI a p b q (by omega) (by omega) (by omega) (by omega)) mk_X8_shared ml_X11_190 (rr (by decide)) ⟨Nat.le_of_ble_eq_true rfl, Nat.le_of_ble_eq_true rfl⟩ hK hE hP (li_recv hK ck_X8 (hP 3 _ rfl)) rfl hl.1 rfl (Nat.le_of_ble_eq_true rfl) dX11_clash_58 ?_
            have q6 := bothS_rng hI (a := a) (p := p) (b := b) (q := q) (by omega)
            exact hQ _ _ _ dX11_clash_61 (iI_inj (by rw [if_pos (by omega)]; first | (rw [if_pos (by omega)]; done) | (rw [if_neg (by omega)]; done)))
          · refine li_bipush hC (z := -2) rfl dX11_clash_44 ?_
            refine li_goto (tgt := 61) hC (by decide) dX11_clash_46 ?_
            exact hQ _ _ _ dX11_clash_61 (iI_inj (by rw [if_pos (by omega)]; first | (rw [if_pos (by omega)]; done) | (rw [if_neg (by omega)]; done)))
        · refine li_iconst hC dX11_clash_37 ?_
          exact hQ _ _ _ dX11_clash_38 (iI_inj (by rw [if_neg (by omega)]))
set_option maxHeartbeats 4000000 in
set_option maxRecDepth 100000 in
theorem c_X11_at (l : Launch) (g : GG) (ad : Nat → Nat) (F : Nat → Int) (A : Nat → Nat → Int) (E : Nat → Nat) (tl : va_W) (S : Nat → Int) (nm : Nat → Nat) (hSh : ShW g ad F A E tl S nm) (hI : InvD S) (c : Int) (r : Int) (hc : rng c) (hr : rng r) : MroI l g yX11_at cX11_at 3 9 [.ref (ad 0), .int (iI c), .int (iI r)] (fun H => va_P g.1 vwCl (CW g ad F A E tl) H) (iI (if (0 ≤ c ∧ c ≤ 29) ∧ (0 ≤ r ∧ r ≤ 11) then atS S c r else -1)) := by
  refine ro_startI (own := RX11) (by decide) rfl (Nat.le_of_ble_eq_true rfl) ?_
  intro Pg Ev s Mi args below Mt Cd ls Q hC hK hE hP hl hQ
  have hSh0 := hSh
  obtain ⟨hTp, hCd, hNs, hWh, hRw, hSn, hPl, hBk, hMp⟩ := hSh0
  have hNm := hNs.2.2
  have hD0 := hI.1
  have hNs0 := hNs.1
  have hl : lv_has ls 3 [(0, .ref (ad 0)), (1, .int (iI c)), (2, .int (iI r))] := hl
  refine li_iload_n hC hl 1 rfl dX11_at_0 ?_
  refine li_iload_n hC hl 2 rfl dX11_at_1 ?_
  refine ro_callSi hC (c_X11_isSpot l g c r hc hr) mk_X11_isSpot ml_X11_76 (rr (by decide)) ⟨Nat.le_of_ble_eq_true rfl, Nat.le_of_ble_eq_true rfl⟩ hK hE trivial rfl hl.1 rfl (Nat.le_of_ble_eq_true rfl) dX11_at_2 ?_
  refine li_ifeq_b (tgt := 20) hC (by decide) dX11_at_5 (fun c1 => ?_) (fun c1 => ?_)
  · refine li_iconst hC dX11_at_20 ?_
    exact hQ _ _ _ dX11_at_21 (iI_inj (by first | (rw [if_pos (by omega)]; done) | (rw [if_neg (by omega)]; done)))
  · refine li_aload_n hC hl 0 rfl dX11_at_8 ?_
    refine li_get hC hK ck_X11 (hP 0 _ rfl) 1 (by decide) fl_X11_23 rfl (v := .ref (ad 3)) rfl dX11_at_9 ?_
    refine li_iload_n hC hl 1 rfl dX11_at_12 ?_
    refine li_iload_n hC hl 2 rfl dX11_at_13 ?_
    refine ro_callVi hC (c_X8_covering l g ad F A E tl S nm hSh hI c r (by omega) (by omega)) mk_X8_covering ml_X11_194 (rr (by decide)) ⟨Nat.le_of_ble_eq_true rfl, Nat.le_of_ble_eq_true rfl⟩ hK hE hP (li_recv hK ck_X8 (hP 3 _ rfl)) rfl hl.1 rfl (Nat.le_of_ble_eq_true rfl) dX11_at_14 ?_
    have q2 := atS_rng hI c r
    refine li_goto (tgt := 21) hC (by decide) dX11_at_17 ?_
    exact hQ _ _ _ dX11_at_21 (iI_inj (by first | (rw [if_pos (by omega)]; done) | (rw [if_neg (by omega)]; done)))
set_option maxHeartbeats 4000000 in
set_option maxRecDepth 100000 in
theorem c_X11_far (l : Launch) (g : GG) (ad : Nat → Nat) (F : Nat → Int) (A : Nat → Nat → Int) (E : Nat → Nat) (tl : va_W) (S : Nat → Int) (nm : Nat → Nat) (hSh : ShW g ad F A E tl S nm) (hI : InvD S) (n : Int) (hn : rng n) : MroI l g yX11_far cX11_far 2 9 [.ref (ad 0), .int (iI n)] (fun H => va_P g.1 vwCl (CW g ad F A E tl) H) (iI (if 0 ≤ n ∧ n < S 0 then (if S (42 + n).toNat = 4 then -5 else farS S n n) else -1)) := by
  refine ro_startI (own := RX11) (by decide) rfl (Nat.le_of_ble_eq_true rfl) ?_
  intro Pg Ev s Mi args below Mt Cd ls Q hC hK hE hP hl hQ
  have hSh0 := hSh
  obtain ⟨hTp, hCd, hNs, hWh, hRw, hSn, hPl, hBk, hMp⟩ := hSh0
  have hNm := hNs.2.2
  have hD0 := hI.1
  have hNs0 := hNs.1
  have hl : lv_has ls 2 [(0, .ref (ad 0)), (1, .int (iI n))] := hl
  refine li_aload_n hC hl 0 rfl dX11_far_0 ?_
  refine li_get hC hK ck_X11 (hP 0 _ rfl) 1 (by decide) fl_X11_23 rfl (v := .ref (ad 3)) rfl dX11_far_1 ?_
  refine li_iload_n hC hl 1 rfl dX11_far_4 ?_
  refine ro_callVi hC (c_X8_has l g ad F A E tl S nm hSh hI n hn) mk_X8_has ml_X11_151 (rr (by decide)) ⟨Nat.le_of_ble_eq_true rfl, Nat.le_of_ble_eq_true rfl⟩ hK hE hP (li_recv hK ck_X8 (hP 3 _ rfl)) rfl hl.1 rfl (Nat.le_of_ble_eq_true rfl) dX11_far_5 ?_
  refine li_ifne_b (tgt := 13) hC (by decide) dX11_far_8 (fun c1 => ?_) (fun c1 => ?_)
  · refine li_aload_n hC hl 0 rfl dX11_far_13 ?_
    refine li_get hC hK ck_X11 (hP 0 _ rfl) 1 (by decide) fl_X11_23 rfl (v := .ref (ad 3)) rfl dX11_far_14 ?_
    refine li_get hC hK ck_X8 (hP 3 _ rfl) 3 (by decide) fl_X11_99 rfl (v := .ref (ad 9)) rfl dX11_far_17 ?_
    refine li_iload_n hC hl 1 rfl dX11_far_20 ?_
    refine ro_callVi hC (c_X6_get l g (ws := CW g ad F A E tl) (i := 9) (j := 10) (a := (ad 9)) (b := (ad 10)) (n := 7) (f := (A 10)) (sz := F 9) rfl rfl (Nat.le_of_ble_eq_true rfl) (k := n) ⟨by omega, by omega⟩) mk_X6_get ml_X11_131 (rr (by decide)) ⟨Nat.zero_le _, Nat.zero_le _⟩ hK hE hP (li_recv hK ck_X6 (hP 9 _ rfl)) rfl hl.1 rfl (Nat.le_of_ble_eq_true rfl) dX11_far_21 ?_
    rw [hWh n (by omega) (by omega)]
    have q2 := hI.2 n (by omega) (by omega)
    refine li_iconst hC dX11_far_24 ?_
    refine li_icmp_ne (tgt := 33) hC (by decide) (rg (by omega) (by omega)) (rg (by decide) (by decide)) dX11_far_25 (fun c3 => ?_) (fun c3 => ?_)
    · refine li_aload_n hC hl 0 rfl dX11_far_33 ?_
      refine li_get hC hK ck_X11 (hP 0 _ rfl) 1 (by decide) fl_X11_23 rfl (v := .ref (ad 3)) rfl dX11_far_34 ?_
      refine li_iload_n hC hl 1 rfl dX11_far_37 ?_
      refine li_iload_n hC hl 1 rfl dX11_far_38 ?_
      refine ro_callVi hC (c_X8_fromMiddle l g ad F A E tl S nm hSh hI n n (by omega) (by omega)) mk_X8_fromMiddle ml_X11_221 (rr (by decide)) ⟨Nat.le_of_ble_eq_true rfl, Nat.le_of_ble_eq_true rfl⟩ hK hE hP (li_recv hK ck_X8 (hP 3 _ rfl)) rfl hl.1 rfl (Nat.le_of_ble_eq_true rfl) dX11_far_39 ?_
      have q4 := farS_rng hI (n := n) (d := n) (by omega) (by omega)
      exact hQ _ _ _ dX11_far_42 (iI_inj (by first | (rw [if_neg (by omega)]; done) | (rw [if_pos (by omega), if_pos (by omega)]; done) | (rw [if_pos (by omega), if_neg (by omega)]; done)))
    · refine li_bipush hC (z := -5) rfl dX11_far_28 ?_
      refine li_goto (tgt := 42) hC (by decide) dX11_far_30 ?_
      exact hQ _ _ _ dX11_far_42 (iI_inj (by first | (rw [if_neg (by omega)]; done) | (rw [if_pos (by omega), if_pos (by omega)]; done) | (rw [if_pos (by omega), if_neg (by omega)]; done)))
  · refine li_iconst hC dX11_far_11 ?_
    exact hQ _ _ _ dX11_far_12 (iI_inj (by first | (rw [if_neg (by omega)]; done) | (rw [if_pos (by omega), if_pos (by omega)]; done) | (rw [if_pos (by omega), if_neg (by omega)]; done)))
set_option maxHeartbeats 4000000 in
set_option maxRecDepth 100000 in
theorem c_X11_can (l : Launch) (g : GG) (ad : Nat → Nat) (F : Nat → Int) (A : Nat → Nat → Int) (E : Nat → Nat) (tl : va_W) (S : Nat → Int) (nm : Nat → Nat) (hSh : ShW g ad F A E tl S nm) (hI : InvD S) (n : Int) (hn : rng n) (hL : InvL S) : MroI l g yX11_can cX11_can 5 9 [.ref (ad 0), .int (iI n)] (fun H => va_P g.1 vwCl (CW g ad F A E tl) H) (iI (iteP (0 ≤ n ∧ n < S 0) (canS S n) (-1))) := by
  refine ro_startI (own := RX11) (by decide) rfl (Nat.le_of_ble_eq_true rfl) ?_
  intro Pg Ev s Mi args below Mt Cd ls Q hC hK hE hP hl hQ
  have hSh0 := hSh
  obtain ⟨hTp, hCd, hNs, hWh, hRw, hSn, hPl, hBk, hMp⟩ := hSh0
  have hNm := hNs.2.2
  have hD0 := hI.1
  have hNs0 := hNs.1
  have hl : lv_has ls 5 [(0, .ref (ad 0)), (1, .int (iI n))] := hl
  refine li_aload_n hC hl 0 rfl dX11_can_0 ?_
  refine li_get hC hK ck_X11 (hP 0 _ rfl) 1 (by decide) fl_X11_23 rfl (v := .ref (ad 3)) rfl dX11_can_1 ?_
  refine li_iload_n hC hl 1 rfl dX11_can_4 ?_
  refine ro_callVq hC (c_X8_name l g ad F A E tl S nm hSh hI n hn) mk_X8_name ml_X11_106 (rr (by decide)) ⟨Nat.zero_le _, Nat.zero_le _⟩ hK hE hP (li_recv hK ck_X8 (hP 3 _ rfl)) rfl hl.1 rfl (Nat.le_of_ble_eq_true rfl) dX11_can_5 ?_
  by_cases cN1 : 0 ≤ n ∧ n < S 0
  · rw [iteP_t cN1, show va_rf (some (nm n.toNat)) = .ref (nm n.toNat) from rfl]
    have q3 := hI.2 n (by omega) (by omega)
    refine li_astore_n hC (lv' := [(2, .ref (nm n.toNat)), (0, .ref (ad 0)), (1, .int (iI n))]) hl (by decide) rfl dX11_can_8 (fun ls hl => ?_)
    refine li_aload_n hC hl 0 rfl dX11_can_9 ?_
    refine li_ifnonnull (tgt := 15) hC (by decide) dX11_can_10 ?_
    refine li_iconst hC dX11_can_15 ?_
    refine li_istore_n hC (lv' := [(3, .int (iI 0)), (2, .ref (nm n.toNat)), (0, .ref (ad 0)), (1, .int (iI n))]) hl (by decide) rfl dX11_can_16 (fun ls hl => ?_)
    refine li_iconst hC dX11_can_17 ?_
    refine li_istore hC (lv' := [(4, .int (iI 0)), (3, .int (iI 0)), (2, .ref (nm n.toNat)), (0, .ref (ad 0)), (1, .int (iI n))]) hl (by decide) rfl dX11_can_18 (fun ls hl => ?_)
    have L20_4 : ∀ (fuel : Nat) (p : Int) (z : Int) (ls : Array Slot), lv_has ls 5 [(2, .ref (nm n.toNat)), (0, .ref (ad 0)), (1, .int (iI n)), (3, .int (iI z)), (4, .int (iI p))] → (0 ≤ p ∧ p ≤ 5) → (z = setB (fun p => seenS (va_up S (42 + n).toNat p)) p.toNat) → (((5 : Int) - p).toNat) < fuel → W Pg l Ev (rmC 9 0 0) s Mi args below Mt Cd s.heap [] 0 0 Q (F0 Mi 20 ls []) := by
      intro fuel
      induction fuel with
      | zero => intro p z ls hl hp hz hm; exact absurd hm (Nat.not_lt_zero _)
      | succ fuel ih20 =>
        intro p z ls hl hp hz hm
        refine li_iload hC hl 4 rfl dX11_can_20 ?_
        refine li_iconst hC dX11_can_22 ?_
        refine li_icmp_gt (tgt := 56) hC (by decide) (rg (by omega) (by omega)) (rg (by decide) (by decide)) dX11_can_23 (fun c5 => ?_) (fun c5 => ?_)
        · refine li_iload_n hC hl 3 rfl dX11_can_56 ?_
          exact hQ _ _ _ dX11_can_57 (iI_inj (by rw [iteP_t (by omega)]; unfold canS; rw [hz, show p = 5 by omega]; rfl))
        · refine li_aload_n hC hl 1 rfl dX11_can_26 ?_
          refine li_get hC hK ck_X11 (hP 0 _ rfl) 1 (by decide) fl_X11_23 rfl (v := .ref (ad 3)) rfl dX11_can_27 ?_
          refine li_iload_n hC hl 2 rfl dX11_can_30 ?_
          refine li_iload hC hl 4 rfl dX11_can_31 ?_
          refine li_aload_n hC hl 0 rfl dX11_can_33 ?_
          refine li_getN2 hC hK (nm_at hP hNm hI (i := n) (by omega)) fl_X11_115 dX11_can_34 ?_
          refine ro_callVi hC (c_X8_isAllSeen l g ad F A E tl S nm hSh hI n p (S (14 + n).toNat) hL (by omega) (by omega) (by omega)) mk_X8_isAllSeen ml_X11_227 (rr (by decide)) ⟨Nat.le_of_ble_eq_true rfl, Nat.le_of_ble_eq_true rfl⟩ hK hE hP (li_recv hK ck_X8 (hP 3 _ rfl)) rfl hl.1 rfl (Nat.le_of_ble_eq_true rfl) dX11_can_37 ?_
          refine li_ifeq_b (tgt := 50) hC (by decide) dX11_can_40 (fun c6 => ?_) (fun c6 => ?_)
          · refine li_iinc hC (lv' := [(4, .int (iI (p + 1))), (2, .ref (nm n.toNat)), (0, .ref (ad 0)), (1, .int (iI n)), (3, .int (iI z))]) hl 4 rfl (by decide) rfl dX11_can_50 (fun ls hl => ?_)
            refine li_goto (tgt := 20) hC (by decide) dX11_can_53 ?_
            exact ih20 (p + 1) z _ (lv_sub hl [1, 2, 3, 4, 0] rfl) (by omega) (by rw [hz]; exact setB_f (P := (fun p => seenS (va_up S (42 + n).toNat p))) hp.1 (by (try dsimp only); rw [← that_p (by omega)]; assumption)) (by omega)
          · refine li_iload_n hC hl 3 rfl dX11_can_43 ?_
            refine li_iconst hC dX11_can_44 ?_
            refine li_iload hC hl 4 rfl dX11_can_45 ?_
            refine li_ishl hC dX11_can_47 ?_
            refine li_ior hC dX11_can_48 ?_
            refine li_istore_n hC (lv' := [(3, .int (iI (ior z (ishl 1 p)))), (2, .ref (nm n.toNat)), (0, .ref (ad 0)), (1, .int (iI n)), (4, .int (iI p))]) hl (by decide) rfl dX11_can_49 (fun ls hl => ?_)
            refine li_iinc hC (lv' := [(4, .int (iI (p + 1))), (3, .int (iI (ior z (ishl 1 p)))), (2, .ref (nm n.toNat)), (0, .ref (ad 0)), (1, .int (iI n))]) hl 4 rfl (by decide) rfl dX11_can_50 (fun ls hl => ?_)
            refine li_goto (tgt := 20) hC (by decide) dX11_can_53 ?_
            exact ih20 (p + 1) (ior z (ishl 1 p)) _ (lv_sub hl [2, 3, 4, 1, 0] rfl) (by omega) (by rw [hz]; exact setB_t (P := (fun p => seenS (va_up S (42 + n).toNat p))) hp.1 (by omega) (by (try dsimp only); rw [← that_p (by omega)]; assumption)) (by omega)
    exact L20_4 ((((5 : Int) - 0).toNat) + 1) 0 0 _ (lv_sub hl [2, 3, 4, 1, 0] rfl) (by omega) (by rfl) (by omega)
  · rw [iteP_f cN1, show va_rf none = .null from rfl]
    refine li_astore_nN hC (lv' := [(2, .null), (0, .ref (ad 0)), (1, .int (iI n))]) hl (by decide) rfl dX11_can_8 (fun ls hl => ?_)
    refine li_aload_nN hC hl 0 rfl dX11_can_9 ?_
    refine li_ifnonnullN hC dX11_can_10 ?_
    refine li_iconst hC dX11_can_13 ?_
    exact hQ _ _ _ dX11_can_14 (iI_inj (by rw [iteP_f (by omega)]))
set_option maxHeartbeats 4000000 in
set_option maxRecDepth 100000 in
theorem c_X11_firm (l : Launch) (g : GG) (ad : Nat → Nat) (F : Nat → Int) (A : Nat → Nat → Int) (E : Nat → Nat) (tl : va_W) (S : Nat → Int) (nm : Nat → Nat) (hSh : ShW g ad F A E tl S nm) (hI : InvD S) (n : Int) (what : Int) (hn : rng n) (hwhat : rng what) (hL : InvL S) : MroI l g yX11_firm cX11_firm 6 9 [.ref (ad 0), .int (iI n), .int (iI what)] (fun H => va_P g.1 vwCl (CW g ad F A E tl) H) (iI (firmS S n what)) := by
  refine ro_startI (own := RX11) (by decide) rfl (Nat.le_of_ble_eq_true rfl) ?_
  intro Pg Ev s Mi args below Mt Cd ls Q hC hK hE hP hl hQ
  have hSh0 := hSh
  obtain ⟨hTp, hCd, hNs, hWh, hRw, hSn, hPl, hBk, hMp⟩ := hSh0
  have hNm := hNs.2.2
  have hD0 := hI.1
  have hNs0 := hNs.1
  have hl : lv_has ls 6 [(0, .ref (ad 0)), (1, .int (iI n)), (2, .int (iI what))] := hl
  refine li_aload_n hC hl 0 rfl dX11_firm_0 ?_
  refine li_get hC hK ck_X11 (hP 0 _ rfl) 1 (by decide) fl_X11_23 rfl (v := .ref (ad 3)) rfl dX11_firm_1 ?_
  refine li_iload_n hC hl 1 rfl dX11_firm_4 ?_
  refine ro_callVi hC (c_X8_has l g ad F A E tl S nm hSh hI n hn) mk_X8_has ml_X11_151 (rr (by decide)) ⟨Nat.le_of_ble_eq_true rfl, Nat.le_of_ble_eq_true rfl⟩ hK hE hP (li_recv hK ck_X8 (hP 3 _ rfl)) rfl hl.1 rfl (Nat.le_of_ble_eq_true rfl) dX11_firm_5 ?_
  refine li_ifeq_b (tgt := 20) hC (by decide) dX11_firm_8 (fun c1 => ?_) (fun c1 => ?_)
  · refine li_iconst hC dX11_firm_20 ?_
    exact hQ _ _ _ dX11_firm_21 (iI_inj (by unfold firmS; rw [iteP_f (by omega)]))
  · refine li_iload_n hC hl 2 rfl dX11_firm_11 ?_
    refine li_if_eq (tgt := 22) hC (by decide) hwhat dX11_firm_12 (fun c2 => ?_) (fun c2 => ?_)
    · have hrn := hI.2 n (by omega) (by omega)
      refine li_iconst hC dX11_firm_22 ?_
      refine li_istore_n hC (lv' := [(3, .int (iI 0)), (0, .ref (ad 0)), (1, .int (iI n)), (2, .int (iI what))]) hl (by decide) rfl dX11_firm_23 (fun ls hl => ?_)
      refine li_bipush hC (z := -5) rfl dX11_firm_24 ?_
      refine li_istore hC (lv' := [(4, .int (iI (-5))), (3, .int (iI 0)), (0, .ref (ad 0)), (1, .int (iI n)), (2, .int (iI what))]) hl (by decide) rfl dX11_firm_26 (fun ls hl => ?_)
      refine li_bipush hC (z := 9) rfl dX11_firm_28 ?_
      refine li_istore hC (lv' := [(5, .int (iI 9)), (4, .int (iI (-5))), (3, .int (iI 0)), (0, .ref (ad 0)), (1, .int (iI n)), (2, .int (iI what))]) hl (by decide) rfl dX11_firm_30 (fun ls hl => ?_)
      have L32_3 : ∀ (fuel : Nat) (v : Int) (z : Int) (y : Int) (ls : Array Slot), lv_has ls 6 [(0, .ref (ad 0)), (1, .int (iI n)), (2, .int (iI what)), (3, .int (iI z)), (4, .int (iI y)), (5, .int (iI v))] → (-1 ≤ v ∧ v ≤ 9) → (z = frN (fun v => seenS (va_up S (14 + n).toNat v)) (9 - v).toNat) → (y = frL (fun v => seenS (va_up S (14 + n).toNat v)) (9 - v).toNat) → (((v : Int) + 1).toNat) < fuel → W Pg l Ev (rmC 9 0 0) s Mi args below Mt Cd s.heap [] 0 0 Q (F0 Mi 32 ls []) := by
        intro fuel
        induction fuel with
        | zero => intro v z y ls hl hv hz hy hm; exact absurd hm (Nat.not_lt_zero _)
        | succ fuel ih32 =>
          intro v z y ls hl hv hz hy hm
          refine li_iload hC hl 5 rfl dX11_firm_32 ?_
          refine li_if_lt (tgt := 74) hC (by decide) (rg (by omega) (by omega)) dX11_firm_34 (fun c4 => ?_) (fun c4 => ?_)
          · refine li_iload_n hC hl 2 rfl dX11_firm_74 ?_
            refine li_if_ne (tgt := 82) hC (by decide) hwhat dX11_firm_75 (fun c5 => ?_) (fun c5 => ?_)
            · refine li_iload hC hl 4 rfl dX11_firm_82 ?_
              exact hQ _ _ _ dX11_firm_84 (iI_inj (by unfold firmS; rw [iteP_t (by omega)]; first | (rw [if_pos (by omega), hz, show v = -1 by omega]; rfl) | (rw [if_neg (by omega), hy, show v = -1 by omega]; rfl)))
            · refine li_iload_n hC hl 3 rfl dX11_firm_78 ?_
              refine li_goto (tgt := 84) hC (by decide) dX11_firm_79 ?_
              exact hQ _ _ _ dX11_firm_84 (iI_inj (by unfold firmS; rw [iteP_t (by omega)]; first | (rw [if_pos (by omega), hz, show v = -1 by omega]; rfl) | (rw [if_neg (by omega), hy, show v = -1 by omega]; rfl)))
          · refine li_aload_n hC hl 0 rfl dX11_firm_37 ?_
            refine li_get hC hK ck_X11 (hP 0 _ rfl) 1 (by decide) fl_X11_23 rfl (v := .ref (ad 3)) rfl dX11_firm_38 ?_
            refine li_iload_n hC hl 1 rfl dX11_firm_41 ?_
            refine li_aload_n hC hl 0 rfl dX11_firm_42 ?_
            refine li_get hC hK ck_X11 (hP 0 _ rfl) 1 (by decide) fl_X11_23 rfl (v := .ref (ad 3)) rfl dX11_firm_43 ?_
            refine li_get hC hK ck_X8 (hP 3 _ rfl) 3 (by decide) fl_X11_99 rfl (v := .ref (ad 9)) rfl dX11_firm_46 ?_
            refine li_iload_n hC hl 1 rfl dX11_firm_49 ?_
            refine ro_callVi hC (c_X6_get l g (ws := CW g ad F A E tl) (i := 9) (j := 10) (a := (ad 9)) (b := (ad 10)) (n := 7) (f := (A 10)) (sz := F 9) rfl rfl (Nat.le_of_ble_eq_true rfl) (k := n) ⟨by omega, by omega⟩) mk_X6_get ml_X11_131 (rr (by decide)) ⟨Nat.zero_le _, Nat.zero_le _⟩ hK hE hP (li_recv hK ck_X6 (hP 9 _ rfl)) rfl hl.1 rfl (Nat.le_of_ble_eq_true rfl) dX11_firm_50 ?_
            rw [hWh n (by omega) (by omega)]
            have q6 := hI.2 n (by omega) (by omega)
            refine li_iload hC hl 5 rfl dX11_firm_53 ?_
            refine ro_callVi hC (c_X8_isAllSeen l g ad F A E tl S nm hSh hI n (S (42 + n).toNat) v hL (by omega) (by omega) (by omega)) mk_X8_isAllSeen ml_X11_227 (rr (by decide)) ⟨Nat.le_of_ble_eq_true rfl, Nat.le_of_ble_eq_true rfl⟩ hK hE hP (li_recv hK ck_X8 (hP 3 _ rfl)) rfl hl.1 rfl (Nat.le_of_ble_eq_true rfl) dX11_firm_55 ?_
            refine li_ifeq_b (tgt := 68) hC (by decide) dX11_firm_58 (fun c7 => ?_) (fun c7 => ?_)
            · refine li_iinc hC (lv' := [(5, .int (iI (v + (-1)))), (0, .ref (ad 0)), (1, .int (iI n)), (2, .int (iI what)), (3, .int (iI z)), (4, .int (iI y))]) hl 5 rfl (by decide) rfl dX11_firm_68 (fun ls hl => ?_)
              refine li_goto (tgt := 32) hC (by decide) dX11_firm_71 ?_
              exact ih32 (v + (-1)) z y _ (lv_sub hl [1, 2, 3, 4, 5, 0] rfl) (by omega) (by rw [show (v + -1) = v - 1 by omega, frN_s (P := (fun v => seenS (va_up S (14 + n).toNat v))) (by omega), hz]; (try dsimp only); rw [(b2_f (P := seenS (va_up S (14 + n).toNat v)) (by rw [← that_w]; assumption))]; omega) (by rw [show (9 - (v + -1)).toNat = (9 - v).toNat + 1 by omega, frL]; (try dsimp only); rw [show 9 - (((9 - v).toNat : Nat) : Int) = v by omega, iteP_f (by rw [← that_w]; assumption)]; exact hy) (by omega)
            · refine li_iinc hC (lv' := [(3, .int (iI (z + 1))), (0, .ref (ad 0)), (1, .int (iI n)), (2, .int (iI what)), (4, .int (iI y)), (5, .int (iI v))]) hl 3 rfl (by decide) rfl dX11_firm_61 (fun ls hl => ?_)
              refine li_iload hC hl 5 rfl dX11_firm_64 ?_
              refine li_istore hC (lv' := [(4, .int (iI v)), (3, .int (iI (z + 1))), (0, .ref (ad 0)), (1, .int (iI n)), (2, .int (iI what)), (5, .int (iI v))]) hl (by decide) rfl dX11_firm_66 (fun ls hl => ?_)
              refine li_iinc hC (lv' := [(5, .int (iI (v + (-1)))), (4, .int (iI v)), (3, .int (iI (z + 1))), (0, .ref (ad 0)), (1, .int (iI n)), (2, .int (iI what))]) hl 5 rfl (by decide) rfl dX11_firm_68 (fun ls hl => ?_)
              refine li_goto (tgt := 32) hC (by decide) dX11_firm_71 ?_
              exact ih32 (v + (-1)) (z + 1) v _ (lv_sub hl [3, 4, 5, 2, 1, 0] rfl) (by omega) (by rw [show (v + -1) = v - 1 by omega, frN_s (P := (fun v => seenS (va_up S (14 + n).toNat v))) (by omega), hz]; (try dsimp only); rw [(b2_t (P := seenS (va_up S (14 + n).toNat v)) (by rw [← that_w]; assumption))]) (by rw [show (9 - (v + -1)).toNat = (9 - v).toNat + 1 by omega, frL]; (try dsimp only); rw [show 9 - (((9 - v).toNat : Nat) : Int) = v by omega, iteP_t (by rw [← that_w]; assumption)]) (by omega)
      exact L32_3 ((((9 : Int) + 1).toNat) + 1) 9 0 (-5) _ (lv_sub hl [3, 4, 5, 2, 1, 0] rfl) (by omega) (by rfl) (by rfl) (by omega)
    · refine li_iload_n hC hl 2 rfl dX11_firm_15 ?_
      refine li_iconst hC dX11_firm_16 ?_
      refine li_icmp_eq (tgt := 22) hC (by decide) hwhat (rg (by decide) (by decide)) dX11_firm_17 (fun c8 => ?_) (fun c8 => ?_)
      · have hrn := hI.2 n (by omega) (by omega)
        refine li_iconst hC dX11_firm_22 ?_
        refine li_istore_n hC (lv' := [(3, .int (iI 0)), (0, .ref (ad 0)), (1, .int (iI n)), (2, .int (iI what))]) hl (by decide) rfl dX11_firm_23 (fun ls hl => ?_)
        refine li_bipush hC (z := -5) rfl dX11_firm_24 ?_
        refine li_istore hC (lv' := [(4, .int (iI (-5))), (3, .int (iI 0)), (0, .ref (ad 0)), (1, .int (iI n)), (2, .int (iI what))]) hl (by decide) rfl dX11_firm_26 (fun ls hl => ?_)
        refine li_bipush hC (z := 9) rfl dX11_firm_28 ?_
        refine li_istore hC (lv' := [(5, .int (iI 9)), (4, .int (iI (-5))), (3, .int (iI 0)), (0, .ref (ad 0)), (1, .int (iI n)), (2, .int (iI what))]) hl (by decide) rfl dX11_firm_30 (fun ls hl => ?_)
        have L32_9 : ∀ (fuel : Nat) (v : Int) (z : Int) (y : Int) (ls : Array Slot), lv_has ls 6 [(0, .ref (ad 0)), (1, .int (iI n)), (2, .int (iI what)), (3, .int (iI z)), (4, .int (iI y)), (5, .int (iI v))] → (-1 ≤ v ∧ v ≤ 9) → (z = frN (fun v => seenS (va_up S (14 + n).toNat v)) (9 - v).toNat) → (y = frL (fun v => seenS (va_up S (14 + n).toNat v)) (9 - v).toNat) → (((v : Int) + 1).toNat) < fuel → W Pg l Ev (rmC 9 0 0) s Mi args below Mt Cd s.heap [] 0 0 Q (F0 Mi 32 ls []) := by
          intro fuel
          induction fuel with
          | zero => intro v z y ls hl hv hz hy hm; exact absurd hm (Nat.not_lt_zero _)
          | succ fuel ih32 =>
            intro v z y ls hl hv hz hy hm
            refine li_iload hC hl 5 rfl dX11_firm_32 ?_
            refine li_if_lt (tgt := 74) hC (by decide) (rg (by omega) (by omega)) dX11_firm_34 (fun c10 => ?_) (fun c10 => ?_)
            · refine li_iload_n hC hl 2 rfl dX11_firm_74 ?_
              refine li_if_ne (tgt := 82) hC (by decide) hwhat dX11_firm_75 (fun c11 => ?_) (fun c11 => ?_)
              · refine li_iload hC hl 4 rfl dX11_firm_82 ?_
                exact hQ _ _ _ dX11_firm_84 (iI_inj (by unfold firmS; rw [iteP_t (by omega)]; first | (rw [if_pos (by omega), hz, show v = -1 by omega]; rfl) | (rw [if_neg (by omega), hy, show v = -1 by omega]; rfl)))
              · refine li_iload_n hC hl 3 rfl dX11_firm_78 ?_
                refine li_goto (tgt := 84) hC (by decide) dX11_firm_79 ?_
                exact hQ _ _ _ dX11_firm_84 (iI_inj (by unfold firmS; rw [iteP_t (by omega)]; first | (rw [if_pos (by omega), hz, show v = -1 by omega]; rfl) | (rw [if_neg (by omega), hy, show v = -1 by omega]; rfl)))
            · refine li_aload_n hC hl 0 rfl dX11_firm_37 ?_
              refine li_get hC hK ck_X11 (hP 0 _ rfl) 1 (by decide) fl_X11_23 rfl (v := .ref (ad 3)) rfl dX11_firm_38 ?_
              refine li_iload_n hC hl 1 rfl dX11_firm_41 ?_
              refine li_aload_n hC hl 0 rfl dX11_firm_42 ?_
              refine li_get hC hK ck_X11 (hP 0 _ rfl) 1 (by decide) fl_X11_23 rfl (v := .ref (ad 3)) rfl dX11_firm_43 ?_
              refine li_get hC hK ck_X8 (hP 3 _ rfl) 3 (by decide) fl_X11_99 rfl (v := .ref (ad 9)) rfl dX11_firm_46 ?_
              refine li_iload_n hC hl 1 rfl dX11_firm_49 ?_
              refine ro_callVi hC (c_X6_get l g (ws := CW g ad F A E tl) (i := 9) (j := 10) (a := (ad 9)) (b := (ad 10)) (n := 7) (f := (A 10)) (sz := F 9) rfl rfl (Nat.le_of_ble_eq_true rfl) (k := n) ⟨by omega, by omega⟩) mk_X6_get ml_X11_131 (rr (by decide)) ⟨Nat.zero_le _, Nat.zero_le _⟩ hK hE hP (li_recv hK ck_X6 (hP 9 _ rfl)) rfl hl.1 rfl (Nat.le_of_ble_eq_true rfl) dX11_firm_50 ?_
              rw [hWh n (by omega) (by omega)]
              have q12 := hI.2 n (by omega) (by omega)
              refine li_iload hC hl 5 rfl dX11_firm_53 ?_
              refine ro_callVi hC (c_X8_isAllSeen l g ad F A E tl S nm hSh hI n (S (42 + n).toNat) v hL (by omega) (by omega) (by omega)) mk_X8_isAllSeen ml_X11_227 (rr (by decide)) ⟨Nat.le_of_ble_eq_true rfl, Nat.le_of_ble_eq_true rfl⟩ hK hE hP (li_recv hK ck_X8 (hP 3 _ rfl)) rfl hl.1 rfl (Nat.le_of_ble_eq_true rfl) dX11_firm_55 ?_
              refine li_ifeq_b (tgt := 68) hC (by decide) dX11_firm_58 (fun c13 => ?_) (fun c13 => ?_)
              · refine li_iinc hC (lv' := [(5, .int (iI (v + (-1)))), (0, .ref (ad 0)), (1, .int (iI n)), (2, .int (iI what)), (3, .int (iI z)), (4, .int (iI y))]) hl 5 rfl (by decide) rfl dX11_firm_68 (fun ls hl => ?_)
                refine li_goto (tgt := 32) hC (by decide) dX11_firm_71 ?_
                exact ih32 (v + (-1)) z y _ (lv_sub hl [1, 2, 3, 4, 5, 0] rfl) (by omega) (by rw [show (v + -1) = v - 1 by omega, frN_s (P := (fun v => seenS (va_up S (14 + n).toNat v))) (by omega), hz]; (try dsimp only); rw [(b2_f (P := seenS (va_up S (14 + n).toNat v)) (by rw [← that_w]; assumption))]; omega) (by rw [show (9 - (v + -1)).toNat = (9 - v).toNat + 1 by omega, frL]; (try dsimp only); rw [show 9 - (((9 - v).toNat : Nat) : Int) = v by omega, iteP_f (by rw [← that_w]; assumption)]; exact hy) (by omega)
              · refine li_iinc hC (lv' := [(3, .int (iI (z + 1))), (0, .ref (ad 0)), (1, .int (iI n)), (2, .int (iI what)), (4, .int (iI y)), (5, .int (iI v))]) hl 3 rfl (by decide) rfl dX11_firm_61 (fun ls hl => ?_)
                refine li_iload hC hl 5 rfl dX11_firm_64 ?_
                refine li_istore hC (lv' := [(4, .int (iI v)), (3, .int (iI (z + 1))), (0, .ref (ad 0)), (1, .int (iI n)), (2, .int (iI what)), (5, .int (iI v))]) hl (by decide) rfl dX11_firm_66 (fun ls hl => ?_)
                refine li_iinc hC (lv' := [(5, .int (iI (v + (-1)))), (4, .int (iI v)), (3, .int (iI (z + 1))), (0, .ref (ad 0)), (1, .int (iI n)), (2, .int (iI what))]) hl 5 rfl (by decide) rfl dX11_firm_68 (fun ls hl => ?_)
                refine li_goto (tgt := 32) hC (by decide) dX11_firm_71 ?_
                exact ih32 (v + (-1)) (z + 1) v _ (lv_sub hl [3, 4, 5, 2, 1, 0] rfl) (by omega) (by rw [show (v + -1) = v - 1 by omega, frN_s (P := (fun v => seenS (va_up S (14 + n).toNat v))) (by omega), hz]; (try dsimp only); rw [(b2_t (P := seenS (va_up S (14 + n).toNat v)) (by rw [← that_w]; assumption))]) (by rw [show (9 - (v + -1)).toNat = (9 - v).toNat + 1 by omega, frL]; (try dsimp only); rw [show 9 - (((9 - v).toNat : Nat) : Int) = v by omega, iteP_t (by rw [← that_w]; assumption)]) (by omega)
        exact L32_9 ((((9 : Int) + 1).toNat) + 1) 9 0 (-5) _ (lv_sub hl [3, 4, 5, 2, 1, 0] rfl) (by omega) (by rfl) (by rfl) (by omega)
      · refine li_iconst hC dX11_firm_20 ?_
        exact hQ _ _ _ dX11_firm_21 (iI_inj (by unfold firmS; rw [iteP_f (by omega)]))
set_option maxHeartbeats 4000000 in
set_option maxRecDepth 100000 in
theorem c_X11_odds (l : Launch) (g : GG) (ad : Nat → Nat) (F : Nat → Int) (A : Nat → Nat → Int) (E : Nat → Nat) (tl : va_W) (S : Nat → Int) (nm : Nat → Nat) (hSh : ShW g ad F A E tl S nm) (hI : InvD S) (n : Int) (part : Int) (hn : rng n) (hpart : rng part) (hH : InvH S) : MroJ l g yX11_odds cX11_odds 4 10 [.ref (ad 0), .int (iI n), .int (iI part)] (fun H => va_P g.1 vwCl (CW g ad F A E tl) H) (jI (oddsS S n part)) := by
  refine ro_startJ (own := RX11) (by decide) rfl (Nat.le_of_ble_eq_true rfl) ?_
  intro Pg Ev s Mi args below Mt Cd ls Q hC hK hE hP hl hQ
  have hSh0 := hSh
  obtain ⟨hTp, hCd, hNs, hWh, hRw, hSn, hPl, hBk, hMp⟩ := hSh0
  have hNm := hNs.2.2
  have hD0 := hI.1
  have hNs0 := hNs.1
  have hl : lv_has ls 4 [(0, .ref (ad 0)), (1, .int (iI n)), (2, .int (iI part))] := hl
  refine li_aload_n hC hl 0 rfl dX11_odds_0 ?_
  refine li_get hC hK ck_X11 (hP 0 _ rfl) 1 (by decide) fl_X11_23 rfl (v := .ref (ad 3)) rfl dX11_odds_1 ?_
  refine li_iload_n hC hl 1 rfl dX11_odds_4 ?_
  refine ro_callVi hC (c_X8_has l g ad F A E tl S nm hSh hI n hn) mk_X8_has ml_X11_151 (rr (by decide)) ⟨Nat.le_of_ble_eq_true rfl, Nat.le_of_ble_eq_true rfl⟩ hK hE hP (li_recv hK ck_X8 (hP 3 _ rfl)) rfl hl.1 rfl (Nat.le_of_ble_eq_true rfl) dX11_odds_5 ?_
  refine li_ifne_b (tgt := 15) hC (by decide) dX11_odds_8 (fun c1 => ?_) (fun c1 => ?_)
  · refine li_aload_n hC hl 0 rfl dX11_odds_15 ?_
    refine li_get hC hK ck_X11 (hP 0 _ rfl) 1 (by decide) fl_X11_23 rfl (v := .ref (ad 3)) rfl dX11_odds_16 ?_
    refine li_iload_n hC hl 1 rfl dX11_odds_19 ?_
    refine ro_callVi hC (c_X8_mayBe l g ad F A E tl S nm hSh hI n (by omega)) mk_X8_mayBe ml_X11_137 (rr (by decide)) ⟨Nat.le_of_ble_eq_true rfl, Nat.le_of_ble_eq_true rfl⟩ hK hE hP (li_recv hK ck_X8 (hP 3 _ rfl)) rfl hl.1 rfl (Nat.le_of_ble_eq_true rfl) dX11_odds_20 ?_
    refine ro_callSi hC (c_J6_bitCount_0f7a4 l g (setB (mayS S n) 4) (set7 _ (by omega))) mk_J6_bitCount_0f7a4 ml_X11_179 (rr (by decide)) ⟨Nat.zero_le _, Nat.zero_le _⟩ hK hE trivial rfl hl.1 rfl (Nat.le_of_ble_eq_true rfl) dX11_odds_23 ?_
    rw [pc_set _ _ (by omega)]
    have q2 := cntB_rng (mayS S n) 4
    refine li_istore_n hC (lv' := [(3, .int (iI (cntB (mayS S n) 4))), (0, .ref (ad 0)), (1, .int (iI n)), (2, .int (iI part))]) hl (by decide) rfl dX11_odds_26 (fun ls hl => ?_)
    refine li_aload_n hC hl 1 rfl dX11_odds_27 ?_
    refine li_get hC hK ck_X11 (hP 0 _ rfl) 1 (by decide) fl_X11_23 rfl (v := .ref (ad 3)) rfl dX11_odds_28 ?_
    refine li_iload_n hC hl 2 rfl dX11_odds_31 ?_
    refine li_aload_n hC hl 1 rfl dX11_odds_32 ?_
    refine li_get hC hK ck_X11 (hP 0 _ rfl) 1 (by decide) fl_X11_23 rfl (v := .ref (ad 3)) rfl dX11_odds_33 ?_
    refine li_get hC hK ck_X8 (hP 3 _ rfl) 3 (by decide) fl_X11_99 rfl (v := .ref (ad 9)) rfl dX11_odds_36 ?_
    refine ro_callVi hC (c_X8_free l g ad F A E tl S nm hSh hI n 9 (fun k => S (42 + k).toNat) (Or.inl rfl) hWh (fun k h0 h1 => (hI.2 k h0 h1).2.2.2.2.2.1) (by omega)) mk_X8_free ml_X11_147 (rr (by decide)) ⟨Nat.le_of_ble_eq_true rfl, Nat.le_of_ble_eq_true rfl⟩ hK hE hP (li_recv hK ck_X8 (hP 3 _ rfl)) rfl hl.1 rfl (Nat.le_of_ble_eq_true rfl) dX11_odds_39 ?_
    refine ro_callSi hC (c_J6_bitCount_0f7a4 l g (setB (freeW S (fun k => S (42 + k).toNat) n) 4) (set7 _ (by omega))) mk_J6_bitCount_0f7a4 ml_X11_179 (rr (by decide)) ⟨Nat.zero_le _, Nat.zero_le _⟩ hK hE trivial rfl hl.1 rfl (Nat.le_of_ble_eq_true rfl) dX11_odds_42 ?_
    rw [pc_set _ _ (by omega)]
    have q3 := cntB_rng (freeW S (fun k => S (42 + k).toNat) n) 4
    refine li_iload_n hC hl 0 rfl dX11_odds_45 ?_
    refine li_iload_n hC hl 3 rfl dX11_odds_46 ?_
    refine ro_callSl hC (c_X11_fraction l g (cntB (freeW S (fun k => S (42 + k).toNat) n) 4) (cntB (mayS S n) 4) part (by omega) (by omega) hpart) mk_X11_fraction ml_X11_233 (rr (by decide)) ⟨Nat.le_of_ble_eq_true rfl, Nat.le_of_ble_eq_true rfl⟩ hK hE trivial rfl hl.1 rfl (Nat.le_of_ble_eq_true rfl) dX11_odds_47 ?_
    exact hQ _ _ _ dX11_odds_50 (jI_inj (by unfold oddsS; have hq9 := cntB_rng (mayS S n) 4; by_cases hp9 : 0 ≤ part ∧ part ≤ 1; { rw [if_pos (by omega)]; by_cases h0 : cntB (mayS S n) 4 = 0; { rw [if_pos h0, iteP_f (by omega)] }; { rw [if_neg h0, iteP_t (by omega)]; rfl } }; { rw [if_neg (by omega), iteP_f (by omega)] }))
  · refine li_ldc2 hC (z := -9223372036854775808) kl_X11_231 rfl dX11_odds_11 ?_
    exact hQ _ _ _ dX11_odds_14 (jI_inj (by unfold oddsS; rw [if_neg (by omega)]))
set_option maxHeartbeats 4000000 in
set_option maxRecDepth 100000 in
theorem c_X11_mean (l : Launch) (g : GG) (ad : Nat → Nat) (F : Nat → Int) (A : Nat → Nat → Int) (E : Nat → Nat) (tl : va_W) (S : Nat → Int) (nm : Nat → Nat) (hSh : ShW g ad F A E tl S nm) (hI : InvD S) (part : Int) (hpart : rng part) (hH : InvH S) (hC0 : InvC S) (hG : InvG S) : MroJ l g yX11_mean cX11_mean 2 10 [.ref (ad 0), .int (iI part)] (fun H => va_P g.1 vwCl (CW g ad F A E tl) H) (jI (meanS S part)) := by
  refine ro_startJ (own := RX11) (by decide) rfl (Nat.le_of_ble_eq_true rfl) ?_
  intro Pg Ev s Mi args below Mt Cd ls Q hC hK hE hP hl hQ
  have hSh0 := hSh
  obtain ⟨hTp, hCd, hNs, hWh, hRw, hSn, hPl, hBk, hMp⟩ := hSh0
  have hNm := hNs.2.2
  have hD0 := hI.1
  have hNs0 := hNs.1
  have hl : lv_has ls 2 [(0, .ref (ad 0)), (1, .int (iI part))] := hl
  refine li_aload_n hC hl 0 rfl dX11_mean_0 ?_
  refine li_get hC hK ck_X11 (hP 0 _ rfl) 1 (by decide) fl_X11_23 rfl (v := .ref (ad 3)) rfl dX11_mean_1 ?_
  refine li_aload_n hC hl 0 rfl dX11_mean_4 ?_
  refine li_get hC hK ck_X11 (hP 0 _ rfl) 1 (by decide) fl_X11_23 rfl (v := .ref (ad 3)) rfl dX11_mean_5 ?_
  refine li_get hC hK ck_X8 (hP 3 _ rfl) 3 (by decide) fl_X11_99 rfl (v := .ref (ad 9)) rfl dX11_mean_8 ?_
  refine ro_callVi hC (c_X8_score l g ad F A E tl S nm hSh hI 9 (fun k => S (42 + k).toNat) (Or.inl rfl) hWh (fun k h0 h1 => (hI.2 k h0 h1).2.2.2.2.2.1) hH hC0 hG) mk_X8_score ml_X11_184 (rr (by decide)) ⟨Nat.le_of_ble_eq_true rfl, Nat.le_of_ble_eq_true rfl⟩ hK hE hP (li_recv hK ck_X8 (hP 3 _ rfl)) rfl hl.1 rfl (Nat.le_of_ble_eq_true rfl) dX11_mean_11 ?_
  refine li_aload_n hC hl 0 rfl dX11_mean_14 ?_
  refine li_get hC hK ck_X11 (hP 0 _ rfl) 1 (by decide) fl_X11_23 rfl (v := .ref (ad 3)) rfl dX11_mean_15 ?_
  refine li_aload_n hC hl 0 rfl dX11_mean_18 ?_
  refine li_get hC hK ck_X11 (hP 0 _ rfl) 1 (by decide) fl_X11_23 rfl (v := .ref (ad 3)) rfl dX11_mean_19 ?_
  refine li_get hC hK ck_X8 (hP 3 _ rfl) 3 (by decide) fl_X11_99 rfl (v := .ref (ad 9)) rfl dX11_mean_22 ?_
  refine ro_callVi hC (c_X8_laid l g ad F A E tl S nm hSh hI 9 (fun k => S (42 + k).toNat) (Or.inl rfl) hWh (fun k h0 h1 => (hI.2 k h0 h1).2.2.2.2.2.1)) mk_X8_laid ml_X11_175 (rr (by decide)) ⟨Nat.le_of_ble_eq_true rfl, Nat.le_of_ble_eq_true rfl⟩ hK hE hP (li_recv hK ck_X8 (hP 3 _ rfl)) rfl hl.1 rfl (Nat.le_of_ble_eq_true rfl) dX11_mean_25 ?_
  refine ro_callSi hC (c_J6_bitCount_0f7a4 l g (setB (fun n => (fun k => S (42 + k).toNat) n ≠ 4) (S 0).toNat) (set7 _ (by omega))) mk_J6_bitCount_0f7a4 ml_X11_179 (rr (by decide)) ⟨Nat.zero_le _, Nat.zero_le _⟩ hK hE trivial rfl hl.1 rfl (Nat.le_of_ble_eq_true rfl) dX11_mean_28 ?_
  rw [pc_set _ _ (by omega)]
  have q1 := cntB_rng (fun n => (fun k => S (42 + k).toNat) n ≠ 4) (S 0).toNat
  refine li_iload_n hC hl 1 rfl dX11_mean_31 ?_
  have hsc := scoreS_rng hI hC0
  have hsc2 : -7000 ≤ scoreW S (fun k => S (42 + k).toNat) ∧ scoreW S (fun k => S (42 + k).toNat) ≤ 7000 := hsc
  refine ro_callSl hC (c_X11_fraction l g (scoreW S (fun k => S (42 + k).toNat)) (cntB (fun n => (fun k => S (42 + k).toNat) n ≠ 4) (S 0).toNat) part (by omega) (by omega) hpart) mk_X11_fraction ml_X11_233 (rr (by decide)) ⟨Nat.le_of_ble_eq_true rfl, Nat.le_of_ble_eq_true rfl⟩ hK hE trivial rfl hl.1 rfl (Nat.le_of_ble_eq_true rfl) dX11_mean_32 ?_
  exact hQ _ _ _ dX11_mean_35 (jI_inj (by have hq9 := cntB_rng (fun n => S (42 + n).toNat ≠ 4) (S 0).toNat; unfold meanS laidS; by_cases h9 : 0 < cntB (fun n => S (42 + n).toNat ≠ 4) (S 0).toNat ∧ (0 ≤ part ∧ part ≤ 1); { rw [iteP_t (by omega), iteP_t (by omega)]; rfl }; { rw [iteP_f (by omega), iteP_f (by omega)] }))
set_option maxHeartbeats 4000000 in
set_option maxRecDepth 100000 in
theorem c_X11_looked (l : Launch) (g : GG) (ad : Nat → Nat) (F : Nat → Int) (A : Nat → Nat → Int) (E : Nat → Nat) (tl : va_W) (S : Nat → Int) (nm : Nat → Nat) (hSh : ShW g ad F A E tl S nm) (hI : InvD S) (r : Int) (hr : firstLook (fun k => S (42 + S (108 + k).toNat).toNat = S (116 + k).toNat) (S 4) r) (hL : InvL S) : MroI l g yX11_looked cX11_looked 2 9 [.ref (ad 0)] (fun H => va_P g.1 vwCl (CW g ad F A E tl) H) (iI (r)) := by
  refine ro_startI (own := RX11) (by decide) rfl (Nat.le_of_ble_eq_true rfl) ?_
  intro Pg Ev s Mi args below Mt Cd ls Q hC hK hE hP hl hQ
  have hSh0 := hSh
  obtain ⟨hTp, hCd, hNs, hWh, hRw, hSn, hPl, hBk, hMp⟩ := hSh0
  have hNm := hNs.2.2
  have hD0 := hI.1
  have hNs0 := hNs.1
  have hL4 := hL.2.2.1
  have hl : lv_has ls 2 [(0, .ref (ad 0))] := hl
  refine li_iconst hC dX11_looked_0 ?_
  refine li_istore_n hC (lv' := [(1, .int (iI 0)), (0, .ref (ad 0))]) hl (by decide) rfl dX11_looked_1 (fun ls hl => ?_)
  have L2_1 : ∀ (fuel : Nat) (k : Int) (ls : Array Slot), lv_has ls 2 [(0, .ref (ad 0)), (1, .int (iI k))] → (0 ≤ k ∧ k ≤ S 4) → (allB (fun k => S (42 + S (108 + k).toNat).toNat = S (116 + k).toNat) k) → ((S 4 - k).toNat) < fuel → W Pg l Ev (rmC 9 0 0) s Mi args below Mt Cd s.heap [] 0 0 Q (F0 Mi 2 ls []) := by
    intro fuel
    induction fuel with
    | zero => intro k ls hl hk hz hm; exact absurd hm (Nat.not_lt_zero _)
    | succ fuel ih2 =>
      intro k ls hl hk hz hm
      refine li_iload_n hC hl 1 rfl dX11_looked_2 ?_
      refine li_aload_n hC hl 0 rfl dX11_looked_3 ?_
      refine li_get hC hK ck_X11 (hP 0 _ rfl) 1 (by decide) fl_X11_23 rfl (v := .ref (ad 3)) rfl dX11_looked_4 ?_
      refine li_get hC hK ck_X8 (hP 3 _ rfl) 7 (by decide) fl_X11_248 rfl (v := .ref (ad 17)) rfl dX11_looked_7 ?_
      refine ro_callVi hC (c_X6_size l g (ws := CW g ad F A E tl) (i := 17) (j := 18) (a := (ad 17)) (b := (ad 18)) (n := 16) (f := (A 18)) (sz := F 17) rfl rfl (Nat.le_of_ble_eq_true rfl)) mk_X6_size ml_X11_51 (rr (by decide)) ⟨Nat.zero_le _, Nat.zero_le _⟩ hK hE hP (li_recv hK ck_X6 (hP 17 _ rfl)) rfl hl.1 rfl (Nat.le_of_ble_eq_true rfl) dX11_looked_10 ?_
      rw [show F 17 = 2 * S 4 from hBk.1]
      refine li_iconst hC dX11_looked_13 ?_
      refine li_idivN hC (by omega) (by omega) (by omega) (by omega) dX11_looked_14 ?_
      refine li_icmp_ge (tgt := 67) hC (by decide) (rg (by omega) (by omega)) (rg (by omega) (by omega)) dX11_looked_15 (fun c2 => ?_) (fun c2 => ?_)
      · refine li_bipush hC (z := -5) rfl dX11_looked_67 ?_
        exact hQ _ _ _ dX11_looked_69 (iI_inj (by rcases hr with ⟨h1, h2⟩ | ⟨h1, h2, h3, h4⟩; { omega }; { exact absurd (hz r h1 (by omega)) h4 }))
      · have hL6 := hL.2.2.2.2.2 k (by omega) (by omega)
        refine li_aload_n hC hl 0 rfl dX11_looked_18 ?_
        refine li_get hC hK ck_X11 (hP 0 _ rfl) 1 (by decide) fl_X11_23 rfl (v := .ref (ad 3)) rfl dX11_looked_19 ?_
        refine li_get hC hK ck_X8 (hP 3 _ rfl) 3 (by decide) fl_X11_99 rfl (v := .ref (ad 9)) rfl dX11_looked_22 ?_
        refine li_aload_n hC hl 0 rfl dX11_looked_25 ?_
        refine li_get hC hK ck_X11 (hP 0 _ rfl) 1 (by decide) fl_X11_23 rfl (v := .ref (ad 3)) rfl dX11_looked_26 ?_
        refine li_get hC hK ck_X8 (hP 3 _ rfl) 7 (by decide) fl_X11_248 rfl (v := .ref (ad 17)) rfl dX11_looked_29 ?_
        refine li_iconst hC dX11_looked_32 ?_
        refine li_iload_n hC hl 1 rfl dX11_looked_33 ?_
        refine li_imul hC dX11_looked_34 ?_
        refine ro_callVi hC (c_X6_get l g (ws := CW g ad F A E tl) (i := 17) (j := 18) (a := (ad 17)) (b := (ad 18)) (n := 16) (f := (A 18)) (sz := F 17) rfl rfl (Nat.le_of_ble_eq_true rfl) (k := 2 * k) ⟨by omega, by omega⟩) mk_X6_get ml_X11_131 (rr (by decide)) ⟨Nat.zero_le _, Nat.zero_le _⟩ hK hE hP (li_recv hK ck_X6 (hP 17 _ rfl)) rfl hl.1 rfl (Nat.le_of_ble_eq_true rfl) dX11_looked_35 ?_
        rw [(hBk.2 k (by omega) (by omega)).1]
        refine ro_callVi hC (c_X6_get l g (ws := CW g ad F A E tl) (i := 9) (j := 10) (a := (ad 9)) (b := (ad 10)) (n := 7) (f := (A 10)) (sz := F 9) rfl rfl (Nat.le_of_ble_eq_true rfl) (k := S (108 + k).toNat) ⟨by omega, by omega⟩) mk_X6_get ml_X11_131 (rr (by decide)) ⟨Nat.zero_le _, Nat.zero_le _⟩ hK hE hP (li_recv hK ck_X6 (hP 9 _ rfl)) rfl hl.1 rfl (Nat.le_of_ble_eq_true rfl) dX11_looked_38 ?_
        rw [hWh (S (108 + k).toNat) (by omega) (by omega)]
        have q3 := hI.2 (S (108 + k).toNat) (by omega) (by omega)
        refine li_aload_n hC hl 0 rfl dX11_looked_41 ?_
        refine li_get hC hK ck_X11 (hP 0 _ rfl) 1 (by decide) fl_X11_23 rfl (v := .ref (ad 3)) rfl dX11_looked_42 ?_
        refine li_get hC hK ck_X8 (hP 3 _ rfl) 7 (by decide) fl_X11_248 rfl (v := .ref (ad 17)) rfl dX11_looked_45 ?_
        refine li_iconst hC dX11_looked_48 ?_
        refine li_iload_n hC hl 1 rfl dX11_looked_49 ?_
        refine li_imul hC dX11_looked_50 ?_
        refine li_iconst hC dX11_looked_51 ?_
        refine li_iadd hC dX11_looked_52 ?_
        refine ro_callVi hC (c_X6_get l g (ws := CW g ad F A E tl) (i := 17) (j := 18) (a := (ad 17)) (b := (ad 18)) (n := 16) (f := (A 18)) (sz := F 17) rfl rfl (Nat.le_of_ble_eq_true rfl) (k := (2 * k) + 1) ⟨by omega, by omega⟩) mk_X6_get ml_X11_131 (rr (by decide)) ⟨Nat.zero_le _, Nat.zero_le _⟩ hK hE hP (li_recv hK ck_X6 (hP 17 _ rfl)) rfl hl.1 rfl (Nat.le_of_ble_eq_true rfl) dX11_looked_53 ?_
        rw [(hBk.2 k (by omega) (by omega)).2]
        refine li_icmp_eq (tgt := 61) hC (by decide) (rg (by omega) (by omega)) (rg (by omega) (by omega)) dX11_looked_56 (fun c4 => ?_) (fun c4 => ?_)
        · refine li_iinc hC (lv' := [(1, .int (iI (k + 1))), (0, .ref (ad 0))]) hl 1 rfl (by decide) rfl dX11_looked_61 (fun ls hl => ?_)
          refine li_goto (tgt := 2) hC (by decide) dX11_looked_64 ?_
          exact ih2 (k + 1) _ (lv_sub hl [1, 0] rfl) (by omega) (by exact (allB_s (P := (fun k => S (42 + S (108 + k).toNat).toNat = S (116 + k).toNat)) hk.1).mpr ⟨hz, by assumption⟩) (by omega)
        · refine li_iload_n hC hl 1 rfl dX11_looked_59 ?_
          exact hQ _ _ _ dX11_looked_60 (iI_inj (by rcases hr with ⟨h1, h2⟩ | ⟨h1, h2, h3, h4⟩; { exact absurd (h2 k (by omega) (by omega)) (by assumption) }; { rcases (show r < k ∨ r = k ∨ k < r by omega) with q | q | q; { exact absurd (hz r h1 q) h4 }; { exact q.symm }; { exact absurd (h3 k (by omega) q) (by assumption) } }))
  exact L2_1 (((S 4 - 0).toNat) + 1) 0 _ (lv_sub hl [1, 0] rfl) (by omega) (by exact allB_0 _) (by omega)
set_option maxHeartbeats 4000000 in
set_option maxRecDepth 100000 in
theorem c_X11_as (l : Launch) (g : GG) (ad : Nat → Nat) (F : Nat → Int) (A : Nat → Nat → Int) (E : Nat → Nat) (tl : va_W) (S : Nat → Int) (nm : Nat → Nat) (hSh : ShW g ad F A E tl S nm) (hI : InvD S) (n : Int) (k : Int) (hn : rng n) (hk : rng k) : MroI l g yX11_as cX11_as 4 9 [.ref (ad 0), .int (iI n), .int (iI k)] (fun H => va_P g.1 vwCl (CW g ad F A E tl) H) (iI (if (0 ≤ n ∧ n < S 0) ∧ (0 ≤ k ∧ k ≤ 6) then (@ite Int (underS (S (7 + n).toNat) k) (Classical.propDecidable _) (S (14 + n).toNat) (-6)) else -1)) := by
  refine ro_startI (own := RX11) (by decide) rfl (Nat.le_of_ble_eq_true rfl) ?_
  intro Pg Ev s Mi args below Mt Cd ls Q hC hK hE hP hl hQ
  have hSh0 := hSh
  obtain ⟨hTp, hCd, hNs, hWh, hRw, hSn, hPl, hBk, hMp⟩ := hSh0
  have hNm := hNs.2.2
  have hD0 := hI.1
  have hNs0 := hNs.1
  have hl : lv_has ls 4 [(0, .ref (ad 0)), (1, .int (iI n)), (2, .int (iI k))] := hl
  refine li_aload_n hC hl 0 rfl dX11_as_0 ?_
  refine li_get hC hK ck_X11 (hP 0 _ rfl) 1 (by decide) fl_X11_23 rfl (v := .ref (ad 3)) rfl dX11_as_1 ?_
  refine li_iload_n hC hl 1 rfl dX11_as_4 ?_
  refine ro_callVq hC (c_X8_name l g ad F A E tl S nm hSh hI n hn) mk_X8_name ml_X11_106 (rr (by decide)) ⟨Nat.zero_le _, Nat.zero_le _⟩ hK hE hP (li_recv hK ck_X8 (hP 3 _ rfl)) rfl hl.1 rfl (Nat.le_of_ble_eq_true rfl) dX11_as_5 ?_
  by_cases cN1 : 0 ≤ n ∧ n < S 0
  · rw [iteP_t cN1, show va_rf (some (nm n.toNat)) = .ref (nm n.toNat) from rfl]
    have q3 := hI.2 n (by omega) (by omega)
    refine li_astore_n hC (lv' := [(3, .ref (nm n.toNat)), (0, .ref (ad 0)), (1, .int (iI n)), (2, .int (iI k))]) hl (by decide) rfl dX11_as_8 (fun ls hl => ?_)
    refine li_aload_n hC hl 0 rfl dX11_as_9 ?_
    refine li_ifnull hC dX11_as_10 ?_
    refine li_iload_n hC hl 3 rfl dX11_as_13 ?_
    refine li_if_lt (tgt := 23) hC (by decide) hk dX11_as_14 (fun c4 => ?_) (fun c4 => ?_)
    · refine li_iconst hC dX11_as_23 ?_
      exact hQ _ _ _ dX11_as_24 (iI_inj (by rw [if_neg (by omega)]))
    · refine li_iload_n hC hl 3 rfl dX11_as_17 ?_
      refine li_bipush hC (z := 7) rfl dX11_as_18 ?_
      refine li_icmp_lt (tgt := 25) hC (by decide) hk (rg (by decide) (by decide)) dX11_as_20 (fun c5 => ?_) (fun c5 => ?_)
      · refine li_aload_n hC hl 0 rfl dX11_as_25 ?_
        refine li_iload_n hC hl 3 rfl dX11_as_26 ?_
        refine ro_callSi hC (c_X11_isOfKind l g (nm n.toNat) (ad 1) (S (7 + n).toNat) n (S (14 + n).toNat) (S (21 + n).toNat) (S (28 + n).toNat) (S (35 + n).toNat) k (by omega) (by omega)) mk_X11_isOfKind ml_X11_260 (rr (by decide)) ⟨Nat.le_of_ble_eq_true rfl, Nat.le_of_ble_eq_true rfl⟩ hK hE (nm_at hP hNm hI (i := n) (by omega)) rfl hl.1 rfl (Nat.le_of_ble_eq_true rfl) dX11_as_27 ?_
        refine li_ifeq_b (tgt := 40) hC (by decide) dX11_as_30 (fun c6 => ?_) (fun c6 => ?_)
        · refine li_bipush hC (z := -6) rfl dX11_as_40 ?_
          exact hQ _ _ _ dX11_as_42 (iI_inj (by rw [if_pos (by omega)]; first | (rw [if_pos (by assumption)]; done) | (rw [if_neg (by assumption)]; done)))
        · refine li_aload_n hC hl 0 rfl dX11_as_33 ?_
          refine li_getN2 hC hK (nm_at hP hNm hI (i := n) (by omega)) fl_X11_115 dX11_as_34 ?_
          refine li_goto (tgt := 42) hC (by decide) dX11_as_37 ?_
          exact hQ _ _ _ dX11_as_42 (iI_inj (by rw [if_pos (by omega)]; first | (rw [if_pos (by assumption)]; done) | (rw [if_neg (by assumption)]; done)))
      · refine li_iconst hC dX11_as_23 ?_
        exact hQ _ _ _ dX11_as_24 (iI_inj (by rw [if_neg (by omega)]))
  · rw [iteP_f cN1, show va_rf none = .null from rfl]
    refine li_astore_nN hC (lv' := [(3, .null), (0, .ref (ad 0)), (1, .int (iI n)), (2, .int (iI k))]) hl (by decide) rfl dX11_as_8 (fun ls hl => ?_)
    refine li_aload_nN hC hl 0 rfl dX11_as_9 ?_
    refine li_ifnullN (tgt := 23) hC (by decide) dX11_as_10 ?_
    refine li_iconst hC dX11_as_23 ?_
    exact hQ _ _ _ dX11_as_24 (iI_inj (by rw [if_neg (by omega)]))
set_option maxHeartbeats 4000000 in
set_option maxRecDepth 100000 in
theorem c_X11_trace (l : Launch) (g : GG) (ad : Nat → Nat) (F : Nat → Int) (A : Nat → Nat → Int) (E : Nat → Nat) (tl : va_W) (S : Nat → Int) (nm : Nat → Nat) (hSh : ShW g ad F A E tl S nm) (hI : InvD S) (i : Int) (hi : rng i) (htr : 0 ≤ F 1 ∧ F 1 ≤ 1000) : MroI l g yX11_trace cX11_trace 2 9 [.ref (ad 0), .int (iI i)] (fun H => va_P g.1 vwCl (CW g ad F A E tl) H) (iI (traceV (F 1, A 2) i)) := by
  refine ro_startI (own := RX11) (by decide) rfl (Nat.le_of_ble_eq_true rfl) ?_
  intro Pg Ev s Mi args below Mt Cd ls Q hC hK hE hP hl hQ
  have hSh0 := hSh
  obtain ⟨hTp, hCd, hNs, hWh, hRw, hSn, hPl, hBk, hMp⟩ := hSh0
  have hNm := hNs.2.2
  have hD0 := hI.1
  have hNs0 := hNs.1
  have hl : lv_has ls 2 [(0, .ref (ad 0)), (1, .int (iI i))] := hl
  refine li_iload_n hC hl 1 rfl dX11_trace_0 ?_
  refine li_if_lt (tgt := 32) hC (by decide) hi dX11_trace_1 (fun c1 => ?_) (fun c1 => ?_)
  · refine li_iconst hC dX11_trace_32 ?_
    exact hQ _ _ _ dX11_trace_33 (iI_inj (by unfold traceV; first | (rw [iteP_t ⟨by omega, by show _ < F 1; omega, by omega⟩]; done) | (rw [iteP_f (by show ¬ (0 ≤ i ∧ i < F 1 ∧ i < 20); omega)]; done)))
  · refine li_iload_n hC hl 1 rfl dX11_trace_4 ?_
    refine li_bipush hC (z := 20) rfl dX11_trace_5 ?_
    refine li_icmp_ge (tgt := 32) hC (by decide) hi (rg (by decide) (by decide)) dX11_trace_7 (fun c2 => ?_) (fun c2 => ?_)
    · refine li_iconst hC dX11_trace_32 ?_
      exact hQ _ _ _ dX11_trace_33 (iI_inj (by unfold traceV; first | (rw [iteP_t ⟨by omega, by show _ < F 1; omega, by omega⟩]; done) | (rw [iteP_f (by show ¬ (0 ≤ i ∧ i < F 1 ∧ i < 20); omega)]; done)))
    · refine li_iload_n hC hl 1 rfl dX11_trace_10 ?_
      refine li_aload_n hC hl 0 rfl dX11_trace_11 ?_
      refine li_get hC hK ck_X11 (hP 0 _ rfl) 0 (by decide) fl_X11_16 rfl (v := .ref (ad 1)) rfl dX11_trace_12 ?_
      refine ro_callVi hC (c_X6_size l g (ws := CW g ad F A E tl) (i := 1) (j := 2) (a := (ad 1)) (b := (ad 2)) (n := 20) (f := (A 2)) (sz := F 1) rfl rfl (Nat.le_of_ble_eq_true rfl)) mk_X6_size ml_X11_51 (rr (by decide)) ⟨Nat.zero_le _, Nat.zero_le _⟩ hK hE hP (li_recv hK ck_X6 (hP 1 _ rfl)) rfl hl.1 rfl (Nat.le_of_ble_eq_true rfl) dX11_trace_15 ?_
      refine li_icmp_ge (tgt := 32) hC (by decide) hi (rg (by omega) (by omega)) dX11_trace_18 (fun c3 => ?_) (fun c3 => ?_)
      · refine li_iconst hC dX11_trace_32 ?_
        exact hQ _ _ _ dX11_trace_33 (iI_inj (by unfold traceV; first | (rw [iteP_t ⟨by omega, by show _ < F 1; omega, by omega⟩]; done) | (rw [iteP_f (by show ¬ (0 ≤ i ∧ i < F 1 ∧ i < 20); omega)]; done)))
      · refine li_aload_n hC hl 0 rfl dX11_trace_21 ?_
        refine li_get hC hK ck_X11 (hP 0 _ rfl) 0 (by decide) fl_X11_16 rfl (v := .ref (ad 1)) rfl dX11_trace_22 ?_
        refine li_iload_n hC hl 1 rfl dX11_trace_25 ?_
        refine ro_callVi hC (c_X6_get l g (ws := CW g ad F A E tl) (i := 1) (j := 2) (a := (ad 1)) (b := (ad 2)) (n := 20) (f := (A 2)) (sz := F 1) rfl rfl (Nat.le_of_ble_eq_true rfl) (k := i) ⟨by omega, by omega⟩) mk_X6_get ml_X11_131 (rr (by decide)) ⟨Nat.zero_le _, Nat.zero_le _⟩ hK hE hP (li_recv hK ck_X6 (hP 1 _ rfl)) rfl hl.1 rfl (Nat.le_of_ble_eq_true rfl) dX11_trace_26 ?_
        refine li_goto (tgt := 33) hC (by decide) dX11_trace_29 ?_
        exact hQ _ _ _ dX11_trace_33 (iI_inj (by unfold traceV; first | (rw [iteP_t ⟨by omega, by show _ < F 1; omega, by omega⟩]; done) | (rw [iteP_f (by show ¬ (0 ≤ i ∧ i < F 1 ∧ i < 20); omega)]; done)))
set_option maxHeartbeats 4000000 in
set_option maxRecDepth 100000 in
theorem c_X11_count (l : Launch) (g : GG) (ad : Nat → Nat) (F : Nat → Int) (A : Nat → Nat → Int) (E : Nat → Nat) (tl : va_W) (S : Nat → Int) (nm : Nat → Nat) (hSh : ShW g ad F A E tl S nm) (hI : InvD S) (what : Int) (hwhat : rng what) (htr : 0 ≤ F 1 ∧ F 1 ≤ 1000) (hL : InvL S) (h5 : 0 ≤ S 5 ∧ S 5 ≤ 100) : MroI l g yX11_count cX11_count 2 9 [.ref (ad 0), .int (iI what)] (fun H => va_P g.1 vwCl (CW g ad F A E tl) H) (iI (countV S (F 1) what)) := by
  refine ro_startI (own := RX11) (by decide) rfl (Nat.le_of_ble_eq_true rfl) ?_
  intro Pg Ev s Mi args below Mt Cd ls Q hC hK hE hP hl hQ
  have hSh0 := hSh
  obtain ⟨hTp, hCd, hNs, hWh, hRw, hSn, hPl, hBk, hMp⟩ := hSh0
  have hNm := hNs.2.2
  have hD0 := hI.1
  have hNs0 := hNs.1
  have hL2 := hL.1
  have hL3 := hL.2.1
  have hL4 := hL.2.2.1
  have hl : lv_has ls 2 [(0, .ref (ad 0)), (1, .int (iI what))] := hl
  refine li_iload_n hC hl 1 rfl dX11_count_0 ?_
  by_cases c1 : what = 0
  · refine li_tableIn (tgt := 44) hC hwhat (by omega) (by omega) (off := 43) (by rw [c1]; rfl) (by decide) dX11_count_1 ?_
    refine li_aload_n hC hl 0 rfl dX11_count_44 ?_
    refine li_get hC hK ck_X11 (hP 0 _ rfl) 1 (by decide) fl_X11_23 rfl (v := .ref (ad 3)) rfl dX11_count_45 ?_
    refine ro_callVi hC (c_X8_dots l g ad F A E tl S nm hSh hI) mk_X8_dots ml_X11_83 (rr (by decide)) ⟨Nat.le_of_ble_eq_true rfl, Nat.le_of_ble_eq_true rfl⟩ hK hE hP (li_recv hK ck_X8 (hP 3 _ rfl)) rfl hl.1 rfl (Nat.le_of_ble_eq_true rfl) dX11_count_48 ?_
    exact hQ _ _ _ dX11_count_51 (iI_inj (by unfold countV; rw [if_neg (by omega), iteP_t (by omega), show what = 0 by omega]; first | rfl | (show _ = S 0; omega)))
  by_cases c2 : what = 1
  · refine li_tableIn (tgt := 52) hC hwhat (by omega) (by omega) (off := 51) (by rw [c2]; rfl) (by decide) dX11_count_1 ?_
    refine li_aload_n hC hl 0 rfl dX11_count_52 ?_
    refine li_get hC hK ck_X11 (hP 0 _ rfl) 1 (by decide) fl_X11_23 rfl (v := .ref (ad 3)) rfl dX11_count_53 ?_
    refine li_get hC hK ck_X8 (hP 3 _ rfl) 9 (by decide) fl_X11_58 rfl (v := .int (iI (S 1))) (by rw [← show F 60 = S 1 from hMp.1]; rfl) dX11_count_56 ?_
    exact hQ _ _ _ dX11_count_59 (iI_inj (by unfold countV; rw [if_neg (by omega), iteP_t (by omega), show what = 1 by omega]; first | rfl | (show _ = S 1; omega)))
  by_cases c3 : what = 2
  · refine li_tableIn (tgt := 60) hC hwhat (by omega) (by omega) (off := 59) (by rw [c3]; rfl) (by decide) dX11_count_1 ?_
    refine li_aload_n hC hl 0 rfl dX11_count_60 ?_
    refine li_get hC hK ck_X11 (hP 0 _ rfl) 1 (by decide) fl_X11_23 rfl (v := .ref (ad 3)) rfl dX11_count_61 ?_
    refine li_get hC hK ck_X8 (hP 3 _ rfl) 5 (by decide) fl_X11_224 rfl (v := .ref (ad 13)) rfl dX11_count_64 ?_
    refine ro_callVi hC (c_X6_size l g (ws := CW g ad F A E tl) (i := 13) (j := 14) (a := (ad 13)) (b := (ad 14)) (n := 15) (f := (A 14)) (sz := F 13) rfl rfl (Nat.le_of_ble_eq_true rfl)) mk_X6_size ml_X11_51 (rr (by decide)) ⟨Nat.zero_le _, Nat.zero_le _⟩ hK hE hP (li_recv hK ck_X6 (hP 13 _ rfl)) rfl hl.1 rfl (Nat.le_of_ble_eq_true rfl) dX11_count_67 ?_
    rw [show F 13 = 3 * S 2 from hSn.1]
    refine li_iconst hC dX11_count_70 ?_
    refine li_idivN hC (by omega) (by omega) (by omega) (by omega) dX11_count_71 ?_
    exact hQ _ _ _ dX11_count_72 (iI_inj (by unfold countV; rw [if_neg (by omega), iteP_t (by omega), show what = 2 by omega]; first | rfl | (show _ = S 2; omega)))
  by_cases c4 : what = 3
  · refine li_tableIn (tgt := 73) hC hwhat (by omega) (by omega) (off := 72) (by rw [c4]; rfl) (by decide) dX11_count_1 ?_
    refine li_aload_n hC hl 0 rfl dX11_count_73 ?_
    refine li_get hC hK ck_X11 (hP 0 _ rfl) 1 (by decide) fl_X11_23 rfl (v := .ref (ad 3)) rfl dX11_count_74 ?_
    refine li_get hC hK ck_X8 (hP 3 _ rfl) 6 (by decide) fl_X11_237 rfl (v := .ref (ad 15)) rfl dX11_count_77 ?_
    refine ro_callVi hC (c_X6_size l g (ws := CW g ad F A E tl) (i := 15) (j := 16) (a := (ad 15)) (b := (ad 16)) (n := 16) (f := (A 16)) (sz := F 15) rfl rfl (Nat.le_of_ble_eq_true rfl)) mk_X6_size ml_X11_51 (rr (by decide)) ⟨Nat.zero_le _, Nat.zero_le _⟩ hK hE hP (li_recv hK ck_X6 (hP 15 _ rfl)) rfl hl.1 rfl (Nat.le_of_ble_eq_true rfl) dX11_count_80 ?_
    rw [show F 15 = 2 * S 3 from hPl.1]
    refine li_iconst hC dX11_count_83 ?_
    refine li_idivN hC (by omega) (by omega) (by omega) (by omega) dX11_count_84 ?_
    exact hQ _ _ _ dX11_count_85 (iI_inj (by unfold countV; rw [if_neg (by omega), iteP_t (by omega), show what = 3 by omega]; first | rfl | (show _ = S 3; omega)))
  by_cases c5 : what = 4
  · refine li_tableIn (tgt := 86) hC hwhat (by omega) (by omega) (off := 85) (by rw [c5]; rfl) (by decide) dX11_count_1 ?_
    refine li_aload_n hC hl 0 rfl dX11_count_86 ?_
    refine li_get hC hK ck_X11 (hP 0 _ rfl) 1 (by decide) fl_X11_23 rfl (v := .ref (ad 3)) rfl dX11_count_87 ?_
    refine li_get hC hK ck_X8 (hP 3 _ rfl) 7 (by decide) fl_X11_248 rfl (v := .ref (ad 17)) rfl dX11_count_90 ?_
    refine ro_callVi hC (c_X6_size l g (ws := CW g ad F A E tl) (i := 17) (j := 18) (a := (ad 17)) (b := (ad 18)) (n := 16) (f := (A 18)) (sz := F 17) rfl rfl (Nat.le_of_ble_eq_true rfl)) mk_X6_size ml_X11_51 (rr (by decide)) ⟨Nat.zero_le _, Nat.zero_le _⟩ hK hE hP (li_recv hK ck_X6 (hP 17 _ rfl)) rfl hl.1 rfl (Nat.le_of_ble_eq_true rfl) dX11_count_93 ?_
    rw [show F 17 = 2 * S 4 from hBk.1]
    refine li_iconst hC dX11_count_96 ?_
    refine li_idivN hC (by omega) (by omega) (by omega) (by omega) dX11_count_97 ?_
    exact hQ _ _ _ dX11_count_98 (iI_inj (by unfold countV; rw [if_neg (by omega), iteP_t (by omega), show what = 4 by omega]; first | rfl | (show _ = S 4; omega)))
  by_cases c6 : what = 5
  · refine li_tableIn (tgt := 99) hC hwhat (by omega) (by omega) (off := 98) (by rw [c6]; rfl) (by decide) dX11_count_1 ?_
    refine li_aload_n hC hl 0 rfl dX11_count_99 ?_
    refine li_get hC hK ck_X11 (hP 0 _ rfl) 1 (by decide) fl_X11_23 rfl (v := .ref (ad 3)) rfl dX11_count_100 ?_
    refine li_get hC hK ck_X8 (hP 3 _ rfl) 0 (by decide) fl_X11_32 rfl (v := .ref (ad 4)) rfl dX11_count_103 ?_
    refine ro_callVi hC (c_X6_size l g (ws := CW g ad F A E tl) (i := 4) (j := 5) (a := (ad 4)) (b := (ad 5)) (n := 100) (f := (A 5)) (sz := F 4) rfl rfl (Nat.le_of_ble_eq_true rfl)) mk_X6_size ml_X11_51 (rr (by decide)) ⟨Nat.zero_le _, Nat.zero_le _⟩ hK hE hP (li_recv hK ck_X6 (hP 4 _ rfl)) rfl hl.1 rfl (Nat.le_of_ble_eq_true rfl) dX11_count_106 ?_
    rw [show F 4 = S 5 from hTp.1]
    exact hQ _ _ _ dX11_count_109 (iI_inj (by unfold countV; rw [if_neg (by omega), iteP_t (by omega), show what = 5 by omega]; first | rfl | (show _ = S 5; omega)))
  by_cases c7 : what = 6
  · refine li_tableIn (tgt := 110) hC hwhat (by omega) (by omega) (off := 109) (by rw [c7]; rfl) (by decide) dX11_count_1 ?_
    refine li_aload_n hC hl 0 rfl dX11_count_110 ?_
    refine li_get hC hK ck_X11 (hP 0 _ rfl) 0 (by decide) fl_X11_16 rfl (v := .ref (ad 1)) rfl dX11_count_111 ?_
    refine ro_callVi hC (c_X6_size l g (ws := CW g ad F A E tl) (i := 1) (j := 2) (a := (ad 1)) (b := (ad 2)) (n := 20) (f := (A 2)) (sz := F 1) rfl rfl (Nat.le_of_ble_eq_true rfl)) mk_X6_size ml_X11_51 (rr (by decide)) ⟨Nat.zero_le _, Nat.zero_le _⟩ hK hE hP (li_recv hK ck_X6 (hP 1 _ rfl)) rfl hl.1 rfl (Nat.le_of_ble_eq_true rfl) dX11_count_114 ?_
    exact hQ _ _ _ dX11_count_117 (iI_inj (by unfold countV; rw [if_pos (by omega)]))
  refine li_tableOut (tgt := 118) hC hwhat (by omega) (by decide) dX11_count_1 ?_
  refine li_iconst hC dX11_count_118 ?_
  exact hQ _ _ _ dX11_count_119 (iI_inj (by unfold countV; rw [if_neg (by omega), iteP_f (by omega)]))
