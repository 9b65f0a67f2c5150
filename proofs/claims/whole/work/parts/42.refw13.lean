set_option maxHeartbeats 4000000 in
set_option maxRecDepth 100000 in
theorem c_X12_map (l : Launch) (g : GG) (h0 : Nat) (ad : Nat → Nat) (F : Nat → Int) (A : Nat → Nat → Int) (S : Nat → Int) (hSA : A 1 = S) (hT : InvT S) (sz : Nat) : MwrI l g yX12_map cX12_map 2 30 0 0 [.ref h0] sz (RW g h0 ad F A) (fun v w => v = iI (mapR S) ∧ ∃ F2, (F2 3 = F 3 ∧ F2 24 = F 24) ∧ w = RW g h0 ad F2 (va_up A 1 (mapS S))) := by
  subst hSA
  refine wr_startI (own := RX12) (by decide) rfl (Nat.le_of_ble_eq_true rfl) ?_
  intro Pg Ev s Mi args below Mt Cd ls Q Aw hC hK hS hnm hl hQ
  have hT1 := hT.1; have hT2 := hT.2.1
  have hl : lv_has ls 2 [(0, .ref h0)] := hl
  obtain ⟨H, hH⟩ : ∃ H, H = s.heap := ⟨_, rfl⟩
  obtain ⟨locs, hlo⟩ : ∃ locs : List Loc, locs = [] := ⟨_, rfl⟩
  have hS : St g Aw s.heap H locs (RW g h0 ad F A) := by rw [hH, hlo]; exact hS
  have goal : W Pg l Ev (rmC 30 0 0) s Mi args below Mt Cd H locs 0 0 Q (F0 Mi 0 ls []) := ?goal
  · rw [hH, hlo] at goal; exact goal
  clear hH hlo
  refine li_aload_n hC hl 0 rfl dX12_map_0 ?_
  refine li_get hC hK.1 ck_X12 (hS.1 0 _ rfl) 1 (by decide) fl_X12_9 rfl (v := .ref (ad 1)) rfl dX12_map_1 ?_
  refine li_iconst hC dX12_map_4 ?_
  refine li_iald_k (k := 1) (f := (A 1)) hC hK.1 (hS.1 1 _ rfl) rfl (by decide) (by decide) dX12_map_5 ?_
  refine li_iconst hC dX12_map_6 ?_
  refine li_icmp_ne (tgt := 13) hC (by decide) (rg (by omega) (by omega)) (rg (by decide) (by decide)) dX12_map_7 (fun c1 => ?_) (fun c1 => ?_)
  · refine li_aload_n hC hl 0 rfl dX12_map_13 ?_
    refine li_aload_n hC hl 0 rfl dX12_map_14 ?_
    refine li_get hC hK.1 ck_X12 (hS.1 0 _ rfl) 1 (by decide) fl_X12_9 rfl (v := .ref (ad 1)) rfl dX12_map_15 ?_
    refine li_iconst hC dX12_map_18 ?_
    refine li_iald_k (k := 1) (f := (A 1)) hC hK.1 (hS.1 1 _ rfl) rfl (by decide) (by decide) dX12_map_19 ?_
    refine li_put hC hK hS ck_X12 0 rfl 4 (by decide) fl_X12_87 rfl rfl (v := .int (iI ((A 1) 1))) rfl rfl (Nat.le_of_ble_eq_true rfl) (ws' := RW g h0 ad (va_up F 4 ((A 1) 1)) A) rfl dX12_map_20 (fun H locs hS => ?_)
    refine li_aload_n hC hl 0 rfl dX12_map_23 ?_
    refine li_aload_n hC hl 0 rfl dX12_map_24 ?_
    refine li_get hC hK.1 ck_X12 (hS.1 0 _ rfl) 1 (by decide) fl_X12_9 rfl (v := .ref (ad 1)) rfl dX12_map_25 ?_
    refine li_iconst hC dX12_map_28 ?_
    refine li_iald_k (k := 5) (f := (A 1)) hC hK.1 (hS.1 1 _ rfl) rfl (by decide) (by decide) dX12_map_29 ?_
    refine li_put hC hK hS ck_X12 0 rfl 6 (by decide) fl_X12_63 rfl rfl (v := .int (iI ((A 1) 5))) rfl rfl (Nat.le_of_ble_eq_true rfl) (ws' := RW g h0 ad (va_up (va_up F 4 ((A 1) 1)) 6 ((A 1) 5)) A) rfl dX12_map_30 (fun H locs hS => ?_)
    refine li_aload_n hC hl 0 rfl dX12_map_33 ?_
    refine li_get hC hK.1 ck_X12 (hS.1 0 _ rfl) 1 (by decide) fl_X12_9 rfl (v := .ref (ad 1)) rfl dX12_map_34 ?_
    refine li_iconst hC dX12_map_37 ?_
    refine li_iconst hC dX12_map_38 ?_
    refine li_iast hC hK hS 1 (n := 939) (f := (A 1)) (z := 5) rfl ⟨by omega, by omega⟩ (by decide) (ws' := RW g h0 ad (va_up (va_up F 4 ((A 1) 1)) 6 ((A 1) 5)) (va_up A 1 (va_up (A 1) 5 0))) rfl dX12_map_39 (fun H locs hS => ?_)
    refine li_aload_n hC hl 0 rfl dX12_map_40 ?_
    refine li_get hC hK.1 ck_X12 (hS.1 0 _ rfl) 1 (by decide) fl_X12_9 rfl (v := .ref (ad 1)) rfl dX12_map_41 ?_
    refine li_sipush hC (z := 224) rfl dX12_map_44 ?_
    refine li_aload_n hC hl 0 rfl dX12_map_47 ?_
    refine li_get hC hK.1 ck_X12 (hS.1 0 _ rfl) 4 (by decide) fl_X12_87 rfl (v := .int (iI ((A 1) 1))) rfl dX12_map_48 ?_
    refine li_iadd hC dX12_map_51 ?_
    refine li_bipush hC (z := 24) rfl dX12_map_52 ?_
    refine li_iast hC hK hS 1 (n := 939) (f := va_up (A 1) 5 0) (z := 224 + ((A 1) 1)) rfl ⟨by omega, by omega⟩ (by decide) (ws' := RW g h0 ad (va_up (va_up F 4 ((A 1) 1)) 6 ((A 1) 5)) (va_up A 1 (va_up (va_up (A 1) 5 0) ((224 + ((A 1) 1)).toNat) 24))) rfl dX12_map_54 (fun H locs hS => ?_)
    refine li_aload_n hC hl 0 rfl dX12_map_55 ?_
    refine li_get hC hK.1 ck_X12 (hS.1 0 _ rfl) 1 (by decide) fl_X12_9 rfl (v := .ref (ad 1)) rfl dX12_map_56 ?_
    refine li_sipush hC (z := 229) rfl dX12_map_59 ?_
    refine li_aload_n hC hl 0 rfl dX12_map_62 ?_
    refine li_get hC hK.1 ck_X12 (hS.1 0 _ rfl) 4 (by decide) fl_X12_87 rfl (v := .int (iI ((A 1) 1))) rfl dX12_map_63 ?_
    refine li_iadd hC dX12_map_66 ?_
    refine li_bipush hC (z := 99) rfl dX12_map_67 ?_
    refine li_iast hC hK hS 1 (n := 939) (f := va_up (va_up (A 1) 5 0) ((224 + ((A 1) 1)).toNat) 24) (z := 229 + ((A 1) 1)) rfl ⟨by omega, by omega⟩ (by decide) (ws' := RW g h0 ad (va_up (va_up F 4 ((A 1) 1)) 6 ((A 1) 5)) (va_up A 1 (va_up (va_up (va_up (A 1) 5 0) ((224 + ((A 1) 1)).toNat) 24) ((229 + ((A 1) 1)).toNat) 99))) rfl dX12_map_69 (fun H locs hS => ?_)
    refine li_aload_n hC hl 0 rfl dX12_map_70 ?_
    refine li_get hC hK.1 ck_X12 (hS.1 0 _ rfl) 1 (by decide) fl_X12_9 rfl (v := .ref (ad 1)) rfl dX12_map_71 ?_
    refine li_sipush hC (z := 234) rfl dX12_map_74 ?_
    refine li_aload_n hC hl 0 rfl dX12_map_77 ?_
    refine li_get hC hK.1 ck_X12 (hS.1 0 _ rfl) 4 (by decide) fl_X12_87 rfl (v := .int (iI ((A 1) 1))) rfl dX12_map_78 ?_
    refine li_iadd hC dX12_map_81 ?_
    refine li_iconst hC dX12_map_82 ?_
    refine li_iast hC hK hS 1 (n := 939) (f := va_up (va_up (va_up (A 1) 5 0) ((224 + ((A 1) 1)).toNat) 24) ((229 + ((A 1) 1)).toNat) 99) (z := 234 + ((A 1) 1)) rfl ⟨by omega, by omega⟩ (by decide) (ws' := RW g h0 ad (va_up (va_up F 4 ((A 1) 1)) 6 ((A 1) 5)) (va_up A 1 (va_up (va_up (va_up (va_up (A 1) 5 0) ((224 + ((A 1) 1)).toNat) 24) ((229 + ((A 1) 1)).toNat) 99) ((234 + ((A 1) 1)).toNat) 0))) rfl dX12_map_83 (fun H locs hS => ?_)
    refine li_aload_n hC hl 0 rfl dX12_map_84 ?_
    refine li_iconst hC dX12_map_85 ?_
    refine li_put hC hK hS ck_X12 0 rfl 5 (by decide) fl_X12_60 rfl rfl (v := .int (iI 0)) rfl rfl (Nat.le_of_ble_eq_true rfl) (ws' := RW g h0 ad (va_up (va_up (va_up F 4 ((A 1) 1)) 5 0) 6 ((A 1) 5)) (va_up A 1 (va_up (va_up (va_up (va_up (A 1) 5 0) ((224 + ((A 1) 1)).toNat) 24) ((229 + ((A 1) 1)).toNat) 99) ((234 + ((A 1) 1)).toNat) 0))) rfl dX12_map_86 (fun H locs hS => ?_)
    refine li_aload_n hC hl 0 rfl dX12_map_89 ?_
    refine li_iconst hC dX12_map_90 ?_
    refine li_put hC hK hS ck_X12 0 rfl 7 (by decide) fl_X12_66 rfl rfl (v := .int (iI 0)) (nar_01 (Or.inl rfl)) (fit_01 (Or.inl rfl)) (Nat.le_of_ble_eq_true rfl) (ws' := RW g h0 ad (va_up (va_up (va_up (va_up F 4 ((A 1) 1)) 5 0) 6 ((A 1) 5)) 7 0) (va_up A 1 (va_up (va_up (va_up (va_up (A 1) 5 0) ((224 + ((A 1) 1)).toNat) 24) ((229 + ((A 1) 1)).toNat) 99) ((234 + ((A 1) 1)).toNat) 0))) rfl dX12_map_91 (fun H locs hS => ?_)
    refine li_aload_n hC hl 0 rfl dX12_map_94 ?_
    refine li_iconst hC dX12_map_95 ?_
    refine li_put hC hK hS ck_X12 0 rfl 8 (by decide) fl_X12_90 rfl rfl (v := .int (iI 0)) rfl rfl (Nat.le_of_ble_eq_true rfl) (ws' := RW g h0 ad (va_up (va_up (va_up (va_up (va_up F 4 ((A 1) 1)) 5 0) 6 ((A 1) 5)) 7 0) 8 0) (va_up A 1 (va_up (va_up (va_up (va_up (A 1) 5 0) ((224 + ((A 1) 1)).toNat) 24) ((229 + ((A 1) 1)).toNat) 99) ((234 + ((A 1) 1)).toNat) 0))) rfl dX12_map_96 (fun H locs hS => ?_)
    refine li_iconst hC dX12_map_99 ?_
    refine li_istore_n hC (lv' := [(1, .int (iI 1)), (0, .ref h0)]) hl (by decide) rfl dX12_map_100 (fun ls hl => ?_)
    obtain ⟨ac, hac⟩ : ∃ z : Int, z = (A 1) 1 := ⟨_, rfl⟩
    obtain ⟨E, hE⟩ : ∃ z : Int, z = (A 1) 5 := ⟨_, rfl⟩
    obtain ⟨B0, hB0⟩ : ∃ z : Nat → Int, z = mapB (A 1) := ⟨_, rfl⟩
    have hS : St g Aw s.heap H locs (RW g h0 ad (va_up (va_up (va_up (va_up (va_up F 4 ac) 5 0) 6 E) 7 0) 8 0) (va_up A 1 (emS B0 ac []))) := by rw [hac, hE, hB0]; exact hS
    have hP0 : PIn B0 ac E := by rw [hac, hE, hB0]; exact mapB_PIn hT (by omega)
    have hP01 := hP0.1; have hP02 := hP0.2.1
    have ok0 : okT E (0, 0, []) := okT_mk (by omega) (by omega) (by show ((0 : Nat) : Int) ≤ 0; omega)
    refine li_aload_n hC hl 1 rfl dX12_map_101 ?_
    refine wr_callVv hC (c_X12_clauseHere l g h0 ad F A B0 ac E 0 (0, 0, []) hP0 ok0 (by first | omega | (dsimp only; omega)) _) mk_X12_clauseHere ml_X12_135 (rr (by decide)) ⟨by simp only [rmC]; omega, by simp only [rmC]; omega⟩ hK hS (li_recv hK.1 ck_X12 (hS.1 0 _ rfl)) rfl hl.1 rfl (Nat.le_of_ble_eq_true rfl) dX12_map_102 (fun w H locs hp hS => ?_)
    have hp : w = RW g h0 ad (va_up (va_up (va_up (va_up (va_up F 4 ac) 5 ((clauseT B0 E (0, 0, [])).2.1)) 6 E) 7 ((clauseT B0 E (0, 0, [])).1)) 8 0) (va_up A 1 (emS (clauseB B0 ac E (0, 0, [])) ac (clauseT B0 E (0, 0, [])).2.2)) := hp
    obtain ⟨t2, ht2⟩ : ∃ z : PT, z = clauseT B0 E (0, 0, []) := ⟨_, rfl⟩
    obtain ⟨B3, hB3⟩ : ∃ z : Nat → Int, z = clauseB B0 ac E (0, 0, []) := ⟨_, rfl⟩
    rw [← ht2, ← hB3] at hp
    subst hp
    obtain ⟨okt2, get2⟩ := clauseT_ok hP0 ok0
    rw [← ht2] at okt2 get2
    have smB3 := clauseB_same (S := B0) (ac := ac) (E := E) (t := (0, 0, []))
    rw [← hB3] at smB3
    have t2a := okt2.1; have t2b := okt2.2.1; have t2c := okt2.2.2
    have L105_4 : ∀ (fuel : Nat) (u : PT) (B : Nat → Int) (n : Int) (ls : Array Slot) (H : Heap) (locs : List Loc), St g Aw s.heap H locs (RW g h0 ad (va_up (va_up (va_up (va_up (va_up F 4 ac) 5 u.2.1) 6 E) 7 u.1) 8 0) (va_up A 1 (emS B ac u.2.2))) → lv_has ls 2 [(0, .ref h0), (1, .int (iI n))] → (1 ≤ n ∧ n ≤ 10) → (okT E u) → (PIn B ac E) → (sameB ac B0 B) → (mapX (A 1) = mlT ac E (10 - n).toNat (B, u)) → (((10 : Int) - n).toNat) < fuel → W Pg l Ev (rmC 30 0 0) s Mi args below Mt Cd H locs 0 0 Q (F0 Mi 105 ls []) := by
      intro fuel
      induction fuel with
      | zero => intro u B n ls H locs hS hl hn hu hPB hsm hx hm; exact absurd hm (Nat.not_lt_zero _)
      | succ fuel ih105 =>
        intro u B n ls H locs hS hl hn hu hPB hsm hx hm
        have hua := hu.1; have hub := hu.2.1; have huc := hu.2.2
        refine li_aload_n hC hl 0 rfl dX12_map_105 ?_
        refine li_get hC hK.1 ck_X12 (hS.1 0 _ rfl) 7 (by decide) fl_X12_66 rfl (v := .int (iI u.1)) rfl dX12_map_106 ?_
        refine li_if_ne (tgt := 147) hC (by decide) (rg (by omega) (by omega)) dX12_map_109 (fun c5 => ?_) (fun c5 => ?_)
        · have hX : mapX (A 1) = (B, u) := by rw [hx]; exact mlT_e (by first | exact Or.inl (by omega) | exact Or.inr (Or.inl (by assumption)) | exact Or.inr (Or.inr (by assumption)))
          refine li_aload_n hC hl 0 rfl dX12_map_147 ?_
          refine li_get hC hK.1 ck_X12 (hS.1 0 _ rfl) 7 (by decide) fl_X12_66 rfl (v := .int (iI u.1)) rfl dX12_map_148 ?_
          refine li_if_ne (tgt := 165) hC (by decide) (rg (by omega) (by omega)) dX12_map_151 (fun c6 => ?_) (fun c6 => ?_)
          · refine li_bipush hC (z := -10) rfl dX12_map_165 ?_
            refine li_aload_n hC hl 0 rfl dX12_map_167 ?_
            refine li_get hC hK.1 ck_X12 (hS.1 0 _ rfl) 5 (by decide) fl_X12_60 rfl (v := .int (iI u.2.1)) rfl dX12_map_168 ?_
            refine li_isub hC dX12_map_171 ?_
            exact hQ _ _ _ _ _ _ _ _ dX12_map_172 hS (by omega) (by omega) (⟨iI_inj (by unfold mapR; rw [iteP_f (by omega), hX, iteP_t (show mapBad (A 1) (B, u) by first | exact Or.inl (by assumption) | exact Or.inr (by rw [← hE]; assumption))]), va_up (va_up (va_up (va_up (va_up F 4 ac) 5 u.2.1) 6 E) 7 u.1) 8 0, ⟨rfl, rfl⟩, by unfold mapS; rw [iteP_f (by omega), hX, iteP_t (show mapBad (A 1) (B, u) by first | exact Or.inl (by assumption) | exact Or.inr (by rw [← hE]; assumption)), ← hac]⟩)
          · refine li_aload_n hC hl 0 rfl dX12_map_154 ?_
            refine li_get hC hK.1 ck_X12 (hS.1 0 _ rfl) 5 (by decide) fl_X12_60 rfl (v := .int (iI u.2.1)) rfl dX12_map_155 ?_
            refine li_aload_n hC hl 0 rfl dX12_map_158 ?_
            refine li_get hC hK.1 ck_X12 (hS.1 0 _ rfl) 6 (by decide) fl_X12_63 rfl (v := .int (iI E)) rfl dX12_map_159 ?_
            refine li_icmp_eq (tgt := 173) hC (by decide) (rg (by omega) (by omega)) (rg (by omega) (by omega)) dX12_map_162 (fun c7 => ?_) (fun c7 => ?_)
            · refine li_aload_n hC hl 0 rfl dX12_map_173 ?_
              refine li_get hC hK.1 ck_X12 (hS.1 0 _ rfl) 1 (by decide) fl_X12_9 rfl (v := .ref (ad 1)) rfl dX12_map_174 ?_
              refine li_iconst hC dX12_map_177 ?_
              refine li_dup2 hC rfl rfl dX12_map_178 ?_
              refine li_iald_k (k := 1) (f := (emS B ac u.2.2)) hC hK.1 (hS.1 1 _ rfl) rfl (by decide) (by decide) dX12_map_179 ?_
              rw [show (emS B ac u.2.2) 1 = ac from by rw [emS_low hPB u.2.2 B 1 (by decide) (by rw [hPB.2.2.1]; omega), hsm 1 (by omega) (by omega), hB0]; show mapB (A 1) 1 = ac; unfold mapB; rw [up_ne _ _ (by omega), up_ne _ _ (by omega), up_ne _ _ (by omega), up_ne _ _ (by omega), hac]]
              refine li_iconst hC dX12_map_180 ?_
              refine li_iadd hC dX12_map_181 ?_
              refine li_iast hC hK hS 1 (n := 939) (f := (emS B ac u.2.2)) (z := 1) rfl ⟨by omega, by omega⟩ (by decide) (ws' := RW g h0 ad (va_up (va_up (va_up (va_up (va_up F 4 ac) 5 u.2.1) 6 E) 7 u.1) 8 0) (va_up A 1 (va_up (emS B ac u.2.2) 1 (ac + 1)))) rfl dX12_map_182 (fun H locs hS => ?_)
              refine li_aload_n hC hl 0 rfl dX12_map_183 ?_
              refine li_get hC hK.1 ck_X12 (hS.1 0 _ rfl) 1 (by decide) fl_X12_9 rfl (v := .ref (ad 1)) rfl dX12_map_184 ?_
              refine li_bipush hC (z := 6) rfl dX12_map_187 ?_
              refine li_aload_n hC hl 0 rfl dX12_map_189 ?_
              refine li_get hC hK.1 ck_X12 (hS.1 0 _ rfl) 4 (by decide) fl_X12_87 rfl (v := .int (iI ac)) rfl dX12_map_190 ?_
              refine li_iast hC hK hS 1 (n := 939) (f := va_up (emS B ac u.2.2) 1 (ac + 1)) (z := 6) rfl ⟨by omega, by omega⟩ (by decide) (ws' := RW g h0 ad (va_up (va_up (va_up (va_up (va_up F 4 ac) 5 u.2.1) 6 E) 7 u.1) 8 0) (va_up A 1 (va_up (va_up (emS B ac u.2.2) 1 (ac + 1)) 6 ac))) rfl dX12_map_193 (fun H locs hS => ?_)
              refine li_aload_n hC hl 0 rfl dX12_map_194 ?_
              refine li_get hC hK.1 ck_X12 (hS.1 0 _ rfl) 4 (by decide) fl_X12_87 rfl (v := .int (iI ac)) rfl dX12_map_195 ?_
              exact hQ _ _ _ _ _ _ _ _ dX12_map_198 hS (by omega) (by omega) (⟨iI_inj (by unfold mapR; rw [iteP_f (by omega), hX, iteP_f (show ¬ mapBad (A 1) (B, u) from fun h9 => h9.elim (fun k => k (by omega)) (fun k => k (by rw [← hE]; assumption)))]; exact hac), va_up (va_up (va_up (va_up (va_up F 4 ac) 5 u.2.1) 6 E) 7 u.1) 8 0, ⟨rfl, rfl⟩, by unfold mapS; rw [iteP_f (by omega), hX, iteP_f (show ¬ mapBad (A 1) (B, u) from fun h9 => h9.elim (fun k => k (by omega)) (fun k => k (by rw [← hE]; assumption))), ← hac]⟩)
            · refine li_bipush hC (z := -10) rfl dX12_map_165 ?_
              refine li_aload_n hC hl 0 rfl dX12_map_167 ?_
              refine li_get hC hK.1 ck_X12 (hS.1 0 _ rfl) 5 (by decide) fl_X12_60 rfl (v := .int (iI u.2.1)) rfl dX12_map_168 ?_
              refine li_isub hC dX12_map_171 ?_
              exact hQ _ _ _ _ _ _ _ _ dX12_map_172 hS (by omega) (by omega) (⟨iI_inj (by unfold mapR; rw [iteP_f (by omega), hX, iteP_t (show mapBad (A 1) (B, u) by first | exact Or.inl (by assumption) | exact Or.inr (by rw [← hE]; assumption))]), va_up (va_up (va_up (va_up (va_up F 4 ac) 5 u.2.1) 6 E) 7 u.1) 8 0, ⟨rfl, rfl⟩, by unfold mapS; rw [iteP_f (by omega), hX, iteP_t (show mapBad (A 1) (B, u) by first | exact Or.inl (by assumption) | exact Or.inr (by rw [← hE]; assumption)), ← hac]⟩)
        · refine li_iload_n hC hl 1 rfl dX12_map_112 ?_
          refine li_bipush hC (z := 10) rfl dX12_map_113 ?_
          refine li_icmp_ge (tgt := 147) hC (by decide) (rg (by omega) (by omega)) (rg (by decide) (by decide)) dX12_map_115 (fun c8 => ?_) (fun c8 => ?_)
          · have hX : mapX (A 1) = (B, u) := by rw [hx]; exact mlT_e (by first | exact Or.inl (by omega) | exact Or.inr (Or.inl (by assumption)) | exact Or.inr (Or.inr (by assumption)))
            refine li_aload_n hC hl 0 rfl dX12_map_147 ?_
            refine li_get hC hK.1 ck_X12 (hS.1 0 _ rfl) 7 (by decide) fl_X12_66 rfl (v := .int (iI u.1)) rfl dX12_map_148 ?_
            refine li_if_ne (tgt := 165) hC (by decide) (rg (by omega) (by omega)) dX12_map_151 (fun c9 => ?_) (fun c9 => ?_)
            · refine li_bipush hC (z := -10) rfl dX12_map_165 ?_
              refine li_aload_n hC hl 0 rfl dX12_map_167 ?_
              refine li_get hC hK.1 ck_X12 (hS.1 0 _ rfl) 5 (by decide) fl_X12_60 rfl (v := .int (iI u.2.1)) rfl dX12_map_168 ?_
              refine li_isub hC dX12_map_171 ?_
              exact hQ _ _ _ _ _ _ _ _ dX12_map_172 hS (by omega) (by omega) (⟨iI_inj (by unfold mapR; rw [iteP_f (by omega), hX, iteP_t (show mapBad (A 1) (B, u) by first | exact Or.inl (by assumption) | exact Or.inr (by rw [← hE]; assumption))]), va_up (va_up (va_up (va_up (va_up F 4 ac) 5 u.2.1) 6 E) 7 u.1) 8 0, ⟨rfl, rfl⟩, by unfold mapS; rw [iteP_f (by omega), hX, iteP_t (show mapBad (A 1) (B, u) by first | exact Or.inl (by assumption) | exact Or.inr (by rw [← hE]; assumption)), ← hac]⟩)
            · refine li_aload_n hC hl 0 rfl dX12_map_154 ?_
              refine li_get hC hK.1 ck_X12 (hS.1 0 _ rfl) 5 (by decide) fl_X12_60 rfl (v := .int (iI u.2.1)) rfl dX12_map_155 ?_
              refine li_aload_n hC hl 0 rfl dX12_map_158 ?_
              refine li_get hC hK.1 ck_X12 (hS.1 0 _ rfl) 6 (by decide) fl_X12_63 rfl (v := .int (iI E)) rfl dX12_map_159 ?_
              refine li_icmp_eq (tgt := 173) hC (by decide) (rg (by omega) (by omega)) (rg (by omega) (by omega)) dX12_map_162 (fun c10 => ?_) (fun c10 => ?_)
              · refine li_aload_n hC hl 0 rfl dX12_map_173 ?_
                refine li_get hC hK.1 ck_X12 (hS.1 0 _ rfl) 1 (by decide) fl_X12_9 rfl (v := .ref (ad 1)) rfl dX12_map_174 ?_
                refine li_iconst hC dX12_map_177 ?_
                refine li_dup2 hC rfl rfl dX12_map_178 ?_
                refine li_iald_k (k := 1) (f := (emS B ac u.2.2)) hC hK.1 (hS.1 1 _ rfl) rfl (by decide) (by decide) dX12_map_179 ?_
                rw [show (emS B ac u.2.2) 1 = ac from by rw [emS_low hPB u.2.2 B 1 (by decide) (by rw [hPB.2.2.1]; omega), hsm 1 (by omega) (by omega), hB0]; show mapB (A 1) 1 = ac; unfold mapB; rw [up_ne _ _ (by omega), up_ne _ _ (by omega), up_ne _ _ (by omega), up_ne _ _ (by omega), hac]]
                refine li_iconst hC dX12_map_180 ?_
                refine li_iadd hC dX12_map_181 ?_
                refine li_iast hC hK hS 1 (n := 939) (f := (emS B ac u.2.2)) (z := 1) rfl ⟨by omega, by omega⟩ (by decide) (ws' := RW g h0 ad (va_up (va_up (va_up (va_up (va_up F 4 ac) 5 u.2.1) 6 E) 7 u.1) 8 0) (va_up A 1 (va_up (emS B ac u.2.2) 1 (ac + 1)))) rfl dX12_map_182 (fun H locs hS => ?_)
                refine li_aload_n hC hl 0 rfl dX12_map_183 ?_
                refine li_get hC hK.1 ck_X12 (hS.1 0 _ rfl) 1 (by decide) fl_X12_9 rfl (v := .ref (ad 1)) rfl dX12_map_184 ?_
                refine li_bipush hC (z := 6) rfl dX12_map_187 ?_
                refine li_aload_n hC hl 0 rfl dX12_map_189 ?_
                refine li_get hC hK.1 ck_X12 (hS.1 0 _ rfl) 4 (by decide) fl_X12_87 rfl (v := .int (iI ac)) rfl dX12_map_190 ?_
                refine li_iast hC hK hS 1 (n := 939) (f := va_up (emS B ac u.2.2) 1 (ac + 1)) (z := 6) rfl ⟨by omega, by omega⟩ (by decide) (ws' := RW g h0 ad (va_up (va_up (va_up (va_up (va_up F 4 ac) 5 u.2.1) 6 E) 7 u.1) 8 0) (va_up A 1 (va_up (va_up (emS B ac u.2.2) 1 (ac + 1)) 6 ac))) rfl dX12_map_193 (fun H locs hS => ?_)
                refine li_aload_n hC hl 0 rfl dX12_map_194 ?_
                refine li_get hC hK.1 ck_X12 (hS.1 0 _ rfl) 4 (by decide) fl_X12_87 rfl (v := .int (iI ac)) rfl dX12_map_195 ?_
                exact hQ _ _ _ _ _ _ _ _ dX12_map_198 hS (by omega) (by omega) (⟨iI_inj (by unfold mapR; rw [iteP_f (by omega), hX, iteP_f (show ¬ mapBad (A 1) (B, u) from fun h9 => h9.elim (fun k => k (by omega)) (fun k => k (by rw [← hE]; assumption)))]; exact hac), va_up (va_up (va_up (va_up (va_up F 4 ac) 5 u.2.1) 6 E) 7 u.1) 8 0, ⟨rfl, rfl⟩, by unfold mapS; rw [iteP_f (by omega), hX, iteP_f (show ¬ mapBad (A 1) (B, u) from fun h9 => h9.elim (fun k => k (by omega)) (fun k => k (by rw [← hE]; assumption))), ← hac]⟩)
              · refine li_bipush hC (z := -10) rfl dX12_map_165 ?_
                refine li_aload_n hC hl 0 rfl dX12_map_167 ?_
                refine li_get hC hK.1 ck_X12 (hS.1 0 _ rfl) 5 (by decide) fl_X12_60 rfl (v := .int (iI u.2.1)) rfl dX12_map_168 ?_
                refine li_isub hC dX12_map_171 ?_
                exact hQ _ _ _ _ _ _ _ _ dX12_map_172 hS (by omega) (by omega) (⟨iI_inj (by unfold mapR; rw [iteP_f (by omega), hX, iteP_t (show mapBad (A 1) (B, u) by first | exact Or.inl (by assumption) | exact Or.inr (by rw [← hE]; assumption))]), va_up (va_up (va_up (va_up (va_up F 4 ac) 5 u.2.1) 6 E) 7 u.1) 8 0, ⟨rfl, rfl⟩, by unfold mapS; rw [iteP_f (by omega), hX, iteP_t (show mapBad (A 1) (B, u) by first | exact Or.inl (by assumption) | exact Or.inr (by rw [← hE]; assumption)), ← hac]⟩)
          · refine li_aload_n hC hl 0 rfl dX12_map_118 ?_
            refine wr_callVi hC (c_X12_here l g h0 ad F A B ac E 0 u hPB hu _) mk_X12_here ml_X12_70 (rr (by decide)) ⟨by simp only [rmC]; omega, by simp only [rmC]; omega⟩ hK hS (li_recv hK.1 ck_X12 (hS.1 0 _ rfl)) rfl hl.1 rfl (Nat.le_of_ble_eq_true rfl) dX12_map_119 (fun v w H locs hp hS => ?_)
            obtain ⟨hp1, hp2⟩ := hp
            have hp1 : v = iI (hereT B E u.2.1) := hp1
            have hp2 : w = RW g h0 ad (va_up (va_up (va_up (va_up (va_up F 4 ac) 5 u.2.1) 6 E) 7 u.1) 8 0) (va_up A 1 (emS B ac u.2.2)) := hp2
            subst hp1 hp2
            have q11 := hereT_rng hPB (q := u.2.1) (by omega)
            refine li_bipush hC (z := 59) rfl dX12_map_122 ?_
            refine li_icmp_ne (tgt := 147) hC (by decide) (rg (by omega) (by omega)) (rg (by decide) (by decide)) dX12_map_124 (fun c12 => ?_) (fun c12 => ?_)
            · have hX : mapX (A 1) = (B, u) := by rw [hx]; exact mlT_e (by first | exact Or.inl (by omega) | exact Or.inr (Or.inl (by assumption)) | exact Or.inr (Or.inr (by assumption)))
              refine li_aload_n hC hl 0 rfl dX12_map_147 ?_
              refine li_get hC hK.1 ck_X12 (hS.1 0 _ rfl) 7 (by decide) fl_X12_66 rfl (v := .int (iI u.1)) rfl dX12_map_148 ?_
              refine li_if_ne (tgt := 165) hC (by decide) (rg (by omega) (by omega)) dX12_map_151 (fun c13 => ?_) (fun c13 => ?_)
              · refine li_bipush hC (z := -10) rfl dX12_map_165 ?_
                refine li_aload_n hC hl 0 rfl dX12_map_167 ?_
                refine li_get hC hK.1 ck_X12 (hS.1 0 _ rfl) 5 (by decide) fl_X12_60 rfl (v := .int (iI u.2.1)) rfl dX12_map_168 ?_
                refine li_isub hC dX12_map_171 ?_
                exact hQ _ _ _ _ _ _ _ _ dX12_map_172 hS (by omega) (by omega) (⟨iI_inj (by unfold mapR; rw [iteP_f (by omega), hX, iteP_t (show mapBad (A 1) (B, u) by first | exact Or.inl (by assumption) | exact Or.inr (by rw [← hE]; assumption))]), va_up (va_up (va_up (va_up (va_up F 4 ac) 5 u.2.1) 6 E) 7 u.1) 8 0, ⟨rfl, rfl⟩, by unfold mapS; rw [iteP_f (by omega), hX, iteP_t (show mapBad (A 1) (B, u) by first | exact Or.inl (by assumption) | exact Or.inr (by rw [← hE]; assumption)), ← hac]⟩)
              · refine li_aload_n hC hl 0 rfl dX12_map_154 ?_
                refine li_get hC hK.1 ck_X12 (hS.1 0 _ rfl) 5 (by decide) fl_X12_60 rfl (v := .int (iI u.2.1)) rfl dX12_map_155 ?_
                refine li_aload_n hC hl 0 rfl dX12_map_158 ?_
                refine li_get hC hK.1 ck_X12 (hS.1 0 _ rfl) 6 (by decide) fl_X12_63 rfl (v := .int (iI E)) rfl dX12_map_159 ?_
                refine li_icmp_eq (tgt := 173) hC (by decide) (rg (by omega) (by omega)) (rg (by omega) (by omega)) dX12_map_162 (fun c14 => ?_) (fun c14 => ?_)
                · refine li_aload_n hC hl 0 rfl dX12_map_173 ?_
                  refine li_get hC hK.1 ck_X12 (hS.1 0 _ rfl) 1 (by decide) fl_X12_9 rfl (v := .ref (ad 1)) rfl dX12_map_174 ?_
                  refine li_iconst hC dX12_map_177 ?_
                  refine li_dup2 hC rfl rfl dX12_map_178 ?_
                  refine li_iald_k (k := 1) (f := (emS B ac u.2.2)) hC hK.1 (hS.1 1 _ rfl) rfl (by decide) (by decide) dX12_map_179 ?_
                  rw [show (emS B ac u.2.2) 1 = ac from by rw [emS_low hPB u.2.2 B 1 (by decide) (by rw [hPB.2.2.1]; omega), hsm 1 (by omega) (by omega), hB0]; show mapB (A 1) 1 = ac; unfold mapB; rw [up_ne _ _ (by omega), up_ne _ _ (by omega), up_ne _ _ (by omega), up_ne _ _ (by omega), hac]]
                  refine li_iconst hC dX12_map_180 ?_
                  refine li_iadd hC dX12_map_181 ?_
                  refine li_iast hC hK hS 1 (n := 939) (f := (emS B ac u.2.2)) (z := 1) rfl ⟨by omega, by omega⟩ (by decide) (ws' := RW g h0 ad (va_up (va_up (va_up (va_up (va_up F 4 ac) 5 u.2.1) 6 E) 7 u.1) 8 0) (va_up A 1 (va_up (emS B ac u.2.2) 1 (ac + 1)))) rfl dX12_map_182 (fun H locs hS => ?_)
                  refine li_aload_n hC hl 0 rfl dX12_map_183 ?_
                  refine li_get hC hK.1 ck_X12 (hS.1 0 _ rfl) 1 (by decide) fl_X12_9 rfl (v := .ref (ad 1)) rfl dX12_map_184 ?_
                  refine li_bipush hC (z := 6) rfl dX12_map_187 ?_
                  refine li_aload_n hC hl 0 rfl dX12_map_189 ?_
                  refine li_get hC hK.1 ck_X12 (hS.1 0 _ rfl) 4 (by decide) fl_X12_87 rfl (v := .int (iI ac)) rfl dX12_map_190 ?_
                  refine li_iast hC hK hS 1 (n := 939) (f := va_up (emS B ac u.2.2) 1 (ac + 1)) (z := 6) rfl ⟨by omega, by omega⟩ (by decide) (ws' := RW g h0 ad (va_up (va_up (va_up (va_up (va_up F 4 ac) 5 u.2.1) 6 E) 7 u.1) 8 0) (va_up A 1 (va_up (va_up (emS B ac u.2.2) 1 (ac + 1)) 6 ac))) rfl dX12_map_193 (fun H locs hS => ?_)
                  refine li_aload_n hC hl 0 rfl dX12_map_194 ?_
                  refine li_get hC hK.1 ck_X12 (hS.1 0 _ rfl) 4 (by decide) fl_X12_87 rfl (v := .int (iI ac)) rfl dX12_map_195 ?_
                  exact hQ _ _ _ _ _ _ _ _ dX12_map_198 hS (by omega) (by omega) (⟨iI_inj (by unfold mapR; rw [iteP_f (by omega), hX, iteP_f (show ¬ mapBad (A 1) (B, u) from fun h9 => h9.elim (fun k => k (by omega)) (fun k => k (by rw [← hE]; assumption)))]; exact hac), va_up (va_up (va_up (va_up (va_up F 4 ac) 5 u.2.1) 6 E) 7 u.1) 8 0, ⟨rfl, rfl⟩, by unfold mapS; rw [iteP_f (by omega), hX, iteP_f (show ¬ mapBad (A 1) (B, u) from fun h9 => h9.elim (fun k => k (by omega)) (fun k => k (by rw [← hE]; assumption))), ← hac]⟩)
                · refine li_bipush hC (z := -10) rfl dX12_map_165 ?_
                  refine li_aload_n hC hl 0 rfl dX12_map_167 ?_
                  refine li_get hC hK.1 ck_X12 (hS.1 0 _ rfl) 5 (by decide) fl_X12_60 rfl (v := .int (iI u.2.1)) rfl dX12_map_168 ?_
                  refine li_isub hC dX12_map_171 ?_
                  exact hQ _ _ _ _ _ _ _ _ dX12_map_172 hS (by omega) (by omega) (⟨iI_inj (by unfold mapR; rw [iteP_f (by omega), hX, iteP_t (show mapBad (A 1) (B, u) by first | exact Or.inl (by assumption) | exact Or.inr (by rw [← hE]; assumption))]), va_up (va_up (va_up (va_up (va_up F 4 ac) 5 u.2.1) 6 E) 7 u.1) 8 0, ⟨rfl, rfl⟩, by unfold mapS; rw [iteP_f (by omega), hX, iteP_t (show mapBad (A 1) (B, u) by first | exact Or.inl (by assumption) | exact Or.inr (by rw [← hE]; assumption)), ← hac]⟩)
            · refine li_aload_n hC hl 0 rfl dX12_map_127 ?_
              refine li_dup hC rfl dX12_map_128 ?_
              refine li_get hC hK.1 ck_X12 (hS.1 0 _ rfl) 5 (by decide) fl_X12_60 rfl (v := .int (iI u.2.1)) rfl dX12_map_129 ?_
              refine li_iconst hC dX12_map_132 ?_
              refine li_iadd hC dX12_map_133 ?_
              refine li_put hC hK hS ck_X12 0 rfl 5 (by decide) fl_X12_60 rfl rfl (v := .int (iI (u.2.1 + 1))) rfl rfl (Nat.le_of_ble_eq_true rfl) (ws' := RW g h0 ad (va_up (va_up (va_up (va_up (va_up F 4 ac) 5 (u.2.1 + 1)) 6 E) 7 u.1) 8 0) (va_up A 1 (emS B ac u.2.2))) rfl dX12_map_134 (fun H locs hS => ?_)
              refine li_aload_n hC hl 0 rfl dX12_map_137 ?_
              refine wr_callVv hC (c_X12_clauseHere l g h0 ad F A B ac E 0 (u.1, u.2.1 + 1, u.2.2) hPB (okT_mk (by omega) (by omega) (by omega) : okT E (u.1, u.2.1 + 1, u.2.2)) (by first | omega | (dsimp only; omega)) _) mk_X12_clauseHere ml_X12_135 (rr (by decide)) ⟨by simp only [rmC]; omega, by simp only [rmC]; omega⟩ hK hS (li_recv hK.1 ck_X12 (hS.1 0 _ rfl)) rfl hl.1 rfl (Nat.le_of_ble_eq_true rfl) dX12_map_138 (fun w H locs hp hS => ?_)
              have hp : w = RW g h0 ad (va_up (va_up (va_up (va_up (va_up F 4 ac) 5 ((clauseT B E (u.1, u.2.1 + 1, u.2.2)).2.1)) 6 E) 7 ((clauseT B E (u.1, u.2.1 + 1, u.2.2)).1)) 8 0) (va_up A 1 (emS (clauseB B ac E (u.1, u.2.1 + 1, u.2.2)) ac (clauseT B E (u.1, u.2.1 + 1, u.2.2)).2.2)) := hp
              obtain ⟨t15, ht15⟩ : ∃ z : PT, z = clauseT B E (u.1, u.2.1 + 1, u.2.2) := ⟨_, rfl⟩
              obtain ⟨B16, hB16⟩ : ∃ z : Nat → Int, z = clauseB B ac E (u.1, u.2.1 + 1, u.2.2) := ⟨_, rfl⟩
              rw [← ht15, ← hB16] at hp
              subst hp
              obtain ⟨okt15, get15⟩ := clauseT_ok hPB (okT_mk (by omega) (by omega) (by omega) : okT E (u.1, u.2.1 + 1, u.2.2))
              rw [← ht15] at okt15 get15
              have smB16 := clauseB_same (S := B) (ac := ac) (E := E) (t := (u.1, u.2.1 + 1, u.2.2))
              rw [← hB16] at smB16
              have t15a := okt15.1; have t15b := okt15.2.1; have t15c := okt15.2.2
              refine li_iinc hC (lv' := [(1, .int (iI (n + 1))), (0, .ref h0)]) hl 1 rfl (by decide) rfl dX12_map_141 (fun ls hl => ?_)
              refine li_goto (tgt := 105) hC (by decide) dX12_map_144 ?_
              exact ih105 t15 B16 (n + 1) _ _ _ hS (lv_sub hl [1, 0] rfl) (by omega) (by exact okt15) (by exact sameB_PIn hPB smB16) (by exact hsm.tr smB16) (by rw [hx, mlT_s (by omega) (by assumption) (by assumption), hB16, ht15]; rfl) (by omega)
    exact L105_4 ((((10 : Int) - 1).toNat) + 1) t2 B3 1 _ _ _ hS (lv_sub hl [1, 0] rfl) (by omega) (by exact okt2) (by exact sameB_PIn hP0 smB3) (by exact smB3) (by unfold mapX; rw [← hac, ← hE, ← hB0, hB3, ht2]; rfl) (by omega)
  · refine li_bipush hC (z := -4) rfl dX12_map_10 ?_
    exact hQ _ _ _ _ _ _ _ _ dX12_map_12 hS (by omega) (by omega) (⟨iI_inj (by unfold mapR; rw [iteP_t (by assumption)]), F, ⟨rfl, rfl⟩, by unfold mapS; rw [iteP_t (by assumption), up_self]⟩)
set_option maxHeartbeats 4000000 in
set_option maxRecDepth 100000 in
theorem c_X12_init (l : Launch) (g : GG) (h0 : Nat) (sz : Nat) : MwrV l g yX12_init cX12_init 1 2 13 2200 [.ref h0] sz ([(h0, .inr (13, [.int (iI 0), .null, .null, .int (iI 0), .int (iI 0), .int (iI 0), .int (iI 0), .int (iI 0), .int (iI 0), .null, .null, .null, .null, .null, .null, .null, .int (iI 0), .int (iI 0), .int (iI 0), .int (iI 0), .null, .null, .null, .null, .int (iI 0), .int (iI 0), .int (iI 0), .int (iI 0)]))]) (fun w => ∃ ad : Nat → Nat, w = RW g h0 ad (fun _ => 0) (va_up (fun _ _ => 0) 1 (va_up (fun _ => 0) 6 (-1)))) := by
  refine wr_startV (own := RX12) (by decide) rfl (Nat.le_of_ble_eq_true rfl) ?_
  intro Pg Ev s Mi args below Mt Cd ls Q Aw hC hK hS hnm hl hQ
  have hl : lv_has ls 1 [(0, .ref h0)] := hl
  obtain ⟨H, hH⟩ : ∃ H, H = s.heap := ⟨_, rfl⟩
  obtain ⟨locs, hlo⟩ : ∃ locs : List Loc, locs = [] := ⟨_, rfl⟩
  have hS : St g Aw s.heap H locs ([(h0, .inr (13, [.int (iI 0), .null, .null, .int (iI 0), .int (iI 0), .int (iI 0), .int (iI 0), .int (iI 0), .int (iI 0), .null, .null, .null, .null, .null, .null, .null, .int (iI 0), .int (iI 0), .int (iI 0), .int (iI 0), .null, .null, .null, .null, .int (iI 0), .int (iI 0), .int (iI 0), .int (iI 0)]))]) := by rw [hH, hlo]; exact hS
  have goal : W Pg l Ev (rmC 2 13 2200) s Mi args below Mt Cd H locs 0 0 Q (F0 Mi 0 ls []) := ?goal
  · rw [hH, hlo] at goal; exact goal
  clear hH hlo
  refine li_aload_n hC hl 0 rfl dX12_init_0 ?_
  refine li_objInit hC oi_X12 hl.1 (by decide) ⟨by simp only [rmC]; omega, by simp only [rmC]; omega⟩ dX12_init_1 ?_
  refine li_aload_n hC hl 0 rfl dX12_init_4 ?_
  refine li_sipush hC (z := 939) rfl dX12_init_5 ?_
  refine li_newaI hC hK hS (z := 939) (N := 939) rfl (by decide) (by simp only [rmC]; omega) (by simp only [rmC]; omega) dX12_init_8 (fun a1 H hS => ?_)
  have hS : St g Aw s.heap H locs ([(h0, .inr (13, [.int (iI 0), .null, .null, .int (iI 0), .int (iI 0), .int (iI 0), .int (iI 0), .int (iI 0), .int (iI 0), .null, .null, .null, .null, .null, .null, .null, .int (iI 0), .int (iI 0), .int (iI 0), .int (iI 0), .null, .null, .null, .null, .int (iI 0), .int (iI 0), .int (iI 0), .int (iI 0)])), (a1, .inl (g.2.1 0, 939, .inl (aI (fun _ => 0))))]) := hS
  refine li_putF hC hK hS ck_X12 0 rfl 1 (by decide) fl_X12_9 rfl rfl (v := .ref a1) rfl rfl (Nat.le_of_ble_eq_true rfl) hnm rfl (ws' := [(h0, .inr (13, [.int (iI 0), .ref a1, .null, .int (iI 0), .int (iI 0), .int (iI 0), .int (iI 0), .int (iI 0), .int (iI 0), .null, .null, .null, .null, .null, .null, .null, .int (iI 0), .int (iI 0), .int (iI 0), .int (iI 0), .null, .null, .null, .null, .int (iI 0), .int (iI 0), .int (iI 0), .int (iI 0)])), (a1, .inl (g.2.1 0, 939, .inl (aI (fun _ => 0))))]) rfl dX12_init_10 (fun H locs hS => ?_)
  refine li_aload_n hC hl 0 rfl dX12_init_13 ?_
  refine li_sipush hC (z := 939) rfl dX12_init_14 ?_
  refine li_newaI hC hK hS (z := 939) (N := 939) rfl (by decide) (by simp only [rmC]; omega) (by simp only [rmC]; omega) dX12_init_17 (fun a2 H hS => ?_)
  have hS : St g Aw s.heap H locs ([(h0, .inr (13, [.int (iI 0), .ref a1, .null, .int (iI 0), .int (iI 0), .int (iI 0), .int (iI 0), .int (iI 0), .int (iI 0), .null, .null, .null, .null, .null, .null, .null, .int (iI 0), .int (iI 0), .int (iI 0), .int (iI 0), .null, .null, .null, .null, .int (iI 0), .int (iI 0), .int (iI 0), .int (iI 0)])), (a1, .inl (g.2.1 0, 939, .inl (aI (fun _ => 0)))), (a2, .inl (g.2.1 0, 939, .inl (aI (fun _ => 0))))]) := hS
  refine li_putF hC hK hS ck_X12 0 rfl 2 (by decide) fl_X12_15 rfl rfl (v := .ref a2) rfl rfl (Nat.le_of_ble_eq_true rfl) hnm rfl (ws' := [(h0, .inr (13, [.int (iI 0), .ref a1, .ref a2, .int (iI 0), .int (iI 0), .int (iI 0), .int (iI 0), .int (iI 0), .int (iI 0), .null, .null, .null, .null, .null, .null, .null, .int (iI 0), .int (iI 0), .int (iI 0), .int (iI 0), .null, .null, .null, .null, .int (iI 0), .int (iI 0), .int (iI 0), .int (iI 0)])), (a1, .inl (g.2.1 0, 939, .inl (aI (fun _ => 0)))), (a2, .inl (g.2.1 0, 939, .inl (aI (fun _ => 0))))]) rfl dX12_init_19 (fun H locs hS => ?_)
  refine li_aload_n hC hl 0 rfl dX12_init_22 ?_
  refine li_bipush hC (z := 6) rfl dX12_init_23 ?_
  refine li_newaI hC hK hS (z := 6) (N := 6) rfl (by decide) (by simp only [rmC]; omega) (by simp only [rmC]; omega) dX12_init_25 (fun a3 H hS => ?_)
  have hS : St g Aw s.heap H locs ([(h0, .inr (13, [.int (iI 0), .ref a1, .ref a2, .int (iI 0), .int (iI 0), .int (iI 0), .int (iI 0), .int (iI 0), .int (iI 0), .null, .null, .null, .null, .null, .null, .null, .int (iI 0), .int (iI 0), .int (iI 0), .int (iI 0), .null, .null, .null, .null, .int (iI 0), .int (iI 0), .int (iI 0), .int (iI 0)])), (a1, .inl (g.2.1 0, 939, .inl (aI (fun _ => 0)))), (a2, .inl (g.2.1 0, 939, .inl (aI (fun _ => 0)))), (a3, .inl (g.2.1 0, 6, .inl (aI (fun _ => 0))))]) := hS
  refine li_putF hC hK hS ck_X12 0 rfl 9 (by decide) fl_X12_18 rfl rfl (v := .ref a3) rfl rfl (Nat.le_of_ble_eq_true rfl) hnm rfl (ws' := [(h0, .inr (13, [.int (iI 0), .ref a1, .ref a2, .int (iI 0), .int (iI 0), .int (iI 0), .int (iI 0), .int (iI 0), .int (iI 0), .ref a3, .null, .null, .null, .null, .null, .null, .int (iI 0), .int (iI 0), .int (iI 0), .int (iI 0), .null, .null, .null, .null, .int (iI 0), .int (iI 0), .int (iI 0), .int (iI 0)])), (a1, .inl (g.2.1 0, 939, .inl (aI (fun _ => 0)))), (a2, .inl (g.2.1 0, 939, .inl (aI (fun _ => 0)))), (a3, .inl (g.2.1 0, 6, .inl (aI (fun _ => 0))))]) rfl dX12_init_27 (fun H locs hS => ?_)
  refine li_aload_n hC hl 0 rfl dX12_init_30 ?_
  refine li_bipush hC (z := 64) rfl dX12_init_31 ?_
  refine li_newaZ hC hK hS (z := 64) (N := 64) rfl (by decide) (by simp only [rmC]; omega) (by simp only [rmC]; omega) dX12_init_33 (fun a4 H hS => ?_)
  have hS : St g Aw s.heap H locs ([(h0, .inr (13, [.int (iI 0), .ref a1, .ref a2, .int (iI 0), .int (iI 0), .int (iI 0), .int (iI 0), .int (iI 0), .int (iI 0), .ref a3, .null, .null, .null, .null, .null, .null, .int (iI 0), .int (iI 0), .int (iI 0), .int (iI 0), .null, .null, .null, .null, .int (iI 0), .int (iI 0), .int (iI 0), .int (iI 0)])), (a1, .inl (g.2.1 0, 939, .inl (aI (fun _ => 0)))), (a2, .inl (g.2.1 0, 939, .inl (aI (fun _ => 0)))), (a3, .inl (g.2.1 0, 6, .inl (aI (fun _ => 0)))), (a4, .inl (g.2.1 1, 64, .inl (aI (fun _ => 0))))]) := hS
  refine li_putF hC hK hS ck_X12 0 rfl 10 (by decide) fl_X12_21 rfl rfl (v := .ref a4) rfl rfl (Nat.le_of_ble_eq_true rfl) hnm rfl (ws' := [(h0, .inr (13, [.int (iI 0), .ref a1, .ref a2, .int (iI 0), .int (iI 0), .int (iI 0), .int (iI 0), .int (iI 0), .int (iI 0), .ref a3, .ref a4, .null, .null, .null, .null, .null, .int (iI 0), .int (iI 0), .int (iI 0), .int (iI 0), .null, .null, .null, .null, .int (iI 0), .int (iI 0), .int (iI 0), .int (iI 0)])), (a1, .inl (g.2.1 0, 939, .inl (aI (fun _ => 0)))), (a2, .inl (g.2.1 0, 939, .inl (aI (fun _ => 0)))), (a3, .inl (g.2.1 0, 6, .inl (aI (fun _ => 0)))), (a4, .inl (g.2.1 1, 64, .inl (aI (fun _ => 0))))]) rfl dX12_init_35 (fun H locs hS => ?_)
  refine li_aload_n hC hl 0 rfl dX12_init_38 ?_
  refine li_bipush hC (z := 28) rfl dX12_init_39 ?_
  refine li_newaZ hC hK hS (z := 28) (N := 28) rfl (by decide) (by simp only [rmC]; omega) (by simp only [rmC]; omega) dX12_init_41 (fun a5 H hS => ?_)
  have hS : St g Aw s.heap H locs ([(h0, .inr (13, [.int (iI 0), .ref a1, .ref a2, .int (iI 0), .int (iI 0), .int (iI 0), .int (iI 0), .int (iI 0), .int (iI 0), .ref a3, .ref a4, .null, .null, .null, .null, .null, .int (iI 0), .int (iI 0), .int (iI 0), .int (iI 0), .null, .null, .null, .null, .int (iI 0), .int (iI 0), .int (iI 0), .int (iI 0)])), (a1, .inl (g.2.1 0, 939, .inl (aI (fun _ => 0)))), (a2, .inl (g.2.1 0, 939, .inl (aI (fun _ => 0)))), (a3, .inl (g.2.1 0, 6, .inl (aI (fun _ => 0)))), (a4, .inl (g.2.1 1, 64, .inl (aI (fun _ => 0)))), (a5, .inl (g.2.1 1, 28, .inl (aI (fun _ => 0))))]) := hS
  refine li_putF hC hK hS ck_X12 0 rfl 11 (by decide) fl_X12_25 rfl rfl (v := .ref a5) rfl rfl (Nat.le_of_ble_eq_true rfl) hnm rfl (ws' := [(h0, .inr (13, [.int (iI 0), .ref a1, .ref a2, .int (iI 0), .int (iI 0), .int (iI 0), .int (iI 0), .int (iI 0), .int (iI 0), .ref a3, .ref a4, .ref a5, .null, .null, .null, .null, .int (iI 0), .int (iI 0), .int (iI 0), .int (iI 0), .null, .null, .null, .null, .int (iI 0), .int (iI 0), .int (iI 0), .int (iI 0)])), (a1, .inl (g.2.1 0, 939, .inl (aI (fun _ => 0)))), (a2, .inl (g.2.1 0, 939, .inl (aI (fun _ => 0)))), (a3, .inl (g.2.1 0, 6, .inl (aI (fun _ => 0)))), (a4, .inl (g.2.1 1, 64, .inl (aI (fun _ => 0)))), (a5, .inl (g.2.1 1, 28, .inl (aI (fun _ => 0))))]) rfl dX12_init_43 (fun H locs hS => ?_)
  refine li_aload_n hC hl 0 rfl dX12_init_46 ?_
  refine li_bipush hC (z := 28) rfl dX12_init_47 ?_
  refine li_newaI hC hK hS (z := 28) (N := 28) rfl (by decide) (by simp only [rmC]; omega) (by simp only [rmC]; omega) dX12_init_49 (fun a6 H hS => ?_)
  have hS : St g Aw s.heap H locs ([(h0, .inr (13, [.int (iI 0), .ref a1, .ref a2, .int (iI 0), .int (iI 0), .int (iI 0), .int (iI 0), .int (iI 0), .int (iI 0), .ref a3, .ref a4, .ref a5, .null, .null, .null, .null, .int (iI 0), .int (iI 0), .int (iI 0), .int (iI 0), .null, .null, .null, .null, .int (iI 0), .int (iI 0), .int (iI 0), .int (iI 0)])), (a1, .inl (g.2.1 0, 939, .inl (aI (fun _ => 0)))), (a2, .inl (g.2.1 0, 939, .inl (aI (fun _ => 0)))), (a3, .inl (g.2.1 0, 6, .inl (aI (fun _ => 0)))), (a4, .inl (g.2.1 1, 64, .inl (aI (fun _ => 0)))), (a5, .inl (g.2.1 1, 28, .inl (aI (fun _ => 0)))), (a6, .inl (g.2.1 0, 28, .inl (aI (fun _ => 0))))]) := hS
  refine li_putF hC hK hS ck_X12 0 rfl 12 (by decide) fl_X12_28 rfl rfl (v := .ref a6) rfl rfl (Nat.le_of_ble_eq_true rfl) hnm rfl (ws' := [(h0, .inr (13, [.int (iI 0), .ref a1, .ref a2, .int (iI 0), .int (iI 0), .int (iI 0), .int (iI 0), .int (iI 0), .int (iI 0), .ref a3, .ref a4, .ref a5, .ref a6, .null, .null, .null, .int (iI 0), .int (iI 0), .int (iI 0), .int (iI 0), .null, .null, .null, .null, .int (iI 0), .int (iI 0), .int (iI 0), .int (iI 0)])), (a1, .inl (g.2.1 0, 939, .inl (aI (fun _ => 0)))), (a2, .inl (g.2.1 0, 939, .inl (aI (fun _ => 0)))), (a3, .inl (g.2.1 0, 6, .inl (aI (fun _ => 0)))), (a4, .inl (g.2.1 1, 64, .inl (aI (fun _ => 0)))), (a5, .inl (g.2.1 1, 28, .inl (aI (fun _ => 0)))), (a6, .inl (g.2.1 0, 28, .inl (aI (fun _ => 0))))]) rfl dX12_init_51 (fun H locs hS => ?_)
  refine li_aload_n hC hl 0 rfl dX12_init_54 ?_
  refine li_bipush hC (z := 28) rfl dX12_init_55 ?_
  refine li_newaI hC hK hS (z := 28) (N := 28) rfl (by decide) (by simp only [rmC]; omega) (by simp only [rmC]; omega) dX12_init_57 (fun a7 H hS => ?_)
  have hS : St g Aw s.heap H locs ([(h0, .inr (13, [.int (iI 0), .ref a1, .ref a2, .int (iI 0), .int (iI 0), .int (iI 0), .int (iI 0), .int (iI 0), .int (iI 0), .ref a3, .ref a4, .ref a5, .ref a6, .null, .null, .null, .int (iI 0), .int (iI 0), .int (iI 0), .int (iI 0), .null, .null, .null, .null, .int (iI 0), .int (iI 0), .int (iI 0), .int (iI 0)])), (a1, .inl (g.2.1 0, 939, .inl (aI (fun _ => 0)))), (a2, .inl (g.2.1 0, 939, .inl (aI (fun _ => 0)))), (a3, .inl (g.2.1 0, 6, .inl (aI (fun _ => 0)))), (a4, .inl (g.2.1 1, 64, .inl (aI (fun _ => 0)))), (a5, .inl (g.2.1 1, 28, .inl (aI (fun _ => 0)))), (a6, .inl (g.2.1 0, 28, .inl (aI (fun _ => 0)))), (a7, .inl (g.2.1 0, 28, .inl (aI (fun _ => 0))))]) := hS
  refine li_putF hC hK hS ck_X12 0 rfl 13 (by decide) fl_X12_31 rfl rfl (v := .ref a7) rfl rfl (Nat.le_of_ble_eq_true rfl) hnm rfl (ws' := [(h0, .inr (13, [.int (iI 0), .ref a1, .ref a2, .int (iI 0), .int (iI 0), .int (iI 0), .int (iI 0), .int (iI 0), .int (iI 0), .ref a3, .ref a4, .ref a5, .ref a6, .ref a7, .null, .null, .int (iI 0), .int (iI 0), .int (iI 0), .int (iI 0), .null, .null, .null, .null, .int (iI 0), .int (iI 0), .int (iI 0), .int (iI 0)])), (a1, .inl (g.2.1 0, 939, .inl (aI (fun _ => 0)))), (a2, .inl (g.2.1 0, 939, .inl (aI (fun _ => 0)))), (a3, .inl (g.2.1 0, 6, .inl (aI (fun _ => 0)))), (a4, .inl (g.2.1 1, 64, .inl (aI (fun _ => 0)))), (a5, .inl (g.2.1 1, 28, .inl (aI (fun _ => 0)))), (a6, .inl (g.2.1 0, 28, .inl (aI (fun _ => 0)))), (a7, .inl (g.2.1 0, 28, .inl (aI (fun _ => 0))))]) rfl dX12_init_59 (fun H locs hS => ?_)
  refine li_aload_n hC hl 0 rfl dX12_init_62 ?_
  refine li_bipush hC (z := 7) rfl dX12_init_63 ?_
  refine li_newaI hC hK hS (z := 7) (N := 7) rfl (by decide) (by simp only [rmC]; omega) (by simp only [rmC]; omega) dX12_init_65 (fun a8 H hS => ?_)
  have hS : St g Aw s.heap H locs ([(h0, .inr (13, [.int (iI 0), .ref a1, .ref a2, .int (iI 0), .int (iI 0), .int (iI 0), .int (iI 0), .int (iI 0), .int (iI 0), .ref a3, .ref a4, .ref a5, .ref a6, .ref a7, .null, .null, .int (iI 0), .int (iI 0), .int (iI 0), .int (iI 0), .null, .null, .null, .null, .int (iI 0), .int (iI 0), .int (iI 0), .int (iI 0)])), (a1, .inl (g.2.1 0, 939, .inl (aI (fun _ => 0)))), (a2, .inl (g.2.1 0, 939, .inl (aI (fun _ => 0)))), (a3, .inl (g.2.1 0, 6, .inl (aI (fun _ => 0)))), (a4, .inl (g.2.1 1, 64, .inl (aI (fun _ => 0)))), (a5, .inl (g.2.1 1, 28, .inl (aI (fun _ => 0)))), (a6, .inl (g.2.1 0, 28, .inl (aI (fun _ => 0)))), (a7, .inl (g.2.1 0, 28, .inl (aI (fun _ => 0)))), (a8, .inl (g.2.1 0, 7, .inl (aI (fun _ => 0))))]) := hS
  refine li_putF hC hK hS ck_X12 0 rfl 14 (by decide) fl_X12_34 rfl rfl (v := .ref a8) rfl rfl (Nat.le_of_ble_eq_true rfl) hnm rfl (ws' := [(h0, .inr (13, [.int (iI 0), .ref a1, .ref a2, .int (iI 0), .int (iI 0), .int (iI 0), .int (iI 0), .int (iI 0), .int (iI 0), .ref a3, .ref a4, .ref a5, .ref a6, .ref a7, .ref a8, .null, .int (iI 0), .int (iI 0), .int (iI 0), .int (iI 0), .null, .null, .null, .null, .int (iI 0), .int (iI 0), .int (iI 0), .int (iI 0)])), (a1, .inl (g.2.1 0, 939, .inl (aI (fun _ => 0)))), (a2, .inl (g.2.1 0, 939, .inl (aI (fun _ => 0)))), (a3, .inl (g.2.1 0, 6, .inl (aI (fun _ => 0)))), (a4, .inl (g.2.1 1, 64, .inl (aI (fun _ => 0)))), (a5, .inl (g.2.1 1, 28, .inl (aI (fun _ => 0)))), (a6, .inl (g.2.1 0, 28, .inl (aI (fun _ => 0)))), (a7, .inl (g.2.1 0, 28, .inl (aI (fun _ => 0)))), (a8, .inl (g.2.1 0, 7, .inl (aI (fun _ => 0))))]) rfl dX12_init_67 (fun H locs hS => ?_)
  refine li_aload_n hC hl 0 rfl dX12_init_70 ?_
  refine li_bipush hC (z := 7) rfl dX12_init_71 ?_
  refine li_newaI hC hK hS (z := 7) (N := 7) rfl (by decide) (by simp only [rmC]; omega) (by simp only [rmC]; omega) dX12_init_73 (fun a9 H hS => ?_)
  have hS : St g Aw s.heap H locs ([(h0, .inr (13, [.int (iI 0), .ref a1, .ref a2, .int (iI 0), .int (iI 0), .int (iI 0), .int (iI 0), .int (iI 0), .int (iI 0), .ref a3, .ref a4, .ref a5, .ref a6, .ref a7, .ref a8, .null, .int (iI 0), .int (iI 0), .int (iI 0), .int (iI 0), .null, .null, .null, .null, .int (iI 0), .int (iI 0), .int (iI 0), .int (iI 0)])), (a1, .inl (g.2.1 0, 939, .inl (aI (fun _ => 0)))), (a2, .inl (g.2.1 0, 939, .inl (aI (fun _ => 0)))), (a3, .inl (g.2.1 0, 6, .inl (aI (fun _ => 0)))), (a4, .inl (g.2.1 1, 64, .inl (aI (fun _ => 0)))), (a5, .inl (g.2.1 1, 28, .inl (aI (fun _ => 0)))), (a6, .inl (g.2.1 0, 28, .inl (aI (fun _ => 0)))), (a7, .inl (g.2.1 0, 28, .inl (aI (fun _ => 0)))), (a8, .inl (g.2.1 0, 7, .inl (aI (fun _ => 0)))), (a9, .inl (g.2.1 0, 7, .inl (aI (fun _ => 0))))]) := hS
  refine li_putF hC hK hS ck_X12 0 rfl 15 (by decide) fl_X12_37 rfl rfl (v := .ref a9) rfl rfl (Nat.le_of_ble_eq_true rfl) hnm rfl (ws' := [(h0, .inr (13, [.int (iI 0), .ref a1, .ref a2, .int (iI 0), .int (iI 0), .int (iI 0), .int (iI 0), .int (iI 0), .int (iI 0), .ref a3, .ref a4, .ref a5, .ref a6, .ref a7, .ref a8, .ref a9, .int (iI 0), .int (iI 0), .int (iI 0), .int (iI 0), .null, .null, .null, .null, .int (iI 0), .int (iI 0), .int (iI 0), .int (iI 0)])), (a1, .inl (g.2.1 0, 939, .inl (aI (fun _ => 0)))), (a2, .inl (g.2.1 0, 939, .inl (aI (fun _ => 0)))), (a3, .inl (g.2.1 0, 6, .inl (aI (fun _ => 0)))), (a4, .inl (g.2.1 1, 64, .inl (aI (fun _ => 0)))), (a5, .inl (g.2.1 1, 28, .inl (aI (fun _ => 0)))), (a6, .inl (g.2.1 0, 28, .inl (aI (fun _ => 0)))), (a7, .inl (g.2.1 0, 28, .inl (aI (fun _ => 0)))), (a8, .inl (g.2.1 0, 7, .inl (aI (fun _ => 0)))), (a9, .inl (g.2.1 0, 7, .inl (aI (fun _ => 0))))]) rfl dX12_init_75 (fun H locs hS => ?_)
  refine li_aload_n hC hl 0 rfl dX12_init_78 ?_
  refine li_bipush hC (z := 7) rfl dX12_init_79 ?_
  refine li_newaI hC hK hS (z := 7) (N := 7) rfl (by decide) (by simp only [rmC]; omega) (by simp only [rmC]; omega) dX12_init_81 (fun a10 H hS => ?_)
  have hS : St g Aw s.heap H locs ([(h0, .inr (13, [.int (iI 0), .ref a1, .ref a2, .int (iI 0), .int (iI 0), .int (iI 0), .int (iI 0), .int (iI 0), .int (iI 0), .ref a3, .ref a4, .ref a5, .ref a6, .ref a7, .ref a8, .ref a9, .int (iI 0), .int (iI 0), .int (iI 0), .int (iI 0), .null, .null, .null, .null, .int (iI 0), .int (iI 0), .int (iI 0), .int (iI 0)])), (a1, .inl (g.2.1 0, 939, .inl (aI (fun _ => 0)))), (a2, .inl (g.2.1 0, 939, .inl (aI (fun _ => 0)))), (a3, .inl (g.2.1 0, 6, .inl (aI (fun _ => 0)))), (a4, .inl (g.2.1 1, 64, .inl (aI (fun _ => 0)))), (a5, .inl (g.2.1 1, 28, .inl (aI (fun _ => 0)))), (a6, .inl (g.2.1 0, 28, .inl (aI (fun _ => 0)))), (a7, .inl (g.2.1 0, 28, .inl (aI (fun _ => 0)))), (a8, .inl (g.2.1 0, 7, .inl (aI (fun _ => 0)))), (a9, .inl (g.2.1 0, 7, .inl (aI (fun _ => 0)))), (a10, .inl (g.2.1 0, 7, .inl (aI (fun _ => 0))))]) := hS
  refine li_putF hC hK hS ck_X12 0 rfl 20 (by decide) fl_X12_40 rfl rfl (v := .ref a10) rfl rfl (Nat.le_of_ble_eq_true rfl) hnm rfl (ws' := [(h0, .inr (13, [.int (iI 0), .ref a1, .ref a2, .int (iI 0), .int (iI 0), .int (iI 0), .int (iI 0), .int (iI 0), .int (iI 0), .ref a3, .ref a4, .ref a5, .ref a6, .ref a7, .ref a8, .ref a9, .int (iI 0), .int (iI 0), .int (iI 0), .int (iI 0), .ref a10, .null, .null, .null, .int (iI 0), .int (iI 0), .int (iI 0), .int (iI 0)])), (a1, .inl (g.2.1 0, 939, .inl (aI (fun _ => 0)))), (a2, .inl (g.2.1 0, 939, .inl (aI (fun _ => 0)))), (a3, .inl (g.2.1 0, 6, .inl (aI (fun _ => 0)))), (a4, .inl (g.2.1 1, 64, .inl (aI (fun _ => 0)))), (a5, .inl (g.2.1 1, 28, .inl (aI (fun _ => 0)))), (a6, .inl (g.2.1 0, 28, .inl (aI (fun _ => 0)))), (a7, .inl (g.2.1 0, 28, .inl (aI (fun _ => 0)))), (a8, .inl (g.2.1 0, 7, .inl (aI (fun _ => 0)))), (a9, .inl (g.2.1 0, 7, .inl (aI (fun _ => 0)))), (a10, .inl (g.2.1 0, 7, .inl (aI (fun _ => 0))))]) rfl dX12_init_83 (fun H locs hS => ?_)
  refine li_aload_n hC hl 0 rfl dX12_init_86 ?_
  refine li_bipush hC (z := 7) rfl dX12_init_87 ?_
  refine li_newaI hC hK hS (z := 7) (N := 7) rfl (by decide) (by simp only [rmC]; omega) (by simp only [rmC]; omega) dX12_init_89 (fun a11 H hS => ?_)
  have hS : St g Aw s.heap H locs ([(h0, .inr (13, [.int (iI 0), .ref a1, .ref a2, .int (iI 0), .int (iI 0), .int (iI 0), .int (iI 0), .int (iI 0), .int (iI 0), .ref a3, .ref a4, .ref a5, .ref a6, .ref a7, .ref a8, .ref a9, .int (iI 0), .int (iI 0), .int (iI 0), .int (iI 0), .ref a10, .null, .null, .null, .int (iI 0), .int (iI 0), .int (iI 0), .int (iI 0)])), (a1, .inl (g.2.1 0, 939, .inl (aI (fun _ => 0)))), (a2, .inl (g.2.1 0, 939, .inl (aI (fun _ => 0)))), (a3, .inl (g.2.1 0, 6, .inl (aI (fun _ => 0)))), (a4, .inl (g.2.1 1, 64, .inl (aI (fun _ => 0)))), (a5, .inl (g.2.1 1, 28, .inl (aI (fun _ => 0)))), (a6, .inl (g.2.1 0, 28, .inl (aI (fun _ => 0)))), (a7, .inl (g.2.1 0, 28, .inl (aI (fun _ => 0)))), (a8, .inl (g.2.1 0, 7, .inl (aI (fun _ => 0)))), (a9, .inl (g.2.1 0, 7, .inl (aI (fun _ => 0)))), (a10, .inl (g.2.1 0, 7, .inl (aI (fun _ => 0)))), (a11, .inl (g.2.1 0, 7, .inl (aI (fun _ => 0))))]) := hS
  refine li_putF hC hK hS ck_X12 0 rfl 21 (by decide) fl_X12_43 rfl rfl (v := .ref a11) rfl rfl (Nat.le_of_ble_eq_true rfl) hnm rfl (ws' := [(h0, .inr (13, [.int (iI 0), .ref a1, .ref a2, .int (iI 0), .int (iI 0), .int (iI 0), .int (iI 0), .int (iI 0), .int (iI 0), .ref a3, .ref a4, .ref a5, .ref a6, .ref a7, .ref a8, .ref a9, .int (iI 0), .int (iI 0), .int (iI 0), .int (iI 0), .ref a10, .ref a11, .null, .null, .int (iI 0), .int (iI 0), .int (iI 0), .int (iI 0)])), (a1, .inl (g.2.1 0, 939, .inl (aI (fun _ => 0)))), (a2, .inl (g.2.1 0, 939, .inl (aI (fun _ => 0)))), (a3, .inl (g.2.1 0, 6, .inl (aI (fun _ => 0)))), (a4, .inl (g.2.1 1, 64, .inl (aI (fun _ => 0)))), (a5, .inl (g.2.1 1, 28, .inl (aI (fun _ => 0)))), (a6, .inl (g.2.1 0, 28, .inl (aI (fun _ => 0)))), (a7, .inl (g.2.1 0, 28, .inl (aI (fun _ => 0)))), (a8, .inl (g.2.1 0, 7, .inl (aI (fun _ => 0)))), (a9, .inl (g.2.1 0, 7, .inl (aI (fun _ => 0)))), (a10, .inl (g.2.1 0, 7, .inl (aI (fun _ => 0)))), (a11, .inl (g.2.1 0, 7, .inl (aI (fun _ => 0))))]) rfl dX12_init_91 (fun H locs hS => ?_)
  refine li_aload_n hC hl 0 rfl dX12_init_94 ?_
  refine li_bipush hC (z := 7) rfl dX12_init_95 ?_
  refine li_newaI hC hK hS (z := 7) (N := 7) rfl (by decide) (by simp only [rmC]; omega) (by simp only [rmC]; omega) dX12_init_97 (fun a12 H hS => ?_)
  have hS : St g Aw s.heap H locs ([(h0, .inr (13, [.int (iI 0), .ref a1, .ref a2, .int (iI 0), .int (iI 0), .int (iI 0), .int (iI 0), .int (iI 0), .int (iI 0), .ref a3, .ref a4, .ref a5, .ref a6, .ref a7, .ref a8, .ref a9, .int (iI 0), .int (iI 0), .int (iI 0), .int (iI 0), .ref a10, .ref a11, .null, .null, .int (iI 0), .int (iI 0), .int (iI 0), .int (iI 0)])), (a1, .inl (g.2.1 0, 939, .inl (aI (fun _ => 0)))), (a2, .inl (g.2.1 0, 939, .inl (aI (fun _ => 0)))), (a3, .inl (g.2.1 0, 6, .inl (aI (fun _ => 0)))), (a4, .inl (g.2.1 1, 64, .inl (aI (fun _ => 0)))), (a5, .inl (g.2.1 1, 28, .inl (aI (fun _ => 0)))), (a6, .inl (g.2.1 0, 28, .inl (aI (fun _ => 0)))), (a7, .inl (g.2.1 0, 28, .inl (aI (fun _ => 0)))), (a8, .inl (g.2.1 0, 7, .inl (aI (fun _ => 0)))), (a9, .inl (g.2.1 0, 7, .inl (aI (fun _ => 0)))), (a10, .inl (g.2.1 0, 7, .inl (aI (fun _ => 0)))), (a11, .inl (g.2.1 0, 7, .inl (aI (fun _ => 0)))), (a12, .inl (g.2.1 0, 7, .inl (aI (fun _ => 0))))]) := hS
  refine li_putF hC hK hS ck_X12 0 rfl 22 (by decide) fl_X12_46 rfl rfl (v := .ref a12) rfl rfl (Nat.le_of_ble_eq_true rfl) hnm rfl (ws' := [(h0, .inr (13, [.int (iI 0), .ref a1, .ref a2, .int (iI 0), .int (iI 0), .int (iI 0), .int (iI 0), .int (iI 0), .int (iI 0), .ref a3, .ref a4, .ref a5, .ref a6, .ref a7, .ref a8, .ref a9, .int (iI 0), .int (iI 0), .int (iI 0), .int (iI 0), .ref a10, .ref a11, .ref a12, .null, .int (iI 0), .int (iI 0), .int (iI 0), .int (iI 0)])), (a1, .inl (g.2.1 0, 939, .inl (aI (fun _ => 0)))), (a2, .inl (g.2.1 0, 939, .inl (aI (fun _ => 0)))), (a3, .inl (g.2.1 0, 6, .inl (aI (fun _ => 0)))), (a4, .inl (g.2.1 1, 64, .inl (aI (fun _ => 0)))), (a5, .inl (g.2.1 1, 28, .inl (aI (fun _ => 0)))), (a6, .inl (g.2.1 0, 28, .inl (aI (fun _ => 0)))), (a7, .inl (g.2.1 0, 28, .inl (aI (fun _ => 0)))), (a8, .inl (g.2.1 0, 7, .inl (aI (fun _ => 0)))), (a9, .inl (g.2.1 0, 7, .inl (aI (fun _ => 0)))), (a10, .inl (g.2.1 0, 7, .inl (aI (fun _ => 0)))), (a11, .inl (g.2.1 0, 7, .inl (aI (fun _ => 0)))), (a12, .inl (g.2.1 0, 7, .inl (aI (fun _ => 0))))]) rfl dX12_init_99 (fun H locs hS => ?_)
  refine li_aload_n hC hl 0 rfl dX12_init_102 ?_
  refine li_bipush hC (z := 20) rfl dX12_init_103 ?_
  refine li_newaI hC hK hS (z := 20) (N := 20) rfl (by decide) (by simp only [rmC]; omega) (by simp only [rmC]; omega) dX12_init_105 (fun a13 H hS => ?_)
  have hS : St g Aw s.heap H locs ([(h0, .inr (13, [.int (iI 0), .ref a1, .ref a2, .int (iI 0), .int (iI 0), .int (iI 0), .int (iI 0), .int (iI 0), .int (iI 0), .ref a3, .ref a4, .ref a5, .ref a6, .ref a7, .ref a8, .ref a9, .int (iI 0), .int (iI 0), .int (iI 0), .int (iI 0), .ref a10, .ref a11, .ref a12, .null, .int (iI 0), .int (iI 0), .int (iI 0), .int (iI 0)])), (a1, .inl (g.2.1 0, 939, .inl (aI (fun _ => 0)))), (a2, .inl (g.2.1 0, 939, .inl (aI (fun _ => 0)))), (a3, .inl (g.2.1 0, 6, .inl (aI (fun _ => 0)))), (a4, .inl (g.2.1 1, 64, .inl (aI (fun _ => 0)))), (a5, .inl (g.2.1 1, 28, .inl (aI (fun _ => 0)))), (a6, .inl (g.2.1 0, 28, .inl (aI (fun _ => 0)))), (a7, .inl (g.2.1 0, 28, .inl (aI (fun _ => 0)))), (a8, .inl (g.2.1 0, 7, .inl (aI (fun _ => 0)))), (a9, .inl (g.2.1 0, 7, .inl (aI (fun _ => 0)))), (a10, .inl (g.2.1 0, 7, .inl (aI (fun _ => 0)))), (a11, .inl (g.2.1 0, 7, .inl (aI (fun _ => 0)))), (a12, .inl (g.2.1 0, 7, .inl (aI (fun _ => 0)))), (a13, .inl (g.2.1 0, 20, .inl (aI (fun _ => 0))))]) := hS
  refine li_putF hC hK hS ck_X12 0 rfl 23 (by decide) fl_X12_49 rfl rfl (v := .ref a13) rfl rfl (Nat.le_of_ble_eq_true rfl) hnm rfl (ws' := [(h0, .inr (13, [.int (iI 0), .ref a1, .ref a2, .int (iI 0), .int (iI 0), .int (iI 0), .int (iI 0), .int (iI 0), .int (iI 0), .ref a3, .ref a4, .ref a5, .ref a6, .ref a7, .ref a8, .ref a9, .int (iI 0), .int (iI 0), .int (iI 0), .int (iI 0), .ref a10, .ref a11, .ref a12, .ref a13, .int (iI 0), .int (iI 0), .int (iI 0), .int (iI 0)])), (a1, .inl (g.2.1 0, 939, .inl (aI (fun _ => 0)))), (a2, .inl (g.2.1 0, 939, .inl (aI (fun _ => 0)))), (a3, .inl (g.2.1 0, 6, .inl (aI (fun _ => 0)))), (a4, .inl (g.2.1 1, 64, .inl (aI (fun _ => 0)))), (a5, .inl (g.2.1 1, 28, .inl (aI (fun _ => 0)))), (a6, .inl (g.2.1 0, 28, .inl (aI (fun _ => 0)))), (a7, .inl (g.2.1 0, 28, .inl (aI (fun _ => 0)))), (a8, .inl (g.2.1 0, 7, .inl (aI (fun _ => 0)))), (a9, .inl (g.2.1 0, 7, .inl (aI (fun _ => 0)))), (a10, .inl (g.2.1 0, 7, .inl (aI (fun _ => 0)))), (a11, .inl (g.2.1 0, 7, .inl (aI (fun _ => 0)))), (a12, .inl (g.2.1 0, 7, .inl (aI (fun _ => 0)))), (a13, .inl (g.2.1 0, 20, .inl (aI (fun _ => 0))))]) rfl dX12_init_107 (fun H locs hS => ?_)
  refine li_aload_n hC hl 0 rfl dX12_init_110 ?_
  refine li_get hC hK.1 ck_X12 (hS.1 0 _ rfl) 1 (by decide) fl_X12_9 rfl (v := .ref a1) rfl dX12_init_111 ?_
  refine li_bipush hC (z := 6) rfl dX12_init_114 ?_
  refine li_iconst hC dX12_init_116 ?_
  refine li_iast hC hK hS 1 (n := 939) (f := (fun _ => 0)) (z := 6) rfl ⟨by omega, by omega⟩ (by decide) (ws' := [(h0, .inr (13, [.int (iI 0), .ref a1, .ref a2, .int (iI 0), .int (iI 0), .int (iI 0), .int (iI 0), .int (iI 0), .int (iI 0), .ref a3, .ref a4, .ref a5, .ref a6, .ref a7, .ref a8, .ref a9, .int (iI 0), .int (iI 0), .int (iI 0), .int (iI 0), .ref a10, .ref a11, .ref a12, .ref a13, .int (iI 0), .int (iI 0), .int (iI 0), .int (iI 0)])), (a1, .inl (g.2.1 0, 939, .inl (aI (va_up (fun _ => 0) 6 (-1))))), (a2, .inl (g.2.1 0, 939, .inl (aI (fun _ => 0)))), (a3, .inl (g.2.1 0, 6, .inl (aI (fun _ => 0)))), (a4, .inl (g.2.1 1, 64, .inl (aI (fun _ => 0)))), (a5, .inl (g.2.1 1, 28, .inl (aI (fun _ => 0)))), (a6, .inl (g.2.1 0, 28, .inl (aI (fun _ => 0)))), (a7, .inl (g.2.1 0, 28, .inl (aI (fun _ => 0)))), (a8, .inl (g.2.1 0, 7, .inl (aI (fun _ => 0)))), (a9, .inl (g.2.1 0, 7, .inl (aI (fun _ => 0)))), (a10, .inl (g.2.1 0, 7, .inl (aI (fun _ => 0)))), (a11, .inl (g.2.1 0, 7, .inl (aI (fun _ => 0)))), (a12, .inl (g.2.1 0, 7, .inl (aI (fun _ => 0)))), (a13, .inl (g.2.1 0, 20, .inl (aI (fun _ => 0))))]) rfl dX12_init_117 (fun H locs hS => ?_)
  exact hQ _ _ _ _ _ _ _ dX12_init_118 hS (by omega) (by omega) (⟨(va_up (va_up (va_up (va_up (va_up (va_up (va_up (va_up (va_up (va_up (va_up (va_up (va_up (fun _ => 0) 1 a1) 2 a2) 9 a3) 10 a4) 11 a5) 12 a6) 13 a7) 14 a8) 15 a9) 20 a10) 21 a11) 22 a12) 23 a13), rfl⟩)
