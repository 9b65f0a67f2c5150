theorem FitA_at {S : Nat → Int} {wide : Int} {f : Nat → Int} (h : FitA S wide f) {n p : Int} (hn : 0 ≤ n ∧ n < S 0) (hp : 0 ≤ p ∧ p ≤ 3) : f ((4 * n) + p).toNat = b2 (fitsS S n p wide) := by
  rw [h ((4 * n) + p) (by omega) (by omega), show (4 * n + p) / 4 = n by omega, show (4 * n + p) % 4 = p by omega]
theorem GoodA_at {S : Nat → Int} {f : Nat → Int} (h : GoodA S f) {n p : Int} (hn : 0 ≤ n ∧ n < S 0) (hp : 0 ≤ p ∧ p ≤ 3) : f ((4 * n) + p).toNat = goodS S n p := by
  rw [h ((4 * n) + p) (by omega) (by omega), show (4 * n + p) / 4 = n by omega, show (4 * n + p) % 4 = p by omega]
theorem ClA_at {S : Nat → Int} {f : Nat → Int} (h : ClA S f) {n p : Int} (hn : 0 ≤ n ∧ n < S 0) (hp : 0 ≤ p ∧ p ≤ 3) : f ((4 * n) + p).toNat = setB (clP S n p) (4 * S 0).toNat := by
  rw [h ((4 * n) + p) (by omega) (by omega), show (4 * n + p) / 4 = n by omega, show (4 * n + p) % 4 = p by omega]
theorem keep_leaf {S : Nat → Int} {wide by0 many score : Int} {t : BT} {u : List Int} {wy : Nat → Int} {d : Nat} (hd : d = 0) (hmn : many = manyL u) (hsc : score = scoreL (goodS S) u) (hwy : wyL u wy) (hl : (u.length : Int) = S 0) : keepT by0 (S 0) t many score wy = foldK by0 (S 0) (goodS S) (cmp (okW S wide) d u) t := by
  subst hd
  show _ = keepL _ _ _ _ u
  unfold keepL
  rw [← hmn, ← hsc]
  exact keepT_ext (fun k hk => by
    have q := hwy (k : Int) (by omega) (by omega)
    rw [Int.toNat_natCast] at q
    exact q)
set_option maxHeartbeats 4000000 in
set_option maxRecDepth 100000 in
theorem c_X12_waysFrom (l : Launch) (g : GG) : ∀ (d : Nat) (h0 : Nat) (ad : Nat → Nat) (F : Nat → Int) (A : Nat → Nat → Int) (S : Nat → Int) (hSA : A 1 = S) (m0 : Int) (s0 : Int) (b0 : Nat → Int) (wy : Nat → Int) (by0 : Int) (e16 : F 16 = m0) (e17 : F 17 = s0) (e15 : A 15 = b0) (e14 : A 14 = wy) (e18 : F 18 = by0) (n : Int) (used : Int) (many : Int) (score : Int) (u : List Int) (wide : Int) (ft : Nat → Int) (gdA : Nat → Int) (cl : Nat → Int) (e11 : A 11 = ft) (e12 : A 12 = gdA) (e13 : A 13 = cl) (hlen : (u.length : Int) + (d : Int) = S 0) (hn : n = (u.length : Int)) (hus : used = setB (useP u) 28) (hmn : many = manyL u) (hsc : score = scoreL (goodS S) u) (hok : okL u) (hwy : wyL u wy) (hft : FitA S wide ft) (hgd : GoodA S gdA) (hcl : ClA S cl) (hB : TB (m0, s0, b0)) (hby : 0 ≤ by0 ∧ by0 ≤ 1) (hw : 10 ≤ wide ∧ wide ≤ 30) (hI : InvD S) (hC0 : InvC S) (sz : Nat), MwrV l g yX12_waysFrom cX12_waysFrom 7 (2 + d) 0 0 [.ref h0, .int (iI n), .int (iI used), .int (iI many), .int (iI score)] sz (RW g h0 ad F A) (fun w => ∃ wy2, wyL u wy2 ∧ w = RW g h0 ad (va_up (va_up F 16 (foldK by0 (S 0) (goodS S) (cmp (okW S wide) d u) (m0, s0, b0)).1) 17 (foldK by0 (S 0) (goodS S) (cmp (okW S wide) d u) (m0, s0, b0)).2.1) (va_up (va_up A 14 wy2) 15 (foldK by0 (S 0) (goodS S) (cmp (okW S wide) d u) (m0, s0, b0)).2.2)) := by
  intro d
  induction d using Nat.strongRecOn with
  | _ d ih0 =>
  intro h0 ad F A S hSA m0 s0 b0 wy by0 e16 e17 e15 e14 e18 n used many score u wide ft gdA cl e11 e12 e13 hlen hn hus hmn hsc hok hwy hft hgd hcl hB hby hw hI hC0 sz
  subst hSA
  subst e16 e17 e15 e14 e18 e11 e12 e13
  refine wr_startV (own := RX12) (by decide) rfl (Nat.le_of_ble_eq_true rfl) ?_
  intro Pg Ev s Mi args below Mt Cd ls Q Aw hC hK hS hnm hl hQ
  have hD0 := hI.1
  have hm9 := manyL_rng u
  have hs9 := scoreL_rng hC0 (u := u) (by omega)
  have hl : lv_has ls 7 [(0, .ref h0), (1, .int (iI n)), (2, .int (iI used)), (3, .int (iI many)), (4, .int (iI score))] := hl
  obtain ⟨H, hH⟩ : ∃ H, H = s.heap := ⟨_, rfl⟩
  obtain ⟨locs, hlo⟩ : ∃ locs : List Loc, locs = [] := ⟨_, rfl⟩
  have hS : St g Aw s.heap H locs (RW g h0 ad F A) := by rw [hH, hlo]; exact hS
  have goal : W Pg l Ev (rmC (2 + d) 0 0) s Mi args below Mt Cd H locs 0 0 Q (F0 Mi 0 ls []) := ?goal
  · rw [hH, hlo] at goal; exact goal
  clear hH hlo
  refine li_iload_n hC hl 1 rfl dX12_waysFrom_0 ?_
  refine li_aload_n hC hl 0 rfl dX12_waysFrom_1 ?_
  refine li_get hC hK.1 ck_X12 (hS.1 0 _ rfl) 1 (by decide) fl_X12_9 rfl (v := .ref (ad 1)) rfl dX12_waysFrom_2 ?_
  refine li_iconst hC dX12_waysFrom_5 ?_
  refine li_iald_k (k := 0) (f := (A 1)) hC hK.1 (hS.1 1 _ rfl) rfl (by decide) (by decide) dX12_waysFrom_6 ?_
  refine li_icmp_ne (tgt := 18) hC (by decide) (rg (by omega) (by omega)) (rg (by omega) (by omega)) dX12_waysFrom_7 (fun c1 => ?_) (fun c1 => ?_)
  · refine li_iconst hC dX12_waysFrom_18 ?_
    refine li_istore hC (lv' := [(5, .int (iI 0)), (0, .ref h0), (1, .int (iI n)), (2, .int (iI used)), (3, .int (iI many)), (4, .int (iI score))]) hl (by decide) rfl dX12_waysFrom_19 (fun ls hl => ?_)
    have L21_2 : ∀ (fuel : Nat) (p : Int) (t : BT) (wy : Nat → Int) (ls : Array Slot) (H : Heap) (locs : List Loc), St g Aw s.heap H locs (RW g h0 ad (va_up (va_up F 16 t.1) 17 t.2.1) (va_up (va_up A 14 wy) 15 t.2.2)) → lv_has ls 7 [(0, .ref h0), (1, .int (iI n)), (2, .int (iI used)), (3, .int (iI many)), (4, .int (iI score)), (5, .int (iI p))] → (0 ≤ p ∧ p ≤ 4) → (t = (foldK (F 18) ((A 1) 0) (goodS (A 1)) (cmpP (fun p => cmp (okW (A 1) wide) (d - 1) (u ++ [p])) (okW (A 1) wide u) p.toNat) (F 16, F 17, A 15))) → (TB t) → (wyL u wy) → (((4 : Int) - p).toNat) < fuel → W Pg l Ev (rmC (2 + d) 0 0) s Mi args below Mt Cd H locs 0 0 Q (F0 Mi 21 ls []) := by
      intro fuel
      induction fuel with
      | zero => intro p t wy ls H locs hS hl hp hT hBt hwy hm; exact absurd hm (Nat.not_lt_zero _)
      | succ fuel ih21 =>
        intro p t wy ls H locs hS hl hp hT hBt hwy hm
        refine li_iload hC hl 5 rfl dX12_waysFrom_21 ?_
        refine li_iconst hC dX12_waysFrom_23 ?_
        refine li_icmp_ge (tgt := 97) hC (by decide) (rg (by omega) (by omega)) (rg (by decide) (by decide)) dX12_waysFrom_24 (fun c3 => ?_) (fun c3 => ?_)
        · have hp4 : p = 4 := by omega
          have hT4 := hT
          rw [hp4] at hT4
          refine li_aload_n hC hl 0 rfl dX12_waysFrom_97 ?_
          refine li_get hC hK.1 ck_X12 (hS.1 0 _ rfl) 14 (by decide) fl_X12_34 rfl (v := .ref (ad 14)) rfl dX12_waysFrom_98 ?_
          refine li_iload_n hC hl 1 rfl dX12_waysFrom_101 ?_
          refine li_iconst hC dX12_waysFrom_102 ?_
          refine li_iast hC hK hS 8 (n := 7) (f := wy) (z := n) rfl ⟨by omega, by omega⟩ (by decide) (ws' := RW g h0 ad (va_up (va_up F 16 t.1) 17 t.2.1) (va_up (va_up A 14 (va_up wy n.toNat 4)) 15 t.2.2)) rfl dX12_waysFrom_103 (fun H locs hS => ?_)
          refine li_aload_n hC hl 0 rfl dX12_waysFrom_104 ?_
          refine li_iload_n hC hl 1 rfl dX12_waysFrom_105 ?_
          refine li_iconst hC dX12_waysFrom_106 ?_
          refine li_iadd hC dX12_waysFrom_107 ?_
          refine li_iload_n hC hl 2 rfl dX12_waysFrom_108 ?_
          refine li_iload_n hC hl 3 rfl dX12_waysFrom_109 ?_
          refine li_iload hC hl 4 rfl dX12_waysFrom_110 ?_
          refine wr_callVv hC (ih0 (d - 1) (by omega) h0 ad (va_up (va_up F 16 t.1) 17 t.2.1) (va_up (va_up A 14 (va_up wy n.toNat 4)) 15 t.2.2) (A 1) rfl t.1 t.2.1 t.2.2 (va_up wy n.toNat 4) (F 18) rfl rfl rfl rfl rfl (n + 1) used many score (u ++ [4]) wide (A 11) (A 12) (A 13) rfl rfl rfl (by rw [len_app]; omega) (by rw [len_app]; omega) (by rw [hus]; exact use_out (by omega)) (by rw [manyL_app, b2_f (by omega), ← hmn, Int.add_zero]) (by rw [scoreL_app, if_pos rfl, ← hsc, Int.add_zero]) (okL_app hok (by omega)) (by rw [show n.toNat = u.length by omega]; exact wyL_app hwy) hft hgd hcl (hBt) (by omega) (by omega) hI hC0 _) mk_X12_waysFrom ml_X12_239 (rr (by omega)) ⟨by simp only [rmC]; omega, by simp only [rmC]; omega⟩ hK hS (li_recv hK.1 ck_X12 (hS.1 0 _ rfl)) rfl hl.1 rfl (Nat.le_of_ble_eq_true rfl) dX12_waysFrom_112 (fun w H locs hp hS => ?_)
          obtain ⟨u4, hwy5, rfl⟩ := hp
          exact hQ _ _ _ _ _ _ _ dX12_waysFrom_115 hS (by omega) (by omega) (by refine ⟨u4, wyL_pre hwy5, ?_⟩; rw [cmp_s (d := d) (by omega), show (5 : Nat) = ((4 : Int) + 1).toNat from rfl, foldP_t (by omega) (Or.inl rfl), ← hT4]; rfl)
        · refine li_iconst hC dX12_waysFrom_27 ?_
          refine li_iload_n hC hl 1 rfl dX12_waysFrom_28 ?_
          refine li_imul hC dX12_waysFrom_29 ?_
          refine li_iload hC hl 5 rfl dX12_waysFrom_30 ?_
          refine li_iadd hC dX12_waysFrom_32 ?_
          refine li_istore hC (lv' := [(6, .int (iI ((4 * n) + p))), (0, .ref h0), (1, .int (iI n)), (2, .int (iI used)), (3, .int (iI many)), (4, .int (iI score)), (5, .int (iI p))]) hl (by decide) rfl dX12_waysFrom_33 (fun ls hl => ?_)
          refine li_aload_n hC hl 1 rfl dX12_waysFrom_35 ?_
          refine li_get hC hK.1 ck_X12 (hS.1 0 _ rfl) 11 (by decide) fl_X12_25 rfl (v := .ref (ad 11)) rfl dX12_waysFrom_36 ?_
          refine li_iload hC hl 0 rfl dX12_waysFrom_39 ?_
          refine li_zald (f := (A 11)) hC hK.1 (hS.1 5 _ rfl) ⟨by omega, by omega⟩ (by decide) dX12_waysFrom_41 ?_
          rw [FitA_at hft (by omega) (by omega)]
          refine li_ifeq_b (tgt := 91) hC (by decide) dX12_waysFrom_42 (fun c6 => ?_) (fun c6 => ?_)
          · try have hnf : ¬ freeL (A 1) u p := fun h9 => absurd (hfb.mpr h9) (by assumption)
            refine li_iinc hC (lv' := [(5, .int (iI (p + 1))), (6, .int (iI ((4 * n) + p))), (0, .ref h0), (1, .int (iI n)), (2, .int (iI used)), (3, .int (iI many)), (4, .int (iI score))]) hl 6 rfl (by decide) rfl dX12_waysFrom_91 (fun ls hl => ?_)
            refine li_goto (tgt := 21) hC (by decide) dX12_waysFrom_94 ?_
            exact ih21 (p + 1) t wy _ _ _ hS (lv_sub hl [2, 3, 4, 5, 6, 0] rfl) (by omega) (by first | (rw [foldP_f hp.1 (okW_f1 (by omega) (by rw [← hn]; assumption))]; exact hT) | (rw [foldP_f hp.1 (okW_f2 (by omega) (by assumption))]; exact hT)) (by exact hBt) (by exact hwy) (by omega)
          · refine li_aload_n hC hl 1 rfl dX12_waysFrom_45 ?_
            refine li_get hC hK.1 ck_X12 (hS.1 0 _ rfl) 13 (by decide) fl_X12_31 rfl (v := .ref (ad 13)) rfl dX12_waysFrom_46 ?_
            refine li_iload hC hl 0 rfl dX12_waysFrom_49 ?_
            refine li_iald (f := (A 13)) hC hK.1 (hS.1 7 _ rfl) ⟨by omega, by omega⟩ (by decide) dX12_waysFrom_51 ?_
            rw [ClA_at hcl (by omega) (by omega)]
            refine li_iload_n hC hl 3 rfl dX12_waysFrom_52 ?_
            refine li_iand hC dX12_waysFrom_53 ?_
            have hfb := free_bits (S := A 1) (u := u) (p := p) (D := (A 1) 0) (by omega) (by omega) hok
            rw [← hn, ← hus] at hfb
            refine li_if_ne (tgt := 91) hC (by decide) (rng_of _) dX12_waysFrom_54 (fun c7 => ?_) (fun c7 => ?_)
            · try have hnf : ¬ freeL (A 1) u p := fun h9 => absurd (hfb.mpr h9) (by assumption)
              refine li_iinc hC (lv' := [(5, .int (iI (p + 1))), (6, .int (iI ((4 * n) + p))), (0, .ref h0), (1, .int (iI n)), (2, .int (iI used)), (3, .int (iI many)), (4, .int (iI score))]) hl 6 rfl (by decide) rfl dX12_waysFrom_91 (fun ls hl => ?_)
              refine li_goto (tgt := 21) hC (by decide) dX12_waysFrom_94 ?_
              exact ih21 (p + 1) t wy _ _ _ hS (lv_sub hl [2, 3, 4, 5, 6, 0] rfl) (by omega) (by first | (rw [foldP_f hp.1 (okW_f1 (by omega) (by rw [← hn]; assumption))]; exact hT) | (rw [foldP_f hp.1 (okW_f2 (by omega) (by assumption))]; exact hT)) (by exact hBt) (by exact hwy) (by omega)
            · have hfr := hfb.mp (by assumption)
              refine li_aload_n hC hl 1 rfl dX12_waysFrom_57 ?_
              refine li_get hC hK.1 ck_X12 (hS.1 0 _ rfl) 14 (by decide) fl_X12_34 rfl (v := .ref (ad 14)) rfl dX12_waysFrom_58 ?_
              refine li_iload_n hC hl 2 rfl dX12_waysFrom_61 ?_
              refine li_iload hC hl 6 rfl dX12_waysFrom_62 ?_
              refine li_iast hC hK hS 8 (n := 7) (f := wy) (z := n) rfl ⟨by omega, by omega⟩ (by decide) (ws' := RW g h0 ad (va_up (va_up F 16 t.1) 17 t.2.1) (va_up (va_up A 14 (va_up wy n.toNat p)) 15 t.2.2)) rfl dX12_waysFrom_64 (fun H locs hS => ?_)
              refine li_aload_n hC hl 1 rfl dX12_waysFrom_65 ?_
              refine li_iload_n hC hl 2 rfl dX12_waysFrom_66 ?_
              refine li_iconst hC dX12_waysFrom_67 ?_
              refine li_iadd hC dX12_waysFrom_68 ?_
              refine li_iload_n hC hl 3 rfl dX12_waysFrom_69 ?_
              refine li_iconst hC dX12_waysFrom_70 ?_
              refine li_iload hC hl 0 rfl dX12_waysFrom_71 ?_
              refine li_ishl hC dX12_waysFrom_73 ?_
              refine li_ior hC dX12_waysFrom_74 ?_
              refine li_iload_n hC hl 4 rfl dX12_waysFrom_75 ?_
              refine li_iconst hC dX12_waysFrom_76 ?_
              refine li_iadd hC dX12_waysFrom_77 ?_
              refine li_iload hC hl 5 rfl dX12_waysFrom_78 ?_
              refine li_aload_n hC hl 1 rfl dX12_waysFrom_80 ?_
              refine li_get hC hK.1 ck_X12 (hS.1 0 _ rfl) 12 (by decide) fl_X12_28 rfl (v := .ref (ad 12)) rfl dX12_waysFrom_81 ?_
              refine li_iload hC hl 0 rfl dX12_waysFrom_84 ?_
              refine li_iald (f := (A 12)) hC hK.1 (hS.1 6 _ rfl) ⟨by omega, by omega⟩ (by decide) dX12_waysFrom_86 ?_
              rw [GoodA_at hgd (by omega) (by omega)]
              refine li_iadd hC dX12_waysFrom_87 ?_
              refine wr_callVv hC (ih0 (d - 1) (by omega) h0 ad (va_up (va_up F 16 t.1) 17 t.2.1) (va_up (va_up A 14 (va_up wy n.toNat p)) 15 t.2.2) (A 1) rfl t.1 t.2.1 t.2.2 (va_up wy n.toNat p) (F 18) rfl rfl rfl rfl rfl (n + 1) (ior used (ishl 1 ((4 * n) + p))) (many + 1) (score + (goodS (A 1) n p)) (u ++ [p]) wide (A 11) (A 12) (A 13) rfl rfl rfl (by rw [len_app]; omega) (by rw [len_app]; omega) (by rw [hus, hn]; exact use_app (by omega) (by omega)) (by rw [manyL_app, b2_t (by omega), ← hmn]) (by rw [scoreL_app, if_neg (by omega), ← hsc, ← hn]) (okL_app hok (by omega)) (by rw [show n.toNat = u.length by omega]; exact wyL_app hwy) hft hgd hcl (hBt) (by omega) (by omega) hI hC0 _) mk_X12_waysFrom ml_X12_239 (rr (by omega)) ⟨by simp only [rmC]; omega, by simp only [rmC]; omega⟩ hK hS (li_recv hK.1 ck_X12 (hS.1 0 _ rfl)) rfl hl.1 rfl (Nat.le_of_ble_eq_true rfl) dX12_waysFrom_88 (fun w H locs hp hS => ?_)
              obtain ⟨u8, hwy9, rfl⟩ := hp
              try have hnf : ¬ freeL (A 1) u p := fun h9 => absurd (hfb.mpr h9) (by assumption)
              refine li_iinc hC (lv' := [(5, .int (iI (p + 1))), (6, .int (iI ((4 * n) + p))), (0, .ref h0), (1, .int (iI n)), (2, .int (iI used)), (3, .int (iI many)), (4, .int (iI score))]) hl 6 rfl (by decide) rfl dX12_waysFrom_91 (fun ls hl => ?_)
              refine li_goto (tgt := 21) hC (by decide) dX12_waysFrom_94 ?_
              exact ih21 (p + 1) (foldK (F 18) ((A 1) 0) (goodS (A 1)) (cmp (okW (A 1) wide) (d - 1) (u ++ [p])) t) u8 _ _ _ hS (lv_sub hl [2, 3, 4, 5, 6, 0] rfl) (by omega) (by rw [foldP_t hp.1 (okW_t (by omega) (by rw [← hn]; assumption) (by assumption)), ← hT]) (by exact foldK_TB hC0 _ _ hBt (fun v9 h9 => by rw [cmp_len _ _ v9 h9, len_app]; omega)) (by exact wyL_pre hwy9) (by omega)
    exact L21_2 ((((4 : Int) - 0).toNat) + 1) 0 (F 16, F 17, A 15) (A 14) _ _ _ hS (lv_sub hl [1, 2, 3, 4, 5, 0] rfl) (by omega) (by rfl) (by exact hB) (by exact hwy) (by omega)
  · refine li_aload_n hC hl 0 rfl dX12_waysFrom_10 ?_
    refine li_iload_n hC hl 3 rfl dX12_waysFrom_11 ?_
    refine li_iload hC hl 4 rfl dX12_waysFrom_12 ?_
    refine wr_callVv hC (c_X12_keepsWay l g h0 ad F A (A 1) rfl (F 16) (F 17) (A 15) (A 14) (F 18) rfl rfl rfl rfl rfl many score (by omega) (by omega) (by assumption) (by omega) hI _) mk_X12_keepsWay ml_X12_235 (rr (by omega)) ⟨by simp only [rmC]; omega, by simp only [rmC]; omega⟩ hK hS (li_recv hK.1 ck_X12 (hS.1 0 _ rfl)) rfl hl.1 rfl (Nat.le_of_ble_eq_true rfl) dX12_waysFrom_14 (fun w H locs hp hS => ?_)
    subst hp
    exact hQ _ _ _ _ _ _ _ dX12_waysFrom_17 hS (by omega) (by omega) (by rw [keep_leaf (wide := wide) (d := d) (by omega) hmn hsc hwy (by omega)]; exact ⟨A 14, hwy, rfl⟩)
