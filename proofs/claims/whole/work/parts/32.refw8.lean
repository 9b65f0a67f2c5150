theorem minC_rng {S : Nat → Int} {name : Int} (L : List (List Int)) {m : Int} (h : 0 ≤ m) : 0 ≤ minL (costL S name) L m ∧ minL (costL S name) L m ≤ m := ⟨minL_ge _ _ _ _ h (fun u _ => (costL_rng u).1), minL_le _ _ _⟩
theorem min_leaf {S : Nat → Int} {name m mv : Int} {ok : List Int → Int → Prop} {u : List Int} {d : Nat} (hd : d = 0) (hmv : mv = costL S name u) (h : mv < m) : minL (costL S name) (cmp ok d u) m = mv := by
  subst hd
  show minK (costL S name) m u = mv
  unfold minK
  rw [← hmv, if_pos h]
theorem min_cut {S : Nat → Int} {name m mv : Int} {ok : List Int → Int → Prop} {u : List Int} {d : Nat} (hmv : mv = costL S name u) (h : m ≤ mv) : minL (costL S name) (cmp ok d u) m = m :=
  minL_no _ _ _ (fun w hw => by have q := costL_pre (S := S) (name := name) d u w hw; omega)
theorem min_out {S : Nat → Int} {wide name m : Int} {u : List Int} {d : Nat} (hd : 1 ≤ d) (h1 : (u.length : Int) ≠ name) (h2 : S (42 + (u.length : Int)).toNat = 4) : minL (costL S name) (cmp (okM S wide name) d u) m = minL (costL S name) (cmp (okM S wide name) (d - 1) (u ++ [4])) m := by
  rw [cmp_s hd, cmpP_out (fun p h3 h4 => ⟨fun q => q.1 ⟨h1, h2⟩, fun q => ⟨fun _ => q, fun q2 => absurd ⟨h1, h2⟩ q2⟩⟩)]
set_option maxHeartbeats 4000000 in
set_option maxRecDepth 100000 in
theorem c_X12_movesFrom (l : Launch) (g : GG) : ∀ (d : Nat) (h0 : Nat) (ad : Nat → Nat) (F : Nat → Int) (A : Nat → Nat → Int) (S : Nat → Int) (hSA : A 1 = S) (n : Int) (used : Int) (moved : Int) (comes : Int) (m0 : Int) (e19 : F 19 = m0) (u : List Int) (wide : Int) (ft : Nat → Int) (cl : Nat → Int) (e11 : A 11 = ft) (e13 : A 13 = cl) (hlen : (u.length : Int) + (d : Int) = S 0) (hn : n = (u.length : Int)) (hus : used = setB (useP u) 28) (hmv : moved = costL S comes u) (hok : okL u) (hft : FitA S wide ft) (hcl : ClA S cl) (hm0 : 0 ≤ m0 ∧ m0 ≤ 99) (hcm : 0 ≤ comes ∧ comes < S 0) (hI : InvD S) (sz : Nat), MwrV l g yX12_movesFrom cX12_movesFrom 7 (2 + d) 0 0 [.ref h0, .int (iI n), .int (iI used), .int (iI moved), .int (iI comes)] sz (RW g h0 ad F A) (fun w => w = RW g h0 ad (va_up F 19 (minL (costL S comes) (cmp (okM S wide comes) d u) m0)) A) := by
  intro d
  induction d using Nat.strongRecOn with
  | _ d ih0 =>
  intro h0 ad F A S hSA n used moved comes m0 e19 u wide ft cl e11 e13 hlen hn hus hmv hok hft hcl hm0 hcm hI sz
  subst hSA
  subst e11 e13 e19
  refine wr_startV (own := RX12) (by decide) rfl (Nat.le_of_ble_eq_true rfl) ?_
  intro Pg Ev s Mi args below Mt Cd ls Q Aw hC hK hS hnm hl hQ
  have hD0 := hI.1
  have hmv9 := costL_rng (S := A 1) (name := comes) u
  have hl : lv_has ls 7 [(0, .ref h0), (1, .int (iI n)), (2, .int (iI used)), (3, .int (iI moved)), (4, .int (iI comes))] := hl
  obtain ⟨H, hH⟩ : ∃ H, H = s.heap := ⟨_, rfl⟩
  obtain ⟨locs, hlo⟩ : ∃ locs : List Loc, locs = [] := ⟨_, rfl⟩
  have hS : St g Aw s.heap H locs (RW g h0 ad F A) := by rw [hH, hlo]; exact hS
  have goal : W Pg l Ev (rmC (2 + d) 0 0) s Mi args below Mt Cd H locs 0 0 Q (F0 Mi 0 ls []) := ?goal
  · rw [hH, hlo] at goal; exact goal
  clear hH hlo
  refine li_iload_n hC hl 3 rfl dX12_movesFrom_0 ?_
  refine li_aload_n hC hl 0 rfl dX12_movesFrom_1 ?_
  refine li_get hC hK.1 ck_X12 (hS.1 0 _ rfl) 19 (by decide) fl_X12_254 rfl (v := .int (iI (F 19))) rfl dX12_movesFrom_2 ?_
  refine li_icmp_lt (tgt := 9) hC (by decide) (rg (by omega) (by omega)) (rg (by omega) (by omega)) dX12_movesFrom_5 (fun c1 => ?_) (fun c1 => ?_)
  · refine li_iload_n hC hl 1 rfl dX12_movesFrom_9 ?_
    refine li_aload_n hC hl 0 rfl dX12_movesFrom_10 ?_
    refine li_get hC hK.1 ck_X12 (hS.1 0 _ rfl) 1 (by decide) fl_X12_9 rfl (v := .ref (ad 1)) rfl dX12_movesFrom_11 ?_
    refine li_iconst hC dX12_movesFrom_14 ?_
    refine li_iald_k (k := 0) (f := (A 1)) hC hK.1 (hS.1 1 _ rfl) rfl (by decide) (by decide) dX12_movesFrom_15 ?_
    refine li_icmp_ne (tgt := 25) hC (by decide) (rg (by omega) (by omega)) (rg (by omega) (by omega)) dX12_movesFrom_16 (fun c2 => ?_) (fun c2 => ?_)
    · refine li_iload_n hC hl 1 rfl dX12_movesFrom_25 ?_
      refine li_iload hC hl 4 rfl dX12_movesFrom_26 ?_
      refine li_icmp_eq (tgt := 56) hC (by decide) (rg (by omega) (by omega)) (rg (by omega) (by omega)) dX12_movesFrom_28 (fun c3 => ?_) (fun c3 => ?_)
      · refine li_iconst hC dX12_movesFrom_56 ?_
        refine li_istore hC (lv' := [(5, .int (iI 0)), (0, .ref h0), (1, .int (iI n)), (2, .int (iI used)), (3, .int (iI moved)), (4, .int (iI comes))]) hl (by decide) rfl dX12_movesFrom_57 (fun ls hl => ?_)
        have L59_4 : ∀ (fuel : Nat) (p : Int) (m : Int) (ls : Array Slot) (H : Heap) (locs : List Loc), St g Aw s.heap H locs (RW g h0 ad (va_up F 19 m) A) → lv_has ls 7 [(0, .ref h0), (1, .int (iI n)), (2, .int (iI used)), (3, .int (iI moved)), (4, .int (iI comes)), (5, .int (iI p))] → (0 ≤ p ∧ p ≤ 4) → (m = minL (costL (A 1) comes) (cmpP (fun p => cmp (okM (A 1) wide comes) (d - 1) (u ++ [p])) (okM (A 1) wide comes u) p.toNat) (F 19)) → (0 ≤ m ∧ m ≤ 99) → (((4 : Int) - p).toNat) < fuel → W Pg l Ev (rmC (2 + d) 0 0) s Mi args below Mt Cd H locs 0 0 Q (F0 Mi 59 ls []) := by
          intro fuel
          induction fuel with
          | zero => intro p m ls H locs hS hl hp hT hm1 hm; exact absurd hm (Nat.not_lt_zero _)
          | succ fuel ih59 =>
            intro p m ls H locs hS hl hp hT hm1 hm
            refine li_iload hC hl 5 rfl dX12_movesFrom_59 ?_
            refine li_iconst hC dX12_movesFrom_61 ?_
            refine li_icmp_ge (tgt := 143) hC (by decide) (rg (by omega) (by omega)) (rg (by decide) (by decide)) dX12_movesFrom_62 (fun c5 => ?_) (fun c5 => ?_)
            · have hp4 : p = 4 := by omega
              have hT4 := hT
              rw [hp4] at hT4
              exact hQ _ _ _ _ _ _ _ dX12_movesFrom_143 hS (by omega) (by omega) (by rw [cmp_s (d := d) (by omega), show (5 : Nat) = ((4 : Int) + 1).toNat from rfl, minP_f (by omega) (fun h9 => absurd (h9.2 (by rw [← hn]; omega)).1 (by omega)), ← hT4])
            · refine li_iconst hC dX12_movesFrom_65 ?_
              refine li_iload_n hC hl 1 rfl dX12_movesFrom_66 ?_
              refine li_imul hC dX12_movesFrom_67 ?_
              refine li_iload hC hl 5 rfl dX12_movesFrom_68 ?_
              refine li_iadd hC dX12_movesFrom_70 ?_
              refine li_istore hC (lv' := [(6, .int (iI ((4 * n) + p))), (0, .ref h0), (1, .int (iI n)), (2, .int (iI used)), (3, .int (iI moved)), (4, .int (iI comes)), (5, .int (iI p))]) hl (by decide) rfl dX12_movesFrom_71 (fun ls hl => ?_)
              refine li_aload_n hC hl 1 rfl dX12_movesFrom_73 ?_
              refine li_get hC hK.1 ck_X12 (hS.1 0 _ rfl) 11 (by decide) fl_X12_25 rfl (v := .ref (ad 11)) rfl dX12_movesFrom_74 ?_
              refine li_iload hC hl 0 rfl dX12_movesFrom_77 ?_
              refine li_zald (f := (A 11)) hC hK.1 (hS.1 5 _ rfl) ⟨by omega, by omega⟩ (by decide) dX12_movesFrom_79 ?_
              rw [FitA_at hft (by omega) (by omega)]
              refine li_ifeq_b (tgt := 137) hC (by decide) dX12_movesFrom_80 (fun c6 => ?_) (fun c6 => ?_)
              · try have hnf : ¬ freeL (A 1) u p := fun h9 => absurd (hfb.mpr h9) (by assumption)
                refine li_iinc hC (lv' := [(5, .int (iI (p + 1))), (6, .int (iI ((4 * n) + p))), (0, .ref h0), (1, .int (iI n)), (2, .int (iI used)), (3, .int (iI moved)), (4, .int (iI comes))]) hl 6 rfl (by decide) rfl dX12_movesFrom_137 (fun ls hl => ?_)
                refine li_goto (tgt := 59) hC (by decide) dX12_movesFrom_140 ?_
                exact ih59 (p + 1) m _ _ _ hS (lv_sub hl [2, 3, 4, 5, 6, 0] rfl) (by omega) (by first | (rw [minP_f hp.1 (fun h9 => absurd (h9.2 (by rw [← hn]; omega)).2.1 (by rw [← hn]; assumption))]; exact hT) | (rw [minP_f hp.1 (fun h9 => absurd (h9.2 (by rw [← hn]; omega)).2.2 (by assumption))]; exact hT)) (by omega) (by omega)
              · refine li_aload_n hC hl 1 rfl dX12_movesFrom_83 ?_
                refine li_get hC hK.1 ck_X12 (hS.1 0 _ rfl) 13 (by decide) fl_X12_31 rfl (v := .ref (ad 13)) rfl dX12_movesFrom_84 ?_
                refine li_iload hC hl 0 rfl dX12_movesFrom_87 ?_
                refine li_iald (f := (A 13)) hC hK.1 (hS.1 7 _ rfl) ⟨by omega, by omega⟩ (by decide) dX12_movesFrom_89 ?_
                rw [ClA_at hcl (by omega) (by omega)]
                refine li_iload_n hC hl 3 rfl dX12_movesFrom_90 ?_
                refine li_iand hC dX12_movesFrom_91 ?_
                have hfb := free_bits (S := A 1) (u := u) (p := p) (D := (A 1) 0) (by omega) (by omega) hok
                rw [← hn, ← hus] at hfb
                refine li_if_ne (tgt := 137) hC (by decide) (rng_of _) dX12_movesFrom_92 (fun c7 => ?_) (fun c7 => ?_)
                · try have hnf : ¬ freeL (A 1) u p := fun h9 => absurd (hfb.mpr h9) (by assumption)
                  refine li_iinc hC (lv' := [(5, .int (iI (p + 1))), (6, .int (iI ((4 * n) + p))), (0, .ref h0), (1, .int (iI n)), (2, .int (iI used)), (3, .int (iI moved)), (4, .int (iI comes))]) hl 6 rfl (by decide) rfl dX12_movesFrom_137 (fun ls hl => ?_)
                  refine li_goto (tgt := 59) hC (by decide) dX12_movesFrom_140 ?_
                  exact ih59 (p + 1) m _ _ _ hS (lv_sub hl [2, 3, 4, 5, 6, 0] rfl) (by omega) (by first | (rw [minP_f hp.1 (fun h9 => absurd (h9.2 (by rw [← hn]; omega)).2.1 (by rw [← hn]; assumption))]; exact hT) | (rw [minP_f hp.1 (fun h9 => absurd (h9.2 (by rw [← hn]; omega)).2.2 (by assumption))]; exact hT)) (by omega) (by omega)
                · have hfr := hfb.mp (by assumption)
                  refine li_aload_n hC hl 1 rfl dX12_movesFrom_95 ?_
                  refine li_iload_n hC hl 2 rfl dX12_movesFrom_96 ?_
                  refine li_iconst hC dX12_movesFrom_97 ?_
                  refine li_iadd hC dX12_movesFrom_98 ?_
                  refine li_iload_n hC hl 3 rfl dX12_movesFrom_99 ?_
                  refine li_iconst hC dX12_movesFrom_100 ?_
                  refine li_iload hC hl 0 rfl dX12_movesFrom_101 ?_
                  refine li_ishl hC dX12_movesFrom_103 ?_
                  refine li_ior hC dX12_movesFrom_104 ?_
                  refine li_iload_n hC hl 4 rfl dX12_movesFrom_105 ?_
                  refine li_iload_n hC hl 2 rfl dX12_movesFrom_106 ?_
                  refine li_iload hC hl 5 rfl dX12_movesFrom_107 ?_
                  refine li_icmp_eq (tgt := 126) hC (by decide) (rg (by omega) (by omega)) (rg (by omega) (by omega)) dX12_movesFrom_109 (fun c8 => ?_) (fun c8 => ?_)
                  · refine li_iconst hC dX12_movesFrom_126 ?_
                    refine li_goto (tgt := 131) hC (by decide) dX12_movesFrom_127 ?_
                    refine li_iadd hC dX12_movesFrom_131 ?_
                    refine li_iload hC hl 5 rfl dX12_movesFrom_132 ?_
                    refine wr_callVv hC (ih0 (d - 1) (by omega) h0 ad (va_up F 19 m) A (A 1) rfl (n + 1) (ior used (ishl 1 ((4 * n) + p))) (moved + 0) comes m rfl (u ++ [p]) wide (A 11) (A 13) rfl rfl (by rw [len_app]; omega) (by rw [len_app]; omega) (by rw [hus, hn]; exact use_app (by omega) (by omega)) (by rw [costL_app, ← hmv, b2_f (by rw [← hn]; omega)]) (okL_app hok (by omega)) hft hcl (by omega) (by omega) hI _) mk_X12_movesFrom ml_X12_257 (rr (by omega)) ⟨by simp only [rmC]; omega, by simp only [rmC]; omega⟩ hK hS (li_recv hK.1 ck_X12 (hS.1 0 _ rfl)) rfl hl.1 rfl (Nat.le_of_ble_eq_true rfl) dX12_movesFrom_134 (fun w H locs hp hS => ?_)
                    subst hp
                    have q9 := minC_rng (S := (A 1)) (name := comes) (cmp (okM (A 1) wide comes) (d - 1) (u ++ [p])) (m := m) (by omega)
                    try have hnf : ¬ freeL (A 1) u p := fun h9 => absurd (hfb.mpr h9) (by assumption)
                    refine li_iinc hC (lv' := [(5, .int (iI (p + 1))), (6, .int (iI ((4 * n) + p))), (0, .ref h0), (1, .int (iI n)), (2, .int (iI used)), (3, .int (iI moved)), (4, .int (iI comes))]) hl 6 rfl (by decide) rfl dX12_movesFrom_137 (fun ls hl => ?_)
                    refine li_goto (tgt := 59) hC (by decide) dX12_movesFrom_140 ?_
                    exact ih59 (p + 1) (minL (costL (A 1) comes) (cmp (okM (A 1) wide comes) (d - 1) (u ++ [p])) m) _ _ _ hS (lv_sub hl [2, 3, 4, 5, 6, 0] rfl) (by omega) (by rw [minP_t hp.1 ⟨fun h9 => absurd h9 (by rw [← hn]; omega), fun _ => ⟨by omega, by rw [← hn]; assumption, by assumption⟩⟩, ← hT]) (by omega) (by omega)
                  · refine li_aload_n hC hl 1 rfl dX12_movesFrom_112 ?_
                    refine li_get hC hK.1 ck_X12 (hS.1 0 _ rfl) 1 (by decide) fl_X12_9 rfl (v := .ref (ad 1)) rfl dX12_movesFrom_113 ?_
                    refine li_bipush hC (z := 42) rfl dX12_movesFrom_116 ?_
                    refine li_iload_n hC hl 2 rfl dX12_movesFrom_118 ?_
                    refine li_iadd hC dX12_movesFrom_119 ?_
                    refine li_iald (f := (A 1)) hC hK.1 (hS.1 1 _ rfl) ⟨by omega, by omega⟩ (by decide) dX12_movesFrom_120 ?_
                    have q10 := hI.2 n (by omega) (by omega)
                    refine li_iload hC hl 6 rfl dX12_movesFrom_121 ?_
                    refine li_icmp_ne (tgt := 130) hC (by decide) (rg (by omega) (by omega)) (rg (by omega) (by omega)) dX12_movesFrom_123 (fun c11 => ?_) (fun c11 => ?_)
                    · refine li_iconst hC dX12_movesFrom_130 ?_
                      refine li_iadd hC dX12_movesFrom_131 ?_
                      refine li_iload hC hl 5 rfl dX12_movesFrom_132 ?_
                      refine wr_callVv hC (ih0 (d - 1) (by omega) h0 ad (va_up F 19 m) A (A 1) rfl (n + 1) (ior used (ishl 1 ((4 * n) + p))) (moved + 1) comes m rfl (u ++ [p]) wide (A 11) (A 13) rfl rfl (by rw [len_app]; omega) (by rw [len_app]; omega) (by rw [hus, hn]; exact use_app (by omega) (by omega)) (by rw [costL_app, ← hmv, b2_t (by rw [← hn]; omega)]) (okL_app hok (by omega)) hft hcl (by omega) (by omega) hI _) mk_X12_movesFrom ml_X12_257 (rr (by omega)) ⟨by simp only [rmC]; omega, by simp only [rmC]; omega⟩ hK hS (li_recv hK.1 ck_X12 (hS.1 0 _ rfl)) rfl hl.1 rfl (Nat.le_of_ble_eq_true rfl) dX12_movesFrom_134 (fun w H locs hp hS => ?_)
                      subst hp
                      have q12 := minC_rng (S := (A 1)) (name := comes) (cmp (okM (A 1) wide comes) (d - 1) (u ++ [p])) (m := m) (by omega)
                      try have hnf : ¬ freeL (A 1) u p := fun h9 => absurd (hfb.mpr h9) (by assumption)
                      refine li_iinc hC (lv' := [(5, .int (iI (p + 1))), (6, .int (iI ((4 * n) + p))), (0, .ref h0), (1, .int (iI n)), (2, .int (iI used)), (3, .int (iI moved)), (4, .int (iI comes))]) hl 6 rfl (by decide) rfl dX12_movesFrom_137 (fun ls hl => ?_)
                      refine li_goto (tgt := 59) hC (by decide) dX12_movesFrom_140 ?_
                      exact ih59 (p + 1) (minL (costL (A 1) comes) (cmp (okM (A 1) wide comes) (d - 1) (u ++ [p])) m) _ _ _ hS (lv_sub hl [2, 3, 4, 5, 6, 0] rfl) (by omega) (by rw [minP_t hp.1 ⟨fun h9 => absurd h9 (by rw [← hn]; omega), fun _ => ⟨by omega, by rw [← hn]; assumption, by assumption⟩⟩, ← hT]) (by omega) (by omega)
                    · refine li_iconst hC dX12_movesFrom_126 ?_
                      refine li_goto (tgt := 131) hC (by decide) dX12_movesFrom_127 ?_
                      refine li_iadd hC dX12_movesFrom_131 ?_
                      refine li_iload hC hl 5 rfl dX12_movesFrom_132 ?_
                      refine wr_callVv hC (ih0 (d - 1) (by omega) h0 ad (va_up F 19 m) A (A 1) rfl (n + 1) (ior used (ishl 1 ((4 * n) + p))) (moved + 0) comes m rfl (u ++ [p]) wide (A 11) (A 13) rfl rfl (by rw [len_app]; omega) (by rw [len_app]; omega) (by rw [hus, hn]; exact use_app (by omega) (by omega)) (by rw [costL_app, ← hmv, b2_f (by rw [← hn]; omega)]) (okL_app hok (by omega)) hft hcl (by omega) (by omega) hI _) mk_X12_movesFrom ml_X12_257 (rr (by omega)) ⟨by simp only [rmC]; omega, by simp only [rmC]; omega⟩ hK hS (li_recv hK.1 ck_X12 (hS.1 0 _ rfl)) rfl hl.1 rfl (Nat.le_of_ble_eq_true rfl) dX12_movesFrom_134 (fun w H locs hp hS => ?_)
                      subst hp
                      have q13 := minC_rng (S := (A 1)) (name := comes) (cmp (okM (A 1) wide comes) (d - 1) (u ++ [p])) (m := m) (by omega)
                      try have hnf : ¬ freeL (A 1) u p := fun h9 => absurd (hfb.mpr h9) (by assumption)
                      refine li_iinc hC (lv' := [(5, .int (iI (p + 1))), (6, .int (iI ((4 * n) + p))), (0, .ref h0), (1, .int (iI n)), (2, .int (iI used)), (3, .int (iI moved)), (4, .int (iI comes))]) hl 6 rfl (by decide) rfl dX12_movesFrom_137 (fun ls hl => ?_)
                      refine li_goto (tgt := 59) hC (by decide) dX12_movesFrom_140 ?_
                      exact ih59 (p + 1) (minL (costL (A 1) comes) (cmp (okM (A 1) wide comes) (d - 1) (u ++ [p])) m) _ _ _ hS (lv_sub hl [2, 3, 4, 5, 6, 0] rfl) (by omega) (by rw [minP_t hp.1 ⟨fun h9 => absurd h9 (by rw [← hn]; omega), fun _ => ⟨by omega, by rw [← hn]; assumption, by assumption⟩⟩, ← hT]) (by omega) (by omega)
        exact L59_4 ((((4 : Int) - 0).toNat) + 1) 0 (F 19) _ _ _ hS (lv_sub hl [1, 2, 3, 4, 5, 0] rfl) (by omega) (by rfl) (by omega) (by omega)
      · refine li_aload_n hC hl 0 rfl dX12_movesFrom_31 ?_
        refine li_get hC hK.1 ck_X12 (hS.1 0 _ rfl) 1 (by decide) fl_X12_9 rfl (v := .ref (ad 1)) rfl dX12_movesFrom_32 ?_
        refine li_bipush hC (z := 42) rfl dX12_movesFrom_35 ?_
        refine li_iload_n hC hl 1 rfl dX12_movesFrom_37 ?_
        refine li_iadd hC dX12_movesFrom_38 ?_
        refine li_iald (f := (A 1)) hC hK.1 (hS.1 1 _ rfl) ⟨by omega, by omega⟩ (by decide) dX12_movesFrom_39 ?_
        have q14 := hI.2 n (by omega) (by omega)
        refine li_iconst hC dX12_movesFrom_40 ?_
        refine li_icmp_ne (tgt := 56) hC (by decide) (rg (by omega) (by omega)) (rg (by decide) (by decide)) dX12_movesFrom_41 (fun c15 => ?_) (fun c15 => ?_)
        · refine li_iconst hC dX12_movesFrom_56 ?_
          refine li_istore hC (lv' := [(5, .int (iI 0)), (0, .ref h0), (1, .int (iI n)), (2, .int (iI used)), (3, .int (iI moved)), (4, .int (iI comes))]) hl (by decide) rfl dX12_movesFrom_57 (fun ls hl => ?_)
          have L59_16 : ∀ (fuel : Nat) (p : Int) (m : Int) (ls : Array Slot) (H : Heap) (locs : List Loc), St g Aw s.heap H locs (RW g h0 ad (va_up F 19 m) A) → lv_has ls 7 [(0, .ref h0), (1, .int (iI n)), (2, .int (iI used)), (3, .int (iI moved)), (4, .int (iI comes)), (5, .int (iI p))] → (0 ≤ p ∧ p ≤ 4) → (m = minL (costL (A 1) comes) (cmpP (fun p => cmp (okM (A 1) wide comes) (d - 1) (u ++ [p])) (okM (A 1) wide comes u) p.toNat) (F 19)) → (0 ≤ m ∧ m ≤ 99) → (((4 : Int) - p).toNat) < fuel → W Pg l Ev (rmC (2 + d) 0 0) s Mi args below Mt Cd H locs 0 0 Q (F0 Mi 59 ls []) := by
            intro fuel
            induction fuel with
            | zero => intro p m ls H locs hS hl hp hT hm1 hm; exact absurd hm (Nat.not_lt_zero _)
            | succ fuel ih59 =>
              intro p m ls H locs hS hl hp hT hm1 hm
              refine li_iload hC hl 5 rfl dX12_movesFrom_59 ?_
              refine li_iconst hC dX12_movesFrom_61 ?_
              refine li_icmp_ge (tgt := 143) hC (by decide) (rg (by omega) (by omega)) (rg (by decide) (by decide)) dX12_movesFrom_62 (fun c17 => ?_) (fun c17 => ?_)
              · have hp4 : p = 4 := by omega
                have hT4 := hT
                rw [hp4] at hT4
                exact hQ _ _ _ _ _ _ _ dX12_movesFrom_143 hS (by omega) (by omega) (by rw [cmp_s (d := d) (by omega), show (5 : Nat) = ((4 : Int) + 1).toNat from rfl, minP_f (by omega) (fun h9 => absurd (h9.2 (by rw [← hn]; omega)).1 (by omega)), ← hT4])
              · refine li_iconst hC dX12_movesFrom_65 ?_
                refine li_iload_n hC hl 1 rfl dX12_movesFrom_66 ?_
                refine li_imul hC dX12_movesFrom_67 ?_
                refine li_iload hC hl 5 rfl dX12_movesFrom_68 ?_
                refine li_iadd hC dX12_movesFrom_70 ?_
                refine li_istore hC (lv' := [(6, .int (iI ((4 * n) + p))), (0, .ref h0), (1, .int (iI n)), (2, .int (iI used)), (3, .int (iI moved)), (4, .int (iI comes)), (5, .int (iI p))]) hl (by decide) rfl dX12_movesFrom_71 (fun ls hl => ?_)
                refine li_aload_n hC hl 1 rfl dX12_movesFrom_73 ?_
                refine li_get hC hK.1 ck_X12 (hS.1 0 _ rfl) 11 (by decide) fl_X12_25 rfl (v := .ref (ad 11)) rfl dX12_movesFrom_74 ?_
                refine li_iload hC hl 0 rfl dX12_movesFrom_77 ?_
                refine li_zald (f := (A 11)) hC hK.1 (hS.1 5 _ rfl) ⟨by omega, by omega⟩ (by decide) dX12_movesFrom_79 ?_
                rw [FitA_at hft (by omega) (by omega)]
                refine li_ifeq_b (tgt := 137) hC (by decide) dX12_movesFrom_80 (fun c18 => ?_) (fun c18 => ?_)
                · try have hnf : ¬ freeL (A 1) u p := fun h9 => absurd (hfb.mpr h9) (by assumption)
                  refine li_iinc hC (lv' := [(5, .int (iI (p + 1))), (6, .int (iI ((4 * n) + p))), (0, .ref h0), (1, .int (iI n)), (2, .int (iI used)), (3, .int (iI moved)), (4, .int (iI comes))]) hl 6 rfl (by decide) rfl dX12_movesFrom_137 (fun ls hl => ?_)
                  refine li_goto (tgt := 59) hC (by decide) dX12_movesFrom_140 ?_
                  exact ih59 (p + 1) m _ _ _ hS (lv_sub hl [2, 3, 4, 5, 6, 0] rfl) (by omega) (by first | (rw [minP_f hp.1 (fun h9 => absurd (h9.2 (by rw [← hn]; omega)).2.1 (by rw [← hn]; assumption))]; exact hT) | (rw [minP_f hp.1 (fun h9 => absurd (h9.2 (by rw [← hn]; omega)).2.2 (by assumption))]; exact hT)) (by omega) (by omega)
                · refine li_aload_n hC hl 1 rfl dX12_movesFrom_83 ?_
                  refine li_get hC hK.1 ck_X12 (hS.1 0 _ rfl) 13 (by decide) fl_X12_31 rfl (v := .ref (ad 13)) rfl dX12_movesFrom_84 ?_
                  refine li_iload hC hl 0 rfl dX12_movesFrom_87 ?_
                  refine li_iald (f := (A 13)) hC hK.1 (hS.1 7 _ rfl) ⟨by omega, by omega⟩ (by decide) dX12_movesFrom_89 ?_
                  rw [ClA_at hcl (by omega) (by omega)]
                  refine li_iload_n hC hl 3 rfl dX12_movesFrom_90 ?_
                  refine li_iand hC dX12_movesFrom_91 ?_
                  have hfb := free_bits (S := A 1) (u := u) (p := p) (D := (A 1) 0) (by omega) (by omega) hok
                  rw [← hn, ← hus] at hfb
                  refine li_if_ne (tgt := 137) hC (by decide) (rng_of _) dX12_movesFrom_92 (fun c19 => ?_) (fun c19 => ?_)
                  · try have hnf : ¬ freeL (A 1) u p := fun h9 => absurd (hfb.mpr h9) (by assumption)
                    refine li_iinc hC (lv' := [(5, .int (iI (p + 1))), (6, .int (iI ((4 * n) + p))), (0, .ref h0), (1, .int (iI n)), (2, .int (iI used)), (3, .int (iI moved)), (4, .int (iI comes))]) hl 6 rfl (by decide) rfl dX12_movesFrom_137 (fun ls hl => ?_)
                    refine li_goto (tgt := 59) hC (by decide) dX12_movesFrom_140 ?_
                    exact ih59 (p + 1) m _ _ _ hS (lv_sub hl [2, 3, 4, 5, 6, 0] rfl) (by omega) (by first | (rw [minP_f hp.1 (fun h9 => absurd (h9.2 (by rw [← hn]; omega)).2.1 (by rw [← hn]; assumption))]; exact hT) | (rw [minP_f hp.1 (fun h9 => absurd (h9.2 (by rw [← hn]; omega)).2.2 (by assumption))]; exact hT)) (by omega) (by omega)
                  · have hfr := hfb.mp (by assumption)
                    refine li_aload_n hC hl 1 rfl dX12_movesFrom_95 ?_
                    refine li_iload_n hC hl 2 rfl dX12_movesFrom_96 ?_
                    refine li_iconst hC dX12_movesFrom_97 ?_
                    refine li_iadd hC dX12_movesFrom_98 ?_
                    refine li_iload_n hC hl 3 rfl dX12_movesFrom_99 ?_
                    refine li_iconst hC dX12_movesFrom_100 ?_
                    refine li_iload hC hl 0 rfl dX12_movesFrom_101 ?_
                    refine li_ishl hC dX12_movesFrom_103 ?_
                    refine li_ior hC dX12_movesFrom_104 ?_
                    refine li_iload_n hC hl 4 rfl dX12_movesFrom_105 ?_
                    refine li_iload_n hC hl 2 rfl dX12_movesFrom_106 ?_
                    refine li_iload hC hl 5 rfl dX12_movesFrom_107 ?_
                    refine li_icmp_eq (tgt := 126) hC (by decide) (rg (by omega) (by omega)) (rg (by omega) (by omega)) dX12_movesFrom_109 (fun c20 => ?_) (fun c20 => ?_)
                    · refine li_iconst hC dX12_movesFrom_126 ?_
                      refine li_goto (tgt := 131) hC (by decide) dX12_movesFrom_127 ?_
                      refine li_iadd hC dX12_movesFrom_131 ?_
                      refine li_iload hC hl 5 rfl dX12_movesFrom_132 ?_
                      refine wr_callVv hC (ih0 (d - 1) (by omega) h0 ad (va_up F 19 m) A (A 1) rfl (n + 1) (ior used (ishl 1 ((4 * n) + p))) (moved + 0) comes m rfl (u ++ [p]) wide (A 11) (A 13) rfl rfl (by rw [len_app]; omega) (by rw [len_app]; omega) (by rw [hus, hn]; exact use_app (by omega) (by omega)) (by rw [costL_app, ← hmv, b2_f (by rw [← hn]; omega)]) (okL_app hok (by omega)) hft hcl (by omega) (by omega) hI _) mk_X12_movesFrom ml_X12_257 (rr (by omega)) ⟨by simp only [rmC]; omega, by simp only [rmC]; omega⟩ hK hS (li_recv hK.1 ck_X12 (hS.1 0 _ rfl)) rfl hl.1 rfl (Nat.le_of_ble_eq_true rfl) dX12_movesFrom_134 (fun w H locs hp hS => ?_)
                      subst hp
                      have q21 := minC_rng (S := (A 1)) (name := comes) (cmp (okM (A 1) wide comes) (d - 1) (u ++ [p])) (m := m) (by omega)
                      try have hnf : ¬ freeL (A 1) u p := fun h9 => absurd (hfb.mpr h9) (by assumption)
                      refine li_iinc hC (lv' := [(5, .int (iI (p + 1))), (6, .int (iI ((4 * n) + p))), (0, .ref h0), (1, .int (iI n)), (2, .int (iI used)), (3, .int (iI moved)), (4, .int (iI comes))]) hl 6 rfl (by decide) rfl dX12_movesFrom_137 (fun ls hl => ?_)
                      refine li_goto (tgt := 59) hC (by decide) dX12_movesFrom_140 ?_
                      exact ih59 (p + 1) (minL (costL (A 1) comes) (cmp (okM (A 1) wide comes) (d - 1) (u ++ [p])) m) _ _ _ hS (lv_sub hl [2, 3, 4, 5, 6, 0] rfl) (by omega) (by rw [minP_t hp.1 ⟨fun h9 => absurd h9 (by rw [← hn]; omega), fun _ => ⟨by omega, by rw [← hn]; assumption, by assumption⟩⟩, ← hT]) (by omega) (by omega)
                    · refine li_aload_n hC hl 1 rfl dX12_movesFrom_112 ?_
                      refine li_get hC hK.1 ck_X12 (hS.1 0 _ rfl) 1 (by decide) fl_X12_9 rfl (v := .ref (ad 1)) rfl dX12_movesFrom_113 ?_
                      refine li_bipush hC (z := 42) rfl dX12_movesFrom_116 ?_
                      refine li_iload_n hC hl 2 rfl dX12_movesFrom_118 ?_
                      refine li_iadd hC dX12_movesFrom_119 ?_
                      refine li_iald (f := (A 1)) hC hK.1 (hS.1 1 _ rfl) ⟨by omega, by omega⟩ (by decide) dX12_movesFrom_120 ?_
                      refine li_iload hC hl 6 rfl dX12_movesFrom_121 ?_
                      refine li_icmp_ne (tgt := 130) hC (by decide) (rg (by omega) (by omega)) (rg (by omega) (by omega)) dX12_movesFrom_123 (fun c22 => ?_) (fun c22 => ?_)
                      · refine li_iconst hC dX12_movesFrom_130 ?_
                        refine li_iadd hC dX12_movesFrom_131 ?_
                        refine li_iload hC hl 5 rfl dX12_movesFrom_132 ?_
                        refine wr_callVv hC (ih0 (d - 1) (by omega) h0 ad (va_up F 19 m) A (A 1) rfl (n + 1) (ior used (ishl 1 ((4 * n) + p))) (moved + 1) comes m rfl (u ++ [p]) wide (A 11) (A 13) rfl rfl (by rw [len_app]; omega) (by rw [len_app]; omega) (by rw [hus, hn]; exact use_app (by omega) (by omega)) (by rw [costL_app, ← hmv, b2_t (by rw [← hn]; omega)]) (okL_app hok (by omega)) hft hcl (by omega) (by omega) hI _) mk_X12_movesFrom ml_X12_257 (rr (by omega)) ⟨by simp only [rmC]; omega, by simp only [rmC]; omega⟩ hK hS (li_recv hK.1 ck_X12 (hS.1 0 _ rfl)) rfl hl.1 rfl (Nat.le_of_ble_eq_true rfl) dX12_movesFrom_134 (fun w H locs hp hS => ?_)
                        subst hp
                        have q23 := minC_rng (S := (A 1)) (name := comes) (cmp (okM (A 1) wide comes) (d - 1) (u ++ [p])) (m := m) (by omega)
                        try have hnf : ¬ freeL (A 1) u p := fun h9 => absurd (hfb.mpr h9) (by assumption)
                        refine li_iinc hC (lv' := [(5, .int (iI (p + 1))), (6, .int (iI ((4 * n) + p))), (0, .ref h0), (1, .int (iI n)), (2, .int (iI used)), (3, .int (iI moved)), (4, .int (iI comes))]) hl 6 rfl (by decide) rfl dX12_movesFrom_137 (fun ls hl => ?_)
                        refine li_goto (tgt := 59) hC (by decide) dX12_movesFrom_140 ?_
                        exact ih59 (p + 1) (minL (costL (A 1) comes) (cmp (okM (A 1) wide comes) (d - 1) (u ++ [p])) m) _ _ _ hS (lv_sub hl [2, 3, 4, 5, 6, 0] rfl) (by omega) (by rw [minP_t hp.1 ⟨fun h9 => absurd h9 (by rw [← hn]; omega), fun _ => ⟨by omega, by rw [← hn]; assumption, by assumption⟩⟩, ← hT]) (by omega) (by omega)
                      · refine li_iconst hC dX12_movesFrom_126 ?_
                        refine li_goto (tgt := 131) hC (by decide) dX12_movesFrom_127 ?_
                        refine li_iadd hC dX12_movesFrom_131 ?_
                        refine li_iload hC hl 5 rfl dX12_movesFrom_132 ?_
                        refine wr_callVv hC (ih0 (d - 1) (by omega) h0 ad (va_up F 19 m) A (A 1) rfl (n + 1) (ior used (ishl 1 ((4 * n) + p))) (moved + 0) comes m rfl (u ++ [p]) wide (A 11) (A 13) rfl rfl (by rw [len_app]; omega) (by rw [len_app]; omega) (by rw [hus, hn]; exact use_app (by omega) (by omega)) (by rw [costL_app, ← hmv, b2_f (by rw [← hn]; omega)]) (okL_app hok (by omega)) hft hcl (by omega) (by omega) hI _) mk_X12_movesFrom ml_X12_257 (rr (by omega)) ⟨by simp only [rmC]; omega, by simp only [rmC]; omega⟩ hK hS (li_recv hK.1 ck_X12 (hS.1 0 _ rfl)) rfl hl.1 rfl (Nat.le_of_ble_eq_true rfl) dX12_movesFrom_134 (fun w H locs hp hS => ?_)
                        subst hp
                        have q24 := minC_rng (S := (A 1)) (name := comes) (cmp (okM (A 1) wide comes) (d - 1) (u ++ [p])) (m := m) (by omega)
                        try have hnf : ¬ freeL (A 1) u p := fun h9 => absurd (hfb.mpr h9) (by assumption)
                        refine li_iinc hC (lv' := [(5, .int (iI (p + 1))), (6, .int (iI ((4 * n) + p))), (0, .ref h0), (1, .int (iI n)), (2, .int (iI used)), (3, .int (iI moved)), (4, .int (iI comes))]) hl 6 rfl (by decide) rfl dX12_movesFrom_137 (fun ls hl => ?_)
                        refine li_goto (tgt := 59) hC (by decide) dX12_movesFrom_140 ?_
                        exact ih59 (p + 1) (minL (costL (A 1) comes) (cmp (okM (A 1) wide comes) (d - 1) (u ++ [p])) m) _ _ _ hS (lv_sub hl [2, 3, 4, 5, 6, 0] rfl) (by omega) (by rw [minP_t hp.1 ⟨fun h9 => absurd h9 (by rw [← hn]; omega), fun _ => ⟨by omega, by rw [← hn]; assumption, by assumption⟩⟩, ← hT]) (by omega) (by omega)
          exact L59_16 ((((4 : Int) - 0).toNat) + 1) 0 (F 19) _ _ _ hS (lv_sub hl [1, 2, 3, 4, 5, 0] rfl) (by omega) (by rfl) (by omega) (by omega)
        · refine li_aload_n hC hl 0 rfl dX12_movesFrom_44 ?_
          refine li_iload_n hC hl 1 rfl dX12_movesFrom_45 ?_
          refine li_iconst hC dX12_movesFrom_46 ?_
          refine li_iadd hC dX12_movesFrom_47 ?_
          refine li_iload_n hC hl 2 rfl dX12_movesFrom_48 ?_
          refine li_iload_n hC hl 3 rfl dX12_movesFrom_49 ?_
          refine li_iload hC hl 4 rfl dX12_movesFrom_50 ?_
          refine wr_callVv hC (ih0 (d - 1) (by omega) h0 ad F A (A 1) rfl (n + 1) used moved comes (F 19) rfl (u ++ [4]) wide (A 11) (A 13) rfl rfl (by rw [len_app]; omega) (by rw [len_app]; omega) (by rw [hus]; exact use_out (by omega)) (by rw [costL_app, ← hmv, b2_f (by rw [← hn]; omega), Int.add_zero]) (okL_app hok (by omega)) hft hcl (by omega) (by omega) hI _) mk_X12_movesFrom ml_X12_257 (rr (by omega)) ⟨by simp only [rmC]; omega, by simp only [rmC]; omega⟩ hK hS (li_recv hK.1 ck_X12 (hS.1 0 _ rfl)) rfl hl.1 rfl (Nat.le_of_ble_eq_true rfl) dX12_movesFrom_52 (fun w H locs hp hS => ?_)
          subst hp
          have q25 := minC_rng (S := (A 1)) (name := comes) (cmp (okM (A 1) wide comes) (d - 1) (u ++ [4])) (m := F 19) (by omega)
          exact hQ _ _ _ _ _ _ _ dX12_movesFrom_55 hS (by omega) (by omega) (by rw [min_out (d := d) (by omega) (by rw [← hn]; assumption) (by rw [← hn]; assumption)])
    · refine li_aload_n hC hl 0 rfl dX12_movesFrom_19 ?_
      refine li_iload_n hC hl 3 rfl dX12_movesFrom_20 ?_
      refine li_put hC hK hS ck_X12 0 rfl 19 (by decide) fl_X12_254 rfl rfl (v := .int (iI moved)) rfl rfl (Nat.le_of_ble_eq_true rfl) (ws' := RW g h0 ad (va_up F 19 moved) A) rfl dX12_movesFrom_21 (fun H locs hS => ?_)
      exact hQ _ _ _ _ _ _ _ dX12_movesFrom_24 hS (by omega) (by omega) (by rw [min_leaf (ok := okM (A 1) wide comes) (d := d) (by omega) hmv (by omega)])
  · exact hQ _ _ _ _ _ _ _ dX12_movesFrom_8 hS (by omega) (by omega) (by rw [min_cut hmv (by omega)]; rfl)
set_option maxHeartbeats 4000000 in
set_option maxRecDepth 100000 in
theorem c_X12_moved (l : Launch) (g : GG) (h0 : Nat) (ad : Nat → Nat) (F : Nat → Int) (A : Nat → Nat → Int) (S : Nat → Int) (hSA : A 1 = S) (n : Int) (h1 : rng n) (hI : InvD S) (hH : InvH S) (sz : Nat) : MwrI l g yX12_moved cX12_moved 2 10 0 0 [.ref h0, .int (iI n)] sz (RW g h0 ad F A) (fun v w => v = iI (movedR S n) ∧ ∃ F2 A2, KeepR S F F2 A A2 ∧ w = RW g h0 ad F2 A2) := by
  subst hSA
  refine wr_startI (own := RX12) (by decide) rfl (Nat.le_of_ble_eq_true rfl) ?_
  intro Pg Ev s Mi args below Mt Cd ls Q Aw hC hK hS hnm hl hQ
  have hD0 := hI.1
  have hH0 := hH.1
  have hl : lv_has ls 2 [(0, .ref h0), (1, .int (iI n))] := hl
  obtain ⟨H, hH⟩ : ∃ H, H = s.heap := ⟨_, rfl⟩
  obtain ⟨locs, hlo⟩ : ∃ locs : List Loc, locs = [] := ⟨_, rfl⟩
  have hS : St g Aw s.heap H locs (RW g h0 ad F A) := by rw [hH, hlo]; exact hS
  have goal : W Pg l Ev (rmC 10 0 0) s Mi args below Mt Cd H locs 0 0 Q (F0 Mi 0 ls []) := ?goal
  · rw [hH, hlo] at goal; exact goal
  clear hH hlo
  refine li_aload_n hC hl 0 rfl dX12_moved_0 ?_
  refine li_iload_n hC hl 1 rfl dX12_moved_1 ?_
  refine ro_callVi hC (c_X12_isName l g h0 (A 1) n h1 hI) mk_X12_isName ml_X12_189 (rr (by decide)) ⟨Nat.le_of_ble_eq_true rfl, Nat.le_of_ble_eq_true rfl⟩ hK.1 (hS.ro hK) (RW_pic (F := F) (A := A) hS) (li_recv hK.1 ck_X12 (hS.1 0 _ rfl)) rfl hl.1 rfl (Nat.le_of_ble_eq_true rfl) dX12_moved_2 ?_
  refine li_ifne_b (tgt := 10) hC (by decide) dX12_moved_5 (fun c1 => ?_) (fun c1 => ?_)
  · refine li_aload_n hC hl 0 rfl dX12_moved_10 ?_
    refine li_get hC hK.1 ck_X12 (hS.1 0 _ rfl) 1 (by decide) fl_X12_9 rfl (v := .ref (ad 1)) rfl dX12_moved_11 ?_
    refine li_bipush hC (z := 42) rfl dX12_moved_14 ?_
    refine li_iload_n hC hl 1 rfl dX12_moved_16 ?_
    refine li_iadd hC dX12_moved_17 ?_
    refine li_iald (f := (A 1)) hC hK.1 (hS.1 1 _ rfl) ⟨by omega, by omega⟩ (by decide) dX12_moved_18 ?_
    have q2 := hI.2 n (by omega) (by omega)
    refine li_iconst hC dX12_moved_19 ?_
    refine li_icmp_eq (tgt := 26) hC (by decide) (rg (by omega) (by omega)) (rg (by decide) (by decide)) dX12_moved_20 (fun c3 => ?_) (fun c3 => ?_)
    · refine li_aload_n hC hl 0 rfl dX12_moved_26 ?_
      refine li_aload_n hC hl 0 rfl dX12_moved_27 ?_
      refine ro_callVi hC (c_X12_wideNow l g h0 (A 1) hH) mk_X12_wideNow ml_X12_164 (rr (by decide)) ⟨Nat.le_of_ble_eq_true rfl, Nat.le_of_ble_eq_true rfl⟩ hK.1 (hS.ro hK) (RW_pic (F := F) (A := A) hS) (li_recv hK.1 ck_X12 (hS.1 0 _ rfl)) rfl hl.1 rfl (Nat.le_of_ble_eq_true rfl) dX12_moved_28 ?_
      have q4 := wideS_rng (A 1)
      refine wr_callVv hC (c_X12_looksForFits l g h0 ad F A (A 1) rfl (wideS (A 1)) (by omega) hI _) mk_X12_looksForFits ml_X12_217 (rr (by decide)) ⟨by simp only [rmC]; omega, by simp only [rmC]; omega⟩ hK hS (li_recv hK.1 ck_X12 (hS.1 0 _ rfl)) rfl hl.1 rfl (Nat.le_of_ble_eq_true rfl) dX12_moved_31 (fun w H locs hp hS => ?_)
      obtain ⟨u5, hft6, rfl⟩ := hp
      refine li_aload_n hC hl 0 rfl dX12_moved_34 ?_
      refine wr_callVv hC (c_X12_looksForClashes l g h0 ad F (va_up A 11 u5) (A 1) rfl hI _) mk_X12_looksForClashes ml_X12_223 (rr (by decide)) ⟨by simp only [rmC]; omega, by simp only [rmC]; omega⟩ hK hS (li_recv hK.1 ck_X12 (hS.1 0 _ rfl)) rfl hl.1 rfl (Nat.le_of_ble_eq_true rfl) dX12_moved_35 (fun w H locs hp hS => ?_)
      obtain ⟨u7, hcl8, rfl⟩ := hp
      refine li_aload_n hC hl 0 rfl dX12_moved_38 ?_
      refine li_bipush hC (z := 99) rfl dX12_moved_39 ?_
      refine li_put hC hK hS ck_X12 0 rfl 19 (by decide) fl_X12_254 rfl rfl (v := .int (iI 99)) rfl rfl (Nat.le_of_ble_eq_true rfl) (ws' := RW g h0 ad (va_up F 19 99) (va_up (va_up A 11 u5) 13 u7)) rfl dX12_moved_41 (fun H locs hS => ?_)
      refine li_aload_n hC hl 0 rfl dX12_moved_44 ?_
      refine li_iconst hC dX12_moved_45 ?_
      refine li_iconst hC dX12_moved_46 ?_
      refine li_iconst hC dX12_moved_47 ?_
      refine li_iload_n hC hl 1 rfl dX12_moved_48 ?_
      refine wr_callVv hC (c_X12_movesFrom l g (((A 1) 0).toNat) h0 ad (va_up F 19 99) (va_up (va_up A 11 u5) 13 u7) (A 1) rfl 0 0 0 n 99 rfl ([]) (wideS (A 1)) u5 u7 rfl rfl (by show ((0 : Nat) : Int) + _ = _; omega) rfl use_nil rfl okL_nil hft6 hcl8 (by omega) (by omega) hI _) mk_X12_movesFrom ml_X12_257 (rr (by omega)) ⟨by simp only [rmC]; omega, by simp only [rmC]; omega⟩ hK hS (li_recv hK.1 ck_X12 (hS.1 0 _ rfl)) rfl hl.1 rfl (Nat.le_of_ble_eq_true rfl) dX12_moved_49 (fun w H locs hp hS => ?_)
      subst hp
      have q9 := minC_rng (S := (A 1)) (name := n) (cmp (okM (A 1) (wideS (A 1)) n) ((A 1) 0).toNat []) (m := 99) (by omega)
      refine li_aload_n hC hl 0 rfl dX12_moved_52 ?_
      refine li_get hC hK.1 ck_X12 (hS.1 0 _ rfl) 19 (by decide) fl_X12_254 rfl (v := .int (iI (minL (costL (A 1) n) (cmp (okM (A 1) (wideS (A 1)) n) ((A 1) 0).toNat []) 99))) rfl dX12_moved_53 ?_
      refine li_bipush hC (z := 99) rfl dX12_moved_56 ?_
      refine li_icmp_ne (tgt := 66) hC (by decide) (rg (by omega) (by omega)) (rg (by decide) (by decide)) dX12_moved_58 (fun c10 => ?_) (fun c10 => ?_)
      · refine li_aload_n hC hl 0 rfl dX12_moved_66 ?_
        refine li_get hC hK.1 ck_X12 (hS.1 0 _ rfl) 19 (by decide) fl_X12_254 rfl (v := .int (iI (minL (costL (A 1) n) (cmp (okM (A 1) (wideS (A 1)) n) ((A 1) 0).toNat []) 99))) rfl dX12_moved_67 ?_
        exact hQ _ _ _ _ _ _ _ _ dX12_moved_70 hS (by omega) (by omega) (⟨iI_inj (by unfold movedR; first | (rw [iteP_f (by omega)]; done) | (rw [iteP_t (by omega), iteP_f (by omega)]; done) | (rw [iteP_t (by omega), iteP_t (by omega)]; first | (rw [iteP_t (by assumption)]; done) | (rw [iteP_f (by assumption)]; done))), ⟨(va_up F 19 (minL (costL (A 1) n) (cmp (okM (A 1) (wideS (A 1)) n) ((A 1) 0).toNat []) 99)), (va_up (va_up A 11 u5) 13 u7), ⟨⟨rfl, rfl⟩, rfl, rfl, rfl⟩, rfl⟩⟩)
      · refine li_bipush hC (z := -5) rfl dX12_moved_61 ?_
        refine li_goto (tgt := 70) hC (by decide) dX12_moved_63 ?_
        exact hQ _ _ _ _ _ _ _ _ dX12_moved_70 hS (by omega) (by omega) (⟨iI_inj (by unfold movedR; first | (rw [iteP_f (by omega)]; done) | (rw [iteP_t (by omega), iteP_f (by omega)]; done) | (rw [iteP_t (by omega), iteP_t (by omega)]; first | (rw [iteP_t (by assumption)]; done) | (rw [iteP_f (by assumption)]; done))), ⟨(va_up F 19 (minL (costL (A 1) n) (cmp (okM (A 1) (wideS (A 1)) n) ((A 1) 0).toNat []) 99)), (va_up (va_up A 11 u5) 13 u7), ⟨⟨rfl, rfl⟩, rfl, rfl, rfl⟩, rfl⟩⟩)
    · refine li_bipush hC (z := -5) rfl dX12_moved_23 ?_
      exact hQ _ _ _ _ _ _ _ _ dX12_moved_25 hS (by omega) (by omega) (⟨iI_inj (by unfold movedR; first | (rw [iteP_f (by omega)]; done) | (rw [iteP_t (by omega), iteP_f (by omega)]; done) | (rw [iteP_t (by omega), iteP_t (by omega)]; first | (rw [iteP_t (by assumption)]; done) | (rw [iteP_f (by assumption)]; done))), ⟨F, A, ⟨⟨rfl, rfl⟩, rfl, rfl, rfl⟩, rfl⟩⟩)
  · refine li_iconst hC dX12_moved_8 ?_
    exact hQ _ _ _ _ _ _ _ _ dX12_moved_9 hS (by omega) (by omega) (⟨iI_inj (by unfold movedR; first | (rw [iteP_f (by omega)]; done) | (rw [iteP_t (by omega), iteP_f (by omega)]; done) | (rw [iteP_t (by omega), iteP_t (by omega)]; first | (rw [iteP_t (by assumption)]; done) | (rw [iteP_f (by assumption)]; done))), ⟨F, A, ⟨⟨rfl, rfl⟩, rfl, rfl, rfl⟩, rfl⟩⟩)
