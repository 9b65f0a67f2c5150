abbrev TT : Type := Int × (Nat → Int)
def ranT (t : TT) (x : Int) : TT := (t.1 + 1, if t.1 < 20 then va_up t.2 t.1.toNat x else t.2)
def liesT (kd : Int) (t : TT) : TT := if kd = 1 ∨ kd = 4 then ranT (ranT t 11) 1 else if kd = 5 then ranT (ranT t 51) 1 else ranT t 1
def liesV (kd nu x : Int) : Int := if kd = 1 ∨ kd = 4 then x * 3 + nu else if kd = 5 then ixor (x + nu) nu else x + nu
def pReadsT (kd : Int) (t : TT) : TT := liesT kd (ranT t 2)
def readsT (kd : Int) (t : TT) : TT := if kd = 2 ∨ kd = 5 then pReadsT kd (ranT t 21) else if kd = 6 then pReadsT kd (ranT t 61) else pReadsT kd t
def readsV (kd nu tv x : Int) : Int := if kd = 2 ∨ kd = 5 then -(liesV kd nu x - tv) else if kd = 6 then liesV kd nu x - tv + tv else liesV kd nu x - tv
def pTellsT (kd : Int) (t : TT) : TT := readsT kd (ranT t 3)
def tellsT (kd : Int) (t : TT) : TT := if kd = 3 ∨ kd = 6 then pTellsT kd (ranT t 31) else if kd = 4 then liesT kd (pTellsT kd (ranT t 41)) else pTellsT kd t
def tellsV (kd nu tv x : Int) : Int := if kd = 3 ∨ kd = 6 then ixor (readsV kd nu tv x * 2) 7 else if kd = 4 then readsV kd nu tv (x - 1) * 2 + liesV kd nu 2 else readsV kd nu tv x * 2
theorem ranT_1 (t : TT) (x : Int) : (ranT t x).1 = t.1 + 1 := rfl
theorem liesT_1 (kd : Int) (t : TT) : t.1 ≤ (liesT kd t).1 ∧ (liesT kd t).1 ≤ t.1 + 2 := by
  unfold liesT
  split
  · simp only [ranT_1]; omega
  · split <;> simp only [ranT_1] <;> omega
theorem pReadsT_1 (kd : Int) (t : TT) : t.1 ≤ (pReadsT kd t).1 ∧ (pReadsT kd t).1 ≤ t.1 + 3 := by
  have h := liesT_1 kd (ranT t 2)
  rw [ranT_1] at h
  unfold pReadsT
  omega
theorem readsT_1 (kd : Int) (t : TT) : t.1 ≤ (readsT kd t).1 ∧ (readsT kd t).1 ≤ t.1 + 4 := by
  unfold readsT
  split
  · have h := pReadsT_1 kd (ranT t 21); rw [ranT_1] at h; omega
  · split
    · have h := pReadsT_1 kd (ranT t 61); rw [ranT_1] at h; omega
    · have h := pReadsT_1 kd t; omega
theorem pTellsT_1 (kd : Int) (t : TT) : t.1 ≤ (pTellsT kd t).1 ∧ (pTellsT kd t).1 ≤ t.1 + 5 := by
  have h := readsT_1 kd (ranT t 3)
  rw [ranT_1] at h
  unfold pTellsT
  omega
theorem tellsT_1 (kd : Int) (t : TT) : t.1 ≤ (tellsT kd t).1 ∧ (tellsT kd t).1 ≤ t.1 + 8 := by
  unfold tellsT
  split
  · have h := pTellsT_1 kd (ranT t 31); rw [ranT_1] at h; omega
  · split
    · have h := pTellsT_1 kd (ranT t 41); have h2 := liesT_1 kd (pTellsT kd (ranT t 41)); rw [ranT_1] at h; omega
    · have h := pTellsT_1 kd t; omega
theorem under_1 {kd : Int} : underS kd 1 ↔ (kd = 1 ∨ kd = 4) := by unfold underS; omega
theorem under_2 {kd : Int} : underS kd 2 ↔ (kd = 2 ∨ kd = 5) := by unfold underS; omega
theorem under_3 {kd : Int} : underS kd 3 ↔ (kd = 3 ∨ kd = 6) := by unfold underS; omega
noncomputable def actT (S : Nat → Int) (n act : Int) (b : Nat → Int) : TT := iteP ((0 ≤ n ∧ n < S 0) ∧ (0 ≤ act ∧ act ≤ 2)) (if act = 0 then liesT (S (7 + n).toNat) (0, b) else if act = 1 then readsT (S (7 + n).toNat) (0, b) else tellsT (S (7 + n).toNat) (0, b)) (0, b)
noncomputable def actV (S : Nat → Int) (n act x : Int) : Int := iteP ((0 ≤ n ∧ n < S 0) ∧ (0 ≤ act ∧ act ≤ 2)) (if act = 0 then liesV (S (7 + n).toNat) n x else if act = 1 then readsV (S (7 + n).toNat) n (S (14 + n).toNat) x else tellsV (S (7 + n).toNat) n (S (14 + n).toNat) x) 0
noncomputable def traceV (t : TT) (i : Int) : Int := iteP (0 ≤ i ∧ i < t.1 ∧ i < 20) (t.2 i.toNat) (-1)
noncomputable def countV (S : Nat → Int) (r what : Int) : Int := if what = 6 then r else iteP (0 ≤ what ∧ what ≤ 5) (S what.toNat) (-1)
set_option maxHeartbeats 4000000 in
set_option maxRecDepth 100000 in
theorem c_X12_done (l : Launch) (g : GG) (h0 : Nat) (ad : Nat → Nat) (F : Nat → Int) (A : Nat → Nat → Int) (S : Nat → Int) (hSA : A 1 = S) (what : Int) (h1 : rng what) (hI : InvD S) (hL : InvL S) (hH : InvH S) (hC0 : InvC S) (sz : Nat) : MwrI l g yX12_done cX12_done 5 8 0 0 [.ref h0, .int (iI what)] sz (RW g h0 ad F A) (fun v w => v = iI (doneS S what) ∧ ∃ f9 f10 f22, w = RW g h0 ad F (va_up (va_up (va_up A 9 f9) 10 f10) 22 f22)) := by
  subst hSA
  refine wr_startI (own := RX12) (by decide) rfl (Nat.le_of_ble_eq_true rfl) ?_
  intro Pg Ev s Mi args below Mt Cd ls Q Aw hC hK hS hnm hl hQ
  have hD0 := hI.1
  have hH0 := hH.1
  have hL3 := hL.2.1
  have hl : lv_has ls 5 [(0, .ref h0), (1, .int (iI what))] := hl
  obtain ⟨H, hH⟩ : ∃ H, H = s.heap := ⟨_, rfl⟩
  obtain ⟨locs, hlo⟩ : ∃ locs : List Loc, locs = [] := ⟨_, rfl⟩
  have hS : St g Aw s.heap H locs (RW g h0 ad F A) := by rw [hH, hlo]; exact hS
  have goal : W Pg l Ev (rmC 8 0 0) s Mi args below Mt Cd H locs 0 0 Q (F0 Mi 0 ls []) := ?goal
  · rw [hH, hlo] at goal; exact goal
  clear hH hlo
  refine li_iload_n hC hl 1 rfl dX12_done_0 ?_
  refine li_iconst hC dX12_done_1 ?_
  refine li_iconst hC dX12_done_2 ?_
  refine ro_callSi hC (c_X12_in l g what 0 1 h1 (rg (by decide) (by decide)) (rg (by decide) (by decide))) mk_X12_in ml_X12_56 (rr (by decide)) ⟨Nat.le_of_ble_eq_true rfl, Nat.le_of_ble_eq_true rfl⟩ hK.1 (hS.ro hK) trivial rfl hl.1 rfl (Nat.le_of_ble_eq_true rfl) dX12_done_3 ?_
  refine li_ifne_b (tgt := 13) hC (by decide) dX12_done_6 (fun c1 => ?_) (fun c1 => ?_)
  · refine li_iconst hC dX12_done_13 ?_
    refine li_istore_n hC (lv' := [(2, .int (iI 0)), (0, .ref h0), (1, .int (iI what))]) hl (by decide) rfl dX12_done_14 (fun ls hl => ?_)
    have L15_2 : ∀ (fuel : Nat) (j : Int) (wr : Nat → Int) (ls : Array Slot) (H : Heap) (locs : List Loc), St g Aw s.heap H locs (RW g h0 ad F (va_up A 22 wr)) → lv_has ls 5 [(0, .ref h0), (1, .int (iI what)), (2, .int (iI j))] → (0 ≤ j ∧ j ≤ 7) → (∀ i : Nat, (i : Int) < j → wr i = (A 1) (42 + (i : Int)).toNat) → (((7 : Int) - j).toNat) < fuel → W Pg l Ev (rmC 8 0 0) s Mi args below Mt Cd H locs 0 0 Q (F0 Mi 15 ls []) := by
      intro fuel
      induction fuel with
      | zero => intro j wr ls H locs hS hl hj hw hm; exact absurd hm (Nat.not_lt_zero _)
      | succ fuel ih =>
        intro j wr ls H locs hS hl hj hw hm
        refine li_iload_n hC hl 2 rfl dX12_done_15 ?_
        refine li_bipush hC (z := 7) rfl dX12_done_16 ?_
        refine li_icmp_ge (tgt := 42) hC (by decide) (rg (by omega) (by omega)) (rg (by decide) (by decide)) dX12_done_18 (fun c3 => ?_) (fun c3 => ?_)
        · refine li_iconst hC dX12_done_42 ?_
          refine li_istore_n hC (lv' := [(2, .int (iI 0)), (0, .ref h0), (1, .int (iI what))]) hl (by decide) rfl dX12_done_43 (fun ls hl => ?_)
          have L44_4 : ∀ (fuel : Nat) (k : Int) (f : Nat → Int) (ls : Array Slot) (H : Heap) (locs : List Loc), St g Aw s.heap H locs (RW g h0 ad F (va_up (va_up A 1 f) 22 wr)) → lv_has ls 5 [(0, .ref h0), (1, .int (iI what)), (2, .int (iI k))] → (0 ≤ k ∧ k ≤ (A 1) 3) → (f = (planS (A 1) k.toNat)) → (((A 1) 3 - k).toNat) < fuel → W Pg l Ev (rmC 8 0 0) s Mi args below Mt Cd H locs 0 0 Q (F0 Mi 44 ls []) := by
            intro fuel
            induction fuel with
            | zero => intro k f ls H locs hS hl hk hf hm; exact absurd hm (Nat.not_lt_zero _)
            | succ fuel ih =>
              intro k f ls H locs hS hl hk hf hm
              have he : ∀ j : Nat, (j < 42 ∨ 49 ≤ j) → f j = (A 1) j := by rw [hf]; exact planS_same hI hL k.toNat (by omega)
              have hIf : InvD f := by rw [hf]; exact planS_I hI hL k.toNat (by omega)
              have hHf := InvH_of hH (T := f) (fun j hj => he j (by omega))
              have hCf := InvC_of hH hC0 (T := f) (fun j hj => he j (by omega))
              refine li_iload_n hC hl 2 rfl dX12_done_44 ?_
              refine li_aload_n hC hl 0 rfl dX12_done_45 ?_
              refine li_get hC hK.1 ck_X12 (hS.1 0 _ rfl) 1 (by decide) fl_X12_9 rfl (v := .ref (ad 1)) rfl dX12_done_46 ?_
              refine li_iconst hC dX12_done_49 ?_
              refine li_iald_k (k := 3) (f := f) hC hK.1 (hS.1 1 _ rfl) rfl (by decide) (by decide) dX12_done_50 ?_
              rw [he 3 (by omega)]
              refine li_icmp_ge (tgt := 120) hC (by decide) (rg (by omega) (by omega)) (rg (by omega) (by omega)) dX12_done_51 (fun c5 => ?_) (fun c5 => ?_)
              · have hkk : k = (A 1) 3 := by omega
                rw [hkk] at hf
                refine li_iload_n hC hl 1 rfl dX12_done_120 ?_
                refine li_if_ne (tgt := 131) hC (by decide) h1 dX12_done_121 (fun c6 => ?_) (fun c6 => ?_)
                · refine li_aload_n hC hl 0 rfl dX12_done_131 ?_
                  refine wr_callVi hC (c_X12_scoreNow l g h0 ad F (va_up (va_up A 1 f) 22 wr) f rfl hIf hHf hCf _) mk_X12_scoreNow ml_X12_214 (rr (by decide)) ⟨by simp only [rmC]; omega, by simp only [rmC]; omega⟩ hK hS (li_recv hK.1 ck_X12 (hS.1 0 _ rfl)) rfl hl.1 rfl (Nat.le_of_ble_eq_true rfl) dX12_done_132 (fun v w H locs hp hS => ?_)
                  obtain ⟨rfl, u7, u8, rfl⟩ := hp
                  have q9 := scoreS_rng hIf hCf
                  refine li_istore_n hC (lv' := [(2, .int (iI (scoreS f))), (0, .ref h0), (1, .int (iI what))]) hl (by decide) rfl dX12_done_135 (fun ls hl => ?_)
                  refine li_iconst hC dX12_done_136 ?_
                  refine li_istore_n hC (lv' := [(3, .int (iI 0)), (2, .int (iI (scoreS f))), (0, .ref h0), (1, .int (iI what))]) hl (by decide) rfl dX12_done_137 (fun ls hl => ?_)
                  have L138_10 : ∀ (fuel : Nat) (j : Int) (f2 : Nat → Int) (ls : Array Slot) (H : Heap) (locs : List Loc), St g Aw s.heap H locs (RW g h0 ad F (va_up (va_up (va_up (va_up A 1 f2) 9 u7) 10 u8) 22 wr)) → lv_has ls 5 [(2, .int (iI (scoreS f))), (0, .ref h0), (1, .int (iI what)), (3, .int (iI j))] → (0 ≤ j ∧ j ≤ 7) → (∀ i : Nat, f2 i = if 42 + j ≤ (i : Int) ∧ i < 49 then f i else (A 1) i) → (((7 : Int) - j).toNat) < fuel → W Pg l Ev (rmC 8 0 0) s Mi args below Mt Cd H locs 0 0 Q (F0 Mi 138 ls []) := by
                    intro fuel
                    induction fuel with
                    | zero => intro j f2 ls H locs hS hl hj2 hf2 hm; exact absurd hm (Nat.not_lt_zero _)
                    | succ fuel ih =>
                      intro j f2 ls H locs hS hl hj2 hf2 hm
                      refine li_iload_n hC hl 3 rfl dX12_done_138 ?_
                      refine li_bipush hC (z := 7) rfl dX12_done_139 ?_
                      refine li_icmp_ge (tgt := 165) hC (by decide) (rg (by omega) (by omega)) (rg (by decide) (by decide)) dX12_done_141 (fun c11 => ?_) (fun c11 => ?_)
                      · have hf3 : f2 = (A 1) := by funext i; rw [hf2 i, if_neg (by omega)]
                        rw [hf3] at hS
                        refine li_iload_n hC hl 0 rfl dX12_done_165 ?_
                        exact hQ _ _ _ _ _ _ _ _ dX12_done_166 hS (by omega) (by omega) (by refine ⟨iI_inj (by unfold doneS; rw [iteP_t (by omega), ← hf]; first | (rw [if_pos (by omega)]; done) | (rw [if_neg (by omega)]; done)), u7, u8, wr, rfl⟩)
                      · refine li_aload_n hC hl 1 rfl dX12_done_144 ?_
                        refine li_get hC hK.1 ck_X12 (hS.1 0 _ rfl) 1 (by decide) fl_X12_9 rfl (v := .ref (ad 1)) rfl dX12_done_145 ?_
                        refine li_bipush hC (z := 42) rfl dX12_done_148 ?_
                        refine li_iload_n hC hl 3 rfl dX12_done_150 ?_
                        refine li_iadd hC dX12_done_151 ?_
                        refine li_aload_n hC hl 1 rfl dX12_done_152 ?_
                        refine li_get hC hK.1 ck_X12 (hS.1 0 _ rfl) 22 (by decide) fl_X12_46 rfl (v := .ref (ad 22)) rfl dX12_done_153 ?_
                        refine li_iload_n hC hl 3 rfl dX12_done_156 ?_
                        refine li_iald (f := wr) hC hK.1 (hS.1 12 _ rfl) ⟨by omega, by omega⟩ (by decide) dX12_done_157 ?_
                        refine li_iast hC hK hS 1 (n := 939) (f := f2) (z := 42 + j) rfl ⟨by omega, by omega⟩ (by decide) (ws' := RW g h0 ad F (va_up (va_up (va_up (va_up A 1 (va_up f2 ((42 + j).toNat) (wr j.toNat))) 9 u7) 10 u8) 22 wr)) rfl dX12_done_158 (fun H locs hS => ?_)
                        refine li_iinc hC (lv' := [(3, .int (iI (j + 1))), (2, .int (iI (scoreS f))), (0, .ref h0), (1, .int (iI what))]) hl 3 rfl (by decide) rfl dX12_done_159 (fun ls hl => ?_)
                        refine li_goto (tgt := 138) hC (by decide) dX12_done_162 ?_
                        exact ih (j + 1) (va_up f2 ((42 + j).toNat) (wr j.toNat)) _ _ _ hS (lv_sub hl [1, 2, 3, 0] rfl) (by omega) (by intro i; by_cases e9 : i = (42 + j).toNat; { rw [e9, up_same, if_neg (by omega), hw j.toNat (by omega), show ((j.toNat : Nat) : Int) = j by omega] }; { rw [up_ne _ _ e9, hf2 i]; (repeat' split) <;> first | rfl | omega }) (by omega)
                  exact L138_10 ((((7 : Int) - 0).toNat) + 1) 0 f _ _ _ hS (lv_sub hl [1, 2, 3, 0] rfl) (by omega) (by intro i; split; { rfl }; { exact he i (by omega) }) (by omega)
                · refine li_aload_n hC hl 0 rfl dX12_done_124 ?_
                  refine ro_callVi hC (c_X12_manyLaid l g h0 f hIf) mk_X12_manyLaid ml_X12_211 (rr (by decide)) ⟨Nat.le_of_ble_eq_true rfl, Nat.le_of_ble_eq_true rfl⟩ hK.1 (hS.ro hK) (RW_pic (F := F) (A := va_up (va_up A 1 f) 22 wr) hS) (li_recv hK.1 ck_X12 (hS.1 0 _ rfl)) rfl hl.1 rfl (Nat.le_of_ble_eq_true rfl) dX12_done_125 ?_
                  have q12 := laidS_rng hI
                  refine li_goto (tgt := 135) hC (by decide) dX12_done_128 ?_
                  refine li_istore_n hC (lv' := [(2, .int (iI (laidS f))), (0, .ref h0), (1, .int (iI what))]) hl (by decide) rfl dX12_done_135 (fun ls hl => ?_)
                  refine li_iconst hC dX12_done_136 ?_
                  refine li_istore_n hC (lv' := [(3, .int (iI 0)), (2, .int (iI (laidS f))), (0, .ref h0), (1, .int (iI what))]) hl (by decide) rfl dX12_done_137 (fun ls hl => ?_)
                  have L138_13 : ∀ (fuel : Nat) (j : Int) (f2 : Nat → Int) (ls : Array Slot) (H : Heap) (locs : List Loc), St g Aw s.heap H locs (RW g h0 ad F (va_up (va_up A 1 f2) 22 wr)) → lv_has ls 5 [(2, .int (iI (laidS f))), (0, .ref h0), (1, .int (iI what)), (3, .int (iI j))] → (0 ≤ j ∧ j ≤ 7) → (∀ i : Nat, f2 i = if 42 + j ≤ (i : Int) ∧ i < 49 then f i else (A 1) i) → (((7 : Int) - j).toNat) < fuel → W Pg l Ev (rmC 8 0 0) s Mi args below Mt Cd H locs 0 0 Q (F0 Mi 138 ls []) := by
                    intro fuel
                    induction fuel with
                    | zero => intro j f2 ls H locs hS hl hj2 hf2 hm; exact absurd hm (Nat.not_lt_zero _)
                    | succ fuel ih =>
                      intro j f2 ls H locs hS hl hj2 hf2 hm
                      refine li_iload_n hC hl 3 rfl dX12_done_138 ?_
                      refine li_bipush hC (z := 7) rfl dX12_done_139 ?_
                      refine li_icmp_ge (tgt := 165) hC (by decide) (rg (by omega) (by omega)) (rg (by decide) (by decide)) dX12_done_141 (fun c14 => ?_) (fun c14 => ?_)
                      · have hf3 : f2 = (A 1) := by funext i; rw [hf2 i, if_neg (by omega)]
                        rw [hf3] at hS
                        refine li_iload_n hC hl 0 rfl dX12_done_165 ?_
                        exact hQ _ _ _ _ _ _ _ _ dX12_done_166 hS (by omega) (by omega) (by refine ⟨iI_inj (by unfold doneS; rw [iteP_t (by omega), ← hf]; first | (rw [if_pos (by omega)]; done) | (rw [if_neg (by omega)]; done)), A 9, A 10, wr, rfl⟩)
                      · refine li_aload_n hC hl 1 rfl dX12_done_144 ?_
                        refine li_get hC hK.1 ck_X12 (hS.1 0 _ rfl) 1 (by decide) fl_X12_9 rfl (v := .ref (ad 1)) rfl dX12_done_145 ?_
                        refine li_bipush hC (z := 42) rfl dX12_done_148 ?_
                        refine li_iload_n hC hl 3 rfl dX12_done_150 ?_
                        refine li_iadd hC dX12_done_151 ?_
                        refine li_aload_n hC hl 1 rfl dX12_done_152 ?_
                        refine li_get hC hK.1 ck_X12 (hS.1 0 _ rfl) 22 (by decide) fl_X12_46 rfl (v := .ref (ad 22)) rfl dX12_done_153 ?_
                        refine li_iload_n hC hl 3 rfl dX12_done_156 ?_
                        refine li_iald (f := wr) hC hK.1 (hS.1 12 _ rfl) ⟨by omega, by omega⟩ (by decide) dX12_done_157 ?_
                        refine li_iast hC hK hS 1 (n := 939) (f := f2) (z := 42 + j) rfl ⟨by omega, by omega⟩ (by decide) (ws' := RW g h0 ad F (va_up (va_up A 1 (va_up f2 ((42 + j).toNat) (wr j.toNat))) 22 wr)) rfl dX12_done_158 (fun H locs hS => ?_)
                        refine li_iinc hC (lv' := [(3, .int (iI (j + 1))), (2, .int (iI (laidS f))), (0, .ref h0), (1, .int (iI what))]) hl 3 rfl (by decide) rfl dX12_done_159 (fun ls hl => ?_)
                        refine li_goto (tgt := 138) hC (by decide) dX12_done_162 ?_
                        exact ih (j + 1) (va_up f2 ((42 + j).toNat) (wr j.toNat)) _ _ _ hS (lv_sub hl [1, 2, 3, 0] rfl) (by omega) (by intro i; by_cases e9 : i = (42 + j).toNat; { rw [e9, up_same, if_neg (by omega), hw j.toNat (by omega), show ((j.toNat : Nat) : Int) = j by omega] }; { rw [up_ne _ _ e9, hf2 i]; (repeat' split) <;> first | rfl | omega }) (by omega)
                  exact L138_13 ((((7 : Int) - 0).toNat) + 1) 0 f _ _ _ hS (lv_sub hl [1, 2, 3, 0] rfl) (by omega) (by intro i; split; { rfl }; { exact he i (by omega) }) (by omega)
              · have hL5 := hL.2.2.2.2.1 k (by omega) (by omega)
                have he0 := he 0 (by omega)
                refine li_aload_n hC hl 0 rfl dX12_done_54 ?_
                refine li_get hC hK.1 ck_X12 (hS.1 0 _ rfl) 1 (by decide) fl_X12_9 rfl (v := .ref (ad 1)) rfl dX12_done_55 ?_
                refine li_bipush hC (z := 92) rfl dX12_done_58 ?_
                refine li_iload_n hC hl 2 rfl dX12_done_60 ?_
                refine li_iadd hC dX12_done_61 ?_
                refine li_iald (f := f) hC hK.1 (hS.1 1 _ rfl) ⟨by omega, by omega⟩ (by decide) dX12_done_62 ?_
                rw [he ((92 + k).toNat) (by omega)]
                refine li_istore_n hC (lv' := [(3, .int (iI ((A 1) ((92 + k).toNat)))), (0, .ref h0), (1, .int (iI what)), (2, .int (iI k))]) hl (by decide) rfl dX12_done_63 (fun ls hl => ?_)
                refine li_aload_n hC hl 1 rfl dX12_done_64 ?_
                refine li_get hC hK.1 ck_X12 (hS.1 0 _ rfl) 1 (by decide) fl_X12_9 rfl (v := .ref (ad 1)) rfl dX12_done_65 ?_
                refine li_bipush hC (z := 100) rfl dX12_done_68 ?_
                refine li_iload_n hC hl 3 rfl dX12_done_70 ?_
                refine li_iadd hC dX12_done_71 ?_
                refine li_iald (f := f) hC hK.1 (hS.1 1 _ rfl) ⟨by omega, by omega⟩ (by decide) dX12_done_72 ?_
                rw [he ((100 + k).toNat) (by omega)]
                refine li_istore hC (lv' := [(4, .int (iI ((A 1) ((100 + k).toNat)))), (3, .int (iI ((A 1) ((92 + k).toNat)))), (0, .ref h0), (1, .int (iI what)), (2, .int (iI k))]) hl (by decide) rfl dX12_done_73 (fun ls hl => ?_)
                refine li_aload_n hC hl 2 rfl dX12_done_75 ?_
                refine li_get hC hK.1 ck_X12 (hS.1 0 _ rfl) 1 (by decide) fl_X12_9 rfl (v := .ref (ad 1)) rfl dX12_done_76 ?_
                refine li_bipush hC (z := 42) rfl dX12_done_79 ?_
                refine li_iload_n hC hl 1 rfl dX12_done_81 ?_
                refine li_iadd hC dX12_done_82 ?_
                refine li_iload hC hl 0 rfl dX12_done_83 ?_
                refine li_iconst hC dX12_done_85 ?_
                refine li_icmp_eq (tgt := 99) hC (by decide) (rg (by omega) (by omega)) (rg (by decide) (by decide)) dX12_done_86 (fun c15 => ?_) (fun c15 => ?_)
                · refine li_iload hC hl 0 rfl dX12_done_99 ?_
                  refine li_goto (tgt := 113) hC (by decide) dX12_done_101 ?_
                  refine li_iast hC hK hS 1 (n := 939) (f := f) (z := 42 + ((A 1) ((92 + k).toNat))) rfl ⟨by omega, by omega⟩ (by decide) (ws' := RW g h0 ad F (va_up (va_up A 1 (va_up f ((42 + ((A 1) ((92 + k).toNat))).toNat) ((A 1) ((100 + k).toNat)))) 22 wr)) rfl dX12_done_113 (fun H locs hS => ?_)
                  refine li_iinc hC (lv' := [(2, .int (iI (k + 1))), (4, .int (iI ((A 1) ((100 + k).toNat)))), (3, .int (iI ((A 1) ((92 + k).toNat)))), (0, .ref h0), (1, .int (iI what))]) hl 4 rfl (by decide) rfl dX12_done_114 (fun ls hl => ?_)
                  refine li_goto (tgt := 44) hC (by decide) dX12_done_117 ?_
                  exact ih (k + 1) (va_up f ((42 + ((A 1) ((92 + k).toNat))).toNat) ((A 1) ((100 + k).toNat))) _ _ _ hS (lv_sub hl [3, 4, 0] rfl) (by omega) (by rw [show (k + 1).toNat = k.toNat + 1 by omega, planS, ← hf, show ((k.toNat : Nat) : Int) = k by omega]; rw [iteP_t (by first | exact Or.inl (by assumption) | exact Or.inr (by assumption))]) (by omega)
                · refine li_aload_n hC hl 2 rfl dX12_done_89 ?_
                  refine li_iload_n hC hl 1 rfl dX12_done_90 ?_
                  refine li_iload hC hl 0 rfl dX12_done_91 ?_
                  refine ro_callVi hC (c_X12_isFree l g h0 f ((A 1) ((92 + k).toNat)) ((A 1) ((100 + k).toNat)) (by omega) (by omega) hIf hHf) mk_X12_isFree ml_X12_186 (rr (by decide)) ⟨Nat.le_of_ble_eq_true rfl, Nat.le_of_ble_eq_true rfl⟩ hK.1 (hS.ro hK) (RW_pic (F := F) (A := va_up (va_up A 1 f) 22 wr) hS) (li_recv hK.1 ck_X12 (hS.1 0 _ rfl)) rfl hl.1 rfl (Nat.le_of_ble_eq_true rfl) dX12_done_93 ?_
                  refine li_ifeq_b (tgt := 104) hC (by decide) dX12_done_96 (fun c16 => ?_) (fun c16 => ?_)
                  · refine li_aload_n hC hl 2 rfl dX12_done_104 ?_
                    refine li_get hC hK.1 ck_X12 (hS.1 0 _ rfl) 1 (by decide) fl_X12_9 rfl (v := .ref (ad 1)) rfl dX12_done_105 ?_
                    refine li_bipush hC (z := 42) rfl dX12_done_108 ?_
                    refine li_iload_n hC hl 1 rfl dX12_done_110 ?_
                    refine li_iadd hC dX12_done_111 ?_
                    refine li_iald (f := f) hC hK.1 (hS.1 1 _ rfl) ⟨by omega, by omega⟩ (by decide) dX12_done_112 ?_
                    refine li_iast hC hK hS 1 (n := 939) (f := f) (z := 42 + ((A 1) ((92 + k).toNat))) rfl ⟨by omega, by omega⟩ (by decide) (ws' := RW g h0 ad F (va_up (va_up A 1 (va_up f ((42 + ((A 1) ((92 + k).toNat))).toNat) (f ((42 + ((A 1) ((92 + k).toNat))).toNat)))) 22 wr)) rfl dX12_done_113 (fun H locs hS => ?_)
                    refine li_iinc hC (lv' := [(2, .int (iI (k + 1))), (4, .int (iI ((A 1) ((100 + k).toNat)))), (3, .int (iI ((A 1) ((92 + k).toNat)))), (0, .ref h0), (1, .int (iI what))]) hl 4 rfl (by decide) rfl dX12_done_114 (fun ls hl => ?_)
                    refine li_goto (tgt := 44) hC (by decide) dX12_done_117 ?_
                    exact ih (k + 1) (va_up f ((42 + ((A 1) ((92 + k).toNat))).toNat) (f ((42 + ((A 1) ((92 + k).toNat))).toNat))) _ _ _ hS (lv_sub hl [3, 4, 0] rfl) (by omega) (by rw [show (k + 1).toNat = k.toNat + 1 by omega, planS, ← hf, show ((k.toNat : Nat) : Int) = k by omega]; rw [iteP_f (by intro h9; rcases h9 with h9 | h9 <;> contradiction)]) (by omega)
                  · refine li_iload hC hl 0 rfl dX12_done_99 ?_
                    refine li_goto (tgt := 113) hC (by decide) dX12_done_101 ?_
                    refine li_iast hC hK hS 1 (n := 939) (f := f) (z := 42 + ((A 1) ((92 + k).toNat))) rfl ⟨by omega, by omega⟩ (by decide) (ws' := RW g h0 ad F (va_up (va_up A 1 (va_up f ((42 + ((A 1) ((92 + k).toNat))).toNat) ((A 1) ((100 + k).toNat)))) 22 wr)) rfl dX12_done_113 (fun H locs hS => ?_)
                    refine li_iinc hC (lv' := [(2, .int (iI (k + 1))), (4, .int (iI ((A 1) ((100 + k).toNat)))), (3, .int (iI ((A 1) ((92 + k).toNat)))), (0, .ref h0), (1, .int (iI what))]) hl 4 rfl (by decide) rfl dX12_done_114 (fun ls hl => ?_)
                    refine li_goto (tgt := 44) hC (by decide) dX12_done_117 ?_
                    exact ih (k + 1) (va_up f ((42 + ((A 1) ((92 + k).toNat))).toNat) ((A 1) ((100 + k).toNat))) _ _ _ hS (lv_sub hl [3, 4, 0] rfl) (by omega) (by rw [show (k + 1).toNat = k.toNat + 1 by omega, planS, ← hf, show ((k.toNat : Nat) : Int) = k by omega]; rw [iteP_t (by first | exact Or.inl (by assumption) | exact Or.inr (by assumption))]) (by omega)
          exact L44_4 ((((A 1) 3 - 0).toNat) + 1) 0 (A 1) _ _ _ hS (lv_sub hl [1, 2, 0] rfl) (by omega) (by rfl) (by omega)
        · refine li_aload_n hC hl 0 rfl dX12_done_21 ?_
          refine li_get hC hK.1 ck_X12 (hS.1 0 _ rfl) 22 (by decide) fl_X12_46 rfl (v := .ref (ad 22)) rfl dX12_done_22 ?_
          refine li_iload_n hC hl 2 rfl dX12_done_25 ?_
          refine li_aload_n hC hl 0 rfl dX12_done_26 ?_
          refine li_get hC hK.1 ck_X12 (hS.1 0 _ rfl) 1 (by decide) fl_X12_9 rfl (v := .ref (ad 1)) rfl dX12_done_27 ?_
          refine li_bipush hC (z := 42) rfl dX12_done_30 ?_
          refine li_iload_n hC hl 2 rfl dX12_done_32 ?_
          refine li_iadd hC dX12_done_33 ?_
          refine li_iald (f := (A 1)) hC hK.1 (hS.1 1 _ rfl) ⟨by omega, by omega⟩ (by decide) dX12_done_34 ?_
          refine li_iast hC hK hS 12 (n := 7) (f := wr) (z := j) rfl ⟨by omega, by omega⟩ (by decide) (ws' := RW g h0 ad F (va_up A 22 (va_up wr j.toNat ((A 1) ((42 + j).toNat))))) rfl dX12_done_35 (fun H locs hS => ?_)
          refine li_iinc hC (lv' := [(2, .int (iI (j + 1))), (0, .ref h0), (1, .int (iI what))]) hl 2 rfl (by decide) rfl dX12_done_36 (fun ls hl => ?_)
          refine li_goto (tgt := 15) hC (by decide) dX12_done_39 ?_
          exact ih (j + 1) (va_up wr j.toNat ((A 1) ((42 + j).toNat))) _ _ _ hS (lv_sub hl [1, 2, 0] rfl) (by omega) (by intro i hi; by_cases e9 : i = j.toNat; { rw [e9, up_same, show ((j.toNat : Nat) : Int) = j by omega] }; { rw [up_ne _ _ e9]; exact hw i (by omega) }) (by omega)
    exact L15_2 ((((7 : Int) - 0).toNat) + 1) 0 (A 22) _ _ _ hS (lv_sub hl [1, 2, 0] rfl) (by omega) (by intro i hi; omega) (by omega)
  · refine li_sipush hC (z := -10001) rfl dX12_done_9 ?_
    exact hQ _ _ _ _ _ _ _ _ dX12_done_12 hS (by omega) (by omega) (by refine ⟨iI_inj (by unfold doneS; rw [iteP_f (by omega)]), A 9, A 10, A 22, rfl⟩)
set_option maxHeartbeats 4000000 in
set_option maxRecDepth 100000 in
theorem c_X12_ranBody (l : Launch) (g : GG) (h0 : Nat) (ad : Nat → Nat) (F : Nat → Int) (A : Nat → Nat → Int) (S : Nat → Int) (hSA : A 1 = S) (r : Int) (b : Nat → Int) (hr9 : F 24 = r) (hb9 : A 23 = b) (x : Int) (hr : 0 ≤ r ∧ r ≤ 1000) (sz : Nat) : MwrV l g yX12_ranBody cX12_ranBody 2 1 0 0 [.ref h0, .int (iI x)] sz (RW g h0 ad F A) (fun w => w = RW g h0 ad (va_up F 24 (ranT (r, b) x).1) (va_up A 23 (ranT (r, b) x).2)) := by
  subst hSA
  subst hr9 hb9
  refine wr_startV (own := RX12) (by decide) rfl (Nat.le_of_ble_eq_true rfl) ?_
  intro Pg Ev s Mi args below Mt Cd ls Q Aw hC hK hS hnm hl hQ
  have hl : lv_has ls 2 [(0, .ref h0), (1, .int (iI x))] := hl
  obtain ⟨H, hH⟩ : ∃ H, H = s.heap := ⟨_, rfl⟩
  obtain ⟨locs, hlo⟩ : ∃ locs : List Loc, locs = [] := ⟨_, rfl⟩
  have hS : St g Aw s.heap H locs (RW g h0 ad F A) := by rw [hH, hlo]; exact hS
  have goal : W Pg l Ev (rmC 1 0 0) s Mi args below Mt Cd H locs 0 0 Q (F0 Mi 0 ls []) := ?goal
  · rw [hH, hlo] at goal; exact goal
  clear hH hlo
  refine li_aload_n hC hl 0 rfl dX12_ranBody_0 ?_
  refine li_get hC hK.1 ck_X12 (hS.1 0 _ rfl) 24 (by decide) fl_X12_283 rfl (v := .int (iI (F 24))) rfl dX12_ranBody_1 ?_
  refine li_bipush hC (z := 20) rfl dX12_ranBody_4 ?_
  refine li_icmp_ge (tgt := 19) hC (by decide) (rg (by omega) (by omega)) (rg (by decide) (by decide)) dX12_ranBody_6 (fun c1 => ?_) (fun c1 => ?_)
  · refine li_aload_n hC hl 0 rfl dX12_ranBody_19 ?_
    refine li_dup hC rfl dX12_ranBody_20 ?_
    refine li_get hC hK.1 ck_X12 (hS.1 0 _ rfl) 24 (by decide) fl_X12_283 rfl (v := .int (iI (F 24))) rfl dX12_ranBody_21 ?_
    refine li_iconst hC dX12_ranBody_24 ?_
    refine li_iadd hC dX12_ranBody_25 ?_
    refine li_put hC hK hS ck_X12 0 rfl 24 (by decide) fl_X12_283 rfl rfl (v := .int (iI ((F 24) + 1))) rfl rfl (Nat.le_of_ble_eq_true rfl) (ws' := RW g h0 ad (va_up F 24 ((F 24) + 1)) A) rfl dX12_ranBody_26 (fun H locs hS => ?_)
    exact hQ _ _ _ _ _ _ _ dX12_ranBody_29 hS (by omega) (by omega) (by unfold ranT; first | (rw [if_pos (by omega)]; done) | (rw [if_neg (by omega)]; rfl))
  · refine li_aload_n hC hl 0 rfl dX12_ranBody_9 ?_
    refine li_get hC hK.1 ck_X12 (hS.1 0 _ rfl) 23 (by decide) fl_X12_49 rfl (v := .ref (ad 23)) rfl dX12_ranBody_10 ?_
    refine li_aload_n hC hl 0 rfl dX12_ranBody_13 ?_
    refine li_get hC hK.1 ck_X12 (hS.1 0 _ rfl) 24 (by decide) fl_X12_283 rfl (v := .int (iI (F 24))) rfl dX12_ranBody_14 ?_
    refine li_iload_n hC hl 1 rfl dX12_ranBody_17 ?_
    refine li_iast hC hK hS 13 (n := 20) (f := (A 23)) (z := F 24) rfl ⟨by omega, by omega⟩ (by decide) (ws' := RW g h0 ad F (va_up A 23 (va_up (A 23) ((F 24).toNat) x))) rfl dX12_ranBody_18 (fun H locs hS => ?_)
    refine li_aload_n hC hl 0 rfl dX12_ranBody_19 ?_
    refine li_dup hC rfl dX12_ranBody_20 ?_
    refine li_get hC hK.1 ck_X12 (hS.1 0 _ rfl) 24 (by decide) fl_X12_283 rfl (v := .int (iI (F 24))) rfl dX12_ranBody_21 ?_
    refine li_iconst hC dX12_ranBody_24 ?_
    refine li_iadd hC dX12_ranBody_25 ?_
    refine li_put hC hK hS ck_X12 0 rfl 24 (by decide) fl_X12_283 rfl rfl (v := .int (iI ((F 24) + 1))) rfl rfl (Nat.le_of_ble_eq_true rfl) (ws' := RW g h0 ad (va_up F 24 ((F 24) + 1)) (va_up A 23 (va_up (A 23) ((F 24).toNat) x))) rfl dX12_ranBody_26 (fun H locs hS => ?_)
    exact hQ _ _ _ _ _ _ _ dX12_ranBody_29 hS (by omega) (by omega) (by unfold ranT; first | (rw [if_pos (by omega)]; done) | (rw [if_neg (by omega)]; rfl))
set_option maxHeartbeats 4000000 in
set_option maxRecDepth 100000 in
theorem c_X12_plainLies (l : Launch) (g : GG) (h0 : Nat) (ad : Nat → Nat) (F : Nat → Int) (A : Nat → Nat → Int) (S : Nat → Int) (hSA : A 1 = S) (r : Int) (b : Nat → Int) (hr9 : F 24 = r) (hb9 : A 23 = b) (kd : Int) (nu : Int) (tv : Int) (hk9 : F 25 = kd) (hn9 : F 26 = nu) (ht9 : F 27 = tv) (x : Int) (hr : 0 ≤ r ∧ r ≤ 900) (hkd : 0 ≤ kd ∧ kd ≤ 6) (sz : Nat) : MwrI l g yX12_plainLies cX12_plainLies 2 2 0 0 [.ref h0, .int (iI x)] sz (RW g h0 ad F A) (fun v w => v = iI (x + nu) ∧ w = RW g h0 ad (va_up F 24 (ranT (r, b) 1).1) (va_up A 23 (ranT (r, b) 1).2)) := by
  subst hSA
  subst hr9 hb9
  subst hk9 hn9 ht9
  refine wr_startI (own := RX12) (by decide) rfl (Nat.le_of_ble_eq_true rfl) ?_
  intro Pg Ev s Mi args below Mt Cd ls Q Aw hC hK hS hnm hl hQ
  have hl : lv_has ls 2 [(0, .ref h0), (1, .int (iI x))] := hl
  obtain ⟨H, hH⟩ : ∃ H, H = s.heap := ⟨_, rfl⟩
  obtain ⟨locs, hlo⟩ : ∃ locs : List Loc, locs = [] := ⟨_, rfl⟩
  have hS : St g Aw s.heap H locs (RW g h0 ad F A) := by rw [hH, hlo]; exact hS
  have goal : W Pg l Ev (rmC 2 0 0) s Mi args below Mt Cd H locs 0 0 Q (F0 Mi 0 ls []) := ?goal
  · rw [hH, hlo] at goal; exact goal
  clear hH hlo
  refine li_aload_n hC hl 0 rfl dX12_plainLies_0 ?_
  refine li_iconst hC dX12_plainLies_1 ?_
  refine wr_callVv hC (c_X12_ranBody l g h0 ad F A (A 1) rfl (F 24) (A 23) rfl rfl 1 (by omega) _) mk_X12_ranBody ml_X12_286 (rr (by decide)) ⟨by simp only [rmC]; omega, by simp only [rmC]; omega⟩ hK hS (li_recv hK.1 ck_X12 (hS.1 0 _ rfl)) rfl hl.1 rfl (Nat.le_of_ble_eq_true rfl) dX12_plainLies_2 (fun w H locs hp hS => ?_)
  subst hp
  have q1 := ranT_1 ((F 24), (A 23)) 1
  try dsimp only at q1
  refine li_iload_n hC hl 1 rfl dX12_plainLies_5 ?_
  refine li_aload_n hC hl 0 rfl dX12_plainLies_6 ?_
  refine li_get hC hK.1 ck_X12 (hS.1 0 _ rfl) 26 (by decide) fl_X12_289 rfl (v := .int (iI (F 26))) rfl dX12_plainLies_7 ?_
  refine li_iadd hC dX12_plainLies_10 ?_
  exact hQ _ _ _ _ _ _ _ _ dX12_plainLies_11 hS (by omega) (by omega) (⟨rfl, rfl⟩)
set_option maxHeartbeats 4000000 in
set_option maxRecDepth 100000 in
theorem c_X12_liesActs (l : Launch) (g : GG) (h0 : Nat) (ad : Nat → Nat) (F : Nat → Int) (A : Nat → Nat → Int) (S : Nat → Int) (hSA : A 1 = S) (r : Int) (b : Nat → Int) (hr9 : F 24 = r) (hb9 : A 23 = b) (kd : Int) (nu : Int) (tv : Int) (hk9 : F 25 = kd) (hn9 : F 26 = nu) (ht9 : F 27 = tv) (x : Int) (hr : 0 ≤ r ∧ r ≤ 800) (hkd : 0 ≤ kd ∧ kd ≤ 6) (sz : Nat) : MwrI l g yX12_liesActs cX12_liesActs 2 3 0 0 [.ref h0, .int (iI x)] sz (RW g h0 ad F A) (fun v w => v = iI (liesV kd nu x) ∧ w = RW g h0 ad (va_up F 24 (liesT kd (r, b)).1) (va_up A 23 (liesT kd (r, b)).2)) := by
  subst hSA
  subst hr9 hb9
  subst hk9 hn9 ht9
  refine wr_startI (own := RX12) (by decide) rfl (Nat.le_of_ble_eq_true rfl) ?_
  intro Pg Ev s Mi args below Mt Cd ls Q Aw hC hK hS hnm hl hQ
  have hl : lv_has ls 2 [(0, .ref h0), (1, .int (iI x))] := hl
  obtain ⟨H, hH⟩ : ∃ H, H = s.heap := ⟨_, rfl⟩
  obtain ⟨locs, hlo⟩ : ∃ locs : List Loc, locs = [] := ⟨_, rfl⟩
  have hS : St g Aw s.heap H locs (RW g h0 ad F A) := by rw [hH, hlo]; exact hS
  have goal : W Pg l Ev (rmC 3 0 0) s Mi args below Mt Cd H locs 0 0 Q (F0 Mi 0 ls []) := ?goal
  · rw [hH, hlo] at goal; exact goal
  clear hH hlo
  refine li_aload_n hC hl 0 rfl dX12_liesActs_0 ?_
  refine li_get hC hK.1 ck_X12 (hS.1 0 _ rfl) 25 (by decide) fl_X12_292 rfl (v := .int (iI (F 25))) rfl dX12_liesActs_1 ?_
  refine li_iconst hC dX12_liesActs_4 ?_
  refine ro_callSi hC (c_X12_isUnder l g (F 25) 1 (by omega) (by omega)) mk_X12_isUnder ml_X12_295 (rr (by decide)) ⟨Nat.le_of_ble_eq_true rfl, Nat.le_of_ble_eq_true rfl⟩ hK.1 (hS.ro hK) trivial rfl hl.1 rfl (Nat.le_of_ble_eq_true rfl) dX12_liesActs_5 ?_
  refine li_ifeq_b (tgt := 25) hC (by decide) dX12_liesActs_8 (fun c1 => ?_) (fun c1 => ?_)
  · simp only [under_1] at *
    refine li_aload_n hC hl 0 rfl dX12_liesActs_25 ?_
    refine li_get hC hK.1 ck_X12 (hS.1 0 _ rfl) 25 (by decide) fl_X12_292 rfl (v := .int (iI (F 25))) rfl dX12_liesActs_26 ?_
    refine li_iconst hC dX12_liesActs_29 ?_
    refine li_icmp_ne (tgt := 50) hC (by decide) (rg (by omega) (by omega)) (rg (by decide) (by decide)) dX12_liesActs_30 (fun c2 => ?_) (fun c2 => ?_)
    · refine li_aload_n hC hl 0 rfl dX12_liesActs_50 ?_
      refine li_iload_n hC hl 1 rfl dX12_liesActs_51 ?_
      refine wr_callVi hC (c_X12_plainLies l g h0 ad F A (A 1) rfl (F 24) (A 23) rfl rfl (F 25) (F 26) (F 27) rfl rfl rfl x (by omega) (by omega) _) mk_X12_plainLies ml_X12_298 (rr (by decide)) ⟨by simp only [rmC]; omega, by simp only [rmC]; omega⟩ hK hS (li_recv hK.1 ck_X12 (hS.1 0 _ rfl)) rfl hl.1 rfl (Nat.le_of_ble_eq_true rfl) dX12_liesActs_52 (fun v w H locs hp hS => ?_)
      obtain ⟨rfl, rfl⟩ := hp
      have q3 := ranT_1 ((F 24), (A 23)) 1
      try dsimp only at q3
      exact hQ _ _ _ _ _ _ _ _ dX12_liesActs_55 hS (by omega) (by omega) (by refine ⟨iI_inj (by unfold liesV; (repeat' split) <;> first | rfl | omega), ?_⟩; unfold liesT; first | (rw [if_pos (by omega)]; done) | (rw [if_pos (by omega)]; rfl) | (rw [if_neg (by omega), if_pos (by omega)]; done) | (rw [if_neg (by omega), if_pos (by omega)]; rfl) | (rw [if_neg (by omega), if_neg (by omega)]; done) | (rw [if_neg (by omega), if_neg (by omega)]; rfl))
    · refine li_aload_n hC hl 0 rfl dX12_liesActs_33 ?_
      refine li_bipush hC (z := 51) rfl dX12_liesActs_34 ?_
      refine wr_callVv hC (c_X12_ranBody l g h0 ad F A (A 1) rfl (F 24) (A 23) rfl rfl 51 (by omega) _) mk_X12_ranBody ml_X12_286 (rr (by decide)) ⟨by simp only [rmC]; omega, by simp only [rmC]; omega⟩ hK hS (li_recv hK.1 ck_X12 (hS.1 0 _ rfl)) rfl hl.1 rfl (Nat.le_of_ble_eq_true rfl) dX12_liesActs_36 (fun w H locs hp hS => ?_)
      subst hp
      have q4 := ranT_1 ((F 24), (A 23)) 51
      try dsimp only at q4
      refine li_aload_n hC hl 0 rfl dX12_liesActs_39 ?_
      refine li_iload_n hC hl 1 rfl dX12_liesActs_40 ?_
      refine wr_callVi hC (c_X12_plainLies l g h0 ad (va_up F 24 ((ranT ((F 24), (A 23)) 51).1)) (va_up A 23 ((ranT ((F 24), (A 23)) 51).2)) (A 1) rfl ((ranT ((F 24), (A 23)) 51).1) ((ranT ((F 24), (A 23)) 51).2) rfl rfl (F 25) (F 26) (F 27) rfl rfl rfl x (by omega) (by omega) _) mk_X12_plainLies ml_X12_298 (rr (by decide)) ⟨by simp only [rmC]; omega, by simp only [rmC]; omega⟩ hK hS (li_recv hK.1 ck_X12 (hS.1 0 _ rfl)) rfl hl.1 rfl (Nat.le_of_ble_eq_true rfl) dX12_liesActs_41 (fun v w H locs hp hS => ?_)
      obtain ⟨rfl, rfl⟩ := hp
      have q5 := ranT_1 (((ranT ((F 24), (A 23)) 51).1), ((ranT ((F 24), (A 23)) 51).2)) 1
      try dsimp only at q5
      refine li_aload_n hC hl 0 rfl dX12_liesActs_44 ?_
      refine li_get hC hK.1 ck_X12 (hS.1 0 _ rfl) 26 (by decide) fl_X12_289 rfl (v := .int (iI (F 26))) rfl dX12_liesActs_45 ?_
      refine li_ixor hC dX12_liesActs_48 ?_
      exact hQ _ _ _ _ _ _ _ _ dX12_liesActs_49 hS (by omega) (by omega) (by refine ⟨iI_inj (by unfold liesV; (repeat' split) <;> first | rfl | omega), ?_⟩; unfold liesT; first | (rw [if_pos (by omega)]; done) | (rw [if_pos (by omega)]; rfl) | (rw [if_neg (by omega), if_pos (by omega)]; done) | (rw [if_neg (by omega), if_pos (by omega)]; rfl) | (rw [if_neg (by omega), if_neg (by omega)]; done) | (rw [if_neg (by omega), if_neg (by omega)]; rfl))
  · simp only [under_1] at *
    refine li_aload_n hC hl 0 rfl dX12_liesActs_11 ?_
    refine li_bipush hC (z := 11) rfl dX12_liesActs_12 ?_
    refine wr_callVv hC (c_X12_ranBody l g h0 ad F A (A 1) rfl (F 24) (A 23) rfl rfl 11 (by omega) _) mk_X12_ranBody ml_X12_286 (rr (by decide)) ⟨by simp only [rmC]; omega, by simp only [rmC]; omega⟩ hK hS (li_recv hK.1 ck_X12 (hS.1 0 _ rfl)) rfl hl.1 rfl (Nat.le_of_ble_eq_true rfl) dX12_liesActs_14 (fun w H locs hp hS => ?_)
    subst hp
    have q6 := ranT_1 ((F 24), (A 23)) 11
    try dsimp only at q6
    refine li_aload_n hC hl 0 rfl dX12_liesActs_17 ?_
    refine li_iload_n hC hl 1 rfl dX12_liesActs_18 ?_
    refine li_iconst hC dX12_liesActs_19 ?_
    refine li_imul hC dX12_liesActs_20 ?_
    refine wr_callVi hC (c_X12_plainLies l g h0 ad (va_up F 24 ((ranT ((F 24), (A 23)) 11).1)) (va_up A 23 ((ranT ((F 24), (A 23)) 11).2)) (A 1) rfl ((ranT ((F 24), (A 23)) 11).1) ((ranT ((F 24), (A 23)) 11).2) rfl rfl (F 25) (F 26) (F 27) rfl rfl rfl (x * 3) (by omega) (by omega) _) mk_X12_plainLies ml_X12_298 (rr (by decide)) ⟨by simp only [rmC]; omega, by simp only [rmC]; omega⟩ hK hS (li_recv hK.1 ck_X12 (hS.1 0 _ rfl)) rfl hl.1 rfl (Nat.le_of_ble_eq_true rfl) dX12_liesActs_21 (fun v w H locs hp hS => ?_)
    obtain ⟨rfl, rfl⟩ := hp
    have q7 := ranT_1 (((ranT ((F 24), (A 23)) 11).1), ((ranT ((F 24), (A 23)) 11).2)) 1
    try dsimp only at q7
    exact hQ _ _ _ _ _ _ _ _ dX12_liesActs_24 hS (by omega) (by omega) (by refine ⟨iI_inj (by unfold liesV; (repeat' split) <;> first | rfl | omega), ?_⟩; unfold liesT; first | (rw [if_pos (by omega)]; done) | (rw [if_pos (by omega)]; rfl) | (rw [if_neg (by omega), if_pos (by omega)]; done) | (rw [if_neg (by omega), if_pos (by omega)]; rfl) | (rw [if_neg (by omega), if_neg (by omega)]; done) | (rw [if_neg (by omega), if_neg (by omega)]; rfl))
set_option maxHeartbeats 4000000 in
set_option maxRecDepth 100000 in
theorem c_X12_plainReads (l : Launch) (g : GG) (h0 : Nat) (ad : Nat → Nat) (F : Nat → Int) (A : Nat → Nat → Int) (S : Nat → Int) (hSA : A 1 = S) (r : Int) (b : Nat → Int) (hr9 : F 24 = r) (hb9 : A 23 = b) (kd : Int) (nu : Int) (tv : Int) (hk9 : F 25 = kd) (hn9 : F 26 = nu) (ht9 : F 27 = tv) (x : Int) (hr : 0 ≤ r ∧ r ≤ 700) (hkd : 0 ≤ kd ∧ kd ≤ 6) (sz : Nat) : MwrI l g yX12_plainReads cX12_plainReads 2 4 0 0 [.ref h0, .int (iI x)] sz (RW g h0 ad F A) (fun v w => v = iI (liesV kd nu x - tv) ∧ w = RW g h0 ad (va_up F 24 (pReadsT kd (r, b)).1) (va_up A 23 (pReadsT kd (r, b)).2)) := by
  subst hSA
  subst hr9 hb9
  subst hk9 hn9 ht9
  refine wr_startI (own := RX12) (by decide) rfl (Nat.le_of_ble_eq_true rfl) ?_
  intro Pg Ev s Mi args below Mt Cd ls Q Aw hC hK hS hnm hl hQ
  have hl : lv_has ls 2 [(0, .ref h0), (1, .int (iI x))] := hl
  obtain ⟨H, hH⟩ : ∃ H, H = s.heap := ⟨_, rfl⟩
  obtain ⟨locs, hlo⟩ : ∃ locs : List Loc, locs = [] := ⟨_, rfl⟩
  have hS : St g Aw s.heap H locs (RW g h0 ad F A) := by rw [hH, hlo]; exact hS
  have goal : W Pg l Ev (rmC 4 0 0) s Mi args below Mt Cd H locs 0 0 Q (F0 Mi 0 ls []) := ?goal
  · rw [hH, hlo] at goal; exact goal
  clear hH hlo
  refine li_aload_n hC hl 0 rfl dX12_plainReads_0 ?_
  refine li_iconst hC dX12_plainReads_1 ?_
  refine wr_callVv hC (c_X12_ranBody l g h0 ad F A (A 1) rfl (F 24) (A 23) rfl rfl 2 (by omega) _) mk_X12_ranBody ml_X12_286 (rr (by decide)) ⟨by simp only [rmC]; omega, by simp only [rmC]; omega⟩ hK hS (li_recv hK.1 ck_X12 (hS.1 0 _ rfl)) rfl hl.1 rfl (Nat.le_of_ble_eq_true rfl) dX12_plainReads_2 (fun w H locs hp hS => ?_)
  subst hp
  have q1 := ranT_1 ((F 24), (A 23)) 2
  try dsimp only at q1
  refine li_aload_n hC hl 0 rfl dX12_plainReads_5 ?_
  refine li_iload_n hC hl 1 rfl dX12_plainReads_6 ?_
  refine wr_callVi hC (c_X12_liesActs l g h0 ad (va_up F 24 ((ranT ((F 24), (A 23)) 2).1)) (va_up A 23 ((ranT ((F 24), (A 23)) 2).2)) (A 1) rfl ((ranT ((F 24), (A 23)) 2).1) ((ranT ((F 24), (A 23)) 2).2) rfl rfl (F 25) (F 26) (F 27) rfl rfl rfl x (by omega) (by omega) _) mk_X12_liesActs ml_X12_301 (rr (by decide)) ⟨by simp only [rmC]; omega, by simp only [rmC]; omega⟩ hK hS (li_recv hK.1 ck_X12 (hS.1 0 _ rfl)) rfl hl.1 rfl (Nat.le_of_ble_eq_true rfl) dX12_plainReads_7 (fun v w H locs hp hS => ?_)
  obtain ⟨rfl, rfl⟩ := hp
  have q2 := liesT_1 (F 25) (((ranT ((F 24), (A 23)) 2).1), ((ranT ((F 24), (A 23)) 2).2))
  try dsimp only at q2
  refine li_aload_n hC hl 0 rfl dX12_plainReads_10 ?_
  refine li_get hC hK.1 ck_X12 (hS.1 0 _ rfl) 27 (by decide) fl_X12_304 rfl (v := .int (iI (F 27))) rfl dX12_plainReads_11 ?_
  refine li_isub hC dX12_plainReads_14 ?_
  exact hQ _ _ _ _ _ _ _ _ dX12_plainReads_15 hS (by omega) (by omega) (⟨rfl, rfl⟩)
set_option maxHeartbeats 4000000 in
set_option maxRecDepth 100000 in
theorem c_X12_readsActs (l : Launch) (g : GG) (h0 : Nat) (ad : Nat → Nat) (F : Nat → Int) (A : Nat → Nat → Int) (S : Nat → Int) (hSA : A 1 = S) (r : Int) (b : Nat → Int) (hr9 : F 24 = r) (hb9 : A 23 = b) (kd : Int) (nu : Int) (tv : Int) (hk9 : F 25 = kd) (hn9 : F 26 = nu) (ht9 : F 27 = tv) (x : Int) (hr : 0 ≤ r ∧ r ≤ 600) (hkd : 0 ≤ kd ∧ kd ≤ 6) (sz : Nat) : MwrI l g yX12_readsActs cX12_readsActs 2 5 0 0 [.ref h0, .int (iI x)] sz (RW g h0 ad F A) (fun v w => v = iI (readsV kd nu tv x) ∧ w = RW g h0 ad (va_up F 24 (readsT kd (r, b)).1) (va_up A 23 (readsT kd (r, b)).2)) := by
  subst hSA
  subst hr9 hb9
  subst hk9 hn9 ht9
  refine wr_startI (own := RX12) (by decide) rfl (Nat.le_of_ble_eq_true rfl) ?_
  intro Pg Ev s Mi args below Mt Cd ls Q Aw hC hK hS hnm hl hQ
  have hl : lv_has ls 2 [(0, .ref h0), (1, .int (iI x))] := hl
  obtain ⟨H, hH⟩ : ∃ H, H = s.heap := ⟨_, rfl⟩
  obtain ⟨locs, hlo⟩ : ∃ locs : List Loc, locs = [] := ⟨_, rfl⟩
  have hS : St g Aw s.heap H locs (RW g h0 ad F A) := by rw [hH, hlo]; exact hS
  have goal : W Pg l Ev (rmC 5 0 0) s Mi args below Mt Cd H locs 0 0 Q (F0 Mi 0 ls []) := ?goal
  · rw [hH, hlo] at goal; exact goal
  clear hH hlo
  refine li_aload_n hC hl 0 rfl dX12_readsActs_0 ?_
  refine li_get hC hK.1 ck_X12 (hS.1 0 _ rfl) 25 (by decide) fl_X12_292 rfl (v := .int (iI (F 25))) rfl dX12_readsActs_1 ?_
  refine li_iconst hC dX12_readsActs_4 ?_
  refine ro_callSi hC (c_X12_isUnder l g (F 25) 2 (by omega) (by omega)) mk_X12_isUnder ml_X12_295 (rr (by decide)) ⟨Nat.le_of_ble_eq_true rfl, Nat.le_of_ble_eq_true rfl⟩ hK.1 (hS.ro hK) trivial rfl hl.1 rfl (Nat.le_of_ble_eq_true rfl) dX12_readsActs_5 ?_
  refine li_ifeq_b (tgt := 24) hC (by decide) dX12_readsActs_8 (fun c1 => ?_) (fun c1 => ?_)
  · simp only [under_2] at *
    refine li_aload_n hC hl 0 rfl dX12_readsActs_24 ?_
    refine li_get hC hK.1 ck_X12 (hS.1 0 _ rfl) 25 (by decide) fl_X12_292 rfl (v := .int (iI (F 25))) rfl dX12_readsActs_25 ?_
    refine li_bipush hC (z := 6) rfl dX12_readsActs_28 ?_
    refine li_icmp_ne (tgt := 50) hC (by decide) (rg (by omega) (by omega)) (rg (by decide) (by decide)) dX12_readsActs_30 (fun c2 => ?_) (fun c2 => ?_)
    · refine li_aload_n hC hl 0 rfl dX12_readsActs_50 ?_
      refine li_iload_n hC hl 1 rfl dX12_readsActs_51 ?_
      refine wr_callVi hC (c_X12_plainReads l g h0 ad F A (A 1) rfl (F 24) (A 23) rfl rfl (F 25) (F 26) (F 27) rfl rfl rfl x (by omega) (by omega) _) mk_X12_plainReads ml_X12_307 (rr (by decide)) ⟨by simp only [rmC]; omega, by simp only [rmC]; omega⟩ hK hS (li_recv hK.1 ck_X12 (hS.1 0 _ rfl)) rfl hl.1 rfl (Nat.le_of_ble_eq_true rfl) dX12_readsActs_52 (fun v w H locs hp hS => ?_)
      obtain ⟨rfl, rfl⟩ := hp
      have q3 := pReadsT_1 (F 25) ((F 24), (A 23))
      try dsimp only at q3
      exact hQ _ _ _ _ _ _ _ _ dX12_readsActs_55 hS (by omega) (by omega) (by refine ⟨iI_inj (by unfold readsV; (repeat' split) <;> first | rfl | omega), ?_⟩; unfold readsT; first | (rw [if_pos (by omega)]; done) | (rw [if_pos (by omega)]; rfl) | (rw [if_neg (by omega), if_pos (by omega)]; done) | (rw [if_neg (by omega), if_pos (by omega)]; rfl) | (rw [if_neg (by omega), if_neg (by omega)]; done) | (rw [if_neg (by omega), if_neg (by omega)]; rfl))
    · refine li_aload_n hC hl 0 rfl dX12_readsActs_33 ?_
      refine li_bipush hC (z := 61) rfl dX12_readsActs_34 ?_
      refine wr_callVv hC (c_X12_ranBody l g h0 ad F A (A 1) rfl (F 24) (A 23) rfl rfl 61 (by omega) _) mk_X12_ranBody ml_X12_286 (rr (by decide)) ⟨by simp only [rmC]; omega, by simp only [rmC]; omega⟩ hK hS (li_recv hK.1 ck_X12 (hS.1 0 _ rfl)) rfl hl.1 rfl (Nat.le_of_ble_eq_true rfl) dX12_readsActs_36 (fun w H locs hp hS => ?_)
      subst hp
      have q4 := ranT_1 ((F 24), (A 23)) 61
      try dsimp only at q4
      refine li_aload_n hC hl 0 rfl dX12_readsActs_39 ?_
      refine li_iload_n hC hl 1 rfl dX12_readsActs_40 ?_
      refine wr_callVi hC (c_X12_plainReads l g h0 ad (va_up F 24 ((ranT ((F 24), (A 23)) 61).1)) (va_up A 23 ((ranT ((F 24), (A 23)) 61).2)) (A 1) rfl ((ranT ((F 24), (A 23)) 61).1) ((ranT ((F 24), (A 23)) 61).2) rfl rfl (F 25) (F 26) (F 27) rfl rfl rfl x (by omega) (by omega) _) mk_X12_plainReads ml_X12_307 (rr (by decide)) ⟨by simp only [rmC]; omega, by simp only [rmC]; omega⟩ hK hS (li_recv hK.1 ck_X12 (hS.1 0 _ rfl)) rfl hl.1 rfl (Nat.le_of_ble_eq_true rfl) dX12_readsActs_41 (fun v w H locs hp hS => ?_)
      obtain ⟨rfl, rfl⟩ := hp
      have q5 := pReadsT_1 (F 25) (((ranT ((F 24), (A 23)) 61).1), ((ranT ((F 24), (A 23)) 61).2))
      try dsimp only at q5
      refine li_aload_n hC hl 0 rfl dX12_readsActs_44 ?_
      refine li_get hC hK.1 ck_X12 (hS.1 0 _ rfl) 27 (by decide) fl_X12_304 rfl (v := .int (iI (F 27))) rfl dX12_readsActs_45 ?_
      refine li_iadd hC dX12_readsActs_48 ?_
      exact hQ _ _ _ _ _ _ _ _ dX12_readsActs_49 hS (by omega) (by omega) (by refine ⟨iI_inj (by unfold readsV; (repeat' split) <;> first | rfl | omega), ?_⟩; unfold readsT; first | (rw [if_pos (by omega)]; done) | (rw [if_pos (by omega)]; rfl) | (rw [if_neg (by omega), if_pos (by omega)]; done) | (rw [if_neg (by omega), if_pos (by omega)]; rfl) | (rw [if_neg (by omega), if_neg (by omega)]; done) | (rw [if_neg (by omega), if_neg (by omega)]; rfl))
  · simp only [under_2] at *
    refine li_aload_n hC hl 0 rfl dX12_readsActs_11 ?_
    refine li_bipush hC (z := 21) rfl dX12_readsActs_12 ?_
    refine wr_callVv hC (c_X12_ranBody l g h0 ad F A (A 1) rfl (F 24) (A 23) rfl rfl 21 (by omega) _) mk_X12_ranBody ml_X12_286 (rr (by decide)) ⟨by simp only [rmC]; omega, by simp only [rmC]; omega⟩ hK hS (li_recv hK.1 ck_X12 (hS.1 0 _ rfl)) rfl hl.1 rfl (Nat.le_of_ble_eq_true rfl) dX12_readsActs_14 (fun w H locs hp hS => ?_)
    subst hp
    have q6 := ranT_1 ((F 24), (A 23)) 21
    try dsimp only at q6
    refine li_aload_n hC hl 0 rfl dX12_readsActs_17 ?_
    refine li_iload_n hC hl 1 rfl dX12_readsActs_18 ?_
    refine wr_callVi hC (c_X12_plainReads l g h0 ad (va_up F 24 ((ranT ((F 24), (A 23)) 21).1)) (va_up A 23 ((ranT ((F 24), (A 23)) 21).2)) (A 1) rfl ((ranT ((F 24), (A 23)) 21).1) ((ranT ((F 24), (A 23)) 21).2) rfl rfl (F 25) (F 26) (F 27) rfl rfl rfl x (by omega) (by omega) _) mk_X12_plainReads ml_X12_307 (rr (by decide)) ⟨by simp only [rmC]; omega, by simp only [rmC]; omega⟩ hK hS (li_recv hK.1 ck_X12 (hS.1 0 _ rfl)) rfl hl.1 rfl (Nat.le_of_ble_eq_true rfl) dX12_readsActs_19 (fun v w H locs hp hS => ?_)
    obtain ⟨rfl, rfl⟩ := hp
    have q7 := pReadsT_1 (F 25) (((ranT ((F 24), (A 23)) 21).1), ((ranT ((F 24), (A 23)) 21).2))
    try dsimp only at q7
    refine li_ineg hC dX12_readsActs_22 ?_
    exact hQ _ _ _ _ _ _ _ _ dX12_readsActs_23 hS (by omega) (by omega) (by refine ⟨iI_inj (by unfold readsV; (repeat' split) <;> first | rfl | omega), ?_⟩; unfold readsT; first | (rw [if_pos (by omega)]; done) | (rw [if_pos (by omega)]; rfl) | (rw [if_neg (by omega), if_pos (by omega)]; done) | (rw [if_neg (by omega), if_pos (by omega)]; rfl) | (rw [if_neg (by omega), if_neg (by omega)]; done) | (rw [if_neg (by omega), if_neg (by omega)]; rfl))
set_option maxHeartbeats 4000000 in
set_option maxRecDepth 100000 in
theorem c_X12_plainTelling (l : Launch) (g : GG) (h0 : Nat) (ad : Nat → Nat) (F : Nat → Int) (A : Nat → Nat → Int) (S : Nat → Int) (hSA : A 1 = S) (r : Int) (b : Nat → Int) (hr9 : F 24 = r) (hb9 : A 23 = b) (kd : Int) (nu : Int) (tv : Int) (hk9 : F 25 = kd) (hn9 : F 26 = nu) (ht9 : F 27 = tv) (x : Int) (hr : 0 ≤ r ∧ r ≤ 500) (hkd : 0 ≤ kd ∧ kd ≤ 6) (sz : Nat) : MwrI l g yX12_plainTelling cX12_plainTelling 2 6 0 0 [.ref h0, .int (iI x)] sz (RW g h0 ad F A) (fun v w => v = iI (readsV kd nu tv x * 2) ∧ w = RW g h0 ad (va_up F 24 (pTellsT kd (r, b)).1) (va_up A 23 (pTellsT kd (r, b)).2)) := by
  subst hSA
  subst hr9 hb9
  subst hk9 hn9 ht9
  refine wr_startI (own := RX12) (by decide) rfl (Nat.le_of_ble_eq_true rfl) ?_
  intro Pg Ev s Mi args below Mt Cd ls Q Aw hC hK hS hnm hl hQ
  have hl : lv_has ls 2 [(0, .ref h0), (1, .int (iI x))] := hl
  obtain ⟨H, hH⟩ : ∃ H, H = s.heap := ⟨_, rfl⟩
  obtain ⟨locs, hlo⟩ : ∃ locs : List Loc, locs = [] := ⟨_, rfl⟩
  have hS : St g Aw s.heap H locs (RW g h0 ad F A) := by rw [hH, hlo]; exact hS
  have goal : W Pg l Ev (rmC 6 0 0) s Mi args below Mt Cd H locs 0 0 Q (F0 Mi 0 ls []) := ?goal
  · rw [hH, hlo] at goal; exact goal
  clear hH hlo
  refine li_aload_n hC hl 0 rfl dX12_plainTelling_0 ?_
  refine li_iconst hC dX12_plainTelling_1 ?_
  refine wr_callVv hC (c_X12_ranBody l g h0 ad F A (A 1) rfl (F 24) (A 23) rfl rfl 3 (by omega) _) mk_X12_ranBody ml_X12_286 (rr (by decide)) ⟨by simp only [rmC]; omega, by simp only [rmC]; omega⟩ hK hS (li_recv hK.1 ck_X12 (hS.1 0 _ rfl)) rfl hl.1 rfl (Nat.le_of_ble_eq_true rfl) dX12_plainTelling_2 (fun w H locs hp hS => ?_)
  subst hp
  have q1 := ranT_1 ((F 24), (A 23)) 3
  try dsimp only at q1
  refine li_aload_n hC hl 0 rfl dX12_plainTelling_5 ?_
  refine li_iload_n hC hl 1 rfl dX12_plainTelling_6 ?_
  refine wr_callVi hC (c_X12_readsActs l g h0 ad (va_up F 24 ((ranT ((F 24), (A 23)) 3).1)) (va_up A 23 ((ranT ((F 24), (A 23)) 3).2)) (A 1) rfl ((ranT ((F 24), (A 23)) 3).1) ((ranT ((F 24), (A 23)) 3).2) rfl rfl (F 25) (F 26) (F 27) rfl rfl rfl x (by omega) (by omega) _) mk_X12_readsActs ml_X12_310 (rr (by decide)) ⟨by simp only [rmC]; omega, by simp only [rmC]; omega⟩ hK hS (li_recv hK.1 ck_X12 (hS.1 0 _ rfl)) rfl hl.1 rfl (Nat.le_of_ble_eq_true rfl) dX12_plainTelling_7 (fun v w H locs hp hS => ?_)
  obtain ⟨rfl, rfl⟩ := hp
  have q2 := readsT_1 (F 25) (((ranT ((F 24), (A 23)) 3).1), ((ranT ((F 24), (A 23)) 3).2))
  try dsimp only at q2
  refine li_iconst hC dX12_plainTelling_10 ?_
  refine li_imul hC dX12_plainTelling_11 ?_
  exact hQ _ _ _ _ _ _ _ _ dX12_plainTelling_12 hS (by omega) (by omega) (⟨rfl, rfl⟩)
set_option maxHeartbeats 4000000 in
set_option maxRecDepth 100000 in
theorem c_X12_tellsActs (l : Launch) (g : GG) (h0 : Nat) (ad : Nat → Nat) (F : Nat → Int) (A : Nat → Nat → Int) (S : Nat → Int) (hSA : A 1 = S) (r : Int) (b : Nat → Int) (hr9 : F 24 = r) (hb9 : A 23 = b) (kd : Int) (nu : Int) (tv : Int) (hk9 : F 25 = kd) (hn9 : F 26 = nu) (ht9 : F 27 = tv) (x : Int) (hr : 0 ≤ r ∧ r ≤ 400) (hkd : 0 ≤ kd ∧ kd ≤ 6) (sz : Nat) : MwrI l g yX12_tellsActs cX12_tellsActs 3 7 0 0 [.ref h0, .int (iI x)] sz (RW g h0 ad F A) (fun v w => v = iI (tellsV kd nu tv x) ∧ w = RW g h0 ad (va_up F 24 (tellsT kd (r, b)).1) (va_up A 23 (tellsT kd (r, b)).2)) := by
  subst hSA
  subst hr9 hb9
  subst hk9 hn9 ht9
  refine wr_startI (own := RX12) (by decide) rfl (Nat.le_of_ble_eq_true rfl) ?_
  intro Pg Ev s Mi args below Mt Cd ls Q Aw hC hK hS hnm hl hQ
  have hl : lv_has ls 3 [(0, .ref h0), (1, .int (iI x))] := hl
  obtain ⟨H, hH⟩ : ∃ H, H = s.heap := ⟨_, rfl⟩
  obtain ⟨locs, hlo⟩ : ∃ locs : List Loc, locs = [] := ⟨_, rfl⟩
  have hS : St g Aw s.heap H locs (RW g h0 ad F A) := by rw [hH, hlo]; exact hS
  have goal : W Pg l Ev (rmC 7 0 0) s Mi args below Mt Cd H locs 0 0 Q (F0 Mi 0 ls []) := ?goal
  · rw [hH, hlo] at goal; exact goal
  clear hH hlo
  refine li_aload_n hC hl 0 rfl dX12_tellsActs_0 ?_
  refine li_get hC hK.1 ck_X12 (hS.1 0 _ rfl) 25 (by decide) fl_X12_292 rfl (v := .int (iI (F 25))) rfl dX12_tellsActs_1 ?_
  refine li_iconst hC dX12_tellsActs_4 ?_
  refine ro_callSi hC (c_X12_isUnder l g (F 25) 3 (by omega) (by omega)) mk_X12_isUnder ml_X12_295 (rr (by decide)) ⟨Nat.le_of_ble_eq_true rfl, Nat.le_of_ble_eq_true rfl⟩ hK.1 (hS.ro hK) trivial rfl hl.1 rfl (Nat.le_of_ble_eq_true rfl) dX12_tellsActs_5 ?_
  refine li_ifeq_b (tgt := 26) hC (by decide) dX12_tellsActs_8 (fun c1 => ?_) (fun c1 => ?_)
  · simp only [under_3] at *
    refine li_aload_n hC hl 0 rfl dX12_tellsActs_26 ?_
    refine li_get hC hK.1 ck_X12 (hS.1 0 _ rfl) 25 (by decide) fl_X12_292 rfl (v := .int (iI (F 25))) rfl dX12_tellsActs_27 ?_
    refine li_iconst hC dX12_tellsActs_30 ?_
    refine li_icmp_ne (tgt := 56) hC (by decide) (rg (by omega) (by omega)) (rg (by decide) (by decide)) dX12_tellsActs_31 (fun c2 => ?_) (fun c2 => ?_)
    · refine li_aload_n hC hl 0 rfl dX12_tellsActs_56 ?_
      refine li_iload_n hC hl 1 rfl dX12_tellsActs_57 ?_
      refine wr_callVi hC (c_X12_plainTelling l g h0 ad F A (A 1) rfl (F 24) (A 23) rfl rfl (F 25) (F 26) (F 27) rfl rfl rfl x (by omega) (by omega) _) mk_X12_plainTelling ml_X12_313 (rr (by decide)) ⟨by simp only [rmC]; omega, by simp only [rmC]; omega⟩ hK hS (li_recv hK.1 ck_X12 (hS.1 0 _ rfl)) rfl hl.1 rfl (Nat.le_of_ble_eq_true rfl) dX12_tellsActs_58 (fun v w H locs hp hS => ?_)
      obtain ⟨rfl, rfl⟩ := hp
      have q3 := pTellsT_1 (F 25) ((F 24), (A 23))
      try dsimp only at q3
      exact hQ _ _ _ _ _ _ _ _ dX12_tellsActs_61 hS (by omega) (by omega) (by refine ⟨iI_inj (by unfold tellsV; (repeat' split) <;> first | rfl | omega), ?_⟩; unfold tellsT; first | (rw [if_pos (by omega)]; done) | (rw [if_pos (by omega)]; rfl) | (rw [if_neg (by omega), if_pos (by omega)]; done) | (rw [if_neg (by omega), if_pos (by omega)]; rfl) | (rw [if_neg (by omega), if_neg (by omega)]; done) | (rw [if_neg (by omega), if_neg (by omega)]; rfl))
    · refine li_aload_n hC hl 0 rfl dX12_tellsActs_34 ?_
      refine li_bipush hC (z := 41) rfl dX12_tellsActs_35 ?_
      refine wr_callVv hC (c_X12_ranBody l g h0 ad F A (A 1) rfl (F 24) (A 23) rfl rfl 41 (by omega) _) mk_X12_ranBody ml_X12_286 (rr (by decide)) ⟨by simp only [rmC]; omega, by simp only [rmC]; omega⟩ hK hS (li_recv hK.1 ck_X12 (hS.1 0 _ rfl)) rfl hl.1 rfl (Nat.le_of_ble_eq_true rfl) dX12_tellsActs_37 (fun w H locs hp hS => ?_)
      subst hp
      have q4 := ranT_1 ((F 24), (A 23)) 41
      try dsimp only at q4
      refine li_aload_n hC hl 0 rfl dX12_tellsActs_40 ?_
      refine li_iload_n hC hl 1 rfl dX12_tellsActs_41 ?_
      refine li_iconst hC dX12_tellsActs_42 ?_
      refine li_isub hC dX12_tellsActs_43 ?_
      refine wr_callVi hC (c_X12_plainTelling l g h0 ad (va_up F 24 ((ranT ((F 24), (A 23)) 41).1)) (va_up A 23 ((ranT ((F 24), (A 23)) 41).2)) (A 1) rfl ((ranT ((F 24), (A 23)) 41).1) ((ranT ((F 24), (A 23)) 41).2) rfl rfl (F 25) (F 26) (F 27) rfl rfl rfl (x - 1) (by omega) (by omega) _) mk_X12_plainTelling ml_X12_313 (rr (by decide)) ⟨by simp only [rmC]; omega, by simp only [rmC]; omega⟩ hK hS (li_recv hK.1 ck_X12 (hS.1 0 _ rfl)) rfl hl.1 rfl (Nat.le_of_ble_eq_true rfl) dX12_tellsActs_44 (fun v w H locs hp hS => ?_)
      obtain ⟨rfl, rfl⟩ := hp
      have q5 := pTellsT_1 (F 25) (((ranT ((F 24), (A 23)) 41).1), ((ranT ((F 24), (A 23)) 41).2))
      try dsimp only at q5
      refine li_istore_n hC (lv' := [(2, .int (iI (readsV (F 25) (F 26) (F 27) (x - 1) * 2))), (0, .ref h0), (1, .int (iI x))]) hl (by decide) rfl dX12_tellsActs_47 (fun ls hl => ?_)
      refine li_iload_n hC hl 0 rfl dX12_tellsActs_48 ?_
      refine li_aload_n hC hl 1 rfl dX12_tellsActs_49 ?_
      refine li_iconst hC dX12_tellsActs_50 ?_
      refine wr_callVi hC (c_X12_liesActs l g h0 ad (va_up F 24 ((pTellsT (F 25) (((ranT ((F 24), (A 23)) 41).1), ((ranT ((F 24), (A 23)) 41).2))).1)) (va_up A 23 ((pTellsT (F 25) (((ranT ((F 24), (A 23)) 41).1), ((ranT ((F 24), (A 23)) 41).2))).2)) (A 1) rfl ((pTellsT (F 25) (((ranT ((F 24), (A 23)) 41).1), ((ranT ((F 24), (A 23)) 41).2))).1) ((pTellsT (F 25) (((ranT ((F 24), (A 23)) 41).1), ((ranT ((F 24), (A 23)) 41).2))).2) rfl rfl (F 25) (F 26) (F 27) rfl rfl rfl 2 (by omega) (by omega) _) mk_X12_liesActs ml_X12_301 (rr (by decide)) ⟨by simp only [rmC]; omega, by simp only [rmC]; omega⟩ hK hS (li_recv hK.1 ck_X12 (hS.1 0 _ rfl)) rfl hl.1 rfl (Nat.le_of_ble_eq_true rfl) dX12_tellsActs_51 (fun v w H locs hp hS => ?_)
      obtain ⟨rfl, rfl⟩ := hp
      have q6 := liesT_1 (F 25) (((pTellsT (F 25) (((ranT ((F 24), (A 23)) 41).1), ((ranT ((F 24), (A 23)) 41).2))).1), ((pTellsT (F 25) (((ranT ((F 24), (A 23)) 41).1), ((ranT ((F 24), (A 23)) 41).2))).2))
      try dsimp only at q6
      refine li_iadd hC dX12_tellsActs_54 ?_
      exact hQ _ _ _ _ _ _ _ _ dX12_tellsActs_55 hS (by omega) (by omega) (by refine ⟨iI_inj (by unfold tellsV; (repeat' split) <;> first | rfl | omega), ?_⟩; unfold tellsT; first | (rw [if_pos (by omega)]; done) | (rw [if_pos (by omega)]; rfl) | (rw [if_neg (by omega), if_pos (by omega)]; done) | (rw [if_neg (by omega), if_pos (by omega)]; rfl) | (rw [if_neg (by omega), if_neg (by omega)]; done) | (rw [if_neg (by omega), if_neg (by omega)]; rfl))
  · simp only [under_3] at *
    refine li_aload_n hC hl 0 rfl dX12_tellsActs_11 ?_
    refine li_bipush hC (z := 31) rfl dX12_tellsActs_12 ?_
    refine wr_callVv hC (c_X12_ranBody l g h0 ad F A (A 1) rfl (F 24) (A 23) rfl rfl 31 (by omega) _) mk_X12_ranBody ml_X12_286 (rr (by decide)) ⟨by simp only [rmC]; omega, by simp only [rmC]; omega⟩ hK hS (li_recv hK.1 ck_X12 (hS.1 0 _ rfl)) rfl hl.1 rfl (Nat.le_of_ble_eq_true rfl) dX12_tellsActs_14 (fun w H locs hp hS => ?_)
    subst hp
    have q7 := ranT_1 ((F 24), (A 23)) 31
    try dsimp only at q7
    refine li_aload_n hC hl 0 rfl dX12_tellsActs_17 ?_
    refine li_iload_n hC hl 1 rfl dX12_tellsActs_18 ?_
    refine wr_callVi hC (c_X12_plainTelling l g h0 ad (va_up F 24 ((ranT ((F 24), (A 23)) 31).1)) (va_up A 23 ((ranT ((F 24), (A 23)) 31).2)) (A 1) rfl ((ranT ((F 24), (A 23)) 31).1) ((ranT ((F 24), (A 23)) 31).2) rfl rfl (F 25) (F 26) (F 27) rfl rfl rfl x (by omega) (by omega) _) mk_X12_plainTelling ml_X12_313 (rr (by decide)) ⟨by simp only [rmC]; omega, by simp only [rmC]; omega⟩ hK hS (li_recv hK.1 ck_X12 (hS.1 0 _ rfl)) rfl hl.1 rfl (Nat.le_of_ble_eq_true rfl) dX12_tellsActs_19 (fun v w H locs hp hS => ?_)
    obtain ⟨rfl, rfl⟩ := hp
    have q8 := pTellsT_1 (F 25) (((ranT ((F 24), (A 23)) 31).1), ((ranT ((F 24), (A 23)) 31).2))
    try dsimp only at q8
    refine li_bipush hC (z := 7) rfl dX12_tellsActs_22 ?_
    refine li_ixor hC dX12_tellsActs_24 ?_
    exact hQ _ _ _ _ _ _ _ _ dX12_tellsActs_25 hS (by omega) (by omega) (by refine ⟨iI_inj (by unfold tellsV; (repeat' split) <;> first | rfl | omega), ?_⟩; unfold tellsT; first | (rw [if_pos (by omega)]; done) | (rw [if_pos (by omega)]; rfl) | (rw [if_neg (by omega), if_pos (by omega)]; done) | (rw [if_neg (by omega), if_pos (by omega)]; rfl) | (rw [if_neg (by omega), if_neg (by omega)]; done) | (rw [if_neg (by omega), if_neg (by omega)]; rfl))
set_option maxHeartbeats 4000000 in
set_option maxRecDepth 100000 in
theorem c_X12_act (l : Launch) (g : GG) (h0 : Nat) (ad : Nat → Nat) (F : Nat → Int) (A : Nat → Nat → Int) (S : Nat → Int) (hSA : A 1 = S) (n : Int) (act : Int) (x : Int) (h1 : rng n) (h2 : rng act) (hI : InvD S) (sz : Nat) : MwrI l g yX12_act cX12_act 4 8 0 0 [.ref h0, .int (iI n), .int (iI act), .int (iI x)] sz (RW g h0 ad F A) (fun v w => v = iI (actV S n act x) ∧ ∃ k1 k2 k3, w = RW g h0 ad (va_up (va_up (va_up (va_up F 24 (actT S n act (A 23)).1) 25 k1) 26 k2) 27 k3) (va_up A 23 (actT S n act (A 23)).2)) := by
  subst hSA
  refine wr_startI (own := RX12) (by decide) rfl (Nat.le_of_ble_eq_true rfl) ?_
  intro Pg Ev s Mi args below Mt Cd ls Q Aw hC hK hS hnm hl hQ
  have hD0 := hI.1
  have hl : lv_has ls 4 [(0, .ref h0), (1, .int (iI n)), (2, .int (iI act)), (3, .int (iI x))] := hl
  obtain ⟨H, hH⟩ : ∃ H, H = s.heap := ⟨_, rfl⟩
  obtain ⟨locs, hlo⟩ : ∃ locs : List Loc, locs = [] := ⟨_, rfl⟩
  have hS : St g Aw s.heap H locs (RW g h0 ad F A) := by rw [hH, hlo]; exact hS
  have goal : W Pg l Ev (rmC 8 0 0) s Mi args below Mt Cd H locs 0 0 Q (F0 Mi 0 ls []) := ?goal
  · rw [hH, hlo] at goal; exact goal
  clear hH hlo
  refine li_aload_n hC hl 0 rfl dX12_act_0 ?_
  refine li_iconst hC dX12_act_1 ?_
  refine li_put hC hK hS ck_X12 0 rfl 24 (by decide) fl_X12_283 rfl rfl (v := .int (iI 0)) rfl rfl (Nat.le_of_ble_eq_true rfl) (ws' := RW g h0 ad (va_up F 24 0) A) rfl dX12_act_2 (fun H locs hS => ?_)
  refine li_aload_n hC hl 0 rfl dX12_act_5 ?_
  refine li_iload_n hC hl 1 rfl dX12_act_6 ?_
  refine ro_callVi hC (c_X12_isName l g h0 (A 1) n h1 hI) mk_X12_isName ml_X12_189 (rr (by decide)) ⟨Nat.le_of_ble_eq_true rfl, Nat.le_of_ble_eq_true rfl⟩ hK.1 (hS.ro hK) (RW_pic (F := va_up F 24 0) (A := A) hS) (li_recv hK.1 ck_X12 (hS.1 0 _ rfl)) rfl hl.1 rfl (Nat.le_of_ble_eq_true rfl) dX12_act_7 ?_
  refine li_ifeq_b (tgt := 22) hC (by decide) dX12_act_10 (fun c1 => ?_) (fun c1 => ?_)
  · refine li_iconst hC dX12_act_22 ?_
    exact hQ _ _ _ _ _ _ _ _ dX12_act_23 hS (by omega) (by omega) (by refine ⟨iI_inj (by unfold actV; rw [iteP_f (by omega)]), ⟨F 25, F 26, F 27, ?_⟩⟩; unfold actT; rw [iteP_f (by omega)]; rfl)
  · refine li_iload_n hC hl 2 rfl dX12_act_13 ?_
    refine li_iconst hC dX12_act_14 ?_
    refine li_iconst hC dX12_act_15 ?_
    refine ro_callSi hC (c_X12_in l g act 0 2 h2 (rg (by decide) (by decide)) (rg (by decide) (by decide))) mk_X12_in ml_X12_56 (rr (by decide)) ⟨Nat.le_of_ble_eq_true rfl, Nat.le_of_ble_eq_true rfl⟩ hK.1 (hS.ro hK) trivial rfl hl.1 rfl (Nat.le_of_ble_eq_true rfl) dX12_act_16 ?_
    refine li_ifne_b (tgt := 24) hC (by decide) dX12_act_19 (fun c2 => ?_) (fun c2 => ?_)
    · refine li_aload_n hC hl 0 rfl dX12_act_24 ?_
      refine li_aload_n hC hl 0 rfl dX12_act_25 ?_
      refine li_get hC hK.1 ck_X12 (hS.1 0 _ rfl) 1 (by decide) fl_X12_9 rfl (v := .ref (ad 1)) rfl dX12_act_26 ?_
      refine li_bipush hC (z := 7) rfl dX12_act_29 ?_
      refine li_iload_n hC hl 1 rfl dX12_act_31 ?_
      refine li_iadd hC dX12_act_32 ?_
      refine li_iald (f := (A 1)) hC hK.1 (hS.1 1 _ rfl) ⟨by omega, by omega⟩ (by decide) dX12_act_33 ?_
      have q3 := hI.2 n (by omega) (by omega)
      refine li_put hC hK hS ck_X12 0 rfl 25 (by decide) fl_X12_292 rfl rfl (v := .int (iI ((A 1) ((7 + n).toNat)))) rfl rfl (Nat.le_of_ble_eq_true rfl) (ws' := RW g h0 ad (va_up (va_up F 24 0) 25 ((A 1) ((7 + n).toNat))) A) rfl dX12_act_34 (fun H locs hS => ?_)
      refine li_aload_n hC hl 0 rfl dX12_act_37 ?_
      refine li_iload_n hC hl 1 rfl dX12_act_38 ?_
      refine li_put hC hK hS ck_X12 0 rfl 26 (by decide) fl_X12_289 rfl rfl (v := .int (iI n)) rfl rfl (Nat.le_of_ble_eq_true rfl) (ws' := RW g h0 ad (va_up (va_up (va_up F 24 0) 25 ((A 1) ((7 + n).toNat))) 26 n) A) rfl dX12_act_39 (fun H locs hS => ?_)
      refine li_aload_n hC hl 0 rfl dX12_act_42 ?_
      refine li_aload_n hC hl 0 rfl dX12_act_43 ?_
      refine li_get hC hK.1 ck_X12 (hS.1 0 _ rfl) 1 (by decide) fl_X12_9 rfl (v := .ref (ad 1)) rfl dX12_act_44 ?_
      refine li_bipush hC (z := 14) rfl dX12_act_47 ?_
      refine li_iload_n hC hl 1 rfl dX12_act_49 ?_
      refine li_iadd hC dX12_act_50 ?_
      refine li_iald (f := (A 1)) hC hK.1 (hS.1 1 _ rfl) ⟨by omega, by omega⟩ (by decide) dX12_act_51 ?_
      refine li_put hC hK hS ck_X12 0 rfl 27 (by decide) fl_X12_304 rfl rfl (v := .int (iI ((A 1) ((14 + n).toNat)))) rfl rfl (Nat.le_of_ble_eq_true rfl) (ws' := RW g h0 ad (va_up (va_up (va_up (va_up F 24 0) 25 ((A 1) ((7 + n).toNat))) 26 n) 27 ((A 1) ((14 + n).toNat))) A) rfl dX12_act_52 (fun H locs hS => ?_)
      refine li_iload_n hC hl 2 rfl dX12_act_55 ?_
      refine li_if_ne (tgt := 67) hC (by decide) h2 dX12_act_56 (fun c4 => ?_) (fun c4 => ?_)
      · refine li_iload_n hC hl 2 rfl dX12_act_67 ?_
        refine li_iconst hC dX12_act_68 ?_
        refine li_icmp_ne (tgt := 80) hC (by decide) h2 (rg (by decide) (by decide)) dX12_act_69 (fun c5 => ?_) (fun c5 => ?_)
        · refine li_aload_n hC hl 0 rfl dX12_act_80 ?_
          refine li_iload_n hC hl 3 rfl dX12_act_81 ?_
          refine wr_callVi hC (c_X12_tellsActs l g h0 ad (va_up (va_up (va_up (va_up F 24 0) 25 ((A 1) ((7 + n).toNat))) 26 n) 27 ((A 1) ((14 + n).toNat))) A (A 1) rfl 0 (A 23) rfl rfl ((A 1) ((7 + n).toNat)) n ((A 1) ((14 + n).toNat)) rfl rfl rfl x (by omega) (by omega) _) mk_X12_tellsActs ml_X12_316 (rr (by decide)) ⟨by simp only [rmC]; omega, by simp only [rmC]; omega⟩ hK hS (li_recv hK.1 ck_X12 (hS.1 0 _ rfl)) rfl hl.1 rfl (Nat.le_of_ble_eq_true rfl) dX12_act_82 (fun v w H locs hp hS => ?_)
          obtain ⟨rfl, rfl⟩ := hp
          have q6 := tellsT_1 ((A 1) ((7 + n).toNat)) (0, (A 23))
          try dsimp only at q6
          exact hQ _ _ _ _ _ _ _ _ dX12_act_85 hS (by omega) (by omega) (by refine ⟨iI_inj (by unfold actV; rw [iteP_t (by omega)]; (repeat' split) <;> first | rfl | omega), ⟨(A 1) (7 + n).toNat, n, (A 1) (14 + n).toNat, ?_⟩⟩; unfold actT; rw [iteP_t (by omega)]; first | (rw [if_pos (by omega)]; rfl) | (rw [if_neg (by omega), if_pos (by omega)]; rfl) | (rw [if_neg (by omega), if_neg (by omega)]; rfl))
        · refine li_aload_n hC hl 0 rfl dX12_act_72 ?_
          refine li_iload_n hC hl 3 rfl dX12_act_73 ?_
          refine wr_callVi hC (c_X12_readsActs l g h0 ad (va_up (va_up (va_up (va_up F 24 0) 25 ((A 1) ((7 + n).toNat))) 26 n) 27 ((A 1) ((14 + n).toNat))) A (A 1) rfl 0 (A 23) rfl rfl ((A 1) ((7 + n).toNat)) n ((A 1) ((14 + n).toNat)) rfl rfl rfl x (by omega) (by omega) _) mk_X12_readsActs ml_X12_310 (rr (by decide)) ⟨by simp only [rmC]; omega, by simp only [rmC]; omega⟩ hK hS (li_recv hK.1 ck_X12 (hS.1 0 _ rfl)) rfl hl.1 rfl (Nat.le_of_ble_eq_true rfl) dX12_act_74 (fun v w H locs hp hS => ?_)
          obtain ⟨rfl, rfl⟩ := hp
          have q7 := readsT_1 ((A 1) ((7 + n).toNat)) (0, (A 23))
          try dsimp only at q7
          refine li_goto (tgt := 85) hC (by decide) dX12_act_77 ?_
          exact hQ _ _ _ _ _ _ _ _ dX12_act_85 hS (by omega) (by omega) (by refine ⟨iI_inj (by unfold actV; rw [iteP_t (by omega)]; (repeat' split) <;> first | rfl | omega), ⟨(A 1) (7 + n).toNat, n, (A 1) (14 + n).toNat, ?_⟩⟩; unfold actT; rw [iteP_t (by omega)]; first | (rw [if_pos (by omega)]; rfl) | (rw [if_neg (by omega), if_pos (by omega)]; rfl) | (rw [if_neg (by omega), if_neg (by omega)]; rfl))
      · refine li_aload_n hC hl 0 rfl dX12_act_59 ?_
        refine li_iload_n hC hl 3 rfl dX12_act_60 ?_
        refine wr_callVi hC (c_X12_liesActs l g h0 ad (va_up (va_up (va_up (va_up F 24 0) 25 ((A 1) ((7 + n).toNat))) 26 n) 27 ((A 1) ((14 + n).toNat))) A (A 1) rfl 0 (A 23) rfl rfl ((A 1) ((7 + n).toNat)) n ((A 1) ((14 + n).toNat)) rfl rfl rfl x (by omega) (by omega) _) mk_X12_liesActs ml_X12_301 (rr (by decide)) ⟨by simp only [rmC]; omega, by simp only [rmC]; omega⟩ hK hS (li_recv hK.1 ck_X12 (hS.1 0 _ rfl)) rfl hl.1 rfl (Nat.le_of_ble_eq_true rfl) dX12_act_61 (fun v w H locs hp hS => ?_)
        obtain ⟨rfl, rfl⟩ := hp
        have q8 := liesT_1 ((A 1) ((7 + n).toNat)) (0, (A 23))
        try dsimp only at q8
        refine li_goto (tgt := 85) hC (by decide) dX12_act_64 ?_
        exact hQ _ _ _ _ _ _ _ _ dX12_act_85 hS (by omega) (by omega) (by refine ⟨iI_inj (by unfold actV; rw [iteP_t (by omega)]; (repeat' split) <;> first | rfl | omega), ⟨(A 1) (7 + n).toNat, n, (A 1) (14 + n).toNat, ?_⟩⟩; unfold actT; rw [iteP_t (by omega)]; first | (rw [if_pos (by omega)]; rfl) | (rw [if_neg (by omega), if_pos (by omega)]; rfl) | (rw [if_neg (by omega), if_neg (by omega)]; rfl))
    · refine li_iconst hC dX12_act_22 ?_
      exact hQ _ _ _ _ _ _ _ _ dX12_act_23 hS (by omega) (by omega) (by refine ⟨iI_inj (by unfold actV; rw [iteP_f (by omega)]), ⟨F 25, F 26, F 27, ?_⟩⟩; unfold actT; rw [iteP_f (by omega)]; rfl)
set_option maxHeartbeats 4000000 in
set_option maxRecDepth 100000 in
theorem c_X12_trace (l : Launch) (g : GG) (h0 : Nat) (ad : Nat → Nat) (F : Nat → Int) (A : Nat → Nat → Int) (S : Nat → Int) (hSA : A 1 = S) (i : Int) (h1 : rng i) (r : Int) (b : Nat → Int) (hr9 : F 24 = r) (hb9 : A 23 = b) (hr : 0 ≤ r ∧ r ≤ 1000) (sz : Nat) : MwrI l g yX12_trace cX12_trace 2 2 0 0 [.ref h0, .int (iI i)] sz (RW g h0 ad F A) (fun v w => v = iI (traceV (r, b) i) ∧ w = RW g h0 ad F A) := by
  subst hSA
  subst hr9 hb9
  refine wr_startI (own := RX12) (by decide) rfl (Nat.le_of_ble_eq_true rfl) ?_
  intro Pg Ev s Mi args below Mt Cd ls Q Aw hC hK hS hnm hl hQ
  have hl : lv_has ls 2 [(0, .ref h0), (1, .int (iI i))] := hl
  obtain ⟨H, hH⟩ : ∃ H, H = s.heap := ⟨_, rfl⟩
  obtain ⟨locs, hlo⟩ : ∃ locs : List Loc, locs = [] := ⟨_, rfl⟩
  have hS : St g Aw s.heap H locs (RW g h0 ad F A) := by rw [hH, hlo]; exact hS
  have goal : W Pg l Ev (rmC 2 0 0) s Mi args below Mt Cd H locs 0 0 Q (F0 Mi 0 ls []) := ?goal
  · rw [hH, hlo] at goal; exact goal
  clear hH hlo
  refine li_iload_n hC hl 1 rfl dX12_trace_0 ?_
  refine li_iconst hC dX12_trace_1 ?_
  refine li_aload_n hC hl 0 rfl dX12_trace_2 ?_
  refine li_get hC hK.1 ck_X12 (hS.1 0 _ rfl) 24 (by decide) fl_X12_283 rfl (v := .int (iI (F 24))) rfl dX12_trace_3 ?_
  refine li_bipush hC (z := 20) rfl dX12_trace_6 ?_
  refine li_icmp_ge (tgt := 18) hC (by decide) (rg (by omega) (by omega)) (rg (by decide) (by decide)) dX12_trace_8 (fun c1 => ?_) (fun c1 => ?_)
  · refine li_bipush hC (z := 20) rfl dX12_trace_18 ?_
    refine li_iconst hC dX12_trace_20 ?_
    refine li_isub hC dX12_trace_21 ?_
    refine ro_callSi hC (c_X12_in l g i 0 (20 - 1) h1 (rg (by decide) (by decide)) (rg (by omega) (by omega))) mk_X12_in ml_X12_56 (rr (by decide)) ⟨Nat.le_of_ble_eq_true rfl, Nat.le_of_ble_eq_true rfl⟩ hK.1 (hS.ro hK) trivial rfl hl.1 rfl (Nat.le_of_ble_eq_true rfl) dX12_trace_22 ?_
    refine li_ifeq_b (tgt := 37) hC (by decide) dX12_trace_25 (fun c2 => ?_) (fun c2 => ?_)
    · refine li_iconst hC dX12_trace_37 ?_
      exact hQ _ _ _ _ _ _ _ _ dX12_trace_38 hS (by omega) (by omega) (⟨iI_inj (by unfold traceV; first | (rw [iteP_t ⟨by omega, by show _ < F 24; omega, by omega⟩]; done) | (rw [iteP_f (by show ¬ (0 ≤ i ∧ i < F 24 ∧ i < 20); omega)]; done)), rfl⟩)
    · refine li_aload_n hC hl 0 rfl dX12_trace_28 ?_
      refine li_get hC hK.1 ck_X12 (hS.1 0 _ rfl) 23 (by decide) fl_X12_49 rfl (v := .ref (ad 23)) rfl dX12_trace_29 ?_
      refine li_iload_n hC hl 1 rfl dX12_trace_32 ?_
      refine li_iald (f := (A 23)) hC hK.1 (hS.1 13 _ rfl) ⟨by omega, by omega⟩ (by decide) dX12_trace_33 ?_
      refine li_goto (tgt := 38) hC (by decide) dX12_trace_34 ?_
      exact hQ _ _ _ _ _ _ _ _ dX12_trace_38 hS (by omega) (by omega) (⟨iI_inj (by unfold traceV; first | (rw [iteP_t ⟨by omega, by show _ < F 24; omega, by omega⟩]; done) | (rw [iteP_f (by show ¬ (0 ≤ i ∧ i < F 24 ∧ i < 20); omega)]; done)), rfl⟩)
  · refine li_aload_n hC hl 0 rfl dX12_trace_11 ?_
    refine li_get hC hK.1 ck_X12 (hS.1 0 _ rfl) 24 (by decide) fl_X12_283 rfl (v := .int (iI (F 24))) rfl dX12_trace_12 ?_
    refine li_goto (tgt := 20) hC (by decide) dX12_trace_15 ?_
    refine li_iconst hC dX12_trace_20 ?_
    refine li_isub hC dX12_trace_21 ?_
    refine ro_callSi hC (c_X12_in l g i 0 ((F 24) - 1) h1 (rg (by decide) (by decide)) (rg (by omega) (by omega))) mk_X12_in ml_X12_56 (rr (by decide)) ⟨Nat.le_of_ble_eq_true rfl, Nat.le_of_ble_eq_true rfl⟩ hK.1 (hS.ro hK) trivial rfl hl.1 rfl (Nat.le_of_ble_eq_true rfl) dX12_trace_22 ?_
    refine li_ifeq_b (tgt := 37) hC (by decide) dX12_trace_25 (fun c3 => ?_) (fun c3 => ?_)
    · refine li_iconst hC dX12_trace_37 ?_
      exact hQ _ _ _ _ _ _ _ _ dX12_trace_38 hS (by omega) (by omega) (⟨iI_inj (by unfold traceV; first | (rw [iteP_t ⟨by omega, by show _ < F 24; omega, by omega⟩]; done) | (rw [iteP_f (by show ¬ (0 ≤ i ∧ i < F 24 ∧ i < 20); omega)]; done)), rfl⟩)
    · refine li_aload_n hC hl 0 rfl dX12_trace_28 ?_
      refine li_get hC hK.1 ck_X12 (hS.1 0 _ rfl) 23 (by decide) fl_X12_49 rfl (v := .ref (ad 23)) rfl dX12_trace_29 ?_
      refine li_iload_n hC hl 1 rfl dX12_trace_32 ?_
      refine li_iald (f := (A 23)) hC hK.1 (hS.1 13 _ rfl) ⟨by omega, by omega⟩ (by decide) dX12_trace_33 ?_
      refine li_goto (tgt := 38) hC (by decide) dX12_trace_34 ?_
      exact hQ _ _ _ _ _ _ _ _ dX12_trace_38 hS (by omega) (by omega) (⟨iI_inj (by unfold traceV; first | (rw [iteP_t ⟨by omega, by show _ < F 24; omega, by omega⟩]; done) | (rw [iteP_f (by show ¬ (0 ≤ i ∧ i < F 24 ∧ i < 20); omega)]; done)), rfl⟩)
set_option maxHeartbeats 4000000 in
set_option maxRecDepth 100000 in
theorem c_X12_count (l : Launch) (g : GG) (h0 : Nat) (ad : Nat → Nat) (F : Nat → Int) (A : Nat → Nat → Int) (S : Nat → Int) (hSA : A 1 = S) (what : Int) (h1 : rng what) (r : Int) (hr9 : F 24 = r) (sz : Nat) : MwrI l g yX12_count cX12_count 2 2 0 0 [.ref h0, .int (iI what)] sz (RW g h0 ad F A) (fun v w => v = iI (countV S r what) ∧ w = RW g h0 ad F A) := by
  subst hSA
  subst hr9
  refine wr_startI (own := RX12) (by decide) rfl (Nat.le_of_ble_eq_true rfl) ?_
  intro Pg Ev s Mi args below Mt Cd ls Q Aw hC hK hS hnm hl hQ
  have hl : lv_has ls 2 [(0, .ref h0), (1, .int (iI what))] := hl
  obtain ⟨H, hH⟩ : ∃ H, H = s.heap := ⟨_, rfl⟩
  obtain ⟨locs, hlo⟩ : ∃ locs : List Loc, locs = [] := ⟨_, rfl⟩
  have hS : St g Aw s.heap H locs (RW g h0 ad F A) := by rw [hH, hlo]; exact hS
  have goal : W Pg l Ev (rmC 2 0 0) s Mi args below Mt Cd H locs 0 0 Q (F0 Mi 0 ls []) := ?goal
  · rw [hH, hlo] at goal; exact goal
  clear hH hlo
  refine li_iload_n hC hl 1 rfl dX12_count_0 ?_
  refine li_bipush hC (z := 6) rfl dX12_count_1 ?_
  refine li_icmp_ne (tgt := 13) hC (by decide) h1 (rg (by decide) (by decide)) dX12_count_3 (fun c1 => ?_) (fun c1 => ?_)
  · refine li_iload_n hC hl 1 rfl dX12_count_13 ?_
    refine li_iconst hC dX12_count_14 ?_
    refine li_iconst hC dX12_count_15 ?_
    refine ro_callSi hC (c_X12_in l g what 0 5 h1 (rg (by decide) (by decide)) (rg (by decide) (by decide))) mk_X12_in ml_X12_56 (rr (by decide)) ⟨Nat.le_of_ble_eq_true rfl, Nat.le_of_ble_eq_true rfl⟩ hK.1 (hS.ro hK) trivial rfl hl.1 rfl (Nat.le_of_ble_eq_true rfl) dX12_count_16 ?_
    refine li_ifeq_b (tgt := 33) hC (by decide) dX12_count_19 (fun c2 => ?_) (fun c2 => ?_)
    · refine li_iconst hC dX12_count_33 ?_
      exact hQ _ _ _ _ _ _ _ _ dX12_count_34 hS (by omega) (by omega) (⟨iI_inj (by unfold countV; first | (rw [if_pos (by omega)]; done) | (rw [if_neg (by omega), iteP_t (by omega), show (0 + what).toNat = what.toNat by omega]; done) | (rw [if_neg (by omega), iteP_f (by omega)]; done)), rfl⟩)
    · refine li_aload_n hC hl 0 rfl dX12_count_22 ?_
      refine li_get hC hK.1 ck_X12 (hS.1 0 _ rfl) 1 (by decide) fl_X12_9 rfl (v := .ref (ad 1)) rfl dX12_count_23 ?_
      refine li_iconst hC dX12_count_26 ?_
      refine li_iload_n hC hl 1 rfl dX12_count_27 ?_
      refine li_iadd hC dX12_count_28 ?_
      refine li_iald (f := (A 1)) hC hK.1 (hS.1 1 _ rfl) ⟨by omega, by omega⟩ (by decide) dX12_count_29 ?_
      refine li_goto (tgt := 34) hC (by decide) dX12_count_30 ?_
      exact hQ _ _ _ _ _ _ _ _ dX12_count_34 hS (by omega) (by omega) (⟨iI_inj (by unfold countV; first | (rw [if_pos (by omega)]; done) | (rw [if_neg (by omega), iteP_t (by omega), show (0 + what).toNat = what.toNat by omega]; done) | (rw [if_neg (by omega), iteP_f (by omega)]; done)), rfl⟩)
  · refine li_aload_n hC hl 0 rfl dX12_count_6 ?_
    refine li_get hC hK.1 ck_X12 (hS.1 0 _ rfl) 24 (by decide) fl_X12_283 rfl (v := .int (iI (F 24))) rfl dX12_count_7 ?_
    refine li_goto (tgt := 34) hC (by decide) dX12_count_10 ?_
    exact hQ _ _ _ _ _ _ _ _ dX12_count_34 hS (by omega) (by omega) (⟨iI_inj (by unfold countV; first | (rw [if_pos (by omega)]; done) | (rw [if_neg (by omega), iteP_t (by omega), show (0 + what).toNat = what.toNat by omega]; done) | (rw [if_neg (by omega), iteP_f (by omega)]; done)), rfl⟩)
