abbrev BT : Type := Int × Int × (Nat → Int)
def TB (t : BT) : Prop := -1 ≤ t.1 ∧ t.1 ≤ 7 ∧ -1000000 ≤ t.2.1 ∧ t.2.1 ≤ 100000
def isMore (by0 : Int) (t : BT) (m s : Int) : Prop := (by0 ≠ 0 → t.1 < m ∨ (m = t.1 ∧ t.2.1 < s)) ∧ (by0 = 0 → t.1 = -1 ∨ t.2.1 < s)
noncomputable def keepT (by0 D : Int) (t : BT) (m s : Int) (w : Nat → Int) : BT := iteP (isMore by0 t m s) (m, s, fun k => if (k : Int) < D then w k else t.2.2 k) t
noncomputable def keepL (by0 D : Int) (gd : Int → Int → Int) (t : BT) (u : List Int) : BT := keepT by0 D t (manyL u) (scoreL gd u) (fun k => atL u k)
theorem keepT_ext {by0 D m s : Int} {t : BT} {w w' : Nat → Int} (h : ∀ k : Nat, (k : Int) < D → w k = w' k) : keepT by0 D t m s w = keepT by0 D t m s w' := by
  have e : (fun k : Nat => if (k : Int) < D then w k else t.2.2 k) = (fun k : Nat => if (k : Int) < D then w' k else t.2.2 k) := by
    funext k
    split
    · exact h k (by assumption)
    · rfl
  unfold keepT
  rw [e]
theorem keepT_TB {by0 D m s : Int} {t : BT} {w : Nat → Int} (h : TB t) (hm : -1 ≤ m ∧ m ≤ 7) (hs : -1000000 ≤ s ∧ s ≤ 100000) : TB (keepT by0 D t m s w) := by
  unfold keepT iteP
  split
  · exact ⟨hm.1, hm.2, hs.1, hs.2⟩
  · exact h
theorem manyL_rng (u : List Int) : 0 ≤ manyL u ∧ manyL u ≤ u.length := cntB_rng _ _
theorem scoreL_rng {S : Nat → Int} (hC : InvC S) {u : List Int} (hl : u.length ≤ 7) : -7000 ≤ scoreL (goodS S) u ∧ scoreL (goodS S) u ≤ 7000 := by
  have h := part_rng (f := fun k => if atL u k = 4 then 0 else goodS S k (atL u k)) (lo := -1000) (hi := 1000) (n := u.length) hl (fun i => by
    have q := goodS_rng hC i (atL u i)
    show -1000 ≤ (if atL u i = 4 then 0 else goodS S i (atL u i)) ∧ (if atL u i = 4 then 0 else goodS S i (atL u i)) ≤ 1000
    split <;> omega) (by decide) (by decide)
  unfold scoreL
  omega
def FitA (S : Nat → Int) (wide : Int) (f : Nat → Int) : Prop := ∀ i : Int, 0 ≤ i → i < 4 * S 0 → f i.toNat = b2 (fitsS S (i / 4) (i % 4) wide)
def GoodA (S : Nat → Int) (f : Nat → Int) : Prop := ∀ i : Int, 0 ≤ i → i < 4 * S 0 → f i.toNat = goodS S (i / 4) (i % 4)
def ClA (S : Nat → Int) (f : Nat → Int) : Prop := ∀ i : Int, 0 ≤ i → i < 4 * S 0 → f i.toNat = setB (clP S (i / 4) (i % 4)) (4 * S 0).toNat
theorem fill_s {P : Int → Int → Prop} {f : Nat → Int} {j v : Int} (h0 : 0 ≤ j) (hf : ∀ i : Int, 0 ≤ i → i < j → P i (f i.toNat)) (hv : P j v) : ∀ i : Int, 0 ≤ i → i < j + 1 → P i (va_up f j.toNat v i.toNat) := by
  intro i h1 h2
  by_cases e : i = j
  · rw [e, up_same]; exact hv
  · rw [up_ne _ _ (by omega)]
    exact hf i h1 (by omega)
def okL (u : List Int) : Prop := ∀ k : Int, 0 ≤ k → k < u.length → 0 ≤ atL u k ∧ atL u k ≤ 4
def wyL (u : List Int) (w : Nat → Int) : Prop := ∀ k : Int, 0 ≤ k → k < u.length → w k.toNat = atL u k
theorem okL_app {u : List Int} {p : Int} (h : okL u) (hp : 0 ≤ p ∧ p ≤ 4) : okL (u ++ [p]) := by
  intro k h0 h1
  rw [len_app] at h1
  rcases (show k < u.length ∨ k = u.length by omega) with q | q
  · rw [atL_app h0 q]; exact h k h0 q
  · rw [q, atL_last]; exact hp
theorem wyL_app {u : List Int} {w : Nat → Int} {p : Int} (h : wyL u w) : wyL (u ++ [p]) (va_up w u.length p) := by
  intro k h0 h1
  rw [len_app] at h1
  rcases (show k < u.length ∨ k = u.length by omega) with q | q
  · rw [atL_app h0 q, up_ne _ _ (by omega)]; exact h k h0 q
  · rw [q, atL_last, Int.toNat_natCast, up_same]
theorem wyL_pre {u : List Int} {w : Nat → Int} {p : Int} (h : wyL (u ++ [p]) w) : wyL u w := by
  intro k h0 h1
  rw [h k h0 (by rw [len_app]; omega), atL_app h0 h1]
theorem okL_nil : okL [] := fun k h0 h1 => by simp at h1; omega
theorem wyL_nil (w : Nat → Int) : wyL [] w := fun k h0 h1 => by simp at h1; omega
set_option maxHeartbeats 4000000 in
set_option maxRecDepth 100000 in
theorem c_X12_looksForFits (l : Launch) (g : GG) (h0 : Nat) (ad : Nat → Nat) (F : Nat → Int) (A : Nat → Nat → Int) (S : Nat → Int) (hSA : A 1 = S) (wide : Int) (hw : 10 ≤ wide ∧ wide ≤ 30) (hI : InvD S) (sz : Nat) : MwrV l g yX12_looksForFits cX12_looksForFits 3 6 0 0 [.ref h0, .int (iI wide)] sz (RW g h0 ad F A) (fun w => ∃ f, FitA S wide f ∧ w = RW g h0 ad F (va_up A 11 f)) := by
  subst hSA
  refine wr_startV (own := RX12) (by decide) rfl (Nat.le_of_ble_eq_true rfl) ?_
  intro Pg Ev s Mi args below Mt Cd ls Q Aw hC hK hS hnm hl hQ
  have hD0 := hI.1
  have hl : lv_has ls 3 [(0, .ref h0), (1, .int (iI wide))] := hl
  obtain ⟨H, hH⟩ : ∃ H, H = s.heap := ⟨_, rfl⟩
  obtain ⟨locs, hlo⟩ : ∃ locs : List Loc, locs = [] := ⟨_, rfl⟩
  have hS : St g Aw s.heap H locs (RW g h0 ad F A) := by rw [hH, hlo]; exact hS
  have goal : W Pg l Ev (rmC 6 0 0) s Mi args below Mt Cd H locs 0 0 Q (F0 Mi 0 ls []) := ?goal
  · rw [hH, hlo] at goal; exact goal
  clear hH hlo
  refine li_iconst hC dX12_looksForFits_0 ?_
  refine li_istore_n hC (lv' := [(2, .int (iI 0)), (0, .ref h0), (1, .int (iI wide))]) hl (by decide) rfl dX12_looksForFits_1 (fun ls hl => ?_)
  have L2_1 : ∀ (fuel : Nat) (i : Int) (f : Nat → Int) (ls : Array Slot) (H : Heap) (locs : List Loc), St g Aw s.heap H locs (RW g h0 ad F (va_up A 11 f)) → lv_has ls 3 [(0, .ref h0), (1, .int (iI wide)), (2, .int (iI i))] → (0 ≤ i ∧ i ≤ 4 * (A 1) 0) → (∀ j : Int, 0 ≤ j → j < i → f j.toNat = b2 (fitsS (A 1) (j / 4) (j % 4) wide)) → ((4 * (A 1) 0 - i).toNat) < fuel → W Pg l Ev (rmC 6 0 0) s Mi args below Mt Cd H locs 0 0 Q (F0 Mi 2 ls []) := by
    intro fuel
    induction fuel with
    | zero => intro i f ls H locs hS hl hi hf hm; exact absurd hm (Nat.not_lt_zero _)
    | succ fuel ih2 =>
      intro i f ls H locs hS hl hi hf hm
      refine li_iload_n hC hl 2 rfl dX12_looksForFits_2 ?_
      refine li_iconst hC dX12_looksForFits_3 ?_
      refine li_aload_n hC hl 0 rfl dX12_looksForFits_4 ?_
      refine li_get hC hK.1 ck_X12 (hS.1 0 _ rfl) 1 (by decide) fl_X12_9 rfl (v := .ref (ad 1)) rfl dX12_looksForFits_5 ?_
      refine li_iconst hC dX12_looksForFits_8 ?_
      refine li_iald_k (k := 0) (f := (A 1)) hC hK.1 (hS.1 1 _ rfl) rfl (by decide) (by decide) dX12_looksForFits_9 ?_
      refine li_imul hC dX12_looksForFits_10 ?_
      refine li_icmp_ge (tgt := 37) hC (by decide) (rg (by omega) (by omega)) (rg (by omega) (by omega)) dX12_looksForFits_11 (fun c2 => ?_) (fun c2 => ?_)
      · exact hQ _ _ _ _ _ _ _ dX12_looksForFits_37 hS (by omega) (by omega) (⟨f, fun j h1 h2 => hf j h1 (by omega), rfl⟩)
      · refine li_aload_n hC hl 0 rfl dX12_looksForFits_14 ?_
        refine li_get hC hK.1 ck_X12 (hS.1 0 _ rfl) 11 (by decide) fl_X12_25 rfl (v := .ref (ad 11)) rfl dX12_looksForFits_15 ?_
        refine li_iload_n hC hl 2 rfl dX12_looksForFits_18 ?_
        refine li_aload_n hC hl 0 rfl dX12_looksForFits_19 ?_
        refine li_iload_n hC hl 2 rfl dX12_looksForFits_20 ?_
        refine li_iconst hC dX12_looksForFits_21 ?_
        refine li_idivN hC (by omega) (by omega) (by omega) (by omega) dX12_looksForFits_22 ?_
        refine li_iload_n hC hl 2 rfl dX12_looksForFits_23 ?_
        refine li_iconst hC dX12_looksForFits_24 ?_
        refine li_iremN hC (by omega) (by omega) (by omega) (by omega) dX12_looksForFits_25 ?_
        refine li_iload_n hC hl 1 rfl dX12_looksForFits_26 ?_
        refine ro_callVi hC (c_X12_fits l g h0 (A 1) (i / 4) (i % 4) wide (by omega) (by omega) (by omega) hI) mk_X12_fits ml_X12_167 (rr (by decide)) ⟨Nat.le_of_ble_eq_true rfl, Nat.le_of_ble_eq_true rfl⟩ hK.1 (hS.ro hK) (RW_pic (F := F) (A := va_up A 11 f) hS) (li_recv hK.1 ck_X12 (hS.1 0 _ rfl)) rfl hl.1 rfl (Nat.le_of_ble_eq_true rfl) dX12_looksForFits_27 ?_
        refine li_zast hC hK hS 5 (n := 28) (f := f) (z := i) rfl ⟨by omega, by omega⟩ (by decide) (b2_01 _) (ws' := RW g h0 ad F (va_up A 11 (va_up f i.toNat (b2 (fitsS (A 1) (i / 4) (i % 4) wide))))) rfl dX12_looksForFits_30 (fun H locs hS => ?_)
        refine li_iinc hC (lv' := [(2, .int (iI (i + 1))), (0, .ref h0), (1, .int (iI wide))]) hl 2 rfl (by decide) rfl dX12_looksForFits_31 (fun ls hl => ?_)
        refine li_goto (tgt := 2) hC (by decide) dX12_looksForFits_34 ?_
        exact ih2 (i + 1) (va_up f i.toNat (b2 (fitsS (A 1) (i / 4) (i % 4) wide))) _ _ _ hS (lv_sub hl [1, 2, 0] rfl) (by omega) (by exact fill_s (P := fun j v => v = b2 (fitsS (A 1) (j / 4) (j % 4) wide)) hi.1 hf rfl) (by omega)
  exact L2_1 (((4 * (A 1) 0 - 0).toNat) + 1) 0 (A 11) _ _ _ hS (lv_sub hl [1, 2, 0] rfl) (by omega) (by intro j h1 h2; omega) (by omega)
set_option maxHeartbeats 4000000 in
set_option maxRecDepth 100000 in
theorem c_X12_looksForGoods (l : Launch) (g : GG) (h0 : Nat) (ad : Nat → Nat) (F : Nat → Int) (A : Nat → Nat → Int) (S : Nat → Int) (hSA : A 1 = S) (hI : InvD S) (hH : InvH S) (hC0 : InvC S) (sz : Nat) : MwrV l g yX12_looksForGoods cX12_looksForGoods 2 6 0 0 [.ref h0] sz (RW g h0 ad F A) (fun w => ∃ f9 f10 f12, GoodA S f12 ∧ w = RW g h0 ad F (va_up (va_up (va_up A 9 f9) 10 f10) 12 f12)) := by
  subst hSA
  refine wr_startV (own := RX12) (by decide) rfl (Nat.le_of_ble_eq_true rfl) ?_
  intro Pg Ev s Mi args below Mt Cd ls Q Aw hC hK hS hnm hl hQ
  have hD0 := hI.1
  have hH0 := hH.1
  have hl : lv_has ls 2 [(0, .ref h0)] := hl
  obtain ⟨H, hH⟩ : ∃ H, H = s.heap := ⟨_, rfl⟩
  obtain ⟨locs, hlo⟩ : ∃ locs : List Loc, locs = [] := ⟨_, rfl⟩
  have hS : St g Aw s.heap H locs (RW g h0 ad F A) := by rw [hH, hlo]; exact hS
  have goal : W Pg l Ev (rmC 6 0 0) s Mi args below Mt Cd H locs 0 0 Q (F0 Mi 0 ls []) := ?goal
  · rw [hH, hlo] at goal; exact goal
  clear hH hlo
  refine li_iconst hC dX12_looksForGoods_0 ?_
  refine li_istore_n hC (lv' := [(1, .int (iI 0)), (0, .ref h0)]) hl (by decide) rfl dX12_looksForGoods_1 (fun ls hl => ?_)
  have L2_1 : ∀ (fuel : Nat) (i : Int) (f9 : Nat → Int) (f10 : Nat → Int) (f : Nat → Int) (ls : Array Slot) (H : Heap) (locs : List Loc), St g Aw s.heap H locs (RW g h0 ad F (va_up (va_up (va_up A 9 f9) 10 f10) 12 f)) → lv_has ls 2 [(0, .ref h0), (1, .int (iI i))] → (0 ≤ i ∧ i ≤ 4 * (A 1) 0) → (∀ j : Int, 0 ≤ j → j < i → f j.toNat = goodS (A 1) (j / 4) (j % 4)) → ((4 * (A 1) 0 - i).toNat) < fuel → W Pg l Ev (rmC 6 0 0) s Mi args below Mt Cd H locs 0 0 Q (F0 Mi 2 ls []) := by
    intro fuel
    induction fuel with
    | zero => intro i f9 f10 f ls H locs hS hl hi hf hm; exact absurd hm (Nat.not_lt_zero _)
    | succ fuel ih2 =>
      intro i f9 f10 f ls H locs hS hl hi hf hm
      refine li_iload_n hC hl 1 rfl dX12_looksForGoods_2 ?_
      refine li_iconst hC dX12_looksForGoods_3 ?_
      refine li_aload_n hC hl 0 rfl dX12_looksForGoods_4 ?_
      refine li_get hC hK.1 ck_X12 (hS.1 0 _ rfl) 1 (by decide) fl_X12_9 rfl (v := .ref (ad 1)) rfl dX12_looksForGoods_5 ?_
      refine li_iconst hC dX12_looksForGoods_8 ?_
      refine li_iald_k (k := 0) (f := (A 1)) hC hK.1 (hS.1 1 _ rfl) rfl (by decide) (by decide) dX12_looksForGoods_9 ?_
      refine li_imul hC dX12_looksForGoods_10 ?_
      refine li_icmp_ge (tgt := 36) hC (by decide) (rg (by omega) (by omega)) (rg (by omega) (by omega)) dX12_looksForGoods_11 (fun c2 => ?_) (fun c2 => ?_)
      · exact hQ _ _ _ _ _ _ _ dX12_looksForGoods_36 hS (by omega) (by omega) (⟨f9, f10, f, fun j h1 h2 => hf j h1 (by omega), rfl⟩)
      · refine li_aload_n hC hl 0 rfl dX12_looksForGoods_14 ?_
        refine li_get hC hK.1 ck_X12 (hS.1 0 _ rfl) 12 (by decide) fl_X12_28 rfl (v := .ref (ad 12)) rfl dX12_looksForGoods_15 ?_
        refine li_iload_n hC hl 1 rfl dX12_looksForGoods_18 ?_
        refine li_aload_n hC hl 0 rfl dX12_looksForGoods_19 ?_
        refine li_iload_n hC hl 1 rfl dX12_looksForGoods_20 ?_
        refine li_iconst hC dX12_looksForGoods_21 ?_
        refine li_idivN hC (by omega) (by omega) (by omega) (by omega) dX12_looksForGoods_22 ?_
        refine li_iload_n hC hl 1 rfl dX12_looksForGoods_23 ?_
        refine li_iconst hC dX12_looksForGoods_24 ?_
        refine li_iremN hC (by omega) (by omega) (by omega) (by omega) dX12_looksForGoods_25 ?_
        refine wr_callVi hC (c_X12_goodOf l g h0 ad F (va_up (va_up (va_up A 9 f9) 10 f10) 12 f) (A 1) rfl (i / 4) (i % 4) (by omega) (by omega) hI hH hC0 _) mk_X12_goodOf ml_X12_180 (rr (by decide)) ⟨by simp only [rmC]; omega, by simp only [rmC]; omega⟩ hK hS (li_recv hK.1 ck_X12 (hS.1 0 _ rfl)) rfl hl.1 rfl (Nat.le_of_ble_eq_true rfl) dX12_looksForGoods_26 (fun v w H locs hp hS => ?_)
        obtain ⟨rfl, u3, u4, rfl⟩ := hp
        have q5 := goodS_rng hC0 (i / 4) (i % 4)
        refine li_iast hC hK hS 6 (n := 28) (f := f) (z := i) rfl ⟨by omega, by omega⟩ (by decide) (ws' := RW g h0 ad F (va_up (va_up (va_up A 9 u3) 10 u4) 12 (va_up f i.toNat (goodS (A 1) (i / 4) (i % 4))))) rfl dX12_looksForGoods_29 (fun H locs hS => ?_)
        refine li_iinc hC (lv' := [(1, .int (iI (i + 1))), (0, .ref h0)]) hl 1 rfl (by decide) rfl dX12_looksForGoods_30 (fun ls hl => ?_)
        refine li_goto (tgt := 2) hC (by decide) dX12_looksForGoods_33 ?_
        exact ih2 (i + 1) u3 u4 (va_up f i.toNat (goodS (A 1) (i / 4) (i % 4))) _ _ _ hS (lv_sub hl [1, 0] rfl) (by omega) (by exact fill_s (P := fun j v => v = goodS (A 1) (j / 4) (j % 4)) hi.1 hf rfl) (by omega)
  exact L2_1 (((4 * (A 1) 0 - 0).toNat) + 1) 0 (A 9) (A 10) (A 12) _ _ _ hS (lv_sub hl [1, 0] rfl) (by omega) (by intro j h1 h2; omega) (by omega)
set_option maxHeartbeats 4000000 in
set_option maxRecDepth 100000 in
theorem c_X12_looksForClashes (l : Launch) (g : GG) (h0 : Nat) (ad : Nat → Nat) (F : Nat → Int) (A : Nat → Nat → Int) (S : Nat → Int) (hSA : A 1 = S) (hI : InvD S) (sz : Nat) : MwrV l g yX12_looksForClashes cX12_looksForClashes 3 6 0 0 [.ref h0] sz (RW g h0 ad F A) (fun w => ∃ f, ClA S f ∧ w = RW g h0 ad F (va_up A 13 f)) := by
  subst hSA
  refine wr_startV (own := RX12) (by decide) rfl (Nat.le_of_ble_eq_true rfl) ?_
  intro Pg Ev s Mi args below Mt Cd ls Q Aw hC hK hS hnm hl hQ
  have hD0 := hI.1
  have hl : lv_has ls 3 [(0, .ref h0)] := hl
  obtain ⟨H, hH⟩ : ∃ H, H = s.heap := ⟨_, rfl⟩
  obtain ⟨locs, hlo⟩ : ∃ locs : List Loc, locs = [] := ⟨_, rfl⟩
  have hS : St g Aw s.heap H locs (RW g h0 ad F A) := by rw [hH, hlo]; exact hS
  have goal : W Pg l Ev (rmC 6 0 0) s Mi args below Mt Cd H locs 0 0 Q (F0 Mi 0 ls []) := ?goal
  · rw [hH, hlo] at goal; exact goal
  clear hH hlo
  refine li_iconst hC dX12_looksForClashes_0 ?_
  refine li_istore_n hC (lv' := [(1, .int (iI 0)), (0, .ref h0)]) hl (by decide) rfl dX12_looksForClashes_1 (fun ls hl => ?_)
  have L2_1 : ∀ (fuel : Nat) (i : Int) (f : Nat → Int) (ls : Array Slot) (H : Heap) (locs : List Loc), St g Aw s.heap H locs (RW g h0 ad F (va_up A 13 f)) → lv_has ls 3 [(0, .ref h0), (1, .int (iI i))] → (0 ≤ i ∧ i ≤ 4 * (A 1) 0) → (∀ j : Int, 0 ≤ j → j < i → f j.toNat = setB (clP (A 1) (j / 4) (j % 4)) (4 * (A 1) 0).toNat) → ((4 * (A 1) 0 - i).toNat) < fuel → W Pg l Ev (rmC 6 0 0) s Mi args below Mt Cd H locs 0 0 Q (F0 Mi 2 ls []) := by
    intro fuel
    induction fuel with
    | zero => intro i f ls H locs hS hl hi hf hm; exact absurd hm (Nat.not_lt_zero _)
    | succ fuel ih2 =>
      intro i f ls H locs hS hl hi hf hm
      refine li_iload_n hC hl 1 rfl dX12_looksForClashes_2 ?_
      refine li_iconst hC dX12_looksForClashes_3 ?_
      refine li_aload_n hC hl 0 rfl dX12_looksForClashes_4 ?_
      refine li_get hC hK.1 ck_X12 (hS.1 0 _ rfl) 1 (by decide) fl_X12_9 rfl (v := .ref (ad 1)) rfl dX12_looksForClashes_5 ?_
      refine li_iconst hC dX12_looksForClashes_8 ?_
      refine li_iald_k (k := 0) (f := (A 1)) hC hK.1 (hS.1 1 _ rfl) rfl (by decide) (by decide) dX12_looksForClashes_9 ?_
      refine li_imul hC dX12_looksForClashes_10 ?_
      refine li_icmp_ge (tgt := 91) hC (by decide) (rg (by omega) (by omega)) (rg (by omega) (by omega)) dX12_looksForClashes_11 (fun c2 => ?_) (fun c2 => ?_)
      · exact hQ _ _ _ _ _ _ _ dX12_looksForClashes_91 hS (by omega) (by omega) (⟨f, fun j h1 h2 => hf j h1 (by omega), rfl⟩)
      · refine li_aload_n hC hl 0 rfl dX12_looksForClashes_14 ?_
        refine li_get hC hK.1 ck_X12 (hS.1 0 _ rfl) 13 (by decide) fl_X12_31 rfl (v := .ref (ad 13)) rfl dX12_looksForClashes_15 ?_
        refine li_iload_n hC hl 1 rfl dX12_looksForClashes_18 ?_
        refine li_iconst hC dX12_looksForClashes_19 ?_
        refine li_iast hC hK hS 7 (n := 28) (f := f) (z := i) rfl ⟨by omega, by omega⟩ (by decide) (ws' := RW g h0 ad F (va_up A 13 (va_up f i.toNat 0))) rfl dX12_looksForClashes_20 (fun H locs hS => ?_)
        refine li_iconst hC dX12_looksForClashes_21 ?_
        refine li_istore_n hC (lv' := [(2, .int (iI 0)), (0, .ref h0), (1, .int (iI i))]) hl (by decide) rfl dX12_looksForClashes_22 (fun ls hl => ?_)
        have L23_3 : ∀ (fuel : Nat) (k : Int) (z : Int) (ls : Array Slot) (H : Heap) (locs : List Loc), St g Aw s.heap H locs (RW g h0 ad F (va_up A 13 (va_up f i.toNat z))) → lv_has ls 3 [(0, .ref h0), (1, .int (iI i)), (2, .int (iI k))] → (0 ≤ k ∧ k ≤ 4 * (A 1) 0) → (z = setB (clP (A 1) (i / 4) (i % 4)) k.toNat) → ((4 * (A 1) 0 - k).toNat) < fuel → W Pg l Ev (rmC 6 0 0) s Mi args below Mt Cd H locs 0 0 Q (F0 Mi 23 ls []) := by
          intro fuel
          induction fuel with
          | zero => intro k z ls H locs hS hl hk hz hm; exact absurd hm (Nat.not_lt_zero _)
          | succ fuel ih23 =>
            intro k z ls H locs hS hl hk hz hm
            refine li_iload_n hC hl 2 rfl dX12_looksForClashes_23 ?_
            refine li_iconst hC dX12_looksForClashes_24 ?_
            refine li_aload_n hC hl 0 rfl dX12_looksForClashes_25 ?_
            refine li_get hC hK.1 ck_X12 (hS.1 0 _ rfl) 1 (by decide) fl_X12_9 rfl (v := .ref (ad 1)) rfl dX12_looksForClashes_26 ?_
            refine li_iconst hC dX12_looksForClashes_29 ?_
            refine li_iald_k (k := 0) (f := (A 1)) hC hK.1 (hS.1 1 _ rfl) rfl (by decide) (by decide) dX12_looksForClashes_30 ?_
            refine li_imul hC dX12_looksForClashes_31 ?_
            refine li_icmp_ge (tgt := 85) hC (by decide) (rg (by omega) (by omega)) (rg (by omega) (by omega)) dX12_looksForClashes_32 (fun c4 => ?_) (fun c4 => ?_)
            · refine li_iinc hC (lv' := [(1, .int (iI (i + 1))), (0, .ref h0), (2, .int (iI k))]) hl 1 rfl (by decide) rfl dX12_looksForClashes_85 (fun ls hl => ?_)
              refine li_goto (tgt := 2) hC (by decide) dX12_looksForClashes_88 ?_
              exact ih2 (i + 1) (va_up f i.toNat z) _ _ _ hS (lv_sub hl [1, 0] rfl) (by omega) (by exact fill_s (P := fun j v => v = setB (clP (A 1) (j / 4) (j % 4)) (4 * (A 1) 0).toNat) hi.1 hf (by rw [hz, show k = 4 * (A 1) 0 by omega])) (by omega)
            · refine li_aload_n hC hl 0 rfl dX12_looksForClashes_35 ?_
              refine li_get hC hK.1 ck_X12 (hS.1 0 _ rfl) 13 (by decide) fl_X12_31 rfl (v := .ref (ad 13)) rfl dX12_looksForClashes_36 ?_
              refine li_iload_n hC hl 1 rfl dX12_looksForClashes_39 ?_
              refine li_dup2 hC rfl rfl dX12_looksForClashes_40 ?_
              refine li_iald (f := va_up f i.toNat z) hC hK.1 (hS.1 7 _ rfl) ⟨by omega, by omega⟩ (by decide) dX12_looksForClashes_41 ?_
              rw [up_same]
              refine li_iload_n hC hl 1 rfl dX12_looksForClashes_42 ?_
              refine li_iconst hC dX12_looksForClashes_43 ?_
              refine li_idivN hC (by omega) (by omega) (by omega) (by omega) dX12_looksForClashes_44 ?_
              refine li_iload_n hC hl 2 rfl dX12_looksForClashes_45 ?_
              refine li_iconst hC dX12_looksForClashes_46 ?_
              refine li_idivN hC (by omega) (by omega) (by omega) (by omega) dX12_looksForClashes_47 ?_
              refine li_icmp_eq (tgt := 76) hC (by decide) (rg (by omega) (by omega)) (rg (by omega) (by omega)) dX12_looksForClashes_48 (fun c5 => ?_) (fun c5 => ?_)
              · refine li_iconst hC dX12_looksForClashes_76 ?_
                refine li_ior hC dX12_looksForClashes_77 ?_
                refine li_iast hC hK hS 7 (n := 28) (f := va_up f i.toNat z) (z := i) rfl ⟨by omega, by omega⟩ (by decide) (ws' := RW g h0 ad F (va_up A 13 (va_up (va_up f i.toNat z) i.toNat (ior z 0)))) rfl dX12_looksForClashes_78 (fun H locs hS => ?_)
                rw [up_up] at hS
                refine li_iinc hC (lv' := [(2, .int (iI (k + 1))), (0, .ref h0), (1, .int (iI i))]) hl 2 rfl (by decide) rfl dX12_looksForClashes_79 (fun ls hl => ?_)
                refine li_goto (tgt := 23) hC (by decide) dX12_looksForClashes_82 ?_
                exact ih23 (k + 1) (ior z 0) _ _ _ hS (lv_sub hl [1, 2, 0] rfl) (by omega) (by rw [hz]; exact setB_f0 (P := (clP (A 1) (i / 4) (i % 4))) hk.1 (by omega) (by unfold clP; omega)) (by omega)
              · refine li_aload_n hC hl 0 rfl dX12_looksForClashes_51 ?_
                refine li_iload_n hC hl 1 rfl dX12_looksForClashes_52 ?_
                refine li_iconst hC dX12_looksForClashes_53 ?_
                refine li_idivN hC (by omega) (by omega) (by omega) (by omega) dX12_looksForClashes_54 ?_
                refine li_iload_n hC hl 1 rfl dX12_looksForClashes_55 ?_
                refine li_iconst hC dX12_looksForClashes_56 ?_
                refine li_iremN hC (by omega) (by omega) (by omega) (by omega) dX12_looksForClashes_57 ?_
                refine li_iload_n hC hl 2 rfl dX12_looksForClashes_58 ?_
                refine li_iconst hC dX12_looksForClashes_59 ?_
                refine li_idivN hC (by omega) (by omega) (by omega) (by omega) dX12_looksForClashes_60 ?_
                refine li_iload_n hC hl 2 rfl dX12_looksForClashes_61 ?_
                refine li_iconst hC dX12_looksForClashes_62 ?_
                refine li_iremN hC (by omega) (by omega) (by omega) (by omega) dX12_looksForClashes_63 ?_
                refine ro_callVi hC (c_X12_bothAt l g h0 (A 1) (i / 4) (i % 4) (k / 4) (k % 4) (by omega) (by omega) (by omega) (by omega) hI) mk_X12_bothAt ml_X12_170 (rr (by decide)) ⟨Nat.le_of_ble_eq_true rfl, Nat.le_of_ble_eq_true rfl⟩ hK.1 (hS.ro hK) (RW_pic (F := F) (A := va_up A 13 (va_up f i.toNat z)) hS) (li_recv hK.1 ck_X12 (hS.1 0 _ rfl)) rfl hl.1 rfl (Nat.le_of_ble_eq_true rfl) dX12_looksForClashes_64 ?_
                have q6 := bothS_rng hI (a := i / 4) (p := i % 4) (b := k / 4) (q := k % 4) (by omega)
                refine li_if_le (tgt := 76) hC (by decide) (rg (by omega) (by omega)) dX12_looksForClashes_67 (fun c7 => ?_) (fun c7 => ?_)
                · refine li_iconst hC dX12_looksForClashes_76 ?_
                  refine li_ior hC dX12_looksForClashes_77 ?_
                  refine li_iast hC hK hS 7 (n := 28) (f := va_up f i.toNat z) (z := i) rfl ⟨by omega, by omega⟩ (by decide) (ws' := RW g h0 ad F (va_up A 13 (va_up (va_up f i.toNat z) i.toNat (ior z 0)))) rfl dX12_looksForClashes_78 (fun H locs hS => ?_)
                  rw [up_up] at hS
                  refine li_iinc hC (lv' := [(2, .int (iI (k + 1))), (0, .ref h0), (1, .int (iI i))]) hl 2 rfl (by decide) rfl dX12_looksForClashes_79 (fun ls hl => ?_)
                  refine li_goto (tgt := 23) hC (by decide) dX12_looksForClashes_82 ?_
                  exact ih23 (k + 1) (ior z 0) _ _ _ hS (lv_sub hl [1, 2, 0] rfl) (by omega) (by rw [hz]; exact setB_f0 (P := (clP (A 1) (i / 4) (i % 4))) hk.1 (by omega) (by unfold clP; omega)) (by omega)
                · refine li_iconst hC dX12_looksForClashes_70 ?_
                  refine li_iload_n hC hl 2 rfl dX12_looksForClashes_71 ?_
                  refine li_ishl hC dX12_looksForClashes_72 ?_
                  refine li_goto (tgt := 77) hC (by decide) dX12_looksForClashes_73 ?_
                  refine li_ior hC dX12_looksForClashes_77 ?_
                  refine li_iast hC hK hS 7 (n := 28) (f := va_up f i.toNat z) (z := i) rfl ⟨by omega, by omega⟩ (by decide) (ws' := RW g h0 ad F (va_up A 13 (va_up (va_up f i.toNat z) i.toNat (ior z (ishl 1 k))))) rfl dX12_looksForClashes_78 (fun H locs hS => ?_)
                  rw [up_up] at hS
                  refine li_iinc hC (lv' := [(2, .int (iI (k + 1))), (0, .ref h0), (1, .int (iI i))]) hl 2 rfl (by decide) rfl dX12_looksForClashes_79 (fun ls hl => ?_)
                  refine li_goto (tgt := 23) hC (by decide) dX12_looksForClashes_82 ?_
                  exact ih23 (k + 1) (ior z (ishl 1 k)) _ _ _ hS (lv_sub hl [1, 2, 0] rfl) (by omega) (by rw [hz]; exact setB_t (P := (clP (A 1) (i / 4) (i % 4))) hk.1 (by omega) ⟨by omega, by omega⟩) (by omega)
        exact L23_3 (((4 * (A 1) 0 - 0).toNat) + 1) 0 0 _ _ _ hS (lv_sub hl [1, 2, 0] rfl) (by omega) (by rfl) (by omega)
  exact L2_1 (((4 * (A 1) 0 - 0).toNat) + 1) 0 (A 13) _ _ _ hS (lv_sub hl [1, 0] rfl) (by omega) (by intro j h1 h2; omega) (by omega)
set_option maxHeartbeats 4000000 in
set_option maxRecDepth 100000 in
theorem c_X12_looksForPairs (l : Launch) (g : GG) (h0 : Nat) (ad : Nat → Nat) (F : Nat → Int) (A : Nat → Nat → Int) (S : Nat → Int) (hSA : A 1 = S) (hI : InvD S) (hH : InvH S) (hC0 : InvC S) (sz : Nat) : MwrV l g yX12_looksForPairs cX12_looksForPairs 1 7 0 0 [.ref h0] sz (RW g h0 ad F A) (fun w => ∃ f9 f10 f11 f12 f13, FitA S (wideS S) f11 ∧ GoodA S f12 ∧ ClA S f13 ∧ w = RW g h0 ad F (va_up (va_up (va_up (va_up (va_up A 9 f9) 10 f10) 11 f11) 12 f12) 13 f13)) := by
  subst hSA
  refine wr_startV (own := RX12) (by decide) rfl (Nat.le_of_ble_eq_true rfl) ?_
  intro Pg Ev s Mi args below Mt Cd ls Q Aw hC hK hS hnm hl hQ
  have hD0 := hI.1
  have hH0 := hH.1
  have hl : lv_has ls 1 [(0, .ref h0)] := hl
  obtain ⟨H, hH⟩ : ∃ H, H = s.heap := ⟨_, rfl⟩
  obtain ⟨locs, hlo⟩ : ∃ locs : List Loc, locs = [] := ⟨_, rfl⟩
  have hS : St g Aw s.heap H locs (RW g h0 ad F A) := by rw [hH, hlo]; exact hS
  have goal : W Pg l Ev (rmC 7 0 0) s Mi args below Mt Cd H locs 0 0 Q (F0 Mi 0 ls []) := ?goal
  · rw [hH, hlo] at goal; exact goal
  clear hH hlo
  refine li_aload_n hC hl 0 rfl dX12_looksForPairs_0 ?_
  refine li_aload_n hC hl 0 rfl dX12_looksForPairs_1 ?_
  refine ro_callVi hC (c_X12_wideNow l g h0 (A 1) hH) mk_X12_wideNow ml_X12_164 (rr (by decide)) ⟨Nat.le_of_ble_eq_true rfl, Nat.le_of_ble_eq_true rfl⟩ hK.1 (hS.ro hK) (RW_pic (F := F) (A := A) hS) (li_recv hK.1 ck_X12 (hS.1 0 _ rfl)) rfl hl.1 rfl (Nat.le_of_ble_eq_true rfl) dX12_looksForPairs_2 ?_
  have q1 := wideS_rng (A 1)
  refine wr_callVv hC (c_X12_looksForFits l g h0 ad F A (A 1) rfl (wideS (A 1)) (by omega) hI _) mk_X12_looksForFits ml_X12_217 (rr (by decide)) ⟨by simp only [rmC]; omega, by simp only [rmC]; omega⟩ hK hS (li_recv hK.1 ck_X12 (hS.1 0 _ rfl)) rfl hl.1 rfl (Nat.le_of_ble_eq_true rfl) dX12_looksForPairs_5 (fun w H locs hp hS => ?_)
  obtain ⟨u2, hft3, rfl⟩ := hp
  refine li_aload_n hC hl 0 rfl dX12_looksForPairs_8 ?_
  refine wr_callVv hC (c_X12_looksForGoods l g h0 ad F (va_up A 11 u2) (A 1) rfl hI hH hC0 _) mk_X12_looksForGoods ml_X12_220 (rr (by decide)) ⟨by simp only [rmC]; omega, by simp only [rmC]; omega⟩ hK hS (li_recv hK.1 ck_X12 (hS.1 0 _ rfl)) rfl hl.1 rfl (Nat.le_of_ble_eq_true rfl) dX12_looksForPairs_9 (fun w H locs hp hS => ?_)
  obtain ⟨u4, u5, u6, hgd7, rfl⟩ := hp
  refine li_aload_n hC hl 0 rfl dX12_looksForPairs_12 ?_
  refine wr_callVv hC (c_X12_looksForClashes l g h0 ad F (va_up (va_up (va_up (va_up A 9 u4) 10 u5) 11 u2) 12 u6) (A 1) rfl hI _) mk_X12_looksForClashes ml_X12_223 (rr (by decide)) ⟨by simp only [rmC]; omega, by simp only [rmC]; omega⟩ hK hS (li_recv hK.1 ck_X12 (hS.1 0 _ rfl)) rfl hl.1 rfl (Nat.le_of_ble_eq_true rfl) dX12_looksForPairs_13 (fun w H locs hp hS => ?_)
  obtain ⟨u8, hcl9, rfl⟩ := hp
  exact hQ _ _ _ _ _ _ _ dX12_looksForPairs_16 hS (by omega) (by omega) (⟨u4, u5, u2, u6, u8, hft3, hgd7, hcl9, rfl⟩)
set_option maxHeartbeats 4000000 in
set_option maxRecDepth 100000 in
theorem c_X12_keepsWay (l : Launch) (g : GG) (h0 : Nat) (ad : Nat → Nat) (F : Nat → Int) (A : Nat → Nat → Int) (S : Nat → Int) (hSA : A 1 = S) (m0 : Int) (s0 : Int) (b0 : Nat → Int) (wy : Nat → Int) (by0 : Int) (e16 : F 16 = m0) (e17 : F 17 = s0) (e15 : A 15 = b0) (e14 : A 14 = wy) (e18 : F 18 = by0) (m1 : Int) (s1 : Int) (hm : -1 ≤ m1 ∧ m1 ≤ 7) (hs : -10000 ≤ s1 ∧ s1 ≤ 10000) (hB : TB (m0, s0, b0)) (hby : 0 ≤ by0 ∧ by0 ≤ 1) (hI : InvD S) (sz : Nat) : MwrV l g yX12_keepsWay cX12_keepsWay 5 1 0 0 [.ref h0, .int (iI m1), .int (iI s1)] sz (RW g h0 ad F A) (fun w => w = RW g h0 ad (va_up (va_up F 16 (keepT by0 (S 0) (m0, s0, b0) m1 s1 wy).1) 17 (keepT by0 (S 0) (m0, s0, b0) m1 s1 wy).2.1) (va_up A 15 (keepT by0 (S 0) (m0, s0, b0) m1 s1 wy).2.2)) := by
  subst hSA
  subst e16 e17 e15 e14 e18
  refine wr_startV (own := RX12) (by decide) rfl (Nat.le_of_ble_eq_true rfl) ?_
  intro Pg Ev s Mi args below Mt Cd ls Q Aw hC hK hS hnm hl hQ
  have hD0 := hI.1
  have hB1 := hB.1
  have hB2 := hB.2.1
  have hB3 := hB.2.2.1
  have hB4 := hB.2.2.2
  dsimp only at hB1 hB2 hB3 hB4
  have hl : lv_has ls 5 [(0, .ref h0), (1, .int (iI m1)), (2, .int (iI s1))] := hl
  obtain ⟨H, hH⟩ : ∃ H, H = s.heap := ⟨_, rfl⟩
  obtain ⟨locs, hlo⟩ : ∃ locs : List Loc, locs = [] := ⟨_, rfl⟩
  have hS : St g Aw s.heap H locs (RW g h0 ad F A) := by rw [hH, hlo]; exact hS
  have goal : W Pg l Ev (rmC 1 0 0) s Mi args below Mt Cd H locs 0 0 Q (F0 Mi 0 ls []) := ?goal
  · rw [hH, hlo] at goal; exact goal
  clear hH hlo
  have J60_1 : ∀ (z : Int) (ls : Array Slot) (H : Heap) (locs : List Loc), St g Aw s.heap H locs (RW g h0 ad F A) → lv_has ls 5 [(0, .ref h0), (1, .int (iI m1)), (2, .int (iI s1))] → (z = b2 (isMore (F 18) (F 16, F 17, A 15) m1 s1)) → W Pg l Ev (rmC 1 0 0) s Mi args below Mt Cd H locs 0 0 Q (F0 Mi 60 ls [.int (iI z)]) := by
    intro z ls H locs hS hl hz
    have hz0 := b2r hz
    refine li_istore_n hC (lv' := [(3, .int (iI z)), (0, .ref h0), (1, .int (iI m1)), (2, .int (iI s1))]) hl (by decide) rfl dX12_keepsWay_60 (fun ls hl => ?_)
    refine li_iload_n hC hl 0 rfl dX12_keepsWay_61 ?_
    refine li_if_eq (tgt := 109) hC (by decide) (rg (by omega) (by omega)) dX12_keepsWay_62 (fun c2 => ?_) (fun c2 => ?_)
    · exact hQ _ _ _ _ _ _ _ dX12_keepsWay_109 hS (by omega) (by omega) (by have hm9 := b2z hz (by omega); unfold keepT; rw [iteP_f hm9]; rfl)
    · refine li_aload_n hC hl 1 rfl dX12_keepsWay_65 ?_
      refine li_iload_n hC hl 2 rfl dX12_keepsWay_66 ?_
      refine li_put hC hK hS ck_X12 0 rfl 16 (by decide) fl_X12_229 rfl rfl (v := .int (iI m1)) rfl rfl (Nat.le_of_ble_eq_true rfl) (ws' := RW g h0 ad (va_up F 16 m1) A) rfl dX12_keepsWay_67 (fun H locs hS => ?_)
      refine li_aload_n hC hl 1 rfl dX12_keepsWay_70 ?_
      refine li_iload_n hC hl 3 rfl dX12_keepsWay_71 ?_
      refine li_put hC hK hS ck_X12 0 rfl 17 (by decide) fl_X12_232 rfl rfl (v := .int (iI s1)) rfl rfl (Nat.le_of_ble_eq_true rfl) (ws' := RW g h0 ad (va_up (va_up F 16 m1) 17 s1) A) rfl dX12_keepsWay_72 (fun H locs hS => ?_)
      refine li_iconst hC dX12_keepsWay_75 ?_
      refine li_istore hC (lv' := [(4, .int (iI 0)), (3, .int (iI z)), (0, .ref h0), (1, .int (iI m1)), (2, .int (iI s1))]) hl (by decide) rfl dX12_keepsWay_76 (fun ls hl => ?_)
      have L78_3 : ∀ (fuel : Nat) (n : Int) (f : Nat → Int) (ls : Array Slot) (H : Heap) (locs : List Loc), St g Aw s.heap H locs (RW g h0 ad (va_up (va_up F 16 m1) 17 s1) (va_up A 15 f)) → lv_has ls 5 [(3, .int (iI z)), (0, .ref h0), (1, .int (iI m1)), (2, .int (iI s1)), (4, .int (iI n))] → (0 ≤ n ∧ n ≤ (A 1) 0) → (∀ k : Nat, f k = if (k : Int) < n then (A 14) k else (A 15) k) → (((A 1) 0 - n).toNat) < fuel → W Pg l Ev (rmC 1 0 0) s Mi args below Mt Cd H locs 0 0 Q (F0 Mi 78 ls []) := by
        intro fuel
        induction fuel with
        | zero => intro n f ls H locs hS hl hn hf hm; exact absurd hm (Nat.not_lt_zero _)
        | succ fuel ih78 =>
          intro n f ls H locs hS hl hn hf hm
          refine li_iload hC hl 4 rfl dX12_keepsWay_78 ?_
          refine li_aload_n hC hl 1 rfl dX12_keepsWay_80 ?_
          refine li_get hC hK.1 ck_X12 (hS.1 0 _ rfl) 1 (by decide) fl_X12_9 rfl (v := .ref (ad 1)) rfl dX12_keepsWay_81 ?_
          refine li_iconst hC dX12_keepsWay_84 ?_
          refine li_iald_k (k := 0) (f := (A 1)) hC hK.1 (hS.1 1 _ rfl) rfl (by decide) (by decide) dX12_keepsWay_85 ?_
          refine li_icmp_ge (tgt := 109) hC (by decide) (rg (by omega) (by omega)) (rg (by omega) (by omega)) dX12_keepsWay_86 (fun c4 => ?_) (fun c4 => ?_)
          · exact hQ _ _ _ _ _ _ _ dX12_keepsWay_109 hS (by omega) (by omega) (by have hm9 := b2n hz (by omega); have hf9 : f = (fun k : Nat => if (k : Int) < (A 1) 0 then (A 14) k else (A 15) k) := (by funext k; rw [hf k, show n = (A 1) 0 by omega]); unfold keepT; rw [iteP_t hm9, hf9])
          · refine li_aload_n hC hl 1 rfl dX12_keepsWay_89 ?_
            refine li_get hC hK.1 ck_X12 (hS.1 0 _ rfl) 15 (by decide) fl_X12_37 rfl (v := .ref (ad 15)) rfl dX12_keepsWay_90 ?_
            refine li_iload hC hl 4 rfl dX12_keepsWay_93 ?_
            refine li_aload_n hC hl 1 rfl dX12_keepsWay_95 ?_
            refine li_get hC hK.1 ck_X12 (hS.1 0 _ rfl) 14 (by decide) fl_X12_34 rfl (v := .ref (ad 14)) rfl dX12_keepsWay_96 ?_
            refine li_iload hC hl 4 rfl dX12_keepsWay_99 ?_
            refine li_iald (f := (A 14)) hC hK.1 (hS.1 8 _ rfl) ⟨by omega, by omega⟩ (by decide) dX12_keepsWay_101 ?_
            refine li_iast hC hK hS 9 (n := 7) (f := f) (z := n) rfl ⟨by omega, by omega⟩ (by decide) (ws' := RW g h0 ad (va_up (va_up F 16 m1) 17 s1) (va_up A 15 (va_up f n.toNat ((A 14) n.toNat)))) rfl dX12_keepsWay_102 (fun H locs hS => ?_)
            refine li_iinc hC (lv' := [(4, .int (iI (n + 1))), (3, .int (iI z)), (0, .ref h0), (1, .int (iI m1)), (2, .int (iI s1))]) hl 4 rfl (by decide) rfl dX12_keepsWay_103 (fun ls hl => ?_)
            refine li_goto (tgt := 78) hC (by decide) dX12_keepsWay_106 ?_
            exact ih78 (n + 1) (va_up f n.toNat ((A 14) n.toNat)) _ _ _ hS (lv_sub hl [1, 2, 3, 4, 0] rfl) (by omega) (by intro k; by_cases e9 : k = n.toNat; { rw [e9, up_same, if_pos (by omega)] }; { rw [up_ne _ _ e9, hf k]; (repeat' split) <;> first | rfl | omega }) (by omega)
      exact L78_3 ((((A 1) 0 - 0).toNat) + 1) 0 (A 15) _ _ _ hS (lv_sub hl [1, 2, 3, 4, 0] rfl) (by omega) (by intro k; rw [if_neg (by omega)]) (by omega)
  refine li_aload_n hC hl 0 rfl dX12_keepsWay_0 ?_
  refine li_get hC hK.1 ck_X12 (hS.1 0 _ rfl) 18 (by decide) fl_X12_226 rfl (v := .int (iI (F 18))) rfl dX12_keepsWay_1 ?_
  refine li_if_eq (tgt := 39) hC (by decide) (rg (by omega) (by omega)) dX12_keepsWay_4 (fun c5 => ?_) (fun c5 => ?_)
  · refine li_aload_n hC hl 0 rfl dX12_keepsWay_39 ?_
    refine li_get hC hK.1 ck_X12 (hS.1 0 _ rfl) 16 (by decide) fl_X12_229 rfl (v := .int (iI (F 16))) rfl dX12_keepsWay_40 ?_
    refine li_iconst hC dX12_keepsWay_43 ?_
    refine li_icmp_eq (tgt := 55) hC (by decide) (rg (by omega) (by omega)) (rg (by decide) (by decide)) dX12_keepsWay_44 (fun c6 => ?_) (fun c6 => ?_)
    · refine li_iconst hC dX12_keepsWay_55 ?_
      refine li_goto (tgt := 60) hC (by decide) dX12_keepsWay_56 ?_
      exact J60_1 1 _ _ _ hS (lv_sub hl [0, 1, 2] rfl) (by exact (b2_t (by unfold isMore; dsimp only; omega)).symm)
    · refine li_iload_n hC hl 2 rfl dX12_keepsWay_47 ?_
      refine li_aload_n hC hl 0 rfl dX12_keepsWay_48 ?_
      refine li_get hC hK.1 ck_X12 (hS.1 0 _ rfl) 17 (by decide) fl_X12_232 rfl (v := .int (iI (F 17))) rfl dX12_keepsWay_49 ?_
      refine li_icmp_le (tgt := 59) hC (by decide) (rg (by omega) (by omega)) (rg (by omega) (by omega)) dX12_keepsWay_52 (fun c7 => ?_) (fun c7 => ?_)
      · refine li_iconst hC dX12_keepsWay_59 ?_
        exact J60_1 0 _ _ _ hS (lv_sub hl [0, 1, 2] rfl) (by exact (b2_f (by unfold isMore; dsimp only; omega)).symm)
      · refine li_iconst hC dX12_keepsWay_55 ?_
        refine li_goto (tgt := 60) hC (by decide) dX12_keepsWay_56 ?_
        exact J60_1 1 _ _ _ hS (lv_sub hl [0, 1, 2] rfl) (by exact (b2_t (by unfold isMore; dsimp only; omega)).symm)
  · refine li_iload_n hC hl 1 rfl dX12_keepsWay_7 ?_
    refine li_aload_n hC hl 0 rfl dX12_keepsWay_8 ?_
    refine li_get hC hK.1 ck_X12 (hS.1 0 _ rfl) 16 (by decide) fl_X12_229 rfl (v := .int (iI (F 16))) rfl dX12_keepsWay_9 ?_
    refine li_icmp_gt (tgt := 31) hC (by decide) (rg (by omega) (by omega)) (rg (by omega) (by omega)) dX12_keepsWay_12 (fun c8 => ?_) (fun c8 => ?_)
    · refine li_iconst hC dX12_keepsWay_31 ?_
      refine li_goto (tgt := 60) hC (by decide) dX12_keepsWay_32 ?_
      exact J60_1 1 _ _ _ hS (lv_sub hl [0, 1, 2] rfl) (by exact (b2_t (by unfold isMore; dsimp only; omega)).symm)
    · refine li_iload_n hC hl 1 rfl dX12_keepsWay_15 ?_
      refine li_aload_n hC hl 0 rfl dX12_keepsWay_16 ?_
      refine li_get hC hK.1 ck_X12 (hS.1 0 _ rfl) 16 (by decide) fl_X12_229 rfl (v := .int (iI (F 16))) rfl dX12_keepsWay_17 ?_
      refine li_icmp_ne (tgt := 35) hC (by decide) (rg (by omega) (by omega)) (rg (by omega) (by omega)) dX12_keepsWay_20 (fun c9 => ?_) (fun c9 => ?_)
      · refine li_iconst hC dX12_keepsWay_35 ?_
        refine li_goto (tgt := 60) hC (by decide) dX12_keepsWay_36 ?_
        exact J60_1 0 _ _ _ hS (lv_sub hl [0, 1, 2] rfl) (by exact (b2_f (by unfold isMore; dsimp only; omega)).symm)
      · refine li_iload_n hC hl 2 rfl dX12_keepsWay_23 ?_
        refine li_aload_n hC hl 0 rfl dX12_keepsWay_24 ?_
        refine li_get hC hK.1 ck_X12 (hS.1 0 _ rfl) 17 (by decide) fl_X12_232 rfl (v := .int (iI (F 17))) rfl dX12_keepsWay_25 ?_
        refine li_icmp_le (tgt := 35) hC (by decide) (rg (by omega) (by omega)) (rg (by omega) (by omega)) dX12_keepsWay_28 (fun c10 => ?_) (fun c10 => ?_)
        · refine li_iconst hC dX12_keepsWay_35 ?_
          refine li_goto (tgt := 60) hC (by decide) dX12_keepsWay_36 ?_
          exact J60_1 0 _ _ _ hS (lv_sub hl [0, 1, 2] rfl) (by exact (b2_f (by unfold isMore; dsimp only; omega)).symm)
        · refine li_iconst hC dX12_keepsWay_31 ?_
          refine li_goto (tgt := 60) hC (by decide) dX12_keepsWay_32 ?_
          exact J60_1 1 _ _ _ hS (lv_sub hl [0, 1, 2] rfl) (by exact (b2_t (by unfold isMore; dsimp only; omega)).symm)
