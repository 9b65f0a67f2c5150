theorem fit_01 {z : Int} (h : z = 0 ∨ z = 1) : fits .boolean (.int (iI z)) = true := by
  rcases h with h | h <;> subst h <;> decide
theorem St_ext {g : GG} {A : Nat → Prop} {H0 H : Heap} {locs : List Loc} {ws ws' : va_W} {a n : Nat} {cA : ClassId} {f f' : Nat → Int32} (hS : St g A H0 H locs ws) (q : Nat) (he : ws[q]? = some (a, .inl (cA, n, .inl f))) (h : ∀ j : Nat, j < n → f j = f' j) (hw : ws.set q (a, .inl (cA, n, .inl f')) = ws') : St g A H0 H locs ws' := by
  subst hw
  have e : vp_cell cA (n, .inl f) = vp_cell cA (n, .inl f') := by
    rw [vp_cell_i, vp_cell_i]
    unfold arrV
    congr 1
    congr 1
    funext j
    show Value.int (f j.val) = Value.int (f' j.val)
    rw [h j.val j.isLt]
  have h2 : va_at g.1 vwCl (a, .inl (cA, n, .inl f')) H := by
    have h3 := hS.1 q _ he
    show H[a]? = some (vp_cell cA (n, .inl f'))
    rw [← e]
    exact h3
  exact ⟨hS.1.set hS.2.1 he h2 (fun _ _ => rfl), hS.2.1.set he, hS.2.2⟩
theorem cp_s {f f0 : Nat → Int} {j : Int} (h0 : 0 ≤ j) (hf : ∀ k : Nat, (k : Int) < j → f k = f0 k) : ∀ k : Nat, (k : Int) < j + 1 → va_up f j.toNat (f0 j.toNat) k = f0 k := by
  intro k hk
  unfold va_up
  by_cases e : k = j.toNat
  · rw [if_pos e, e]
  · rw [if_neg e]
    exact hf k (by omega)
/-! what a call makes of the row -/
noncomputable def iteP {α : Type} (P : Prop) (a b : α) : α := @ite α P (Classical.propDecidable P) a b
theorem iteP_t {α : Type} {P : Prop} {a b : α} (h : P) : iteP P a b = a := if_pos h
theorem iteP_f {α : Type} {P : Prop} {a b : α} (h : ¬ P) : iteP P a b = b := if_neg h
noncomputable def feedS (S : Nat → Int) (x : Int) : Nat → Int := iteP ((0 ≤ x ∧ x ≤ 127) ∧ S 5 ≠ 100) (va_up (va_up S (124 + S 5).toNat x) 5 (S 5 + 1)) S
noncomputable def feedR (S : Nat → Int) (x : Int) : Int := iteP (0 ≤ x ∧ x ≤ 127) (iteP (S 5 = 100) (-4) (S 5 + 1)) (-2)
noncomputable def rowFS (S : Nat → Int) (n k v : Int) : Nat → Int := iteP ((0 ≤ n ∧ n < S 0) ∧ (0 ≤ k ∧ k ≤ 3) ∧ (0 ≤ v ∧ v ≤ 9) ∧ S (7 + n).toNat = 6) (va_up S (49 + 4 * n + k).toNat v) S
noncomputable def rowFR (S : Nat → Int) (n k v : Int) : Int := iteP ((0 ≤ n ∧ n < S 0) ∧ (0 ≤ k ∧ k ≤ 3)) (iteP (0 ≤ v ∧ v ≤ 9) (iteP (S (7 + n).toNat = 6) (S (49 + 4 * n + k).toNat) (-3)) (-2)) (-1)
def orN (p : Int) : Int := if p = 4 then -5 else p
noncomputable def layS (S : Nat → Int) (n p : Int) : Nat → Int := iteP ((0 ≤ n ∧ n < S 0) ∧ (0 ≤ p ∧ p ≤ 3) ∧ freeS S n p) (va_up S (42 + n).toNat p) S
noncomputable def layR (S : Nat → Int) (n p : Int) : Int := iteP ((0 ≤ n ∧ n < S 0) ∧ (0 ≤ p ∧ p ≤ 3)) (iteP (freeS S n p) (orN (S (42 + n).toNat)) (-3)) (-1)
noncomputable def liftS (S : Nat → Int) (n : Int) : Nat → Int := iteP (0 ≤ n ∧ n < S 0) (va_up S (42 + n).toNat 4) S
noncomputable def liftR (S : Nat → Int) (n : Int) : Int := iteP (0 ≤ n ∧ n < S 0) (orN (S (42 + n).toNat)) (-1)
noncomputable def seeS (S : Nat → Int) (c r z : Int) : Nat → Int := iteP (c = -1) (va_up S 2 0) (iteP ((0 ≤ c ∧ c ≤ 29) ∧ (0 ≤ r ∧ r ≤ 11) ∧ S 2 ≠ 5) (va_up (va_up (va_up (va_up S (77 + S 2).toNat c) (82 + S 2).toNat r) (87 + S 2).toNat (iteP (z = 0) 0 1)) 2 (S 2 + 1)) S)
noncomputable def seeR (S : Nat → Int) (c r : Int) : Int := iteP (c = -1) 0 (iteP ((0 ≤ c ∧ c ≤ 29) ∧ (0 ≤ r ∧ r ≤ 11)) (iteP (S 2 = 5) (-4) (S 2 + 1)) (-1))
/-- plan (q 3, a 92, b 100) and book (q 4, a 108, b 116) -/
noncomputable def listS (q a b : Int) (S : Nat → Int) (n p : Int) : Nat → Int := iteP (n = -1) (va_up S q.toNat 0) (iteP ((0 ≤ n ∧ n < S 0) ∧ (0 ≤ p ∧ p ≤ 4) ∧ S q.toNat ≠ 8) (va_up (va_up (va_up S (a + S q.toNat).toNat n) (b + S q.toNat).toNat p) q.toNat (S q.toNat + 1)) S)
noncomputable def listR (q : Int) (S : Nat → Int) (n p : Int) : Int := iteP (n = -1) 0 (iteP ((0 ≤ n ∧ n < S 0) ∧ (0 ≤ p ∧ p ≤ 4)) (iteP (S q.toNat = 8) (-4) (S q.toNat + 1)) (-1))
def dotOK (S : Nat → Int) (kind v letters c r : Int) : Prop := ((0 ≤ v ∧ v ≤ 9) ∧ (1 ≤ letters ∧ letters ≤ 9) ∧ (0 ≤ c ∧ c ≤ 29) ∧ (0 ≤ r ∧ r ≤ 11)) ∧ ¬ dotAtS S c r
def dotUp (S : Nat → Int) (kind v letters c r : Int) : Nat → Int := va_up (va_up (va_up (va_up (va_up (va_up (va_up (va_up (va_up (va_up (va_up S (7 + S 0).toNat kind) (14 + S 0).toNat v) (21 + S 0).toNat letters) (28 + S 0).toNat c) (35 + S 0).toNat r) (42 + S 0).toNat 4) (49 + 4 * S 0 + 0).toNat 0) (49 + 4 * S 0 + (0 + 1)).toNat 0) (49 + 4 * S 0 + (0 + 1 + 1)).toNat 0) (49 + 4 * S 0 + (0 + 1 + 1 + 1)).toNat 0) 0 (S 0 + 1)
noncomputable def dotS (S : Nat → Int) (kind v letters c r : Int) : Nat → Int := iteP ((0 ≤ kind ∧ kind ≤ 6) ∧ dotOK S kind v letters c r ∧ S 0 ≠ 7) (dotUp S kind v letters c r) S
noncomputable def dotR (S : Nat → Int) (kind v letters c r : Int) : Int := iteP (0 ≤ kind ∧ kind ≤ 6) (iteP (dotOK S kind v letters c r) (iteP (S 0 = 7) (-4) (S 0)) (-2)) (-1)
set_option maxHeartbeats 4000000 in
set_option maxRecDepth 100000 in
theorem c_X12_feed (l : Launch) (g : GG) (h0 : Nat) (ad : Nat → Nat) (F : Nat → Int) (A : Nat → Nat → Int) (S : Nat → Int) (hSA : A 1 = S) (x : Int) (hx : rng x) (h5 : 0 ≤ S 5 ∧ S 5 ≤ 100) (sz : Nat) : MwrI l g yX12_feed cX12_feed 2 2 0 0 [.ref h0, .int (iI x)] sz (RW g h0 ad F A) (fun v w => v = iI (feedR S x) ∧ w = RW g h0 ad F (va_up A 1 (feedS S x))) := by
  subst hSA
  refine wr_startI (own := RX12) (by decide) rfl (Nat.le_of_ble_eq_true rfl) ?_
  intro Pg Ev s Mi args below Mt Cd ls Q Aw hC hK hS hnm hl hQ
  have hl : lv_has ls 2 [(0, .ref h0), (1, .int (iI x))] := hl
  obtain ⟨H, hH⟩ : ∃ H, H = s.heap := ⟨_, rfl⟩
  obtain ⟨locs, hlo⟩ : ∃ locs : List Loc, locs = [] := ⟨_, rfl⟩
  have hS : St g Aw s.heap H locs (RW g h0 ad F A) := by rw [hH, hlo]; exact hS
  have goal : W Pg l Ev (rmC 2 0 0) s Mi args below Mt Cd H locs 0 0 Q (F0 Mi 0 ls []) := ?goal
  · rw [hH, hlo] at goal; exact goal
  clear hH hlo
  refine li_iload_n hC hl 1 rfl dX12_feed_0 ?_
  refine li_iconst hC dX12_feed_1 ?_
  refine li_bipush hC (z := 127) rfl dX12_feed_2 ?_
  refine ro_callSi hC (c_X12_in l g x 0 127 hx (rg (by decide) (by decide)) (rg (by decide) (by decide))) mk_X12_in ml_X12_56 (rr (by decide)) ⟨Nat.le_of_ble_eq_true rfl, Nat.le_of_ble_eq_true rfl⟩ hK.1 (hS.ro hK) trivial rfl hl.1 rfl (Nat.le_of_ble_eq_true rfl) dX12_feed_4 ?_
  refine li_ifne_b (tgt := 13) hC (by decide) dX12_feed_7 (fun c1 => ?_) (fun c1 => ?_)
  · refine li_aload_n hC hl 0 rfl dX12_feed_13 ?_
    refine li_get hC hK.1 ck_X12 (hS.1 0 _ rfl) 1 (by decide) fl_X12_9 rfl (v := .ref (ad 1)) rfl dX12_feed_14 ?_
    refine li_iconst hC dX12_feed_17 ?_
    refine li_iald_k (k := 5) (f := (A 1)) hC hK.1 (hS.1 1 _ rfl) rfl (by decide) (by decide) dX12_feed_18 ?_
    refine li_bipush hC (z := 100) rfl dX12_feed_19 ?_
    refine li_icmp_ne (tgt := 27) hC (by decide) (rg (by omega) (by omega)) (rg (by decide) (by decide)) dX12_feed_21 (fun c2 => ?_) (fun c2 => ?_)
    · refine li_aload_n hC hl 0 rfl dX12_feed_27 ?_
      refine li_get hC hK.1 ck_X12 (hS.1 0 _ rfl) 1 (by decide) fl_X12_9 rfl (v := .ref (ad 1)) rfl dX12_feed_28 ?_
      refine li_bipush hC (z := 124) rfl dX12_feed_31 ?_
      refine li_aload_n hC hl 0 rfl dX12_feed_33 ?_
      refine li_get hC hK.1 ck_X12 (hS.1 0 _ rfl) 1 (by decide) fl_X12_9 rfl (v := .ref (ad 1)) rfl dX12_feed_34 ?_
      refine li_iconst hC dX12_feed_37 ?_
      refine li_iald_k (k := 5) (f := (A 1)) hC hK.1 (hS.1 1 _ rfl) rfl (by decide) (by decide) dX12_feed_38 ?_
      refine li_iadd hC dX12_feed_39 ?_
      refine li_iload_n hC hl 1 rfl dX12_feed_40 ?_
      refine li_iast hC hK hS 1 (n := 939) (f := (A 1)) (z := 124 + ((A 1) 5)) rfl ⟨by omega, by omega⟩ (by decide) (ws' := RW g h0 ad F (va_up A 1 (va_up (A 1) ((124 + ((A 1) 5)).toNat) x))) rfl dX12_feed_41 (fun H locs hS => ?_)
      refine li_aload_n hC hl 0 rfl dX12_feed_42 ?_
      refine li_get hC hK.1 ck_X12 (hS.1 0 _ rfl) 1 (by decide) fl_X12_9 rfl (v := .ref (ad 1)) rfl dX12_feed_43 ?_
      refine li_iconst hC dX12_feed_46 ?_
      refine li_dup2 hC rfl rfl dX12_feed_47 ?_
      refine li_iald_k (k := 5) (f := va_up (A 1) ((124 + ((A 1) 5)).toNat) x) hC hK.1 (hS.1 1 _ rfl) rfl (by decide) (by decide) dX12_feed_48 ?_
      rw [up_ne (A 1) x (show (5 : Nat) ≠ (124 + ((A 1) 5)).toNat by omega)]
      refine li_iconst hC dX12_feed_49 ?_
      refine li_iadd hC dX12_feed_50 ?_
      refine li_iast hC hK hS 1 (n := 939) (f := va_up (A 1) ((124 + ((A 1) 5)).toNat) x) (z := 5) rfl ⟨by omega, by omega⟩ (by decide) (ws' := RW g h0 ad F (va_up A 1 (va_up (va_up (A 1) ((124 + ((A 1) 5)).toNat) x) 5 (((A 1) 5) + 1)))) rfl dX12_feed_51 (fun H locs hS => ?_)
      refine li_aload_n hC hl 0 rfl dX12_feed_52 ?_
      refine li_get hC hK.1 ck_X12 (hS.1 0 _ rfl) 1 (by decide) fl_X12_9 rfl (v := .ref (ad 1)) rfl dX12_feed_53 ?_
      refine li_iconst hC dX12_feed_56 ?_
      refine li_iald_k (k := 5) (f := va_up (va_up (A 1) ((124 + ((A 1) 5)).toNat) x) 5 (((A 1) 5) + 1)) hC hK.1 (hS.1 1 _ rfl) rfl (by decide) (by decide) dX12_feed_57 ?_
      rw [up_same]
      exact hQ _ _ _ _ _ _ _ _ dX12_feed_58 hS (by omega) (by omega) (by refine ⟨iI_inj (by unfold feedR; rw [iteP_t (by omega), iteP_f (by omega)]), ?_⟩; unfold feedS; rw [iteP_t (by omega)])
    · refine li_bipush hC (z := -4) rfl dX12_feed_24 ?_
      exact hQ _ _ _ _ _ _ _ _ dX12_feed_26 hS (by omega) (by omega) (by refine ⟨iI_inj (by unfold feedR; rw [iteP_t (by omega), iteP_t (by omega)]), ?_⟩; unfold feedS; rw [iteP_f (by omega)]; rfl)
  · refine li_bipush hC (z := -2) rfl dX12_feed_10 ?_
    exact hQ _ _ _ _ _ _ _ _ dX12_feed_12 hS (by omega) (by omega) (by refine ⟨iI_inj (by unfold feedR; rw [iteP_f (by omega)]), ?_⟩; unfold feedS; rw [iteP_f (by omega)]; rfl)
set_option maxHeartbeats 4000000 in
set_option maxRecDepth 100000 in
theorem c_X12_row (l : Launch) (g : GG) (h0 : Nat) (ad : Nat → Nat) (F : Nat → Int) (A : Nat → Nat → Int) (S : Nat → Int) (hSA : A 1 = S) (n : Int) (k : Int) (v0 : Int) (hn : rng n) (hk : rng k) (hv0 : rng v0) (hI : InvD S) (sz : Nat) : MwrI l g yX12_row cX12_row 5 3 0 0 [.ref h0, .int (iI n), .int (iI k), .int (iI v0)] sz (RW g h0 ad F A) (fun v w => v = iI (rowFR S n k v0) ∧ w = RW g h0 ad F (va_up A 1 (rowFS S n k v0))) := by
  subst hSA
  refine wr_startI (own := RX12) (by decide) rfl (Nat.le_of_ble_eq_true rfl) ?_
  intro Pg Ev s Mi args below Mt Cd ls Q Aw hC hK hS hnm hl hQ
  have hD0 := hI.1
  have hl : lv_has ls 5 [(0, .ref h0), (1, .int (iI n)), (2, .int (iI k)), (3, .int (iI v0))] := hl
  obtain ⟨H, hH⟩ : ∃ H, H = s.heap := ⟨_, rfl⟩
  obtain ⟨locs, hlo⟩ : ∃ locs : List Loc, locs = [] := ⟨_, rfl⟩
  have hS : St g Aw s.heap H locs (RW g h0 ad F A) := by rw [hH, hlo]; exact hS
  have goal : W Pg l Ev (rmC 3 0 0) s Mi args below Mt Cd H locs 0 0 Q (F0 Mi 0 ls []) := ?goal
  · rw [hH, hlo] at goal; exact goal
  clear hH hlo
  refine li_aload_n hC hl 0 rfl dX12_row_0 ?_
  refine li_iload_n hC hl 1 rfl dX12_row_1 ?_
  refine ro_callVi hC (c_X12_isName l g h0 (A 1) n hn hI) mk_X12_isName ml_X12_189 (rr (by decide)) ⟨Nat.le_of_ble_eq_true rfl, Nat.le_of_ble_eq_true rfl⟩ hK.1 (hS.ro hK) (RW_pic (F := F) (A := A) hS) (li_recv hK.1 ck_X12 (hS.1 0 _ rfl)) rfl hl.1 rfl (Nat.le_of_ble_eq_true rfl) dX12_row_2 ?_
  refine li_ifeq_b (tgt := 15) hC (by decide) dX12_row_5 (fun c1 => ?_) (fun c1 => ?_)
  · refine li_iconst hC dX12_row_15 ?_
    exact hQ _ _ _ _ _ _ _ _ dX12_row_16 hS (by omega) (by omega) (by refine ⟨iI_inj (by unfold rowFR; rw [iteP_f (by omega)]), ?_⟩; unfold rowFS; rw [iteP_f (by omega)]; rfl)
  · refine li_iload_n hC hl 2 rfl dX12_row_8 ?_
    refine ro_callSi hC (c_X12_isPlace l g k hk) mk_X12_isPlace ml_X12_199 (rr (by decide)) ⟨Nat.le_of_ble_eq_true rfl, Nat.le_of_ble_eq_true rfl⟩ hK.1 (hS.ro hK) trivial rfl hl.1 rfl (Nat.le_of_ble_eq_true rfl) dX12_row_9 ?_
    refine li_ifne_b (tgt := 17) hC (by decide) dX12_row_12 (fun c2 => ?_) (fun c2 => ?_)
    · refine li_iload_n hC hl 3 rfl dX12_row_17 ?_
      refine li_iconst hC dX12_row_18 ?_
      refine li_bipush hC (z := 9) rfl dX12_row_19 ?_
      refine ro_callSi hC (c_X12_in l g v0 0 9 hv0 (rg (by decide) (by decide)) (rg (by decide) (by decide))) mk_X12_in ml_X12_56 (rr (by decide)) ⟨Nat.le_of_ble_eq_true rfl, Nat.le_of_ble_eq_true rfl⟩ hK.1 (hS.ro hK) trivial rfl hl.1 rfl (Nat.le_of_ble_eq_true rfl) dX12_row_21 ?_
      refine li_ifne_b (tgt := 30) hC (by decide) dX12_row_24 (fun c3 => ?_) (fun c3 => ?_)
      · refine li_aload_n hC hl 0 rfl dX12_row_30 ?_
        refine li_get hC hK.1 ck_X12 (hS.1 0 _ rfl) 1 (by decide) fl_X12_9 rfl (v := .ref (ad 1)) rfl dX12_row_31 ?_
        refine li_bipush hC (z := 7) rfl dX12_row_34 ?_
        refine li_iload_n hC hl 1 rfl dX12_row_36 ?_
        refine li_iadd hC dX12_row_37 ?_
        refine li_iald (f := (A 1)) hC hK.1 (hS.1 1 _ rfl) ⟨by omega, by omega⟩ (by decide) dX12_row_38 ?_
        have q4 := hI.2 n (by omega) (by omega)
        refine li_bipush hC (z := 6) rfl dX12_row_39 ?_
        refine li_icmp_eq (tgt := 47) hC (by decide) (rg (by omega) (by omega)) (rg (by decide) (by decide)) dX12_row_41 (fun c5 => ?_) (fun c5 => ?_)
        · refine li_aload_n hC hl 0 rfl dX12_row_47 ?_
          refine li_get hC hK.1 ck_X12 (hS.1 0 _ rfl) 1 (by decide) fl_X12_9 rfl (v := .ref (ad 1)) rfl dX12_row_48 ?_
          refine li_bipush hC (z := 49) rfl dX12_row_51 ?_
          refine li_iconst hC dX12_row_53 ?_
          refine li_iload_n hC hl 1 rfl dX12_row_54 ?_
          refine li_imul hC dX12_row_55 ?_
          refine li_iadd hC dX12_row_56 ?_
          refine li_iload_n hC hl 2 rfl dX12_row_57 ?_
          refine li_iadd hC dX12_row_58 ?_
          refine li_iald (f := (A 1)) hC hK.1 (hS.1 1 _ rfl) ⟨by omega, by omega⟩ (by decide) dX12_row_59 ?_
          have q6 := (hI.2 n (by omega) (by omega)).2.2.2.2.2.2 k (by omega) (by omega)
          refine li_istore hC (lv' := [(4, .int (iI ((A 1) (((49 + (4 * n)) + k).toNat)))), (0, .ref h0), (1, .int (iI n)), (2, .int (iI k)), (3, .int (iI v0))]) hl (by decide) rfl dX12_row_60 (fun ls hl => ?_)
          refine li_aload_n hC hl 1 rfl dX12_row_62 ?_
          refine li_get hC hK.1 ck_X12 (hS.1 0 _ rfl) 1 (by decide) fl_X12_9 rfl (v := .ref (ad 1)) rfl dX12_row_63 ?_
          refine li_bipush hC (z := 49) rfl dX12_row_66 ?_
          refine li_iconst hC dX12_row_68 ?_
          refine li_iload_n hC hl 2 rfl dX12_row_69 ?_
          refine li_imul hC dX12_row_70 ?_
          refine li_iadd hC dX12_row_71 ?_
          refine li_iload_n hC hl 3 rfl dX12_row_72 ?_
          refine li_iadd hC dX12_row_73 ?_
          refine li_iload_n hC hl 4 rfl dX12_row_74 ?_
          refine li_iast hC hK hS 1 (n := 939) (f := (A 1)) (z := (49 + (4 * n)) + k) rfl ⟨by omega, by omega⟩ (by decide) (ws' := RW g h0 ad F (va_up A 1 (va_up (A 1) (((49 + (4 * n)) + k).toNat) v0))) rfl dX12_row_75 (fun H locs hS => ?_)
          refine li_iload hC hl 0 rfl dX12_row_76 ?_
          exact hQ _ _ _ _ _ _ _ _ dX12_row_78 hS (by omega) (by omega) (by refine ⟨iI_inj (by unfold rowFR; rw [iteP_t (by omega), iteP_t (by omega), iteP_t (by omega)]), ?_⟩; unfold rowFS; rw [iteP_t (by omega)])
        · refine li_bipush hC (z := -3) rfl dX12_row_44 ?_
          exact hQ _ _ _ _ _ _ _ _ dX12_row_46 hS (by omega) (by omega) (by refine ⟨iI_inj (by unfold rowFR; rw [iteP_t (by omega), iteP_t (by omega), iteP_f (by omega)]), ?_⟩; unfold rowFS; rw [iteP_f (by omega)]; rfl)
      · refine li_bipush hC (z := -2) rfl dX12_row_27 ?_
        exact hQ _ _ _ _ _ _ _ _ dX12_row_29 hS (by omega) (by omega) (by refine ⟨iI_inj (by unfold rowFR; rw [iteP_t (by omega), iteP_f (by omega)]), ?_⟩; unfold rowFS; rw [iteP_f (by omega)]; rfl)
    · refine li_iconst hC dX12_row_15 ?_
      exact hQ _ _ _ _ _ _ _ _ dX12_row_16 hS (by omega) (by omega) (by refine ⟨iI_inj (by unfold rowFR; rw [iteP_f (by omega)]), ?_⟩; unfold rowFS; rw [iteP_f (by omega)]; rfl)
set_option maxHeartbeats 4000000 in
set_option maxRecDepth 100000 in
theorem c_X12_lay (l : Launch) (g : GG) (h0 : Nat) (ad : Nat → Nat) (F : Nat → Int) (A : Nat → Nat → Int) (S : Nat → Int) (hSA : A 1 = S) (n : Int) (p : Int) (hn : rng n) (hp : rng p) (hI : InvD S) (hH : InvH S) (sz : Nat) : MwrI l g yX12_lay cX12_lay 4 7 0 0 [.ref h0, .int (iI n), .int (iI p)] sz (RW g h0 ad F A) (fun v w => v = iI (layR S n p) ∧ w = RW g h0 ad F (va_up A 1 (layS S n p))) := by
  subst hSA
  refine wr_startI (own := RX12) (by decide) rfl (Nat.le_of_ble_eq_true rfl) ?_
  intro Pg Ev s Mi args below Mt Cd ls Q Aw hC hK hS hnm hl hQ
  have hD0 := hI.1
  have hH0 := hH.1
  have hl : lv_has ls 4 [(0, .ref h0), (1, .int (iI n)), (2, .int (iI p))] := hl
  obtain ⟨H, hH⟩ : ∃ H, H = s.heap := ⟨_, rfl⟩
  obtain ⟨locs, hlo⟩ : ∃ locs : List Loc, locs = [] := ⟨_, rfl⟩
  have hS : St g Aw s.heap H locs (RW g h0 ad F A) := by rw [hH, hlo]; exact hS
  have goal : W Pg l Ev (rmC 7 0 0) s Mi args below Mt Cd H locs 0 0 Q (F0 Mi 0 ls []) := ?goal
  · rw [hH, hlo] at goal; exact goal
  clear hH hlo
  refine li_aload_n hC hl 0 rfl dX12_lay_0 ?_
  refine li_iload_n hC hl 1 rfl dX12_lay_1 ?_
  refine ro_callVi hC (c_X12_isName l g h0 (A 1) n hn hI) mk_X12_isName ml_X12_189 (rr (by decide)) ⟨Nat.le_of_ble_eq_true rfl, Nat.le_of_ble_eq_true rfl⟩ hK.1 (hS.ro hK) (RW_pic (F := F) (A := A) hS) (li_recv hK.1 ck_X12 (hS.1 0 _ rfl)) rfl hl.1 rfl (Nat.le_of_ble_eq_true rfl) dX12_lay_2 ?_
  refine li_ifeq_b (tgt := 15) hC (by decide) dX12_lay_5 (fun c1 => ?_) (fun c1 => ?_)
  · refine li_iconst hC dX12_lay_15 ?_
    exact hQ _ _ _ _ _ _ _ _ dX12_lay_16 hS (by omega) (by omega) (by refine ⟨iI_inj (by unfold layR; rw [iteP_f (by omega)]), ?_⟩; unfold layS; rw [iteP_f (by omega)]; rfl)
  · refine li_iload_n hC hl 2 rfl dX12_lay_8 ?_
    refine ro_callSi hC (c_X12_isPlace l g p hp) mk_X12_isPlace ml_X12_199 (rr (by decide)) ⟨Nat.le_of_ble_eq_true rfl, Nat.le_of_ble_eq_true rfl⟩ hK.1 (hS.ro hK) trivial rfl hl.1 rfl (Nat.le_of_ble_eq_true rfl) dX12_lay_9 ?_
    refine li_ifne_b (tgt := 17) hC (by decide) dX12_lay_12 (fun c2 => ?_) (fun c2 => ?_)
    · refine li_aload_n hC hl 0 rfl dX12_lay_17 ?_
      refine li_iload_n hC hl 1 rfl dX12_lay_18 ?_
      refine li_iload_n hC hl 2 rfl dX12_lay_19 ?_
      refine ro_callVi hC (c_X12_isFree l g h0 (A 1) n p (by omega) (by omega) hI hH) mk_X12_isFree ml_X12_186 (rr (by decide)) ⟨Nat.le_of_ble_eq_true rfl, Nat.le_of_ble_eq_true rfl⟩ hK.1 (hS.ro hK) (RW_pic (F := F) (A := A) hS) (li_recv hK.1 ck_X12 (hS.1 0 _ rfl)) rfl hl.1 rfl (Nat.le_of_ble_eq_true rfl) dX12_lay_20 ?_
      refine li_ifne_b (tgt := 29) hC (by decide) dX12_lay_23 (fun c3 => ?_) (fun c3 => ?_)
      · refine li_aload_n hC hl 0 rfl dX12_lay_29 ?_
        refine li_get hC hK.1 ck_X12 (hS.1 0 _ rfl) 1 (by decide) fl_X12_9 rfl (v := .ref (ad 1)) rfl dX12_lay_30 ?_
        refine li_bipush hC (z := 42) rfl dX12_lay_33 ?_
        refine li_iload_n hC hl 1 rfl dX12_lay_35 ?_
        refine li_iadd hC dX12_lay_36 ?_
        refine li_iald (f := (A 1)) hC hK.1 (hS.1 1 _ rfl) ⟨by omega, by omega⟩ (by decide) dX12_lay_37 ?_
        have q4 := hI.2 n (by omega) (by omega)
        refine ro_callSi hC (c_X12_orNone l g ((A 1) ((42 + n).toNat)) (rg (by omega) (by omega))) mk_X12_orNone ml_X12_193 (rr (by decide)) ⟨Nat.le_of_ble_eq_true rfl, Nat.le_of_ble_eq_true rfl⟩ hK.1 (hS.ro hK) trivial rfl hl.1 rfl (Nat.le_of_ble_eq_true rfl) dX12_lay_38 ?_
        refine li_istore_n hC (lv' := [(3, .int (iI (if ((A 1) ((42 + n).toNat)) = 4 then -5 else ((A 1) ((42 + n).toNat))))), (0, .ref h0), (1, .int (iI n)), (2, .int (iI p))]) hl (by decide) rfl dX12_lay_41 (fun ls hl => ?_)
        refine li_aload_n hC hl 1 rfl dX12_lay_42 ?_
        refine li_get hC hK.1 ck_X12 (hS.1 0 _ rfl) 1 (by decide) fl_X12_9 rfl (v := .ref (ad 1)) rfl dX12_lay_43 ?_
        refine li_bipush hC (z := 42) rfl dX12_lay_46 ?_
        refine li_iload_n hC hl 2 rfl dX12_lay_48 ?_
        refine li_iadd hC dX12_lay_49 ?_
        refine li_iload_n hC hl 3 rfl dX12_lay_50 ?_
        refine li_iast hC hK hS 1 (n := 939) (f := (A 1)) (z := 42 + n) rfl ⟨by omega, by omega⟩ (by decide) (ws' := RW g h0 ad F (va_up A 1 (va_up (A 1) ((42 + n).toNat) p))) rfl dX12_lay_51 (fun H locs hS => ?_)
        refine li_iload_n hC hl 0 rfl dX12_lay_52 ?_
        exact hQ _ _ _ _ _ _ _ _ dX12_lay_53 hS (by omega) (by omega) (by refine ⟨iI_inj (by unfold layR; rw [iteP_t (by omega), iteP_t (by assumption)]; rfl), ?_⟩; unfold layS; rw [iteP_t ⟨by omega, by omega, by assumption⟩])
      · refine li_bipush hC (z := -3) rfl dX12_lay_26 ?_
        exact hQ _ _ _ _ _ _ _ _ dX12_lay_28 hS (by omega) (by omega) (by refine ⟨iI_inj (by unfold layR; rw [iteP_t (by omega), iteP_f (by assumption)]), ?_⟩; unfold layS; rw [iteP_f (fun h => absurd h.2.2 (by assumption))]; rfl)
    · refine li_iconst hC dX12_lay_15 ?_
      exact hQ _ _ _ _ _ _ _ _ dX12_lay_16 hS (by omega) (by omega) (by refine ⟨iI_inj (by unfold layR; rw [iteP_f (by omega)]), ?_⟩; unfold layS; rw [iteP_f (by omega)]; rfl)
set_option maxHeartbeats 4000000 in
set_option maxRecDepth 100000 in
theorem c_X12_lift (l : Launch) (g : GG) (h0 : Nat) (ad : Nat → Nat) (F : Nat → Int) (A : Nat → Nat → Int) (S : Nat → Int) (hSA : A 1 = S) (n : Int) (hn : rng n) (hI : InvD S) (sz : Nat) : MwrI l g yX12_lift cX12_lift 3 3 0 0 [.ref h0, .int (iI n)] sz (RW g h0 ad F A) (fun v w => v = iI (liftR S n) ∧ w = RW g h0 ad F (va_up A 1 (liftS S n))) := by
  subst hSA
  refine wr_startI (own := RX12) (by decide) rfl (Nat.le_of_ble_eq_true rfl) ?_
  intro Pg Ev s Mi args below Mt Cd ls Q Aw hC hK hS hnm hl hQ
  have hD0 := hI.1
  have hl : lv_has ls 3 [(0, .ref h0), (1, .int (iI n))] := hl
  obtain ⟨H, hH⟩ : ∃ H, H = s.heap := ⟨_, rfl⟩
  obtain ⟨locs, hlo⟩ : ∃ locs : List Loc, locs = [] := ⟨_, rfl⟩
  have hS : St g Aw s.heap H locs (RW g h0 ad F A) := by rw [hH, hlo]; exact hS
  have goal : W Pg l Ev (rmC 3 0 0) s Mi args below Mt Cd H locs 0 0 Q (F0 Mi 0 ls []) := ?goal
  · rw [hH, hlo] at goal; exact goal
  clear hH hlo
  refine li_aload_n hC hl 0 rfl dX12_lift_0 ?_
  refine li_iload_n hC hl 1 rfl dX12_lift_1 ?_
  refine ro_callVi hC (c_X12_isName l g h0 (A 1) n hn hI) mk_X12_isName ml_X12_189 (rr (by decide)) ⟨Nat.le_of_ble_eq_true rfl, Nat.le_of_ble_eq_true rfl⟩ hK.1 (hS.ro hK) (RW_pic (F := F) (A := A) hS) (li_recv hK.1 ck_X12 (hS.1 0 _ rfl)) rfl hl.1 rfl (Nat.le_of_ble_eq_true rfl) dX12_lift_2 ?_
  refine li_ifne_b (tgt := 10) hC (by decide) dX12_lift_5 (fun c1 => ?_) (fun c1 => ?_)
  · refine li_aload_n hC hl 0 rfl dX12_lift_10 ?_
    refine li_get hC hK.1 ck_X12 (hS.1 0 _ rfl) 1 (by decide) fl_X12_9 rfl (v := .ref (ad 1)) rfl dX12_lift_11 ?_
    refine li_bipush hC (z := 42) rfl dX12_lift_14 ?_
    refine li_iload_n hC hl 1 rfl dX12_lift_16 ?_
    refine li_iadd hC dX12_lift_17 ?_
    refine li_iald (f := (A 1)) hC hK.1 (hS.1 1 _ rfl) ⟨by omega, by omega⟩ (by decide) dX12_lift_18 ?_
    have q2 := hI.2 n (by omega) (by omega)
    refine ro_callSi hC (c_X12_orNone l g ((A 1) ((42 + n).toNat)) (rg (by omega) (by omega))) mk_X12_orNone ml_X12_193 (rr (by decide)) ⟨Nat.le_of_ble_eq_true rfl, Nat.le_of_ble_eq_true rfl⟩ hK.1 (hS.ro hK) trivial rfl hl.1 rfl (Nat.le_of_ble_eq_true rfl) dX12_lift_19 ?_
    refine li_istore_n hC (lv' := [(2, .int (iI (if ((A 1) ((42 + n).toNat)) = 4 then -5 else ((A 1) ((42 + n).toNat))))), (0, .ref h0), (1, .int (iI n))]) hl (by decide) rfl dX12_lift_22 (fun ls hl => ?_)
    refine li_aload_n hC hl 1 rfl dX12_lift_23 ?_
    refine li_get hC hK.1 ck_X12 (hS.1 0 _ rfl) 1 (by decide) fl_X12_9 rfl (v := .ref (ad 1)) rfl dX12_lift_24 ?_
    refine li_bipush hC (z := 42) rfl dX12_lift_27 ?_
    refine li_iload_n hC hl 2 rfl dX12_lift_29 ?_
    refine li_iadd hC dX12_lift_30 ?_
    refine li_iconst hC dX12_lift_31 ?_
    refine li_iast hC hK hS 1 (n := 939) (f := (A 1)) (z := 42 + n) rfl ⟨by omega, by omega⟩ (by decide) (ws' := RW g h0 ad F (va_up A 1 (va_up (A 1) ((42 + n).toNat) 4))) rfl dX12_lift_32 (fun H locs hS => ?_)
    refine li_iload_n hC hl 0 rfl dX12_lift_33 ?_
    exact hQ _ _ _ _ _ _ _ _ dX12_lift_34 hS (by omega) (by omega) (by refine ⟨iI_inj (by unfold liftR; rw [iteP_t (by omega)]; rfl), ?_⟩; unfold liftS; rw [iteP_t (by omega)])
  · refine li_iconst hC dX12_lift_8 ?_
    exact hQ _ _ _ _ _ _ _ _ dX12_lift_9 hS (by omega) (by omega) (by refine ⟨iI_inj (by unfold liftR; rw [iteP_f (by omega)]), ?_⟩; unfold liftS; rw [iteP_f (by omega)]; rfl)
set_option maxHeartbeats 4000000 in
set_option maxRecDepth 100000 in
theorem c_X12_see (l : Launch) (g : GG) (h0 : Nat) (ad : Nat → Nat) (F : Nat → Int) (A : Nat → Nat → Int) (S : Nat → Int) (hSA : A 1 = S) (c : Int) (r : Int) (z : Int) (hc : rng c) (hr : rng r) (hz : 0 ≤ z ∧ z ≤ 1) (h2 : 0 ≤ S 2 ∧ S 2 ≤ 5) (sz : Nat) : MwrI l g yX12_see cX12_see 4 2 0 0 [.ref h0, .int (iI c), .int (iI r), .int (iI z)] sz (RW g h0 ad F A) (fun v w => v = iI (seeR S c r) ∧ w = RW g h0 ad F (va_up A 1 (seeS S c r z))) := by
  subst hSA
  refine wr_startI (own := RX12) (by decide) rfl (Nat.le_of_ble_eq_true rfl) ?_
  intro Pg Ev s Mi args below Mt Cd ls Q Aw hC hK hS hnm hl hQ
  have hl : lv_has ls 4 [(0, .ref h0), (1, .int (iI c)), (2, .int (iI r)), (3, .int (iI z))] := hl
  obtain ⟨H, hH⟩ : ∃ H, H = s.heap := ⟨_, rfl⟩
  obtain ⟨locs, hlo⟩ : ∃ locs : List Loc, locs = [] := ⟨_, rfl⟩
  have hS : St g Aw s.heap H locs (RW g h0 ad F A) := by rw [hH, hlo]; exact hS
  have goal : W Pg l Ev (rmC 2 0 0) s Mi args below Mt Cd H locs 0 0 Q (F0 Mi 0 ls []) := ?goal
  · rw [hH, hlo] at goal; exact goal
  clear hH hlo
  refine li_iload_n hC hl 1 rfl dX12_see_0 ?_
  refine li_iconst hC dX12_see_1 ?_
  refine li_icmp_ne (tgt := 14) hC (by decide) hc (rg (by decide) (by decide)) dX12_see_2 (fun c1 => ?_) (fun c1 => ?_)
  · refine li_iload_n hC hl 1 rfl dX12_see_14 ?_
    refine li_iconst hC dX12_see_15 ?_
    refine li_bipush hC (z := 29) rfl dX12_see_16 ?_
    refine ro_callSi hC (c_X12_in l g c 0 29 hc (rg (by decide) (by decide)) (rg (by decide) (by decide))) mk_X12_in ml_X12_56 (rr (by decide)) ⟨Nat.le_of_ble_eq_true rfl, Nat.le_of_ble_eq_true rfl⟩ hK.1 (hS.ro hK) trivial rfl hl.1 rfl (Nat.le_of_ble_eq_true rfl) dX12_see_18 ?_
    refine li_ifeq_b (tgt := 34) hC (by decide) dX12_see_21 (fun c2 => ?_) (fun c2 => ?_)
    · refine li_iconst hC dX12_see_34 ?_
      exact hQ _ _ _ _ _ _ _ _ dX12_see_35 hS (by omega) (by omega) (by refine ⟨iI_inj (by unfold seeR; rw [iteP_f (by omega), iteP_f (by omega)]), ?_⟩; unfold seeS; rw [iteP_f (by omega), iteP_f (by omega)]; rfl)
    · refine li_iload_n hC hl 2 rfl dX12_see_24 ?_
      refine li_iconst hC dX12_see_25 ?_
      refine li_bipush hC (z := 11) rfl dX12_see_26 ?_
      refine ro_callSi hC (c_X12_in l g r 0 11 hr (rg (by decide) (by decide)) (rg (by decide) (by decide))) mk_X12_in ml_X12_56 (rr (by decide)) ⟨Nat.le_of_ble_eq_true rfl, Nat.le_of_ble_eq_true rfl⟩ hK.1 (hS.ro hK) trivial rfl hl.1 rfl (Nat.le_of_ble_eq_true rfl) dX12_see_28 ?_
      refine li_ifne_b (tgt := 36) hC (by decide) dX12_see_31 (fun c3 => ?_) (fun c3 => ?_)
      · refine li_aload_n hC hl 0 rfl dX12_see_36 ?_
        refine li_get hC hK.1 ck_X12 (hS.1 0 _ rfl) 1 (by decide) fl_X12_9 rfl (v := .ref (ad 1)) rfl dX12_see_37 ?_
        refine li_iconst hC dX12_see_40 ?_
        refine li_iald_k (k := 2) (f := (A 1)) hC hK.1 (hS.1 1 _ rfl) rfl (by decide) (by decide) dX12_see_41 ?_
        refine li_iconst hC dX12_see_42 ?_
        refine li_icmp_ne (tgt := 49) hC (by decide) (rg (by omega) (by omega)) (rg (by decide) (by decide)) dX12_see_43 (fun c4 => ?_) (fun c4 => ?_)
        · refine li_aload_n hC hl 0 rfl dX12_see_49 ?_
          refine li_get hC hK.1 ck_X12 (hS.1 0 _ rfl) 1 (by decide) fl_X12_9 rfl (v := .ref (ad 1)) rfl dX12_see_50 ?_
          refine li_bipush hC (z := 77) rfl dX12_see_53 ?_
          refine li_aload_n hC hl 0 rfl dX12_see_55 ?_
          refine li_get hC hK.1 ck_X12 (hS.1 0 _ rfl) 1 (by decide) fl_X12_9 rfl (v := .ref (ad 1)) rfl dX12_see_56 ?_
          refine li_iconst hC dX12_see_59 ?_
          refine li_iald_k (k := 2) (f := (A 1)) hC hK.1 (hS.1 1 _ rfl) rfl (by decide) (by decide) dX12_see_60 ?_
          refine li_iadd hC dX12_see_61 ?_
          refine li_iload_n hC hl 1 rfl dX12_see_62 ?_
          refine li_iast hC hK hS 1 (n := 939) (f := (A 1)) (z := 77 + ((A 1) 2)) rfl ⟨by omega, by omega⟩ (by decide) (ws' := RW g h0 ad F (va_up A 1 (va_up (A 1) ((77 + ((A 1) 2)).toNat) c))) rfl dX12_see_63 (fun H locs hS => ?_)
          refine li_aload_n hC hl 0 rfl dX12_see_64 ?_
          refine li_get hC hK.1 ck_X12 (hS.1 0 _ rfl) 1 (by decide) fl_X12_9 rfl (v := .ref (ad 1)) rfl dX12_see_65 ?_
          refine li_bipush hC (z := 82) rfl dX12_see_68 ?_
          refine li_aload_n hC hl 0 rfl dX12_see_70 ?_
          refine li_get hC hK.1 ck_X12 (hS.1 0 _ rfl) 1 (by decide) fl_X12_9 rfl (v := .ref (ad 1)) rfl dX12_see_71 ?_
          refine li_iconst hC dX12_see_74 ?_
          refine li_iald_k (k := 2) (f := va_up (A 1) ((77 + ((A 1) 2)).toNat) c) hC hK.1 (hS.1 1 _ rfl) rfl (by decide) (by decide) dX12_see_75 ?_
          rw [up_ne (A 1) c (show (2 : Nat) ≠ (77 + ((A 1) 2)).toNat by omega)]
          refine li_iadd hC dX12_see_76 ?_
          refine li_iload_n hC hl 2 rfl dX12_see_77 ?_
          refine li_iast hC hK hS 1 (n := 939) (f := va_up (A 1) ((77 + ((A 1) 2)).toNat) c) (z := 82 + ((A 1) 2)) rfl ⟨by omega, by omega⟩ (by decide) (ws' := RW g h0 ad F (va_up A 1 (va_up (va_up (A 1) ((77 + ((A 1) 2)).toNat) c) ((82 + ((A 1) 2)).toNat) r))) rfl dX12_see_78 (fun H locs hS => ?_)
          refine li_aload_n hC hl 0 rfl dX12_see_79 ?_
          refine li_get hC hK.1 ck_X12 (hS.1 0 _ rfl) 1 (by decide) fl_X12_9 rfl (v := .ref (ad 1)) rfl dX12_see_80 ?_
          refine li_bipush hC (z := 87) rfl dX12_see_83 ?_
          refine li_aload_n hC hl 0 rfl dX12_see_85 ?_
          refine li_get hC hK.1 ck_X12 (hS.1 0 _ rfl) 1 (by decide) fl_X12_9 rfl (v := .ref (ad 1)) rfl dX12_see_86 ?_
          refine li_iconst hC dX12_see_89 ?_
          refine li_iald_k (k := 2) (f := va_up (va_up (A 1) ((77 + ((A 1) 2)).toNat) c) ((82 + ((A 1) 2)).toNat) r) hC hK.1 (hS.1 1 _ rfl) rfl (by decide) (by decide) dX12_see_90 ?_
          rw [up_ne (va_up (A 1) ((77 + ((A 1) 2)).toNat) c) r (show (2 : Nat) ≠ (82 + ((A 1) 2)).toNat by omega)]
          rw [up_ne (A 1) c (show (2 : Nat) ≠ (77 + ((A 1) 2)).toNat by omega)]
          refine li_iadd hC dX12_see_91 ?_
          refine li_iload_n hC hl 3 rfl dX12_see_92 ?_
          refine li_if_eq (tgt := 100) hC (by decide) (rg (by omega) (by omega)) dX12_see_93 (fun c5 => ?_) (fun c5 => ?_)
          · refine li_iconst hC dX12_see_100 ?_
            refine li_iast hC hK hS 1 (n := 939) (f := va_up (va_up (A 1) ((77 + ((A 1) 2)).toNat) c) ((82 + ((A 1) 2)).toNat) r) (z := 87 + ((A 1) 2)) rfl ⟨by omega, by omega⟩ (by decide) (ws' := RW g h0 ad F (va_up A 1 (va_up (va_up (va_up (A 1) ((77 + ((A 1) 2)).toNat) c) ((82 + ((A 1) 2)).toNat) r) ((87 + ((A 1) 2)).toNat) 0))) rfl dX12_see_101 (fun H locs hS => ?_)
            refine li_aload_n hC hl 0 rfl dX12_see_102 ?_
            refine li_get hC hK.1 ck_X12 (hS.1 0 _ rfl) 1 (by decide) fl_X12_9 rfl (v := .ref (ad 1)) rfl dX12_see_103 ?_
            refine li_iconst hC dX12_see_106 ?_
            refine li_dup2 hC rfl rfl dX12_see_107 ?_
            refine li_iald_k (k := 2) (f := va_up (va_up (va_up (A 1) ((77 + ((A 1) 2)).toNat) c) ((82 + ((A 1) 2)).toNat) r) ((87 + ((A 1) 2)).toNat) 0) hC hK.1 (hS.1 1 _ rfl) rfl (by decide) (by decide) dX12_see_108 ?_
            rw [up_ne (va_up (va_up (A 1) ((77 + ((A 1) 2)).toNat) c) ((82 + ((A 1) 2)).toNat) r) 0 (show (2 : Nat) ≠ (87 + ((A 1) 2)).toNat by omega)]
            rw [up_ne (va_up (A 1) ((77 + ((A 1) 2)).toNat) c) r (show (2 : Nat) ≠ (82 + ((A 1) 2)).toNat by omega)]
            rw [up_ne (A 1) c (show (2 : Nat) ≠ (77 + ((A 1) 2)).toNat by omega)]
            refine li_iconst hC dX12_see_109 ?_
            refine li_iadd hC dX12_see_110 ?_
            refine li_iast hC hK hS 1 (n := 939) (f := va_up (va_up (va_up (A 1) ((77 + ((A 1) 2)).toNat) c) ((82 + ((A 1) 2)).toNat) r) ((87 + ((A 1) 2)).toNat) 0) (z := 2) rfl ⟨by omega, by omega⟩ (by decide) (ws' := RW g h0 ad F (va_up A 1 (va_up (va_up (va_up (va_up (A 1) ((77 + ((A 1) 2)).toNat) c) ((82 + ((A 1) 2)).toNat) r) ((87 + ((A 1) 2)).toNat) 0) 2 (((A 1) 2) + 1)))) rfl dX12_see_111 (fun H locs hS => ?_)
            refine li_aload_n hC hl 0 rfl dX12_see_112 ?_
            refine li_get hC hK.1 ck_X12 (hS.1 0 _ rfl) 1 (by decide) fl_X12_9 rfl (v := .ref (ad 1)) rfl dX12_see_113 ?_
            refine li_iconst hC dX12_see_116 ?_
            refine li_iald_k (k := 2) (f := va_up (va_up (va_up (va_up (A 1) ((77 + ((A 1) 2)).toNat) c) ((82 + ((A 1) 2)).toNat) r) ((87 + ((A 1) 2)).toNat) 0) 2 (((A 1) 2) + 1)) hC hK.1 (hS.1 1 _ rfl) rfl (by decide) (by decide) dX12_see_117 ?_
            rw [up_same]
            exact hQ _ _ _ _ _ _ _ _ dX12_see_118 hS (by omega) (by omega) (by refine ⟨iI_inj (by unfold seeR; rw [iteP_f (by omega), iteP_t (by omega), iteP_f (by omega)]), ?_⟩; unfold seeS; rw [iteP_f (by omega), iteP_t (by omega)]; first | (rw [iteP_t (by omega)]; done) | (rw [iteP_f (by omega)]; done))
          · refine li_iconst hC dX12_see_96 ?_
            refine li_goto (tgt := 101) hC (by decide) dX12_see_97 ?_
            refine li_iast hC hK hS 1 (n := 939) (f := va_up (va_up (A 1) ((77 + ((A 1) 2)).toNat) c) ((82 + ((A 1) 2)).toNat) r) (z := 87 + ((A 1) 2)) rfl ⟨by omega, by omega⟩ (by decide) (ws' := RW g h0 ad F (va_up A 1 (va_up (va_up (va_up (A 1) ((77 + ((A 1) 2)).toNat) c) ((82 + ((A 1) 2)).toNat) r) ((87 + ((A 1) 2)).toNat) 1))) rfl dX12_see_101 (fun H locs hS => ?_)
            refine li_aload_n hC hl 0 rfl dX12_see_102 ?_
            refine li_get hC hK.1 ck_X12 (hS.1 0 _ rfl) 1 (by decide) fl_X12_9 rfl (v := .ref (ad 1)) rfl dX12_see_103 ?_
            refine li_iconst hC dX12_see_106 ?_
            refine li_dup2 hC rfl rfl dX12_see_107 ?_
            refine li_iald_k (k := 2) (f := va_up (va_up (va_up (A 1) ((77 + ((A 1) 2)).toNat) c) ((82 + ((A 1) 2)).toNat) r) ((87 + ((A 1) 2)).toNat) 1) hC hK.1 (hS.1 1 _ rfl) rfl (by decide) (by decide) dX12_see_108 ?_
            rw [up_ne (va_up (va_up (A 1) ((77 + ((A 1) 2)).toNat) c) ((82 + ((A 1) 2)).toNat) r) 1 (show (2 : Nat) ≠ (87 + ((A 1) 2)).toNat by omega)]
            rw [up_ne (va_up (A 1) ((77 + ((A 1) 2)).toNat) c) r (show (2 : Nat) ≠ (82 + ((A 1) 2)).toNat by omega)]
            rw [up_ne (A 1) c (show (2 : Nat) ≠ (77 + ((A 1) 2)).toNat by omega)]
            refine li_iconst hC dX12_see_109 ?_
            refine li_iadd hC dX12_see_110 ?_
            refine li_iast hC hK hS 1 (n := 939) (f := va_up (va_up (va_up (A 1) ((77 + ((A 1) 2)).toNat) c) ((82 + ((A 1) 2)).toNat) r) ((87 + ((A 1) 2)).toNat) 1) (z := 2) rfl ⟨by omega, by omega⟩ (by decide) (ws' := RW g h0 ad F (va_up A 1 (va_up (va_up (va_up (va_up (A 1) ((77 + ((A 1) 2)).toNat) c) ((82 + ((A 1) 2)).toNat) r) ((87 + ((A 1) 2)).toNat) 1) 2 (((A 1) 2) + 1)))) rfl dX12_see_111 (fun H locs hS => ?_)
            refine li_aload_n hC hl 0 rfl dX12_see_112 ?_
            refine li_get hC hK.1 ck_X12 (hS.1 0 _ rfl) 1 (by decide) fl_X12_9 rfl (v := .ref (ad 1)) rfl dX12_see_113 ?_
            refine li_iconst hC dX12_see_116 ?_
            refine li_iald_k (k := 2) (f := va_up (va_up (va_up (va_up (A 1) ((77 + ((A 1) 2)).toNat) c) ((82 + ((A 1) 2)).toNat) r) ((87 + ((A 1) 2)).toNat) 1) 2 (((A 1) 2) + 1)) hC hK.1 (hS.1 1 _ rfl) rfl (by decide) (by decide) dX12_see_117 ?_
            rw [up_same]
            exact hQ _ _ _ _ _ _ _ _ dX12_see_118 hS (by omega) (by omega) (by refine ⟨iI_inj (by unfold seeR; rw [iteP_f (by omega), iteP_t (by omega), iteP_f (by omega)]), ?_⟩; unfold seeS; rw [iteP_f (by omega), iteP_t (by omega)]; first | (rw [iteP_t (by omega)]; done) | (rw [iteP_f (by omega)]; done))
        · refine li_bipush hC (z := -4) rfl dX12_see_46 ?_
          exact hQ _ _ _ _ _ _ _ _ dX12_see_48 hS (by omega) (by omega) (by refine ⟨iI_inj (by unfold seeR; rw [iteP_f (by omega), iteP_t (by omega), iteP_t (by omega)]), ?_⟩; unfold seeS; rw [iteP_f (by omega), iteP_f (by omega)]; rfl)
      · refine li_iconst hC dX12_see_34 ?_
        exact hQ _ _ _ _ _ _ _ _ dX12_see_35 hS (by omega) (by omega) (by refine ⟨iI_inj (by unfold seeR; rw [iteP_f (by omega), iteP_f (by omega)]), ?_⟩; unfold seeS; rw [iteP_f (by omega), iteP_f (by omega)]; rfl)
  · refine li_aload_n hC hl 0 rfl dX12_see_5 ?_
    refine li_get hC hK.1 ck_X12 (hS.1 0 _ rfl) 1 (by decide) fl_X12_9 rfl (v := .ref (ad 1)) rfl dX12_see_6 ?_
    refine li_iconst hC dX12_see_9 ?_
    refine li_iconst hC dX12_see_10 ?_
    refine li_iast hC hK hS 1 (n := 939) (f := (A 1)) (z := 2) rfl ⟨by omega, by omega⟩ (by decide) (ws' := RW g h0 ad F (va_up A 1 (va_up (A 1) 2 0))) rfl dX12_see_11 (fun H locs hS => ?_)
    refine li_iconst hC dX12_see_12 ?_
    exact hQ _ _ _ _ _ _ _ _ dX12_see_13 hS (by omega) (by omega) (by refine ⟨iI_inj (by unfold seeR; rw [iteP_t (by omega)]), ?_⟩; unfold seeS; rw [iteP_t (by omega)])
set_option maxHeartbeats 4000000 in
set_option maxRecDepth 100000 in
theorem c_X12_plan (l : Launch) (g : GG) (h0 : Nat) (ad : Nat → Nat) (F : Nat → Int) (A : Nat → Nat → Int) (S : Nat → Int) (hSA : A 1 = S) (n : Int) (p : Int) (hn : rng n) (hp : rng p) (h3 : 0 ≤ S 3 ∧ S 3 ≤ 8) (hI : InvD S) (sz : Nat) : MwrI l g yX12_plan cX12_plan 3 3 0 0 [.ref h0, .int (iI n), .int (iI p)] sz (RW g h0 ad F A) (fun v w => v = iI (listR 3 S n p) ∧ w = RW g h0 ad F (va_up A 1 (listS 3 92 100 S n p))) := by
  subst hSA
  refine wr_startI (own := RX12) (by decide) rfl (Nat.le_of_ble_eq_true rfl) ?_
  intro Pg Ev s Mi args below Mt Cd ls Q Aw hC hK hS hnm hl hQ
  have hD0 := hI.1
  have e3 : (3 : Int).toNat = 3 := rfl
  have hl : lv_has ls 3 [(0, .ref h0), (1, .int (iI n)), (2, .int (iI p))] := hl
  obtain ⟨H, hH⟩ : ∃ H, H = s.heap := ⟨_, rfl⟩
  obtain ⟨locs, hlo⟩ : ∃ locs : List Loc, locs = [] := ⟨_, rfl⟩
  have hS : St g Aw s.heap H locs (RW g h0 ad F A) := by rw [hH, hlo]; exact hS
  have goal : W Pg l Ev (rmC 3 0 0) s Mi args below Mt Cd H locs 0 0 Q (F0 Mi 0 ls []) := ?goal
  · rw [hH, hlo] at goal; exact goal
  clear hH hlo
  refine li_iload_n hC hl 1 rfl dX12_plan_0 ?_
  refine li_iconst hC dX12_plan_1 ?_
  refine li_icmp_ne (tgt := 14) hC (by decide) hn (rg (by decide) (by decide)) dX12_plan_2 (fun c1 => ?_) (fun c1 => ?_)
  · refine li_aload_n hC hl 0 rfl dX12_plan_14 ?_
    refine li_iload_n hC hl 1 rfl dX12_plan_15 ?_
    refine ro_callVi hC (c_X12_isName l g h0 (A 1) n hn hI) mk_X12_isName ml_X12_189 (rr (by decide)) ⟨Nat.le_of_ble_eq_true rfl, Nat.le_of_ble_eq_true rfl⟩ hK.1 (hS.ro hK) (RW_pic (F := F) (A := A) hS) (li_recv hK.1 ck_X12 (hS.1 0 _ rfl)) rfl hl.1 rfl (Nat.le_of_ble_eq_true rfl) dX12_plan_16 ?_
    refine li_ifeq_b (tgt := 31) hC (by decide) dX12_plan_19 (fun c2 => ?_) (fun c2 => ?_)
    · refine li_iconst hC dX12_plan_31 ?_
      exact hQ _ _ _ _ _ _ _ _ dX12_plan_32 hS (by omega) (by omega) (by refine ⟨iI_inj (by unfold listR; rw [iteP_f (by omega), iteP_f (by omega)]), ?_⟩; unfold listS; rw [iteP_f (by omega), iteP_f (by omega)]; rfl)
    · refine li_iload_n hC hl 2 rfl dX12_plan_22 ?_
      refine li_iconst hC dX12_plan_23 ?_
      refine li_iconst hC dX12_plan_24 ?_
      refine ro_callSi hC (c_X12_in l g p 0 4 hp (rg (by decide) (by decide)) (rg (by decide) (by decide))) mk_X12_in ml_X12_56 (rr (by decide)) ⟨Nat.le_of_ble_eq_true rfl, Nat.le_of_ble_eq_true rfl⟩ hK.1 (hS.ro hK) trivial rfl hl.1 rfl (Nat.le_of_ble_eq_true rfl) dX12_plan_25 ?_
      refine li_ifne_b (tgt := 33) hC (by decide) dX12_plan_28 (fun c3 => ?_) (fun c3 => ?_)
      · refine li_aload_n hC hl 0 rfl dX12_plan_33 ?_
        refine li_get hC hK.1 ck_X12 (hS.1 0 _ rfl) 1 (by decide) fl_X12_9 rfl (v := .ref (ad 1)) rfl dX12_plan_34 ?_
        refine li_iconst hC dX12_plan_37 ?_
        refine li_iald_k (k := 3) (f := (A 1)) hC hK.1 (hS.1 1 _ rfl) rfl (by decide) (by decide) dX12_plan_38 ?_
        refine li_bipush hC (z := 8) rfl dX12_plan_39 ?_
        refine li_icmp_ne (tgt := 47) hC (by decide) (rg (by omega) (by omega)) (rg (by decide) (by decide)) dX12_plan_41 (fun c4 => ?_) (fun c4 => ?_)
        · refine li_aload_n hC hl 0 rfl dX12_plan_47 ?_
          refine li_get hC hK.1 ck_X12 (hS.1 0 _ rfl) 1 (by decide) fl_X12_9 rfl (v := .ref (ad 1)) rfl dX12_plan_48 ?_
          refine li_bipush hC (z := 92) rfl dX12_plan_51 ?_
          refine li_aload_n hC hl 0 rfl dX12_plan_53 ?_
          refine li_get hC hK.1 ck_X12 (hS.1 0 _ rfl) 1 (by decide) fl_X12_9 rfl (v := .ref (ad 1)) rfl dX12_plan_54 ?_
          refine li_iconst hC dX12_plan_57 ?_
          refine li_iald_k (k := 3) (f := (A 1)) hC hK.1 (hS.1 1 _ rfl) rfl (by decide) (by decide) dX12_plan_58 ?_
          refine li_iadd hC dX12_plan_59 ?_
          refine li_iload_n hC hl 1 rfl dX12_plan_60 ?_
          refine li_iast hC hK hS 1 (n := 939) (f := (A 1)) (z := 92 + ((A 1) 3)) rfl ⟨by omega, by omega⟩ (by decide) (ws' := RW g h0 ad F (va_up A 1 (va_up (A 1) ((92 + ((A 1) 3)).toNat) n))) rfl dX12_plan_61 (fun H locs hS => ?_)
          refine li_aload_n hC hl 0 rfl dX12_plan_62 ?_
          refine li_get hC hK.1 ck_X12 (hS.1 0 _ rfl) 1 (by decide) fl_X12_9 rfl (v := .ref (ad 1)) rfl dX12_plan_63 ?_
          refine li_bipush hC (z := 100) rfl dX12_plan_66 ?_
          refine li_aload_n hC hl 0 rfl dX12_plan_68 ?_
          refine li_get hC hK.1 ck_X12 (hS.1 0 _ rfl) 1 (by decide) fl_X12_9 rfl (v := .ref (ad 1)) rfl dX12_plan_69 ?_
          refine li_iconst hC dX12_plan_72 ?_
          refine li_iald_k (k := 3) (f := va_up (A 1) ((92 + ((A 1) 3)).toNat) n) hC hK.1 (hS.1 1 _ rfl) rfl (by decide) (by decide) dX12_plan_73 ?_
          rw [up_ne (A 1) n (show (3 : Nat) ≠ (92 + ((A 1) 3)).toNat by omega)]
          refine li_iadd hC dX12_plan_74 ?_
          refine li_iload_n hC hl 2 rfl dX12_plan_75 ?_
          refine li_iast hC hK hS 1 (n := 939) (f := va_up (A 1) ((92 + ((A 1) 3)).toNat) n) (z := 100 + ((A 1) 3)) rfl ⟨by omega, by omega⟩ (by decide) (ws' := RW g h0 ad F (va_up A 1 (va_up (va_up (A 1) ((92 + ((A 1) 3)).toNat) n) ((100 + ((A 1) 3)).toNat) p))) rfl dX12_plan_76 (fun H locs hS => ?_)
          refine li_aload_n hC hl 0 rfl dX12_plan_77 ?_
          refine li_get hC hK.1 ck_X12 (hS.1 0 _ rfl) 1 (by decide) fl_X12_9 rfl (v := .ref (ad 1)) rfl dX12_plan_78 ?_
          refine li_iconst hC dX12_plan_81 ?_
          refine li_dup2 hC rfl rfl dX12_plan_82 ?_
          refine li_iald_k (k := 3) (f := va_up (va_up (A 1) ((92 + ((A 1) 3)).toNat) n) ((100 + ((A 1) 3)).toNat) p) hC hK.1 (hS.1 1 _ rfl) rfl (by decide) (by decide) dX12_plan_83 ?_
          rw [up_ne (va_up (A 1) ((92 + ((A 1) 3)).toNat) n) p (show (3 : Nat) ≠ (100 + ((A 1) 3)).toNat by omega)]
          rw [up_ne (A 1) n (show (3 : Nat) ≠ (92 + ((A 1) 3)).toNat by omega)]
          refine li_iconst hC dX12_plan_84 ?_
          refine li_iadd hC dX12_plan_85 ?_
          refine li_iast hC hK hS 1 (n := 939) (f := va_up (va_up (A 1) ((92 + ((A 1) 3)).toNat) n) ((100 + ((A 1) 3)).toNat) p) (z := 3) rfl ⟨by omega, by omega⟩ (by decide) (ws' := RW g h0 ad F (va_up A 1 (va_up (va_up (va_up (A 1) ((92 + ((A 1) 3)).toNat) n) ((100 + ((A 1) 3)).toNat) p) 3 (((A 1) 3) + 1)))) rfl dX12_plan_86 (fun H locs hS => ?_)
          refine li_aload_n hC hl 0 rfl dX12_plan_87 ?_
          refine li_get hC hK.1 ck_X12 (hS.1 0 _ rfl) 1 (by decide) fl_X12_9 rfl (v := .ref (ad 1)) rfl dX12_plan_88 ?_
          refine li_iconst hC dX12_plan_91 ?_
          refine li_iald_k (k := 3) (f := va_up (va_up (va_up (A 1) ((92 + ((A 1) 3)).toNat) n) ((100 + ((A 1) 3)).toNat) p) 3 (((A 1) 3) + 1)) hC hK.1 (hS.1 1 _ rfl) rfl (by decide) (by decide) dX12_plan_92 ?_
          rw [up_same]
          exact hQ _ _ _ _ _ _ _ _ dX12_plan_93 hS (by omega) (by omega) (by refine ⟨iI_inj (by unfold listR; rw [e3, iteP_f (by omega), iteP_t (by omega), iteP_f (by omega)]), ?_⟩; unfold listS; rw [e3, iteP_f (by omega), iteP_t (by omega)])
        · refine li_bipush hC (z := -4) rfl dX12_plan_44 ?_
          exact hQ _ _ _ _ _ _ _ _ dX12_plan_46 hS (by omega) (by omega) (by refine ⟨iI_inj (by unfold listR; rw [e3, iteP_f (by omega), iteP_t (by omega), iteP_t (by omega)]), ?_⟩; unfold listS; rw [e3, iteP_f (by omega), iteP_f (by omega)]; rfl)
      · refine li_iconst hC dX12_plan_31 ?_
        exact hQ _ _ _ _ _ _ _ _ dX12_plan_32 hS (by omega) (by omega) (by refine ⟨iI_inj (by unfold listR; rw [iteP_f (by omega), iteP_f (by omega)]), ?_⟩; unfold listS; rw [iteP_f (by omega), iteP_f (by omega)]; rfl)
  · refine li_aload_n hC hl 0 rfl dX12_plan_5 ?_
    refine li_get hC hK.1 ck_X12 (hS.1 0 _ rfl) 1 (by decide) fl_X12_9 rfl (v := .ref (ad 1)) rfl dX12_plan_6 ?_
    refine li_iconst hC dX12_plan_9 ?_
    refine li_iconst hC dX12_plan_10 ?_
    refine li_iast hC hK hS 1 (n := 939) (f := (A 1)) (z := 3) rfl ⟨by omega, by omega⟩ (by decide) (ws' := RW g h0 ad F (va_up A 1 (va_up (A 1) 3 0))) rfl dX12_plan_11 (fun H locs hS => ?_)
    refine li_iconst hC dX12_plan_12 ?_
    exact hQ _ _ _ _ _ _ _ _ dX12_plan_13 hS (by omega) (by omega) (by refine ⟨iI_inj (by unfold listR; rw [iteP_t (by omega)]), ?_⟩; unfold listS; rw [iteP_t (by omega), e3])
set_option maxHeartbeats 4000000 in
set_option maxRecDepth 100000 in
theorem c_X12_book (l : Launch) (g : GG) (h0 : Nat) (ad : Nat → Nat) (F : Nat → Int) (A : Nat → Nat → Int) (S : Nat → Int) (hSA : A 1 = S) (n : Int) (p : Int) (hn : rng n) (hp : rng p) (h3 : 0 ≤ S 4 ∧ S 4 ≤ 8) (hI : InvD S) (sz : Nat) : MwrI l g yX12_book cX12_book 3 3 0 0 [.ref h0, .int (iI n), .int (iI p)] sz (RW g h0 ad F A) (fun v w => v = iI (listR 4 S n p) ∧ w = RW g h0 ad F (va_up A 1 (listS 4 108 116 S n p))) := by
  subst hSA
  refine wr_startI (own := RX12) (by decide) rfl (Nat.le_of_ble_eq_true rfl) ?_
  intro Pg Ev s Mi args below Mt Cd ls Q Aw hC hK hS hnm hl hQ
  have hD0 := hI.1
  have e3 : (4 : Int).toNat = 4 := rfl
  have hl : lv_has ls 3 [(0, .ref h0), (1, .int (iI n)), (2, .int (iI p))] := hl
  obtain ⟨H, hH⟩ : ∃ H, H = s.heap := ⟨_, rfl⟩
  obtain ⟨locs, hlo⟩ : ∃ locs : List Loc, locs = [] := ⟨_, rfl⟩
  have hS : St g Aw s.heap H locs (RW g h0 ad F A) := by rw [hH, hlo]; exact hS
  have goal : W Pg l Ev (rmC 3 0 0) s Mi args below Mt Cd H locs 0 0 Q (F0 Mi 0 ls []) := ?goal
  · rw [hH, hlo] at goal; exact goal
  clear hH hlo
  refine li_iload_n hC hl 1 rfl dX12_book_0 ?_
  refine li_iconst hC dX12_book_1 ?_
  refine li_icmp_ne (tgt := 14) hC (by decide) hn (rg (by decide) (by decide)) dX12_book_2 (fun c1 => ?_) (fun c1 => ?_)
  · refine li_aload_n hC hl 0 rfl dX12_book_14 ?_
    refine li_iload_n hC hl 1 rfl dX12_book_15 ?_
    refine ro_callVi hC (c_X12_isName l g h0 (A 1) n hn hI) mk_X12_isName ml_X12_189 (rr (by decide)) ⟨Nat.le_of_ble_eq_true rfl, Nat.le_of_ble_eq_true rfl⟩ hK.1 (hS.ro hK) (RW_pic (F := F) (A := A) hS) (li_recv hK.1 ck_X12 (hS.1 0 _ rfl)) rfl hl.1 rfl (Nat.le_of_ble_eq_true rfl) dX12_book_16 ?_
    refine li_ifeq_b (tgt := 31) hC (by decide) dX12_book_19 (fun c2 => ?_) (fun c2 => ?_)
    · refine li_iconst hC dX12_book_31 ?_
      exact hQ _ _ _ _ _ _ _ _ dX12_book_32 hS (by omega) (by omega) (by refine ⟨iI_inj (by unfold listR; rw [iteP_f (by omega), iteP_f (by omega)]), ?_⟩; unfold listS; rw [iteP_f (by omega), iteP_f (by omega)]; rfl)
    · refine li_iload_n hC hl 2 rfl dX12_book_22 ?_
      refine li_iconst hC dX12_book_23 ?_
      refine li_iconst hC dX12_book_24 ?_
      refine ro_callSi hC (c_X12_in l g p 0 4 hp (rg (by decide) (by decide)) (rg (by decide) (by decide))) mk_X12_in ml_X12_56 (rr (by decide)) ⟨Nat.le_of_ble_eq_true rfl, Nat.le_of_ble_eq_true rfl⟩ hK.1 (hS.ro hK) trivial rfl hl.1 rfl (Nat.le_of_ble_eq_true rfl) dX12_book_25 ?_
      refine li_ifne_b (tgt := 33) hC (by decide) dX12_book_28 (fun c3 => ?_) (fun c3 => ?_)
      · refine li_aload_n hC hl 0 rfl dX12_book_33 ?_
        refine li_get hC hK.1 ck_X12 (hS.1 0 _ rfl) 1 (by decide) fl_X12_9 rfl (v := .ref (ad 1)) rfl dX12_book_34 ?_
        refine li_iconst hC dX12_book_37 ?_
        refine li_iald_k (k := 4) (f := (A 1)) hC hK.1 (hS.1 1 _ rfl) rfl (by decide) (by decide) dX12_book_38 ?_
        refine li_bipush hC (z := 8) rfl dX12_book_39 ?_
        refine li_icmp_ne (tgt := 47) hC (by decide) (rg (by omega) (by omega)) (rg (by decide) (by decide)) dX12_book_41 (fun c4 => ?_) (fun c4 => ?_)
        · refine li_aload_n hC hl 0 rfl dX12_book_47 ?_
          refine li_get hC hK.1 ck_X12 (hS.1 0 _ rfl) 1 (by decide) fl_X12_9 rfl (v := .ref (ad 1)) rfl dX12_book_48 ?_
          refine li_bipush hC (z := 108) rfl dX12_book_51 ?_
          refine li_aload_n hC hl 0 rfl dX12_book_53 ?_
          refine li_get hC hK.1 ck_X12 (hS.1 0 _ rfl) 1 (by decide) fl_X12_9 rfl (v := .ref (ad 1)) rfl dX12_book_54 ?_
          refine li_iconst hC dX12_book_57 ?_
          refine li_iald_k (k := 4) (f := (A 1)) hC hK.1 (hS.1 1 _ rfl) rfl (by decide) (by decide) dX12_book_58 ?_
          refine li_iadd hC dX12_book_59 ?_
          refine li_iload_n hC hl 1 rfl dX12_book_60 ?_
          refine li_iast hC hK hS 1 (n := 939) (f := (A 1)) (z := 108 + ((A 1) 4)) rfl ⟨by omega, by omega⟩ (by decide) (ws' := RW g h0 ad F (va_up A 1 (va_up (A 1) ((108 + ((A 1) 4)).toNat) n))) rfl dX12_book_61 (fun H locs hS => ?_)
          refine li_aload_n hC hl 0 rfl dX12_book_62 ?_
          refine li_get hC hK.1 ck_X12 (hS.1 0 _ rfl) 1 (by decide) fl_X12_9 rfl (v := .ref (ad 1)) rfl dX12_book_63 ?_
          refine li_bipush hC (z := 116) rfl dX12_book_66 ?_
          refine li_aload_n hC hl 0 rfl dX12_book_68 ?_
          refine li_get hC hK.1 ck_X12 (hS.1 0 _ rfl) 1 (by decide) fl_X12_9 rfl (v := .ref (ad 1)) rfl dX12_book_69 ?_
          refine li_iconst hC dX12_book_72 ?_
          refine li_iald_k (k := 4) (f := va_up (A 1) ((108 + ((A 1) 4)).toNat) n) hC hK.1 (hS.1 1 _ rfl) rfl (by decide) (by decide) dX12_book_73 ?_
          rw [up_ne (A 1) n (show (4 : Nat) ≠ (108 + ((A 1) 4)).toNat by omega)]
          refine li_iadd hC dX12_book_74 ?_
          refine li_iload_n hC hl 2 rfl dX12_book_75 ?_
          refine li_iast hC hK hS 1 (n := 939) (f := va_up (A 1) ((108 + ((A 1) 4)).toNat) n) (z := 116 + ((A 1) 4)) rfl ⟨by omega, by omega⟩ (by decide) (ws' := RW g h0 ad F (va_up A 1 (va_up (va_up (A 1) ((108 + ((A 1) 4)).toNat) n) ((116 + ((A 1) 4)).toNat) p))) rfl dX12_book_76 (fun H locs hS => ?_)
          refine li_aload_n hC hl 0 rfl dX12_book_77 ?_
          refine li_get hC hK.1 ck_X12 (hS.1 0 _ rfl) 1 (by decide) fl_X12_9 rfl (v := .ref (ad 1)) rfl dX12_book_78 ?_
          refine li_iconst hC dX12_book_81 ?_
          refine li_dup2 hC rfl rfl dX12_book_82 ?_
          refine li_iald_k (k := 4) (f := va_up (va_up (A 1) ((108 + ((A 1) 4)).toNat) n) ((116 + ((A 1) 4)).toNat) p) hC hK.1 (hS.1 1 _ rfl) rfl (by decide) (by decide) dX12_book_83 ?_
          rw [up_ne (va_up (A 1) ((108 + ((A 1) 4)).toNat) n) p (show (4 : Nat) ≠ (116 + ((A 1) 4)).toNat by omega)]
          rw [up_ne (A 1) n (show (4 : Nat) ≠ (108 + ((A 1) 4)).toNat by omega)]
          refine li_iconst hC dX12_book_84 ?_
          refine li_iadd hC dX12_book_85 ?_
          refine li_iast hC hK hS 1 (n := 939) (f := va_up (va_up (A 1) ((108 + ((A 1) 4)).toNat) n) ((116 + ((A 1) 4)).toNat) p) (z := 4) rfl ⟨by omega, by omega⟩ (by decide) (ws' := RW g h0 ad F (va_up A 1 (va_up (va_up (va_up (A 1) ((108 + ((A 1) 4)).toNat) n) ((116 + ((A 1) 4)).toNat) p) 4 (((A 1) 4) + 1)))) rfl dX12_book_86 (fun H locs hS => ?_)
          refine li_aload_n hC hl 0 rfl dX12_book_87 ?_
          refine li_get hC hK.1 ck_X12 (hS.1 0 _ rfl) 1 (by decide) fl_X12_9 rfl (v := .ref (ad 1)) rfl dX12_book_88 ?_
          refine li_iconst hC dX12_book_91 ?_
          refine li_iald_k (k := 4) (f := va_up (va_up (va_up (A 1) ((108 + ((A 1) 4)).toNat) n) ((116 + ((A 1) 4)).toNat) p) 4 (((A 1) 4) + 1)) hC hK.1 (hS.1 1 _ rfl) rfl (by decide) (by decide) dX12_book_92 ?_
          rw [up_same]
          exact hQ _ _ _ _ _ _ _ _ dX12_book_93 hS (by omega) (by omega) (by refine ⟨iI_inj (by unfold listR; rw [e3, iteP_f (by omega), iteP_t (by omega), iteP_f (by omega)]), ?_⟩; unfold listS; rw [e3, iteP_f (by omega), iteP_t (by omega)])
        · refine li_bipush hC (z := -4) rfl dX12_book_44 ?_
          exact hQ _ _ _ _ _ _ _ _ dX12_book_46 hS (by omega) (by omega) (by refine ⟨iI_inj (by unfold listR; rw [e3, iteP_f (by omega), iteP_t (by omega), iteP_t (by omega)]), ?_⟩; unfold listS; rw [e3, iteP_f (by omega), iteP_f (by omega)]; rfl)
      · refine li_iconst hC dX12_book_31 ?_
        exact hQ _ _ _ _ _ _ _ _ dX12_book_32 hS (by omega) (by omega) (by refine ⟨iI_inj (by unfold listR; rw [iteP_f (by omega), iteP_f (by omega)]), ?_⟩; unfold listS; rw [iteP_f (by omega), iteP_f (by omega)]; rfl)
  · refine li_aload_n hC hl 0 rfl dX12_book_5 ?_
    refine li_get hC hK.1 ck_X12 (hS.1 0 _ rfl) 1 (by decide) fl_X12_9 rfl (v := .ref (ad 1)) rfl dX12_book_6 ?_
    refine li_iconst hC dX12_book_9 ?_
    refine li_iconst hC dX12_book_10 ?_
    refine li_iast hC hK hS 1 (n := 939) (f := (A 1)) (z := 4) rfl ⟨by omega, by omega⟩ (by decide) (ws' := RW g h0 ad F (va_up A 1 (va_up (A 1) 4 0))) rfl dX12_book_11 (fun H locs hS => ?_)
    refine li_iconst hC dX12_book_12 ?_
    exact hQ _ _ _ _ _ _ _ _ dX12_book_13 hS (by omega) (by omega) (by refine ⟨iI_inj (by unfold listR; rw [iteP_t (by omega)]), ?_⟩; unfold listS; rw [iteP_t (by omega), e3])
set_option maxHeartbeats 4000000 in
set_option maxRecDepth 100000 in
theorem c_X12_image (l : Launch) (g : GG) (h0 : Nat) (ad : Nat → Nat) (F : Nat → Int) (A : Nat → Nat → Int) (S : Nat → Int) (hSA : A 1 = S) (hr : rng (S 0)) (sz : Nat) : MwrI l g yX12_image cX12_image 2 1 0 0 [.ref h0] sz (RW g h0 ad F A) (fun v w => v = iI (S 0) ∧ w = RW g h0 ad (va_up F 3 1) (va_up A 2 S)) := by
  subst hSA
  refine wr_startI (own := RX12) (by decide) rfl (Nat.le_of_ble_eq_true rfl) ?_
  intro Pg Ev s Mi args below Mt Cd ls Q Aw hC hK hS hnm hl hQ
  have hl : lv_has ls 2 [(0, .ref h0)] := hl
  obtain ⟨H, hH⟩ : ∃ H, H = s.heap := ⟨_, rfl⟩
  obtain ⟨locs, hlo⟩ : ∃ locs : List Loc, locs = [] := ⟨_, rfl⟩
  have hS : St g Aw s.heap H locs (RW g h0 ad F A) := by rw [hH, hlo]; exact hS
  have goal : W Pg l Ev (rmC 1 0 0) s Mi args below Mt Cd H locs 0 0 Q (F0 Mi 0 ls []) := ?goal
  · rw [hH, hlo] at goal; exact goal
  clear hH hlo
  refine li_iconst hC dX12_image_0 ?_
  refine li_istore_n hC (lv' := [(1, .int (iI 0)), (0, .ref h0)]) hl (by decide) rfl dX12_image_1 (fun ls hl => ?_)
  have L2_1 : ∀ (fuel : Nat) (j : Int) (f : Nat → Int) (ls : Array Slot) (H : Heap) (locs : List Loc), St g Aw s.heap H locs (RW g h0 ad F (va_up A 2 f)) → lv_has ls 2 [(0, .ref h0), (1, .int (iI j))] → (0 ≤ j ∧ j ≤ 939) → (∀ k : Nat, (k : Int) < j → f k = A 1 k) → (((939 : Int) - j).toNat) < fuel → W Pg l Ev (rmC 1 0 0) s Mi args below Mt Cd H locs 0 0 Q (F0 Mi 2 ls []) := by
    intro fuel
    induction fuel with
    | zero => intro j f ls H locs hS hl hj hf hm; exact absurd hm (Nat.not_lt_zero _)
    | succ fuel ih =>
      intro j f ls H locs hS hl hj hf hm
      refine li_iload_n hC hl 1 rfl dX12_image_2 ?_
      refine li_sipush hC (z := 939) rfl dX12_image_3 ?_
      refine li_icmp_ge (tgt := 27) hC (by decide) (rg (by omega) (by omega)) (rg (by decide) (by decide)) dX12_image_6 (fun c2 => ?_) (fun c2 => ?_)
      · have hS := St_ext (f' := aI (A 1)) (ws' := RW g h0 ad F (va_up A 2 (A 1))) hS 2 rfl (fun k hk => iI_inj (hf k (by omega))) rfl
        refine li_aload_n hC hl 0 rfl dX12_image_27 ?_
        refine li_iconst hC dX12_image_28 ?_
        refine li_put hC hK hS ck_X12 0 rfl 3 (by decide) fl_X12_319 rfl rfl (v := .int (iI 1)) (nar_01 (Or.inr rfl)) (fit_01 (Or.inr rfl)) (Nat.le_of_ble_eq_true rfl) (ws' := RW g h0 ad (va_up F 3 1) (va_up A 2 (A 1))) rfl dX12_image_29 (fun H locs hS => ?_)
        refine li_aload_n hC hl 0 rfl dX12_image_32 ?_
        refine li_get hC hK.1 ck_X12 (hS.1 0 _ rfl) 1 (by decide) fl_X12_9 rfl (v := .ref (ad 1)) rfl dX12_image_33 ?_
        refine li_iconst hC dX12_image_36 ?_
        refine li_iald_k (k := 0) (f := (A 1)) hC hK.1 (hS.1 1 _ rfl) rfl (by decide) (by decide) dX12_image_37 ?_
        exact hQ _ _ _ _ _ _ _ _ dX12_image_38 hS (by omega) (by omega) (⟨rfl, rfl⟩)
      · refine li_aload_n hC hl 0 rfl dX12_image_9 ?_
        refine li_get hC hK.1 ck_X12 (hS.1 0 _ rfl) 2 (by decide) fl_X12_15 rfl (v := .ref (ad 2)) rfl dX12_image_10 ?_
        refine li_iload_n hC hl 1 rfl dX12_image_13 ?_
        refine li_aload_n hC hl 0 rfl dX12_image_14 ?_
        refine li_get hC hK.1 ck_X12 (hS.1 0 _ rfl) 1 (by decide) fl_X12_9 rfl (v := .ref (ad 1)) rfl dX12_image_15 ?_
        refine li_iload_n hC hl 1 rfl dX12_image_18 ?_
        refine li_iald (f := (A 1)) hC hK.1 (hS.1 1 _ rfl) ⟨by omega, by omega⟩ (by decide) dX12_image_19 ?_
        refine li_iast hC hK hS 2 (n := 939) (f := f) (z := j) rfl ⟨by omega, by omega⟩ (by decide) (ws' := RW g h0 ad F (va_up A 2 (va_up f j.toNat ((A 1) j.toNat)))) rfl dX12_image_20 (fun H locs hS => ?_)
        refine li_iinc hC (lv' := [(1, .int (iI (j + 1))), (0, .ref h0)]) hl 1 rfl (by decide) rfl dX12_image_21 (fun ls hl => ?_)
        refine li_goto (tgt := 2) hC (by decide) dX12_image_24 ?_
        exact ih (j + 1) (va_up f j.toNat ((A 1) j.toNat)) _ _ _ hS (lv_sub hl [1, 0] rfl) (by omega) (by exact cp_s hj.1 hf) (by omega)
  exact L2_1 ((((939 : Int) - 0).toNat) + 1) 0 (A 2) _ _ _ hS (lv_sub hl [1, 0] rfl) (by omega) (by intro k hk; omega) (by omega)
set_option maxHeartbeats 4000000 in
set_option maxRecDepth 100000 in
theorem c_X12_undo (l : Launch) (g : GG) (h0 : Nat) (ad : Nat → Nat) (F : Nat → Int) (A : Nat → Nat → Int) (S : Nat → Int) (hSA : A 1 = S) (h3 : F 3 = 0 ∨ F 3 = 1) (sz : Nat) : MwrI l g yX12_undo cX12_undo 2 1 0 0 [.ref h0] sz (RW g h0 ad F A) (fun v w => (F 3 = 0 → v = iI (-3) ∧ w = RW g h0 ad F A) ∧ (F 3 = 1 → v = iI (A 2 0) ∧ w = RW g h0 ad F (va_up A 1 (A 2)))) := by
  subst hSA
  refine wr_startI (own := RX12) (by decide) rfl (Nat.le_of_ble_eq_true rfl) ?_
  intro Pg Ev s Mi args below Mt Cd ls Q Aw hC hK hS hnm hl hQ
  have hl : lv_has ls 2 [(0, .ref h0)] := hl
  obtain ⟨H, hH⟩ : ∃ H, H = s.heap := ⟨_, rfl⟩
  obtain ⟨locs, hlo⟩ : ∃ locs : List Loc, locs = [] := ⟨_, rfl⟩
  have hS : St g Aw s.heap H locs (RW g h0 ad F A) := by rw [hH, hlo]; exact hS
  have goal : W Pg l Ev (rmC 1 0 0) s Mi args below Mt Cd H locs 0 0 Q (F0 Mi 0 ls []) := ?goal
  · rw [hH, hlo] at goal; exact goal
  clear hH hlo
  refine li_aload_n hC hl 0 rfl dX12_undo_0 ?_
  refine li_get hC hK.1 ck_X12 (hS.1 0 _ rfl) 3 (by decide) fl_X12_319 rfl (v := .int (iI (F 3))) rfl dX12_undo_1 ?_
  refine li_if_ne (tgt := 10) hC (by decide) (rg (by omega) (by omega)) dX12_undo_4 (fun c1 => ?_) (fun c1 => ?_)
  · refine li_iconst hC dX12_undo_10 ?_
    refine li_istore_n hC (lv' := [(1, .int (iI 0)), (0, .ref h0)]) hl (by decide) rfl dX12_undo_11 (fun ls hl => ?_)
    have L12_2 : ∀ (fuel : Nat) (j : Int) (f : Nat → Int) (ls : Array Slot) (H : Heap) (locs : List Loc), St g Aw s.heap H locs (RW g h0 ad F (va_up A 1 f)) → lv_has ls 2 [(0, .ref h0), (1, .int (iI j))] → (0 ≤ j ∧ j ≤ 939) → (∀ k : Nat, (k : Int) < j → f k = A 2 k) → (((939 : Int) - j).toNat) < fuel → W Pg l Ev (rmC 1 0 0) s Mi args below Mt Cd H locs 0 0 Q (F0 Mi 12 ls []) := by
      intro fuel
      induction fuel with
      | zero => intro j f ls H locs hS hl hj hf hm; exact absurd hm (Nat.not_lt_zero _)
      | succ fuel ih =>
        intro j f ls H locs hS hl hj hf hm
        refine li_iload_n hC hl 1 rfl dX12_undo_12 ?_
        refine li_sipush hC (z := 939) rfl dX12_undo_13 ?_
        refine li_icmp_ge (tgt := 37) hC (by decide) (rg (by omega) (by omega)) (rg (by decide) (by decide)) dX12_undo_16 (fun c3 => ?_) (fun c3 => ?_)
        · have hS := St_ext (f' := aI (A 2)) (ws' := RW g h0 ad F (va_up A 1 (A 2))) hS 1 rfl (fun k hk => iI_inj (hf k (by omega))) rfl
          refine li_aload_n hC hl 0 rfl dX12_undo_37 ?_
          refine li_get hC hK.1 ck_X12 (hS.1 0 _ rfl) 1 (by decide) fl_X12_9 rfl (v := .ref (ad 1)) rfl dX12_undo_38 ?_
          refine li_iconst hC dX12_undo_41 ?_
          refine li_iald_k (k := 0) (f := (A 2)) hC hK.1 (hS.1 1 _ rfl) rfl (by decide) (by decide) dX12_undo_42 ?_
          exact hQ _ _ _ _ _ _ _ _ dX12_undo_43 hS (by omega) (by omega) (⟨fun h => absurd h (by omega), fun h => ⟨rfl, rfl⟩⟩)
        · refine li_aload_n hC hl 0 rfl dX12_undo_19 ?_
          refine li_get hC hK.1 ck_X12 (hS.1 0 _ rfl) 1 (by decide) fl_X12_9 rfl (v := .ref (ad 1)) rfl dX12_undo_20 ?_
          refine li_iload_n hC hl 1 rfl dX12_undo_23 ?_
          refine li_aload_n hC hl 0 rfl dX12_undo_24 ?_
          refine li_get hC hK.1 ck_X12 (hS.1 0 _ rfl) 2 (by decide) fl_X12_15 rfl (v := .ref (ad 2)) rfl dX12_undo_25 ?_
          refine li_iload_n hC hl 1 rfl dX12_undo_28 ?_
          refine li_iald (f := (A 2)) hC hK.1 (hS.1 2 _ rfl) ⟨by omega, by omega⟩ (by decide) dX12_undo_29 ?_
          refine li_iast hC hK hS 1 (n := 939) (f := f) (z := j) rfl ⟨by omega, by omega⟩ (by decide) (ws' := RW g h0 ad F (va_up A 1 (va_up f j.toNat ((A 2) j.toNat)))) rfl dX12_undo_30 (fun H locs hS => ?_)
          refine li_iinc hC (lv' := [(1, .int (iI (j + 1))), (0, .ref h0)]) hl 1 rfl (by decide) rfl dX12_undo_31 (fun ls hl => ?_)
          refine li_goto (tgt := 12) hC (by decide) dX12_undo_34 ?_
          exact ih (j + 1) (va_up f j.toNat ((A 2) j.toNat)) _ _ _ hS (lv_sub hl [1, 0] rfl) (by omega) (by exact cp_s hj.1 hf) (by omega)
    exact L12_2 ((((939 : Int) - 0).toNat) + 1) 0 (A 1) _ _ _ hS (lv_sub hl [1, 0] rfl) (by omega) (by intro k hk; omega) (by omega)
  · refine li_bipush hC (z := -3) rfl dX12_undo_7 ?_
    exact hQ _ _ _ _ _ _ _ _ dX12_undo_9 hS (by omega) (by omega) (⟨fun h => ⟨rfl, rfl⟩, fun h => absurd h (by omega)⟩)
set_option maxHeartbeats 4000000 in
set_option maxRecDepth 100000 in
theorem c_X12_dot (l : Launch) (g : GG) (h0 : Nat) (ad : Nat → Nat) (F : Nat → Int) (A : Nat → Nat → Int) (S : Nat → Int) (hSA : A 1 = S) (kind : Int) (v0 : Int) (letters : Int) (c : Int) (r : Int) (h1 : rng kind) (h2 : rng v0) (h3 : rng letters) (h4 : rng c) (h5 : rng r) (hI : InvD S) (sz : Nat) : MwrI l g yX12_dot cX12_dot 8 2 0 0 [.ref h0, .int (iI kind), .int (iI v0), .int (iI letters), .int (iI c), .int (iI r)] sz (RW g h0 ad F A) (fun v w => v = iI (dotR S kind v0 letters c r) ∧ w = RW g h0 ad F (va_up A 1 (dotS S kind v0 letters c r))) := by
  subst hSA
  refine wr_startI (own := RX12) (by decide) rfl (Nat.le_of_ble_eq_true rfl) ?_
  intro Pg Ev s Mi args below Mt Cd ls Q Aw hC hK hS hnm hl hQ
  have hD0 := hI.1
  have hl : lv_has ls 8 [(0, .ref h0), (1, .int (iI kind)), (2, .int (iI v0)), (3, .int (iI letters)), (4, .int (iI c)), (5, .int (iI r))] := hl
  obtain ⟨H, hH⟩ : ∃ H, H = s.heap := ⟨_, rfl⟩
  obtain ⟨locs, hlo⟩ : ∃ locs : List Loc, locs = [] := ⟨_, rfl⟩
  have hS : St g Aw s.heap H locs (RW g h0 ad F A) := by rw [hH, hlo]; exact hS
  have goal : W Pg l Ev (rmC 2 0 0) s Mi args below Mt Cd H locs 0 0 Q (F0 Mi 0 ls []) := ?goal
  · rw [hH, hlo] at goal; exact goal
  clear hH hlo
  refine li_iload_n hC hl 1 rfl dX12_dot_0 ?_
  refine li_iconst hC dX12_dot_1 ?_
  refine li_bipush hC (z := 6) rfl dX12_dot_2 ?_
  refine ro_callSi hC (c_X12_in l g kind 0 6 h1 (rg (by decide) (by decide)) (rg (by decide) (by decide))) mk_X12_in ml_X12_56 (rr (by decide)) ⟨Nat.le_of_ble_eq_true rfl, Nat.le_of_ble_eq_true rfl⟩ hK.1 (hS.ro hK) trivial rfl hl.1 rfl (Nat.le_of_ble_eq_true rfl) dX12_dot_4 ?_
  refine li_ifne_b (tgt := 12) hC (by decide) dX12_dot_7 (fun c1 => ?_) (fun c1 => ?_)
  · refine li_iload_n hC hl 2 rfl dX12_dot_12 ?_
    refine li_iconst hC dX12_dot_13 ?_
    refine li_bipush hC (z := 9) rfl dX12_dot_14 ?_
    refine ro_callSi hC (c_X12_in l g v0 0 9 h2 (rg (by decide) (by decide)) (rg (by decide) (by decide))) mk_X12_in ml_X12_56 (rr (by decide)) ⟨Nat.le_of_ble_eq_true rfl, Nat.le_of_ble_eq_true rfl⟩ hK.1 (hS.ro hK) trivial rfl hl.1 rfl (Nat.le_of_ble_eq_true rfl) dX12_dot_16 ?_
    refine li_ifeq_b (tgt := 65) hC (by decide) dX12_dot_19 (fun c2 => ?_) (fun c2 => ?_)
    · refine li_bipush hC (z := -2) rfl dX12_dot_65 ?_
      exact hQ _ _ _ _ _ _ _ _ dX12_dot_67 hS (by omega) (by omega) (by refine ⟨iI_inj (by unfold dotR; rw [iteP_t (by omega), iteP_f (by unfold dotOK; first | omega | exact fun h => absurd (by assumption) h.2)]), ?_⟩; unfold dotS; rw [iteP_f (by unfold dotOK; first | omega | exact fun h => absurd (by assumption) h.2.1.2)]; rfl)
    · refine li_iload_n hC hl 3 rfl dX12_dot_22 ?_
      refine li_iconst hC dX12_dot_23 ?_
      refine li_bipush hC (z := 9) rfl dX12_dot_24 ?_
      refine ro_callSi hC (c_X12_in l g letters 1 9 h3 (rg (by decide) (by decide)) (rg (by decide) (by decide))) mk_X12_in ml_X12_56 (rr (by decide)) ⟨Nat.le_of_ble_eq_true rfl, Nat.le_of_ble_eq_true rfl⟩ hK.1 (hS.ro hK) trivial rfl hl.1 rfl (Nat.le_of_ble_eq_true rfl) dX12_dot_26 ?_
      refine li_ifeq_b (tgt := 65) hC (by decide) dX12_dot_29 (fun c3 => ?_) (fun c3 => ?_)
      · refine li_bipush hC (z := -2) rfl dX12_dot_65 ?_
        exact hQ _ _ _ _ _ _ _ _ dX12_dot_67 hS (by omega) (by omega) (by refine ⟨iI_inj (by unfold dotR; rw [iteP_t (by omega), iteP_f (by unfold dotOK; first | omega | exact fun h => absurd (by assumption) h.2)]), ?_⟩; unfold dotS; rw [iteP_f (by unfold dotOK; first | omega | exact fun h => absurd (by assumption) h.2.1.2)]; rfl)
      · refine li_iload hC hl 4 rfl dX12_dot_32 ?_
        refine li_iconst hC dX12_dot_34 ?_
        refine li_bipush hC (z := 29) rfl dX12_dot_35 ?_
        refine ro_callSi hC (c_X12_in l g c 0 29 h4 (rg (by decide) (by decide)) (rg (by decide) (by decide))) mk_X12_in ml_X12_56 (rr (by decide)) ⟨Nat.le_of_ble_eq_true rfl, Nat.le_of_ble_eq_true rfl⟩ hK.1 (hS.ro hK) trivial rfl hl.1 rfl (Nat.le_of_ble_eq_true rfl) dX12_dot_37 ?_
        refine li_ifeq_b (tgt := 65) hC (by decide) dX12_dot_40 (fun c4 => ?_) (fun c4 => ?_)
        · refine li_bipush hC (z := -2) rfl dX12_dot_65 ?_
          exact hQ _ _ _ _ _ _ _ _ dX12_dot_67 hS (by omega) (by omega) (by refine ⟨iI_inj (by unfold dotR; rw [iteP_t (by omega), iteP_f (by unfold dotOK; first | omega | exact fun h => absurd (by assumption) h.2)]), ?_⟩; unfold dotS; rw [iteP_f (by unfold dotOK; first | omega | exact fun h => absurd (by assumption) h.2.1.2)]; rfl)
        · refine li_iload hC hl 5 rfl dX12_dot_43 ?_
          refine li_iconst hC dX12_dot_45 ?_
          refine li_bipush hC (z := 11) rfl dX12_dot_46 ?_
          refine ro_callSi hC (c_X12_in l g r 0 11 h5 (rg (by decide) (by decide)) (rg (by decide) (by decide))) mk_X12_in ml_X12_56 (rr (by decide)) ⟨Nat.le_of_ble_eq_true rfl, Nat.le_of_ble_eq_true rfl⟩ hK.1 (hS.ro hK) trivial rfl hl.1 rfl (Nat.le_of_ble_eq_true rfl) dX12_dot_48 ?_
          refine li_ifeq_b (tgt := 65) hC (by decide) dX12_dot_51 (fun c5 => ?_) (fun c5 => ?_)
          · refine li_bipush hC (z := -2) rfl dX12_dot_65 ?_
            exact hQ _ _ _ _ _ _ _ _ dX12_dot_67 hS (by omega) (by omega) (by refine ⟨iI_inj (by unfold dotR; rw [iteP_t (by omega), iteP_f (by unfold dotOK; first | omega | exact fun h => absurd (by assumption) h.2)]), ?_⟩; unfold dotS; rw [iteP_f (by unfold dotOK; first | omega | exact fun h => absurd (by assumption) h.2.1.2)]; rfl)
          · refine li_aload_n hC hl 0 rfl dX12_dot_54 ?_
            refine li_iload hC hl 4 rfl dX12_dot_55 ?_
            refine li_iload hC hl 5 rfl dX12_dot_57 ?_
            refine ro_callVi hC (c_X12_isDotAt l g h0 (A 1) c r h4 h5 hI) mk_X12_isDotAt ml_X12_183 (rr (by decide)) ⟨Nat.le_of_ble_eq_true rfl, Nat.le_of_ble_eq_true rfl⟩ hK.1 (hS.ro hK) (RW_pic (F := F) (A := A) hS) (li_recv hK.1 ck_X12 (hS.1 0 _ rfl)) rfl hl.1 rfl (Nat.le_of_ble_eq_true rfl) dX12_dot_59 ?_
            refine li_ifeq_b (tgt := 68) hC (by decide) dX12_dot_62 (fun c6 => ?_) (fun c6 => ?_)
            · refine li_aload_n hC hl 0 rfl dX12_dot_68 ?_
              refine li_get hC hK.1 ck_X12 (hS.1 0 _ rfl) 1 (by decide) fl_X12_9 rfl (v := .ref (ad 1)) rfl dX12_dot_69 ?_
              refine li_iconst hC dX12_dot_72 ?_
              refine li_iald_k (k := 0) (f := (A 1)) hC hK.1 (hS.1 1 _ rfl) rfl (by decide) (by decide) dX12_dot_73 ?_
              refine li_bipush hC (z := 7) rfl dX12_dot_74 ?_
              refine li_icmp_ne (tgt := 82) hC (by decide) (rg (by omega) (by omega)) (rg (by decide) (by decide)) dX12_dot_76 (fun c7 => ?_) (fun c7 => ?_)
              · refine li_aload_n hC hl 0 rfl dX12_dot_82 ?_
                refine li_get hC hK.1 ck_X12 (hS.1 0 _ rfl) 1 (by decide) fl_X12_9 rfl (v := .ref (ad 1)) rfl dX12_dot_83 ?_
                refine li_iconst hC dX12_dot_86 ?_
                refine li_iald_k (k := 0) (f := (A 1)) hC hK.1 (hS.1 1 _ rfl) rfl (by decide) (by decide) dX12_dot_87 ?_
                refine li_istore hC (lv' := [(6, .int (iI ((A 1) 0))), (0, .ref h0), (1, .int (iI kind)), (2, .int (iI v0)), (3, .int (iI letters)), (4, .int (iI c)), (5, .int (iI r))]) hl (by decide) rfl dX12_dot_88 (fun ls hl => ?_)
                refine li_aload_n hC hl 1 rfl dX12_dot_90 ?_
                refine li_get hC hK.1 ck_X12 (hS.1 0 _ rfl) 1 (by decide) fl_X12_9 rfl (v := .ref (ad 1)) rfl dX12_dot_91 ?_
                refine li_bipush hC (z := 7) rfl dX12_dot_94 ?_
                refine li_iload hC hl 0 rfl dX12_dot_96 ?_
                refine li_iadd hC dX12_dot_98 ?_
                refine li_iload_n hC hl 2 rfl dX12_dot_99 ?_
                refine li_iast hC hK hS 1 (n := 939) (f := (A 1)) (z := 7 + ((A 1) 0)) rfl ⟨by omega, by omega⟩ (by decide) (ws' := RW g h0 ad F (va_up A 1 (va_up (A 1) ((7 + ((A 1) 0)).toNat) kind))) rfl dX12_dot_100 (fun H locs hS => ?_)
                refine li_aload_n hC hl 1 rfl dX12_dot_101 ?_
                refine li_get hC hK.1 ck_X12 (hS.1 0 _ rfl) 1 (by decide) fl_X12_9 rfl (v := .ref (ad 1)) rfl dX12_dot_102 ?_
                refine li_bipush hC (z := 14) rfl dX12_dot_105 ?_
                refine li_iload hC hl 0 rfl dX12_dot_107 ?_
                refine li_iadd hC dX12_dot_109 ?_
                refine li_iload_n hC hl 3 rfl dX12_dot_110 ?_
                refine li_iast hC hK hS 1 (n := 939) (f := va_up (A 1) ((7 + ((A 1) 0)).toNat) kind) (z := 14 + ((A 1) 0)) rfl ⟨by omega, by omega⟩ (by decide) (ws' := RW g h0 ad F (va_up A 1 (va_up (va_up (A 1) ((7 + ((A 1) 0)).toNat) kind) ((14 + ((A 1) 0)).toNat) v0))) rfl dX12_dot_111 (fun H locs hS => ?_)
                refine li_aload_n hC hl 1 rfl dX12_dot_112 ?_
                refine li_get hC hK.1 ck_X12 (hS.1 0 _ rfl) 1 (by decide) fl_X12_9 rfl (v := .ref (ad 1)) rfl dX12_dot_113 ?_
                refine li_bipush hC (z := 21) rfl dX12_dot_116 ?_
                refine li_iload hC hl 0 rfl dX12_dot_118 ?_
                refine li_iadd hC dX12_dot_120 ?_
                refine li_iload_n hC hl 4 rfl dX12_dot_121 ?_
                refine li_iast hC hK hS 1 (n := 939) (f := va_up (va_up (A 1) ((7 + ((A 1) 0)).toNat) kind) ((14 + ((A 1) 0)).toNat) v0) (z := 21 + ((A 1) 0)) rfl ⟨by omega, by omega⟩ (by decide) (ws' := RW g h0 ad F (va_up A 1 (va_up (va_up (va_up (A 1) ((7 + ((A 1) 0)).toNat) kind) ((14 + ((A 1) 0)).toNat) v0) ((21 + ((A 1) 0)).toNat) letters))) rfl dX12_dot_122 (fun H locs hS => ?_)
                refine li_aload_n hC hl 1 rfl dX12_dot_123 ?_
                refine li_get hC hK.1 ck_X12 (hS.1 0 _ rfl) 1 (by decide) fl_X12_9 rfl (v := .ref (ad 1)) rfl dX12_dot_124 ?_
                refine li_bipush hC (z := 28) rfl dX12_dot_127 ?_
                refine li_iload hC hl 0 rfl dX12_dot_129 ?_
                refine li_iadd hC dX12_dot_131 ?_
                refine li_iload hC hl 5 rfl dX12_dot_132 ?_
                refine li_iast hC hK hS 1 (n := 939) (f := va_up (va_up (va_up (A 1) ((7 + ((A 1) 0)).toNat) kind) ((14 + ((A 1) 0)).toNat) v0) ((21 + ((A 1) 0)).toNat) letters) (z := 28 + ((A 1) 0)) rfl ⟨by omega, by omega⟩ (by decide) (ws' := RW g h0 ad F (va_up A 1 (va_up (va_up (va_up (va_up (A 1) ((7 + ((A 1) 0)).toNat) kind) ((14 + ((A 1) 0)).toNat) v0) ((21 + ((A 1) 0)).toNat) letters) ((28 + ((A 1) 0)).toNat) c))) rfl dX12_dot_134 (fun H locs hS => ?_)
                refine li_aload_n hC hl 1 rfl dX12_dot_135 ?_
                refine li_get hC hK.1 ck_X12 (hS.1 0 _ rfl) 1 (by decide) fl_X12_9 rfl (v := .ref (ad 1)) rfl dX12_dot_136 ?_
                refine li_bipush hC (z := 35) rfl dX12_dot_139 ?_
                refine li_iload hC hl 0 rfl dX12_dot_141 ?_
                refine li_iadd hC dX12_dot_143 ?_
                refine li_iload hC hl 6 rfl dX12_dot_144 ?_
                refine li_iast hC hK hS 1 (n := 939) (f := va_up (va_up (va_up (va_up (A 1) ((7 + ((A 1) 0)).toNat) kind) ((14 + ((A 1) 0)).toNat) v0) ((21 + ((A 1) 0)).toNat) letters) ((28 + ((A 1) 0)).toNat) c) (z := 35 + ((A 1) 0)) rfl ⟨by omega, by omega⟩ (by decide) (ws' := RW g h0 ad F (va_up A 1 (va_up (va_up (va_up (va_up (va_up (A 1) ((7 + ((A 1) 0)).toNat) kind) ((14 + ((A 1) 0)).toNat) v0) ((21 + ((A 1) 0)).toNat) letters) ((28 + ((A 1) 0)).toNat) c) ((35 + ((A 1) 0)).toNat) r))) rfl dX12_dot_146 (fun H locs hS => ?_)
                refine li_aload_n hC hl 1 rfl dX12_dot_147 ?_
                refine li_get hC hK.1 ck_X12 (hS.1 0 _ rfl) 1 (by decide) fl_X12_9 rfl (v := .ref (ad 1)) rfl dX12_dot_148 ?_
                refine li_bipush hC (z := 42) rfl dX12_dot_151 ?_
                refine li_iload hC hl 0 rfl dX12_dot_153 ?_
                refine li_iadd hC dX12_dot_155 ?_
                refine li_iconst hC dX12_dot_156 ?_
                refine li_iast hC hK hS 1 (n := 939) (f := va_up (va_up (va_up (va_up (va_up (A 1) ((7 + ((A 1) 0)).toNat) kind) ((14 + ((A 1) 0)).toNat) v0) ((21 + ((A 1) 0)).toNat) letters) ((28 + ((A 1) 0)).toNat) c) ((35 + ((A 1) 0)).toNat) r) (z := 42 + ((A 1) 0)) rfl ⟨by omega, by omega⟩ (by decide) (ws' := RW g h0 ad F (va_up A 1 (va_up (va_up (va_up (va_up (va_up (va_up (A 1) ((7 + ((A 1) 0)).toNat) kind) ((14 + ((A 1) 0)).toNat) v0) ((21 + ((A 1) 0)).toNat) letters) ((28 + ((A 1) 0)).toNat) c) ((35 + ((A 1) 0)).toNat) r) ((42 + ((A 1) 0)).toNat) 4))) rfl dX12_dot_157 (fun H locs hS => ?_)
                refine li_iconst hC dX12_dot_158 ?_
                refine li_istore hC (lv' := [(7, .int (iI 0)), (6, .int (iI ((A 1) 0))), (0, .ref h0), (1, .int (iI kind)), (2, .int (iI v0)), (3, .int (iI letters)), (4, .int (iI c)), (5, .int (iI r))]) hl (by decide) rfl dX12_dot_159 (fun ls hl => ?_)
                refine li_iload hC hl 0 rfl dX12_dot_161 ?_
                refine li_iconst hC dX12_dot_163 ?_
                refine li_icmp_ge (tgt := 189) hC (by decide) (rg (by decide) (by decide)) (rg (by decide) (by decide)) dX12_dot_164 (fun c8 => ?_) (fun c8 => ?_)
                · exact absurd c8 (by decide)
                · refine li_aload_n hC hl 2 rfl dX12_dot_167 ?_
                  refine li_get hC hK.1 ck_X12 (hS.1 0 _ rfl) 1 (by decide) fl_X12_9 rfl (v := .ref (ad 1)) rfl dX12_dot_168 ?_
                  refine li_bipush hC (z := 49) rfl dX12_dot_171 ?_
                  refine li_iconst hC dX12_dot_173 ?_
                  refine li_iload hC hl 1 rfl dX12_dot_174 ?_
                  refine li_imul hC dX12_dot_176 ?_
                  refine li_iadd hC dX12_dot_177 ?_
                  refine li_iload hC hl 0 rfl dX12_dot_178 ?_
                  refine li_iadd hC dX12_dot_180 ?_
                  refine li_iconst hC dX12_dot_181 ?_
                  refine li_iast hC hK hS 1 (n := 939) (f := va_up (va_up (va_up (va_up (va_up (va_up (A 1) ((7 + ((A 1) 0)).toNat) kind) ((14 + ((A 1) 0)).toNat) v0) ((21 + ((A 1) 0)).toNat) letters) ((28 + ((A 1) 0)).toNat) c) ((35 + ((A 1) 0)).toNat) r) ((42 + ((A 1) 0)).toNat) 4) (z := (49 + (4 * ((A 1) 0))) + 0) rfl ⟨by omega, by omega⟩ (by decide) (ws' := RW g h0 ad F (va_up A 1 (va_up (va_up (va_up (va_up (va_up (va_up (va_up (A 1) ((7 + ((A 1) 0)).toNat) kind) ((14 + ((A 1) 0)).toNat) v0) ((21 + ((A 1) 0)).toNat) letters) ((28 + ((A 1) 0)).toNat) c) ((35 + ((A 1) 0)).toNat) r) ((42 + ((A 1) 0)).toNat) 4) (((49 + (4 * ((A 1) 0))) + 0).toNat) 0))) rfl dX12_dot_182 (fun H locs hS => ?_)
                  refine li_iinc hC (lv' := [(7, .int (iI (0 + 1))), (6, .int (iI ((A 1) 0))), (0, .ref h0), (1, .int (iI kind)), (2, .int (iI v0)), (3, .int (iI letters)), (4, .int (iI c)), (5, .int (iI r))]) hl 0 rfl (by decide) rfl dX12_dot_183 (fun ls hl => ?_)
                  refine li_goto (tgt := 161) hC (by decide) dX12_dot_186 ?_
                  refine li_iload hC hl 0 rfl dX12_dot_161 ?_
                  refine li_iconst hC dX12_dot_163 ?_
                  refine li_icmp_ge (tgt := 189) hC (by decide) (rg (by omega) (by omega)) (rg (by decide) (by decide)) dX12_dot_164 (fun c9 => ?_) (fun c9 => ?_)
                  · exact absurd c9 (by decide)
                  · refine li_aload_n hC hl 2 rfl dX12_dot_167 ?_
                    refine li_get hC hK.1 ck_X12 (hS.1 0 _ rfl) 1 (by decide) fl_X12_9 rfl (v := .ref (ad 1)) rfl dX12_dot_168 ?_
                    refine li_bipush hC (z := 49) rfl dX12_dot_171 ?_
                    refine li_iconst hC dX12_dot_173 ?_
                    refine li_iload hC hl 1 rfl dX12_dot_174 ?_
                    refine li_imul hC dX12_dot_176 ?_
                    refine li_iadd hC dX12_dot_177 ?_
                    refine li_iload hC hl 0 rfl dX12_dot_178 ?_
                    refine li_iadd hC dX12_dot_180 ?_
                    refine li_iconst hC dX12_dot_181 ?_
                    refine li_iast hC hK hS 1 (n := 939) (f := va_up (va_up (va_up (va_up (va_up (va_up (va_up (A 1) ((7 + ((A 1) 0)).toNat) kind) ((14 + ((A 1) 0)).toNat) v0) ((21 + ((A 1) 0)).toNat) letters) ((28 + ((A 1) 0)).toNat) c) ((35 + ((A 1) 0)).toNat) r) ((42 + ((A 1) 0)).toNat) 4) (((49 + (4 * ((A 1) 0))) + 0).toNat) 0) (z := (49 + (4 * ((A 1) 0))) + (0 + 1)) rfl ⟨by omega, by omega⟩ (by decide) (ws' := RW g h0 ad F (va_up A 1 (va_up (va_up (va_up (va_up (va_up (va_up (va_up (va_up (A 1) ((7 + ((A 1) 0)).toNat) kind) ((14 + ((A 1) 0)).toNat) v0) ((21 + ((A 1) 0)).toNat) letters) ((28 + ((A 1) 0)).toNat) c) ((35 + ((A 1) 0)).toNat) r) ((42 + ((A 1) 0)).toNat) 4) (((49 + (4 * ((A 1) 0))) + 0).toNat) 0) (((49 + (4 * ((A 1) 0))) + (0 + 1)).toNat) 0))) rfl dX12_dot_182 (fun H locs hS => ?_)
                    refine li_iinc hC (lv' := [(7, .int (iI ((0 + 1) + 1))), (6, .int (iI ((A 1) 0))), (0, .ref h0), (1, .int (iI kind)), (2, .int (iI v0)), (3, .int (iI letters)), (4, .int (iI c)), (5, .int (iI r))]) hl 0 rfl (by decide) rfl dX12_dot_183 (fun ls hl => ?_)
                    refine li_goto (tgt := 161) hC (by decide) dX12_dot_186 ?_
                    refine li_iload hC hl 0 rfl dX12_dot_161 ?_
                    refine li_iconst hC dX12_dot_163 ?_
                    refine li_icmp_ge (tgt := 189) hC (by decide) (rg (by omega) (by omega)) (rg (by decide) (by decide)) dX12_dot_164 (fun c10 => ?_) (fun c10 => ?_)
                    · exact absurd c10 (by decide)
                    · refine li_aload_n hC hl 2 rfl dX12_dot_167 ?_
                      refine li_get hC hK.1 ck_X12 (hS.1 0 _ rfl) 1 (by decide) fl_X12_9 rfl (v := .ref (ad 1)) rfl dX12_dot_168 ?_
                      refine li_bipush hC (z := 49) rfl dX12_dot_171 ?_
                      refine li_iconst hC dX12_dot_173 ?_
                      refine li_iload hC hl 1 rfl dX12_dot_174 ?_
                      refine li_imul hC dX12_dot_176 ?_
                      refine li_iadd hC dX12_dot_177 ?_
                      refine li_iload hC hl 0 rfl dX12_dot_178 ?_
                      refine li_iadd hC dX12_dot_180 ?_
                      refine li_iconst hC dX12_dot_181 ?_
                      refine li_iast hC hK hS 1 (n := 939) (f := va_up (va_up (va_up (va_up (va_up (va_up (va_up (va_up (A 1) ((7 + ((A 1) 0)).toNat) kind) ((14 + ((A 1) 0)).toNat) v0) ((21 + ((A 1) 0)).toNat) letters) ((28 + ((A 1) 0)).toNat) c) ((35 + ((A 1) 0)).toNat) r) ((42 + ((A 1) 0)).toNat) 4) (((49 + (4 * ((A 1) 0))) + 0).toNat) 0) (((49 + (4 * ((A 1) 0))) + (0 + 1)).toNat) 0) (z := (49 + (4 * ((A 1) 0))) + ((0 + 1) + 1)) rfl ⟨by omega, by omega⟩ (by decide) (ws' := RW g h0 ad F (va_up A 1 (va_up (va_up (va_up (va_up (va_up (va_up (va_up (va_up (va_up (A 1) ((7 + ((A 1) 0)).toNat) kind) ((14 + ((A 1) 0)).toNat) v0) ((21 + ((A 1) 0)).toNat) letters) ((28 + ((A 1) 0)).toNat) c) ((35 + ((A 1) 0)).toNat) r) ((42 + ((A 1) 0)).toNat) 4) (((49 + (4 * ((A 1) 0))) + 0).toNat) 0) (((49 + (4 * ((A 1) 0))) + (0 + 1)).toNat) 0) (((49 + (4 * ((A 1) 0))) + ((0 + 1) + 1)).toNat) 0))) rfl dX12_dot_182 (fun H locs hS => ?_)
                      refine li_iinc hC (lv' := [(7, .int (iI (((0 + 1) + 1) + 1))), (6, .int (iI ((A 1) 0))), (0, .ref h0), (1, .int (iI kind)), (2, .int (iI v0)), (3, .int (iI letters)), (4, .int (iI c)), (5, .int (iI r))]) hl 0 rfl (by decide) rfl dX12_dot_183 (fun ls hl => ?_)
                      refine li_goto (tgt := 161) hC (by decide) dX12_dot_186 ?_
                      refine li_iload hC hl 0 rfl dX12_dot_161 ?_
                      refine li_iconst hC dX12_dot_163 ?_
                      refine li_icmp_ge (tgt := 189) hC (by decide) (rg (by omega) (by omega)) (rg (by decide) (by decide)) dX12_dot_164 (fun c11 => ?_) (fun c11 => ?_)
                      · exact absurd c11 (by decide)
                      · refine li_aload_n hC hl 2 rfl dX12_dot_167 ?_
                        refine li_get hC hK.1 ck_X12 (hS.1 0 _ rfl) 1 (by decide) fl_X12_9 rfl (v := .ref (ad 1)) rfl dX12_dot_168 ?_
                        refine li_bipush hC (z := 49) rfl dX12_dot_171 ?_
                        refine li_iconst hC dX12_dot_173 ?_
                        refine li_iload hC hl 1 rfl dX12_dot_174 ?_
                        refine li_imul hC dX12_dot_176 ?_
                        refine li_iadd hC dX12_dot_177 ?_
                        refine li_iload hC hl 0 rfl dX12_dot_178 ?_
                        refine li_iadd hC dX12_dot_180 ?_
                        refine li_iconst hC dX12_dot_181 ?_
                        refine li_iast hC hK hS 1 (n := 939) (f := va_up (va_up (va_up (va_up (va_up (va_up (va_up (va_up (va_up (A 1) ((7 + ((A 1) 0)).toNat) kind) ((14 + ((A 1) 0)).toNat) v0) ((21 + ((A 1) 0)).toNat) letters) ((28 + ((A 1) 0)).toNat) c) ((35 + ((A 1) 0)).toNat) r) ((42 + ((A 1) 0)).toNat) 4) (((49 + (4 * ((A 1) 0))) + 0).toNat) 0) (((49 + (4 * ((A 1) 0))) + (0 + 1)).toNat) 0) (((49 + (4 * ((A 1) 0))) + ((0 + 1) + 1)).toNat) 0) (z := (49 + (4 * ((A 1) 0))) + (((0 + 1) + 1) + 1)) rfl ⟨by omega, by omega⟩ (by decide) (ws' := RW g h0 ad F (va_up A 1 (va_up (va_up (va_up (va_up (va_up (va_up (va_up (va_up (va_up (va_up (A 1) ((7 + ((A 1) 0)).toNat) kind) ((14 + ((A 1) 0)).toNat) v0) ((21 + ((A 1) 0)).toNat) letters) ((28 + ((A 1) 0)).toNat) c) ((35 + ((A 1) 0)).toNat) r) ((42 + ((A 1) 0)).toNat) 4) (((49 + (4 * ((A 1) 0))) + 0).toNat) 0) (((49 + (4 * ((A 1) 0))) + (0 + 1)).toNat) 0) (((49 + (4 * ((A 1) 0))) + ((0 + 1) + 1)).toNat) 0) (((49 + (4 * ((A 1) 0))) + (((0 + 1) + 1) + 1)).toNat) 0))) rfl dX12_dot_182 (fun H locs hS => ?_)
                        refine li_iinc hC (lv' := [(7, .int (iI ((((0 + 1) + 1) + 1) + 1))), (6, .int (iI ((A 1) 0))), (0, .ref h0), (1, .int (iI kind)), (2, .int (iI v0)), (3, .int (iI letters)), (4, .int (iI c)), (5, .int (iI r))]) hl 0 rfl (by decide) rfl dX12_dot_183 (fun ls hl => ?_)
                        refine li_goto (tgt := 161) hC (by decide) dX12_dot_186 ?_
                        refine li_iload hC hl 0 rfl dX12_dot_161 ?_
                        refine li_iconst hC dX12_dot_163 ?_
                        refine li_icmp_ge (tgt := 189) hC (by decide) (rg (by omega) (by omega)) (rg (by decide) (by decide)) dX12_dot_164 (fun c12 => ?_) (fun c12 => ?_)
                        · refine li_aload_n hC hl 2 rfl dX12_dot_189 ?_
                          refine li_get hC hK.1 ck_X12 (hS.1 0 _ rfl) 1 (by decide) fl_X12_9 rfl (v := .ref (ad 1)) rfl dX12_dot_190 ?_
                          refine li_iconst hC dX12_dot_193 ?_
                          refine li_dup2 hC rfl rfl dX12_dot_194 ?_
                          refine li_iald_k (k := 0) (f := va_up (va_up (va_up (va_up (va_up (va_up (va_up (va_up (va_up (va_up (A 1) ((7 + ((A 1) 0)).toNat) kind) ((14 + ((A 1) 0)).toNat) v0) ((21 + ((A 1) 0)).toNat) letters) ((28 + ((A 1) 0)).toNat) c) ((35 + ((A 1) 0)).toNat) r) ((42 + ((A 1) 0)).toNat) 4) (((49 + (4 * ((A 1) 0))) + 0).toNat) 0) (((49 + (4 * ((A 1) 0))) + (0 + 1)).toNat) 0) (((49 + (4 * ((A 1) 0))) + ((0 + 1) + 1)).toNat) 0) (((49 + (4 * ((A 1) 0))) + (((0 + 1) + 1) + 1)).toNat) 0) hC hK.1 (hS.1 1 _ rfl) rfl (by decide) (by decide) dX12_dot_195 ?_
                          rw [up_ne (va_up (va_up (va_up (va_up (va_up (va_up (va_up (va_up (va_up (A 1) ((7 + ((A 1) 0)).toNat) kind) ((14 + ((A 1) 0)).toNat) v0) ((21 + ((A 1) 0)).toNat) letters) ((28 + ((A 1) 0)).toNat) c) ((35 + ((A 1) 0)).toNat) r) ((42 + ((A 1) 0)).toNat) 4) (((49 + (4 * ((A 1) 0))) + 0).toNat) 0) (((49 + (4 * ((A 1) 0))) + (0 + 1)).toNat) 0) (((49 + (4 * ((A 1) 0))) + ((0 + 1) + 1)).toNat) 0) 0 (show (0 : Nat) ≠ ((49 + (4 * ((A 1) 0))) + (((0 + 1) + 1) + 1)).toNat by omega)]
                          rw [up_ne (va_up (va_up (va_up (va_up (va_up (va_up (va_up (va_up (A 1) ((7 + ((A 1) 0)).toNat) kind) ((14 + ((A 1) 0)).toNat) v0) ((21 + ((A 1) 0)).toNat) letters) ((28 + ((A 1) 0)).toNat) c) ((35 + ((A 1) 0)).toNat) r) ((42 + ((A 1) 0)).toNat) 4) (((49 + (4 * ((A 1) 0))) + 0).toNat) 0) (((49 + (4 * ((A 1) 0))) + (0 + 1)).toNat) 0) 0 (show (0 : Nat) ≠ ((49 + (4 * ((A 1) 0))) + ((0 + 1) + 1)).toNat by omega)]
                          rw [up_ne (va_up (va_up (va_up (va_up (va_up (va_up (va_up (A 1) ((7 + ((A 1) 0)).toNat) kind) ((14 + ((A 1) 0)).toNat) v0) ((21 + ((A 1) 0)).toNat) letters) ((28 + ((A 1) 0)).toNat) c) ((35 + ((A 1) 0)).toNat) r) ((42 + ((A 1) 0)).toNat) 4) (((49 + (4 * ((A 1) 0))) + 0).toNat) 0) 0 (show (0 : Nat) ≠ ((49 + (4 * ((A 1) 0))) + (0 + 1)).toNat by omega)]
                          rw [up_ne (va_up (va_up (va_up (va_up (va_up (va_up (A 1) ((7 + ((A 1) 0)).toNat) kind) ((14 + ((A 1) 0)).toNat) v0) ((21 + ((A 1) 0)).toNat) letters) ((28 + ((A 1) 0)).toNat) c) ((35 + ((A 1) 0)).toNat) r) ((42 + ((A 1) 0)).toNat) 4) 0 (show (0 : Nat) ≠ ((49 + (4 * ((A 1) 0))) + 0).toNat by omega)]
                          rw [up_ne (va_up (va_up (va_up (va_up (va_up (A 1) ((7 + ((A 1) 0)).toNat) kind) ((14 + ((A 1) 0)).toNat) v0) ((21 + ((A 1) 0)).toNat) letters) ((28 + ((A 1) 0)).toNat) c) ((35 + ((A 1) 0)).toNat) r) 4 (show (0 : Nat) ≠ (42 + ((A 1) 0)).toNat by omega)]
                          rw [up_ne (va_up (va_up (va_up (va_up (A 1) ((7 + ((A 1) 0)).toNat) kind) ((14 + ((A 1) 0)).toNat) v0) ((21 + ((A 1) 0)).toNat) letters) ((28 + ((A 1) 0)).toNat) c) r (show (0 : Nat) ≠ (35 + ((A 1) 0)).toNat by omega)]
                          rw [up_ne (va_up (va_up (va_up (A 1) ((7 + ((A 1) 0)).toNat) kind) ((14 + ((A 1) 0)).toNat) v0) ((21 + ((A 1) 0)).toNat) letters) c (show (0 : Nat) ≠ (28 + ((A 1) 0)).toNat by omega)]
                          rw [up_ne (va_up (va_up (A 1) ((7 + ((A 1) 0)).toNat) kind) ((14 + ((A 1) 0)).toNat) v0) letters (show (0 : Nat) ≠ (21 + ((A 1) 0)).toNat by omega)]
                          rw [up_ne (va_up (A 1) ((7 + ((A 1) 0)).toNat) kind) v0 (show (0 : Nat) ≠ (14 + ((A 1) 0)).toNat by omega)]
                          rw [up_ne (A 1) kind (show (0 : Nat) ≠ (7 + ((A 1) 0)).toNat by omega)]
                          refine li_iconst hC dX12_dot_196 ?_
                          refine li_iadd hC dX12_dot_197 ?_
                          refine li_iast hC hK hS 1 (n := 939) (f := va_up (va_up (va_up (va_up (va_up (va_up (va_up (va_up (va_up (va_up (A 1) ((7 + ((A 1) 0)).toNat) kind) ((14 + ((A 1) 0)).toNat) v0) ((21 + ((A 1) 0)).toNat) letters) ((28 + ((A 1) 0)).toNat) c) ((35 + ((A 1) 0)).toNat) r) ((42 + ((A 1) 0)).toNat) 4) (((49 + (4 * ((A 1) 0))) + 0).toNat) 0) (((49 + (4 * ((A 1) 0))) + (0 + 1)).toNat) 0) (((49 + (4 * ((A 1) 0))) + ((0 + 1) + 1)).toNat) 0) (((49 + (4 * ((A 1) 0))) + (((0 + 1) + 1) + 1)).toNat) 0) (z := 0) rfl ⟨by omega, by omega⟩ (by decide) (ws' := RW g h0 ad F (va_up A 1 (va_up (va_up (va_up (va_up (va_up (va_up (va_up (va_up (va_up (va_up (va_up (A 1) ((7 + ((A 1) 0)).toNat) kind) ((14 + ((A 1) 0)).toNat) v0) ((21 + ((A 1) 0)).toNat) letters) ((28 + ((A 1) 0)).toNat) c) ((35 + ((A 1) 0)).toNat) r) ((42 + ((A 1) 0)).toNat) 4) (((49 + (4 * ((A 1) 0))) + 0).toNat) 0) (((49 + (4 * ((A 1) 0))) + (0 + 1)).toNat) 0) (((49 + (4 * ((A 1) 0))) + ((0 + 1) + 1)).toNat) 0) (((49 + (4 * ((A 1) 0))) + (((0 + 1) + 1) + 1)).toNat) 0) 0 (((A 1) 0) + 1)))) rfl dX12_dot_198 (fun H locs hS => ?_)
                          refine li_iload hC hl 1 rfl dX12_dot_199 ?_
                          exact hQ _ _ _ _ _ _ _ _ dX12_dot_201 hS (by omega) (by omega) (by refine ⟨iI_inj (by unfold dotR; rw [iteP_t (by omega), iteP_t ⟨by omega, by assumption⟩, iteP_f (by omega)]), ?_⟩; unfold dotS dotUp; rw [iteP_t ⟨by omega, ⟨by omega, by assumption⟩, by omega⟩])
                        · exact absurd c12 (by decide)
              · refine li_bipush hC (z := -4) rfl dX12_dot_79 ?_
                exact hQ _ _ _ _ _ _ _ _ dX12_dot_81 hS (by omega) (by omega) (by refine ⟨iI_inj (by unfold dotR; rw [iteP_t (by omega), iteP_t ⟨by omega, by assumption⟩, iteP_t (by omega)]), ?_⟩; unfold dotS; rw [iteP_f (fun h => absurd h.2.2 (by omega))]; rfl)
            · refine li_bipush hC (z := -2) rfl dX12_dot_65 ?_
              exact hQ _ _ _ _ _ _ _ _ dX12_dot_67 hS (by omega) (by omega) (by refine ⟨iI_inj (by unfold dotR; rw [iteP_t (by omega), iteP_f (by unfold dotOK; first | omega | exact fun h => absurd (by assumption) h.2)]), ?_⟩; unfold dotS; rw [iteP_f (by unfold dotOK; first | omega | exact fun h => absurd (by assumption) h.2.1.2)]; rfl)
  · refine li_iconst hC dX12_dot_10 ?_
    exact hQ _ _ _ _ _ _ _ _ dX12_dot_11 hS (by omega) (by omega) (by refine ⟨iI_inj (by unfold dotR; rw [iteP_f (by omega)]), ?_⟩; unfold dotS; rw [iteP_f (fun h => absurd h.1 (by omega))]; rfl)
