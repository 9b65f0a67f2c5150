set_option maxHeartbeats 4000000 in
set_option maxRecDepth 100000 in
theorem c_X7_find (l : Launch) (g : GG) (ad : Nat → Nat) (F : Nat → Int) (A : Nat → Nat → Int) (E : Nat → Nat) (tl : va_W) (S : Nat → Int) (nm : Nat → Nat) (sm : Int) (sz : Nat) : MwrV l g yX7_find cX7_find 2 4 0 0 [.ref (ad 42), .int (iI sm)] sz (CW g ad F A E tl) (fun w => w = CW g ad (va_up (va_up (va_up F 53 (F 51)) 71 1) 73 sm) (va_up A 54 (A 52)) E tl) := by
  refine wr_startV (own := RX7) (by decide) rfl (Nat.le_of_ble_eq_true rfl) ?_
  intro Pg Ev s Mi args below Mt Cd ls Q Aw hC hK hS hnm hl hQ
  have hl : lv_has ls 2 [(0, .ref (ad 42)), (1, .int (iI sm))] := hl
  obtain ⟨H, hH⟩ : ∃ H, H = s.heap := ⟨_, rfl⟩
  obtain ⟨locs, hlo⟩ : ∃ locs : List Loc, locs = [] := ⟨_, rfl⟩
  have hS : St g Aw s.heap H locs (CW g ad F A E tl) := by rw [hH, hlo]; exact hS
  have goal : W Pg l Ev (rmC 4 0 0) s Mi args below Mt Cd H locs 0 0 Q (F0 Mi 0 ls []) := ?goal
  · rw [hH, hlo] at goal; exact goal
  clear hH hlo
  refine li_aload_n hC hl 0 rfl dX7_find_0 ?_
  refine li_get hC hK.1 ck_X7 (hS.1 42 _ rfl) 6 (by decide) fl_X7_32 rfl (v := .ref (ad 53)) rfl dX7_find_1 ?_
  refine li_aload_n hC hl 0 rfl dX7_find_4 ?_
  refine li_get hC hK.1 ck_X7 (hS.1 42 _ rfl) 5 (by decide) fl_X7_29 rfl (v := .ref (ad 51)) rfl dX7_find_5 ?_
  refine wr_callVv hC (c_X6_become l g (ws := CW g ad F A E tl) (i := 53) (j := 54) (i2 := 51) (j2 := 52) (a := (ad 53)) (b := (ad 54)) (a2 := (ad 51)) (b2 := (ad 52)) (n := 7) (f := (A 54)) (f2 := (A 52)) (sz := F 53) (sz2 := F 51) rfl rfl rfl rfl (Nat.le_of_ble_eq_true rfl) (by decide) (by decide) (by decide) (by decide) (ws2 := CW g ad (va_up F 53 (F 51)) (va_up A 54 (A 52)) E tl) rfl _) mk_X6_become ml_X7_151 (rr (by decide)) ⟨by simp only [rmC]; omega, by simp only [rmC]; omega⟩ hK hS (li_recv hK.1 ck_X6 (hS.1 53 _ rfl)) rfl hl.1 rfl (Nat.le_of_ble_eq_true rfl) dX7_find_8 (fun w H locs hpx hS => ?_)
  subst hpx
  refine li_aload_n hC hl 0 rfl dX7_find_11 ?_
  refine li_iconst hC dX7_find_12 ?_
  refine li_put hC hK hS ck_X7 42 rfl 7 (by decide) fl_X7_81 rfl rfl (v := .int (iI 1)) (nar_01 (Or.inr rfl)) (fit_01 (Or.inr rfl)) (Nat.le_of_ble_eq_true rfl) (ws' := CW g ad (va_up (va_up F 53 (F 51)) 71 1) (va_up A 54 (A 52)) E tl) rfl dX7_find_13 (fun H locs hS => ?_)
  refine li_aload_n hC hl 0 rfl dX7_find_16 ?_
  refine li_iload_n hC hl 1 rfl dX7_find_17 ?_
  refine li_put hC hK hS ck_X7 42 rfl 9 (by decide) fl_X7_47 rfl rfl (v := .int (iI sm)) rfl rfl (Nat.le_of_ble_eq_true rfl) (ws' := CW g ad (va_up (va_up (va_up F 53 (F 51)) 71 1) 73 sm) (va_up A 54 (A 52)) E tl) rfl dX7_find_18 (fun H locs hS => ?_)
  exact hQ _ _ _ _ _ _ _ dX7_find_21 hS (by omega) (by omega) (by rfl)
def GoP (l : Launch) (g : GG) (d : Nat) : Prop := ∀ (ad : Nat → Nat) (F : Nat → Int) (A : Nat → Nat → Int) (E : Nat → Nat) (tl : va_W) (S : Nat → Int) (nm : Nat → Nat) (al : Int → Int) (vl : Int → Int → Int) (tp : Int → Int) (u : List Int) (t : BT) (nw : Nat → Int) (fd : Nat → Int) (s3 : Int) (i : Int) (bl : Int) (sm : Int) (hp : Int) (hD : 0 ≤ S 0 ∧ S 0 ≤ 7) (hA : AlP S A al) (hV : VlP S A vl) (hCl : ClW S A) (hTp : TpP S A tp) (hvr : ∀ i p : Int, -110000 ≤ vl i p ∧ vl i p ≤ 110000) (htr : ∀ i : Int, -110000 ≤ tp i ∧ tp i ≤ 110000) (hd72 : F 72 = S 0) (hb : ∀ i p : Int, 0 ≤ i → i < S 0 → 0 ≤ p → p ≤ 3 → iand (ishr (al i) p) 1 ≠ 0 → vl i p ≤ tp i) (h4 : ∀ i : Int, 0 ≤ i → i < S 0 → iand (ishr (al i) 4) 1 ≠ 0 → 0 ≤ tp i) (hdi : (u.length : Int) + d = S 0) (hu : okL u) (hwy : wyL u nw) (hii : i = u.length) (hbl : bl = blk S u) (hsm : sm = scoreL vl u) (hhp : hp = sumI tp (S 0).toNat - sumI tp u.length) (htt : GT t) (hfd : ∀ k : Nat, (k : Int) < S 0 → fd k = t.2.2 k) (sz : Nat), MwrV l g yX7_goOn cX7_goOn 6 (6 + 2 * d) 0 0 [.ref (ad 42), .int (iI i), .int (iI bl), .int (iI sm), .int (iI hp)] sz (CW g ad (va_up (va_up (va_up F 53 s3) 71 t.1) 73 t.2.1) (va_up (va_up A 52 nw) 54 fd) E tl) (fun w => ∃ (s3b : Int) (nwb fdb : Nat → Int), w = CW g ad (va_up (va_up (va_up F 53 s3b) 71 (foldG vl (cmp (okB S al) d u) t).1) 73 (foldG vl (cmp (okB S al) d u) t).2.1) (va_up (va_up A 52 nwb) 54 fdb) E tl ∧ wyL u nwb ∧ (∀ k : Nat, (k : Int) < S 0 → fdb k = (foldG vl (cmp (okB S al) d u) t).2.2 k))
set_option maxHeartbeats 4000000 in
set_option maxRecDepth 100000 in
theorem c_X7_goBy (l : Launch) (g : GG) (d : Nat) (hF : GoP l g (d - 1)) (ad : Nat → Nat) (F : Nat → Int) (A : Nat → Nat → Int) (E : Nat → Nat) (tl : va_W) (S : Nat → Int) (nm : Nat → Nat) (al : Int → Int) (vl : Int → Int → Int) (tp : Int → Int) (u : List Int) (t : BT) (nw : Nat → Int) (fd : Nat → Int) (s3 : Int) (i : Int) (bl : Int) (sm : Int) (hp : Int) (p : Int) (hD : 0 ≤ S 0 ∧ S 0 ≤ 7) (hA : AlP S A al) (hV : VlP S A vl) (hCl : ClW S A) (hTp : TpP S A tp) (hvr : ∀ i p : Int, -110000 ≤ vl i p ∧ vl i p ≤ 110000) (htr : ∀ i : Int, -110000 ≤ tp i ∧ tp i ≤ 110000) (hd72 : F 72 = S 0) (hb : ∀ i p : Int, 0 ≤ i → i < S 0 → 0 ≤ p → p ≤ 3 → iand (ishr (al i) p) 1 ≠ 0 → vl i p ≤ tp i) (h4 : ∀ i : Int, 0 ≤ i → i < S 0 → iand (ishr (al i) 4) 1 ≠ 0 → 0 ≤ tp i) (hdi : (u.length : Int) + d = S 0) (hu : okL u) (hwy : wyL u nw) (hii : i = u.length) (hbl : bl = blk S u) (hsm : sm = scoreL vl u) (hhp : hp = sumI tp (S 0).toNat - sumI tp u.length) (htt : GT t) (hfd : ∀ k : Nat, (k : Int) < S 0 → fd k = t.2.2 k) (hil : i < S 0) (hpr : 0 ≤ p ∧ p ≤ 4) (sz : Nat) : MwrV l g yX7_goBy cX7_goBy 6 (5 + 2 * d) 0 0 [.ref (ad 42), .int (iI i), .int (iI p), .int (iI bl), .int (iI sm), .int (iI hp)] sz (CW g ad (va_up (va_up (va_up F 53 s3) 71 t.1) 73 t.2.1) (va_up (va_up A 52 nw) 54 fd) E tl) (fun w => ∃ (s3b : Int) (nwb fdb : Nat → Int), w = CW g ad (va_up (va_up (va_up F 53 s3b) 71 (foldG vl (cmp (okB S al) (d - 1) (u ++ [p])) t).1) 73 (foldG vl (cmp (okB S al) (d - 1) (u ++ [p])) t).2.1) (va_up (va_up A 52 nwb) 54 fdb) E tl ∧ wyL (u ++ [p]) nwb ∧ (∀ k : Nat, (k : Int) < S 0 → fdb k = (foldG vl (cmp (okB S al) (d - 1) (u ++ [p])) t).2.2 k)) := by
  refine wr_startV (own := RX7) (by decide) rfl (Nat.le_of_ble_eq_true rfl) ?_
  intro Pg Ev s Mi args below Mt Cd ls Q Aw hC hK hS hnm hl hQ
  have hl : lv_has ls 6 [(0, .ref (ad 42)), (1, .int (iI i)), (2, .int (iI p)), (3, .int (iI bl)), (4, .int (iI sm)), (5, .int (iI hp))] := hl
  obtain ⟨H, hH⟩ : ∃ H, H = s.heap := ⟨_, rfl⟩
  obtain ⟨locs, hlo⟩ : ∃ locs : List Loc, locs = [] := ⟨_, rfl⟩
  have hS : St g Aw s.heap H locs (CW g ad (va_up (va_up (va_up F 53 s3) 71 t.1) 73 t.2.1) (va_up (va_up A 52 nw) 54 fd) E tl) := by rw [hH, hlo]; exact hS
  have goal : W Pg l Ev (rmC (5 + 2 * d) 0 0) s Mi args below Mt Cd H locs 0 0 Q (F0 Mi 0 ls []) := ?goal
  · rw [hH, hlo] at goal; exact goal
  clear hH hlo
  refine li_aload_n hC hl 0 rfl dX7_goBy_0 ?_
  refine li_get hC hK.1 ck_X7 (hS.1 42 _ rfl) 5 (by decide) fl_X7_29 rfl (v := .ref (ad 51)) rfl dX7_goBy_1 ?_
  refine li_iload_n hC hl 1 rfl dX7_goBy_4 ?_
  refine li_iload_n hC hl 2 rfl dX7_goBy_5 ?_
  refine wr_callVv hC (c_X6_set l g (ws := CW g ad (va_up (va_up (va_up F 53 s3) 71 t.1) 73 t.2.1) (va_up (va_up A 52 nw) 54 fd) E tl) (i := 51) (j := 52) (a := (ad 51)) (b := (ad 52)) (n := 7) (f := nw) (sz := F 51) rfl rfl (Nat.le_of_ble_eq_true rfl) (k := i) (v := p) ⟨by omega, by omega⟩ (ws2 := CW g ad (va_up (va_up (va_up F 53 s3) 71 t.1) 73 t.2.1) (va_up (va_up A 52 (va_up nw i.toNat p)) 54 fd) E tl) rfl _) mk_X6_set ml_X7_74 (rr (by omega)) ⟨by simp only [rmC]; omega, by simp only [rmC]; omega⟩ hK hS (li_recv hK.1 ck_X6 (hS.1 51 _ rfl)) rfl hl.1 rfl (Nat.le_of_ble_eq_true rfl) dX7_goBy_6 (fun w H locs hpx hS => ?_)
  subst hpx
  refine li_aload_n hC hl 0 rfl dX7_goBy_9 ?_
  refine li_iload_n hC hl 1 rfl dX7_goBy_10 ?_
  refine li_iconst hC dX7_goBy_11 ?_
  refine li_iadd hC dX7_goBy_12 ?_
  refine li_iload_n hC hl 3 rfl dX7_goBy_13 ?_
  refine li_aload_n hC hl 0 rfl dX7_goBy_14 ?_
  refine li_iload_n hC hl 1 rfl dX7_goBy_15 ?_
  refine li_iload_n hC hl 2 rfl dX7_goBy_16 ?_
  refine ro_callVi hC (c_X7_clashesOf l g ad (va_up (va_up (va_up F 53 s3) 71 t.1) 73 t.2.1) (va_up (va_up A 52 (va_up nw i.toNat p)) 54 fd) E tl S nm i p hD hCl (by omega) (by omega)) mk_X7_clashesOf ml_X7_95 (rr (by omega)) ⟨Nat.zero_le _, Nat.zero_le _⟩ hK.1 (hS.ro hK) hS.1 (li_recv hK.1 ck_X7 (hS.1 42 _ rfl)) rfl hl.1 rfl (Nat.le_of_ble_eq_true rfl) dX7_goBy_17 ?_
  refine li_ior hC dX7_goBy_20 ?_
  refine li_iload hC hl 4 rfl dX7_goBy_21 ?_
  refine li_aload_n hC hl 0 rfl dX7_goBy_23 ?_
  refine li_iload_n hC hl 1 rfl dX7_goBy_24 ?_
  refine li_iload_n hC hl 2 rfl dX7_goBy_25 ?_
  refine ro_callVi hC (c_X7_valueOf l g ad (va_up (va_up (va_up F 53 s3) 71 t.1) 73 t.2.1) (va_up (va_up A 52 (va_up nw i.toNat p)) 54 fd) E tl S nm vl i p hD hV (by omega) (by omega)) mk_X7_valueOf ml_X7_98 (rr (by omega)) ⟨Nat.zero_le _, Nat.zero_le _⟩ hK.1 (hS.ro hK) hS.1 (li_recv hK.1 ck_X7 (hS.1 42 _ rfl)) rfl hl.1 rfl (Nat.le_of_ble_eq_true rfl) dX7_goBy_26 ?_
  have q1 : -110000 ≤ (if p = 4 then 0 else vl i p) ∧ (if p = 4 then 0 else vl i p) ≤ 110000 := by have := hvr i p; split <;> omega
  refine li_iadd hC dX7_goBy_29 ?_
  refine li_iload hC hl 5 rfl dX7_goBy_30 ?_
  refine li_aload_n hC hl 0 rfl dX7_goBy_32 ?_
  refine li_get hC hK.1 ck_X7 (hS.1 42 _ rfl) 4 (by decide) fl_X7_26 rfl (v := .ref (ad 49)) rfl dX7_goBy_33 ?_
  refine li_iload_n hC hl 1 rfl dX7_goBy_36 ?_
  refine ro_callVi hC (c_X6_get l g (ws := CW g ad (va_up (va_up (va_up F 53 s3) 71 t.1) 73 t.2.1) (va_up (va_up A 52 (va_up nw i.toNat p)) 54 fd) E tl) (i := 49) (j := 50) (a := (ad 49)) (b := (ad 50)) (n := 7) (f := (A 50)) (sz := F 49) rfl rfl (Nat.le_of_ble_eq_true rfl) (k := i) ⟨by omega, by omega⟩) mk_X6_get ml_X7_39 (rr (by omega)) ⟨Nat.zero_le _, Nat.zero_le _⟩ hK.1 (hS.ro hK) hS.1 (li_recv hK.1 ck_X6 (hS.1 49 _ rfl)) rfl hl.1 rfl (Nat.le_of_ble_eq_true rfl) dX7_goBy_37 ?_
  rw [hTp i (by omega) (by omega)]
  refine li_isub hC dX7_goBy_40 ?_
  refine wr_callVv hC (hF ad F A E tl S nm al vl tp (u ++ [p]) t (va_up nw i.toNat p) fd s3 (i + 1) (ior bl (if p = 4 then 0 else setB (clP S i p) (4 * S 0).toNat)) (sm + (if p = 4 then 0 else vl i p)) (hp - (tp i)) hD hA hV hCl hTp hvr htr hd72 hb h4 (by rw [len_app]; omega) (okL_app hu ⟨by omega, by omega⟩) (by rw [show i.toNat = u.length by omega]; exact wyL_app hwy) (by rw [len_app]; omega) (by rw [hbl]; exact blk_step hD.2 hii) (by rw [hsm]; exact sco_step hii) (by rw [hhp, len_app]; show _ = _ - (sumI tp u.length + tp u.length); rw [hii]; omega) htt hfd _) mk_X7_goOn ml_X7_137 (rr (by omega)) ⟨by simp only [rmC]; omega, by simp only [rmC]; omega⟩ hK hS (li_recv hK.1 ck_X7 (hS.1 42 _ rfl)) rfl hl.1 rfl (Nat.le_of_ble_eq_true rfl) dX7_goBy_41 (fun w H locs hpx hS => ?_)
  obtain ⟨s33, nw3, fd3, hq3, hwy3, hfd3⟩ := hpx
  rw [hq3] at hS
  have hS : St g Aw s.heap H locs (CW g ad (va_up (va_up (va_up F 53 s33) 71 ((foldG vl (cmp (okB S al) (d - 1) (u ++ [p])) t).1)) 73 ((foldG vl (cmp (okB S al) (d - 1) (u ++ [p])) t).2.1)) (va_up (va_up A 52 nw3) 54 fd3) E tl) := hS
  exact hQ _ _ _ _ _ _ _ dX7_goBy_44 hS (by omega) (by omega) (⟨s33, nw3, fd3, rfl, hwy3, hfd3⟩)
set_option maxHeartbeats 4000000 in
set_option maxRecDepth 100000 in
theorem c_X7_goOn (l : Launch) (g : GG) : ∀ (d : Nat) (ad : Nat → Nat) (F : Nat → Int) (A : Nat → Nat → Int) (E : Nat → Nat) (tl : va_W) (S : Nat → Int) (nm : Nat → Nat) (al : Int → Int) (vl : Int → Int → Int) (tp : Int → Int) (u : List Int) (t : BT) (nw : Nat → Int) (fd : Nat → Int) (s3 : Int) (i : Int) (bl : Int) (sm : Int) (hp : Int) (hD : 0 ≤ S 0 ∧ S 0 ≤ 7) (hA : AlP S A al) (hV : VlP S A vl) (hCl : ClW S A) (hTp : TpP S A tp) (hvr : ∀ i p : Int, -110000 ≤ vl i p ∧ vl i p ≤ 110000) (htr : ∀ i : Int, -110000 ≤ tp i ∧ tp i ≤ 110000) (hd72 : F 72 = S 0) (hb : ∀ i p : Int, 0 ≤ i → i < S 0 → 0 ≤ p → p ≤ 3 → iand (ishr (al i) p) 1 ≠ 0 → vl i p ≤ tp i) (h4 : ∀ i : Int, 0 ≤ i → i < S 0 → iand (ishr (al i) 4) 1 ≠ 0 → 0 ≤ tp i) (hdi : (u.length : Int) + d = S 0) (hu : okL u) (hwy : wyL u nw) (hii : i = u.length) (hbl : bl = blk S u) (hsm : sm = scoreL vl u) (hhp : hp = sumI tp (S 0).toNat - sumI tp u.length) (htt : GT t) (hfd : ∀ k : Nat, (k : Int) < S 0 → fd k = t.2.2 k) (sz : Nat), MwrV l g yX7_goOn cX7_goOn 6 (6 + 2 * d) 0 0 [.ref (ad 42), .int (iI i), .int (iI bl), .int (iI sm), .int (iI hp)] sz (CW g ad (va_up (va_up (va_up F 53 s3) 71 t.1) 73 t.2.1) (va_up (va_up A 52 nw) 54 fd) E tl) (fun w => ∃ (s3b : Int) (nwb fdb : Nat → Int), w = CW g ad (va_up (va_up (va_up F 53 s3b) 71 (foldG vl (cmp (okB S al) d u) t).1) 73 (foldG vl (cmp (okB S al) d u) t).2.1) (va_up (va_up A 52 nwb) 54 fdb) E tl ∧ wyL u nwb ∧ (∀ k : Nat, (k : Int) < S 0 → fdb k = (foldG vl (cmp (okB S al) d u) t).2.2 k)) := by
  intro d
  induction d using Nat.strongRecOn with
  | _ d ih0 =>
  intro ad F A E tl S nm al vl tp u t nw fd s3 i bl sm hp hD hA hV hCl hTp hvr htr hd72 hb h4 hdi hu hwy hii hbl hsm hhp htt hfd sz
  refine wr_startV (own := RX7) (by decide) rfl (Nat.le_of_ble_eq_true rfl) ?_
  intro Pg Ev s Mi args below Mt Cd ls Q Aw hC hK hS hnm hl hQ
  have hq1 := scoreL_M (vl := vl) (M := 110000) (by decide) hvr u
  have hq2 := sumI_M (f := tp) (M := 110000) htr (S 0).toNat
  have hq3 := sumI_M (f := tp) (M := 110000) htr u.length
  have hg1 := htt.1; have hg2 := htt.2
  have hl : lv_has ls 6 [(0, .ref (ad 42)), (1, .int (iI i)), (2, .int (iI bl)), (3, .int (iI sm)), (4, .int (iI hp))] := hl
  obtain ⟨H, hH⟩ : ∃ H, H = s.heap := ⟨_, rfl⟩
  obtain ⟨locs, hlo⟩ : ∃ locs : List Loc, locs = [] := ⟨_, rfl⟩
  have hS : St g Aw s.heap H locs (CW g ad (va_up (va_up (va_up F 53 s3) 71 t.1) 73 t.2.1) (va_up (va_up A 52 nw) 54 fd) E tl) := by rw [hH, hlo]; exact hS
  have goal : W Pg l Ev (rmC (6 + 2 * d) 0 0) s Mi args below Mt Cd H locs 0 0 Q (F0 Mi 0 ls []) := ?goal
  · rw [hH, hlo] at goal; exact goal
  clear hH hlo
  refine li_aload_n hC hl 0 rfl dX7_goOn_0 ?_
  refine li_get hC hK.1 ck_X7 (hS.1 42 _ rfl) 7 (by decide) fl_X7_81 rfl (v := .int (iI t.1)) rfl dX7_goOn_1 ?_
  refine li_if_eq (tgt := 19) hC (by decide) (rg (by omega) (by omega)) dX7_goOn_4 (fun c1 => ?_) (fun c1 => ?_)
  · refine li_iload_n hC hl 1 rfl dX7_goOn_19 ?_
    refine li_aload_n hC hl 0 rfl dX7_goOn_20 ?_
    refine li_get hC hK.1 ck_X7 (hS.1 42 _ rfl) 8 (by decide) fl_X7_71 rfl (v := .int (iI (S 0))) (by rw [← show F 72 = S 0 from hd72]; rfl) dX7_goOn_21 ?_
    refine li_icmp_lt (tgt := 33) hC (by decide) (rg (by omega) (by omega)) (rg (by omega) (by omega)) dX7_goOn_24 (fun c2 => ?_) (fun c2 => ?_)
    · refine li_iconst hC dX7_goOn_33 ?_
      refine li_istore hC (lv' := [(5, .int (iI 0)), (0, .ref (ad 42)), (1, .int (iI i)), (2, .int (iI bl)), (3, .int (iI sm)), (4, .int (iI hp))]) hl (by decide) rfl dX7_goOn_34 (fun ls hl => ?_)
      have L36_3 : ∀ (fuel : Nat) (p : Int) (t2 : BT) (nw2 : Nat → Int) (fd2 : Nat → Int) (s32 : Int) (ls : Array Slot) (H : Heap) (locs : List Loc), St g Aw s.heap H locs (CW g ad (va_up (va_up (va_up F 53 s32) 71 t2.1) 73 t2.2.1) (va_up (va_up A 52 nw2) 54 fd2) E tl) → lv_has ls 6 [(0, .ref (ad 42)), (1, .int (iI i)), (2, .int (iI bl)), (3, .int (iI sm)), (4, .int (iI hp)), (5, .int (iI p))] → (0 ≤ p ∧ p ≤ 5) → (t2 = foldG vl (cmpP (fun p => cmp (okB S al) (d - 1) (u ++ [p])) (okB S al u) p.toNat) t) → (GT t2) → (wyL u nw2) → (∀ k : Nat, (k : Int) < S 0 → fd2 k = t2.2.2 k) → (((5 : Int) - p).toNat) < fuel → W Pg l Ev (rmC (6 + 2 * d) 0 0) s Mi args below Mt Cd H locs 0 0 Q (F0 Mi 36 ls []) := by
        intro fuel
        induction fuel with
        | zero => intro p t2 nw2 fd2 s32 ls H locs hS hl hp5 ht2 htt2 hwy2 hfd2 hm; exact absurd hm (Nat.not_lt_zero _)
        | succ fuel ih36 =>
          intro p t2 nw2 fd2 s32 ls H locs hS hl hp5 ht2 htt2 hwy2 hfd2 hm
          have hg3 := htt2.1; have hg4 := htt2.2
          refine li_iload hC hl 5 rfl dX7_goOn_36 ?_
          refine li_iconst hC dX7_goOn_38 ?_
          refine li_icmp_gt (tgt := 70) hC (by decide) (rg (by omega) (by omega)) (rg (by decide) (by decide)) dX7_goOn_39 (fun c4 => ?_) (fun c4 => ?_)
          · exact hQ _ _ _ _ _ _ _ dX7_goOn_70 hS (by omega) (by omega) (⟨s32, nw2, fd2, by rw [show cmp (okB S al) d u = cmpP (fun p => cmp (okB S al) (d - 1) (u ++ [p])) (okB S al u) 5 from cmp_s (by omega)]; rw [show p.toNat = 5 by omega] at ht2; rw [← ht2], hwy2, by rw [show cmp (okB S al) d u = cmpP (fun p => cmp (okB S al) (d - 1) (u ++ [p])) (okB S al u) 5 from cmp_s (by omega)]; rw [show p.toNat = 5 by omega] at ht2; rw [← ht2]; exact hfd2⟩)
          · refine li_aload_n hC hl 0 rfl dX7_goOn_42 ?_
            refine li_iload_n hC hl 1 rfl dX7_goOn_43 ?_
            refine li_iload hC hl 5 rfl dX7_goOn_44 ?_
            refine li_iload_n hC hl 2 rfl dX7_goOn_46 ?_
            refine ro_callVi hC (c_X7_isOpen l g ad (va_up (va_up (va_up F 53 s32) 71 t2.1) 73 t2.2.1) (va_up (va_up A 52 nw2) 54 fd2) E tl S nm al i p bl hD hA (by omega) (by omega)) mk_X7_isOpen ml_X7_126 (rr (by omega)) ⟨Nat.zero_le _, Nat.zero_le _⟩ hK.1 (hS.ro hK) hS.1 (li_recv hK.1 ck_X7 (hS.1 42 _ rfl)) rfl hl.1 rfl (Nat.le_of_ble_eq_true rfl) dX7_goOn_47 ?_
            refine li_ifeq_b (tgt := 64) hC (by decide) dX7_goOn_50 (fun c5 => ?_) (fun c5 => ?_)
            · refine li_iinc hC (lv' := [(5, .int (iI (p + 1))), (0, .ref (ad 42)), (1, .int (iI i)), (2, .int (iI bl)), (3, .int (iI sm)), (4, .int (iI hp))]) hl 5 rfl (by decide) rfl dX7_goOn_64 (fun ls hl => ?_)
              refine li_goto (tgt := 36) hC (by decide) dX7_goOn_67 ?_
              exact ih36 (p + 1) t2 nw2 fd2 s32 _ _ _ hS (lv_sub hl [1, 2, 3, 4, 5, 0] rfl) (by omega) (by rw [foldGP_f (by omega) (fun h9 => absurd ((okB_iff hD.2 hii (by omega) ⟨by omega, by omega⟩).mpr h9) (by rw [← hbl]; assumption)), ← ht2]) (by exact htt2) (by exact hwy2) (by exact hfd2) (by omega)
            · refine li_aload_n hC hl 0 rfl dX7_goOn_53 ?_
              refine li_iload_n hC hl 1 rfl dX7_goOn_54 ?_
              refine li_iload hC hl 5 rfl dX7_goOn_55 ?_
              refine li_iload_n hC hl 2 rfl dX7_goOn_57 ?_
              refine li_iload_n hC hl 3 rfl dX7_goOn_58 ?_
              refine li_iload hC hl 4 rfl dX7_goOn_59 ?_
              refine wr_callVv hC (c_X7_goBy l g d (ih0 (d - 1) (by omega)) ad F A E tl S nm al vl tp u t2 nw2 fd2 s32 i bl sm hp p hD hA hV hCl hTp hvr htr hd72 hb h4 (by omega) hu hwy2 hii hbl hsm hhp htt2 hfd2 (by omega) (by omega) _) mk_X7_goBy ml_X7_144 (rr (by omega)) ⟨by simp only [rmC]; omega, by simp only [rmC]; omega⟩ hK hS (li_recv hK.1 ck_X7 (hS.1 42 _ rfl)) rfl hl.1 rfl (Nat.le_of_ble_eq_true rfl) dX7_goOn_61 (fun w H locs hpx hS => ?_)
              obtain ⟨t3, ht3⟩ : ∃ z : BT, z = foldG vl (cmp (okB S al) (d - 1) (u ++ [p])) t2 := ⟨_, rfl⟩
              rw [← ht3] at hpx
              obtain ⟨s33, nw3, fd3, hq3, hwy3, hfd3⟩ := hpx
              rw [hq3] at hS
              have hS : St g Aw s.heap H locs (CW g ad (va_up (va_up (va_up F 53 s33) 71 t3.1) 73 t3.2.1) (va_up (va_up A 52 nw3) 54 fd3) E tl) := hS
              refine li_iinc hC (lv' := [(5, .int (iI (p + 1))), (0, .ref (ad 42)), (1, .int (iI i)), (2, .int (iI bl)), (3, .int (iI sm)), (4, .int (iI hp))]) hl 5 rfl (by decide) rfl dX7_goOn_64 (fun ls hl => ?_)
              refine li_goto (tgt := 36) hC (by decide) dX7_goOn_67 ?_
              exact ih36 (p + 1) t3 nw3 fd3 s33 _ _ _ hS (lv_sub hl [1, 2, 3, 4, 5, 0] rfl) (by omega) (by rw [foldGP_t (by omega) ((okB_iff hD.2 hii (by omega) ⟨by omega, by omega⟩).mp (by rw [← hbl]; assumption)), ← ht2]; exact ht3) (by rw [ht3]; exact foldG_GT hvr _ _ htt2 (cmp7 (by rw [len_app]; omega))) (by exact wyL_pre hwy3) (by exact hfd3) (by omega)
      exact L36_3 ((((5 : Int) - 0).toNat) + 1) 0 t nw fd s3 _ _ _ hS (lv_sub hl [1, 2, 3, 4, 5, 0] rfl) (by omega) (by rfl) (by exact htt) (by exact hwy) (by exact hfd) (by omega)
    · refine li_aload_n hC hl 0 rfl dX7_goOn_27 ?_
      refine li_iload_n hC hl 3 rfl dX7_goOn_28 ?_
      refine wr_callVv hC (c_X7_find l g ad (va_up (va_up (va_up F 53 s3) 71 t.1) 73 t.2.1) (va_up (va_up A 52 nw) 54 fd) E tl S nm sm _) mk_X7_find ml_X7_141 (rr (by omega)) ⟨by simp only [rmC]; omega, by simp only [rmC]; omega⟩ hK hS (li_recv hK.1 ck_X7 (hS.1 42 _ rfl)) rfl hl.1 rfl (Nat.le_of_ble_eq_true rfl) dX7_goOn_29 (fun w H locs hpx hS => ?_)
      rw [show w = _ from hpx] at hS
      have hS : St g Aw s.heap H locs (CW g ad (va_up (va_up (va_up F 53 (F 51)) 71 1) 73 sm) (va_up (va_up A 52 nw) 54 nw) E tl) := hS
      exact hQ _ _ _ _ _ _ _ dX7_goOn_32 hS (by omega) (by omega) (⟨F 51, nw, nw, by rw [leafG (S := S) (al := al) (vl := vl) (u := u) (t := t) (d := d) (by omega) (by first | exact Or.inl (by omega) | (refine Or.inr ?_; have e9 : u.length = (S 0).toNat := (by omega); rw [e9] at hhp; omega)), ← hsm], hwy, by rw [leafG (S := S) (al := al) (vl := vl) (u := u) (t := t) (d := d) (by omega) (by first | exact Or.inl (by omega) | (refine Or.inr ?_; have e9 : u.length = (S 0).toNat := (by omega); rw [e9] at hhp; omega))]; intro k hk; have := hwy k (by omega) (by omega); rw [Int.toNat_natCast] at this; exact this⟩)
  · refine li_iload_n hC hl 3 rfl dX7_goOn_7 ?_
    refine li_iload hC hl 4 rfl dX7_goOn_8 ?_
    refine li_iadd hC dX7_goOn_10 ?_
    refine li_aload_n hC hl 0 rfl dX7_goOn_11 ?_
    refine li_get hC hK.1 ck_X7 (hS.1 42 _ rfl) 9 (by decide) fl_X7_47 rfl (v := .int (iI t.2.1)) rfl dX7_goOn_12 ?_
    refine li_icmp_gt (tgt := 19) hC (by decide) (rg (by omega) (by omega)) (rg (by omega) (by omega)) dX7_goOn_15 (fun c6 => ?_) (fun c6 => ?_)
    · refine li_iload_n hC hl 1 rfl dX7_goOn_19 ?_
      refine li_aload_n hC hl 0 rfl dX7_goOn_20 ?_
      refine li_get hC hK.1 ck_X7 (hS.1 42 _ rfl) 8 (by decide) fl_X7_71 rfl (v := .int (iI (S 0))) (by rw [← show F 72 = S 0 from hd72]; rfl) dX7_goOn_21 ?_
      refine li_icmp_lt (tgt := 33) hC (by decide) (rg (by omega) (by omega)) (rg (by omega) (by omega)) dX7_goOn_24 (fun c7 => ?_) (fun c7 => ?_)
      · refine li_iconst hC dX7_goOn_33 ?_
        refine li_istore hC (lv' := [(5, .int (iI 0)), (0, .ref (ad 42)), (1, .int (iI i)), (2, .int (iI bl)), (3, .int (iI sm)), (4, .int (iI hp))]) hl (by decide) rfl dX7_goOn_34 (fun ls hl => ?_)
        have L36_8 : ∀ (fuel : Nat) (p : Int) (t2 : BT) (nw2 : Nat → Int) (fd2 : Nat → Int) (s32 : Int) (ls : Array Slot) (H : Heap) (locs : List Loc), St g Aw s.heap H locs (CW g ad (va_up (va_up (va_up F 53 s32) 71 t2.1) 73 t2.2.1) (va_up (va_up A 52 nw2) 54 fd2) E tl) → lv_has ls 6 [(0, .ref (ad 42)), (1, .int (iI i)), (2, .int (iI bl)), (3, .int (iI sm)), (4, .int (iI hp)), (5, .int (iI p))] → (0 ≤ p ∧ p ≤ 5) → (t2 = foldG vl (cmpP (fun p => cmp (okB S al) (d - 1) (u ++ [p])) (okB S al u) p.toNat) t) → (GT t2) → (wyL u nw2) → (∀ k : Nat, (k : Int) < S 0 → fd2 k = t2.2.2 k) → (((5 : Int) - p).toNat) < fuel → W Pg l Ev (rmC (6 + 2 * d) 0 0) s Mi args below Mt Cd H locs 0 0 Q (F0 Mi 36 ls []) := by
          intro fuel
          induction fuel with
          | zero => intro p t2 nw2 fd2 s32 ls H locs hS hl hp5 ht2 htt2 hwy2 hfd2 hm; exact absurd hm (Nat.not_lt_zero _)
          | succ fuel ih36 =>
            intro p t2 nw2 fd2 s32 ls H locs hS hl hp5 ht2 htt2 hwy2 hfd2 hm
            have hg3 := htt2.1; have hg4 := htt2.2
            refine li_iload hC hl 5 rfl dX7_goOn_36 ?_
            refine li_iconst hC dX7_goOn_38 ?_
            refine li_icmp_gt (tgt := 70) hC (by decide) (rg (by omega) (by omega)) (rg (by decide) (by decide)) dX7_goOn_39 (fun c9 => ?_) (fun c9 => ?_)
            · exact hQ _ _ _ _ _ _ _ dX7_goOn_70 hS (by omega) (by omega) (⟨s32, nw2, fd2, by rw [show cmp (okB S al) d u = cmpP (fun p => cmp (okB S al) (d - 1) (u ++ [p])) (okB S al u) 5 from cmp_s (by omega)]; rw [show p.toNat = 5 by omega] at ht2; rw [← ht2], hwy2, by rw [show cmp (okB S al) d u = cmpP (fun p => cmp (okB S al) (d - 1) (u ++ [p])) (okB S al u) 5 from cmp_s (by omega)]; rw [show p.toNat = 5 by omega] at ht2; rw [← ht2]; exact hfd2⟩)
            · refine li_aload_n hC hl 0 rfl dX7_goOn_42 ?_
              refine li_iload_n hC hl 1 rfl dX7_goOn_43 ?_
              refine li_iload hC hl 5 rfl dX7_goOn_44 ?_
              refine li_iload_n hC hl 2 rfl dX7_goOn_46 ?_
              refine ro_callVi hC (c_X7_isOpen l g ad (va_up (va_up (va_up F 53 s32) 71 t2.1) 73 t2.2.1) (va_up (va_up A 52 nw2) 54 fd2) E tl S nm al i p bl hD hA (by omega) (by omega)) mk_X7_isOpen ml_X7_126 (rr (by omega)) ⟨Nat.zero_le _, Nat.zero_le _⟩ hK.1 (hS.ro hK) hS.1 (li_recv hK.1 ck_X7 (hS.1 42 _ rfl)) rfl hl.1 rfl (Nat.le_of_ble_eq_true rfl) dX7_goOn_47 ?_
              refine li_ifeq_b (tgt := 64) hC (by decide) dX7_goOn_50 (fun c10 => ?_) (fun c10 => ?_)
              · refine li_iinc hC (lv' := [(5, .int (iI (p + 1))), (0, .ref (ad 42)), (1, .int (iI i)), (2, .int (iI bl)), (3, .int (iI sm)), (4, .int (iI hp))]) hl 5 rfl (by decide) rfl dX7_goOn_64 (fun ls hl => ?_)
                refine li_goto (tgt := 36) hC (by decide) dX7_goOn_67 ?_
                exact ih36 (p + 1) t2 nw2 fd2 s32 _ _ _ hS (lv_sub hl [1, 2, 3, 4, 5, 0] rfl) (by omega) (by rw [foldGP_f (by omega) (fun h9 => absurd ((okB_iff hD.2 hii (by omega) ⟨by omega, by omega⟩).mpr h9) (by rw [← hbl]; assumption)), ← ht2]) (by exact htt2) (by exact hwy2) (by exact hfd2) (by omega)
              · refine li_aload_n hC hl 0 rfl dX7_goOn_53 ?_
                refine li_iload_n hC hl 1 rfl dX7_goOn_54 ?_
                refine li_iload hC hl 5 rfl dX7_goOn_55 ?_
                refine li_iload_n hC hl 2 rfl dX7_goOn_57 ?_
                refine li_iload_n hC hl 3 rfl dX7_goOn_58 ?_
                refine li_iload hC hl 4 rfl dX7_goOn_59 ?_
                refine wr_callVv hC (c_X7_goBy l g d (ih0 (d - 1) (by omega)) ad F A E tl S nm al vl tp u t2 nw2 fd2 s32 i bl sm hp p hD hA hV hCl hTp hvr htr hd72 hb h4 (by omega) hu hwy2 hii hbl hsm hhp htt2 hfd2 (by omega) (by omega) _) mk_X7_goBy ml_X7_144 (rr (by omega)) ⟨by simp only [rmC]; omega, by simp only [rmC]; omega⟩ hK hS (li_recv hK.1 ck_X7 (hS.1 42 _ rfl)) rfl hl.1 rfl (Nat.le_of_ble_eq_true rfl) dX7_goOn_61 (fun w H locs hpx hS => ?_)
                obtain ⟨t3, ht3⟩ : ∃ z : BT, z = foldG vl (cmp (okB S al) (d - 1) (u ++ [p])) t2 := ⟨_, rfl⟩
                rw [← ht3] at hpx
                obtain ⟨s33, nw3, fd3, hq3, hwy3, hfd3⟩ := hpx
                rw [hq3] at hS
                have hS : St g Aw s.heap H locs (CW g ad (va_up (va_up (va_up F 53 s33) 71 t3.1) 73 t3.2.1) (va_up (va_up A 52 nw3) 54 fd3) E tl) := hS
                refine li_iinc hC (lv' := [(5, .int (iI (p + 1))), (0, .ref (ad 42)), (1, .int (iI i)), (2, .int (iI bl)), (3, .int (iI sm)), (4, .int (iI hp))]) hl 5 rfl (by decide) rfl dX7_goOn_64 (fun ls hl => ?_)
                refine li_goto (tgt := 36) hC (by decide) dX7_goOn_67 ?_
                exact ih36 (p + 1) t3 nw3 fd3 s33 _ _ _ hS (lv_sub hl [1, 2, 3, 4, 5, 0] rfl) (by omega) (by rw [foldGP_t (by omega) ((okB_iff hD.2 hii (by omega) ⟨by omega, by omega⟩).mp (by rw [← hbl]; assumption)), ← ht2]; exact ht3) (by rw [ht3]; exact foldG_GT hvr _ _ htt2 (cmp7 (by rw [len_app]; omega))) (by exact wyL_pre hwy3) (by exact hfd3) (by omega)
        exact L36_8 ((((5 : Int) - 0).toNat) + 1) 0 t nw fd s3 _ _ _ hS (lv_sub hl [1, 2, 3, 4, 5, 0] rfl) (by omega) (by rfl) (by exact htt) (by exact hwy) (by exact hfd) (by omega)
      · refine li_aload_n hC hl 0 rfl dX7_goOn_27 ?_
        refine li_iload_n hC hl 3 rfl dX7_goOn_28 ?_
        refine wr_callVv hC (c_X7_find l g ad (va_up (va_up (va_up F 53 s3) 71 t.1) 73 t.2.1) (va_up (va_up A 52 nw) 54 fd) E tl S nm sm _) mk_X7_find ml_X7_141 (rr (by omega)) ⟨by simp only [rmC]; omega, by simp only [rmC]; omega⟩ hK hS (li_recv hK.1 ck_X7 (hS.1 42 _ rfl)) rfl hl.1 rfl (Nat.le_of_ble_eq_true rfl) dX7_goOn_29 (fun w H locs hpx hS => ?_)
        rw [show w = _ from hpx] at hS
        have hS : St g Aw s.heap H locs (CW g ad (va_up (va_up (va_up F 53 (F 51)) 71 1) 73 sm) (va_up (va_up A 52 nw) 54 nw) E tl) := hS
        exact hQ _ _ _ _ _ _ _ dX7_goOn_32 hS (by omega) (by omega) (⟨F 51, nw, nw, by rw [leafG (S := S) (al := al) (vl := vl) (u := u) (t := t) (d := d) (by omega) (by first | exact Or.inl (by omega) | (refine Or.inr ?_; have e9 : u.length = (S 0).toNat := (by omega); rw [e9] at hhp; omega)), ← hsm], hwy, by rw [leafG (S := S) (al := al) (vl := vl) (u := u) (t := t) (d := d) (by omega) (by first | exact Or.inl (by omega) | (refine Or.inr ?_; have e9 : u.length = (S 0).toNat := (by omega); rw [e9] at hhp; omega))]; intro k hk; have := hwy k (by omega) (by omega); rw [Int.toNat_natCast] at this; exact this⟩)
    · exact hQ _ _ _ _ _ _ _ dX7_goOn_18 hS (by omega) (by omega) (⟨s3, nw, fd, by rw [foldG_cut (cmp (okB S al) d u) (by omega) (fun w9 hw9 => by have := cmp_bd hb h4 d u hdi w9 hw9; omega)], hwy, by rw [foldG_cut (cmp (okB S al) d u) (by omega) (fun w9 hw9 => by have := cmp_bd hb h4 d u hdi w9 hw9; omega)]; exact hfd⟩)
