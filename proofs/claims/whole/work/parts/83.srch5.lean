def LuP (l : Launch) (g : GG) (d : Nat) : Prop := ∀ (ad : Nat → Nat) (F : Nat → Int) (A : Nat → Nat → Int) (E : Nat → Nat) (tl : va_W) (S : Nat → Int) (nm : Nat → Nat) (al : Int → Int) (vl : Int → Int → Int) (tp : Int → Int) (u : List Int) (t : BT) (nw : Nat → Int) (fd : Nat → Int) (s3 : Int) (k : Int) (us : Int) (bl : Int) (sm : Int) (hp : Int) (hI : InvD S) (hC0 : InvC S) (hal : al = bitsF S (wideS S)) (hvl : vl = vlG S 100000) (htpe : tp = topS al vl) (hD : 0 ≤ S 0 ∧ S 0 ≤ 7) (hA : AlP S A al) (hV : VlP S A vl) (hCl : ClW S A) (hTp : TpP S A tp) (hvr : ∀ i p : Int, -110000 ≤ vl i p ∧ vl i p ≤ 110000) (htr : ∀ i : Int, -110000 ≤ tp i ∧ tp i ≤ 110000) (hd72 : F 72 = S 0) (hdi : (u.length : Int) + d = S 0) (hu : ∀ n ∈ u, 0 ≤ n ∧ n < S 0) (hnd : u.Nodup) (hwy : wyL u nw) (hkk : k = u.length) (hus : us = setB (fun j => j ∈ u) 7) (hbl : bl = blkQ S (tkL S u).1) (hsm : sm = valO S u) (hhp : hp = hopO tp (S 0).toNat u) (htt : GT t) (hfd : ∀ k : Nat, (k : Int) < S 0 → fd k = t.2.2 k) (sz : Nat), MwrV l g yX7_lineUp cX7_lineUp 7 (6 + 2 * d) 0 0 [.ref (ad 42), .int (iI k), .int (iI us), .int (iI bl), .int (iI sm), .int (iI hp)] sz (CW g ad (va_up (va_up (va_up F 53 s3) 71 t.1) 73 t.2.1) (va_up (va_up A 52 nw) 54 fd) E tl) (fun w => ∃ (s3b : Int) (nwb fdb : Nat → Int), w = CW g ad (va_up (va_up (va_up F 53 s3b) 71 (foldV (valO S) (cmpD (S 0).toNat okO d u) t).1) 73 (foldV (valO S) (cmpD (S 0).toNat okO d u) t).2.1) (va_up (va_up A 52 nwb) 54 fdb) E tl ∧ wyL u nwb ∧ (∀ k : Nat, (k : Int) < S 0 → fdb k = (foldV (valO S) (cmpD (S 0).toNat okO d u) t).2.2 k))
set_option maxHeartbeats 4000000 in
set_option maxRecDepth 100000 in
theorem c_X7_lineUpWith (l : Launch) (g : GG) (d : Nat) (hF : LuP l g (d - 1)) (ad : Nat → Nat) (F : Nat → Int) (A : Nat → Nat → Int) (E : Nat → Nat) (tl : va_W) (S : Nat → Int) (nm : Nat → Nat) (al : Int → Int) (vl : Int → Int → Int) (tp : Int → Int) (u : List Int) (t : BT) (nw : Nat → Int) (fd : Nat → Int) (s3 : Int) (k : Int) (us : Int) (bl : Int) (sm : Int) (hp : Int) (n : Int) (hI : InvD S) (hC0 : InvC S) (hal : al = bitsF S (wideS S)) (hvl : vl = vlG S 100000) (htpe : tp = topS al vl) (hD : 0 ≤ S 0 ∧ S 0 ≤ 7) (hA : AlP S A al) (hV : VlP S A vl) (hCl : ClW S A) (hTp : TpP S A tp) (hvr : ∀ i p : Int, -110000 ≤ vl i p ∧ vl i p ≤ 110000) (htr : ∀ i : Int, -110000 ≤ tp i ∧ tp i ≤ 110000) (hd72 : F 72 = S 0) (hdi : (u.length : Int) + d = S 0) (hu : ∀ n ∈ u, 0 ≤ n ∧ n < S 0) (hnd : u.Nodup) (hwy : wyL u nw) (hkk : k = u.length) (hus : us = setB (fun j => j ∈ u) 7) (hbl : bl = blkQ S (tkL S u).1) (hsm : sm = valO S u) (hhp : hp = hopO tp (S 0).toNat u) (htt : GT t) (hfd : ∀ k : Nat, (k : Int) < S 0 → fd k = t.2.2 k) (hkl : k < S 0) (hnr : 0 ≤ n ∧ n < S 0) (hnu : ¬ n ∈ u) (sz : Nat) : MwrV l g yX7_lineUpWith cX7_lineUpWith 8 (5 + 2 * d) 0 0 [.ref (ad 42), .int (iI n), .int (iI k), .int (iI us), .int (iI bl), .int (iI sm), .int (iI hp)] sz (CW g ad (va_up (va_up (va_up F 53 s3) 71 t.1) 73 t.2.1) (va_up (va_up A 52 nw) 54 fd) E tl) (fun w => ∃ (s3b : Int) (nwb fdb : Nat → Int), w = CW g ad (va_up (va_up (va_up F 53 s3b) 71 (foldV (valO S) (cmpD (S 0).toNat okO (d - 1) (u ++ [n])) t).1) 73 (foldV (valO S) (cmpD (S 0).toNat okO (d - 1) (u ++ [n])) t).2.1) (va_up (va_up A 52 nwb) 54 fdb) E tl ∧ wyL (u ++ [n]) nwb ∧ (∀ k : Nat, (k : Int) < S 0 → fdb k = (foldV (valO S) (cmpD (S 0).toNat okO (d - 1) (u ++ [n])) t).2.2 k)) := by
  refine wr_startV (own := RX7) (by decide) rfl (Nat.le_of_ble_eq_true rfl) ?_
  intro Pg Ev s Mi args below Mt Cd ls Q Aw hC hK hS hnm hl hQ
  have hdt : drS al vl n bl = takeS S (tkL S u).1 n := by rw [hal, hvl]; exact ord_dr hI hC0 (by omega) hnu hbl
  have hl : lv_has ls 8 [(0, .ref (ad 42)), (1, .int (iI n)), (2, .int (iI k)), (3, .int (iI us)), (4, .int (iI bl)), (5, .int (iI sm)), (6, .int (iI hp))] := hl
  obtain ⟨H, hH⟩ : ∃ H, H = s.heap := ⟨_, rfl⟩
  obtain ⟨locs, hlo⟩ : ∃ locs : List Loc, locs = [] := ⟨_, rfl⟩
  have hS : St g Aw s.heap H locs (CW g ad (va_up (va_up (va_up F 53 s3) 71 t.1) 73 t.2.1) (va_up (va_up A 52 nw) 54 fd) E tl) := by rw [hH, hlo]; exact hS
  have goal : W Pg l Ev (rmC (5 + 2 * d) 0 0) s Mi args below Mt Cd H locs 0 0 Q (F0 Mi 0 ls []) := ?goal
  · rw [hH, hlo] at goal; exact goal
  clear hH hlo
  refine li_aload_n hC hl 0 rfl dX7_lineUpWith_0 ?_
  refine li_iload_n hC hl 1 rfl dX7_lineUpWith_1 ?_
  refine li_iload hC hl 4 rfl dX7_lineUpWith_2 ?_
  refine ro_callVi hC (c_X7_dearest l g ad (va_up (va_up (va_up F 53 s3) 71 t.1) 73 t.2.1) (va_up (va_up A 52 nw) 54 fd) E tl S nm al vl n bl hD hA hV hvr (by omega)) mk_X7_dearest ml_X7_92 (rr (by omega)) ⟨Nat.zero_le _, Nat.zero_le _⟩ hK.1 (hS.ro hK) hS.1 (li_recv hK.1 ck_X7 (hS.1 42 _ rfl)) rfl hl.1 rfl (Nat.le_of_ble_eq_true rfl) dX7_lineUpWith_4 ?_
  have q1 := drS_rng al vl n bl
  refine li_istore hC (lv' := [(7, .int (iI (drS al vl n bl))), (0, .ref (ad 42)), (1, .int (iI n)), (2, .int (iI k)), (3, .int (iI us)), (4, .int (iI bl)), (5, .int (iI sm)), (6, .int (iI hp))]) hl (by decide) rfl dX7_lineUpWith_7 (fun ls hl => ?_)
  refine li_aload_n hC hl 1 rfl dX7_lineUpWith_9 ?_
  refine li_get hC hK.1 ck_X7 (hS.1 42 _ rfl) 5 (by decide) fl_X7_29 rfl (v := .ref (ad 51)) rfl dX7_lineUpWith_10 ?_
  refine li_iload_n hC hl 3 rfl dX7_lineUpWith_13 ?_
  refine li_iload_n hC hl 2 rfl dX7_lineUpWith_14 ?_
  refine wr_callVv hC (c_X6_set l g (ws := CW g ad (va_up (va_up (va_up F 53 s3) 71 t.1) 73 t.2.1) (va_up (va_up A 52 nw) 54 fd) E tl) (i := 51) (j := 52) (a := (ad 51)) (b := (ad 52)) (n := 7) (f := nw) (sz := F 51) rfl rfl (Nat.le_of_ble_eq_true rfl) (k := k) (v := n) ⟨by omega, by omega⟩ (ws2 := CW g ad (va_up (va_up (va_up F 53 s3) 71 t.1) 73 t.2.1) (va_up (va_up A 52 (va_up nw k.toNat n)) 54 fd) E tl) rfl _) mk_X6_set ml_X7_74 (rr (by omega)) ⟨by simp only [rmC]; omega, by simp only [rmC]; omega⟩ hK hS (li_recv hK.1 ck_X6 (hS.1 51 _ rfl)) rfl hl.1 rfl (Nat.le_of_ble_eq_true rfl) dX7_lineUpWith_15 (fun w H locs hpx hS => ?_)
  subst hpx
  refine li_aload_n hC hl 1 rfl dX7_lineUpWith_18 ?_
  refine li_iload_n hC hl 3 rfl dX7_lineUpWith_19 ?_
  refine li_iconst hC dX7_lineUpWith_20 ?_
  refine li_iadd hC dX7_lineUpWith_21 ?_
  refine li_iload_n hC hl 4 rfl dX7_lineUpWith_22 ?_
  refine li_iconst hC dX7_lineUpWith_23 ?_
  refine li_iload_n hC hl 2 rfl dX7_lineUpWith_24 ?_
  refine li_ishl hC dX7_lineUpWith_25 ?_
  refine li_ior hC dX7_lineUpWith_26 ?_
  refine li_iload hC hl 5 rfl dX7_lineUpWith_27 ?_
  refine li_aload_n hC hl 1 rfl dX7_lineUpWith_29 ?_
  refine li_iload_n hC hl 2 rfl dX7_lineUpWith_30 ?_
  refine li_iload hC hl 0 rfl dX7_lineUpWith_31 ?_
  refine ro_callVi hC (c_X7_clashesOf l g ad (va_up (va_up (va_up F 53 s3) 71 t.1) 73 t.2.1) (va_up (va_up A 52 (va_up nw k.toNat n)) 54 fd) E tl S nm n (drS al vl n bl) hD hCl (by omega) (by omega)) mk_X7_clashesOf ml_X7_95 (rr (by omega)) ⟨Nat.zero_le _, Nat.zero_le _⟩ hK.1 (hS.ro hK) hS.1 (li_recv hK.1 ck_X7 (hS.1 42 _ rfl)) rfl hl.1 rfl (Nat.le_of_ble_eq_true rfl) dX7_lineUpWith_33 ?_
  refine li_ior hC dX7_lineUpWith_36 ?_
  refine li_iload hC hl 6 rfl dX7_lineUpWith_37 ?_
  refine li_aload_n hC hl 1 rfl dX7_lineUpWith_39 ?_
  refine li_iload_n hC hl 2 rfl dX7_lineUpWith_40 ?_
  refine li_iload hC hl 0 rfl dX7_lineUpWith_41 ?_
  refine ro_callVi hC (c_X7_valueOf l g ad (va_up (va_up (va_up F 53 s3) 71 t.1) 73 t.2.1) (va_up (va_up A 52 (va_up nw k.toNat n)) 54 fd) E tl S nm vl n (drS al vl n bl) hD hV (by omega) (by omega)) mk_X7_valueOf ml_X7_98 (rr (by omega)) ⟨Nat.zero_le _, Nat.zero_le _⟩ hK.1 (hS.ro hK) hS.1 (li_recv hK.1 ck_X7 (hS.1 42 _ rfl)) rfl hl.1 rfl (Nat.le_of_ble_eq_true rfl) dX7_lineUpWith_43 ?_
  have q2 : -110000 ≤ (if (drS al vl n bl) = 4 then 0 else vl n (drS al vl n bl)) ∧ (if (drS al vl n bl) = 4 then 0 else vl n (drS al vl n bl)) ≤ 110000 := by have := hvr n (drS al vl n bl); split <;> omega
  refine li_iadd hC dX7_lineUpWith_46 ?_
  refine li_iload hC hl 7 rfl dX7_lineUpWith_47 ?_
  refine li_aload_n hC hl 1 rfl dX7_lineUpWith_49 ?_
  refine li_get hC hK.1 ck_X7 (hS.1 42 _ rfl) 4 (by decide) fl_X7_26 rfl (v := .ref (ad 49)) rfl dX7_lineUpWith_50 ?_
  refine li_iload_n hC hl 2 rfl dX7_lineUpWith_53 ?_
  refine ro_callVi hC (c_X6_get l g (ws := CW g ad (va_up (va_up (va_up F 53 s3) 71 t.1) 73 t.2.1) (va_up (va_up A 52 (va_up nw k.toNat n)) 54 fd) E tl) (i := 49) (j := 50) (a := (ad 49)) (b := (ad 50)) (n := 7) (f := (A 50)) (sz := F 49) rfl rfl (Nat.le_of_ble_eq_true rfl) (k := n) ⟨by omega, by omega⟩) mk_X6_get ml_X7_39 (rr (by omega)) ⟨Nat.zero_le _, Nat.zero_le _⟩ hK.1 (hS.ro hK) hS.1 (li_recv hK.1 ck_X6 (hS.1 49 _ rfl)) rfl hl.1 rfl (Nat.le_of_ble_eq_true rfl) dX7_lineUpWith_54 ?_
  rw [hTp n (by omega) (by omega)]
  refine li_isub hC dX7_lineUpWith_57 ?_
  refine wr_callVv hC (hF ad F A E tl S nm al vl tp (u ++ [n]) t (va_up nw k.toNat n) fd s3 (k + 1) (ior us (ishl 1 n)) (ior bl (if (drS al vl n bl) = 4 then 0 else setB (clP S n (drS al vl n bl)) (4 * S 0).toNat)) (sm + (if (drS al vl n bl) = 4 then 0 else vl n (drS al vl n bl))) (hp - (tp n)) hI hC0 hal hvl htpe hD hA hV hCl hTp hvr htr hd72 (by rw [len_app]; omega) (fun m hm => by rcases List.mem_append.mp hm with h | h; { exact hu m h }; { rw [List.mem_singleton.mp h]; omega }) (nod_app hnd hnu) (by rw [show k.toNat = u.length by omega]; exact wyL_app hwy) (by rw [len_app]; omega) (by rw [hus]; exact memB_up ⟨by omega, by omega⟩) (by have e9 := ord_blk hD.2 (n := n) (by omega) hC0 hnu hdt; rw [← hbl] at e9; exact e9) (by have e9 := ord_val (S := S) hdt; rw [← hsm, ← hvl] at e9; exact e9) (by rw [hopO_s (by omega) (by omega) hnu, ← hhp]) htt hfd _) mk_X7_lineUp ml_X7_104 (rr (by omega)) ⟨by simp only [rmC]; omega, by simp only [rmC]; omega⟩ hK hS (li_recv hK.1 ck_X7 (hS.1 42 _ rfl)) rfl hl.1 rfl (Nat.le_of_ble_eq_true rfl) dX7_lineUpWith_58 (fun w H locs hpx hS => ?_)
  obtain ⟨s33, nw3, fd3, hq3, hwy3, hfd3⟩ := hpx
  rw [hq3] at hS
  have hS : St g Aw s.heap H locs (CW g ad (va_up (va_up (va_up F 53 s33) 71 ((foldV (valO S) (cmpD (S 0).toNat okO (d - 1) (u ++ [n])) t).1)) 73 ((foldV (valO S) (cmpD (S 0).toNat okO (d - 1) (u ++ [n])) t).2.1)) (va_up (va_up A 52 nw3) 54 fd3) E tl) := hS
  exact hQ _ _ _ _ _ _ _ dX7_lineUpWith_61 hS (by omega) (by omega) (⟨s33, nw3, fd3, rfl, hwy3, hfd3⟩)
set_option maxHeartbeats 4000000 in
set_option maxRecDepth 100000 in
theorem c_X7_lineUp (l : Launch) (g : GG) : ∀ (d : Nat) (ad : Nat → Nat) (F : Nat → Int) (A : Nat → Nat → Int) (E : Nat → Nat) (tl : va_W) (S : Nat → Int) (nm : Nat → Nat) (al : Int → Int) (vl : Int → Int → Int) (tp : Int → Int) (u : List Int) (t : BT) (nw : Nat → Int) (fd : Nat → Int) (s3 : Int) (k : Int) (us : Int) (bl : Int) (sm : Int) (hp : Int) (hI : InvD S) (hC0 : InvC S) (hal : al = bitsF S (wideS S)) (hvl : vl = vlG S 100000) (htpe : tp = topS al vl) (hD : 0 ≤ S 0 ∧ S 0 ≤ 7) (hA : AlP S A al) (hV : VlP S A vl) (hCl : ClW S A) (hTp : TpP S A tp) (hvr : ∀ i p : Int, -110000 ≤ vl i p ∧ vl i p ≤ 110000) (htr : ∀ i : Int, -110000 ≤ tp i ∧ tp i ≤ 110000) (hd72 : F 72 = S 0) (hdi : (u.length : Int) + d = S 0) (hu : ∀ n ∈ u, 0 ≤ n ∧ n < S 0) (hnd : u.Nodup) (hwy : wyL u nw) (hkk : k = u.length) (hus : us = setB (fun j => j ∈ u) 7) (hbl : bl = blkQ S (tkL S u).1) (hsm : sm = valO S u) (hhp : hp = hopO tp (S 0).toNat u) (htt : GT t) (hfd : ∀ k : Nat, (k : Int) < S 0 → fd k = t.2.2 k) (sz : Nat), MwrV l g yX7_lineUp cX7_lineUp 7 (6 + 2 * d) 0 0 [.ref (ad 42), .int (iI k), .int (iI us), .int (iI bl), .int (iI sm), .int (iI hp)] sz (CW g ad (va_up (va_up (va_up F 53 s3) 71 t.1) 73 t.2.1) (va_up (va_up A 52 nw) 54 fd) E tl) (fun w => ∃ (s3b : Int) (nwb fdb : Nat → Int), w = CW g ad (va_up (va_up (va_up F 53 s3b) 71 (foldV (valO S) (cmpD (S 0).toNat okO d u) t).1) 73 (foldV (valO S) (cmpD (S 0).toNat okO d u) t).2.1) (va_up (va_up A 52 nwb) 54 fdb) E tl ∧ wyL u nwb ∧ (∀ k : Nat, (k : Int) < S 0 → fdb k = (foldV (valO S) (cmpD (S 0).toNat okO d u) t).2.2 k)) := by
  intro d
  induction d using Nat.strongRecOn with
  | _ d ih0 =>
  intro ad F A E tl S nm al vl tp u t nw fd s3 k us bl sm hp hI hC0 hal hvl htpe hD hA hV hCl hTp hvr htr hd72 hdi hu hnd hwy hkk hus hbl hsm hhp htt hfd sz
  refine wr_startV (own := RX7) (by decide) rfl (Nat.le_of_ble_eq_true rfl) ?_
  intro Pg Ev s Mi args below Mt Cd ls Q Aw hC hK hS hnm hl hQ
  have hq1 := valO_rng hC0 (u := u) (by omega)
  have hq2 := hopO_rng (tp := tp) (by rw [htpe, hvl]; exact topO_rng hC0 al) u (S 0).toNat
  have hg1 := htt.1; have hg2 := htt.2
  have hcb := cmpO_bd hI hC0 d u hu
  rw [← hal, ← hvl, ← htpe] at hcb
  have hl : lv_has ls 7 [(0, .ref (ad 42)), (1, .int (iI k)), (2, .int (iI us)), (3, .int (iI bl)), (4, .int (iI sm)), (5, .int (iI hp))] := hl
  obtain ⟨H, hH⟩ : ∃ H, H = s.heap := ⟨_, rfl⟩
  obtain ⟨locs, hlo⟩ : ∃ locs : List Loc, locs = [] := ⟨_, rfl⟩
  have hS : St g Aw s.heap H locs (CW g ad (va_up (va_up (va_up F 53 s3) 71 t.1) 73 t.2.1) (va_up (va_up A 52 nw) 54 fd) E tl) := by rw [hH, hlo]; exact hS
  have goal : W Pg l Ev (rmC (6 + 2 * d) 0 0) s Mi args below Mt Cd H locs 0 0 Q (F0 Mi 0 ls []) := ?goal
  · rw [hH, hlo] at goal; exact goal
  clear hH hlo
  refine li_aload_n hC hl 0 rfl dX7_lineUp_0 ?_
  refine li_get hC hK.1 ck_X7 (hS.1 42 _ rfl) 7 (by decide) fl_X7_81 rfl (v := .int (iI t.1)) rfl dX7_lineUp_1 ?_
  refine li_if_eq (tgt := 20) hC (by decide) (rg (by omega) (by omega)) dX7_lineUp_4 (fun c1 => ?_) (fun c1 => ?_)
  · refine li_iload_n hC hl 1 rfl dX7_lineUp_20 ?_
    refine li_aload_n hC hl 0 rfl dX7_lineUp_21 ?_
    refine li_get hC hK.1 ck_X7 (hS.1 42 _ rfl) 8 (by decide) fl_X7_71 rfl (v := .int (iI (S 0))) (by rw [← show F 72 = S 0 from hd72]; rfl) dX7_lineUp_22 ?_
    refine li_icmp_lt (tgt := 35) hC (by decide) (rg (by omega) (by omega)) (rg (by omega) (by omega)) dX7_lineUp_25 (fun c2 => ?_) (fun c2 => ?_)
    · refine li_iconst hC dX7_lineUp_35 ?_
      refine li_istore hC (lv' := [(6, .int (iI 0)), (0, .ref (ad 42)), (1, .int (iI k)), (2, .int (iI us)), (3, .int (iI bl)), (4, .int (iI sm)), (5, .int (iI hp))]) hl (by decide) rfl dX7_lineUp_36 (fun ls hl => ?_)
      have L38_3 : ∀ (fuel : Nat) (n : Int) (t2 : BT) (nw2 : Nat → Int) (fd2 : Nat → Int) (s32 : Int) (ls : Array Slot) (H : Heap) (locs : List Loc), St g Aw s.heap H locs (CW g ad (va_up (va_up (va_up F 53 s32) 71 t2.1) 73 t2.2.1) (va_up (va_up A 52 nw2) 54 fd2) E tl) → lv_has ls 7 [(0, .ref (ad 42)), (1, .int (iI k)), (2, .int (iI us)), (3, .int (iI bl)), (4, .int (iI sm)), (5, .int (iI hp)), (6, .int (iI n))] → (0 ≤ n ∧ n ≤ S 0) → (t2 = foldV (valO S) (cmpP (fun p => cmpD (S 0).toNat okO (d - 1) (u ++ [p])) (okO u) n.toNat) t) → (GT t2) → (wyL u nw2) → (∀ k : Nat, (k : Int) < S 0 → fd2 k = t2.2.2 k) → ((S 0 - n).toNat) < fuel → W Pg l Ev (rmC (6 + 2 * d) 0 0) s Mi args below Mt Cd H locs 0 0 Q (F0 Mi 38 ls []) := by
        intro fuel
        induction fuel with
        | zero => intro n t2 nw2 fd2 s32 ls H locs hS hl hn ht2 htt2 hwy2 hfd2 hm; exact absurd hm (Nat.not_lt_zero _)
        | succ fuel ih38 =>
          intro n t2 nw2 fd2 s32 ls H locs hS hl hn ht2 htt2 hwy2 hfd2 hm
          have hg3 := htt2.1; have hg4 := htt2.2
          refine li_iload hC hl 6 rfl dX7_lineUp_38 ?_
          refine li_aload_n hC hl 0 rfl dX7_lineUp_40 ?_
          refine li_get hC hK.1 ck_X7 (hS.1 42 _ rfl) 8 (by decide) fl_X7_71 rfl (v := .int (iI (S 0))) (by rw [← show F 72 = S 0 from hd72]; rfl) dX7_lineUp_41 ?_
          refine li_icmp_ge (tgt := 75) hC (by decide) (rg (by omega) (by omega)) (rg (by omega) (by omega)) dX7_lineUp_44 (fun c4 => ?_) (fun c4 => ?_)
          · exact hQ _ _ _ _ _ _ _ dX7_lineUp_75 hS (by omega) (by omega) (⟨s32, nw2, fd2, by rw [show cmpD (S 0).toNat okO d u = cmpP (fun p => cmpD (S 0).toNat okO (d - 1) (u ++ [p])) (okO u) (S 0).toNat from cmpD_s (by omega)]; rw [show n.toNat = (S 0).toNat by omega] at ht2; rw [← ht2], hwy2, by rw [show cmpD (S 0).toNat okO d u = cmpP (fun p => cmpD (S 0).toNat okO (d - 1) (u ++ [p])) (okO u) (S 0).toNat from cmpD_s (by omega)]; rw [show n.toNat = (S 0).toNat by omega] at ht2; rw [← ht2]; exact hfd2⟩)
          · refine li_iload_n hC hl 2 rfl dX7_lineUp_47 ?_
            refine li_iload hC hl 6 rfl dX7_lineUp_48 ?_
            refine ro_callSN hC (c_X11_hasBit l g us n) mk_X11_hasBit (fun U h => h.2.2.1) (rr (by omega)) ⟨Nat.zero_le _, Nat.zero_le _⟩ hK.1 (hS.ro hK) trivial rfl hl.1 rfl (Nat.le_of_ble_eq_true rfl) dX7_lineUp_50 ?_
            refine li_ifne_b (tgt := 69) hC (by decide) dX7_lineUp_53 (fun c5 => ?_) (fun c5 => ?_)
            · refine li_iinc hC (lv' := [(6, .int (iI (n + 1))), (0, .ref (ad 42)), (1, .int (iI k)), (2, .int (iI us)), (3, .int (iI bl)), (4, .int (iI sm)), (5, .int (iI hp))]) hl 6 rfl (by decide) rfl dX7_lineUp_69 (fun ls hl => ?_)
              refine li_goto (tgt := 38) hC (by decide) dX7_lineUp_72 ?_
              exact ih38 (n + 1) t2 nw2 fd2 s32 _ _ _ hS (lv_sub hl [1, 2, 3, 4, 5, 6, 0] rfl) (by omega) (by rw [foldVP_f (by omega) (fun h9 => h9 ((memO_iff ⟨by omega, by omega⟩).mp (by rw [← hus]; exact c5))), ← ht2]) (by exact htt2) (by exact hwy2) (by exact hfd2) (by omega)
            · have hnu : ¬ n ∈ u := fun h9 => c5 (by rw [hus]; exact (memO_iff ⟨by omega, by omega⟩).mpr h9)
              refine li_aload_n hC hl 0 rfl dX7_lineUp_56 ?_
              refine li_iload hC hl 6 rfl dX7_lineUp_57 ?_
              refine li_iload_n hC hl 1 rfl dX7_lineUp_59 ?_
              refine li_iload_n hC hl 2 rfl dX7_lineUp_60 ?_
              refine li_iload_n hC hl 3 rfl dX7_lineUp_61 ?_
              refine li_iload hC hl 4 rfl dX7_lineUp_62 ?_
              refine li_iload hC hl 5 rfl dX7_lineUp_64 ?_
              refine wr_callVv hC (c_X7_lineUpWith l g d (ih0 (d - 1) (by omega)) ad F A E tl S nm al vl tp u t2 nw2 fd2 s32 k us bl sm hp n hI hC0 hal hvl htpe hD hA hV hCl hTp hvr htr hd72 (by omega) hu hnd hwy2 hkk hus hbl hsm hhp htt2 hfd2 (by omega) (by omega) hnu _) mk_X7_lineUpWith ml_X7_147 (rr (by omega)) ⟨by simp only [rmC]; omega, by simp only [rmC]; omega⟩ hK hS (li_recv hK.1 ck_X7 (hS.1 42 _ rfl)) rfl hl.1 rfl (Nat.le_of_ble_eq_true rfl) dX7_lineUp_66 (fun w H locs hpx hS => ?_)
              obtain ⟨t3, ht3⟩ : ∃ z : BT, z = foldV (valO S) (cmpD (S 0).toNat okO (d - 1) (u ++ [n])) t2 := ⟨_, rfl⟩
              rw [← ht3] at hpx
              obtain ⟨s33, nw3, fd3, hq3, hwy3, hfd3⟩ := hpx
              rw [hq3] at hS
              have hS : St g Aw s.heap H locs (CW g ad (va_up (va_up (va_up F 53 s33) 71 t3.1) 73 t3.2.1) (va_up (va_up A 52 nw3) 54 fd3) E tl) := hS
              refine li_iinc hC (lv' := [(6, .int (iI (n + 1))), (0, .ref (ad 42)), (1, .int (iI k)), (2, .int (iI us)), (3, .int (iI bl)), (4, .int (iI sm)), (5, .int (iI hp))]) hl 6 rfl (by decide) rfl dX7_lineUp_69 (fun ls hl => ?_)
              refine li_goto (tgt := 38) hC (by decide) dX7_lineUp_72 ?_
              exact ih38 (n + 1) t3 nw3 fd3 s33 _ _ _ hS (lv_sub hl [1, 2, 3, 4, 5, 6, 0] rfl) (by omega) (by rw [foldVP_t (by omega) (show okO u n from hnu), ← ht2]; exact ht3) (by rw [ht3]; exact foldO_GT hC0 htt2 (by rw [len_app]; omega)) (by exact wyL_pre hwy3) (by exact hfd3) (by omega)
      exact L38_3 (((S 0 - 0).toNat) + 1) 0 t nw fd s3 _ _ _ hS (lv_sub hl [1, 2, 3, 4, 5, 6, 0] rfl) (by omega) (by rfl) (by exact htt) (by exact hwy) (by exact hfd) (by omega)
    · refine li_aload_n hC hl 0 rfl dX7_lineUp_28 ?_
      refine li_iload hC hl 4 rfl dX7_lineUp_29 ?_
      refine wr_callVv hC (c_X7_find l g ad (va_up (va_up (va_up F 53 s3) 71 t.1) 73 t.2.1) (va_up (va_up A 52 nw) 54 fd) E tl S nm sm _) mk_X7_find ml_X7_141 (rr (by omega)) ⟨by simp only [rmC]; omega, by simp only [rmC]; omega⟩ hK hS (li_recv hK.1 ck_X7 (hS.1 42 _ rfl)) rfl hl.1 rfl (Nat.le_of_ble_eq_true rfl) dX7_lineUp_31 (fun w H locs hpx hS => ?_)
      rw [show w = _ from hpx] at hS
      have hS : St g Aw s.heap H locs (CW g ad (va_up (va_up (va_up F 53 (F 51)) 71 1) 73 sm) (va_up (va_up A 52 nw) 54 nw) E tl) := hS
      exact hQ _ _ _ _ _ _ _ dX7_lineUp_34 hS (by omega) (by omega) (⟨F 51, nw, nw, by rw [leafV (val := valO S) (D := (S 0).toNat) (u := u) (t := t) (d := d) (by omega) (by first | exact Or.inl (by omega) | (refine Or.inr ?_; have e9 : hopO tp (S 0).toNat u = 0 := hopO_all (fun n h0 h1 => all_in hnd (D := (S 0).toNat) (fun m hm => by have := hu m hm; omega) (by omega) h0 h1); omega)), ← hsm], hwy, by rw [leafV (val := valO S) (D := (S 0).toNat) (u := u) (t := t) (d := d) (by omega) (by first | exact Or.inl (by omega) | (refine Or.inr ?_; have e9 : hopO tp (S 0).toNat u = 0 := hopO_all (fun n h0 h1 => all_in hnd (D := (S 0).toNat) (fun m hm => by have := hu m hm; omega) (by omega) h0 h1); omega))]; intro k hk; have := hwy k (by omega) (by omega); rw [Int.toNat_natCast] at this; exact this⟩)
  · refine li_iload hC hl 4 rfl dX7_lineUp_7 ?_
    refine li_iload hC hl 5 rfl dX7_lineUp_9 ?_
    refine li_iadd hC dX7_lineUp_11 ?_
    refine li_aload_n hC hl 0 rfl dX7_lineUp_12 ?_
    refine li_get hC hK.1 ck_X7 (hS.1 42 _ rfl) 9 (by decide) fl_X7_47 rfl (v := .int (iI t.2.1)) rfl dX7_lineUp_13 ?_
    refine li_icmp_gt (tgt := 20) hC (by decide) (rg (by omega) (by omega)) (rg (by omega) (by omega)) dX7_lineUp_16 (fun c6 => ?_) (fun c6 => ?_)
    · refine li_iload_n hC hl 1 rfl dX7_lineUp_20 ?_
      refine li_aload_n hC hl 0 rfl dX7_lineUp_21 ?_
      refine li_get hC hK.1 ck_X7 (hS.1 42 _ rfl) 8 (by decide) fl_X7_71 rfl (v := .int (iI (S 0))) (by rw [← show F 72 = S 0 from hd72]; rfl) dX7_lineUp_22 ?_
      refine li_icmp_lt (tgt := 35) hC (by decide) (rg (by omega) (by omega)) (rg (by omega) (by omega)) dX7_lineUp_25 (fun c7 => ?_) (fun c7 => ?_)
      · refine li_iconst hC dX7_lineUp_35 ?_
        refine li_istore hC (lv' := [(6, .int (iI 0)), (0, .ref (ad 42)), (1, .int (iI k)), (2, .int (iI us)), (3, .int (iI bl)), (4, .int (iI sm)), (5, .int (iI hp))]) hl (by decide) rfl dX7_lineUp_36 (fun ls hl => ?_)
        have L38_8 : ∀ (fuel : Nat) (n : Int) (t2 : BT) (nw2 : Nat → Int) (fd2 : Nat → Int) (s32 : Int) (ls : Array Slot) (H : Heap) (locs : List Loc), St g Aw s.heap H locs (CW g ad (va_up (va_up (va_up F 53 s32) 71 t2.1) 73 t2.2.1) (va_up (va_up A 52 nw2) 54 fd2) E tl) → lv_has ls 7 [(0, .ref (ad 42)), (1, .int (iI k)), (2, .int (iI us)), (3, .int (iI bl)), (4, .int (iI sm)), (5, .int (iI hp)), (6, .int (iI n))] → (0 ≤ n ∧ n ≤ S 0) → (t2 = foldV (valO S) (cmpP (fun p => cmpD (S 0).toNat okO (d - 1) (u ++ [p])) (okO u) n.toNat) t) → (GT t2) → (wyL u nw2) → (∀ k : Nat, (k : Int) < S 0 → fd2 k = t2.2.2 k) → ((S 0 - n).toNat) < fuel → W Pg l Ev (rmC (6 + 2 * d) 0 0) s Mi args below Mt Cd H locs 0 0 Q (F0 Mi 38 ls []) := by
          intro fuel
          induction fuel with
          | zero => intro n t2 nw2 fd2 s32 ls H locs hS hl hn ht2 htt2 hwy2 hfd2 hm; exact absurd hm (Nat.not_lt_zero _)
          | succ fuel ih38 =>
            intro n t2 nw2 fd2 s32 ls H locs hS hl hn ht2 htt2 hwy2 hfd2 hm
            have hg3 := htt2.1; have hg4 := htt2.2
            refine li_iload hC hl 6 rfl dX7_lineUp_38 ?_
            refine li_aload_n hC hl 0 rfl dX7_lineUp_40 ?_
            refine li_get hC hK.1 ck_X7 (hS.1 42 _ rfl) 8 (by decide) fl_X7_71 rfl (v := .int (iI (S 0))) (by rw [← show F 72 = S 0 from hd72]; rfl) dX7_lineUp_41 ?_
            refine li_icmp_ge (tgt := 75) hC (by decide) (rg (by omega) (by omega)) (rg (by omega) (by omega)) dX7_lineUp_44 (fun c9 => ?_) (fun c9 => ?_)
            · exact hQ _ _ _ _ _ _ _ dX7_lineUp_75 hS (by omega) (by omega) (⟨s32, nw2, fd2, by rw [show cmpD (S 0).toNat okO d u = cmpP (fun p => cmpD (S 0).toNat okO (d - 1) (u ++ [p])) (okO u) (S 0).toNat from cmpD_s (by omega)]; rw [show n.toNat = (S 0).toNat by omega] at ht2; rw [← ht2], hwy2, by rw [show cmpD (S 0).toNat okO d u = cmpP (fun p => cmpD (S 0).toNat okO (d - 1) (u ++ [p])) (okO u) (S 0).toNat from cmpD_s (by omega)]; rw [show n.toNat = (S 0).toNat by omega] at ht2; rw [← ht2]; exact hfd2⟩)
            · refine li_iload_n hC hl 2 rfl dX7_lineUp_47 ?_
              refine li_iload hC hl 6 rfl dX7_lineUp_48 ?_
              refine ro_callSN hC (c_X11_hasBit l g us n) mk_X11_hasBit (fun U h => h.2.2.1) (rr (by omega)) ⟨Nat.zero_le _, Nat.zero_le _⟩ hK.1 (hS.ro hK) trivial rfl hl.1 rfl (Nat.le_of_ble_eq_true rfl) dX7_lineUp_50 ?_
              refine li_ifne_b (tgt := 69) hC (by decide) dX7_lineUp_53 (fun c10 => ?_) (fun c10 => ?_)
              · refine li_iinc hC (lv' := [(6, .int (iI (n + 1))), (0, .ref (ad 42)), (1, .int (iI k)), (2, .int (iI us)), (3, .int (iI bl)), (4, .int (iI sm)), (5, .int (iI hp))]) hl 6 rfl (by decide) rfl dX7_lineUp_69 (fun ls hl => ?_)
                refine li_goto (tgt := 38) hC (by decide) dX7_lineUp_72 ?_
                exact ih38 (n + 1) t2 nw2 fd2 s32 _ _ _ hS (lv_sub hl [1, 2, 3, 4, 5, 6, 0] rfl) (by omega) (by rw [foldVP_f (by omega) (fun h9 => h9 ((memO_iff ⟨by omega, by omega⟩).mp (by rw [← hus]; exact c10))), ← ht2]) (by exact htt2) (by exact hwy2) (by exact hfd2) (by omega)
              · have hnu : ¬ n ∈ u := fun h9 => c10 (by rw [hus]; exact (memO_iff ⟨by omega, by omega⟩).mpr h9)
                refine li_aload_n hC hl 0 rfl dX7_lineUp_56 ?_
                refine li_iload hC hl 6 rfl dX7_lineUp_57 ?_
                refine li_iload_n hC hl 1 rfl dX7_lineUp_59 ?_
                refine li_iload_n hC hl 2 rfl dX7_lineUp_60 ?_
                refine li_iload_n hC hl 3 rfl dX7_lineUp_61 ?_
                refine li_iload hC hl 4 rfl dX7_lineUp_62 ?_
                refine li_iload hC hl 5 rfl dX7_lineUp_64 ?_
                refine wr_callVv hC (c_X7_lineUpWith l g d (ih0 (d - 1) (by omega)) ad F A E tl S nm al vl tp u t2 nw2 fd2 s32 k us bl sm hp n hI hC0 hal hvl htpe hD hA hV hCl hTp hvr htr hd72 (by omega) hu hnd hwy2 hkk hus hbl hsm hhp htt2 hfd2 (by omega) (by omega) hnu _) mk_X7_lineUpWith ml_X7_147 (rr (by omega)) ⟨by simp only [rmC]; omega, by simp only [rmC]; omega⟩ hK hS (li_recv hK.1 ck_X7 (hS.1 42 _ rfl)) rfl hl.1 rfl (Nat.le_of_ble_eq_true rfl) dX7_lineUp_66 (fun w H locs hpx hS => ?_)
                obtain ⟨t3, ht3⟩ : ∃ z : BT, z = foldV (valO S) (cmpD (S 0).toNat okO (d - 1) (u ++ [n])) t2 := ⟨_, rfl⟩
                rw [← ht3] at hpx
                obtain ⟨s33, nw3, fd3, hq3, hwy3, hfd3⟩ := hpx
                rw [hq3] at hS
                have hS : St g Aw s.heap H locs (CW g ad (va_up (va_up (va_up F 53 s33) 71 t3.1) 73 t3.2.1) (va_up (va_up A 52 nw3) 54 fd3) E tl) := hS
                refine li_iinc hC (lv' := [(6, .int (iI (n + 1))), (0, .ref (ad 42)), (1, .int (iI k)), (2, .int (iI us)), (3, .int (iI bl)), (4, .int (iI sm)), (5, .int (iI hp))]) hl 6 rfl (by decide) rfl dX7_lineUp_69 (fun ls hl => ?_)
                refine li_goto (tgt := 38) hC (by decide) dX7_lineUp_72 ?_
                exact ih38 (n + 1) t3 nw3 fd3 s33 _ _ _ hS (lv_sub hl [1, 2, 3, 4, 5, 6, 0] rfl) (by omega) (by rw [foldVP_t (by omega) (show okO u n from hnu), ← ht2]; exact ht3) (by rw [ht3]; exact foldO_GT hC0 htt2 (by rw [len_app]; omega)) (by exact wyL_pre hwy3) (by exact hfd3) (by omega)
        exact L38_8 (((S 0 - 0).toNat) + 1) 0 t nw fd s3 _ _ _ hS (lv_sub hl [1, 2, 3, 4, 5, 6, 0] rfl) (by omega) (by rfl) (by exact htt) (by exact hwy) (by exact hfd) (by omega)
      · refine li_aload_n hC hl 0 rfl dX7_lineUp_28 ?_
        refine li_iload hC hl 4 rfl dX7_lineUp_29 ?_
        refine wr_callVv hC (c_X7_find l g ad (va_up (va_up (va_up F 53 s3) 71 t.1) 73 t.2.1) (va_up (va_up A 52 nw) 54 fd) E tl S nm sm _) mk_X7_find ml_X7_141 (rr (by omega)) ⟨by simp only [rmC]; omega, by simp only [rmC]; omega⟩ hK hS (li_recv hK.1 ck_X7 (hS.1 42 _ rfl)) rfl hl.1 rfl (Nat.le_of_ble_eq_true rfl) dX7_lineUp_31 (fun w H locs hpx hS => ?_)
        rw [show w = _ from hpx] at hS
        have hS : St g Aw s.heap H locs (CW g ad (va_up (va_up (va_up F 53 (F 51)) 71 1) 73 sm) (va_up (va_up A 52 nw) 54 nw) E tl) := hS
        exact hQ _ _ _ _ _ _ _ dX7_lineUp_34 hS (by omega) (by omega) (⟨F 51, nw, nw, by rw [leafV (val := valO S) (D := (S 0).toNat) (u := u) (t := t) (d := d) (by omega) (by first | exact Or.inl (by omega) | (refine Or.inr ?_; have e9 : hopO tp (S 0).toNat u = 0 := hopO_all (fun n h0 h1 => all_in hnd (D := (S 0).toNat) (fun m hm => by have := hu m hm; omega) (by omega) h0 h1); omega)), ← hsm], hwy, by rw [leafV (val := valO S) (D := (S 0).toNat) (u := u) (t := t) (d := d) (by omega) (by first | exact Or.inl (by omega) | (refine Or.inr ?_; have e9 : hopO tp (S 0).toNat u = 0 := hopO_all (fun n h0 h1 => all_in hnd (D := (S 0).toNat) (fun m hm => by have := hu m hm; omega) (by omega) h0 h1); omega))]; intro k hk; have := hwy k (by omega) (by omega); rw [Int.toNat_natCast] at this; exact this⟩)
    · exact hQ _ _ _ _ _ _ _ dX7_lineUp_19 hS (by omega) (by omega) (⟨s3, nw, fd, by rw [foldV_cut (cmpD (S 0).toNat okO d u) (by omega) (fun w9 hw9 => by have := hcb w9 hw9; omega)], hwy, by rw [foldV_cut (cmpD (S 0).toNat okO d u) (by omega) (fun w9 hw9 => by have := hcb w9 hw9; omega)]; exact hfd⟩)
set_option maxHeartbeats 4000000 in
set_option maxRecDepth 100000 in
theorem c_X7_takeInLine (l : Launch) (g : GG) (ad : Nat → Nat) (F : Nat → Int) (A : Nat → Nat → Int) (E : Nat → Nat) (tl : va_W) (S : Nat → Int) (nm : Nat → Nat) (hSh : ShW g ad F A E tl S nm) (hI : InvD S) (hH : InvH S) (hC0 : InvC S) (hG : InvG S) (sz : Nat) : MwrV l g yX7_takeInLine cX7_takeInLine 4 11 0 0 [.ref (ad 42)] sz (CW g ad F A E tl) (fun w => ∃ (F2 : Nat → Int) (A2 : Nat → Nat → Int), w = CW g ad F2 A2 E tl ∧ KpS F F2 A A2 ∧ ShW g ad F2 A2 E tl S nm ∧ F2 73 = valT (tkN S (S 0).toNat) ∧ F2 74 = 100000) := by
  refine wr_startV (own := RX7) (by decide) rfl (Nat.le_of_ble_eq_true rfl) ?_
  intro Pg Ev s Mi args below Mt Cd ls Q Aw hC hK hS hnm hl hQ
  have hSh0 := hSh
  obtain ⟨hTp, hCd, hNs, hWh, hRw, hSn, hPl, hBk, hMp⟩ := hSh0
  have hNm := hNs.2.2
  have hD0 := hI.1
  have hNs0 := hNs.1
  have hws := wideS_rng S
  have hvr := vlG_rng (S := S) hC0 (b := 100000) (by decide)
  have hl : lv_has ls 4 [(0, .ref (ad 42))] := hl
  obtain ⟨H, hH⟩ : ∃ H, H = s.heap := ⟨_, rfl⟩
  obtain ⟨locs, hlo⟩ : ∃ locs : List Loc, locs = [] := ⟨_, rfl⟩
  have hS : St g Aw s.heap H locs (CW g ad F A E tl) := by rw [hH, hlo]; exact hS
  have goal : W Pg l Ev (rmC 11 0 0) s Mi args below Mt Cd H locs 0 0 Q (F0 Mi 0 ls []) := ?goal
  · rw [hH, hlo] at goal; exact goal
  clear hH hlo
  refine li_aload_n hC hl 0 rfl dX7_takeInLine_0 ?_
  refine li_aload_n hC hl 0 rfl dX7_takeInLine_1 ?_
  refine li_get hC hK.1 ck_X7 (hS.1 42 _ rfl) 0 (by decide) fl_X7_35 rfl (v := .ref (ad 3)) rfl dX7_takeInLine_2 ?_
  refine li_get hC hK.1 ck_X8 (hS.1 3 _ rfl) 10 (by decide) fl_X7_60 rfl (v := .int (iI (wideS S))) (by rw [← show F 61 = wideS S from hMp.2.1]; rfl) dX7_takeInLine_5 ?_
  refine wr_callVv hC (c_X7_begin l g ad F A E tl S nm hSh hI (wideS S) (by omega) _) mk_X7_begin ml_X7_65 (rr (by decide)) ⟨by simp only [rmC]; omega, by simp only [rmC]; omega⟩ hK hS (li_recv hK.1 ck_X7 (hS.1 42 _ rfl)) rfl hl.1 rfl (Nat.le_of_ble_eq_true rfl) dX7_takeInLine_8 (fun w H locs hpx hS => ?_)
  obtain ⟨f44, f46, f48, hw, hb44, hb46, hb48⟩ := hpx
  rw [hw] at hS
  have hS : St g Aw s.heap H locs (CW g ad (va_up (va_up (va_up (va_up F 71 0) 72 (S 0)) 73 0) 74 0) (va_up (va_up (va_up A 44 f44) 46 f46) 48 f48) E tl) := hS
  refine li_aload_n hC hl 0 rfl dX7_takeInLine_11 ?_
  refine li_ldc hC (z := 100000) kc_X7_91 rfl dX7_takeInLine_12 ?_
  refine wr_callVv hC (c_X7_value l g ad (va_up (va_up (va_up (va_up F 71 0) 72 (S 0)) 73 0) 74 0) (va_up (va_up (va_up A 44 f44) 46 f46) 48 f48) E tl S nm hSh hI hH hC0 hG 100000 (by omega) rfl _) mk_X7_value ml_X7_68 (rr (by decide)) ⟨by simp only [rmC]; omega, by simp only [rmC]; omega⟩ hK hS (li_recv hK.1 ck_X7 (hS.1 42 _ rfl)) rfl hl.1 rfl (Nat.le_of_ble_eq_true rfl) dX7_takeInLine_14 (fun w H locs hpx hS => ?_)
  obtain ⟨v46, hw, hv46⟩ := hpx
  rw [hw] at hS
  have hS : St g Aw s.heap H locs (CW g ad (va_up (va_up (va_up (va_up F 71 0) 72 (S 0)) 73 0) 74 100000) (va_up (va_up (va_up A 44 f44) 46 v46) 48 f48) E tl) := hS
  refine li_iconst hC dX7_takeInLine_17 ?_
  refine li_istore_n hC (lv' := [(1, .int (iI 0)), (0, .ref (ad 42))]) hl (by decide) rfl dX7_takeInLine_18 (fun ls hl => ?_)
  refine li_iconst hC dX7_takeInLine_19 ?_
  refine li_istore_n hC (lv' := [(2, .int (iI 0)), (1, .int (iI 0)), (0, .ref (ad 42))]) hl (by decide) rfl dX7_takeInLine_20 (fun ls hl => ?_)
  have L21_1 : ∀ (fuel : Nat) (i : Int) (bl : Int) (z : Int) (ls : Array Slot) (H : Heap) (locs : List Loc), St g Aw s.heap H locs (CW g ad (va_up (va_up (va_up (va_up F 71 0) 72 (S 0)) 73 z) 74 100000) (va_up (va_up (va_up A 44 f44) 46 v46) 48 f48) E tl) → lv_has ls 4 [(0, .ref (ad 42)), (1, .int (iI bl)), (2, .int (iI i))] → (0 ≤ i ∧ i ≤ S 0) → (bl = blkQ S (tkN S i.toNat).1) → (z = valT (tkN S i.toNat)) → ((S 0 - i).toNat) < fuel → W Pg l Ev (rmC 11 0 0) s Mi args below Mt Cd H locs 0 0 Q (F0 Mi 21 ls []) := by
    intro fuel
    induction fuel with
    | zero => intro i bl z ls H locs hS hl hi hbl hz hm; exact absurd hm (Nat.not_lt_zero _)
    | succ fuel ih21 =>
      intro i bl z ls H locs hS hl hi hbl hz hm
      have hzr := valN_rng hC0 (n := i.toNat) (by omega)
      refine li_iload_n hC hl 2 rfl dX7_takeInLine_21 ?_
      refine li_aload_n hC hl 0 rfl dX7_takeInLine_22 ?_
      refine li_get hC hK.1 ck_X7 (hS.1 42 _ rfl) 8 (by decide) fl_X7_71 rfl (v := .int (iI (S 0))) rfl dX7_takeInLine_23 ?_
      refine li_icmp_ge (tgt := 66) hC (by decide) (rg (by omega) (by omega)) (rg (by omega) (by omega)) dX7_takeInLine_26 (fun c2 => ?_) (fun c2 => ?_)
      · exact hQ _ _ _ _ _ _ _ dX7_takeInLine_66 hS (by omega) (by omega) (⟨(va_up (va_up (va_up (va_up F 71 0) 72 (S 0)) 73 z) 74 100000), (va_up (va_up (va_up A 44 f44) 46 v46) 48 f48), rfl, ⟨fun k hk => (by first | rfl | (repeat rw [up_ne _ _ (by omega)])), fun k hk => (by first | rfl | (repeat rw [up_ne _ _ (by omega)]))⟩, hSh, by show z = _; rw [hz, show i = S 0 by omega], rfl⟩)
      · refine li_aload_n hC hl 0 rfl dX7_takeInLine_29 ?_
        refine li_iload_n hC hl 2 rfl dX7_takeInLine_30 ?_
        refine li_iload_n hC hl 1 rfl dX7_takeInLine_31 ?_
        refine ro_callVi hC (c_X7_dearest l g ad (va_up (va_up (va_up (va_up F 71 0) 72 (S 0)) 73 z) 74 100000) (va_up (va_up (va_up A 44 f44) 46 v46) 48 f48) E tl S nm (bitsF S (wideS S)) (vlG S 100000) i bl hI.1 (fun i h0 h1 => hb44 i h0 h1) (fun i p h0 h1 h2 h3 => hv46 i p h0 h1 h2 h3) (vlG_rng hC0 (by decide)) (by omega)) mk_X7_dearest ml_X7_92 (rr (by decide)) ⟨Nat.le_of_ble_eq_true rfl, Nat.le_of_ble_eq_true rfl⟩ hK.1 (hS.ro hK) hS.1 (li_recv hK.1 ck_X7 (hS.1 42 _ rfl)) rfl hl.1 rfl (Nat.le_of_ble_eq_true rfl) dX7_takeInLine_32 ?_
        have q3 := drS_rng (bitsF S (wideS S)) (vlG S 100000) i bl
        have hdt : drS (bitsF S (wideS S)) (vlG S 100000) i bl = takeS S (tkN S i.toNat).1 i := lin_dr hI hC0 (by omega) hbl
        refine li_istore_n hC (lv' := [(3, .int (iI (drS (bitsF S (wideS S)) (vlG S 100000) i bl))), (0, .ref (ad 42)), (1, .int (iI bl)), (2, .int (iI i))]) hl (by decide) rfl dX7_takeInLine_35 (fun ls hl => ?_)
        refine li_iload_n hC hl 2 rfl dX7_takeInLine_36 ?_
        refine li_aload_n hC hl 1 rfl dX7_takeInLine_37 ?_
        refine li_iload_n hC hl 3 rfl dX7_takeInLine_38 ?_
        refine li_iload_n hC hl 0 rfl dX7_takeInLine_39 ?_
        refine ro_callVi hC (c_X7_clashesOf l g ad (va_up (va_up (va_up (va_up F 71 0) 72 (S 0)) 73 z) 74 100000) (va_up (va_up (va_up A 44 f44) 46 v46) 48 f48) E tl S nm i (drS (bitsF S (wideS S)) (vlG S 100000) i bl) hI.1 (fun i p h0 h1 h2 h3 => hb48 i p h0 h1 h2 h3) (by omega) (by omega)) mk_X7_clashesOf ml_X7_95 (rr (by decide)) ⟨Nat.le_of_ble_eq_true rfl, Nat.le_of_ble_eq_true rfl⟩ hK.1 (hS.ro hK) hS.1 (li_recv hK.1 ck_X7 (hS.1 42 _ rfl)) rfl hl.1 rfl (Nat.le_of_ble_eq_true rfl) dX7_takeInLine_40 ?_
        refine li_ior hC dX7_takeInLine_43 ?_
        refine li_istore_n hC (lv' := [(1, .int (iI (ior bl (if (drS (bitsF S (wideS S)) (vlG S 100000) i bl) = 4 then 0 else setB (clP S i (drS (bitsF S (wideS S)) (vlG S 100000) i bl)) (4 * S 0).toNat)))), (3, .int (iI (drS (bitsF S (wideS S)) (vlG S 100000) i bl))), (0, .ref (ad 42)), (2, .int (iI i))]) hl (by decide) rfl dX7_takeInLine_44 (fun ls hl => ?_)
        refine li_aload_n hC hl 2 rfl dX7_takeInLine_45 ?_
        refine li_dup hC rfl dX7_takeInLine_46 ?_
        refine li_get hC hK.1 ck_X7 (hS.1 42 _ rfl) 9 (by decide) fl_X7_47 rfl (v := .int (iI z)) rfl dX7_takeInLine_47 ?_
        refine li_aload_n hC hl 2 rfl dX7_takeInLine_50 ?_
        refine li_iload_n hC hl 3 rfl dX7_takeInLine_51 ?_
        refine li_iload_n hC hl 1 rfl dX7_takeInLine_52 ?_
        refine ro_callVi hC (c_X7_valueOf l g ad (va_up (va_up (va_up (va_up F 71 0) 72 (S 0)) 73 z) 74 100000) (va_up (va_up (va_up A 44 f44) 46 v46) 48 f48) E tl S nm (vlG S 100000) i (drS (bitsF S (wideS S)) (vlG S 100000) i bl) hI.1 (fun i p h0 h1 h2 h3 => hv46 i p h0 h1 h2 h3) (by omega) (by omega)) mk_X7_valueOf ml_X7_98 (rr (by decide)) ⟨Nat.le_of_ble_eq_true rfl, Nat.le_of_ble_eq_true rfl⟩ hK.1 (hS.ro hK) hS.1 (li_recv hK.1 ck_X7 (hS.1 42 _ rfl)) rfl hl.1 rfl (Nat.le_of_ble_eq_true rfl) dX7_takeInLine_53 ?_
        have q4 : -110000 ≤ (if (drS (bitsF S (wideS S)) (vlG S 100000) i bl) = 4 then 0 else (vlG S 100000) i (drS (bitsF S (wideS S)) (vlG S 100000) i bl)) ∧ (if (drS (bitsF S (wideS S)) (vlG S 100000) i bl) = 4 then 0 else (vlG S 100000) i (drS (bitsF S (wideS S)) (vlG S 100000) i bl)) ≤ 110000 := by have := hvr i (drS (bitsF S (wideS S)) (vlG S 100000) i bl); split <;> omega
        refine li_iadd hC dX7_takeInLine_56 ?_
        refine li_put hC hK hS ck_X7 42 rfl 9 (by decide) fl_X7_47 rfl rfl (v := .int (iI (z + (if (drS (bitsF S (wideS S)) (vlG S 100000) i bl) = 4 then 0 else (vlG S 100000) i (drS (bitsF S (wideS S)) (vlG S 100000) i bl))))) rfl rfl (Nat.le_of_ble_eq_true rfl) (ws' := CW g ad (va_up (va_up (va_up (va_up F 71 0) 72 (S 0)) 73 (z + (if (drS (bitsF S (wideS S)) (vlG S 100000) i bl) = 4 then 0 else (vlG S 100000) i (drS (bitsF S (wideS S)) (vlG S 100000) i bl)))) 74 100000) (va_up (va_up (va_up A 44 f44) 46 v46) 48 f48) E tl) rfl dX7_takeInLine_57 (fun H locs hS => ?_)
        refine li_iinc hC (lv' := [(2, .int (iI (i + 1))), (1, .int (iI (ior bl (if (drS (bitsF S (wideS S)) (vlG S 100000) i bl) = 4 then 0 else setB (clP S i (drS (bitsF S (wideS S)) (vlG S 100000) i bl)) (4 * S 0).toNat)))), (3, .int (iI (drS (bitsF S (wideS S)) (vlG S 100000) i bl))), (0, .ref (ad 42))]) hl 3 rfl (by decide) rfl dX7_takeInLine_60 (fun ls hl => ?_)
        refine li_goto (tgt := 21) hC (by decide) dX7_takeInLine_63 ?_
        exact ih21 (i + 1) (ior bl (if (drS (bitsF S (wideS S)) (vlG S 100000) i bl) = 4 then 0 else setB (clP S i (drS (bitsF S (wideS S)) (vlG S 100000) i bl)) (4 * S 0).toNat)) (z + (if (drS (bitsF S (wideS S)) (vlG S 100000) i bl) = 4 then 0 else (vlG S 100000) i (drS (bitsF S (wideS S)) (vlG S 100000) i bl))) _ _ _ hS (lv_sub hl [3, 1, 0] rfl) (by omega) (by have e9 := lin_blk hI.1.2 (i := i) (by omega) hC0 hdt; rw [← hbl] at e9; exact e9) (by have e9 := lin_val (S := S) (i := i) (by omega) hdt; rw [← hz] at e9; exact e9) (by omega)
  exact L21_1 (((S 0 - 0).toNat) + 1) 0 0 0 _ _ _ hS (lv_sub hl [2, 1, 0] rfl) (by omega) (by exact blkQ_0.symm) (by rfl) (by omega)
set_option maxHeartbeats 4000000 in
set_option maxRecDepth 100000 in
theorem c_X7_bestOrder (l : Launch) (g : GG) (ad : Nat → Nat) (F : Nat → Int) (A : Nat → Nat → Int) (E : Nat → Nat) (tl : va_W) (S : Nat → Int) (nm : Nat → Nat) (hSh : ShW g ad F A E tl S nm) (hI : InvD S) (hH : InvH S) (hC0 : InvC S) (hG : InvG S) (sz : Nat) : MwrV l g yX7_bestOrder cX7_bestOrder 1 22 0 0 [.ref (ad 42)] sz (CW g ad F A E tl) (fun w => ∃ (F2 : Nat → Int) (A2 : Nat → Nat → Int), w = CW g ad F2 A2 E tl ∧ KpS F F2 A A2 ∧ ShW g ad F2 A2 E tl S nm ∧ F2 71 = (foldV (valO S) (cmpD (S 0).toNat okO (S 0).toNat []) (0, 0, A 54)).1 ∧ F2 73 = (foldV (valO S) (cmpD (S 0).toNat okO (S 0).toNat []) (0, 0, A 54)).2.1 ∧ F2 74 = 100000 ∧ (∀ k : Nat, (k : Int) < S 0 → A2 54 k = (foldV (valO S) (cmpD (S 0).toNat okO (S 0).toNat []) (0, 0, A 54)).2.2 k) ∧ GT (foldV (valO S) (cmpD (S 0).toNat okO (S 0).toNat []) (0, 0, A 54))) := by
  refine wr_startV (own := RX7) (by decide) rfl (Nat.le_of_ble_eq_true rfl) ?_
  intro Pg Ev s Mi args below Mt Cd ls Q Aw hC hK hS hnm hl hQ
  have hSh0 := hSh
  obtain ⟨hTp, hCd, hNs, hWh, hRw, hSn, hPl, hBk, hMp⟩ := hSh0
  have hNm := hNs.2.2
  have hD0 := hI.1
  have hNs0 := hNs.1
  have hws := wideS_rng S
  have hl : lv_has ls 1 [(0, .ref (ad 42))] := hl
  obtain ⟨H, hH⟩ : ∃ H, H = s.heap := ⟨_, rfl⟩
  obtain ⟨locs, hlo⟩ : ∃ locs : List Loc, locs = [] := ⟨_, rfl⟩
  have hS : St g Aw s.heap H locs (CW g ad F A E tl) := by rw [hH, hlo]; exact hS
  have goal : W Pg l Ev (rmC 22 0 0) s Mi args below Mt Cd H locs 0 0 Q (F0 Mi 0 ls []) := ?goal
  · rw [hH, hlo] at goal; exact goal
  clear hH hlo
  refine li_aload_n hC hl 0 rfl dX7_bestOrder_0 ?_
  refine li_aload_n hC hl 0 rfl dX7_bestOrder_1 ?_
  refine li_get hC hK.1 ck_X7 (hS.1 42 _ rfl) 0 (by decide) fl_X7_35 rfl (v := .ref (ad 3)) rfl dX7_bestOrder_2 ?_
  refine li_get hC hK.1 ck_X8 (hS.1 3 _ rfl) 10 (by decide) fl_X7_60 rfl (v := .int (iI (wideS S))) (by rw [← show F 61 = wideS S from hMp.2.1]; rfl) dX7_bestOrder_5 ?_
  refine wr_callVv hC (c_X7_begin l g ad F A E tl S nm hSh hI (wideS S) (by omega) _) mk_X7_begin ml_X7_65 (rr (by decide)) ⟨by simp only [rmC]; omega, by simp only [rmC]; omega⟩ hK hS (li_recv hK.1 ck_X7 (hS.1 42 _ rfl)) rfl hl.1 rfl (Nat.le_of_ble_eq_true rfl) dX7_bestOrder_8 (fun w H locs hpx hS => ?_)
  obtain ⟨f44, f46, f48, hw, hb44, hb46, hb48⟩ := hpx
  rw [hw] at hS
  have hS : St g Aw s.heap H locs (CW g ad (va_up (va_up (va_up (va_up F 71 0) 72 (S 0)) 73 0) 74 0) (va_up (va_up (va_up A 44 f44) 46 f46) 48 f48) E tl) := hS
  refine li_aload_n hC hl 0 rfl dX7_bestOrder_11 ?_
  refine li_ldc hC (z := 100000) kc_X7_91 rfl dX7_bestOrder_12 ?_
  refine wr_callVv hC (c_X7_value l g ad (va_up (va_up (va_up (va_up F 71 0) 72 (S 0)) 73 0) 74 0) (va_up (va_up (va_up A 44 f44) 46 f46) 48 f48) E tl S nm hSh hI hH hC0 hG 100000 (by omega) rfl _) mk_X7_value ml_X7_68 (rr (by decide)) ⟨by simp only [rmC]; omega, by simp only [rmC]; omega⟩ hK hS (li_recv hK.1 ck_X7 (hS.1 42 _ rfl)) rfl hl.1 rfl (Nat.le_of_ble_eq_true rfl) dX7_bestOrder_14 (fun w H locs hpx hS => ?_)
  obtain ⟨v46, hw, hv46⟩ := hpx
  rw [hw] at hS
  have hS : St g Aw s.heap H locs (CW g ad (va_up (va_up (va_up (va_up F 71 0) 72 (S 0)) 73 0) 74 100000) (va_up (va_up (va_up A 44 f44) 46 v46) 48 f48) E tl) := hS
  refine li_aload_n hC hl 0 rfl dX7_bestOrder_17 ?_
  refine li_iconst hC dX7_bestOrder_18 ?_
  refine li_iconst hC dX7_bestOrder_19 ?_
  refine li_iconst hC dX7_bestOrder_20 ?_
  refine li_iconst hC dX7_bestOrder_21 ?_
  refine li_aload_n hC hl 0 rfl dX7_bestOrder_22 ?_
  refine wr_callVi hC (c_X7_hopes l g ad (va_up (va_up (va_up (va_up F 71 0) 72 (S 0)) 73 0) 74 100000) (va_up (va_up (va_up A 44 f44) 46 v46) 48 f48) E tl S nm (bitsF S (wideS S)) (vlG S 100000) hI.1 (fun i h0 h1 => hb44 i h0 h1) (fun i p h0 h1 h2 h3 => hv46 i p h0 h1 h2 h3) (vlG_rng hC0 (by decide)) rfl _) mk_X7_hopes ml_X7_101 (rr (by decide)) ⟨by simp only [rmC]; omega, by simp only [rmC]; omega⟩ hK hS (li_recv hK.1 ck_X7 (hS.1 42 _ rfl)) rfl hl.1 rfl (Nat.le_of_ble_eq_true rfl) dX7_bestOrder_23 (fun v w H locs hpx hS => ?_)
  obtain ⟨hv, f50, hw, hf50⟩ := hpx
  rw [hw] at hS; rw [hv]
  have hS : St g Aw s.heap H locs (CW g ad (va_up (va_up (va_up (va_up F 71 0) 72 (S 0)) 73 0) 74 100000) (va_up (va_up (va_up (va_up A 44 f44) 46 v46) 48 f48) 50 f50) E tl) := hS
  refine wr_callVv hC (c_X7_lineUp l g ((S 0).toNat) ad (va_up (va_up (va_up (va_up F 71 0) 72 (S 0)) 73 0) 74 100000) (va_up (va_up (va_up (va_up A 44 f44) 46 v46) 48 f48) 50 f50) E tl S nm (bitsF S (wideS S)) (vlG S 100000) (topS (bitsF S (wideS S)) (vlG S 100000)) ([]) (0, 0, A 54) (A 52) (A 54) (F 53) 0 0 0 0 (sumI (topS (bitsF S (wideS S)) (vlG S 100000)) (S 0).toNat) hI hC0 rfl rfl rfl hI.1 (fun i h0 h1 => hb44 i h0 h1) (fun i p h0 h1 h2 h3 => hv46 i p h0 h1 h2 h3) (fun i p h0 h1 h2 h3 => hb48 i p h0 h1 h2 h3) hf50 (vlG_rng hC0 (by decide)) (top_rng (by decide) (vlG_rng hC0 (by decide))) rfl (by show ((0 : Nat) : Int) + _ = _; omega) (fun n hn => absurd hn List.not_mem_nil) List.nodup_nil (wyL_nil _) rfl (setB_0.mpr (fun j _ h => absurd h List.not_mem_nil)).symm blkQ_0.symm rfl (hopO_0 _ _).symm GT_0 (fun _ _ => rfl) _) mk_X7_lineUp ml_X7_104 (rr (by omega)) ⟨by simp only [rmC]; omega, by simp only [rmC]; omega⟩ hK hS (li_recv hK.1 ck_X7 (hS.1 42 _ rfl)) rfl hl.1 rfl (Nat.le_of_ble_eq_true rfl) dX7_bestOrder_26 (fun w H locs hpx hS => ?_)
  obtain ⟨s33, nw3, fd3, hq3, hwy3, hfd3⟩ := hpx
  rw [hq3] at hS
  have hS : St g Aw s.heap H locs (CW g ad (va_up (va_up (va_up (va_up (va_up F 53 s33) 71 ((foldV (valO S) (cmpD (S 0).toNat okO (S 0).toNat []) (0, 0, A 54)).1)) 72 (S 0)) 73 ((foldV (valO S) (cmpD (S 0).toNat okO (S 0).toNat []) (0, 0, A 54)).2.1)) 74 100000) (va_up (va_up (va_up (va_up (va_up (va_up A 44 f44) 46 v46) 48 f48) 50 f50) 52 nw3) 54 fd3) E tl) := hS
  exact hQ _ _ _ _ _ _ _ dX7_bestOrder_29 hS (by omega) (by omega) (⟨(va_up (va_up (va_up (va_up (va_up F 53 s33) 71 ((foldV (valO S) (cmpD (S 0).toNat okO (S 0).toNat []) (0, 0, A 54)).1)) 72 (S 0)) 73 ((foldV (valO S) (cmpD (S 0).toNat okO (S 0).toNat []) (0, 0, A 54)).2.1)) 74 100000), (va_up (va_up (va_up (va_up (va_up (va_up A 44 f44) 46 v46) 48 f48) 50 f50) 52 nw3) 54 fd3), rfl, ⟨fun k hk => (by first | rfl | (repeat rw [up_ne _ _ (by omega)])), fun k hk => (by first | rfl | (repeat rw [up_ne _ _ (by omega)]))⟩, hSh, rfl, rfl, rfl, hfd3, foldO_GT hC0 GT_0 (by show 0 + _ ≤ 7; omega)⟩)
