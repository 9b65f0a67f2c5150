/-! THE SHEET, READ -/
theorem lsp_pos {g : GG} {tl : va_W} {el : Nat} {D : Int} {nm : Nat → Nat} (h : LsP g tl el D nm) (hD : 0 < D) : ∃ (k : Nat) (f : Nat → Option Nat), tl[k]? = some (el, obA g 10 f) ∧ ∀ i : Nat, (i : Int) < D → f i = some (nm i) := by
  rcases h with h | h
  · omega
  · exact h.2
theorem set4 (P : Int → Prop) : setB P 4 = b2 (P 0) + b2 (P 1) * 2 + b2 (P 2) * 4 + b2 (P 3) * 8 := by
  show (((0 + b2 (P ((0 : Nat) : Int)) * ((2 ^ 0 : Nat) : Int)) + b2 (P ((1 : Nat) : Int)) * ((2 ^ 1 : Nat) : Int)) + b2 (P ((2 : Nat) : Int)) * ((2 ^ 2 : Nat) : Int)) + b2 (P ((3 : Nat) : Int)) * ((2 ^ 3 : Nat) : Int) = _
  show (((0 + b2 (P 0) * 1) + b2 (P 1) * 2) + b2 (P 2) * 4) + b2 (P 3) * 8 = _
  omega
theorem b2_dec {P : Prop} [h : Decidable P] : b2 P = if P then 1 else 0 := by
  split
  · exact b2_t (by assumption)
  · exact b2_f (by assumption)
theorem mayK_set {S : Nat → Int} {i : Int} (hk : 0 ≤ S (7 + i).toNat ∧ S (7 + i).toNat ≤ 6) : mayK (S (7 + i).toNat) (setB (fun p => 0 < S ((49 + (4 * i)) + p).toNat) 4) = setB (mayS S i) 4 := by
  by_cases h6 : S (7 + i).toNat = 6
  · unfold mayK
    rw [if_neg (by omega), if_neg (by omega), if_neg (by omega), if_neg (by omega), if_pos h6]
    refine setB_ext (fun p h0 h1 => ?_)
    unfold mayS
    exact ⟨fun h => ⟨fun _ => by omega, fun _ => by omega, fun _ => by omega, fun _ => by omega, fun _ => h⟩, fun h => h.2.2.2.2 h6⟩
  · rw [set4 (mayS S i)]
    have h0 : mayS S i 0 ↔ S (7 + i).toNat ≠ 3 := by unfold mayS; omega
    have h1 : mayS S i 1 ↔ (S (7 + i).toNat ≠ 2 ∧ S (7 + i).toNat ≠ 3 ∧ S (7 + i).toNat ≠ 5) := by unfold mayS; omega
    have h2 : mayS S i 2 ↔ (S (7 + i).toNat ≠ 1 ∧ S (7 + i).toNat ≠ 2 ∧ S (7 + i).toNat ≠ 5) := by unfold mayS; omega
    have h3 : mayS S i 3 ↔ (S (7 + i).toNat ≠ 1 ∧ S (7 + i).toNat ≠ 5) := by unfold mayS; omega
    have v0 := (b2_eq0 (P := mayS S i 0)).trans (not_congr h0)
    have w0 := (b2_eq1 (P := mayS S i 0)).trans h0
    have v1 := (b2_eq0 (P := mayS S i 1)).trans (not_congr h1)
    have w1 := (b2_eq1 (P := mayS S i 1)).trans h1
    have v2 := (b2_eq0 (P := mayS S i 2)).trans (not_congr h2)
    have w2 := (b2_eq1 (P := mayS S i 2)).trans h2
    have v3 := (b2_eq0 (P := mayS S i 3)).trans (not_congr h3)
    have w3 := (b2_eq1 (P := mayS S i 3)).trans h3
    unfold mayK
    (repeat' split) <;> omega
theorem clr_dec : ∀ x : Nat, x < 32 → ∀ p : Nat, p < 5 → iand (x : Int) (ixor (ishl 1 (p : Int)) (-1)) = ((x &&& (31 ^^^ 2 ^ p) : Nat) : Int) := by decide +kernel
theorem clr_bit : ∀ p : Nat, p < 5 → ∀ j : Nat, j < 5 → ((31 ^^^ 2 ^ p).testBit j = true ↔ j ≠ p) := by decide +kernel
theorem clrB {P : Int → Prop} {n : Nat} {p : Int} (hn : n ≤ 5) (hp : 0 ≤ p ∧ p ≤ 4) : iand (setB P n) (ixor (ishl 1 p) (-1)) = setB (fun j => P j ∧ j ≠ p) n := by
  obtain ⟨a, a1, a2, a3⟩ := setB_bit P n
  have h5 : 2 ^ n ≤ 2 ^ 5 := Nat.pow_le_pow_right (by decide) hn
  have q := clr_dec a (by omega) p.toNat (by omega)
  rw [Int.toNat_of_nonneg hp.1] at q
  rw [a1, q]
  refine (setB_of (fun j => ?_)).symm
  rw [Nat.testBit_and, Bool.and_eq_true, a3 j]
  constructor
  · intro h
    exact ⟨h.1.1, h.1.2, by have := (clr_bit p.toNat (by omega) j (by omega)).mp h.2; omega⟩
  · intro h
    exact ⟨⟨h.1, h.2.1⟩, (clr_bit p.toNat (by omega) j (by omega)).mpr (by have := h.2.2; omega)⟩
theorem first_eq (S : Nat → Int) (i p : Int) : startN (S (28 + i).toNat) p (lenK (S (7 + i).toNat) (S (14 + i).toNat) (S (21 + i).toNat)) = firstS S i p := by
  unfold startN firstS
  show _ = _ + (if p = 0 then 1 else if p = 1 then -(lenK (S (7 + i).toNat) (S (14 + i).toNat) (S (21 + i).toNat)) else 0)
  (repeat' split) <;> omega
theorem line_eq (S : Nat → Int) (i p : Int) : lineN (S (35 + i).toNat) p = rowS S i p := by
  unfold lineN rowS
  (repeat' split) <;> omega
theorem cov_eq (S : Nat → Int) {i p c r : Int} (hp : p ≠ 4) : (lineN (S (35 + i).toNat) p = r ∧ (startN (S (28 + i).toNat) p (lenK (S (7 + i).toNat) (S (14 + i).toNat) (S (21 + i).toNat)) ≤ c ∧ c < startN (S (28 + i).toNat) p (lenK (S (7 + i).toNat) (S (14 + i).toNat) (S (21 + i).toNat)) + lenK (S (7 + i).toNat) (S (14 + i).toNat) (S (21 + i).toNat))) ↔ isAtS S i p c r := by
  rw [first_eq, line_eq]
  unfold isAtS
  show _ ↔ (p ≠ 4 ∧ r = rowS S i p ∧ 0 ≤ c - firstS S i p ∧ c - firstS S i p < lenK (S (7 + i).toNat) (S (14 + i).toNat) (S (21 + i).toNat))
  omega
/-- cells of an interval, counted -/
theorem cnt_iv {lo hi : Int} : ∀ n : Nat, cntB (fun k => lo ≤ k ∧ k < hi) n = if hi ≤ (if lo < 0 then 0 else lo) then 0 else if (n : Int) ≤ (if lo < 0 then 0 else lo) then 0 else (if (n : Int) < hi then (n : Int) else hi) - (if lo < 0 then 0 else lo)
  | 0 => by
    show (0 : Int) = _
    (repeat' split) <;> omega
  | n + 1 => by
    have h := cnt_iv (lo := lo) (hi := hi) n
    rw [cntB, h]
    rcases Classical.em (lo ≤ (n : Int) ∧ (n : Int) < hi) with q | q
    · rw [b2_t q]; (repeat' split) <;> omega
    · rw [b2_f q]; (repeat' split) <;> omega
theorem both_ovl {S : Nat → Int} (hI : InvD S) {a p b q : Int} (ha : 0 ≤ a ∧ a < S 0) (hb : 0 ≤ b ∧ b < S 0) (hq : q ≠ 4) (h : rowS S a p = rowS S b q) : bothS S a p b q = ovl (firstS S a p - (-14)) (lenS S a) (firstS S b q - (-14)) (lenS S b) := by
  have h1 := lenS_rng hI ha
  have h2 := lenS_rng hI hb
  have h3 := firstS_rng hI (p := p) ha
  have h4 := firstS_rng hI (p := q) hb
  unfold bothS
  rw [if_pos h]
  have e : cntB (fun k => isAtS S b q (firstS S a p + k) (rowS S b q)) (lenS S a).toNat = cntB (fun k => firstS S b q - firstS S a p ≤ k ∧ k < firstS S b q - firstS S a p + lenS S b) (lenS S a).toNat := cntB_ext (fun i h0 h1 => by unfold isAtS; omega)
  rw [e, cnt_iv]
  unfold ovl
  (repeat' split) <;> omega
set_option maxHeartbeats 4000000 in
set_option maxRecDepth 100000 in
theorem c_X8_dots (l : Launch) (g : GG) (ad : Nat → Nat) (F : Nat → Int) (A : Nat → Nat → Int) (E : Nat → Nat) (tl : va_W) (S : Nat → Int) (nm : Nat → Nat) (hSh : ShW g ad F A E tl S nm) (hI : InvD S) : MroI l g yX8_dots cX8_dots 1 2 [.ref (ad 3)] (fun H => va_P g.1 vwCl (CW g ad F A E tl) H) (iI (S 0)) := by
  refine ro_startI (own := RX8) (by decide) rfl (Nat.le_of_ble_eq_true rfl) ?_
  intro Pg Ev s Mi args below Mt Cd ls Q hC hK hE hP hl hQ
  have hSh0 := hSh
  obtain ⟨hTp, hCd, hNs, hWh, hRw, hSn, hPl, hBk, hMp⟩ := hSh0
  have hNm := hNs.2.2
  have hD0 := hI.1
  have hNs0 := hNs.1
  have hl : lv_has ls 1 [(0, .ref (ad 3))] := hl
  refine li_aload_n hC hl 0 rfl dX8_dots_0 ?_
  refine li_get hC hK ck_X8 (hP 3 _ rfl) 2 (by decide) fl_X8_26 rfl (v := .ref (ad 8)) rfl dX8_dots_1 ?_
  refine ro_callVi hC (c_Jx4a65c_size_8abf5 l g (ws := CW g ad F A E tl) (i := 8) (a := (ad 8)) (el := E 0) (m := F 75) (n := F 76) rfl) mk_Jx4a65c_size_8abf5 ml_X8_62 (rr (by decide)) ⟨Nat.zero_le _, Nat.zero_le _⟩ hK hE hP (li_recv hK ck_Jx4a65c (hP 8 _ rfl)) rfl hl.1 rfl (Nat.le_of_ble_eq_true rfl) dX8_dots_4 ?_
  rw [show F 76 = S 0 from hNs0]
  exact hQ _ _ _ dX8_dots_7 (iI_inj (by rfl))
set_option maxHeartbeats 4000000 in
set_option maxRecDepth 100000 in
theorem c_X8_has (l : Launch) (g : GG) (ad : Nat → Nat) (F : Nat → Int) (A : Nat → Nat → Int) (E : Nat → Nat) (tl : va_W) (S : Nat → Int) (nm : Nat → Nat) (hSh : ShW g ad F A E tl S nm) (hI : InvD S) (i : Int) (hr : rng i) : MroZ l g yX8_has cX8_has 2 2 [.ref (ad 3), .int (iI i)] (fun H => va_P g.1 vwCl (CW g ad F A E tl) H) (iI (b2 (0 ≤ i ∧ i < S 0))) := by
  refine ro_startZ (own := RX8) (by decide) rfl (Nat.le_of_ble_eq_true rfl) ?_
  intro Pg Ev s Mi args below Mt Cd ls Q hC hK hE hP hl hQ
  have hSh0 := hSh
  obtain ⟨hTp, hCd, hNs, hWh, hRw, hSn, hPl, hBk, hMp⟩ := hSh0
  have hNm := hNs.2.2
  have hD0 := hI.1
  have hNs0 := hNs.1
  have hl : lv_has ls 2 [(0, .ref (ad 3)), (1, .int (iI i))] := hl
  refine li_iload_n hC hl 1 rfl dX8_has_0 ?_
  refine li_if_lt (tgt := 19) hC (by decide) hr dX8_has_1 (fun c1 => ?_) (fun c1 => ?_)
  · refine li_iconst hC dX8_has_19 ?_
    exact hQ _ _ _ dX8_has_20 (Or.inl rfl) (iI_inj ((b2_f (by omega)).symm))
  · refine li_iload_n hC hl 1 rfl dX8_has_4 ?_
    refine li_aload_n hC hl 0 rfl dX8_has_5 ?_
    refine li_get hC hK ck_X8 (hP 3 _ rfl) 2 (by decide) fl_X8_26 rfl (v := .ref (ad 8)) rfl dX8_has_6 ?_
    refine ro_callVi hC (c_Jx4a65c_size_8abf5 l g (ws := CW g ad F A E tl) (i := 8) (a := (ad 8)) (el := E 0) (m := F 75) (n := F 76) rfl) mk_Jx4a65c_size_8abf5 ml_X8_62 (rr (by decide)) ⟨Nat.zero_le _, Nat.zero_le _⟩ hK hE hP (li_recv hK ck_Jx4a65c (hP 8 _ rfl)) rfl hl.1 rfl (Nat.le_of_ble_eq_true rfl) dX8_has_9 ?_
    rw [show F 76 = S 0 from hNs0]
    refine li_icmp_ge (tgt := 19) hC (by decide) hr (rg (by omega) (by omega)) dX8_has_12 (fun c2 => ?_) (fun c2 => ?_)
    · refine li_iconst hC dX8_has_19 ?_
      exact hQ _ _ _ dX8_has_20 (Or.inl rfl) (iI_inj ((b2_f (by omega)).symm))
    · refine li_iconst hC dX8_has_15 ?_
      refine li_goto (tgt := 20) hC (by decide) dX8_has_16 ?_
      exact hQ _ _ _ dX8_has_20 (Or.inr rfl) (iI_inj ((b2_t (by omega)).symm))
set_option maxHeartbeats 4000000 in
set_option maxRecDepth 100000 in
theorem c_X8_name (l : Launch) (g : GG) (ad : Nat → Nat) (F : Nat → Int) (A : Nat → Nat → Int) (E : Nat → Nat) (tl : va_W) (S : Nat → Int) (nm : Nat → Nat) (hSh : ShW g ad F A E tl S nm) (hI : InvD S) (i : Int) (hr : rng i) : MroQ l g yX8_name cX8_name 2 5 (.object "NamesNoTouch$Name") [.ref (ad 3), .int (iI i)] (fun H => va_P g.1 vwCl (CW g ad F A E tl) H) (iteP (0 ≤ i ∧ i < S 0) (some (nm i.toNat)) none) := by
  refine ro_startQ (own := RX8) (by decide) rfl (Nat.le_of_ble_eq_true rfl) ?_
  intro Pg Ev s Mi args below Mt Cd ls Q hC hK hE hP hl hQ
  have hSh0 := hSh
  obtain ⟨hTp, hCd, hNs, hWh, hRw, hSn, hPl, hBk, hMp⟩ := hSh0
  have hNm := hNs.2.2
  have hD0 := hI.1
  have hNs0 := hNs.1
  have hl : lv_has ls 2 [(0, .ref (ad 3)), (1, .int (iI i))] := hl
  refine li_aload_n hC hl 0 rfl dX8_name_0 ?_
  refine li_iload_n hC hl 1 rfl dX8_name_1 ?_
  refine ro_callVi hC (c_X8_has l g ad F A E tl S nm hSh hI i hr) mk_X8_has ml_X8_84 (rr (by decide)) ⟨Nat.le_of_ble_eq_true rfl, Nat.le_of_ble_eq_true rfl⟩ hK hE hP (li_recv hK ck_X8 (hP 3 _ rfl)) rfl hl.1 rfl (Nat.le_of_ble_eq_true rfl) dX8_name_2 ?_
  refine li_ifeq_b (tgt := 22) hC (by decide) dX8_name_5 (fun c1 => ?_) (fun c1 => ?_)
  · refine li_null hC dX8_name_22 ?_
    exact hQ none _ _ dX8_name_23 (by rw [iteP_f (by omega)])
  · refine li_aload_n hC hl 0 rfl dX8_name_8 ?_
    refine li_get hC hK ck_X8 (hP 3 _ rfl) 2 (by decide) fl_X8_26 rfl (v := .ref (ad 8)) rfl dX8_name_9 ?_
    refine li_iload_n hC hl 1 rfl dX8_name_12 ?_
    obtain ⟨kL2, fL3, hL4, hL5⟩ := lsp_pos hNs.2.1 (by omega)
    refine ro_callVq hC (c_Jx4a65c_get_915e3 l g (ws := CW g ad F A E tl) (i := 8) (j := 55 + kL2) (a := (ad 8)) (el := E 0) (m := F 75) (n := F 76) (f := fL3) rfl (by rw [CW_tl]; exact hL4) (k := i) ⟨by omega, by omega⟩ (by omega)) mk_Jx4a65c_get_915e3 ml_X8_66 (rr (by decide)) ⟨Nat.zero_le _, Nat.zero_le _⟩ hK hE hP (li_recv hK ck_Jx4a65c (hP 8 _ rfl)) rfl hl.1 rfl (Nat.le_of_ble_eq_true rfl) dX8_name_13 ?_
    rw [hL5 i.toNat (by omega), show va_rf (some (nm i.toNat)) = .ref (nm i.toNat) from rfl]
    have q7 := hI.2 i (by omega) (by omega)
    refine li_castN hC hK (nm_at hP hNm hI (i := i) (by omega)) cl_X8_70 dX8_name_16 ?_
    refine li_goto (tgt := 23) hC (by decide) dX8_name_19 ?_
    exact hQ (some (nm i.toNat)) _ _ dX8_name_23 (by rw [iteP_t (by omega)])
set_option maxHeartbeats 4000000 in
set_option maxRecDepth 100000 in
theorem c_X8_hasDot (l : Launch) (g : GG) (ad : Nat → Nat) (F : Nat → Int) (A : Nat → Nat → Int) (E : Nat → Nat) (tl : va_W) (S : Nat → Int) (nm : Nat → Nat) (hSh : ShW g ad F A E tl S nm) (hI : InvD S) (c : Int) (r : Int) (hc : rng c) (hr : rng r) : MroZ l g yX8_hasDot cX8_hasDot 5 6 [.ref (ad 3), .int (iI c), .int (iI r)] (fun H => va_P g.1 vwCl (CW g ad F A E tl) H) (iI (b2 (dotAtS S c r))) := by
  refine ro_startZ (own := RX8) (by decide) rfl (Nat.le_of_ble_eq_true rfl) ?_
  intro Pg Ev s Mi args below Mt Cd ls Q hC hK hE hP hl hQ
  have hSh0 := hSh
  obtain ⟨hTp, hCd, hNs, hWh, hRw, hSn, hPl, hBk, hMp⟩ := hSh0
  have hNm := hNs.2.2
  have hD0 := hI.1
  have hNs0 := hNs.1
  have hl : lv_has ls 5 [(0, .ref (ad 3)), (1, .int (iI c)), (2, .int (iI r))] := hl
  refine li_iconst hC dX8_hasDot_0 ?_
  refine li_istore_n hC (lv' := [(3, .int (iI 0)), (0, .ref (ad 3)), (1, .int (iI c)), (2, .int (iI r))]) hl (by decide) rfl dX8_hasDot_1 (fun ls hl => ?_)
  have L2_1 : ∀ (fuel : Nat) (d : Int) (ls : Array Slot), lv_has ls 5 [(0, .ref (ad 3)), (1, .int (iI c)), (2, .int (iI r)), (3, .int (iI d))] → (0 ≤ d ∧ d ≤ S 0) → (¬ exB (fun d => S (28 + d).toNat = c ∧ S (35 + d).toNat = r) d) → ((S 0 - d).toNat) < fuel → W Pg l Ev (rmC 6 0 0) s Mi args below Mt Cd s.heap [] 0 0 Q (F0 Mi 2 ls []) := by
    intro fuel
    induction fuel with
    | zero => intro d ls hl hd hz hm; exact absurd hm (Nat.not_lt_zero _)
    | succ fuel ih2 =>
      intro d ls hl hd hz hm
      refine li_iload_n hC hl 3 rfl dX8_hasDot_2 ?_
      refine li_aload_n hC hl 0 rfl dX8_hasDot_3 ?_
      refine ro_callVi hC (c_X8_dots l g ad F A E tl S nm hSh hI) mk_X8_dots ml_X8_88 (rr (by decide)) ⟨Nat.le_of_ble_eq_true rfl, Nat.le_of_ble_eq_true rfl⟩ hK hE hP (li_recv hK ck_X8 (hP 3 _ rfl)) rfl hl.1 rfl (Nat.le_of_ble_eq_true rfl) dX8_hasDot_4 ?_
      refine li_icmp_ge (tgt := 48) hC (by decide) (rg (by omega) (by omega)) (rg (by omega) (by omega)) dX8_hasDot_7 (fun c2 => ?_) (fun c2 => ?_)
      · refine li_iconst hC dX8_hasDot_48 ?_
        exact hQ _ _ _ dX8_hasDot_49 (Or.inl rfl) (iI_inj ((b2_f (by unfold dotAtS; rw [show S 0 = d by omega]; exact hz)).symm))
      · refine li_aload_n hC hl 0 rfl dX8_hasDot_10 ?_
        refine li_iload_n hC hl 3 rfl dX8_hasDot_11 ?_
        refine ro_callVq hC (c_X8_name l g ad F A E tl S nm hSh hI d (rg (by omega) (by omega))) mk_X8_name ml_X8_91 (rr (by decide)) ⟨Nat.zero_le _, Nat.zero_le _⟩ hK hE hP (li_recv hK ck_X8 (hP 3 _ rfl)) rfl hl.1 rfl (Nat.le_of_ble_eq_true rfl) dX8_hasDot_12 ?_
        rw [iteP_t (by omega), show va_rf (some (nm d.toNat)) = .ref (nm d.toNat) from rfl]
        have q4 := hI.2 d (by omega) (by omega)
        refine li_astore hC (lv' := [(4, .ref (nm d.toNat)), (0, .ref (ad 3)), (1, .int (iI c)), (2, .int (iI r)), (3, .int (iI d))]) hl (by decide) rfl dX8_hasDot_15 (fun ls hl => ?_)
        refine li_aload hC hl 0 rfl dX8_hasDot_17 ?_
        refine li_ifnull hC dX8_hasDot_19 ?_
        refine li_aload hC hl 0 rfl dX8_hasDot_22 ?_
        refine li_getN4 hC hK (nm_at hP hNm hI (i := d) (by omega)) fl_X8_95 dX8_hasDot_24 ?_
        refine li_iload_n hC hl 2 rfl dX8_hasDot_27 ?_
        refine li_icmp_ne (tgt := 42) hC (by decide) (rg (by omega) (by omega)) hc dX8_hasDot_28 (fun c5 => ?_) (fun c5 => ?_)
        · refine li_iinc hC (lv' := [(3, .int (iI (d + 1))), (4, .ref (nm d.toNat)), (0, .ref (ad 3)), (1, .int (iI c)), (2, .int (iI r))]) hl 4 rfl (by decide) rfl dX8_hasDot_42 (fun ls hl => ?_)
          refine li_goto (tgt := 2) hC (by decide) dX8_hasDot_45 ?_
          exact ih2 (d + 1) _ (lv_sub hl [2, 3, 4, 0] rfl) (by omega) (by exact fun h9 => ((exB_s (P := (fun d => S (28 + d).toNat = c ∧ S (35 + d).toNat = r)) hd.1).mp h9).elim hz (by omega)) (by omega)
        · refine li_aload hC hl 0 rfl dX8_hasDot_31 ?_
          refine li_getN5 hC hK (nm_at hP hNm hI (i := d) (by omega)) fl_X8_98 dX8_hasDot_33 ?_
          refine li_iload_n hC hl 3 rfl dX8_hasDot_36 ?_
          refine li_icmp_ne (tgt := 42) hC (by decide) (rg (by omega) (by omega)) hr dX8_hasDot_37 (fun c6 => ?_) (fun c6 => ?_)
          · refine li_iinc hC (lv' := [(3, .int (iI (d + 1))), (4, .ref (nm d.toNat)), (0, .ref (ad 3)), (1, .int (iI c)), (2, .int (iI r))]) hl 4 rfl (by decide) rfl dX8_hasDot_42 (fun ls hl => ?_)
            refine li_goto (tgt := 2) hC (by decide) dX8_hasDot_45 ?_
            exact ih2 (d + 1) _ (lv_sub hl [2, 3, 4, 0] rfl) (by omega) (by exact fun h9 => ((exB_s (P := (fun d => S (28 + d).toNat = c ∧ S (35 + d).toNat = r)) hd.1).mp h9).elim hz (by omega)) (by omega)
          · refine li_iconst hC dX8_hasDot_40 ?_
            exact hQ _ _ _ dX8_hasDot_41 (Or.inr rfl) (iI_inj ((b2_t (by unfold dotAtS; exact exB_le (by omega) ((exB_s (P := (fun d => S (28 + d).toNat = c ∧ S (35 + d).toNat = r)) hd.1).mpr (Or.inr ⟨by omega, by omega⟩)))).symm))
  exact L2_1 (((S 0 - 0).toNat) + 1) 0 _ (lv_sub hl [1, 2, 3, 0] rfl) (by omega) (by exact exB_0 _) (by omega)
set_option maxHeartbeats 4000000 in
set_option maxRecDepth 100000 in
theorem c_X8_mayBe (l : Launch) (g : GG) (ad : Nat → Nat) (F : Nat → Int) (A : Nat → Nat → Int) (E : Nat → Nat) (tl : va_W) (S : Nat → Int) (nm : Nat → Nat) (hSh : ShW g ad F A E tl S nm) (hI : InvD S) (i : Int) (hin : 0 ≤ i ∧ i < S 0) : MroI l g yX8_mayBe cX8_mayBe 5 6 [.ref (ad 3), .int (iI i)] (fun H => va_P g.1 vwCl (CW g ad F A E tl) H) (iI (setB (mayS S i) 4)) := by
  refine ro_startI (own := RX8) (by decide) rfl (Nat.le_of_ble_eq_true rfl) ?_
  intro Pg Ev s Mi args below Mt Cd ls Q hC hK hE hP hl hQ
  have hSh0 := hSh
  obtain ⟨hTp, hCd, hNs, hWh, hRw, hSn, hPl, hBk, hMp⟩ := hSh0
  have hNm := hNs.2.2
  have hD0 := hI.1
  have hNs0 := hNs.1
  have hl : lv_has ls 5 [(0, .ref (ad 3)), (1, .int (iI i))] := hl
  refine li_aload_n hC hl 0 rfl dX8_mayBe_0 ?_
  refine li_iload_n hC hl 1 rfl dX8_mayBe_1 ?_
  refine ro_callVq hC (c_X8_name l g ad F A E tl S nm hSh hI i (rg (by omega) (by omega))) mk_X8_name ml_X8_91 (rr (by decide)) ⟨Nat.zero_le _, Nat.zero_le _⟩ hK hE hP (li_recv hK ck_X8 (hP 3 _ rfl)) rfl hl.1 rfl (Nat.le_of_ble_eq_true rfl) dX8_mayBe_2 ?_
  rw [iteP_t (by omega), show va_rf (some (nm i.toNat)) = .ref (nm i.toNat) from rfl]
  have q2 := hI.2 i (by omega) (by omega)
  refine li_astore_n hC (lv' := [(2, .ref (nm i.toNat)), (0, .ref (ad 3)), (1, .int (iI i))]) hl (by decide) rfl dX8_mayBe_5 (fun ls hl => ?_)
  refine li_aload_n hC hl 0 rfl dX8_mayBe_6 ?_
  refine li_ifnonnull (tgt := 12) hC (by decide) dX8_mayBe_7 ?_
  refine li_iconst hC dX8_mayBe_12 ?_
  refine li_istore_n hC (lv' := [(3, .int (iI 0)), (2, .ref (nm i.toNat)), (0, .ref (ad 3)), (1, .int (iI i))]) hl (by decide) rfl dX8_mayBe_13 (fun ls hl => ?_)
  refine li_iconst hC dX8_mayBe_14 ?_
  refine li_istore hC (lv' := [(4, .int (iI 0)), (3, .int (iI 0)), (2, .ref (nm i.toNat)), (0, .ref (ad 3)), (1, .int (iI i))]) hl (by decide) rfl dX8_mayBe_15 (fun ls hl => ?_)
  have L17_3 : ∀ (fuel : Nat) (p : Int) (z : Int) (ls : Array Slot), lv_has ls 5 [(2, .ref (nm i.toNat)), (0, .ref (ad 3)), (1, .int (iI i)), (3, .int (iI z)), (4, .int (iI p))] → (0 ≤ p ∧ p ≤ 4) → (z = setB (fun p => 0 < S ((49 + (4 * i)) + p).toNat) p.toNat) → (((4 : Int) - p).toNat) < fuel → W Pg l Ev (rmC 6 0 0) s Mi args below Mt Cd s.heap [] 0 0 Q (F0 Mi 17 ls []) := by
    intro fuel
    induction fuel with
    | zero => intro p z ls hl hp hz hm; exact absurd hm (Nat.not_lt_zero _)
    | succ fuel ih17 =>
      intro p z ls hl hp hz hm
      have hrg := hI.2 i (by omega) (by omega)
      refine li_iload hC hl 4 rfl dX8_mayBe_17 ?_
      refine li_iconst hC dX8_mayBe_19 ?_
      refine li_icmp_ge (tgt := 52) hC (by decide) (rg (by omega) (by omega)) (rg (by decide) (by decide)) dX8_mayBe_20 (fun c4 => ?_) (fun c4 => ?_)
      · refine li_aload_n hC hl 0 rfl dX8_mayBe_52 ?_
        refine li_iload_n hC hl 3 rfl dX8_mayBe_53 ?_
        refine v_mayBe hC hK hE (nm_at hP hNm hI (i := i) (by omega)) (told := z)  ml_X8_104 (rr (by decide)) ⟨Nat.zero_le _, Nat.zero_le _⟩ hl.1 rfl (Nat.le_of_ble_eq_true rfl) dX8_mayBe_54 ?_
        exact hQ _ _ _ dX8_mayBe_57 (iI_inj (by rw [hz, show p = 4 by omega]; exact mayK_set (hI.2 i hin.1 hin.2).1))
      · have hrp := hrg.2.2.2.2.2.2 p (by omega) (by omega)
        refine li_aload_n hC hl 1 rfl dX8_mayBe_23 ?_
        refine li_get hC hK ck_X8 (hP 3 _ rfl) 4 (by decide) fl_X8_33 rfl (v := .ref (ad 11)) rfl dX8_mayBe_24 ?_
        refine li_iload_n hC hl 2 rfl dX8_mayBe_27 ?_
        refine li_iconst hC dX8_mayBe_28 ?_
        refine li_imul hC dX8_mayBe_29 ?_
        refine li_iload hC hl 4 rfl dX8_mayBe_30 ?_
        refine li_iadd hC dX8_mayBe_32 ?_
        refine ro_callVi hC (c_X6_get l g (ws := CW g ad F A E tl) (i := 11) (j := 12) (a := (ad 11)) (b := (ad 12)) (n := 28) (f := (A 12)) (sz := F 11) rfl rfl (Nat.le_of_ble_eq_true rfl) (k := (i * 4) + p) ⟨by omega, by omega⟩) mk_X6_get ml_X8_101 (rr (by decide)) ⟨Nat.zero_le _, Nat.zero_le _⟩ hK hE hP (li_recv hK ck_X6 (hP 11 _ rfl)) rfl hl.1 rfl (Nat.le_of_ble_eq_true rfl) dX8_mayBe_33 ?_
        rw [hRw i p (by omega) (by omega) (by omega) (by omega), if_pos (by omega)]
        refine li_if_le (tgt := 46) hC (by decide) (rg (by omega) (by omega)) dX8_mayBe_36 (fun c5 => ?_) (fun c5 => ?_)
        · refine li_iinc hC (lv' := [(4, .int (iI (p + 1))), (2, .ref (nm i.toNat)), (0, .ref (ad 3)), (1, .int (iI i)), (3, .int (iI z))]) hl 4 rfl (by decide) rfl dX8_mayBe_46 (fun ls hl => ?_)
          refine li_goto (tgt := 17) hC (by decide) dX8_mayBe_49 ?_
          exact ih17 (p + 1) z _ (lv_sub hl [1, 2, 3, 4, 0] rfl) (by omega) (by rw [hz]; exact setB_f (P := (fun p => 0 < S ((49 + (4 * i)) + p).toNat)) hp.1 (by omega)) (by omega)
        · refine li_iload_n hC hl 3 rfl dX8_mayBe_39 ?_
          refine li_iconst hC dX8_mayBe_40 ?_
          refine li_iload hC hl 4 rfl dX8_mayBe_41 ?_
          refine li_ishl hC dX8_mayBe_43 ?_
          refine li_ior hC dX8_mayBe_44 ?_
          refine li_istore_n hC (lv' := [(3, .int (iI (ior z (ishl 1 p)))), (2, .ref (nm i.toNat)), (0, .ref (ad 3)), (1, .int (iI i)), (4, .int (iI p))]) hl (by decide) rfl dX8_mayBe_45 (fun ls hl => ?_)
          refine li_iinc hC (lv' := [(4, .int (iI (p + 1))), (3, .int (iI (ior z (ishl 1 p)))), (2, .ref (nm i.toNat)), (0, .ref (ad 3)), (1, .int (iI i))]) hl 4 rfl (by decide) rfl dX8_mayBe_46 (fun ls hl => ?_)
          refine li_goto (tgt := 17) hC (by decide) dX8_mayBe_49 ?_
          exact ih17 (p + 1) (ior z (ishl 1 p)) _ (lv_sub hl [2, 3, 4, 1, 0] rfl) (by omega) (by rw [hz]; exact setB_t (P := (fun p => 0 < S ((49 + (4 * i)) + p).toNat)) hp.1 (by omega) (by omega)) (by omega)
  exact L17_3 ((((4 : Int) - 0).toNat) + 1) 0 0 _ (lv_sub hl [2, 3, 4, 1, 0] rfl) (by omega) (by rfl) (by omega)
set_option maxHeartbeats 4000000 in
set_option maxRecDepth 100000 in
theorem c_X8_isOnSheet (l : Launch) (g : GG) (q : Nat) (tr : Nat) (kd : Int) (i : Int) (v : Int) (lt : Int) (cl : Int) (r : Int) (p0 : Int) (w : Int) (hp : 0 ≤ p0 ∧ p0 ≤ 4) (hw : 10 ≤ w ∧ w ≤ 30) (hv : 0 ≤ v ∧ v ≤ 9) (hlt : 1 ≤ lt ∧ lt ≤ 9) (hcl : 0 ≤ cl ∧ cl ≤ 29) (hrr : 0 ≤ r ∧ r ≤ 11) : MroZ l g yX8_isOnSheet cX8_isOnSheet 6 3 [.ref q, .int (iI p0), .int (iI w)] (fun H => nmAt g q kd tr i v lt cl r H) (iI (b2 ((0 ≤ lineN r p0 ∧ lineN r p0 < 12) ∧ (0 ≤ startN cl p0 (lenK kd v lt) ∧ startN cl p0 (lenK kd v lt) + lenK kd v lt ≤ w)))) := by
  refine ro_startZ (own := RX8) (by decide) rfl (Nat.le_of_ble_eq_true rfl) ?_
  intro Pg Ev s Mi args below Mt Cd ls Q hC hK hE hP hl hQ
  have hl : lv_has ls 6 [(0, .ref q), (1, .int (iI p0)), (2, .int (iI w))] := hl
  have q91 := lenK_rng (k := kd) (v := v) (l := lt) (by omega) (by omega)
  have q92 : -14 ≤ startN cl p0 (lenK kd v lt) ∧ startN cl p0 (lenK kd v lt) ≤ 30 := by unfold startN; (repeat' split) <;> omega
  refine li_lconst hC (z := 1) rfl dX8_isOnSheet_0 ?_
  refine li_iload_n hC hl 2 rfl dX8_isOnSheet_1 ?_
  refine li_lshl hC dX8_isOnSheet_2 ?_
  refine li_lconst hC (z := 1) rfl dX8_isOnSheet_3 ?_
  refine li_lsub hC dX8_isOnSheet_4 ?_
  refine li_bipush hC (z := 14) rfl dX8_isOnSheet_5 ?_
  refine li_lshl hC dX8_isOnSheet_7 ?_
  refine li_lstore_n hC (lv' := [(3, .long (jI (jshl ((jshl 1 w) - 1) 14))), (0, .ref q), (1, .int (iI p0)), (2, .int (iI w))]) hl (by decide) rfl dX8_isOnSheet_8 (fun ls hl => ?_)
  refine li_aload_n hC hl 1 rfl dX8_isOnSheet_9 ?_
  refine li_iload_n hC hl 2 rfl dX8_isOnSheet_10 ?_
  refine v_lineAt hC hK hE hP (p0 := p0) (by omega) (by omega) ml_X8_116 (rr (by decide)) ⟨Nat.zero_le _, Nat.zero_le _⟩ hl.1 rfl (Nat.le_of_ble_eq_true rfl) dX8_isOnSheet_11 ?_
  have q1 : -1 ≤ lineN r p0 ∧ lineN r p0 ≤ 12 := by unfold lineN; (repeat' split) <;> omega
  refine li_istore hC (lv' := [(5, .int (iI (lineN r p0))), (3, .long (jI (jshl ((jshl 1 w) - 1) 14))), (0, .ref q), (1, .int (iI p0)), (2, .int (iI w))]) hl (by decide) rfl dX8_isOnSheet_14 (fun ls hl => ?_)
  refine li_iload hC hl 0 rfl dX8_isOnSheet_16 ?_
  refine li_if_lt (tgt := 52) hC (by decide) (rg (by omega) (by omega)) dX8_isOnSheet_18 (fun c2 => ?_) (fun c2 => ?_)
  · refine li_iconst hC dX8_isOnSheet_52 ?_
    exact hQ _ _ _ dX8_isOnSheet_53 (Or.inl rfl) (iI_inj ((b2_f (by have hb : (jand (mskI (startN cl p0 (lenK kd v lt) - (-14)) (lenK kd v lt)) (jxor (jshl (jshl 1 w - 1) 14) (-1)) = 0) ↔ (14 ≤ startN cl p0 (lenK kd v lt) - (-14) ∧ startN cl p0 (lenK kd v lt) - (-14) + lenK kd v lt ≤ 14 + w) := msk_sub (by omega) (by omega) (by omega); omega)).symm))
  · refine li_iload hC hl 0 rfl dX8_isOnSheet_21 ?_
    refine li_bipush hC (z := 12) rfl dX8_isOnSheet_23 ?_
    refine li_icmp_ge (tgt := 52) hC (by decide) (rg (by omega) (by omega)) (rg (by decide) (by decide)) dX8_isOnSheet_25 (fun c3 => ?_) (fun c3 => ?_)
    · refine li_iconst hC dX8_isOnSheet_52 ?_
      exact hQ _ _ _ dX8_isOnSheet_53 (Or.inl rfl) (iI_inj ((b2_f (by have hb : (jand (mskI (startN cl p0 (lenK kd v lt) - (-14)) (lenK kd v lt)) (jxor (jshl (jshl 1 w - 1) 14) (-1)) = 0) ↔ (14 ≤ startN cl p0 (lenK kd v lt) - (-14) ∧ startN cl p0 (lenK kd v lt) - (-14) + lenK kd v lt ≤ 14 + w) := msk_sub (by omega) (by omega) (by omega); omega)).symm))
    · refine li_aload_n hC hl 2 rfl dX8_isOnSheet_28 ?_
      refine li_iload_n hC hl 3 rfl dX8_isOnSheet_29 ?_
      refine li_aload_n hC hl 2 rfl dX8_isOnSheet_30 ?_
      refine li_getN2 hC hK hP fl_X8_119 dX8_isOnSheet_31 ?_
      refine v_cells hC hK hE hP (p0 := p0) (z := v) (by omega) (by omega) (by omega) (by omega) ml_X8_122 (rr (by decide)) ⟨Nat.zero_le _, Nat.zero_le _⟩ hl.1 rfl (Nat.le_of_ble_eq_true rfl) dX8_isOnSheet_34 ?_
      have q4 := lenK_rng (k := kd) (v := v) (l := lt) (by omega) (by omega)
      have q5 : -14 ≤ startN cl p0 (lenK kd v lt) ∧ startN cl p0 (lenK kd v lt) ≤ 30 := by unfold startN; (repeat' split) <;> omega
      refine li_lload_n hC hl 1 rfl dX8_isOnSheet_37 ?_
      refine li_ldc2 hC (z := -1) kl_X8_126 rfl dX8_isOnSheet_38 ?_
      refine li_lxor hC dX8_isOnSheet_41 ?_
      refine li_land hC dX8_isOnSheet_42 ?_
      refine li_lconst hC (z := 0) rfl dX8_isOnSheet_43 ?_
      refine li_lcmp hC (rngL_of _) (rgL (by decide) (by decide)) dX8_isOnSheet_44 ?_
      have q6 := cmpS_f (jand (mskI (startN cl p0 (lenK kd v lt) - (-14)) (lenK kd v lt)) (jxor (jshl ((jshl 1 w) - 1) 14) (-1))) 0
      refine li_if_ne (tgt := 52) hC (by decide) (rg (by omega) (by omega)) dX8_isOnSheet_45 (fun c7 => ?_) (fun c7 => ?_)
      · refine li_iconst hC dX8_isOnSheet_52 ?_
        exact hQ _ _ _ dX8_isOnSheet_53 (Or.inl rfl) (iI_inj ((b2_f (by have hb : (jand (mskI (startN cl p0 (lenK kd v lt) - (-14)) (lenK kd v lt)) (jxor (jshl (jshl 1 w - 1) 14) (-1)) = 0) ↔ (14 ≤ startN cl p0 (lenK kd v lt) - (-14) ∧ startN cl p0 (lenK kd v lt) - (-14) + lenK kd v lt ≤ 14 + w) := msk_sub (by omega) (by omega) (by omega); omega)).symm))
      · refine li_iconst hC dX8_isOnSheet_48 ?_
        refine li_goto (tgt := 53) hC (by decide) dX8_isOnSheet_49 ?_
        exact hQ _ _ _ dX8_isOnSheet_53 (Or.inr rfl) (iI_inj ((b2_t (by have hb : (jand (mskI (startN cl p0 (lenK kd v lt) - (-14)) (lenK kd v lt)) (jxor (jshl (jshl 1 w - 1) 14) (-1)) = 0) ↔ (14 ≤ startN cl p0 (lenK kd v lt) - (-14) ∧ startN cl p0 (lenK kd v lt) - (-14) + lenK kd v lt ≤ 14 + w) := msk_sub (by omega) (by omega) (by omega); omega)).symm))
set_option maxHeartbeats 4000000 in
set_option maxRecDepth 100000 in
theorem c_X8_isOverDot (l : Launch) (g : GG) (ad : Nat → Nat) (F : Nat → Int) (A : Nat → Nat → Int) (E : Nat → Nat) (tl : va_W) (S : Nat → Int) (nm : Nat → Nat) (hSh : ShW g ad F A E tl S nm) (hI : InvD S) (i : Int) (p : Int) (hin : 0 ≤ i ∧ i < S 0) (hp : 0 ≤ p ∧ p ≤ 3) : MroZ l g yX8_isOverDot cX8_isOverDot 5 6 [.ref (ad 3), .ref (nm i.toNat), .int (iI p)] (fun H => va_P g.1 vwCl (CW g ad F A E tl) H) (iI (b2 (exB (fun d => isAtS S i p (S (28 + d).toNat) (S (35 + d).toNat)) (S 0)))) := by
  refine ro_startZ (own := RX8) (by decide) rfl (Nat.le_of_ble_eq_true rfl) ?_
  intro Pg Ev s Mi args below Mt Cd ls Q hC hK hE hP hl hQ
  have hSh0 := hSh
  obtain ⟨hTp, hCd, hNs, hWh, hRw, hSn, hPl, hBk, hMp⟩ := hSh0
  have hNm := hNs.2.2
  have hD0 := hI.1
  have hNs0 := hNs.1
  have hl : lv_has ls 5 [(0, .ref (ad 3)), (1, .ref (nm i.toNat)), (2, .int (iI p))] := hl
  have q2 := hI.2 i (by omega) (by omega)
  refine li_iconst hC dX8_isOverDot_0 ?_
  refine li_istore_n hC (lv' := [(3, .int (iI 0)), (0, .ref (ad 3)), (1, .ref (nm i.toNat)), (2, .int (iI p))]) hl (by decide) rfl dX8_isOverDot_1 (fun ls hl => ?_)
  have L2_3 : ∀ (fuel : Nat) (d : Int) (ls : Array Slot), lv_has ls 5 [(0, .ref (ad 3)), (1, .ref (nm i.toNat)), (2, .int (iI p)), (3, .int (iI d))] → (0 ≤ d ∧ d ≤ S 0) → (¬ exB (fun d => isAtS S i p (S (28 + d).toNat) (S (35 + d).toNat)) d) → ((S 0 - d).toNat) < fuel → W Pg l Ev (rmC 6 0 0) s Mi args below Mt Cd s.heap [] 0 0 Q (F0 Mi 2 ls []) := by
    intro fuel
    induction fuel with
    | zero => intro d ls hl hd hz hm; exact absurd hm (Nat.not_lt_zero _)
    | succ fuel ih2 =>
      intro d ls hl hd hz hm
      refine li_iload_n hC hl 3 rfl dX8_isOverDot_2 ?_
      refine li_aload_n hC hl 0 rfl dX8_isOverDot_3 ?_
      refine ro_callVi hC (c_X8_dots l g ad F A E tl S nm hSh hI) mk_X8_dots ml_X8_88 (rr (by decide)) ⟨Nat.le_of_ble_eq_true rfl, Nat.le_of_ble_eq_true rfl⟩ hK hE hP (li_recv hK ck_X8 (hP 3 _ rfl)) rfl hl.1 rfl (Nat.le_of_ble_eq_true rfl) dX8_isOverDot_4 ?_
      refine li_icmp_ge (tgt := 52) hC (by decide) (rg (by omega) (by omega)) (rg (by omega) (by omega)) dX8_isOverDot_7 (fun c4 => ?_) (fun c4 => ?_)
      · refine li_iconst hC dX8_isOverDot_52 ?_
        exact hQ _ _ _ dX8_isOverDot_53 (Or.inl rfl) (iI_inj ((b2_f (by rw [show S 0 = d by omega]; exact hz)).symm))
      · refine li_aload_n hC hl 0 rfl dX8_isOverDot_10 ?_
        refine li_iload_n hC hl 3 rfl dX8_isOverDot_11 ?_
        refine ro_callVq hC (c_X8_name l g ad F A E tl S nm hSh hI d (rg (by omega) (by omega))) mk_X8_name ml_X8_91 (rr (by decide)) ⟨Nat.zero_le _, Nat.zero_le _⟩ hK hE hP (li_recv hK ck_X8 (hP 3 _ rfl)) rfl hl.1 rfl (Nat.le_of_ble_eq_true rfl) dX8_isOverDot_12 ?_
        rw [iteP_t (by omega), show va_rf (some (nm d.toNat)) = .ref (nm d.toNat) from rfl]
        have q6 := hI.2 d (by omega) (by omega)
        refine li_astore hC (lv' := [(4, .ref (nm d.toNat)), (0, .ref (ad 3)), (1, .ref (nm i.toNat)), (2, .int (iI p)), (3, .int (iI d))]) hl (by decide) rfl dX8_isOverDot_15 (fun ls hl => ?_)
        refine li_aload hC hl 0 rfl dX8_isOverDot_17 ?_
        refine li_ifnull hC dX8_isOverDot_19 ?_
        refine li_aload_n hC hl 2 rfl dX8_isOverDot_22 ?_
        refine li_iload_n hC hl 3 rfl dX8_isOverDot_23 ?_
        refine li_aload_n hC hl 2 rfl dX8_isOverDot_24 ?_
        refine li_getN2 hC hK (nm_at hP hNm hI (i := i) (by omega)) fl_X8_119 dX8_isOverDot_25 ?_
        refine li_aload hC hl 0 rfl dX8_isOverDot_28 ?_
        refine li_getN4 hC hK (nm_at hP hNm hI (i := d) (by omega)) fl_X8_95 dX8_isOverDot_30 ?_
        refine li_aload hC hl 0 rfl dX8_isOverDot_33 ?_
        refine li_getN5 hC hK (nm_at hP hNm hI (i := d) (by omega)) fl_X8_98 dX8_isOverDot_35 ?_
        refine v_covers hC hK hE (nm_at hP hNm hI (i := i) (by omega)) (p0 := p) (z := S (14 + i).toNat) (co := S (28 + d).toNat) (li := S (35 + d).toNat) (by omega) (by omega) (by omega) (by omega) (by omega) (by omega) (by omega) ml_X8_128 (rr (by decide)) ⟨Nat.zero_le _, Nat.zero_le _⟩ hl.1 rfl (Nat.le_of_ble_eq_true rfl) dX8_isOverDot_38 ?_
        refine li_ifeq_b (tgt := 46) hC (by decide) dX8_isOverDot_41 (fun c7 => ?_) (fun c7 => ?_)
        · refine li_iinc hC (lv' := [(3, .int (iI (d + 1))), (4, .ref (nm d.toNat)), (0, .ref (ad 3)), (1, .ref (nm i.toNat)), (2, .int (iI p))]) hl 4 rfl (by decide) rfl dX8_isOverDot_46 (fun ls hl => ?_)
          refine li_goto (tgt := 2) hC (by decide) dX8_isOverDot_49 ?_
          exact ih2 (d + 1) _ (lv_sub hl [2, 3, 4, 0] rfl) (by omega) (by exact fun h9 => ((exB_s (P := (fun d => isAtS S i p (S (28 + d).toNat) (S (35 + d).toNat))) hd.1).mp h9).elim hz (fun h8 => absurd ((cov_eq S (by omega)).mpr h8) (by assumption))) (by omega)
        · refine li_iconst hC dX8_isOverDot_44 ?_
          exact hQ _ _ _ dX8_isOverDot_45 (Or.inr rfl) (iI_inj ((b2_t (by exact exB_le (by omega) ((exB_s (P := (fun d => isAtS S i p (S (28 + d).toNat) (S (35 + d).toNat))) hd.1).mpr (Or.inr ((cov_eq S (by omega)).mp (by assumption)))))).symm))
  exact L2_3 (((S 0 - 0).toNat) + 1) 0 _ (lv_sub hl [1, 2, 3, 0] rfl) (by omega) (by exact exB_0 _) (by omega)
set_option maxHeartbeats 4000000 in
set_option maxRecDepth 100000 in
theorem c_X8_fitting (l : Launch) (g : GG) (ad : Nat → Nat) (F : Nat → Int) (A : Nat → Nat → Int) (E : Nat → Nat) (tl : va_W) (S : Nat → Int) (nm : Nat → Nat) (hSh : ShW g ad F A E tl S nm) (hI : InvD S) (i : Int) (w : Int) (hin : 0 ≤ i ∧ i < S 0) (hw : 10 ≤ w ∧ w ≤ 30) : MroI l g yX8_fitting cX8_fitting 6 7 [.ref (ad 3), .int (iI i), .int (iI w)] (fun H => va_P g.1 vwCl (CW g ad F A E tl) H) (iI (setB (fun p => fitsS S i p w) 4)) := by
  refine ro_startI (own := RX8) (by decide) rfl (Nat.le_of_ble_eq_true rfl) ?_
  intro Pg Ev s Mi args below Mt Cd ls Q hC hK hE hP hl hQ
  have hSh0 := hSh
  obtain ⟨hTp, hCd, hNs, hWh, hRw, hSn, hPl, hBk, hMp⟩ := hSh0
  have hNm := hNs.2.2
  have hD0 := hI.1
  have hNs0 := hNs.1
  have hl : lv_has ls 6 [(0, .ref (ad 3)), (1, .int (iI i)), (2, .int (iI w))] := hl
  refine li_aload_n hC hl 0 rfl dX8_fitting_0 ?_
  refine li_iload_n hC hl 1 rfl dX8_fitting_1 ?_
  refine ro_callVq hC (c_X8_name l g ad F A E tl S nm hSh hI i (rg (by omega) (by omega))) mk_X8_name ml_X8_91 (rr (by decide)) ⟨Nat.zero_le _, Nat.zero_le _⟩ hK hE hP (li_recv hK ck_X8 (hP 3 _ rfl)) rfl hl.1 rfl (Nat.le_of_ble_eq_true rfl) dX8_fitting_2 ?_
  rw [iteP_t (by omega), show va_rf (some (nm i.toNat)) = .ref (nm i.toNat) from rfl]
  have q2 := hI.2 i (by omega) (by omega)
  refine li_astore_n hC (lv' := [(3, .ref (nm i.toNat)), (0, .ref (ad 3)), (1, .int (iI i)), (2, .int (iI w))]) hl (by decide) rfl dX8_fitting_5 (fun ls hl => ?_)
  refine li_aload_n hC hl 0 rfl dX8_fitting_6 ?_
  refine li_ifnonnull (tgt := 12) hC (by decide) dX8_fitting_7 ?_
  refine li_aload_n hC hl 1 rfl dX8_fitting_12 ?_
  refine li_iload_n hC hl 2 rfl dX8_fitting_13 ?_
  refine ro_callVi hC (c_X8_mayBe l g ad F A E tl S nm hSh hI i (by omega)) mk_X8_mayBe ml_X8_107 (rr (by decide)) ⟨Nat.le_of_ble_eq_true rfl, Nat.le_of_ble_eq_true rfl⟩ hK hE hP (li_recv hK ck_X8 (hP 3 _ rfl)) rfl hl.1 rfl (Nat.le_of_ble_eq_true rfl) dX8_fitting_14 ?_
  refine li_istore hC (lv' := [(4, .int (iI (setB (mayS S i) 4))), (3, .ref (nm i.toNat)), (0, .ref (ad 3)), (1, .int (iI i)), (2, .int (iI w))]) hl (by decide) rfl dX8_fitting_17 (fun ls hl => ?_)
  refine li_iconst hC dX8_fitting_19 ?_
  refine li_istore hC (lv' := [(5, .int (iI 0)), (4, .int (iI (setB (mayS S i) 4))), (3, .ref (nm i.toNat)), (0, .ref (ad 3)), (1, .int (iI i)), (2, .int (iI w))]) hl (by decide) rfl dX8_fitting_20 (fun ls hl => ?_)
  have L22_3 : ∀ (fuel : Nat) (p : Int) (z : Int) (ls : Array Slot), lv_has ls 6 [(3, .ref (nm i.toNat)), (0, .ref (ad 3)), (1, .int (iI i)), (2, .int (iI w)), (4, .int (iI z)), (5, .int (iI p))] → (0 ≤ p ∧ p ≤ 4) → (z = setB (fun j => mayS S i j ∧ (j < p → (fun j => (0 ≤ rowS S i j ∧ rowS S i j ≤ 11) ∧ 0 ≤ firstS S i j ∧ firstS S i j + lenS S i ≤ w ∧ ¬ exB (fun d => isAtS S i j (S (28 + d).toNat) (S (35 + d).toNat)) (S 0)) j)) 4) → (((4 : Int) - p).toNat) < fuel → W Pg l Ev (rmC 7 0 0) s Mi args below Mt Cd s.heap [] 0 0 Q (F0 Mi 22 ls []) := by
    intro fuel
    induction fuel with
    | zero => intro p z ls hl hp hz hm; exact absurd hm (Nat.not_lt_zero _)
    | succ fuel ih22 =>
      intro p z ls hl hp hz hm
      refine li_iload hC hl 5 rfl dX8_fitting_22 ?_
      refine li_iconst hC dX8_fitting_24 ?_
      refine li_icmp_ge (tgt := 65) hC (by decide) (rg (by omega) (by omega)) (rg (by decide) (by decide)) dX8_fitting_25 (fun c4 => ?_) (fun c4 => ?_)
      · refine li_iload hC hl 4 rfl dX8_fitting_65 ?_
        exact hQ _ _ _ dX8_fitting_67 (iI_inj (by rw [hz]; refine setB_ext (fun j h0 h1 => ?_); unfold fitsS; constructor; { intro h9; have h8 := h9.2 (by omega); exact ⟨⟨h9.1, h8.1, h8.2.1, h8.2.2.1⟩, fun d hd0 hd1 h7 => h8.2.2.2 ⟨d, hd0, hd1, h7⟩⟩ }; { intro h9; exact ⟨h9.1.1, fun _ => ⟨h9.1.2.1, h9.1.2.2.1, h9.1.2.2.2, fun h7 => by obtain ⟨d, h5, h6, h8⟩ := h7; exact h9.2 d h5 h6 h8⟩⟩ }))
      · refine li_aload_n hC hl 0 rfl dX8_fitting_28 ?_
        refine li_iload hC hl 5 rfl dX8_fitting_29 ?_
        refine li_iload_n hC hl 3 rfl dX8_fitting_31 ?_
        refine ro_callSi hC (c_X8_isOnSheet l g (nm i.toNat) (ad 1) (S (7 + i).toNat) i (S (14 + i).toNat) (S (21 + i).toNat) (S (28 + i).toNat) (S (35 + i).toNat) p w (by omega) (by omega) (by omega) (by omega) (by omega) (by omega)) mk_X8_isOnSheet ml_X8_108 (rr (by decide)) ⟨Nat.le_of_ble_eq_true rfl, Nat.le_of_ble_eq_true rfl⟩ hK hE (nm_at hP hNm hI (i := i) (by omega)) rfl hl.1 rfl (Nat.le_of_ble_eq_true rfl) dX8_fitting_32 ?_
        refine li_ifeq_b (tgt := 48) hC (by decide) dX8_fitting_35 (fun c5 => ?_) (fun c5 => ?_)
        · refine li_iload hC hl 4 rfl dX8_fitting_48 ?_
          refine li_iconst hC dX8_fitting_50 ?_
          refine li_iload hC hl 5 rfl dX8_fitting_51 ?_
          refine li_ishl hC dX8_fitting_53 ?_
          refine li_iconst hC dX8_fitting_54 ?_
          refine li_ixor hC dX8_fitting_55 ?_
          refine li_iand hC dX8_fitting_56 ?_
          refine li_istore hC (lv' := [(4, .int (iI (iand z (ixor (ishl 1 p) (-1))))), (3, .ref (nm i.toNat)), (0, .ref (ad 3)), (1, .int (iI i)), (2, .int (iI w)), (5, .int (iI p))]) hl (by decide) rfl dX8_fitting_57 (fun ls hl => ?_)
          refine li_iinc hC (lv' := [(5, .int (iI (p + 1))), (4, .int (iI (iand z (ixor (ishl 1 p) (-1))))), (3, .ref (nm i.toNat)), (0, .ref (ad 3)), (1, .int (iI i)), (2, .int (iI w))]) hl 5 rfl (by decide) rfl dX8_fitting_59 (fun ls hl => ?_)
          refine li_goto (tgt := 22) hC (by decide) dX8_fitting_62 ?_
          exact ih22 (p + 1) (iand z (ixor (ishl 1 p) (-1))) _ (lv_sub hl [2, 3, 4, 5, 1, 0] rfl) (by omega) (by have hno : ¬ (fun j => (0 ≤ rowS S i j ∧ rowS S i j ≤ 11) ∧ 0 ≤ firstS S i j ∧ firstS S i j + lenS S i ≤ w ∧ ¬ exB (fun d => isAtS S i j (S (28 + d).toNat) (S (35 + d).toNat)) (S 0)) p := (by intro h7; have e1 := first_eq S i p; have e2 := line_eq S i p; have e3 : lenS S i = lenK (S (7 + i).toNat) (S (14 + i).toNat) (S (21 + i).toNat) := rfl; first | exact h7.2.2.2 (by assumption) | (have h6 := h7.1; have h5 := h7.2.1; have h4 := h7.2.2.1; omega)); rw [hz, clrB (by decide) (by omega)]; refine setB_ext (fun j h0 h1 => ?_); constructor; { intro h9; exact ⟨h9.1.1, fun h8 => h9.1.2 (by omega)⟩ }; { intro h9; have hne : j ≠ p := (by intro h3; subst h3; exact hno (h9.2 (by omega))); exact ⟨⟨h9.1, fun h8 => h9.2 (by omega)⟩, hne⟩ }) (by omega)
        · refine li_aload_n hC hl 1 rfl dX8_fitting_38 ?_
          refine li_aload_n hC hl 0 rfl dX8_fitting_39 ?_
          refine li_iload hC hl 5 rfl dX8_fitting_40 ?_
          refine ro_callVi hC (c_X8_isOverDot l g ad F A E tl S nm hSh hI i p (by omega) (by omega)) mk_X8_isOverDot ml_X8_112 (rr (by decide)) ⟨Nat.le_of_ble_eq_true rfl, Nat.le_of_ble_eq_true rfl⟩ hK hE hP (li_recv hK ck_X8 (hP 3 _ rfl)) rfl hl.1 rfl (Nat.le_of_ble_eq_true rfl) dX8_fitting_42 ?_
          refine li_ifeq_b (tgt := 59) hC (by decide) dX8_fitting_45 (fun c6 => ?_) (fun c6 => ?_)
          · refine li_iinc hC (lv' := [(5, .int (iI (p + 1))), (3, .ref (nm i.toNat)), (0, .ref (ad 3)), (1, .int (iI i)), (2, .int (iI w)), (4, .int (iI z))]) hl 5 rfl (by decide) rfl dX8_fitting_59 (fun ls hl => ?_)
            refine li_goto (tgt := 22) hC (by decide) dX8_fitting_62 ?_
            exact ih22 (p + 1) z _ (lv_sub hl [1, 2, 3, 4, 5, 0] rfl) (by omega) (by rw [hz]; refine setB_ext (fun j h0 h1 => ?_); constructor; { intro h9; refine ⟨h9.1, fun h8 => ?_⟩; rcases (show j < p ∨ j = p by omega) with q9 | rfl; { exact h9.2 q9 }; { have e1 := first_eq S i j; have e2 := line_eq S i j; have e3 : lenS S i = lenK (S (7 + i).toNat) (S (14 + i).toNat) (S (21 + i).toNat) := rfl; refine ⟨by omega, by omega, by omega, by assumption⟩ } }; { intro h9; exact ⟨h9.1, fun h8 => h9.2 (by omega)⟩ }) (by omega)
          · refine li_iload hC hl 4 rfl dX8_fitting_48 ?_
            refine li_iconst hC dX8_fitting_50 ?_
            refine li_iload hC hl 5 rfl dX8_fitting_51 ?_
            refine li_ishl hC dX8_fitting_53 ?_
            refine li_iconst hC dX8_fitting_54 ?_
            refine li_ixor hC dX8_fitting_55 ?_
            refine li_iand hC dX8_fitting_56 ?_
            refine li_istore hC (lv' := [(4, .int (iI (iand z (ixor (ishl 1 p) (-1))))), (3, .ref (nm i.toNat)), (0, .ref (ad 3)), (1, .int (iI i)), (2, .int (iI w)), (5, .int (iI p))]) hl (by decide) rfl dX8_fitting_57 (fun ls hl => ?_)
            refine li_iinc hC (lv' := [(5, .int (iI (p + 1))), (4, .int (iI (iand z (ixor (ishl 1 p) (-1))))), (3, .ref (nm i.toNat)), (0, .ref (ad 3)), (1, .int (iI i)), (2, .int (iI w))]) hl 5 rfl (by decide) rfl dX8_fitting_59 (fun ls hl => ?_)
            refine li_goto (tgt := 22) hC (by decide) dX8_fitting_62 ?_
            exact ih22 (p + 1) (iand z (ixor (ishl 1 p) (-1))) _ (lv_sub hl [2, 3, 4, 5, 1, 0] rfl) (by omega) (by have hno : ¬ (fun j => (0 ≤ rowS S i j ∧ rowS S i j ≤ 11) ∧ 0 ≤ firstS S i j ∧ firstS S i j + lenS S i ≤ w ∧ ¬ exB (fun d => isAtS S i j (S (28 + d).toNat) (S (35 + d).toNat)) (S 0)) p := (by intro h7; have e1 := first_eq S i p; have e2 := line_eq S i p; have e3 : lenS S i = lenK (S (7 + i).toNat) (S (14 + i).toNat) (S (21 + i).toNat) := rfl; first | exact h7.2.2.2 (by assumption) | (have h6 := h7.1; have h5 := h7.2.1; have h4 := h7.2.2.1; omega)); rw [hz, clrB (by decide) (by omega)]; refine setB_ext (fun j h0 h1 => ?_); constructor; { intro h9; exact ⟨h9.1.1, fun h8 => h9.1.2 (by omega)⟩ }; { intro h9; have hne : j ≠ p := (by intro h3; subst h3; exact hno (h9.2 (by omega))); exact ⟨⟨h9.1, fun h8 => h9.2 (by omega)⟩, hne⟩ }) (by omega)
  exact L22_3 ((((4 : Int) - 0).toNat) + 1) 0 (setB (mayS S i) 4) _ (lv_sub hl [2, 3, 4, 5, 1, 0] rfl) (by omega) (by exact setB_ext (fun j h0 h1 => ⟨fun h9 => ⟨h9, fun h8 => absurd h8 (by omega)⟩, fun h9 => h9.1⟩)) (by omega)
