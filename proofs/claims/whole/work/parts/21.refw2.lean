theorem depS_t {f : Nat → Int} {i : Nat} (h : 0 ≤ f i) : depS f (i + 1) = depS f i + 1 := by rw [depS, if_pos h]
theorem depS_n {f : Nat → Int} {i : Nat} (h : f i = -1) : depS f (i + 1) = depS f i := by rw [depS, if_neg (by omega), if_pos h]
theorem depS_b {f : Nat → Int} {i : Nat} (h : -10 < f i) (h2 : f i < -1) : depS f (i + 1) = depS f i - 1 := by rw [depS, if_neg (by omega), if_neg (by omega), if_pos h]
theorem depS_c {f : Nat → Int} {i : Nat} (h : f i ≤ -10) : depS f (i + 1) = 0 := by rw [depS, if_neg (by omega), if_neg (by omega), if_neg (by omega)]
theorem evS_n {x : Int → Int} {f : Nat → Int} {i : Nat} (h : -10 < f i) : evS x f (i + 1) = evS x f i := by rw [evS, if_neg (by omega)]
theorem evS_c {x : Int → Int} {f : Nat → Int} {i : Nat} (h : f i ≤ -10) : evS x f (i + 1) = evS x f i + b2 (evT x f i 0) * gainS (f i) := by rw [evS, if_pos h]
theorem evT_t {x : Int → Int} {f : Nat → Int} {i : Nat} (h : 0 ≤ f i) : evT x f (i + 1) = va_up (evT x f i) (depS f i).toNat (testS x (f i)) := by rw [evT, if_pos h]
theorem evT_n {x : Int → Int} {f : Nat → Int} {i : Nat} (h : f i = -1) : evT x f (i + 1) = va_up (evT x f i) (depS f i - 1).toNat (¬ evT x f i (depS f i - 1).toNat) := by rw [evT, if_neg (by omega), if_pos h]
theorem evT_b {x : Int → Int} {f : Nat → Int} {i : Nat} (h : -10 < f i) (h2 : f i < -1) : evT x f (i + 1) = va_up (evT x f i) (depS f i - 2).toNat (if f i = -2 then evT x f i (depS f i - 2).toNat ∧ evT x f i (depS f i - 1).toNat else evT x f i (depS f i - 2).toNat ∨ evT x f i (depS f i - 1).toNat) := by rw [evT, if_neg (by omega), if_neg (by omega), if_pos h]
theorem tr_up {tr : Nat → Int} {T : Nat → Prop} {top top' : Int} {m : Nat} {z : Int} {P : Prop} (htr : ∀ k : Nat, (k : Int) < top → tr k = b2 (T k)) (h : ∀ k : Nat, (k : Int) < top' → k ≠ m → (k : Int) < top) (hz : z = b2 P) : ∀ k : Nat, (k : Int) < top' → va_up tr m z k = b2 (va_up T m P k) := by
  intro k hk
  by_cases e : k = m
  · subst e
    rw [up_same, up_same, hz]
  · rw [up_ne _ _ e, up_ne _ _ e]
    exact htr k (h k hk e)
theorem tr_t {tr : Nat → Int} {T : Nat → Prop} {top : Int} {k : Nat} (htr : ∀ k : Nat, (k : Int) < top → tr k = b2 (T k)) (h : (k : Int) < top) (hz : tr k ≠ 0) : T k := b2n (htr k h) hz
theorem tr_f {tr : Nat → Int} {T : Nat → Prop} {top : Int} {k : Nat} (htr : ∀ k : Nat, (k : Int) < top → tr k = b2 (T k)) (h : (k : Int) < top) (hz : tr k = 0) : ¬ T k := b2z (htr k h) hz
theorem xS_rng {S : Nat → Int} (hI : InvD S) {n p k : Int} (h : 0 ≤ n ∧ n < S 0) (hp : 0 ≤ p ∧ p ≤ 4) : 0 ≤ xS S n p k ∧ xS S n p k ≤ 29 := by
  have q := hI.2 n h.1 h.2
  have q2 := hI.1
  unfold xS
  split
  · omega
  · split
    · omega
    · split
      · omega
      · split
        · omega
        · split <;> omega
noncomputable def meanS (S : Nat → Int) (part : Int) : Int := iteP ((0 ≤ part ∧ part ≤ 1) ∧ laidS S ≠ 0) (lowS (scoreS S) (laidS S) part) (-9223372036854775808)
noncomputable def toldS (S : Nat → Int) (what : Int) : Int := if what = 0 then wideS S else if what = 1 then riverS S else if what = 2 then laidS S else if what = 3 then scoreS S else if what = 4 then setB (mistS S) (S 0).toNat else if what = 5 then setB (fun n => S (42 + n).toNat ≠ 4) (S 0).toNat else -10001
theorem laidS_rng {S : Nat → Int} (hI : InvD S) : 0 ≤ laidS S ∧ laidS S ≤ 7 := by
  have h := cntB_rng (fun n => S (42 + n).toNat ≠ 4) (S 0).toNat
  have h2 := hI.1
  unfold laidS
  omega
set_option maxHeartbeats 4000000 in
set_option maxRecDepth 100000 in
theorem c_X12_looks (l : Launch) (g : GG) (h0 : Nat) (ad : Nat → Nat) (F : Nat → Int) (A : Nat → Nat → Int) (S : Nat → Int) (hSA : A 1 = S) (n : Int) (p : Int) (hn : 0 ≤ n ∧ n < S 0) (hp : 0 ≤ p ∧ p ≤ 4) (hI : InvD S) (hH : InvH S) (hC0 : InvC S) (sz : Nat) : MwrI l g yX12_looks cX12_looks 12 2 0 0 [.ref h0, .int (iI n), .int (iI p)] sz (RW g h0 ad F A) (fun v w => v = iI (tasteS S n p) ∧ ∃ f9 f10, w = RW g h0 ad F (va_up (va_up A 9 f9) 10 f10)) := by
  subst hSA
  refine wr_startI (own := RX12) (by decide) rfl (Nat.le_of_ble_eq_true rfl) ?_
  intro Pg Ev s Mi args below Mt Cd ls Q Aw hC hK hS hnm hl hQ
  have hD0 := hI.1
  have hH0 := hH.1
  have hl : lv_has ls 12 [(0, .ref h0), (1, .int (iI n)), (2, .int (iI p))] := hl
  obtain ⟨H, hH⟩ : ∃ H, H = s.heap := ⟨_, rfl⟩
  obtain ⟨locs, hlo⟩ : ∃ locs : List Loc, locs = [] := ⟨_, rfl⟩
  have hS : St g Aw s.heap H locs (RW g h0 ad F A) := by rw [hH, hlo]; exact hS
  have goal : W Pg l Ev (rmC 2 0 0) s Mi args below Mt Cd H locs 0 0 Q (F0 Mi 0 ls []) := ?goal
  · rw [hH, hlo] at goal; exact goal
  clear hH hlo
  refine li_aload_n hC hl 0 rfl dX12_looks_0 ?_
  refine li_get hC hK.1 ck_X12 (hS.1 0 _ rfl) 9 (by decide) fl_X12_18 rfl (v := .ref (ad 9)) rfl dX12_looks_1 ?_
  refine li_iconst hC dX12_looks_4 ?_
  refine li_iload_n hC hl 1 rfl dX12_looks_5 ?_
  refine li_iast hC hK hS 3 (n := 6) (f := (A 9)) (z := 0) rfl ⟨by omega, by omega⟩ (by decide) (ws' := RW g h0 ad F (va_up A 9 (va_up (A 9) 0 n))) rfl dX12_looks_6 (fun H locs hS => ?_)
  refine li_aload_n hC hl 0 rfl dX12_looks_7 ?_
  refine li_get hC hK.1 ck_X12 (hS.1 0 _ rfl) 9 (by decide) fl_X12_18 rfl (v := .ref (ad 9)) rfl dX12_looks_8 ?_
  refine li_iconst hC dX12_looks_11 ?_
  refine li_aload_n hC hl 0 rfl dX12_looks_12 ?_
  refine li_get hC hK.1 ck_X12 (hS.1 0 _ rfl) 1 (by decide) fl_X12_9 rfl (v := .ref (ad 1)) rfl dX12_looks_13 ?_
  refine li_bipush hC (z := 7) rfl dX12_looks_16 ?_
  refine li_iload_n hC hl 1 rfl dX12_looks_18 ?_
  refine li_iadd hC dX12_looks_19 ?_
  refine li_iald (f := (A 1)) hC hK.1 (hS.1 1 _ rfl) ⟨by omega, by omega⟩ (by decide) dX12_looks_20 ?_
  have q1 := hI.2 n (by omega) (by omega)
  refine li_iast hC hK hS 3 (n := 6) (f := va_up (A 9) 0 n) (z := 1) rfl ⟨by omega, by omega⟩ (by decide) (ws' := RW g h0 ad F (va_up A 9 (va_up (va_up (A 9) 0 n) 1 ((A 1) ((7 + n).toNat))))) rfl dX12_looks_21 (fun H locs hS => ?_)
  refine li_aload_n hC hl 0 rfl dX12_looks_22 ?_
  refine li_get hC hK.1 ck_X12 (hS.1 0 _ rfl) 9 (by decide) fl_X12_18 rfl (v := .ref (ad 9)) rfl dX12_looks_23 ?_
  refine li_iconst hC dX12_looks_26 ?_
  refine li_aload_n hC hl 0 rfl dX12_looks_27 ?_
  refine li_get hC hK.1 ck_X12 (hS.1 0 _ rfl) 1 (by decide) fl_X12_9 rfl (v := .ref (ad 1)) rfl dX12_looks_28 ?_
  refine li_bipush hC (z := 14) rfl dX12_looks_31 ?_
  refine li_iload_n hC hl 1 rfl dX12_looks_33 ?_
  refine li_iadd hC dX12_looks_34 ?_
  refine li_iald (f := (A 1)) hC hK.1 (hS.1 1 _ rfl) ⟨by omega, by omega⟩ (by decide) dX12_looks_35 ?_
  refine li_iast hC hK hS 3 (n := 6) (f := va_up (va_up (A 9) 0 n) 1 ((A 1) ((7 + n).toNat))) (z := 2) rfl ⟨by omega, by omega⟩ (by decide) (ws' := RW g h0 ad F (va_up A 9 (va_up (va_up (va_up (A 9) 0 n) 1 ((A 1) ((7 + n).toNat))) 2 ((A 1) ((14 + n).toNat))))) rfl dX12_looks_36 (fun H locs hS => ?_)
  refine li_aload_n hC hl 0 rfl dX12_looks_37 ?_
  refine li_get hC hK.1 ck_X12 (hS.1 0 _ rfl) 9 (by decide) fl_X12_18 rfl (v := .ref (ad 9)) rfl dX12_looks_38 ?_
  refine li_iconst hC dX12_looks_41 ?_
  refine li_iload_n hC hl 2 rfl dX12_looks_42 ?_
  refine li_iast hC hK hS 3 (n := 6) (f := va_up (va_up (va_up (A 9) 0 n) 1 ((A 1) ((7 + n).toNat))) 2 ((A 1) ((14 + n).toNat))) (z := 3) rfl ⟨by omega, by omega⟩ (by decide) (ws' := RW g h0 ad F (va_up A 9 (va_up (va_up (va_up (va_up (A 9) 0 n) 1 ((A 1) ((7 + n).toNat))) 2 ((A 1) ((14 + n).toNat))) 3 p))) rfl dX12_looks_43 (fun H locs hS => ?_)
  refine li_aload_n hC hl 0 rfl dX12_looks_44 ?_
  refine li_get hC hK.1 ck_X12 (hS.1 0 _ rfl) 9 (by decide) fl_X12_18 rfl (v := .ref (ad 9)) rfl dX12_looks_45 ?_
  refine li_iconst hC dX12_looks_48 ?_
  refine li_aload_n hC hl 0 rfl dX12_looks_49 ?_
  refine li_get hC hK.1 ck_X12 (hS.1 0 _ rfl) 1 (by decide) fl_X12_9 rfl (v := .ref (ad 1)) rfl dX12_looks_50 ?_
  refine li_bipush hC (z := 28) rfl dX12_looks_53 ?_
  refine li_iload_n hC hl 1 rfl dX12_looks_55 ?_
  refine li_iadd hC dX12_looks_56 ?_
  refine li_iald (f := (A 1)) hC hK.1 (hS.1 1 _ rfl) ⟨by omega, by omega⟩ (by decide) dX12_looks_57 ?_
  refine li_iconst hC dX12_looks_58 ?_
  refine li_idivN hC (by omega) (by omega) (by omega) (by omega) dX12_looks_59 ?_
  refine li_iast hC hK hS 3 (n := 6) (f := va_up (va_up (va_up (va_up (A 9) 0 n) 1 ((A 1) ((7 + n).toNat))) 2 ((A 1) ((14 + n).toNat))) 3 p) (z := 4) rfl ⟨by omega, by omega⟩ (by decide) (ws' := RW g h0 ad F (va_up A 9 (va_up (va_up (va_up (va_up (va_up (A 9) 0 n) 1 ((A 1) ((7 + n).toNat))) 2 ((A 1) ((14 + n).toNat))) 3 p) 4 (((A 1) ((28 + n).toNat)) / 3)))) rfl dX12_looks_60 (fun H locs hS => ?_)
  refine li_aload_n hC hl 0 rfl dX12_looks_61 ?_
  refine li_get hC hK.1 ck_X12 (hS.1 0 _ rfl) 9 (by decide) fl_X12_18 rfl (v := .ref (ad 9)) rfl dX12_looks_62 ?_
  refine li_iconst hC dX12_looks_65 ?_
  refine li_aload_n hC hl 0 rfl dX12_looks_66 ?_
  refine li_get hC hK.1 ck_X12 (hS.1 0 _ rfl) 1 (by decide) fl_X12_9 rfl (v := .ref (ad 1)) rfl dX12_looks_67 ?_
  refine li_bipush hC (z := 21) rfl dX12_looks_70 ?_
  refine li_iload_n hC hl 1 rfl dX12_looks_72 ?_
  refine li_iadd hC dX12_looks_73 ?_
  refine li_iald (f := (A 1)) hC hK.1 (hS.1 1 _ rfl) ⟨by omega, by omega⟩ (by decide) dX12_looks_74 ?_
  refine li_iast hC hK hS 3 (n := 6) (f := va_up (va_up (va_up (va_up (va_up (A 9) 0 n) 1 ((A 1) ((7 + n).toNat))) 2 ((A 1) ((14 + n).toNat))) 3 p) 4 (((A 1) ((28 + n).toNat)) / 3)) (z := 5) rfl ⟨by omega, by omega⟩ (by decide) (ws' := RW g h0 ad F (va_up A 9 (va_up (va_up (va_up (va_up (va_up (va_up (A 9) 0 n) 1 ((A 1) ((7 + n).toNat))) 2 ((A 1) ((14 + n).toNat))) 3 p) 4 (((A 1) ((28 + n).toNat)) / 3)) 5 ((A 1) ((21 + n).toNat))))) rfl dX12_looks_75 (fun H locs hS => ?_)
  refine li_iconst hC dX12_looks_76 ?_
  refine li_istore_n hC (lv' := [(3, .int (iI 0)), (0, .ref h0), (1, .int (iI n)), (2, .int (iI p))]) hl (by decide) rfl dX12_looks_77 (fun ls hl => ?_)
  refine li_aload_n hC hl 1 rfl dX12_looks_78 ?_
  refine li_sipush hC (z := 234) rfl dX12_looks_79 ?_
  refine li_iconst hC dX12_looks_82 ?_
  refine ro_callVi hC (c_X12_tellsOf l g h0 (A 1) 234 0 hH (by omega)) mk_X12_tellsOf ml_X12_138 (rr (by decide)) ⟨Nat.le_of_ble_eq_true rfl, Nat.le_of_ble_eq_true rfl⟩ hK.1 (hS.ro hK) (RW_pic (F := F) (A := va_up A 9 (va_up (va_up (va_up (va_up (va_up (va_up (A 9) 0 n) 1 ((A 1) ((7 + n).toNat))) 2 ((A 1) ((14 + n).toNat))) 3 p) 4 (((A 1) ((28 + n).toNat)) / 3)) 5 ((A 1) ((21 + n).toNat)))) hS) (li_recv hK.1 ck_X12 (hS.1 0 _ rfl)) rfl hl.1 rfl (Nat.le_of_ble_eq_true rfl) dX12_looks_83 ?_
  refine li_istore hC (lv' := [(4, .int (iI (tellsS (A 1) 234 0))), (3, .int (iI 0)), (0, .ref h0), (1, .int (iI n)), (2, .int (iI p))]) hl (by decide) rfl dX12_looks_86 (fun ls hl => ?_)
  refine li_sipush hC (z := 239) rfl dX12_looks_88 ?_
  refine li_sipush hC (z := 140) rfl dX12_looks_91 ?_
  refine li_aload_n hC hl 2 rfl dX12_looks_94 ?_
  refine li_get hC hK.1 ck_X12 (hS.1 0 _ rfl) 1 (by decide) fl_X12_9 rfl (v := .ref (ad 1)) rfl dX12_looks_95 ?_
  refine li_bipush hC (z := 6) rfl dX12_looks_98 ?_
  refine li_iald_k (k := 6) (f := (A 1)) hC hK.1 (hS.1 1 _ rfl) rfl (by decide) (by decide) dX12_looks_100 ?_
  refine li_imul hC dX12_looks_101 ?_
  refine li_iadd hC dX12_looks_102 ?_
  refine li_istore hC (lv' := [(5, .int (iI (239 + (140 * ((A 1) 6))))), (4, .int (iI (tellsS (A 1) 234 0))), (3, .int (iI 0)), (0, .ref h0), (1, .int (iI n)), (2, .int (iI p))]) hl (by decide) rfl dX12_looks_103 (fun ls hl => ?_)
  refine li_iconst hC dX12_looks_105 ?_
  refine li_istore hC (lv' := [(6, .int (iI 0)), (5, .int (iI (239 + (140 * ((A 1) 6))))), (4, .int (iI (tellsS (A 1) 234 0))), (3, .int (iI 0)), (0, .ref h0), (1, .int (iI n)), (2, .int (iI p))]) hl (by decide) rfl dX12_looks_106 (fun ls hl => ?_)
  obtain ⟨f9, hf9⟩ : ∃ f9 : Nat → Int, f9 = va_up (va_up (va_up (va_up (va_up (va_up (A 9) 0 n) 1 ((A 1) ((7 + n).toNat))) 2 ((A 1) ((14 + n).toNat))) 3 p) 4 (((A 1) ((28 + n).toNat)) / 3)) 5 ((A 1) ((21 + n).toNat)) := ⟨_, rfl⟩
  rw [← hf9] at hS
  have hx9 : ∀ k : Int, 0 ≤ k → k ≤ 5 → f9 k.toNat = xS (A 1) n p k := by intro k h1 h2; rw [hf9]; rcases (show k = 0 ∨ k = 1 ∨ k = 2 ∨ k = 3 ∨ k = 4 ∨ k = 5 by omega) with rfl | rfl | rfl | rfl | rfl | rfl <;> rfl
  have hmm := hC0.1
  have hmt : tellsS (A 1) 234 0 = manyS (A 1) := rfl
  refine li_iload hC hl 1 rfl dX12_looks_108 ?_
  refine li_istore hC (lv' := [(7, .int (iI (239 + (140 * ((A 1) 6))))), (6, .int (iI 0)), (5, .int (iI (239 + (140 * ((A 1) 6))))), (4, .int (iI (tellsS (A 1) 234 0))), (3, .int (iI 0)), (0, .ref h0), (1, .int (iI n)), (2, .int (iI p))]) hl (by decide) rfl dX12_looks_110 (fun ls hl => ?_)
  have L112_2 : ∀ (fuel : Nat) (j : Int) (top : Int) (sum : Int) (tr : Nat → Int) (ls : Array Slot) (H : Heap) (locs : List Loc), St g Aw s.heap H locs (RW g h0 ad F (va_up (va_up A 9 f9) 10 tr)) → lv_has ls 12 [(5, .int (iI (239 + (140 * ((A 1) 6))))), (4, .int (iI (tellsS (A 1) 234 0))), (0, .ref h0), (1, .int (iI n)), (2, .int (iI p)), (3, .int (iI sum)), (6, .int (iI top)), (7, .int (iI j))] → ((239 + (140 * ((A 1) 6))) ≤ j ∧ j ≤ (239 + (140 * ((A 1) 6))) + manyS (A 1)) → (top = depS (codeS (A 1)) (j - (239 + (140 * ((A 1) 6)))).toNat) → (sum = evS (xS (A 1) n p) (codeS (A 1)) (j - (239 + (140 * ((A 1) 6)))).toNat) → (∀ k : Nat, (k : Int) < top → tr k = b2 (evT (xS (A 1) n p) (codeS (A 1)) (j - (239 + (140 * ((A 1) 6)))).toNat k)) → (((239 + (140 * ((A 1) 6))) + manyS (A 1) - j).toNat) < fuel → W Pg l Ev (rmC 2 0 0) s Mi args below Mt Cd H locs 0 0 Q (F0 Mi 112 ls []) := by
    intro fuel
    induction fuel with
    | zero => intro j top sum tr ls H locs hS hl hj ht hs htr hm; exact absurd hm (Nat.not_lt_zero _)
    | succ fuel ih =>
      intro j top sum tr ls H locs hS hl hj ht hs htr hm
      obtain ⟨i, hi⟩ : ∃ i : Nat, (i : Int) = j - (239 + (140 * ((A 1) 6))) := ⟨(j - (239 + (140 * ((A 1) 6)))).toNat, by omega⟩
      have hi2 : (j - (239 + (140 * ((A 1) 6)))).toNat = i := by omega
      rw [hi2] at ht hs htr
      have hi3 : (j + 1 - (239 + (140 * ((A 1) 6)))).toNat = i + 1 := by omega
      have htop2 : ((top + (-1)) - 1).toNat = (depS (codeS (A 1)) i - 2).toNat := by omega
      have htop1 : (top + (-1)).toNat = (depS (codeS (A 1)) i - 1).toNat := by omega
      refine li_iload hC hl 7 rfl dX12_looks_112 ?_
      refine li_iload hC hl 0 rfl dX12_looks_114 ?_
      refine li_iload hC hl 1 rfl dX12_looks_116 ?_
      refine li_iadd hC dX12_looks_118 ?_
      refine li_icmp_ge (tgt := 419) hC (by decide) (rg (by omega) (by omega)) (rg (by omega) (by omega)) dX12_looks_119 (fun c3 => ?_) (fun c3 => ?_)
      · refine li_iload_n hC hl 5 rfl dX12_looks_419 ?_
        exact hQ _ _ _ _ _ _ _ _ dX12_looks_420 hS (by omega) (by omega) (⟨iI_inj (by unfold tasteS; rw [hs, show i = (manyS (A 1)).toNat by omega]), f9, tr, rfl⟩)
      · have hok := hC0.2.2 i (by omega)
        have hfi : (A 1) j.toNat = codeS (A 1) i := by unfold codeS; congr 1; omega
        obtain ⟨cd, hcd⟩ : ∃ cd, cd = codeS (A 1) i := ⟨_, rfl⟩
        rw [← hcd] at hok hfi
        unfold okS at hok
        refine li_aload_n hC hl 2 rfl dX12_looks_122 ?_
        refine li_get hC hK.1 ck_X12 (hS.1 0 _ rfl) 1 (by decide) fl_X12_9 rfl (v := .ref (ad 1)) rfl dX12_looks_123 ?_
        refine li_iload hC hl 7 rfl dX12_looks_126 ?_
        refine li_iald (f := (A 1)) hC hK.1 (hS.1 1 _ rfl) ⟨by omega, by omega⟩ (by decide) dX12_looks_128 ?_
        rw [hfi]
        refine li_istore hC (lv' := [(8, .int (iI cd)), (5, .int (iI (239 + (140 * ((A 1) 6))))), (4, .int (iI (tellsS (A 1) 234 0))), (0, .ref h0), (1, .int (iI n)), (2, .int (iI p)), (3, .int (iI sum)), (6, .int (iI top)), (7, .int (iI j))]) hl (by decide) rfl dX12_looks_129 (fun ls hl => ?_)
        refine li_iload hC hl 0 rfl dX12_looks_131 ?_
        refine li_if_lt (tgt := 230) hC (by decide) (rg (by omega) (by omega)) dX12_looks_133 (fun c4 => ?_) (fun c4 => ?_)
        · refine li_iload hC hl 0 rfl dX12_looks_230 ?_
          refine li_iconst hC dX12_looks_232 ?_
          refine li_icmp_ne (tgt := 265) hC (by decide) (rg (by omega) (by omega)) (rg (by decide) (by decide)) dX12_looks_233 (fun c5 => ?_) (fun c5 => ?_)
          · refine li_iload hC hl 0 rfl dX12_looks_265 ?_
            refine li_bipush hC (z := -10) rfl dX12_looks_267 ?_
            refine li_icmp_le (tgt := 351) hC (by decide) (rg (by omega) (by omega)) (rg (by decide) (by decide)) dX12_looks_269 (fun c6 => ?_) (fun c6 => ?_)
            · refine li_iconst hC dX12_looks_351 ?_
              refine li_istore hC (lv' := [(6, .int (iI 0)), (8, .int (iI cd)), (5, .int (iI (239 + (140 * ((A 1) 6))))), (4, .int (iI (tellsS (A 1) 234 0))), (0, .ref h0), (1, .int (iI n)), (2, .int (iI p)), (3, .int (iI sum)), (7, .int (iI j))]) hl (by decide) rfl dX12_looks_352 (fun ls hl => ?_)
              refine li_aload_n hC hl 4 rfl dX12_looks_354 ?_
              refine li_get hC hK.1 ck_X12 (hS.1 0 _ rfl) 10 (by decide) fl_X12_21 rfl (v := .ref (ad 10)) rfl dX12_looks_355 ?_
              refine li_iconst hC dX12_looks_358 ?_
              refine li_zald_k (k := 0) (f := tr) hC hK.1 (hS.1 4 _ rfl) rfl (by decide) (by decide) dX12_looks_359 ?_
              have q7 := b2r (htr 0 (by omega))
              refine li_istore hC (lv' := [(9, .int (iI (tr 0))), (6, .int (iI 0)), (8, .int (iI cd)), (5, .int (iI (239 + (140 * ((A 1) 6))))), (4, .int (iI (tellsS (A 1) 234 0))), (0, .ref h0), (1, .int (iI n)), (2, .int (iI p)), (3, .int (iI sum)), (7, .int (iI j))]) hl (by decide) rfl dX12_looks_360 (fun ls hl => ?_)
              refine li_iload_n hC hl 8 rfl dX12_looks_362 ?_
              refine li_iload hC hl 0 rfl dX12_looks_363 ?_
              refine li_if_eq (tgt := 384) hC (by decide) (rg (by omega) (by omega)) dX12_looks_365 (fun c8 => ?_) (fun c8 => ?_)
              · refine li_iconst hC dX12_looks_384 ?_
                refine li_iadd hC dX12_looks_385 ?_
                refine li_istore_n hC (lv' := [(3, .int (iI (sum + 0))), (9, .int (iI (tr 0))), (6, .int (iI 0)), (8, .int (iI cd)), (5, .int (iI (239 + (140 * ((A 1) 6))))), (4, .int (iI (tellsS (A 1) 234 0))), (0, .ref h0), (1, .int (iI n)), (2, .int (iI p)), (7, .int (iI j))]) hl (by decide) rfl dX12_looks_386 (fun ls hl => ?_)
                refine li_iload_n hC hl 0 rfl dX12_looks_387 ?_
                refine li_iload hC hl 1 rfl dX12_looks_388 ?_
                refine li_if_eq (tgt := 410) hC (by decide) (rg (by omega) (by omega)) dX12_looks_390 (fun c9 => ?_) (fun c9 => ?_)
                · refine li_iconst hC dX12_looks_410 ?_
                  refine li_isub hC dX12_looks_411 ?_
                  refine li_istore_n hC (lv' := [(3, .int (iI ((sum + 0) - 0))), (9, .int (iI (tr 0))), (6, .int (iI 0)), (8, .int (iI cd)), (5, .int (iI (239 + (140 * ((A 1) 6))))), (4, .int (iI (tellsS (A 1) 234 0))), (0, .ref h0), (1, .int (iI n)), (2, .int (iI p)), (7, .int (iI j))]) hl (by decide) rfl dX12_looks_412 (fun ls hl => ?_)
                  refine li_iinc hC (lv' := [(7, .int (iI (j + 1))), (3, .int (iI ((sum + 0) - 0))), (9, .int (iI (tr 0))), (6, .int (iI 0)), (8, .int (iI cd)), (5, .int (iI (239 + (140 * ((A 1) 6))))), (4, .int (iI (tellsS (A 1) 234 0))), (0, .ref h0), (1, .int (iI n)), (2, .int (iI p))]) hl 9 rfl (by decide) rfl dX12_looks_413 (fun ls hl => ?_)
                  refine li_goto (tgt := 112) hC (by decide) dX12_looks_416 ?_
                  exact ih (j + 1) 0 ((sum + 0) - 0) tr _ _ _ hS (lv_sub hl [5, 6, 7, 8, 9, 1, 3, 0] rfl) (by omega) (by rw [hi3, depS_c (f := (codeS (A 1))) (i := i) (by omega)]) (by rw [hi3, evS_c (f := (codeS (A 1))) (i := i) (by omega), ← hs, ← hcd]; have hb9 := htr 0 (by omega); rw [← hb9]; unfold gainS; rcases b2r01 hb9 with e9 | e9 <;> rw [e9] <;> split <;> omega) (by intro k hk; omega) (by omega)
                · refine li_iload hC hl 3 rfl dX12_looks_393 ?_
                  refine li_sipush hC (z := -200) rfl dX12_looks_395 ?_
                  refine li_icmp_gt (tgt := 410) hC (by decide) (rg (by omega) (by omega)) (rg (by decide) (by decide)) dX12_looks_398 (fun c10 => ?_) (fun c10 => ?_)
                  · refine li_iconst hC dX12_looks_410 ?_
                    refine li_isub hC dX12_looks_411 ?_
                    refine li_istore_n hC (lv' := [(3, .int (iI ((sum + 0) - 0))), (9, .int (iI (tr 0))), (6, .int (iI 0)), (8, .int (iI cd)), (5, .int (iI (239 + (140 * ((A 1) 6))))), (4, .int (iI (tellsS (A 1) 234 0))), (0, .ref h0), (1, .int (iI n)), (2, .int (iI p)), (7, .int (iI j))]) hl (by decide) rfl dX12_looks_412 (fun ls hl => ?_)
                    refine li_iinc hC (lv' := [(7, .int (iI (j + 1))), (3, .int (iI ((sum + 0) - 0))), (9, .int (iI (tr 0))), (6, .int (iI 0)), (8, .int (iI cd)), (5, .int (iI (239 + (140 * ((A 1) 6))))), (4, .int (iI (tellsS (A 1) 234 0))), (0, .ref h0), (1, .int (iI n)), (2, .int (iI p))]) hl 9 rfl (by decide) rfl dX12_looks_413 (fun ls hl => ?_)
                    refine li_goto (tgt := 112) hC (by decide) dX12_looks_416 ?_
                    exact ih (j + 1) 0 ((sum + 0) - 0) tr _ _ _ hS (lv_sub hl [5, 6, 7, 8, 9, 1, 3, 0] rfl) (by omega) (by rw [hi3, depS_c (f := (codeS (A 1))) (i := i) (by omega)]) (by rw [hi3, evS_c (f := (codeS (A 1))) (i := i) (by omega), ← hs, ← hcd]; have hb9 := htr 0 (by omega); rw [← hb9]; unfold gainS; rcases b2r01 hb9 with e9 | e9 <;> rw [e9] <;> split <;> omega) (by intro k hk; omega) (by omega)
                  · refine li_sipush hC (z := -200) rfl dX12_looks_401 ?_
                    refine li_iload hC hl 3 rfl dX12_looks_404 ?_
                    refine li_isub hC dX12_looks_406 ?_
                    refine li_goto (tgt := 411) hC (by decide) dX12_looks_407 ?_
                    refine li_isub hC dX12_looks_411 ?_
                    refine li_istore_n hC (lv' := [(3, .int (iI ((sum + 0) - ((-200) - cd)))), (9, .int (iI (tr 0))), (6, .int (iI 0)), (8, .int (iI cd)), (5, .int (iI (239 + (140 * ((A 1) 6))))), (4, .int (iI (tellsS (A 1) 234 0))), (0, .ref h0), (1, .int (iI n)), (2, .int (iI p)), (7, .int (iI j))]) hl (by decide) rfl dX12_looks_412 (fun ls hl => ?_)
                    refine li_iinc hC (lv' := [(7, .int (iI (j + 1))), (3, .int (iI ((sum + 0) - ((-200) - cd)))), (9, .int (iI (tr 0))), (6, .int (iI 0)), (8, .int (iI cd)), (5, .int (iI (239 + (140 * ((A 1) 6))))), (4, .int (iI (tellsS (A 1) 234 0))), (0, .ref h0), (1, .int (iI n)), (2, .int (iI p))]) hl 9 rfl (by decide) rfl dX12_looks_413 (fun ls hl => ?_)
                    refine li_goto (tgt := 112) hC (by decide) dX12_looks_416 ?_
                    exact ih (j + 1) 0 ((sum + 0) - ((-200) - cd)) tr _ _ _ hS (lv_sub hl [5, 6, 7, 8, 9, 1, 3, 0] rfl) (by omega) (by rw [hi3, depS_c (f := (codeS (A 1))) (i := i) (by omega)]) (by rw [hi3, evS_c (f := (codeS (A 1))) (i := i) (by omega), ← hs, ← hcd]; have hb9 := htr 0 (by omega); rw [← hb9]; unfold gainS; rcases b2r01 hb9 with e9 | e9 <;> rw [e9] <;> split <;> omega) (by intro k hk; omega) (by omega)
              · refine li_iload hC hl 2 rfl dX12_looks_368 ?_
                refine li_sipush hC (z := -200) rfl dX12_looks_370 ?_
                refine li_icmp_le (tgt := 384) hC (by decide) (rg (by omega) (by omega)) (rg (by decide) (by decide)) dX12_looks_373 (fun c11 => ?_) (fun c11 => ?_)
                · refine li_iconst hC dX12_looks_384 ?_
                  refine li_iadd hC dX12_looks_385 ?_
                  refine li_istore_n hC (lv' := [(3, .int (iI (sum + 0))), (9, .int (iI (tr 0))), (6, .int (iI 0)), (8, .int (iI cd)), (5, .int (iI (239 + (140 * ((A 1) 6))))), (4, .int (iI (tellsS (A 1) 234 0))), (0, .ref h0), (1, .int (iI n)), (2, .int (iI p)), (7, .int (iI j))]) hl (by decide) rfl dX12_looks_386 (fun ls hl => ?_)
                  refine li_iload_n hC hl 0 rfl dX12_looks_387 ?_
                  refine li_iload hC hl 1 rfl dX12_looks_388 ?_
                  refine li_if_eq (tgt := 410) hC (by decide) (rg (by omega) (by omega)) dX12_looks_390 (fun c12 => ?_) (fun c12 => ?_)
                  · refine li_iconst hC dX12_looks_410 ?_
                    refine li_isub hC dX12_looks_411 ?_
                    refine li_istore_n hC (lv' := [(3, .int (iI ((sum + 0) - 0))), (9, .int (iI (tr 0))), (6, .int (iI 0)), (8, .int (iI cd)), (5, .int (iI (239 + (140 * ((A 1) 6))))), (4, .int (iI (tellsS (A 1) 234 0))), (0, .ref h0), (1, .int (iI n)), (2, .int (iI p)), (7, .int (iI j))]) hl (by decide) rfl dX12_looks_412 (fun ls hl => ?_)
                    refine li_iinc hC (lv' := [(7, .int (iI (j + 1))), (3, .int (iI ((sum + 0) - 0))), (9, .int (iI (tr 0))), (6, .int (iI 0)), (8, .int (iI cd)), (5, .int (iI (239 + (140 * ((A 1) 6))))), (4, .int (iI (tellsS (A 1) 234 0))), (0, .ref h0), (1, .int (iI n)), (2, .int (iI p))]) hl 9 rfl (by decide) rfl dX12_looks_413 (fun ls hl => ?_)
                    refine li_goto (tgt := 112) hC (by decide) dX12_looks_416 ?_
                    exact ih (j + 1) 0 ((sum + 0) - 0) tr _ _ _ hS (lv_sub hl [5, 6, 7, 8, 9, 1, 3, 0] rfl) (by omega) (by rw [hi3, depS_c (f := (codeS (A 1))) (i := i) (by omega)]) (by rw [hi3, evS_c (f := (codeS (A 1))) (i := i) (by omega), ← hs, ← hcd]; have hb9 := htr 0 (by omega); rw [← hb9]; unfold gainS; rcases b2r01 hb9 with e9 | e9 <;> rw [e9] <;> split <;> omega) (by intro k hk; omega) (by omega)
                  · refine li_iload hC hl 3 rfl dX12_looks_393 ?_
                    refine li_sipush hC (z := -200) rfl dX12_looks_395 ?_
                    refine li_icmp_gt (tgt := 410) hC (by decide) (rg (by omega) (by omega)) (rg (by decide) (by decide)) dX12_looks_398 (fun c13 => ?_) (fun c13 => ?_)
                    · refine li_iconst hC dX12_looks_410 ?_
                      refine li_isub hC dX12_looks_411 ?_
                      refine li_istore_n hC (lv' := [(3, .int (iI ((sum + 0) - 0))), (9, .int (iI (tr 0))), (6, .int (iI 0)), (8, .int (iI cd)), (5, .int (iI (239 + (140 * ((A 1) 6))))), (4, .int (iI (tellsS (A 1) 234 0))), (0, .ref h0), (1, .int (iI n)), (2, .int (iI p)), (7, .int (iI j))]) hl (by decide) rfl dX12_looks_412 (fun ls hl => ?_)
                      refine li_iinc hC (lv' := [(7, .int (iI (j + 1))), (3, .int (iI ((sum + 0) - 0))), (9, .int (iI (tr 0))), (6, .int (iI 0)), (8, .int (iI cd)), (5, .int (iI (239 + (140 * ((A 1) 6))))), (4, .int (iI (tellsS (A 1) 234 0))), (0, .ref h0), (1, .int (iI n)), (2, .int (iI p))]) hl 9 rfl (by decide) rfl dX12_looks_413 (fun ls hl => ?_)
                      refine li_goto (tgt := 112) hC (by decide) dX12_looks_416 ?_
                      exact ih (j + 1) 0 ((sum + 0) - 0) tr _ _ _ hS (lv_sub hl [5, 6, 7, 8, 9, 1, 3, 0] rfl) (by omega) (by rw [hi3, depS_c (f := (codeS (A 1))) (i := i) (by omega)]) (by rw [hi3, evS_c (f := (codeS (A 1))) (i := i) (by omega), ← hs, ← hcd]; have hb9 := htr 0 (by omega); rw [← hb9]; unfold gainS; rcases b2r01 hb9 with e9 | e9 <;> rw [e9] <;> split <;> omega) (by intro k hk; omega) (by omega)
                    · refine li_sipush hC (z := -200) rfl dX12_looks_401 ?_
                      refine li_iload hC hl 3 rfl dX12_looks_404 ?_
                      refine li_isub hC dX12_looks_406 ?_
                      refine li_goto (tgt := 411) hC (by decide) dX12_looks_407 ?_
                      refine li_isub hC dX12_looks_411 ?_
                      refine li_istore_n hC (lv' := [(3, .int (iI ((sum + 0) - ((-200) - cd)))), (9, .int (iI (tr 0))), (6, .int (iI 0)), (8, .int (iI cd)), (5, .int (iI (239 + (140 * ((A 1) 6))))), (4, .int (iI (tellsS (A 1) 234 0))), (0, .ref h0), (1, .int (iI n)), (2, .int (iI p)), (7, .int (iI j))]) hl (by decide) rfl dX12_looks_412 (fun ls hl => ?_)
                      refine li_iinc hC (lv' := [(7, .int (iI (j + 1))), (3, .int (iI ((sum + 0) - ((-200) - cd)))), (9, .int (iI (tr 0))), (6, .int (iI 0)), (8, .int (iI cd)), (5, .int (iI (239 + (140 * ((A 1) 6))))), (4, .int (iI (tellsS (A 1) 234 0))), (0, .ref h0), (1, .int (iI n)), (2, .int (iI p))]) hl 9 rfl (by decide) rfl dX12_looks_413 (fun ls hl => ?_)
                      refine li_goto (tgt := 112) hC (by decide) dX12_looks_416 ?_
                      exact ih (j + 1) 0 ((sum + 0) - ((-200) - cd)) tr _ _ _ hS (lv_sub hl [5, 6, 7, 8, 9, 1, 3, 0] rfl) (by omega) (by rw [hi3, depS_c (f := (codeS (A 1))) (i := i) (by omega)]) (by rw [hi3, evS_c (f := (codeS (A 1))) (i := i) (by omega), ← hs, ← hcd]; have hb9 := htr 0 (by omega); rw [← hb9]; unfold gainS; rcases b2r01 hb9 with e9 | e9 <;> rw [e9] <;> split <;> omega) (by intro k hk; omega) (by omega)
                · refine li_bipush hC (z := -10) rfl dX12_looks_376 ?_
                  refine li_iload hC hl 2 rfl dX12_looks_378 ?_
                  refine li_isub hC dX12_looks_380 ?_
                  refine li_goto (tgt := 385) hC (by decide) dX12_looks_381 ?_
                  refine li_iadd hC dX12_looks_385 ?_
                  refine li_istore_n hC (lv' := [(3, .int (iI (sum + ((-10) - cd)))), (9, .int (iI (tr 0))), (6, .int (iI 0)), (8, .int (iI cd)), (5, .int (iI (239 + (140 * ((A 1) 6))))), (4, .int (iI (tellsS (A 1) 234 0))), (0, .ref h0), (1, .int (iI n)), (2, .int (iI p)), (7, .int (iI j))]) hl (by decide) rfl dX12_looks_386 (fun ls hl => ?_)
                  refine li_iload_n hC hl 0 rfl dX12_looks_387 ?_
                  refine li_iload hC hl 1 rfl dX12_looks_388 ?_
                  refine li_if_eq (tgt := 410) hC (by decide) (rg (by omega) (by omega)) dX12_looks_390 (fun c14 => ?_) (fun c14 => ?_)
                  · refine li_iconst hC dX12_looks_410 ?_
                    refine li_isub hC dX12_looks_411 ?_
                    refine li_istore_n hC (lv' := [(3, .int (iI ((sum + ((-10) - cd)) - 0))), (9, .int (iI (tr 0))), (6, .int (iI 0)), (8, .int (iI cd)), (5, .int (iI (239 + (140 * ((A 1) 6))))), (4, .int (iI (tellsS (A 1) 234 0))), (0, .ref h0), (1, .int (iI n)), (2, .int (iI p)), (7, .int (iI j))]) hl (by decide) rfl dX12_looks_412 (fun ls hl => ?_)
                    refine li_iinc hC (lv' := [(7, .int (iI (j + 1))), (3, .int (iI ((sum + ((-10) - cd)) - 0))), (9, .int (iI (tr 0))), (6, .int (iI 0)), (8, .int (iI cd)), (5, .int (iI (239 + (140 * ((A 1) 6))))), (4, .int (iI (tellsS (A 1) 234 0))), (0, .ref h0), (1, .int (iI n)), (2, .int (iI p))]) hl 9 rfl (by decide) rfl dX12_looks_413 (fun ls hl => ?_)
                    refine li_goto (tgt := 112) hC (by decide) dX12_looks_416 ?_
                    exact ih (j + 1) 0 ((sum + ((-10) - cd)) - 0) tr _ _ _ hS (lv_sub hl [5, 6, 7, 8, 9, 1, 3, 0] rfl) (by omega) (by rw [hi3, depS_c (f := (codeS (A 1))) (i := i) (by omega)]) (by rw [hi3, evS_c (f := (codeS (A 1))) (i := i) (by omega), ← hs, ← hcd]; have hb9 := htr 0 (by omega); rw [← hb9]; unfold gainS; rcases b2r01 hb9 with e9 | e9 <;> rw [e9] <;> split <;> omega) (by intro k hk; omega) (by omega)
                  · refine li_iload hC hl 3 rfl dX12_looks_393 ?_
                    refine li_sipush hC (z := -200) rfl dX12_looks_395 ?_
                    refine li_icmp_gt (tgt := 410) hC (by decide) (rg (by omega) (by omega)) (rg (by decide) (by decide)) dX12_looks_398 (fun c15 => ?_) (fun c15 => ?_)
                    · refine li_iconst hC dX12_looks_410 ?_
                      refine li_isub hC dX12_looks_411 ?_
                      refine li_istore_n hC (lv' := [(3, .int (iI ((sum + ((-10) - cd)) - 0))), (9, .int (iI (tr 0))), (6, .int (iI 0)), (8, .int (iI cd)), (5, .int (iI (239 + (140 * ((A 1) 6))))), (4, .int (iI (tellsS (A 1) 234 0))), (0, .ref h0), (1, .int (iI n)), (2, .int (iI p)), (7, .int (iI j))]) hl (by decide) rfl dX12_looks_412 (fun ls hl => ?_)
                      refine li_iinc hC (lv' := [(7, .int (iI (j + 1))), (3, .int (iI ((sum + ((-10) - cd)) - 0))), (9, .int (iI (tr 0))), (6, .int (iI 0)), (8, .int (iI cd)), (5, .int (iI (239 + (140 * ((A 1) 6))))), (4, .int (iI (tellsS (A 1) 234 0))), (0, .ref h0), (1, .int (iI n)), (2, .int (iI p))]) hl 9 rfl (by decide) rfl dX12_looks_413 (fun ls hl => ?_)
                      refine li_goto (tgt := 112) hC (by decide) dX12_looks_416 ?_
                      exact ih (j + 1) 0 ((sum + ((-10) - cd)) - 0) tr _ _ _ hS (lv_sub hl [5, 6, 7, 8, 9, 1, 3, 0] rfl) (by omega) (by rw [hi3, depS_c (f := (codeS (A 1))) (i := i) (by omega)]) (by rw [hi3, evS_c (f := (codeS (A 1))) (i := i) (by omega), ← hs, ← hcd]; have hb9 := htr 0 (by omega); rw [← hb9]; unfold gainS; rcases b2r01 hb9 with e9 | e9 <;> rw [e9] <;> split <;> omega) (by intro k hk; omega) (by omega)
                    · refine li_sipush hC (z := -200) rfl dX12_looks_401 ?_
                      refine li_iload hC hl 3 rfl dX12_looks_404 ?_
                      refine li_isub hC dX12_looks_406 ?_
                      refine li_goto (tgt := 411) hC (by decide) dX12_looks_407 ?_
                      refine li_isub hC dX12_looks_411 ?_
                      refine li_istore_n hC (lv' := [(3, .int (iI ((sum + ((-10) - cd)) - ((-200) - cd)))), (9, .int (iI (tr 0))), (6, .int (iI 0)), (8, .int (iI cd)), (5, .int (iI (239 + (140 * ((A 1) 6))))), (4, .int (iI (tellsS (A 1) 234 0))), (0, .ref h0), (1, .int (iI n)), (2, .int (iI p)), (7, .int (iI j))]) hl (by decide) rfl dX12_looks_412 (fun ls hl => ?_)
                      refine li_iinc hC (lv' := [(7, .int (iI (j + 1))), (3, .int (iI ((sum + ((-10) - cd)) - ((-200) - cd)))), (9, .int (iI (tr 0))), (6, .int (iI 0)), (8, .int (iI cd)), (5, .int (iI (239 + (140 * ((A 1) 6))))), (4, .int (iI (tellsS (A 1) 234 0))), (0, .ref h0), (1, .int (iI n)), (2, .int (iI p))]) hl 9 rfl (by decide) rfl dX12_looks_413 (fun ls hl => ?_)
                      refine li_goto (tgt := 112) hC (by decide) dX12_looks_416 ?_
                      exact ih (j + 1) 0 ((sum + ((-10) - cd)) - ((-200) - cd)) tr _ _ _ hS (lv_sub hl [5, 6, 7, 8, 9, 1, 3, 0] rfl) (by omega) (by rw [hi3, depS_c (f := (codeS (A 1))) (i := i) (by omega)]) (by rw [hi3, evS_c (f := (codeS (A 1))) (i := i) (by omega), ← hs, ← hcd]; have hb9 := htr 0 (by omega); rw [← hb9]; unfold gainS; rcases b2r01 hb9 with e9 | e9 <;> rw [e9] <;> split <;> omega) (by intro k hk; omega) (by omega)
            · refine li_iinc hC (lv' := [(6, .int (iI (top + (-1)))), (8, .int (iI cd)), (5, .int (iI (239 + (140 * ((A 1) 6))))), (4, .int (iI (tellsS (A 1) 234 0))), (0, .ref h0), (1, .int (iI n)), (2, .int (iI p)), (3, .int (iI sum)), (7, .int (iI j))]) hl 7 rfl (by decide) rfl dX12_looks_272 (fun ls hl => ?_)
              refine li_aload_n hC hl 4 rfl dX12_looks_275 ?_
              refine li_get hC hK.1 ck_X12 (hS.1 0 _ rfl) 10 (by decide) fl_X12_21 rfl (v := .ref (ad 10)) rfl dX12_looks_276 ?_
              refine li_iload hC hl 0 rfl dX12_looks_279 ?_
              refine li_iconst hC dX12_looks_281 ?_
              refine li_isub hC dX12_looks_282 ?_
              refine li_iload hC hl 1 rfl dX12_looks_283 ?_
              refine li_bipush hC (z := -2) rfl dX12_looks_285 ?_
              refine li_icmp_ne (tgt := 320) hC (by decide) (rg (by omega) (by omega)) (rg (by decide) (by decide)) dX12_looks_287 (fun c16 => ?_) (fun c16 => ?_)
              · refine li_aload_n hC hl 4 rfl dX12_looks_320 ?_
                refine li_get hC hK.1 ck_X12 (hS.1 0 _ rfl) 10 (by decide) fl_X12_21 rfl (v := .ref (ad 10)) rfl dX12_looks_321 ?_
                refine li_iload hC hl 0 rfl dX12_looks_324 ?_
                refine li_iconst hC dX12_looks_326 ?_
                refine li_isub hC dX12_looks_327 ?_
                refine li_zald (f := tr) hC hK.1 (hS.1 4 _ rfl) ⟨by omega, by omega⟩ (by decide) dX12_looks_328 ?_
                have q17 := b2r (htr (((top + (-1)) - 1).toNat) (by omega))
                refine li_if_ne (tgt := 342) hC (by decide) (rg (by omega) (by omega)) dX12_looks_329 (fun c18 => ?_) (fun c18 => ?_)
                · refine li_iconst hC dX12_looks_342 ?_
                  refine li_goto (tgt := 347) hC (by decide) dX12_looks_343 ?_
                  refine li_zast hC hK hS 4 (n := 64) (f := tr) (z := (top + (-1)) - 1) rfl ⟨by omega, by omega⟩ (by decide) (Or.inr rfl) (ws' := RW g h0 ad F (va_up (va_up A 9 f9) 10 (va_up tr (((top + (-1)) - 1).toNat) 1))) rfl dX12_looks_347 (fun H locs hS => ?_)
                  refine li_goto (tgt := 413) hC (by decide) dX12_looks_348 ?_
                  refine li_iinc hC (lv' := [(7, .int (iI (j + 1))), (6, .int (iI (top + (-1)))), (8, .int (iI cd)), (5, .int (iI (239 + (140 * ((A 1) 6))))), (4, .int (iI (tellsS (A 1) 234 0))), (0, .ref h0), (1, .int (iI n)), (2, .int (iI p)), (3, .int (iI sum))]) hl 8 rfl (by decide) rfl dX12_looks_413 (fun ls hl => ?_)
                  refine li_goto (tgt := 112) hC (by decide) dX12_looks_416 ?_
                  exact ih (j + 1) (top + (-1)) sum (va_up tr (((top + (-1)) - 1).toNat) 1) _ _ _ hS (lv_sub hl [3, 4, 5, 6, 7, 8, 1, 0] rfl) (by omega) (by rw [hi3, depS_b (f := (codeS (A 1))) (i := i) (by omega) (by omega)]; omega) (by rw [hi3, evS_n (f := (codeS (A 1))) (i := i) (by omega)]; exact hs) (by simp only [htop2, htop1] at *; rw [hi3, evT_b (f := (codeS (A 1))) (i := i) (by omega) (by omega)]; first | (rw [if_pos (by omega)]; exact tr_up htr (by intro k h1 h2; omega) ((b2_t (by first | exact ⟨tr_t htr (by omega) (by assumption), tr_t htr (by omega) (by assumption)⟩ | exact Or.inl (tr_t htr (by omega) (by assumption)) | exact Or.inr (tr_t htr (by omega) (by assumption)))).symm)) | (rw [if_neg (by omega)]; exact tr_up htr (by intro k h1 h2; omega) ((b2_t (by first | exact ⟨tr_t htr (by omega) (by assumption), tr_t htr (by omega) (by assumption)⟩ | exact Or.inl (tr_t htr (by omega) (by assumption)) | exact Or.inr (tr_t htr (by omega) (by assumption)))).symm))) (by omega)
                · refine li_aload_n hC hl 4 rfl dX12_looks_332 ?_
                  refine li_get hC hK.1 ck_X12 (hS.1 0 _ rfl) 10 (by decide) fl_X12_21 rfl (v := .ref (ad 10)) rfl dX12_looks_333 ?_
                  refine li_iload hC hl 0 rfl dX12_looks_336 ?_
                  refine li_zald (f := tr) hC hK.1 (hS.1 4 _ rfl) ⟨by omega, by omega⟩ (by decide) dX12_looks_338 ?_
                  have q19 := b2r (htr ((top + (-1)).toNat) (by omega))
                  refine li_if_eq (tgt := 346) hC (by decide) (rg (by omega) (by omega)) dX12_looks_339 (fun c20 => ?_) (fun c20 => ?_)
                  · refine li_iconst hC dX12_looks_346 ?_
                    refine li_zast hC hK hS 4 (n := 64) (f := tr) (z := (top + (-1)) - 1) rfl ⟨by omega, by omega⟩ (by decide) (Or.inl rfl) (ws' := RW g h0 ad F (va_up (va_up A 9 f9) 10 (va_up tr (((top + (-1)) - 1).toNat) 0))) rfl dX12_looks_347 (fun H locs hS => ?_)
                    refine li_goto (tgt := 413) hC (by decide) dX12_looks_348 ?_
                    refine li_iinc hC (lv' := [(7, .int (iI (j + 1))), (6, .int (iI (top + (-1)))), (8, .int (iI cd)), (5, .int (iI (239 + (140 * ((A 1) 6))))), (4, .int (iI (tellsS (A 1) 234 0))), (0, .ref h0), (1, .int (iI n)), (2, .int (iI p)), (3, .int (iI sum))]) hl 8 rfl (by decide) rfl dX12_looks_413 (fun ls hl => ?_)
                    refine li_goto (tgt := 112) hC (by decide) dX12_looks_416 ?_
                    exact ih (j + 1) (top + (-1)) sum (va_up tr (((top + (-1)) - 1).toNat) 0) _ _ _ hS (lv_sub hl [3, 4, 5, 6, 7, 8, 1, 0] rfl) (by omega) (by rw [hi3, depS_b (f := (codeS (A 1))) (i := i) (by omega) (by omega)]; omega) (by rw [hi3, evS_n (f := (codeS (A 1))) (i := i) (by omega)]; exact hs) (by simp only [htop2, htop1] at *; rw [hi3, evT_b (f := (codeS (A 1))) (i := i) (by omega) (by omega)]; first | (rw [if_pos (by omega)]; exact tr_up htr (by intro k h1 h2; omega) ((b2_f (by first | exact fun h9 => tr_f htr (by omega) (by assumption) h9.1 | exact fun h9 => tr_f htr (by omega) (by assumption) h9.2 | exact fun h9 => h9.elim (tr_f htr (by omega) (by assumption)) (tr_f htr (by omega) (by assumption)))).symm)) | (rw [if_neg (by omega)]; exact tr_up htr (by intro k h1 h2; omega) ((b2_f (by first | exact fun h9 => tr_f htr (by omega) (by assumption) h9.1 | exact fun h9 => tr_f htr (by omega) (by assumption) h9.2 | exact fun h9 => h9.elim (tr_f htr (by omega) (by assumption)) (tr_f htr (by omega) (by assumption)))).symm))) (by omega)
                  · refine li_iconst hC dX12_looks_342 ?_
                    refine li_goto (tgt := 347) hC (by decide) dX12_looks_343 ?_
                    refine li_zast hC hK hS 4 (n := 64) (f := tr) (z := (top + (-1)) - 1) rfl ⟨by omega, by omega⟩ (by decide) (Or.inr rfl) (ws' := RW g h0 ad F (va_up (va_up A 9 f9) 10 (va_up tr (((top + (-1)) - 1).toNat) 1))) rfl dX12_looks_347 (fun H locs hS => ?_)
                    refine li_goto (tgt := 413) hC (by decide) dX12_looks_348 ?_
                    refine li_iinc hC (lv' := [(7, .int (iI (j + 1))), (6, .int (iI (top + (-1)))), (8, .int (iI cd)), (5, .int (iI (239 + (140 * ((A 1) 6))))), (4, .int (iI (tellsS (A 1) 234 0))), (0, .ref h0), (1, .int (iI n)), (2, .int (iI p)), (3, .int (iI sum))]) hl 8 rfl (by decide) rfl dX12_looks_413 (fun ls hl => ?_)
                    refine li_goto (tgt := 112) hC (by decide) dX12_looks_416 ?_
                    exact ih (j + 1) (top + (-1)) sum (va_up tr (((top + (-1)) - 1).toNat) 1) _ _ _ hS (lv_sub hl [3, 4, 5, 6, 7, 8, 1, 0] rfl) (by omega) (by rw [hi3, depS_b (f := (codeS (A 1))) (i := i) (by omega) (by omega)]; omega) (by rw [hi3, evS_n (f := (codeS (A 1))) (i := i) (by omega)]; exact hs) (by simp only [htop2, htop1] at *; rw [hi3, evT_b (f := (codeS (A 1))) (i := i) (by omega) (by omega)]; first | (rw [if_pos (by omega)]; exact tr_up htr (by intro k h1 h2; omega) ((b2_t (by first | exact ⟨tr_t htr (by omega) (by assumption), tr_t htr (by omega) (by assumption)⟩ | exact Or.inl (tr_t htr (by omega) (by assumption)) | exact Or.inr (tr_t htr (by omega) (by assumption)))).symm)) | (rw [if_neg (by omega)]; exact tr_up htr (by intro k h1 h2; omega) ((b2_t (by first | exact ⟨tr_t htr (by omega) (by assumption), tr_t htr (by omega) (by assumption)⟩ | exact Or.inl (tr_t htr (by omega) (by assumption)) | exact Or.inr (tr_t htr (by omega) (by assumption)))).symm))) (by omega)
              · refine li_aload_n hC hl 4 rfl dX12_looks_290 ?_
                refine li_get hC hK.1 ck_X12 (hS.1 0 _ rfl) 10 (by decide) fl_X12_21 rfl (v := .ref (ad 10)) rfl dX12_looks_291 ?_
                refine li_iload hC hl 0 rfl dX12_looks_294 ?_
                refine li_iconst hC dX12_looks_296 ?_
                refine li_isub hC dX12_looks_297 ?_
                refine li_zald (f := tr) hC hK.1 (hS.1 4 _ rfl) ⟨by omega, by omega⟩ (by decide) dX12_looks_298 ?_
                have q21 := b2r (htr (((top + (-1)) - 1).toNat) (by omega))
                refine li_if_eq (tgt := 316) hC (by decide) (rg (by omega) (by omega)) dX12_looks_299 (fun c22 => ?_) (fun c22 => ?_)
                · refine li_iconst hC dX12_looks_316 ?_
                  refine li_goto (tgt := 347) hC (by decide) dX12_looks_317 ?_
                  refine li_zast hC hK hS 4 (n := 64) (f := tr) (z := (top + (-1)) - 1) rfl ⟨by omega, by omega⟩ (by decide) (Or.inl rfl) (ws' := RW g h0 ad F (va_up (va_up A 9 f9) 10 (va_up tr (((top + (-1)) - 1).toNat) 0))) rfl dX12_looks_347 (fun H locs hS => ?_)
                  refine li_goto (tgt := 413) hC (by decide) dX12_looks_348 ?_
                  refine li_iinc hC (lv' := [(7, .int (iI (j + 1))), (6, .int (iI (top + (-1)))), (8, .int (iI cd)), (5, .int (iI (239 + (140 * ((A 1) 6))))), (4, .int (iI (tellsS (A 1) 234 0))), (0, .ref h0), (1, .int (iI n)), (2, .int (iI p)), (3, .int (iI sum))]) hl 8 rfl (by decide) rfl dX12_looks_413 (fun ls hl => ?_)
                  refine li_goto (tgt := 112) hC (by decide) dX12_looks_416 ?_
                  exact ih (j + 1) (top + (-1)) sum (va_up tr (((top + (-1)) - 1).toNat) 0) _ _ _ hS (lv_sub hl [3, 4, 5, 6, 7, 8, 1, 0] rfl) (by omega) (by rw [hi3, depS_b (f := (codeS (A 1))) (i := i) (by omega) (by omega)]; omega) (by rw [hi3, evS_n (f := (codeS (A 1))) (i := i) (by omega)]; exact hs) (by simp only [htop2, htop1] at *; rw [hi3, evT_b (f := (codeS (A 1))) (i := i) (by omega) (by omega)]; first | (rw [if_pos (by omega)]; exact tr_up htr (by intro k h1 h2; omega) ((b2_f (by first | exact fun h9 => tr_f htr (by omega) (by assumption) h9.1 | exact fun h9 => tr_f htr (by omega) (by assumption) h9.2 | exact fun h9 => h9.elim (tr_f htr (by omega) (by assumption)) (tr_f htr (by omega) (by assumption)))).symm)) | (rw [if_neg (by omega)]; exact tr_up htr (by intro k h1 h2; omega) ((b2_f (by first | exact fun h9 => tr_f htr (by omega) (by assumption) h9.1 | exact fun h9 => tr_f htr (by omega) (by assumption) h9.2 | exact fun h9 => h9.elim (tr_f htr (by omega) (by assumption)) (tr_f htr (by omega) (by assumption)))).symm))) (by omega)
                · refine li_aload_n hC hl 4 rfl dX12_looks_302 ?_
                  refine li_get hC hK.1 ck_X12 (hS.1 0 _ rfl) 10 (by decide) fl_X12_21 rfl (v := .ref (ad 10)) rfl dX12_looks_303 ?_
                  refine li_iload hC hl 0 rfl dX12_looks_306 ?_
                  refine li_zald (f := tr) hC hK.1 (hS.1 4 _ rfl) ⟨by omega, by omega⟩ (by decide) dX12_looks_308 ?_
                  have q23 := b2r (htr ((top + (-1)).toNat) (by omega))
                  refine li_if_eq (tgt := 316) hC (by decide) (rg (by omega) (by omega)) dX12_looks_309 (fun c24 => ?_) (fun c24 => ?_)
                  · refine li_iconst hC dX12_looks_316 ?_
                    refine li_goto (tgt := 347) hC (by decide) dX12_looks_317 ?_
                    refine li_zast hC hK hS 4 (n := 64) (f := tr) (z := (top + (-1)) - 1) rfl ⟨by omega, by omega⟩ (by decide) (Or.inl rfl) (ws' := RW g h0 ad F (va_up (va_up A 9 f9) 10 (va_up tr (((top + (-1)) - 1).toNat) 0))) rfl dX12_looks_347 (fun H locs hS => ?_)
                    refine li_goto (tgt := 413) hC (by decide) dX12_looks_348 ?_
                    refine li_iinc hC (lv' := [(7, .int (iI (j + 1))), (6, .int (iI (top + (-1)))), (8, .int (iI cd)), (5, .int (iI (239 + (140 * ((A 1) 6))))), (4, .int (iI (tellsS (A 1) 234 0))), (0, .ref h0), (1, .int (iI n)), (2, .int (iI p)), (3, .int (iI sum))]) hl 8 rfl (by decide) rfl dX12_looks_413 (fun ls hl => ?_)
                    refine li_goto (tgt := 112) hC (by decide) dX12_looks_416 ?_
                    exact ih (j + 1) (top + (-1)) sum (va_up tr (((top + (-1)) - 1).toNat) 0) _ _ _ hS (lv_sub hl [3, 4, 5, 6, 7, 8, 1, 0] rfl) (by omega) (by rw [hi3, depS_b (f := (codeS (A 1))) (i := i) (by omega) (by omega)]; omega) (by rw [hi3, evS_n (f := (codeS (A 1))) (i := i) (by omega)]; exact hs) (by simp only [htop2, htop1] at *; rw [hi3, evT_b (f := (codeS (A 1))) (i := i) (by omega) (by omega)]; first | (rw [if_pos (by omega)]; exact tr_up htr (by intro k h1 h2; omega) ((b2_f (by first | exact fun h9 => tr_f htr (by omega) (by assumption) h9.1 | exact fun h9 => tr_f htr (by omega) (by assumption) h9.2 | exact fun h9 => h9.elim (tr_f htr (by omega) (by assumption)) (tr_f htr (by omega) (by assumption)))).symm)) | (rw [if_neg (by omega)]; exact tr_up htr (by intro k h1 h2; omega) ((b2_f (by first | exact fun h9 => tr_f htr (by omega) (by assumption) h9.1 | exact fun h9 => tr_f htr (by omega) (by assumption) h9.2 | exact fun h9 => h9.elim (tr_f htr (by omega) (by assumption)) (tr_f htr (by omega) (by assumption)))).symm))) (by omega)
                  · refine li_iconst hC dX12_looks_312 ?_
                    refine li_goto (tgt := 347) hC (by decide) dX12_looks_313 ?_
                    refine li_zast hC hK hS 4 (n := 64) (f := tr) (z := (top + (-1)) - 1) rfl ⟨by omega, by omega⟩ (by decide) (Or.inr rfl) (ws' := RW g h0 ad F (va_up (va_up A 9 f9) 10 (va_up tr (((top + (-1)) - 1).toNat) 1))) rfl dX12_looks_347 (fun H locs hS => ?_)
                    refine li_goto (tgt := 413) hC (by decide) dX12_looks_348 ?_
                    refine li_iinc hC (lv' := [(7, .int (iI (j + 1))), (6, .int (iI (top + (-1)))), (8, .int (iI cd)), (5, .int (iI (239 + (140 * ((A 1) 6))))), (4, .int (iI (tellsS (A 1) 234 0))), (0, .ref h0), (1, .int (iI n)), (2, .int (iI p)), (3, .int (iI sum))]) hl 8 rfl (by decide) rfl dX12_looks_413 (fun ls hl => ?_)
                    refine li_goto (tgt := 112) hC (by decide) dX12_looks_416 ?_
                    exact ih (j + 1) (top + (-1)) sum (va_up tr (((top + (-1)) - 1).toNat) 1) _ _ _ hS (lv_sub hl [3, 4, 5, 6, 7, 8, 1, 0] rfl) (by omega) (by rw [hi3, depS_b (f := (codeS (A 1))) (i := i) (by omega) (by omega)]; omega) (by rw [hi3, evS_n (f := (codeS (A 1))) (i := i) (by omega)]; exact hs) (by simp only [htop2, htop1] at *; rw [hi3, evT_b (f := (codeS (A 1))) (i := i) (by omega) (by omega)]; first | (rw [if_pos (by omega)]; exact tr_up htr (by intro k h1 h2; omega) ((b2_t (by first | exact ⟨tr_t htr (by omega) (by assumption), tr_t htr (by omega) (by assumption)⟩ | exact Or.inl (tr_t htr (by omega) (by assumption)) | exact Or.inr (tr_t htr (by omega) (by assumption)))).symm)) | (rw [if_neg (by omega)]; exact tr_up htr (by intro k h1 h2; omega) ((b2_t (by first | exact ⟨tr_t htr (by omega) (by assumption), tr_t htr (by omega) (by assumption)⟩ | exact Or.inl (tr_t htr (by omega) (by assumption)) | exact Or.inr (tr_t htr (by omega) (by assumption)))).symm))) (by omega)
          · refine li_aload_n hC hl 3 rfl dX12_looks_236 ?_
            refine li_get hC hK.1 ck_X12 (hS.1 0 _ rfl) 10 (by decide) fl_X12_21 rfl (v := .ref (ad 10)) rfl dX12_looks_237 ?_
            refine li_iload hC hl 7 rfl dX12_looks_240 ?_
            refine li_iconst hC dX12_looks_242 ?_
            refine li_isub hC dX12_looks_243 ?_
            refine li_aload_n hC hl 3 rfl dX12_looks_244 ?_
            refine li_get hC hK.1 ck_X12 (hS.1 0 _ rfl) 10 (by decide) fl_X12_21 rfl (v := .ref (ad 10)) rfl dX12_looks_245 ?_
            refine li_iload hC hl 7 rfl dX12_looks_248 ?_
            refine li_iconst hC dX12_looks_250 ?_
            refine li_isub hC dX12_looks_251 ?_
            refine li_zald (f := tr) hC hK.1 (hS.1 4 _ rfl) ⟨by omega, by omega⟩ (by decide) dX12_looks_252 ?_
            have q25 := b2r (htr ((top - 1).toNat) (by omega))
            refine li_if_ne (tgt := 260) hC (by decide) (rg (by omega) (by omega)) dX12_looks_253 (fun c26 => ?_) (fun c26 => ?_)
            · refine li_iconst hC dX12_looks_260 ?_
              refine li_zast hC hK hS 4 (n := 64) (f := tr) (z := top - 1) rfl ⟨by omega, by omega⟩ (by decide) (Or.inl rfl) (ws' := RW g h0 ad F (va_up (va_up A 9 f9) 10 (va_up tr ((top - 1).toNat) 0))) rfl dX12_looks_261 (fun H locs hS => ?_)
              refine li_goto (tgt := 413) hC (by decide) dX12_looks_262 ?_
              refine li_iinc hC (lv' := [(7, .int (iI (j + 1))), (8, .int (iI cd)), (5, .int (iI (239 + (140 * ((A 1) 6))))), (4, .int (iI (tellsS (A 1) 234 0))), (0, .ref h0), (1, .int (iI n)), (2, .int (iI p)), (3, .int (iI sum)), (6, .int (iI top))]) hl 8 rfl (by decide) rfl dX12_looks_413 (fun ls hl => ?_)
              refine li_goto (tgt := 112) hC (by decide) dX12_looks_416 ?_
              exact ih (j + 1) top sum (va_up tr ((top - 1).toNat) 0) _ _ _ hS (lv_sub hl [2, 3, 4, 5, 6, 7, 8, 0] rfl) (by omega) (by rw [hi3, depS_n (f := (codeS (A 1))) (i := i) (by omega)]; exact ht) (by rw [hi3, evS_n (f := (codeS (A 1))) (i := i) (by omega)]; exact hs) (by rw [hi3, evT_n (f := (codeS (A 1))) (i := i) (by omega), ← ht]; exact tr_up htr (by intro k h1 h2; omega) ((b2_f (fun h9 => h9 (tr_t htr (by omega) (by assumption)))).symm)) (by omega)
            · refine li_iconst hC dX12_looks_256 ?_
              refine li_goto (tgt := 261) hC (by decide) dX12_looks_257 ?_
              refine li_zast hC hK hS 4 (n := 64) (f := tr) (z := top - 1) rfl ⟨by omega, by omega⟩ (by decide) (Or.inr rfl) (ws' := RW g h0 ad F (va_up (va_up A 9 f9) 10 (va_up tr ((top - 1).toNat) 1))) rfl dX12_looks_261 (fun H locs hS => ?_)
              refine li_goto (tgt := 413) hC (by decide) dX12_looks_262 ?_
              refine li_iinc hC (lv' := [(7, .int (iI (j + 1))), (8, .int (iI cd)), (5, .int (iI (239 + (140 * ((A 1) 6))))), (4, .int (iI (tellsS (A 1) 234 0))), (0, .ref h0), (1, .int (iI n)), (2, .int (iI p)), (3, .int (iI sum)), (6, .int (iI top))]) hl 8 rfl (by decide) rfl dX12_looks_413 (fun ls hl => ?_)
              refine li_goto (tgt := 112) hC (by decide) dX12_looks_416 ?_
              exact ih (j + 1) top sum (va_up tr ((top - 1).toNat) 1) _ _ _ hS (lv_sub hl [2, 3, 4, 5, 6, 7, 8, 0] rfl) (by omega) (by rw [hi3, depS_n (f := (codeS (A 1))) (i := i) (by omega)]; exact ht) (by rw [hi3, evS_n (f := (codeS (A 1))) (i := i) (by omega)]; exact hs) (by rw [hi3, evT_n (f := (codeS (A 1))) (i := i) (by omega), ← ht]; exact tr_up htr (by intro k h1 h2; omega) ((b2_t (fun h9 => tr_f htr (by omega) (by assumption) h9)).symm)) (by omega)
        · refine li_aload_n hC hl 3 rfl dX12_looks_136 ?_
          refine li_get hC hK.1 ck_X12 (hS.1 0 _ rfl) 9 (by decide) fl_X12_18 rfl (v := .ref (ad 9)) rfl dX12_looks_137 ?_
          refine li_iload hC hl 0 rfl dX12_looks_140 ?_
          refine li_bipush hC (z := 8) rfl dX12_looks_142 ?_
          refine li_iremN hC (by omega) (by omega) (by omega) (by omega) dX12_looks_144 ?_
          refine li_iald (f := f9) hC hK.1 (hS.1 3 _ rfl) ⟨by omega, by omega⟩ (by decide) dX12_looks_145 ?_
          rw [hx9 _ (by omega) (by omega)]
          obtain ⟨xx, hxx⟩ : ∃ xx, xx = xS (A 1) n p (cd % 8) := ⟨_, rfl⟩
          rw [← hxx]
          have hxr := xS_rng hI (n := n) (p := p) (k := (cd % 8)) hn hp
          rw [← hxx] at hxr
          refine li_istore hC (lv' := [(9, .int (iI xx)), (8, .int (iI cd)), (5, .int (iI (239 + (140 * ((A 1) 6))))), (4, .int (iI (tellsS (A 1) 234 0))), (0, .ref h0), (1, .int (iI n)), (2, .int (iI p)), (3, .int (iI sum)), (6, .int (iI top)), (7, .int (iI j))]) hl (by decide) rfl dX12_looks_146 (fun ls hl => ?_)
          refine li_iload hC hl 1 rfl dX12_looks_148 ?_
          refine li_bipush hC (z := 8) rfl dX12_looks_150 ?_
          refine li_idivN hC (by omega) (by omega) (by omega) (by omega) dX12_looks_152 ?_
          refine li_iconst hC dX12_looks_153 ?_
          refine li_iremN hC (by omega) (by omega) (by omega) (by omega) dX12_looks_154 ?_
          refine li_istore hC (lv' := [(10, .int (iI ((cd / 8) % 4))), (9, .int (iI xx)), (8, .int (iI cd)), (5, .int (iI (239 + (140 * ((A 1) 6))))), (4, .int (iI (tellsS (A 1) 234 0))), (0, .ref h0), (1, .int (iI n)), (2, .int (iI p)), (3, .int (iI sum)), (6, .int (iI top)), (7, .int (iI j))]) hl (by decide) rfl dX12_looks_155 (fun ls hl => ?_)
          refine li_iload hC hl 2 rfl dX12_looks_157 ?_
          refine li_bipush hC (z := 32) rfl dX12_looks_159 ?_
          refine li_idivN hC (by omega) (by omega) (by omega) (by omega) dX12_looks_161 ?_
          refine li_istore hC (lv' := [(11, .int (iI (cd / 32))), (10, .int (iI ((cd / 8) % 4))), (9, .int (iI xx)), (8, .int (iI cd)), (5, .int (iI (239 + (140 * ((A 1) 6))))), (4, .int (iI (tellsS (A 1) 234 0))), (0, .ref h0), (1, .int (iI n)), (2, .int (iI p)), (3, .int (iI sum)), (6, .int (iI top)), (7, .int (iI j))]) hl (by decide) rfl dX12_looks_162 (fun ls hl => ?_)
          refine li_aload_n hC hl 6 rfl dX12_looks_164 ?_
          refine li_get hC hK.1 ck_X12 (hS.1 0 _ rfl) 10 (by decide) fl_X12_21 rfl (v := .ref (ad 10)) rfl dX12_looks_165 ?_
          refine li_iload hC hl 10 rfl dX12_looks_168 ?_
          refine li_iload hC hl 1 rfl dX12_looks_170 ?_
          refine li_if_ne (tgt := 190) hC (by decide) (rg (by omega) (by omega)) dX12_looks_172 (fun c27 => ?_) (fun c27 => ?_)
          · refine li_iload hC hl 1 rfl dX12_looks_190 ?_
            refine li_iconst hC dX12_looks_192 ?_
            refine li_icmp_ne (tgt := 211) hC (by decide) (rg (by omega) (by omega)) (rg (by decide) (by decide)) dX12_looks_193 (fun c28 => ?_) (fun c28 => ?_)
            · refine li_iload hC hl 2 rfl dX12_looks_211 ?_
              refine li_iload hC hl 0 rfl dX12_looks_213 ?_
              refine li_icmp_le (tgt := 222) hC (by decide) (rg (by omega) (by omega)) (rg (by omega) (by omega)) dX12_looks_215 (fun c29 => ?_) (fun c29 => ?_)
              · refine li_iconst hC dX12_looks_222 ?_
                refine li_zast hC hK hS 4 (n := 64) (f := tr) (z := top) rfl ⟨by omega, by omega⟩ (by decide) (Or.inl rfl) (ws' := RW g h0 ad F (va_up (va_up A 9 f9) 10 (va_up tr top.toNat 0))) rfl dX12_looks_223 (fun H locs hS => ?_)
                refine li_iinc hC (lv' := [(6, .int (iI (top + 1))), (11, .int (iI (cd / 32))), (10, .int (iI ((cd / 8) % 4))), (9, .int (iI xx)), (8, .int (iI cd)), (5, .int (iI (239 + (140 * ((A 1) 6))))), (4, .int (iI (tellsS (A 1) 234 0))), (0, .ref h0), (1, .int (iI n)), (2, .int (iI p)), (3, .int (iI sum)), (7, .int (iI j))]) hl 10 rfl (by decide) rfl dX12_looks_224 (fun ls hl => ?_)
                refine li_goto (tgt := 413) hC (by decide) dX12_looks_227 ?_
                refine li_iinc hC (lv' := [(7, .int (iI (j + 1))), (6, .int (iI (top + 1))), (11, .int (iI (cd / 32))), (10, .int (iI ((cd / 8) % 4))), (9, .int (iI xx)), (8, .int (iI cd)), (5, .int (iI (239 + (140 * ((A 1) 6))))), (4, .int (iI (tellsS (A 1) 234 0))), (0, .ref h0), (1, .int (iI n)), (2, .int (iI p)), (3, .int (iI sum))]) hl 11 rfl (by decide) rfl dX12_looks_413 (fun ls hl => ?_)
                refine li_goto (tgt := 112) hC (by decide) dX12_looks_416 ?_
                exact ih (j + 1) (top + 1) sum (va_up tr top.toNat 0) _ _ _ hS (lv_sub hl [6, 7, 8, 9, 10, 11, 1, 0] rfl) (by omega) (by rw [hi3, depS_t (f := (codeS (A 1))) (i := i) (by omega)]; omega) (by rw [hi3, evS_n (f := (codeS (A 1))) (i := i) (by omega)]; exact hs) (by rw [hi3, evT_t (f := (codeS (A 1))) (i := i) (by omega), ← ht]; exact tr_up htr (by intro k h1 h2; omega) ((b2_f (by unfold testS; rw [← hcd, ← hxx]; omega)).symm)) (by omega)
              · refine li_iconst hC dX12_looks_218 ?_
                refine li_goto (tgt := 223) hC (by decide) dX12_looks_219 ?_
                refine li_zast hC hK hS 4 (n := 64) (f := tr) (z := top) rfl ⟨by omega, by omega⟩ (by decide) (Or.inr rfl) (ws' := RW g h0 ad F (va_up (va_up A 9 f9) 10 (va_up tr top.toNat 1))) rfl dX12_looks_223 (fun H locs hS => ?_)
                refine li_iinc hC (lv' := [(6, .int (iI (top + 1))), (11, .int (iI (cd / 32))), (10, .int (iI ((cd / 8) % 4))), (9, .int (iI xx)), (8, .int (iI cd)), (5, .int (iI (239 + (140 * ((A 1) 6))))), (4, .int (iI (tellsS (A 1) 234 0))), (0, .ref h0), (1, .int (iI n)), (2, .int (iI p)), (3, .int (iI sum)), (7, .int (iI j))]) hl 10 rfl (by decide) rfl dX12_looks_224 (fun ls hl => ?_)
                refine li_goto (tgt := 413) hC (by decide) dX12_looks_227 ?_
                refine li_iinc hC (lv' := [(7, .int (iI (j + 1))), (6, .int (iI (top + 1))), (11, .int (iI (cd / 32))), (10, .int (iI ((cd / 8) % 4))), (9, .int (iI xx)), (8, .int (iI cd)), (5, .int (iI (239 + (140 * ((A 1) 6))))), (4, .int (iI (tellsS (A 1) 234 0))), (0, .ref h0), (1, .int (iI n)), (2, .int (iI p)), (3, .int (iI sum))]) hl 11 rfl (by decide) rfl dX12_looks_413 (fun ls hl => ?_)
                refine li_goto (tgt := 112) hC (by decide) dX12_looks_416 ?_
                exact ih (j + 1) (top + 1) sum (va_up tr top.toNat 1) _ _ _ hS (lv_sub hl [6, 7, 8, 9, 10, 11, 1, 0] rfl) (by omega) (by rw [hi3, depS_t (f := (codeS (A 1))) (i := i) (by omega)]; omega) (by rw [hi3, evS_n (f := (codeS (A 1))) (i := i) (by omega)]; exact hs) (by rw [hi3, evT_t (f := (codeS (A 1))) (i := i) (by omega), ← ht]; exact tr_up htr (by intro k h1 h2; omega) ((b2_t (by unfold testS; rw [← hcd, ← hxx]; omega)).symm)) (by omega)
            · refine li_iload hC hl 2 rfl dX12_looks_196 ?_
              refine li_iload hC hl 0 rfl dX12_looks_198 ?_
              refine li_icmp_ne (tgt := 207) hC (by decide) (rg (by omega) (by omega)) (rg (by omega) (by omega)) dX12_looks_200 (fun c30 => ?_) (fun c30 => ?_)
              · refine li_iconst hC dX12_looks_207 ?_
                refine li_goto (tgt := 223) hC (by decide) dX12_looks_208 ?_
                refine li_zast hC hK hS 4 (n := 64) (f := tr) (z := top) rfl ⟨by omega, by omega⟩ (by decide) (Or.inl rfl) (ws' := RW g h0 ad F (va_up (va_up A 9 f9) 10 (va_up tr top.toNat 0))) rfl dX12_looks_223 (fun H locs hS => ?_)
                refine li_iinc hC (lv' := [(6, .int (iI (top + 1))), (11, .int (iI (cd / 32))), (10, .int (iI ((cd / 8) % 4))), (9, .int (iI xx)), (8, .int (iI cd)), (5, .int (iI (239 + (140 * ((A 1) 6))))), (4, .int (iI (tellsS (A 1) 234 0))), (0, .ref h0), (1, .int (iI n)), (2, .int (iI p)), (3, .int (iI sum)), (7, .int (iI j))]) hl 10 rfl (by decide) rfl dX12_looks_224 (fun ls hl => ?_)
                refine li_goto (tgt := 413) hC (by decide) dX12_looks_227 ?_
                refine li_iinc hC (lv' := [(7, .int (iI (j + 1))), (6, .int (iI (top + 1))), (11, .int (iI (cd / 32))), (10, .int (iI ((cd / 8) % 4))), (9, .int (iI xx)), (8, .int (iI cd)), (5, .int (iI (239 + (140 * ((A 1) 6))))), (4, .int (iI (tellsS (A 1) 234 0))), (0, .ref h0), (1, .int (iI n)), (2, .int (iI p)), (3, .int (iI sum))]) hl 11 rfl (by decide) rfl dX12_looks_413 (fun ls hl => ?_)
                refine li_goto (tgt := 112) hC (by decide) dX12_looks_416 ?_
                exact ih (j + 1) (top + 1) sum (va_up tr top.toNat 0) _ _ _ hS (lv_sub hl [6, 7, 8, 9, 10, 11, 1, 0] rfl) (by omega) (by rw [hi3, depS_t (f := (codeS (A 1))) (i := i) (by omega)]; omega) (by rw [hi3, evS_n (f := (codeS (A 1))) (i := i) (by omega)]; exact hs) (by rw [hi3, evT_t (f := (codeS (A 1))) (i := i) (by omega), ← ht]; exact tr_up htr (by intro k h1 h2; omega) ((b2_f (by unfold testS; rw [← hcd, ← hxx]; omega)).symm)) (by omega)
              · refine li_iconst hC dX12_looks_203 ?_
                refine li_goto (tgt := 223) hC (by decide) dX12_looks_204 ?_
                refine li_zast hC hK hS 4 (n := 64) (f := tr) (z := top) rfl ⟨by omega, by omega⟩ (by decide) (Or.inr rfl) (ws' := RW g h0 ad F (va_up (va_up A 9 f9) 10 (va_up tr top.toNat 1))) rfl dX12_looks_223 (fun H locs hS => ?_)
                refine li_iinc hC (lv' := [(6, .int (iI (top + 1))), (11, .int (iI (cd / 32))), (10, .int (iI ((cd / 8) % 4))), (9, .int (iI xx)), (8, .int (iI cd)), (5, .int (iI (239 + (140 * ((A 1) 6))))), (4, .int (iI (tellsS (A 1) 234 0))), (0, .ref h0), (1, .int (iI n)), (2, .int (iI p)), (3, .int (iI sum)), (7, .int (iI j))]) hl 10 rfl (by decide) rfl dX12_looks_224 (fun ls hl => ?_)
                refine li_goto (tgt := 413) hC (by decide) dX12_looks_227 ?_
                refine li_iinc hC (lv' := [(7, .int (iI (j + 1))), (6, .int (iI (top + 1))), (11, .int (iI (cd / 32))), (10, .int (iI ((cd / 8) % 4))), (9, .int (iI xx)), (8, .int (iI cd)), (5, .int (iI (239 + (140 * ((A 1) 6))))), (4, .int (iI (tellsS (A 1) 234 0))), (0, .ref h0), (1, .int (iI n)), (2, .int (iI p)), (3, .int (iI sum))]) hl 11 rfl (by decide) rfl dX12_looks_413 (fun ls hl => ?_)
                refine li_goto (tgt := 112) hC (by decide) dX12_looks_416 ?_
                exact ih (j + 1) (top + 1) sum (va_up tr top.toNat 1) _ _ _ hS (lv_sub hl [6, 7, 8, 9, 10, 11, 1, 0] rfl) (by omega) (by rw [hi3, depS_t (f := (codeS (A 1))) (i := i) (by omega)]; omega) (by rw [hi3, evS_n (f := (codeS (A 1))) (i := i) (by omega)]; exact hs) (by rw [hi3, evT_t (f := (codeS (A 1))) (i := i) (by omega), ← ht]; exact tr_up htr (by intro k h1 h2; omega) ((b2_t (by unfold testS; rw [← hcd, ← hxx]; omega)).symm)) (by omega)
          · refine li_iload hC hl 2 rfl dX12_looks_175 ?_
            refine li_iload hC hl 0 rfl dX12_looks_177 ?_
            refine li_icmp_ge (tgt := 186) hC (by decide) (rg (by omega) (by omega)) (rg (by omega) (by omega)) dX12_looks_179 (fun c31 => ?_) (fun c31 => ?_)
            · refine li_iconst hC dX12_looks_186 ?_
              refine li_goto (tgt := 223) hC (by decide) dX12_looks_187 ?_
              refine li_zast hC hK hS 4 (n := 64) (f := tr) (z := top) rfl ⟨by omega, by omega⟩ (by decide) (Or.inl rfl) (ws' := RW g h0 ad F (va_up (va_up A 9 f9) 10 (va_up tr top.toNat 0))) rfl dX12_looks_223 (fun H locs hS => ?_)
              refine li_iinc hC (lv' := [(6, .int (iI (top + 1))), (11, .int (iI (cd / 32))), (10, .int (iI ((cd / 8) % 4))), (9, .int (iI xx)), (8, .int (iI cd)), (5, .int (iI (239 + (140 * ((A 1) 6))))), (4, .int (iI (tellsS (A 1) 234 0))), (0, .ref h0), (1, .int (iI n)), (2, .int (iI p)), (3, .int (iI sum)), (7, .int (iI j))]) hl 10 rfl (by decide) rfl dX12_looks_224 (fun ls hl => ?_)
              refine li_goto (tgt := 413) hC (by decide) dX12_looks_227 ?_
              refine li_iinc hC (lv' := [(7, .int (iI (j + 1))), (6, .int (iI (top + 1))), (11, .int (iI (cd / 32))), (10, .int (iI ((cd / 8) % 4))), (9, .int (iI xx)), (8, .int (iI cd)), (5, .int (iI (239 + (140 * ((A 1) 6))))), (4, .int (iI (tellsS (A 1) 234 0))), (0, .ref h0), (1, .int (iI n)), (2, .int (iI p)), (3, .int (iI sum))]) hl 11 rfl (by decide) rfl dX12_looks_413 (fun ls hl => ?_)
              refine li_goto (tgt := 112) hC (by decide) dX12_looks_416 ?_
              exact ih (j + 1) (top + 1) sum (va_up tr top.toNat 0) _ _ _ hS (lv_sub hl [6, 7, 8, 9, 10, 11, 1, 0] rfl) (by omega) (by rw [hi3, depS_t (f := (codeS (A 1))) (i := i) (by omega)]; omega) (by rw [hi3, evS_n (f := (codeS (A 1))) (i := i) (by omega)]; exact hs) (by rw [hi3, evT_t (f := (codeS (A 1))) (i := i) (by omega), ← ht]; exact tr_up htr (by intro k h1 h2; omega) ((b2_f (by unfold testS; rw [← hcd, ← hxx]; omega)).symm)) (by omega)
            · refine li_iconst hC dX12_looks_182 ?_
              refine li_goto (tgt := 223) hC (by decide) dX12_looks_183 ?_
              refine li_zast hC hK hS 4 (n := 64) (f := tr) (z := top) rfl ⟨by omega, by omega⟩ (by decide) (Or.inr rfl) (ws' := RW g h0 ad F (va_up (va_up A 9 f9) 10 (va_up tr top.toNat 1))) rfl dX12_looks_223 (fun H locs hS => ?_)
              refine li_iinc hC (lv' := [(6, .int (iI (top + 1))), (11, .int (iI (cd / 32))), (10, .int (iI ((cd / 8) % 4))), (9, .int (iI xx)), (8, .int (iI cd)), (5, .int (iI (239 + (140 * ((A 1) 6))))), (4, .int (iI (tellsS (A 1) 234 0))), (0, .ref h0), (1, .int (iI n)), (2, .int (iI p)), (3, .int (iI sum)), (7, .int (iI j))]) hl 10 rfl (by decide) rfl dX12_looks_224 (fun ls hl => ?_)
              refine li_goto (tgt := 413) hC (by decide) dX12_looks_227 ?_
              refine li_iinc hC (lv' := [(7, .int (iI (j + 1))), (6, .int (iI (top + 1))), (11, .int (iI (cd / 32))), (10, .int (iI ((cd / 8) % 4))), (9, .int (iI xx)), (8, .int (iI cd)), (5, .int (iI (239 + (140 * ((A 1) 6))))), (4, .int (iI (tellsS (A 1) 234 0))), (0, .ref h0), (1, .int (iI n)), (2, .int (iI p)), (3, .int (iI sum))]) hl 11 rfl (by decide) rfl dX12_looks_413 (fun ls hl => ?_)
              refine li_goto (tgt := 112) hC (by decide) dX12_looks_416 ?_
              exact ih (j + 1) (top + 1) sum (va_up tr top.toNat 1) _ _ _ hS (lv_sub hl [6, 7, 8, 9, 10, 11, 1, 0] rfl) (by omega) (by rw [hi3, depS_t (f := (codeS (A 1))) (i := i) (by omega)]; omega) (by rw [hi3, evS_n (f := (codeS (A 1))) (i := i) (by omega)]; exact hs) (by rw [hi3, evT_t (f := (codeS (A 1))) (i := i) (by omega), ← ht]; exact tr_up htr (by intro k h1 h2; omega) ((b2_t (by unfold testS; rw [← hcd, ← hxx]; omega)).symm)) (by omega)
  exact L112_2 ((((239 + (140 * ((A 1) 6))) + manyS (A 1) - (239 + (140 * ((A 1) 6)))).toNat) + 1) (239 + (140 * ((A 1) 6))) 0 0 (A 10) _ _ _ hS (lv_sub hl [2, 3, 5, 6, 7, 4, 1, 0] rfl) (by omega) (by rw [Int.sub_self]; rfl) (by rw [Int.sub_self]; rfl) (by intro k hk; omega) (by omega)
set_option maxHeartbeats 4000000 in
set_option maxRecDepth 100000 in
theorem c_X12_goodOf (l : Launch) (g : GG) (h0 : Nat) (ad : Nat → Nat) (F : Nat → Int) (A : Nat → Nat → Int) (S : Nat → Int) (hSA : A 1 = S) (n : Int) (p : Int) (hn : 0 ≤ n ∧ n < S 0) (hp : 0 ≤ p ∧ p ≤ 4) (hI : InvD S) (hH : InvH S) (hC0 : InvC S) (sz : Nat) : MwrI l g yX12_goodOf cX12_goodOf 4 5 0 0 [.ref h0, .int (iI n), .int (iI p)] sz (RW g h0 ad F A) (fun v w => v = iI (goodS S n p) ∧ ∃ f9 f10, w = RW g h0 ad F (va_up (va_up A 9 f9) 10 f10)) := by
  subst hSA
  refine wr_startI (own := RX12) (by decide) rfl (Nat.le_of_ble_eq_true rfl) ?_
  intro Pg Ev s Mi args below Mt Cd ls Q Aw hC hK hS hnm hl hQ
  have hD0 := hI.1
  have hH0 := hH.1
  have hrv := tellsS_rng hH (w := 229) (z := 99) (Or.inr rfl) (by omega)
  have hrv2 : 0 ≤ riverS (A 1) ∧ riverS (A 1) ≤ 99 := hrv
  have hl : lv_has ls 4 [(0, .ref h0), (1, .int (iI n)), (2, .int (iI p))] := hl
  obtain ⟨H, hH⟩ : ∃ H, H = s.heap := ⟨_, rfl⟩
  obtain ⟨locs, hlo⟩ : ∃ locs : List Loc, locs = [] := ⟨_, rfl⟩
  have hS : St g Aw s.heap H locs (RW g h0 ad F A) := by rw [hH, hlo]; exact hS
  have goal : W Pg l Ev (rmC 5 0 0) s Mi args below Mt Cd H locs 0 0 Q (F0 Mi 0 ls []) := ?goal
  · rw [hH, hlo] at goal; exact goal
  clear hH hlo
  refine li_aload_n hC hl 0 rfl dX12_goodOf_0 ?_
  refine ro_callVi hC (c_X12_riverNow l g h0 (A 1) hH) mk_X12_riverNow ml_X12_174 (rr (by decide)) ⟨Nat.le_of_ble_eq_true rfl, Nat.le_of_ble_eq_true rfl⟩ hK.1 (hS.ro hK) (RW_pic (F := F) (A := A) hS) (li_recv hK.1 ck_X12 (hS.1 0 _ rfl)) rfl hl.1 rfl (Nat.le_of_ble_eq_true rfl) dX12_goodOf_1 ?_
  refine li_aload_n hC hl 0 rfl dX12_goodOf_4 ?_
  refine li_iload_n hC hl 1 rfl dX12_goodOf_5 ?_
  refine li_iload_n hC hl 2 rfl dX12_goodOf_6 ?_
  refine ro_callVi hC (c_X12_firstAt l g h0 (A 1) n p (by omega) (by omega) hI) mk_X12_firstAt ml_X12_150 (rr (by decide)) ⟨Nat.le_of_ble_eq_true rfl, Nat.le_of_ble_eq_true rfl⟩ hK.1 (hS.ro hK) (RW_pic (F := F) (A := A) hS) (li_recv hK.1 ck_X12 (hS.1 0 _ rfl)) rfl hl.1 rfl (Nat.le_of_ble_eq_true rfl) dX12_goodOf_7 ?_
  have q1 := firstS_rng hI (n := n) (p := p) (by omega)
  refine li_isub hC dX12_goodOf_10 ?_
  refine li_istore_n hC (lv' := [(3, .int (iI ((riverS (A 1)) - (firstS (A 1) n p)))), (0, .ref h0), (1, .int (iI n)), (2, .int (iI p))]) hl (by decide) rfl dX12_goodOf_11 (fun ls hl => ?_)
  refine li_bipush hC (z := 10) rfl dX12_goodOf_12 ?_
  refine li_aload_n hC hl 1 rfl dX12_goodOf_14 ?_
  refine li_iload_n hC hl 2 rfl dX12_goodOf_15 ?_
  refine li_iload_n hC hl 3 rfl dX12_goodOf_16 ?_
  refine wr_callVi hC (c_X12_looks l g h0 ad F A (A 1) rfl n p (by omega) (by omega) hI hH hC0 _) mk_X12_looks ml_X12_177 (rr (by decide)) ⟨by simp only [rmC]; omega, by simp only [rmC]; omega⟩ hK hS (li_recv hK.1 ck_X12 (hS.1 0 _ rfl)) rfl hl.1 rfl (Nat.le_of_ble_eq_true rfl) dX12_goodOf_17 (fun v w H locs hp hS => ?_)
  obtain ⟨rfl, u2, u3, rfl⟩ := hp
  have q4 := tasteS_rng hC0 n p
  refine li_iadd hC dX12_goodOf_20 ?_
  refine li_iload_n hC hl 0 rfl dX12_goodOf_21 ?_
  refine li_if_lt (tgt := 38) hC (by decide) (rg (by omega) (by omega)) dX12_goodOf_22 (fun c5 => ?_) (fun c5 => ?_)
  · refine li_iconst hC dX12_goodOf_38 ?_
    refine li_isub hC dX12_goodOf_39 ?_
    exact hQ _ _ _ _ _ _ _ _ dX12_goodOf_40 hS (by omega) (by omega) (by refine ⟨iI_inj ?_, _, _, rfl⟩; unfold goodS; first | (rw [if_pos ⟨by omega, by omega⟩]; done) | (rw [if_neg (by omega)]; done))
  · refine li_iload_n hC hl 0 rfl dX12_goodOf_25 ?_
    refine li_aload_n hC hl 1 rfl dX12_goodOf_26 ?_
    refine li_iload_n hC hl 2 rfl dX12_goodOf_27 ?_
    refine ro_callVi hC (c_X12_lengthOf l g h0 (A 1) n (by omega) hI) mk_X12_lengthOf ml_X12_146 (rr (by decide)) ⟨Nat.le_of_ble_eq_true rfl, Nat.le_of_ble_eq_true rfl⟩ hK.1 (hS.ro hK) (RW_pic (F := F) (A := va_up (va_up A 9 u2) 10 u3) hS) (li_recv hK.1 ck_X12 (hS.1 0 _ rfl)) rfl hl.1 rfl (Nat.le_of_ble_eq_true rfl) dX12_goodOf_28 ?_
    have q6 := lenS_rng hI (n := n) (by omega)
    refine li_icmp_ge (tgt := 38) hC (by decide) (rg (by omega) (by omega)) (rg (by omega) (by omega)) dX12_goodOf_31 (fun c7 => ?_) (fun c7 => ?_)
    · refine li_iconst hC dX12_goodOf_38 ?_
      refine li_isub hC dX12_goodOf_39 ?_
      exact hQ _ _ _ _ _ _ _ _ dX12_goodOf_40 hS (by omega) (by omega) (by refine ⟨iI_inj ?_, _, _, rfl⟩; unfold goodS; first | (rw [if_pos ⟨by omega, by omega⟩]; done) | (rw [if_neg (by omega)]; done))
    · refine li_iconst hC dX12_goodOf_34 ?_
      refine li_goto (tgt := 39) hC (by decide) dX12_goodOf_35 ?_
      refine li_isub hC dX12_goodOf_39 ?_
      exact hQ _ _ _ _ _ _ _ _ dX12_goodOf_40 hS (by omega) (by omega) (by refine ⟨iI_inj ?_, _, _, rfl⟩; unfold goodS; first | (rw [if_pos ⟨by omega, by omega⟩]; done) | (rw [if_neg (by omega)]; done))
set_option maxHeartbeats 4000000 in
set_option maxRecDepth 100000 in
theorem c_X12_scoreNow (l : Launch) (g : GG) (h0 : Nat) (ad : Nat → Nat) (F : Nat → Int) (A : Nat → Nat → Int) (S : Nat → Int) (hSA : A 1 = S) (hI : InvD S) (hH : InvH S) (hC0 : InvC S) (sz : Nat) : MwrI l g yX12_scoreNow cX12_scoreNow 3 6 0 0 [.ref h0] sz (RW g h0 ad F A) (fun v w => v = iI (scoreS S) ∧ ∃ f9 f10, w = RW g h0 ad F (va_up (va_up A 9 f9) 10 f10)) := by
  subst hSA
  refine wr_startI (own := RX12) (by decide) rfl (Nat.le_of_ble_eq_true rfl) ?_
  intro Pg Ev s Mi args below Mt Cd ls Q Aw hC hK hS hnm hl hQ
  have hD0 := hI.1
  have hH0 := hH.1
  have hl : lv_has ls 3 [(0, .ref h0)] := hl
  obtain ⟨H, hH⟩ : ∃ H, H = s.heap := ⟨_, rfl⟩
  obtain ⟨locs, hlo⟩ : ∃ locs : List Loc, locs = [] := ⟨_, rfl⟩
  have hS : St g Aw s.heap H locs (RW g h0 ad F A) := by rw [hH, hlo]; exact hS
  have goal : W Pg l Ev (rmC 6 0 0) s Mi args below Mt Cd H locs 0 0 Q (F0 Mi 0 ls []) := ?goal
  · rw [hH, hlo] at goal; exact goal
  clear hH hlo
  refine li_iconst hC dX12_scoreNow_0 ?_
  refine li_istore_n hC (lv' := [(1, .int (iI 0)), (0, .ref h0)]) hl (by decide) rfl dX12_scoreNow_1 (fun ls hl => ?_)
  refine li_iconst hC dX12_scoreNow_2 ?_
  refine li_istore_n hC (lv' := [(2, .int (iI 0)), (1, .int (iI 0)), (0, .ref h0)]) hl (by decide) rfl dX12_scoreNow_3 (fun ls hl => ?_)
  have L4_1 : ∀ (fuel : Nat) (n : Int) (z : Int) (f9 : Nat → Int) (f10 : Nat → Int) (ls : Array Slot) (H : Heap) (locs : List Loc), St g Aw s.heap H locs (RW g h0 ad F (va_up (va_up A 9 f9) 10 f10)) → lv_has ls 3 [(0, .ref h0), (1, .int (iI z)), (2, .int (iI n))] → (0 ≤ n ∧ n ≤ (A 1) 0) → (z = sumI (fun n => if (A 1) (42 + n).toNat = 4 then 0 else goodS (A 1) n ((A 1) (42 + n).toNat)) n.toNat) → (((A 1) 0 - n).toNat) < fuel → W Pg l Ev (rmC 6 0 0) s Mi args below Mt Cd H locs 0 0 Q (F0 Mi 4 ls []) := by
    intro fuel
    induction fuel with
    | zero => intro n z f9 f10 ls H locs hS hl hn hz hm; exact absurd hm (Nat.not_lt_zero _)
    | succ fuel ih =>
      intro n z f9 f10 ls H locs hS hl hn hz hm
      refine li_iload_n hC hl 2 rfl dX12_scoreNow_4 ?_
      refine li_aload_n hC hl 0 rfl dX12_scoreNow_5 ?_
      refine li_get hC hK.1 ck_X12 (hS.1 0 _ rfl) 1 (by decide) fl_X12_9 rfl (v := .ref (ad 1)) rfl dX12_scoreNow_6 ?_
      refine li_iconst hC dX12_scoreNow_9 ?_
      refine li_iald_k (k := 0) (f := (A 1)) hC hK.1 (hS.1 1 _ rfl) rfl (by decide) (by decide) dX12_scoreNow_10 ?_
      refine li_icmp_ge (tgt := 54) hC (by decide) (rg (by omega) (by omega)) (rg (by omega) (by omega)) dX12_scoreNow_11 (fun c2 => ?_) (fun c2 => ?_)
      · refine li_iload_n hC hl 1 rfl dX12_scoreNow_54 ?_
        exact hQ _ _ _ _ _ _ _ _ dX12_scoreNow_55 hS (by omega) (by omega) (⟨iI_inj (by unfold scoreS; rw [hz, show n = (A 1) 0 by omega]), _, _, rfl⟩)
      · refine li_iload_n hC hl 1 rfl dX12_scoreNow_14 ?_
        refine li_aload_n hC hl 0 rfl dX12_scoreNow_15 ?_
        refine li_get hC hK.1 ck_X12 (hS.1 0 _ rfl) 1 (by decide) fl_X12_9 rfl (v := .ref (ad 1)) rfl dX12_scoreNow_16 ?_
        refine li_bipush hC (z := 42) rfl dX12_scoreNow_19 ?_
        refine li_iload_n hC hl 2 rfl dX12_scoreNow_21 ?_
        refine li_iadd hC dX12_scoreNow_22 ?_
        refine li_iald (f := (A 1)) hC hK.1 (hS.1 1 _ rfl) ⟨by omega, by omega⟩ (by decide) dX12_scoreNow_23 ?_
        have q3 := hI.2 n (by omega) (by omega)
        refine li_iconst hC dX12_scoreNow_24 ?_
        refine li_icmp_ne (tgt := 32) hC (by decide) (rg (by omega) (by omega)) (rg (by decide) (by decide)) dX12_scoreNow_25 (fun c4 => ?_) (fun c4 => ?_)
        · refine li_aload_n hC hl 0 rfl dX12_scoreNow_32 ?_
          refine li_iload_n hC hl 2 rfl dX12_scoreNow_33 ?_
          refine li_aload_n hC hl 0 rfl dX12_scoreNow_34 ?_
          refine li_get hC hK.1 ck_X12 (hS.1 0 _ rfl) 1 (by decide) fl_X12_9 rfl (v := .ref (ad 1)) rfl dX12_scoreNow_35 ?_
          refine li_bipush hC (z := 42) rfl dX12_scoreNow_38 ?_
          refine li_iload_n hC hl 2 rfl dX12_scoreNow_40 ?_
          refine li_iadd hC dX12_scoreNow_41 ?_
          refine li_iald (f := (A 1)) hC hK.1 (hS.1 1 _ rfl) ⟨by omega, by omega⟩ (by decide) dX12_scoreNow_42 ?_
          refine wr_callVi hC (c_X12_goodOf l g h0 ad F (va_up (va_up A 9 f9) 10 f10) (A 1) rfl n ((A 1) ((42 + n).toNat)) (by omega) (by omega) hI hH hC0 _) mk_X12_goodOf ml_X12_180 (rr (by decide)) ⟨by simp only [rmC]; omega, by simp only [rmC]; omega⟩ hK hS (li_recv hK.1 ck_X12 (hS.1 0 _ rfl)) rfl hl.1 rfl (Nat.le_of_ble_eq_true rfl) dX12_scoreNow_43 (fun v w H locs hp hS => ?_)
          obtain ⟨rfl, u5, u6, rfl⟩ := hp
          have q7 := goodS_rng hC0 n ((A 1) ((42 + n).toNat))
          refine li_iadd hC dX12_scoreNow_46 ?_
          refine li_istore_n hC (lv' := [(1, .int (iI (z + (goodS (A 1) n ((A 1) ((42 + n).toNat)))))), (0, .ref h0), (2, .int (iI n))]) hl (by decide) rfl dX12_scoreNow_47 (fun ls hl => ?_)
          refine li_iinc hC (lv' := [(2, .int (iI (n + 1))), (1, .int (iI (z + (goodS (A 1) n ((A 1) ((42 + n).toNat)))))), (0, .ref h0)]) hl 2 rfl (by decide) rfl dX12_scoreNow_48 (fun ls hl => ?_)
          refine li_goto (tgt := 4) hC (by decide) dX12_scoreNow_51 ?_
          exact ih (n + 1) (z + (goodS (A 1) n ((A 1) ((42 + n).toNat)))) u5 u6 _ _ _ hS (lv_sub hl [2, 1, 0] rfl) (by omega) (by rw [sumI_s hn.1, ← hz]; first | (rw [if_pos (by assumption)]; done) | (rw [if_neg (by assumption)]; done)) (by omega)
        · refine li_iconst hC dX12_scoreNow_28 ?_
          refine li_goto (tgt := 46) hC (by decide) dX12_scoreNow_29 ?_
          refine li_iadd hC dX12_scoreNow_46 ?_
          refine li_istore_n hC (lv' := [(1, .int (iI (z + 0))), (0, .ref h0), (2, .int (iI n))]) hl (by decide) rfl dX12_scoreNow_47 (fun ls hl => ?_)
          refine li_iinc hC (lv' := [(2, .int (iI (n + 1))), (1, .int (iI (z + 0))), (0, .ref h0)]) hl 2 rfl (by decide) rfl dX12_scoreNow_48 (fun ls hl => ?_)
          refine li_goto (tgt := 4) hC (by decide) dX12_scoreNow_51 ?_
          exact ih (n + 1) (z + 0) f9 f10 _ _ _ hS (lv_sub hl [2, 1, 0] rfl) (by omega) (by rw [sumI_s hn.1, ← hz]; first | (rw [if_pos (by assumption)]; done) | (rw [if_neg (by assumption)]; done)) (by omega)
  exact L4_1 ((((A 1) 0 - 0).toNat) + 1) 0 0 (A 9) (A 10) _ _ _ hS (lv_sub hl [2, 1, 0] rfl) (by omega) (by rfl) (by omega)
set_option maxHeartbeats 4000000 in
set_option maxRecDepth 100000 in
theorem c_X12_good (l : Launch) (g : GG) (h0 : Nat) (ad : Nat → Nat) (F : Nat → Int) (A : Nat → Nat → Int) (S : Nat → Int) (hSA : A 1 = S) (n : Int) (p : Int) (h1 : rng n) (h2 : rng p) (hI : InvD S) (hH : InvH S) (hC0 : InvC S) (sz : Nat) : MwrI l g yX12_good cX12_good 3 6 0 0 [.ref h0, .int (iI n), .int (iI p)] sz (RW g h0 ad F A) (fun v w => v = iI (iteP ((0 ≤ n ∧ n < S 0) ∧ (0 ≤ p ∧ p ≤ 3)) (goodS S n p) (-10001)) ∧ ∃ f9 f10, w = RW g h0 ad F (va_up (va_up A 9 f9) 10 f10)) := by
  subst hSA
  refine wr_startI (own := RX12) (by decide) rfl (Nat.le_of_ble_eq_true rfl) ?_
  intro Pg Ev s Mi args below Mt Cd ls Q Aw hC hK hS hnm hl hQ
  have hD0 := hI.1
  have hH0 := hH.1
  have hl : lv_has ls 3 [(0, .ref h0), (1, .int (iI n)), (2, .int (iI p))] := hl
  obtain ⟨H, hH⟩ : ∃ H, H = s.heap := ⟨_, rfl⟩
  obtain ⟨locs, hlo⟩ : ∃ locs : List Loc, locs = [] := ⟨_, rfl⟩
  have hS : St g Aw s.heap H locs (RW g h0 ad F A) := by rw [hH, hlo]; exact hS
  have goal : W Pg l Ev (rmC 6 0 0) s Mi args below Mt Cd H locs 0 0 Q (F0 Mi 0 ls []) := ?goal
  · rw [hH, hlo] at goal; exact goal
  clear hH hlo
  refine li_aload_n hC hl 0 rfl dX12_good_0 ?_
  refine li_iload_n hC hl 1 rfl dX12_good_1 ?_
  refine ro_callVi hC (c_X12_isName l g h0 (A 1) n h1 hI) mk_X12_isName ml_X12_189 (rr (by decide)) ⟨Nat.le_of_ble_eq_true rfl, Nat.le_of_ble_eq_true rfl⟩ hK.1 (hS.ro hK) (RW_pic (F := F) (A := A) hS) (li_recv hK.1 ck_X12 (hS.1 0 _ rfl)) rfl hl.1 rfl (Nat.le_of_ble_eq_true rfl) dX12_good_2 ?_
  refine li_ifeq_b (tgt := 24) hC (by decide) dX12_good_5 (fun c1 => ?_) (fun c1 => ?_)
  · refine li_sipush hC (z := -10001) rfl dX12_good_24 ?_
    exact hQ _ _ _ _ _ _ _ _ dX12_good_27 hS (by omega) (by omega) (⟨iI_inj (by first | (rw [iteP_t (by omega)]; done) | (rw [iteP_f (by omega)]; done)), (A 9), (A 10), rfl⟩)
  · refine li_iload_n hC hl 2 rfl dX12_good_8 ?_
    refine ro_callSi hC (c_X12_isPlace l g p h2) mk_X12_isPlace ml_X12_199 (rr (by decide)) ⟨Nat.le_of_ble_eq_true rfl, Nat.le_of_ble_eq_true rfl⟩ hK.1 (hS.ro hK) trivial rfl hl.1 rfl (Nat.le_of_ble_eq_true rfl) dX12_good_9 ?_
    refine li_ifeq_b (tgt := 24) hC (by decide) dX12_good_12 (fun c2 => ?_) (fun c2 => ?_)
    · refine li_sipush hC (z := -10001) rfl dX12_good_24 ?_
      exact hQ _ _ _ _ _ _ _ _ dX12_good_27 hS (by omega) (by omega) (⟨iI_inj (by first | (rw [iteP_t (by omega)]; done) | (rw [iteP_f (by omega)]; done)), (A 9), (A 10), rfl⟩)
    · refine li_aload_n hC hl 0 rfl dX12_good_15 ?_
      refine li_iload_n hC hl 1 rfl dX12_good_16 ?_
      refine li_iload_n hC hl 2 rfl dX12_good_17 ?_
      refine wr_callVi hC (c_X12_goodOf l g h0 ad F A (A 1) rfl n p (by omega) (by omega) hI hH hC0 _) mk_X12_goodOf ml_X12_180 (rr (by decide)) ⟨by simp only [rmC]; omega, by simp only [rmC]; omega⟩ hK hS (li_recv hK.1 ck_X12 (hS.1 0 _ rfl)) rfl hl.1 rfl (Nat.le_of_ble_eq_true rfl) dX12_good_18 (fun v w H locs hp hS => ?_)
      obtain ⟨rfl, u3, u4, rfl⟩ := hp
      have q5 := goodS_rng hC0 n p
      refine li_goto (tgt := 27) hC (by decide) dX12_good_21 ?_
      exact hQ _ _ _ _ _ _ _ _ dX12_good_27 hS (by omega) (by omega) (⟨iI_inj (by first | (rw [iteP_t (by omega)]; done) | (rw [iteP_f (by omega)]; done)), _, _, rfl⟩)
set_option maxHeartbeats 4000000 in
set_option maxRecDepth 100000 in
theorem c_X12_told (l : Launch) (g : GG) (h0 : Nat) (ad : Nat → Nat) (F : Nat → Int) (A : Nat → Nat → Int) (S : Nat → Int) (hSA : A 1 = S) (what : Int) (hw : rng what) (hI : InvD S) (hH : InvH S) (hC0 : InvC S) (sz : Nat) : MwrI l g yX12_told cX12_told 5 7 0 0 [.ref h0, .int (iI what)] sz (RW g h0 ad F A) (fun v w => v = iI (toldS S what) ∧ ∃ f9 f10, w = RW g h0 ad F (va_up (va_up A 9 f9) 10 f10)) := by
  subst hSA
  refine wr_startI (own := RX12) (by decide) rfl (Nat.le_of_ble_eq_true rfl) ?_
  intro Pg Ev s Mi args below Mt Cd ls Q Aw hC hK hS hnm hl hQ
  have hD0 := hI.1
  have hH0 := hH.1
  have hl : lv_has ls 5 [(0, .ref h0), (1, .int (iI what))] := hl
  obtain ⟨H, hH⟩ : ∃ H, H = s.heap := ⟨_, rfl⟩
  obtain ⟨locs, hlo⟩ : ∃ locs : List Loc, locs = [] := ⟨_, rfl⟩
  have hS : St g Aw s.heap H locs (RW g h0 ad F A) := by rw [hH, hlo]; exact hS
  have goal : W Pg l Ev (rmC 7 0 0) s Mi args below Mt Cd H locs 0 0 Q (F0 Mi 0 ls []) := ?goal
  · rw [hH, hlo] at goal; exact goal
  clear hH hlo
  refine li_iconst hC dX12_told_0 ?_
  refine li_istore_n hC (lv' := [(2, .int (iI 0)), (0, .ref h0), (1, .int (iI what))]) hl (by decide) rfl dX12_told_1 (fun ls hl => ?_)
  refine li_iconst hC dX12_told_2 ?_
  refine li_istore_n hC (lv' := [(3, .int (iI 0)), (2, .int (iI 0)), (0, .ref h0), (1, .int (iI what))]) hl (by decide) rfl dX12_told_3 (fun ls hl => ?_)
  refine li_iconst hC dX12_told_4 ?_
  refine li_istore hC (lv' := [(4, .int (iI 0)), (3, .int (iI 0)), (2, .int (iI 0)), (0, .ref h0), (1, .int (iI what))]) hl (by decide) rfl dX12_told_5 (fun ls hl => ?_)
  have L7_1 : ∀ (fuel : Nat) (n : Int) (z : Int) (z2 : Int) (ls : Array Slot) (H : Heap) (locs : List Loc), St g Aw s.heap H locs (RW g h0 ad F A) → lv_has ls 5 [(0, .ref h0), (1, .int (iI what)), (2, .int (iI z)), (3, .int (iI z2)), (4, .int (iI n))] → (0 ≤ n ∧ n ≤ (A 1) 0) → (z = setB (mistS (A 1)) n.toNat) → (z2 = setB (fun n => (A 1) (42 + n).toNat ≠ 4) n.toNat) → (((A 1) 0 - n).toNat) < fuel → W Pg l Ev (rmC 7 0 0) s Mi args below Mt Cd H locs 0 0 Q (F0 Mi 7 ls []) := by
    intro fuel
    induction fuel with
    | zero => intro n z z2 ls H locs hS hl hn hz hz2 hm; exact absurd hm (Nat.not_lt_zero _)
    | succ fuel ih =>
      intro n z z2 ls H locs hS hl hn hz hz2 hm
      refine li_iload hC hl 4 rfl dX12_told_7 ?_
      refine li_aload_n hC hl 0 rfl dX12_told_9 ?_
      refine li_get hC hK.1 ck_X12 (hS.1 0 _ rfl) 1 (by decide) fl_X12_9 rfl (v := .ref (ad 1)) rfl dX12_told_10 ?_
      refine li_iconst hC dX12_told_13 ?_
      refine li_iald_k (k := 0) (f := (A 1)) hC hK.1 (hS.1 1 _ rfl) rfl (by decide) (by decide) dX12_told_14 ?_
      refine li_icmp_ge (tgt := 69) hC (by decide) (rg (by omega) (by omega)) (rg (by omega) (by omega)) dX12_told_15 (fun c2 => ?_) (fun c2 => ?_)
      · have hn0 : n = (A 1) 0 := by omega
        rw [hn0] at hz hz2
        refine li_iload_n hC hl 1 rfl dX12_told_69 ?_
        by_cases c3 : what = 0
        · refine li_tableIn (tgt := 108) hC hw (by omega) (by omega) (off := 38) (by rw [c3]; rfl) (by decide) dX12_told_70 ?_
          refine li_aload_n hC hl 0 rfl dX12_told_108 ?_
          refine ro_callVi hC (c_X12_wideNow l g h0 (A 1) hH) mk_X12_wideNow ml_X12_164 (rr (by decide)) ⟨Nat.le_of_ble_eq_true rfl, Nat.le_of_ble_eq_true rfl⟩ hK.1 (hS.ro hK) (RW_pic (F := F) (A := A) hS) (li_recv hK.1 ck_X12 (hS.1 0 _ rfl)) rfl hl.1 rfl (Nat.le_of_ble_eq_true rfl) dX12_told_109 ?_
          have q4 := wideS_rng (A 1)
          exact hQ _ _ _ _ _ _ _ _ dX12_told_112 hS (by omega) (by omega) (⟨iI_inj (by unfold toldS; (repeat' split) <;> first | rfl | omega | exact hz | exact hz2), (A 9), (A 10), rfl⟩)
        by_cases c5 : what = 1
        · refine li_tableIn (tgt := 113) hC hw (by omega) (by omega) (off := 43) (by rw [c5]; rfl) (by decide) dX12_told_70 ?_
          refine li_aload_n hC hl 0 rfl dX12_told_113 ?_
          refine ro_callVi hC (c_X12_riverNow l g h0 (A 1) hH) mk_X12_riverNow ml_X12_174 (rr (by decide)) ⟨Nat.le_of_ble_eq_true rfl, Nat.le_of_ble_eq_true rfl⟩ hK.1 (hS.ro hK) (RW_pic (F := F) (A := A) hS) (li_recv hK.1 ck_X12 (hS.1 0 _ rfl)) rfl hl.1 rfl (Nat.le_of_ble_eq_true rfl) dX12_told_114 ?_
          exact hQ _ _ _ _ _ _ _ _ dX12_told_117 hS (by omega) (by omega) (⟨iI_inj (by unfold toldS; (repeat' split) <;> first | rfl | omega | exact hz | exact hz2), (A 9), (A 10), rfl⟩)
        by_cases c6 : what = 2
        · refine li_tableIn (tgt := 118) hC hw (by omega) (by omega) (off := 48) (by rw [c6]; rfl) (by decide) dX12_told_70 ?_
          refine li_aload_n hC hl 0 rfl dX12_told_118 ?_
          refine ro_callVi hC (c_X12_manyLaid l g h0 (A 1) hI) mk_X12_manyLaid ml_X12_211 (rr (by decide)) ⟨Nat.le_of_ble_eq_true rfl, Nat.le_of_ble_eq_true rfl⟩ hK.1 (hS.ro hK) (RW_pic (F := F) (A := A) hS) (li_recv hK.1 ck_X12 (hS.1 0 _ rfl)) rfl hl.1 rfl (Nat.le_of_ble_eq_true rfl) dX12_told_119 ?_
          have q7 := laidS_rng hI
          exact hQ _ _ _ _ _ _ _ _ dX12_told_122 hS (by omega) (by omega) (⟨iI_inj (by unfold toldS; (repeat' split) <;> first | rfl | omega | exact hz | exact hz2), (A 9), (A 10), rfl⟩)
        by_cases c8 : what = 3
        · refine li_tableIn (tgt := 123) hC hw (by omega) (by omega) (off := 53) (by rw [c8]; rfl) (by decide) dX12_told_70 ?_
          refine li_aload_n hC hl 0 rfl dX12_told_123 ?_
          refine wr_callVi hC (c_X12_scoreNow l g h0 ad F A (A 1) rfl hI hH hC0 _) mk_X12_scoreNow ml_X12_214 (rr (by decide)) ⟨by simp only [rmC]; omega, by simp only [rmC]; omega⟩ hK hS (li_recv hK.1 ck_X12 (hS.1 0 _ rfl)) rfl hl.1 rfl (Nat.le_of_ble_eq_true rfl) dX12_told_124 (fun v w H locs hp hS => ?_)
          obtain ⟨rfl, u9, u10, rfl⟩ := hp
          have q11 := scoreS_rng hI hC0
          exact hQ _ _ _ _ _ _ _ _ dX12_told_127 hS (by omega) (by omega) (⟨iI_inj (by unfold toldS; (repeat' split) <;> first | rfl | omega | exact hz | exact hz2), _, _, rfl⟩)
        by_cases c12 : what = 4
        · refine li_tableIn (tgt := 128) hC hw (by omega) (by omega) (off := 58) (by rw [c12]; rfl) (by decide) dX12_told_70 ?_
          refine li_iload_n hC hl 2 rfl dX12_told_128 ?_
          exact hQ _ _ _ _ _ _ _ _ dX12_told_129 hS (by omega) (by omega) (⟨iI_inj (by unfold toldS; (repeat' split) <;> first | rfl | omega | exact hz | exact hz2), (A 9), (A 10), rfl⟩)
        by_cases c13 : what = 5
        · refine li_tableIn (tgt := 130) hC hw (by omega) (by omega) (off := 60) (by rw [c13]; rfl) (by decide) dX12_told_70 ?_
          refine li_iload_n hC hl 3 rfl dX12_told_130 ?_
          exact hQ _ _ _ _ _ _ _ _ dX12_told_131 hS (by omega) (by omega) (⟨iI_inj (by unfold toldS; (repeat' split) <;> first | rfl | omega | exact hz | exact hz2), (A 9), (A 10), rfl⟩)
        refine li_tableOut (tgt := 132) hC hw (by omega) (by decide) dX12_told_70 ?_
        refine li_sipush hC (z := -10001) rfl dX12_told_132 ?_
        exact hQ _ _ _ _ _ _ _ _ dX12_told_135 hS (by omega) (by omega) (⟨iI_inj (by unfold toldS; (repeat' split) <;> first | rfl | omega | exact hz | exact hz2), (A 9), (A 10), rfl⟩)
      · refine li_iload_n hC hl 2 rfl dX12_told_18 ?_
        refine li_aload_n hC hl 0 rfl dX12_told_19 ?_
        refine li_iload hC hl 4 rfl dX12_told_20 ?_
        refine ro_callVi hC (c_X12_isMistaken l g h0 (A 1) n (by omega) hI) mk_X12_isMistaken ml_X12_208 (rr (by decide)) ⟨Nat.le_of_ble_eq_true rfl, Nat.le_of_ble_eq_true rfl⟩ hK.1 (hS.ro hK) (RW_pic (F := F) (A := A) hS) (li_recv hK.1 ck_X12 (hS.1 0 _ rfl)) rfl hl.1 rfl (Nat.le_of_ble_eq_true rfl) dX12_told_22 ?_
        refine li_ifeq_b (tgt := 35) hC (by decide) dX12_told_25 (fun c14 => ?_) (fun c14 => ?_)
        · refine li_iconst hC dX12_told_35 ?_
          refine li_ior hC dX12_told_36 ?_
          refine li_istore_n hC (lv' := [(2, .int (iI (ior z 0))), (0, .ref h0), (1, .int (iI what)), (3, .int (iI z2)), (4, .int (iI n))]) hl (by decide) rfl dX12_told_37 (fun ls hl => ?_)
          refine li_iload_n hC hl 3 rfl dX12_told_38 ?_
          refine li_aload_n hC hl 1 rfl dX12_told_39 ?_
          refine li_get hC hK.1 ck_X12 (hS.1 0 _ rfl) 1 (by decide) fl_X12_9 rfl (v := .ref (ad 1)) rfl dX12_told_40 ?_
          refine li_bipush hC (z := 42) rfl dX12_told_43 ?_
          refine li_iload hC hl 4 rfl dX12_told_45 ?_
          refine li_iadd hC dX12_told_47 ?_
          refine li_iald (f := (A 1)) hC hK.1 (hS.1 1 _ rfl) ⟨by omega, by omega⟩ (by decide) dX12_told_48 ?_
          have q15 := hI.2 n (by omega) (by omega)
          refine li_iconst hC dX12_told_49 ?_
          refine li_icmp_ne (tgt := 57) hC (by decide) (rg (by omega) (by omega)) (rg (by decide) (by decide)) dX12_told_50 (fun c16 => ?_) (fun c16 => ?_)
          · refine li_iconst hC dX12_told_57 ?_
            refine li_iload hC hl 4 rfl dX12_told_58 ?_
            refine li_ishl hC dX12_told_60 ?_
            refine li_ior hC dX12_told_61 ?_
            refine li_istore_n hC (lv' := [(3, .int (iI (ior z2 (ishl 1 n)))), (2, .int (iI (ior z 0))), (0, .ref h0), (1, .int (iI what)), (4, .int (iI n))]) hl (by decide) rfl dX12_told_62 (fun ls hl => ?_)
            refine li_iinc hC (lv' := [(4, .int (iI (n + 1))), (3, .int (iI (ior z2 (ishl 1 n)))), (2, .int (iI (ior z 0))), (0, .ref h0), (1, .int (iI what))]) hl 4 rfl (by decide) rfl dX12_told_63 (fun ls hl => ?_)
            refine li_goto (tgt := 7) hC (by decide) dX12_told_66 ?_
            exact ih (n + 1) (ior z 0) (ior z2 (ishl 1 n)) _ _ _ hS (lv_sub hl [3, 4, 2, 1, 0] rfl) (by omega) (by rw [hz]; exact setB_f0 (P := (mistS (A 1))) hn.1 (by omega) (by assumption)) (by rw [hz2]; exact setB_t (P := (fun n => (A 1) (42 + n).toNat ≠ 4)) hn.1 (by omega) (by assumption)) (by omega)
          · refine li_iconst hC dX12_told_53 ?_
            refine li_goto (tgt := 61) hC (by decide) dX12_told_54 ?_
            refine li_ior hC dX12_told_61 ?_
            refine li_istore_n hC (lv' := [(3, .int (iI (ior z2 0))), (2, .int (iI (ior z 0))), (0, .ref h0), (1, .int (iI what)), (4, .int (iI n))]) hl (by decide) rfl dX12_told_62 (fun ls hl => ?_)
            refine li_iinc hC (lv' := [(4, .int (iI (n + 1))), (3, .int (iI (ior z2 0))), (2, .int (iI (ior z 0))), (0, .ref h0), (1, .int (iI what))]) hl 4 rfl (by decide) rfl dX12_told_63 (fun ls hl => ?_)
            refine li_goto (tgt := 7) hC (by decide) dX12_told_66 ?_
            exact ih (n + 1) (ior z 0) (ior z2 0) _ _ _ hS (lv_sub hl [3, 4, 2, 1, 0] rfl) (by omega) (by rw [hz]; exact setB_f0 (P := (mistS (A 1))) hn.1 (by omega) (by assumption)) (by rw [hz2]; exact setB_f0 (P := (fun n => (A 1) (42 + n).toNat ≠ 4)) hn.1 (by omega) (fun h => h (by assumption))) (by omega)
        · refine li_iconst hC dX12_told_28 ?_
          refine li_iload hC hl 4 rfl dX12_told_29 ?_
          refine li_ishl hC dX12_told_31 ?_
          refine li_goto (tgt := 36) hC (by decide) dX12_told_32 ?_
          refine li_ior hC dX12_told_36 ?_
          refine li_istore_n hC (lv' := [(2, .int (iI (ior z (ishl 1 n)))), (0, .ref h0), (1, .int (iI what)), (3, .int (iI z2)), (4, .int (iI n))]) hl (by decide) rfl dX12_told_37 (fun ls hl => ?_)
          refine li_iload_n hC hl 3 rfl dX12_told_38 ?_
          refine li_aload_n hC hl 1 rfl dX12_told_39 ?_
          refine li_get hC hK.1 ck_X12 (hS.1 0 _ rfl) 1 (by decide) fl_X12_9 rfl (v := .ref (ad 1)) rfl dX12_told_40 ?_
          refine li_bipush hC (z := 42) rfl dX12_told_43 ?_
          refine li_iload hC hl 4 rfl dX12_told_45 ?_
          refine li_iadd hC dX12_told_47 ?_
          refine li_iald (f := (A 1)) hC hK.1 (hS.1 1 _ rfl) ⟨by omega, by omega⟩ (by decide) dX12_told_48 ?_
          have q17 := hI.2 n (by omega) (by omega)
          refine li_iconst hC dX12_told_49 ?_
          refine li_icmp_ne (tgt := 57) hC (by decide) (rg (by omega) (by omega)) (rg (by decide) (by decide)) dX12_told_50 (fun c18 => ?_) (fun c18 => ?_)
          · refine li_iconst hC dX12_told_57 ?_
            refine li_iload hC hl 4 rfl dX12_told_58 ?_
            refine li_ishl hC dX12_told_60 ?_
            refine li_ior hC dX12_told_61 ?_
            refine li_istore_n hC (lv' := [(3, .int (iI (ior z2 (ishl 1 n)))), (2, .int (iI (ior z (ishl 1 n)))), (0, .ref h0), (1, .int (iI what)), (4, .int (iI n))]) hl (by decide) rfl dX12_told_62 (fun ls hl => ?_)
            refine li_iinc hC (lv' := [(4, .int (iI (n + 1))), (3, .int (iI (ior z2 (ishl 1 n)))), (2, .int (iI (ior z (ishl 1 n)))), (0, .ref h0), (1, .int (iI what))]) hl 4 rfl (by decide) rfl dX12_told_63 (fun ls hl => ?_)
            refine li_goto (tgt := 7) hC (by decide) dX12_told_66 ?_
            exact ih (n + 1) (ior z (ishl 1 n)) (ior z2 (ishl 1 n)) _ _ _ hS (lv_sub hl [3, 4, 2, 1, 0] rfl) (by omega) (by rw [hz]; exact setB_t (P := (mistS (A 1))) hn.1 (by omega) (by assumption)) (by rw [hz2]; exact setB_t (P := (fun n => (A 1) (42 + n).toNat ≠ 4)) hn.1 (by omega) (by assumption)) (by omega)
          · refine li_iconst hC dX12_told_53 ?_
            refine li_goto (tgt := 61) hC (by decide) dX12_told_54 ?_
            refine li_ior hC dX12_told_61 ?_
            refine li_istore_n hC (lv' := [(3, .int (iI (ior z2 0))), (2, .int (iI (ior z (ishl 1 n)))), (0, .ref h0), (1, .int (iI what)), (4, .int (iI n))]) hl (by decide) rfl dX12_told_62 (fun ls hl => ?_)
            refine li_iinc hC (lv' := [(4, .int (iI (n + 1))), (3, .int (iI (ior z2 0))), (2, .int (iI (ior z (ishl 1 n)))), (0, .ref h0), (1, .int (iI what))]) hl 4 rfl (by decide) rfl dX12_told_63 (fun ls hl => ?_)
            refine li_goto (tgt := 7) hC (by decide) dX12_told_66 ?_
            exact ih (n + 1) (ior z (ishl 1 n)) (ior z2 0) _ _ _ hS (lv_sub hl [3, 4, 2, 1, 0] rfl) (by omega) (by rw [hz]; exact setB_t (P := (mistS (A 1))) hn.1 (by omega) (by assumption)) (by rw [hz2]; exact setB_f0 (P := (fun n => (A 1) (42 + n).toNat ≠ 4)) hn.1 (by omega) (fun h => h (by assumption))) (by omega)
  exact L7_1 ((((A 1) 0 - 0).toNat) + 1) 0 0 0 _ _ _ hS (lv_sub hl [3, 4, 2, 1, 0] rfl) (by omega) (by rfl) (by rfl) (by omega)
set_option maxHeartbeats 4000000 in
set_option maxRecDepth 100000 in
theorem c_X12_mean (l : Launch) (g : GG) (h0 : Nat) (ad : Nat → Nat) (F : Nat → Int) (A : Nat → Nat → Int) (S : Nat → Int) (hSA : A 1 = S) (part : Int) (hw : rng part) (hI : InvD S) (hH : InvH S) (hC0 : InvC S) (sz : Nat) : MwrJ l g yX12_mean cX12_mean 2 7 0 0 [.ref h0, .int (iI part)] sz (RW g h0 ad F A) (fun v w => v = jI (meanS S part) ∧ ∃ f9 f10, w = RW g h0 ad F (va_up (va_up A 9 f9) 10 f10)) := by
  subst hSA
  refine wr_startJ (own := RX12) (by decide) rfl (Nat.le_of_ble_eq_true rfl) ?_
  intro Pg Ev s Mi args below Mt Cd ls Q Aw hC hK hS hnm hl hQ
  have hD0 := hI.1
  have hH0 := hH.1
  have hl : lv_has ls 2 [(0, .ref h0), (1, .int (iI part))] := hl
  obtain ⟨H, hH⟩ : ∃ H, H = s.heap := ⟨_, rfl⟩
  obtain ⟨locs, hlo⟩ : ∃ locs : List Loc, locs = [] := ⟨_, rfl⟩
  have hS : St g Aw s.heap H locs (RW g h0 ad F A) := by rw [hH, hlo]; exact hS
  have goal : W Pg l Ev (rmC 7 0 0) s Mi args below Mt Cd H locs 0 0 Q (F0 Mi 0 ls []) := ?goal
  · rw [hH, hlo] at goal; exact goal
  clear hH hlo
  refine li_iload_n hC hl 1 rfl dX12_mean_0 ?_
  refine li_iconst hC dX12_mean_1 ?_
  refine li_iconst hC dX12_mean_2 ?_
  refine ro_callSi hC (c_X12_in l g part 0 1 hw (rg (by decide) (by decide)) (rg (by decide) (by decide))) mk_X12_in ml_X12_56 (rr (by decide)) ⟨Nat.le_of_ble_eq_true rfl, Nat.le_of_ble_eq_true rfl⟩ hK.1 (hS.ro hK) trivial rfl hl.1 rfl (Nat.le_of_ble_eq_true rfl) dX12_mean_3 ?_
  refine li_ifeq_b (tgt := 16) hC (by decide) dX12_mean_6 (fun c1 => ?_) (fun c1 => ?_)
  · refine li_ldc2 hC (z := -9223372036854775808) kl_X12_277 rfl dX12_mean_16 ?_
    exact hQ _ _ _ _ _ _ _ _ dX12_mean_19 hS (by omega) (by omega) (⟨jI_inj (by unfold meanS; first | (rw [iteP_t ⟨by omega, by omega⟩]; done) | (rw [iteP_f (by omega)]; done)), (A 9), (A 10), rfl⟩)
  · refine li_aload_n hC hl 0 rfl dX12_mean_9 ?_
    refine ro_callVi hC (c_X12_manyLaid l g h0 (A 1) hI) mk_X12_manyLaid ml_X12_211 (rr (by decide)) ⟨Nat.le_of_ble_eq_true rfl, Nat.le_of_ble_eq_true rfl⟩ hK.1 (hS.ro hK) (RW_pic (F := F) (A := A) hS) (li_recv hK.1 ck_X12 (hS.1 0 _ rfl)) rfl hl.1 rfl (Nat.le_of_ble_eq_true rfl) dX12_mean_10 ?_
    have q2 := laidS_rng hI
    refine li_if_ne (tgt := 20) hC (by decide) (rg (by omega) (by omega)) dX12_mean_13 (fun c3 => ?_) (fun c3 => ?_)
    · refine li_aload_n hC hl 0 rfl dX12_mean_20 ?_
      refine wr_callVi hC (c_X12_scoreNow l g h0 ad F A (A 1) rfl hI hH hC0 _) mk_X12_scoreNow ml_X12_214 (rr (by decide)) ⟨by simp only [rmC]; omega, by simp only [rmC]; omega⟩ hK hS (li_recv hK.1 ck_X12 (hS.1 0 _ rfl)) rfl hl.1 rfl (Nat.le_of_ble_eq_true rfl) dX12_mean_21 (fun v w H locs hp hS => ?_)
      obtain ⟨rfl, u4, u5, rfl⟩ := hp
      have q6 := scoreS_rng hI hC0
      refine li_i2l hC (rg (by omega) (by omega)) dX12_mean_24 ?_
      refine li_aload_n hC hl 0 rfl dX12_mean_25 ?_
      refine ro_callVi hC (c_X12_manyLaid l g h0 (A 1) hI) mk_X12_manyLaid ml_X12_211 (rr (by decide)) ⟨Nat.le_of_ble_eq_true rfl, Nat.le_of_ble_eq_true rfl⟩ hK.1 (hS.ro hK) (RW_pic (F := F) (A := va_up (va_up A 9 u4) 10 u5) hS) (li_recv hK.1 ck_X12 (hS.1 0 _ rfl)) rfl hl.1 rfl (Nat.le_of_ble_eq_true rfl) dX12_mean_26 ?_
      have q7 := laidS_rng hI
      refine li_i2l hC (rg (by omega) (by omega)) dX12_mean_29 ?_
      refine li_iload_n hC hl 1 rfl dX12_mean_30 ?_
      refine ro_callSl hC (c_X12_lowest l g (scoreS (A 1)) (laidS (A 1)) part (by omega) (by omega) (by omega)) mk_X12_lowest ml_X12_279 (rr (by decide)) ⟨Nat.le_of_ble_eq_true rfl, Nat.le_of_ble_eq_true rfl⟩ hK.1 (hS.ro hK) trivial rfl hl.1 rfl (Nat.le_of_ble_eq_true rfl) dX12_mean_31 ?_
      exact hQ _ _ _ _ _ _ _ _ dX12_mean_34 hS (by omega) (by omega) (⟨jI_inj (by unfold meanS; first | (rw [iteP_t ⟨by omega, by omega⟩]; done) | (rw [iteP_f (by omega)]; done)), _, _, rfl⟩)
    · refine li_ldc2 hC (z := -9223372036854775808) kl_X12_277 rfl dX12_mean_16 ?_
      exact hQ _ _ _ _ _ _ _ _ dX12_mean_19 hS (by omega) (by omega) (⟨jI_inj (by unfold meanS; first | (rw [iteP_t ⟨by omega, by omega⟩]; done) | (rw [iteP_f (by omega)]; done)), (A 9), (A 10), rfl⟩)
