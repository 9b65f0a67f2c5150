/-! THE START: what the machine knows -/
theorem memT {w : Cond} (i : Nat) (h : tables_1[i]? = some w) : w ∈ lw_tbl := List.mem_append_right _ (List.mem_of_getElem? h)
def narL : List Cond := flatC (Jvm.Cond.and given_1 narrow_1)
def tmS (i : Nat) : Term := Term.string "NamesNoTouch$Reader" (match i with | 0 => 55 | 1 => 57 | 2 => 75 | 3 => 77 | 4 => 100 | _ => 106)
set_option maxRecDepth 100000 in
theorem s_ex : ∀ i : Nat, i < 6 → Cond.exactly (tmS i) "java/lang/String" ∈ narL := by decide +kernel
set_option maxRecDepth 100000 in
theorem s_co : ∀ i : Nat, i < 6 → Cond.eq (.field (tmS i) "java/lang/String" "coder" "B") (.int 0) ∈ narL := by decide +kernel
set_option maxRecDepth 100000 in
theorem s_ar : ∀ i : Nat, i < 6 → Cond.arrayOf (.field (tmS i) "java/lang/String" "value" "[B") .byte ∈ narL := by decide +kernel
set_option maxRecDepth 100000 in
theorem s_le : ∀ i : Nat, i < 6 → Cond.eq (.length (.field (tmS i) "java/lang/String" "value" "[B")) (.int (Int32.ofNat (sLen.getD i 0))) ∈ narL := by decide +kernel
set_option maxRecDepth 100000 in
theorem s_el : ∀ i : Nat, i < 6 → ∀ j : Nat, j < sLen.getD i 0 → Cond.eq (.elem (.field (tmS i) "java/lang/String" "value" "[B") (.int (Int32.ofNat j))) (.int ((sByt.getD i []).getD j 0)) ∈ narL := by decide +kernel
set_option maxRecDepth 100000 in
theorem s_ne : ∀ i : Nat, i < 6 → ∀ j : Nat, j < 6 → i ≠ j → Cond.not (Cond.eq (tmS i) (tmS j)) ∈ narL ∨ Cond.not (Cond.eq (tmS j) (tmS i)) ∈ narL := by decide +kernel
set_option maxRecDepth 100000 in
theorem s_nc : ∀ q ∈ ncL, Cond.not (Cond.castable q.1 q.2) ∈ narL := by decide +kernel
set_option maxRecDepth 100000 in
theorem s_ca : ∀ q ∈ caL, Cond.castable q.1 q.2 ∈ lw_tbl := by decide +kernel
theorem s_r0 : Cond.stringRef "NamesNoTouch$Reader" 55 "love " ∈ lw_tbl := memT 335 (by decide +kernel)
theorem s_m0 : Cond.stringRef "NamesNoTouchModel" 128 "love " ∈ lw_tbl := memT 1292 (by decide +kernel)
set_option maxRecDepth 100000 in
theorem s_q0 : Cond.eq (Term.string "NamesNoTouch$Reader" 55) (Term.string "NamesNoTouchModel" 128) ∈ narL := by decide +kernel
theorem s_r1 : Cond.stringRef "NamesNoTouch$Reader" 57 "bore " ∈ lw_tbl := memT 336 (by decide +kernel)
theorem s_m1 : Cond.stringRef "NamesNoTouchModel" 133 "bore " ∈ lw_tbl := memT 1319 (by decide +kernel)
set_option maxRecDepth 100000 in
theorem s_q1 : Cond.eq (Term.string "NamesNoTouch$Reader" 57) (Term.string "NamesNoTouchModel" 133) ∈ narL := by decide +kernel
theorem s_r2 : Cond.stringRef "NamesNoTouch$Reader" 75 "wide " ∈ lw_tbl := memT 269 (by decide +kernel)
theorem s_m2 : Cond.stringRef "NamesNoTouchModel" 120 "wide " ∈ lw_tbl := memT 1272 (by decide +kernel)
set_option maxRecDepth 100000 in
theorem s_q2 : Cond.eq (Term.string "NamesNoTouch$Reader" 75) (Term.string "NamesNoTouchModel" 120) ∈ narL := by decide +kernel
theorem s_r3 : Cond.stringRef "NamesNoTouch$Reader" 77 "river " ∈ lw_tbl := memT 270 (by decide +kernel)
theorem s_m3 : Cond.stringRef "NamesNoTouchModel" 126 "river " ∈ lw_tbl := memT 1291 (by decide +kernel)
set_option maxRecDepth 100000 in
theorem s_q3 : Cond.eq (Term.string "NamesNoTouch$Reader" 77) (Term.string "NamesNoTouchModel" 126) ∈ narL := by decide +kernel
theorem s_r4 : Cond.stringRef "NamesNoTouch$Reader" 100 "nkvpxl" ∈ lw_tbl := memT 353 (by decide +kernel)
theorem s_m4 : Cond.stringRef "NamesNoTouchModel" 102 "nkvpxl" ∈ lw_tbl := memT 1313 (by decide +kernel)
set_option maxRecDepth 100000 in
theorem s_q4 : Cond.eq (Term.string "NamesNoTouch$Reader" 100) (Term.string "NamesNoTouchModel" 102) ∈ narL := by decide +kernel
theorem s_r5 : Cond.stringRef "NamesNoTouch$Reader" 106 "<=>" ∈ lw_tbl := memT 358 (by decide +kernel)
theorem s_m5 : Cond.stringRef "NamesNoTouchModel" 108 "<=>" ∈ lw_tbl := memT 1318 (by decide +kernel)
set_option maxRecDepth 100000 in
theorem s_q5 : Cond.eq (Term.string "NamesNoTouch$Reader" 106) (Term.string "NamesNoTouchModel" 108) ∈ narL := by decide +kernel
theorem arr_K {U : State} {args : Array Value} {ty : FieldType} (h : (Cond.arrayClass ty).before args U = true) : ∃ cA : ClassId, ArrOfT U cA ty ∧ U.vm.findClass ("[" ++ ty.toString) = some cA := by
  obtain ⟨cA, kA, comp, h1, h2, h3⟩ := Cond.arrayClass_spec h
  exact ⟨cA, fun n z => ⟨fun k h => (by cases h), kA, h2, comp, h3⟩, h1⟩
theorem arr_Q {U : State} {C : String} (h : va_AO C U) : ∃ cA : ClassId, ArrOfT U cA (.object C) ∧ va_RA U cA (.object C) := by
  obtain ⟨comp, c, k, h1, h2, h3, h4, h5⟩ := Cond.arrayOver_spec h
  exact ⟨c, fun N z => ⟨(fun k h => by cases h), k, h3, comp, h4⟩, k, comp, h3, h4, h1, h5⟩
set_option maxHeartbeats 4000000 in
set_option maxRecDepth 100000 in
theorem entry_g {s : State} {args : Array Value} (hts : ∀ w ∈ lw_tbl, w.before args s = true) (hgv : (Jvm.Cond.and given_1 narrow_1).before args s = true) {A : Nat → Prop} (hA : ∀ a : Nat, a < s.heap.size → ¬ A a) : ∃ g : GG, KU g s ∧ EnvG g A s s.heap := by
  have hq : ∀ c ∈ narL, c.before args s = true := flat_of_before _ hgv
  have hw : ∀ w ∈ allW, w.before args s = true := fun w h => hts w (allW_tbl w h)
  obtain ⟨k0, i0, hKn0⟩ := u_known (C := RJx4a65c) (T := TJx4a65c) (N := 3) (n := 3) hw ck_Jx4a65c.2.1 (hw _ it_Jx4a65c)
  obtain ⟨k1, i1, hKn1⟩ := u_known (C := RX0) (T := TX0) (N := 6) (n := 6) hw ck_X0.2.1 (hw _ it_X0)
  obtain ⟨k2, i2, hKn2⟩ := u_known (C := RX1) (T := TX1) (N := 6) (n := 6) hw ck_X1.2.1 (hw _ it_X1)
  obtain ⟨k3, i3, hKn3⟩ := u_known (C := RX2) (T := TX2) (N := 6) (n := 6) hw ck_X2.2.1 (hw _ it_X2)
  obtain ⟨k4, i4, hKn4⟩ := u_known (C := RX3) (T := TX3) (N := 6) (n := 6) hw ck_X3.2.1 (hw _ it_X3)
  obtain ⟨k5, i5, hKn5⟩ := u_known (C := RX4) (T := TX4) (N := 6) (n := 6) hw ck_X4.2.1 (hw _ it_X4)
  obtain ⟨k6, i6, hKn6⟩ := u_known (C := RX5) (T := TX5) (N := 6) (n := 6) hw ck_X5.2.1 (hw _ it_X5)
  obtain ⟨k7, i7, hKn7⟩ := u_known (C := RX6) (T := TX6) (N := 2) (n := 2) hw ck_X6.2.1 (hw _ it_X6)
  obtain ⟨k8, i8, hKn8⟩ := u_known (C := RX7) (T := TX7) (N := 11) (n := 11) hw ck_X7.2.1 (hw _ it_X7)
  obtain ⟨k9, i9, hKn9⟩ := u_known (C := RX8) (T := TX8) (N := 12) (n := 12) hw ck_X8.2.1 (hw _ it_X8)
  obtain ⟨k10, i10, hKn10⟩ := u_known (C := RX9) (T := TX9) (N := 6) (n := 6) hw ck_X9.2.1 (hw _ it_X9)
  obtain ⟨k11, i11, hKn11⟩ := u_known (C := RX10) (T := TX10) (N := 6) (n := 6) hw ck_X10.2.1 (hw _ it_X10)
  obtain ⟨k12, i12, hKn12⟩ := u_known (C := RX11) (T := TX11) (N := 6) (n := 6) hw ck_X11.2.1 (hw _ it_X11)
  obtain ⟨k13, i13, hKn13⟩ := u_known (C := RX12) (T := TX12) (N := 28) (n := 28) hw ck_X12.2.1 (hw _ it_X12)
  obtain ⟨dC, dI, hKc⟩ : ∃ (dC : Nat → ClassId) (dI : Nat → Nat → Nat), ∀ (k : Nat) (q : vw_C), vwCl[k]? = some q → u_Kn s q.1 q.2.1 q.2.2 (dC k) (dI k) := by
    refine ⟨fun k => [k0, k1, k2, k3, k4, k5, k6, k7, k8, k9, k10, k11, k12, k13].getD k k0, fun k => [i0, i1, i2, i3, i4, i5, i6, i7, i8, i9, i10, i11, i12, i13].getD k i0, ?_⟩
    intro k q hq
    match k, hq with
    | 0, hq => cases hq; exact hKn0
    | 1, hq => cases hq; exact hKn1
    | 2, hq => cases hq; exact hKn2
    | 3, hq => cases hq; exact hKn3
    | 4, hq => cases hq; exact hKn4
    | 5, hq => cases hq; exact hKn5
    | 6, hq => cases hq; exact hKn6
    | 7, hq => cases hq; exact hKn7
    | 8, hq => cases hq; exact hKn8
    | 9, hq => cases hq; exact hKn9
    | 10, hq => cases hq; exact hKn10
    | 11, hq => cases hq; exact hKn11
    | 12, hq => cases hq; exact hKn12
    | 13, hq => cases hq; exact hKn13
    | k + 14, hq => simp [vwCl] at hq
  obtain ⟨cI, aI1, aI2⟩ := arr_K (hw _ ac_int)
  obtain ⟨cZ, aZ1, aZ2⟩ := arr_K (hw _ ac_boolean)
  have hAO : va_AO "java/lang/Object" s := va_AO.of (hts _ (memT 603 (by decide +kernel)))
  obtain ⟨cO, aO1, aO2⟩ := arr_Q hAO
  obtain ⟨adK, adV, hVS, hSe⟩ := vk_Sof (N := 6) (tm := tmS) (len := sLen) (byt := sByt) (A := A) (s := s) (args := args) (by decide) (fun i hi => hq _ (s_ex i hi)) (fun i hi => hq _ (s_co i hi)) (fun i hi => hq _ (s_ar i hi)) (fun i hi => hq _ (s_le i hi)) (fun i hi j hj => hq _ (s_el i hi j hj)) (fun i j hi hj h => (s_ne i hi j hj h).imp (hq _) (hq _)) hA
  obtain ⟨t0, ht0, hT0⟩ := va_Tof (args := args) (s := s) (tm := Term.static "java/util/ArrayList" "DEFAULTCAPACITY_EMPTY_ELEMENTDATA" "[Ljava/lang/Object;") (ty := .object "java/lang/Object") (N := 0) (f := fun _ => .null) (A := A) (by decide) (hq _ (by decide +kernel)) (va_eqt (hq _ (by decide +kernel))) (fun j hj => absurd hj (Nat.not_lt_zero _)) hA
  refine ⟨((dC, dI), (fun k => [cI, cZ, cO, t0].getD k 0), adK, adV), ⟨⟨hKc, fun k q hk => ?_⟩, ⟨va_Nw.of rfl (hts _ (memT 55 (by decide +kernel))), va_Nw.of rfl (hts _ (memT 757 (by decide +kernel))), va_Nw.of rfl (hts _ (memT 904 (by decide +kernel))), fun q h => va_Nc.of (hq _ (s_nc q h)), hAO, fun q h => va_Nw.of rfl (hts _ (s_ca q h))⟩, ?_⟩, ?_⟩
  · match k, hk with
    | 0, hk => cases hk; exact ⟨aI1, aI2⟩
    | 1, hk => cases hk; exact ⟨aZ1, aZ2⟩
    | 2, hk => cases hk; exact ⟨aO1, aO2⟩
    | k + 3, hk => simp [tys3] at hk
  · exact ⟨⟨vk_R.of (hts _ s_r0) (hSe 0 (by decide)), vk_R.of (hts _ s_r1) (hSe 1 (by decide)), vk_R.of (hts _ s_r2) (hSe 2 (by decide)), vk_R.of (hts _ s_r3) (hSe 3 (by decide)), vk_R.of (hts _ s_r4) (hSe 4 (by decide)), vk_R.of (hts _ s_r5) (hSe 5 (by decide))⟩, ⟨vk_R.of (hts _ s_m0) (va_eqR (hq _ s_q0) (hSe 0 (by decide))), vk_R.of (hts _ s_m1) (va_eqR (hq _ s_q1) (hSe 1 (by decide))), vk_R.of (hts _ s_m2) (va_eqR (hq _ s_q2) (hSe 2 (by decide))), vk_R.of (hts _ s_m3) (va_eqR (hq _ s_q3) (hSe 3 (by decide))), vk_R.of (hts _ s_m4) (va_eqR (hq _ s_q4) (hSe 4 (by decide))), vk_R.of (hts _ s_m5) (va_eqR (hq _ s_q5) (hSe 5 (by decide)))⟩⟩
  · exact ⟨va_Zref (hts _ (memT 74 (by decide +kernel))) (hts _ (memT 7 (by decide +kernel))) ht0 hA, hT0, va_Zof (hts _ (memT 284 (by decide +kernel))) (hts _ (memT 11 (by decide +kernel))) (va_eqi (hq _ (by decide +kernel))) hA, va_Zqof (hts _ (memT 300 (by decide +kernel))) (hts _ (memT 13 (by decide +kernel))) (hq _ (by decide +kernel)) hA, hVS⟩
