noncomputable def muchT (S : Nat → Int) (E kind : Int) (i : Nat) (t : PT) : PT :=
  emitT (kind - figV S E (spellT S E i (sLen.getD i 0) t)) (pT S E 500 2 0 (mustT S E 32 (figT S E (spellT S E i (sLen.getD i 0) t))))
noncomputable def tellB (S : Nat → Int) (ac E w0 : Int) (i : Nat) (t : PT) : Nat → Int := iteP ((figT S E (spellT S E i (sLen.getD i 0) t)).1 = 0) (va_up S (w0 + ac).toNat (figV S E (spellT S E i (sLen.getD i 0) t))) S
noncomputable def clauseT (S : Nat → Int) (E : Int) (t : PT) : PT :=
  if hereT S E t.2.1 = 119 then figT S E (spellT S E 2 5 t) else if hereT S E t.2.1 = 114 then figT S E (spellT S E 3 6 t)
  else if hereT S E t.2.1 = 108 then muchT S E (-10) 0 t else if hereT S E t.2.1 = 98 then muchT S E (-200) 1 t else (1, t.2.1, t.2.2)
noncomputable def clauseB (S : Nat → Int) (ac E : Int) (t : PT) : Nat → Int :=
  if hereT S E t.2.1 = 119 then tellB S ac E 224 2 t else if hereT S E t.2.1 = 114 then tellB S ac E 229 3 t else S
theorem mustT_q {S : Nat → Int} {E c : Int} {t : PT} (h : (mustT S E c t).1 = 0) : (mustT S E c t).2.1 = t.2.1 + 1 ∧ (mustT S E c t).2.2 = t.2.2 := by
  unfold mustT at h ⊢
  split
  · rename_i c1
    rw [if_pos c1] at h
    exact absurd (show (1 : Int) = 0 from h) (by decide)
  · exact ⟨rfl, rfl⟩
theorem spellT_w {S : Nat → Int} {E : Int} {i : Nat} {t : PT} (h : t.1 = 1) : ∀ k : Nat, spellT S E i k t = t
  | 0 => rfl
  | k + 1 => by
    rw [spellT, spellT_w h k]
    unfold mustT
    rw [if_pos (Or.inl (by omega)), ← h]
theorem much_ok {S : Nat → Int} {ac E kind : Int} {i : Nat} {t : PT} (hP : PIn S ac E) (hi : i < 6) (h : okT E t) : okT E (muchT S E kind i t) ∧ geT t (muchT S E kind i t) := by
  obtain ⟨a1, a2⟩ := spellT_ok hP hi h (sLen.getD i 0) (Nat.le_refl _)
  obtain ⟨b1, b2, b3, b4⟩ := figT_ok hP a1
  obtain ⟨c1, c2⟩ := mustT_ok hP b1 (show (0 : Int) ≤ 32 by decide)
  obtain ⟨d1, d2⟩ := pT_ok hP 500 2 0 _ c1
  have e := (a2.tr b2).tr c2
  have f := e.tr d2
  have c3 := c1.1
  have c4 := c1.2.2
  have g : (pT S E 500 2 0 (mustT S E 32 (figT S E (spellT S E i (sLen.getD i 0) t)))).1 = 0 → ((pT S E 500 2 0 (mustT S E 32 (figT S E (spellT S E i (sLen.getD i 0) t)))).2.2.length : Int) + 1 ≤ (pT S E 500 2 0 (mustT S E 32 (figT S E (spellT S E i (sLen.getD i 0) t)))).2.1 := by
    intro h9
    rcases (show (mustT S E 32 (figT S E (spellT S E i (sLen.getD i 0) t))).1 = 0 ∨ (mustT S E 32 (figT S E (spellT S E i (sLen.getD i 0) t))).1 = 1 by omega) with q | q
    · have m := mustT_q q
      have d3 := d2.2
      rw [m.1, m.2] at d3
      have b5 := b1.2.2
      omega
    · rw [pT_w _ _ _ _ (by omega)] at h9
      omega
  obtain ⟨e1, e2, e3, e4⟩ := emitT_ok (x := kind - figV S E (spellT S E i (sLen.getD i 0) t)) d1 g
  unfold muchT
  refine ⟨e1, ?_, ?_⟩
  · rw [← e2]; exact f.1
  · -- one told, and more than one read
    rcases (show (pT S E 500 2 0 (mustT S E 32 (figT S E (spellT S E i (sLen.getD i 0) t)))).1 = 0 ∨ (pT S E 500 2 0 (mustT S E 32 (figT S E (spellT S E i (sLen.getD i 0) t)))).1 = 1 by have := d1.1; omega) with q | q
    · rcases (show (mustT S E 32 (figT S E (spellT S E i (sLen.getD i 0) t))).1 = 0 ∨ (mustT S E 32 (figT S E (spellT S E i (sLen.getD i 0) t))).1 = 1 by omega) with r | r
      · have m := mustT_q r
        have d3 := d2.2
        rw [m.1, m.2] at d3
        have b5 := (a2.tr b2).2
        omega
      · rw [pT_w _ _ _ _ (by omega)] at q
        omega
    · have z : ∀ x, emitT x (pT S E 500 2 0 (mustT S E 32 (figT S E (spellT S E i (sLen.getD i 0) t)))) = pT S E 500 2 0 (mustT S E 32 (figT S E (spellT S E i (sLen.getD i 0) t))) := fun x => if_pos (by omega)
      rw [z]
      exact f.2
theorem tell_ok {S : Nat → Int} {ac E : Int} {i : Nat} {t : PT} (hP : PIn S ac E) (hi : i < 6) (h : okT E t) : okT E (figT S E (spellT S E i (sLen.getD i 0) t)) ∧ geT t (figT S E (spellT S E i (sLen.getD i 0) t)) ∧ (0 ≤ figV S E (spellT S E i (sLen.getD i 0) t) ∧ figV S E (spellT S E i (sLen.getD i 0) t) ≤ 99) := by
  obtain ⟨a1, a2⟩ := spellT_ok hP hi h (sLen.getD i 0) (Nat.le_refl _)
  obtain ⟨b1, b2, b3, b4⟩ := figT_ok hP a1
  exact ⟨b1, a2.tr b2, b3⟩
theorem clauseT_ok {S : Nat → Int} {ac E : Int} {t : PT} (hP : PIn S ac E) (h : okT E t) : okT E (clauseT S E t) ∧ geT t (clauseT S E t) := by
  have a := tell_ok (i := 2) hP (by decide) h
  have b := tell_ok (i := 3) hP (by decide) h
  have c := much_ok (kind := -10) (i := 0) hP (by decide) h
  have d := much_ok (kind := -200) (i := 1) hP (by decide) h
  unfold clauseT
  split
  · exact ⟨a.1, a.2.1⟩
  · split
    · exact ⟨b.1, b.2.1⟩
    · split
      · exact c
      · split
        · exact d
        · exact ⟨⟨⟨by show (0 : Int) ≤ 1; omega, by show (1 : Int) ≤ 1; omega⟩, h.2.1, h.2.2⟩, Int.le_refl _, Int.le_refl _⟩
/-- the bases: only 224 and 229 change -/
def sameB (ac : Int) (S T : Nat → Int) : Prop := ∀ j : Nat, j ≠ (224 + ac).toNat → j ≠ (229 + ac).toNat → T j = S j
theorem tellB_same {S : Nat → Int} {ac E w0 : Int} {i : Nat} {t : PT} (hw : w0 = 224 ∨ w0 = 229) : sameB ac S (tellB S ac E w0 i t) := by
  intro j h1 h2
  unfold tellB iteP
  split
  · rw [up_ne _ _ (by rcases hw with rfl | rfl <;> omega)]
  · rfl
theorem clauseB_same {S : Nat → Int} {ac E : Int} {t : PT} : sameB ac S (clauseB S ac E t) := by
  unfold clauseB
  split
  · exact tellB_same (Or.inl rfl)
  · split
    · exact tellB_same (Or.inr rfl)
    · exact fun _ _ _ => rfl
theorem sameB_PIn {S T : Nat → Int} {ac E : Int} (hP : PIn S ac E) (h : sameB ac S T) : PIn T ac E := by
  have h1 := hP.1
  have h2 := hP.2.1
  refine ⟨h1, h2, by rw [h _ (by omega) (by omega)]; exact hP.2.2.1, fun q a b => ?_⟩
  have e : tapS T q = tapS S q := h _ (by omega) (by omega)
  rw [e]
  exact hP.2.2.2 q a b
theorem sameB.tr {S T U : Nat → Int} {ac : Int} (h : sameB ac S T) (k : sameB ac T U) : sameB ac S U := fun j a b => by rw [k j a b, h j a b]
theorem emS_up {ac x : Int} {j : Nat} (hj : j < 234) (ha : 0 ≤ ac) : ∀ (L : List Int) (S : Nat → Int), 0 ≤ S (234 + ac).toNat → emS (va_up S j x) ac L = va_up (emS S ac L) j x := by
  intro L
  induction L with
  | nil => intro S _; rfl
  | cons y L ih =>
    intro S h0
    show emS (emit1 ac (va_up S j x) y) ac L = va_up (emS (emit1 ac S y) ac L) j x
    have e : emit1 ac (va_up S j x) y = va_up (emit1 ac S y) j x := by
      unfold emit1
      rw [up_ne _ _ (show (234 + ac).toNat ≠ j by omega)]
      funext k
      unfold va_up
      (repeat' split) <;> first | rfl | omega
    have e2 : emit1 ac S y (234 + ac).toNat = S (234 + ac).toNat + 1 := up_same _ _ _
    rw [e]
    exact ih _ (by rw [e2]; omega)
abbrev CT : Type := (Nat → Int) × PT
noncomputable def clauseC (ac E : Int) (x : CT) : CT := (clauseB x.1 ac E x.2, clauseT x.1 E x.2)
noncomputable def mlT (ac E : Int) : Nat → CT → CT
  | 0, x => x
  | k + 1, x => if x.2.1 = 0 ∧ hereT x.1 E x.2.2.1 = 59 then mlT ac E k (clauseC ac E (x.1, x.2.1, x.2.2.1 + 1, x.2.2.2)) else x
theorem mlT_s {ac E : Int} {n : Int} {x : CT} (hn : n < 10) (h : x.2.1 = 0) (h2 : hereT x.1 E x.2.2.1 = 59) : mlT ac E (10 - n).toNat x = mlT ac E (10 - (n + 1)).toNat (clauseC ac E (x.1, x.2.1, x.2.2.1 + 1, x.2.2.2)) := by
  have e : (10 - n).toNat = (10 - (n + 1)).toNat + 1 := by omega
  rw [e, mlT, if_pos ⟨h, h2⟩]
theorem mlT_e {ac E : Int} {n : Int} {x : CT} (h : 10 ≤ n ∨ x.2.1 ≠ 0 ∨ hereT x.1 E x.2.2.1 ≠ 59) : mlT ac E (10 - n).toNat x = x := by
  rcases (show 10 ≤ n ∨ n < 10 by omega) with q | q
  · rw [show (10 - n).toNat = 0 by omega, mlT]
  · have e : (10 - n).toNat = (10 - (n + 1)).toNat + 1 := by omega
    rw [e, mlT, if_neg (fun h9 => by rcases h with r | r | r; { omega }; { exact r h9.1 }; { exact r h9.2 })]
def mapB (S : Nat → Int) : Nat → Int := va_up (va_up (va_up (va_up S 5 0) (224 + S 1).toNat 24) (229 + S 1).toNat 99) (234 + S 1).toNat 0
noncomputable def mapX (S : Nat → Int) : CT := mlT (S 1) (S 5) 9 (clauseC (S 1) (S 5) (mapB S, 0, 0, []))
def mapBad (S : Nat → Int) (x : CT) : Prop := x.2.1 ≠ 0 ∨ x.2.2.1 ≠ S 5
noncomputable def mapS (S : Nat → Int) : Nat → Int := iteP (S 1 = 5) S (iteP (mapBad S (mapX S)) (emS (mapX S).1 (S 1) (mapX S).2.2.2) (va_up (va_up (emS (mapX S).1 (S 1) (mapX S).2.2.2) 1 (S 1 + 1)) 6 (S 1)))
noncomputable def mapR (S : Nat → Int) : Int := iteP (S 1 = 5) (-4) (iteP (mapBad S (mapX S)) (-10 - (mapX S).2.2.1) (S 1))
def InvT (S : Nat → Int) : Prop := (0 ≤ S 1 ∧ S 1 ≤ 5) ∧ (0 ≤ S 5 ∧ S 5 ≤ 100) ∧ ∀ q : Int, 0 ≤ q → q < S 5 → 0 ≤ tapS S q ∧ tapS S q ≤ 127
theorem mapB_PIn {S : Nat → Int} (h : InvT S) (h1 : S 1 ≠ 5) : PIn (mapB S) (S 1) (S 5) := by
  have a := h.1
  have b := h.2.1
  refine ⟨by omega, b, up_same _ _ _, fun q q1 q2 => ?_⟩
  have e : tapS (mapB S) q = tapS S q := by
    unfold tapS mapB
    rw [up_ne _ _ (by omega), up_ne _ _ (by omega), up_ne _ _ (by omega), up_ne _ _ (by omega)]
  rw [e]
  exact h.2.2 q q1 q2
set_option maxHeartbeats 4000000 in
set_option maxRecDepth 100000 in
theorem c_X12_much (l : Launch) (g : GG) (h0 : Nat) (ad : Nat → Nat) (F : Nat → Int) (A : Nat → Nat → Int) (S0 : Nat → Int) (ac : Int) (E : Int) (o : Int) (t : PT) (kind : Int) (i : Nat) (hP : PIn S0 ac E) (ht : okT E t) (hi : i < 6) (ho : o = 0) (sz : Nat) : MwrV l g yX12_much cX12_much 4 28 0 0 [.ref h0, .int (iI kind), .ref (g.2.2.1 i)] sz (RW g h0 ad (va_up (va_up (va_up (va_up (va_up F 4 ac) 5 t.2.1) 6 E) 7 t.1) 8 o) (va_up A 1 (emS S0 ac t.2.2))) (fun w => w = RW g h0 ad (va_up (va_up (va_up (va_up (va_up F 4 ac) 5 ((muchT S0 E kind i t).2.1)) 6 E) 7 ((muchT S0 E kind i t).1)) 8 o) (va_up A 1 (emS S0 ac (muchT S0 E kind i t).2.2))) := by
  refine wr_startV (own := RX12) (by decide) rfl (Nat.le_of_ble_eq_true rfl) ?_
  intro Pg Ev s Mi args below Mt Cd ls Q Aw hC hK hS hnm hl hQ
  have hta := ht.1; have htb := ht.2.1; have htc := ht.2.2; have hPa := hP.1; have hPb := hP.2.1
  have hl : lv_has ls 4 [(0, .ref h0), (1, .int (iI kind)), (2, .ref (g.2.2.1 i))] := hl
  obtain ⟨H, hH⟩ : ∃ H, H = s.heap := ⟨_, rfl⟩
  obtain ⟨locs, hlo⟩ : ∃ locs : List Loc, locs = [] := ⟨_, rfl⟩
  have hS : St g Aw s.heap H locs (RW g h0 ad (va_up (va_up (va_up (va_up (va_up F 4 ac) 5 t.2.1) 6 E) 7 t.1) 8 o) (va_up A 1 (emS S0 ac t.2.2))) := by rw [hH, hlo]; exact hS
  have goal : W Pg l Ev (rmC 28 0 0) s Mi args below Mt Cd H locs 0 0 Q (F0 Mi 0 ls []) := ?goal
  · rw [hH, hlo] at goal; exact goal
  clear hH hlo
  refine li_aload_n hC hl 0 rfl dX12_much_0 ?_
  refine li_aload_n hC hl 2 rfl dX12_much_1 ?_
  refine wr_callVv hC (c_X12_spells l g h0 ad F A S0 ac E o t i hP ht hi _) mk_X12_spells ml_X12_116 (rr (by decide)) ⟨by simp only [rmC]; omega, by simp only [rmC]; omega⟩ hK hS (li_recv hK.1 ck_X12 (hS.1 0 _ rfl)) rfl hl.1 rfl (Nat.le_of_ble_eq_true rfl) dX12_much_2 (fun w H locs hp hS => ?_)
  have hp : w = RW g h0 ad (va_up (va_up (va_up (va_up (va_up F 4 ac) 5 ((spellT S0 E i (sLen.getD i 0) t).2.1)) 6 E) 7 ((spellT S0 E i (sLen.getD i 0) t).1)) 8 o) (va_up A 1 (emS S0 ac (spellT S0 E i (sLen.getD i 0) t).2.2)) := hp
  obtain ⟨t1, ht1⟩ : ∃ z : PT, z = spellT S0 E i (sLen.getD i 0) t := ⟨_, rfl⟩
  rw [← ht1] at hp
  subst hp
  obtain ⟨okt1, get1⟩ := spellT_ok hP (i := i) hi ht (sLen.getD i 0) (Nat.le_refl _)
  rw [← ht1] at okt1 get1
  have t1a := okt1.1; have t1b := okt1.2.1; have t1c := okt1.2.2; have t1d := get1.1; have t1e := get1.2; try dsimp only at t1d t1e
  refine li_aload_n hC hl 0 rfl dX12_much_5 ?_
  refine wr_callVi hC (c_X12_figures l g h0 ad F A S0 ac E o t1 hP okt1 _) mk_X12_figures ml_X12_110 (rr (by decide)) ⟨by simp only [rmC]; omega, by simp only [rmC]; omega⟩ hK hS (li_recv hK.1 ck_X12 (hS.1 0 _ rfl)) rfl hl.1 rfl (Nat.le_of_ble_eq_true rfl) dX12_much_6 (fun v w H locs hp hS => ?_)
  obtain ⟨rfl, hp⟩ := hp
  have hp : w = RW g h0 ad (va_up (va_up (va_up (va_up (va_up F 4 ac) 5 ((figT S0 E t1).2.1)) 6 E) 7 ((figT S0 E t1).1)) 8 o) (va_up A 1 (emS S0 ac (figT S0 E t1).2.2)) := hp
  obtain ⟨t2, ht2⟩ : ∃ z : PT, z = figT S0 E t1 := ⟨_, rfl⟩
  rw [← ht2] at hp
  subst hp
  obtain ⟨v3, hv3⟩ : ∃ z : Int, z = figV S0 E t1 := ⟨_, rfl⟩
  rw [← hv3]
  obtain ⟨okt2, get2, t2f, t2g⟩ := figT_ok hP okt1
  rw [← ht2] at okt2 get2 t2g
  rw [← hv3] at t2f
  have t2a := okt2.1; have t2b := okt2.2.1; have t2c := okt2.2.2; have t2d := get2.1; have t2e := get2.2; try dsimp only at t2d t2e t2g
  refine li_istore_n hC (lv' := [(3, .int (iI v3)), (0, .ref h0), (1, .int (iI kind)), (2, .ref (g.2.2.1 i))]) hl (by decide) rfl dX12_much_9 (fun ls hl => ?_)
  refine li_aload_n hC hl 1 rfl dX12_much_10 ?_
  refine li_bipush hC (z := 32) rfl dX12_much_11 ?_
  refine wr_callVv hC (c_X12_must l g h0 ad F A S0 ac E o t2 32 hP okt2 (by omega) _) mk_X12_must ml_X12_83 (rr (by decide)) ⟨by simp only [rmC]; omega, by simp only [rmC]; omega⟩ hK hS (li_recv hK.1 ck_X12 (hS.1 0 _ rfl)) rfl hl.1 rfl (Nat.le_of_ble_eq_true rfl) dX12_much_13 (fun w H locs hp hS => ?_)
  have hp : w = RW g h0 ad (va_up (va_up (va_up (va_up (va_up F 4 ac) 5 ((mustT S0 E 32 t2).2.1)) 6 E) 7 ((mustT S0 E 32 t2).1)) 8 o) (va_up A 1 (emS S0 ac (mustT S0 E 32 t2).2.2)) := hp
  obtain ⟨t4, ht4⟩ : ∃ z : PT, z = mustT S0 E 32 t2 := ⟨_, rfl⟩
  rw [← ht4] at hp
  subst hp
  obtain ⟨okt4, get4⟩ := mustT_ok (c := 32) hP okt2 (by omega)
  rw [← ht4] at okt4 get4
  have t4a := okt4.1; have t4b := okt4.2.1; have t4c := okt4.2.2; have t4d := get4.1; have t4e := get4.2; try dsimp only at t4d t4e
  refine li_aload_n hC hl 1 rfl dX12_much_16 ?_
  refine wr_callVv hC ((c_fes l g 6).2.2 h0 ad F A S0 ac E o t4 500 hP okt4 (by omega) (by omega) (by omega) (by omega) _) mk_X12_some ml_X12_99 (rr (by omega)) ⟨by simp only [rmC]; omega, by simp only [rmC]; omega⟩ hK hS (li_recv hK.1 ck_X12 (hS.1 0 _ rfl)) rfl hl.1 rfl (Nat.le_of_ble_eq_true rfl) dX12_much_17 (fun w H locs hp hS => ?_)
  have hp : w = RW g h0 ad (va_up (va_up (va_up (va_up (va_up F 4 ac) 5 ((pT S0 E 500 2 o t4).2.1)) 6 E) 7 ((pT S0 E 500 2 o t4).1)) 8 o) (va_up A 1 (emS S0 ac (pT S0 E 500 2 o t4).2.2)) := hp
  obtain ⟨t5, ht5⟩ : ∃ z : PT, z = pT S0 E 500 2 o t4 := ⟨_, rfl⟩
  rw [← ht5] at hp
  subst hp
  obtain ⟨okt5, get5⟩ := (pT_ok hP 500 2 o t4 okt4)
  rw [← ht5] at okt5 get5
  have t5a := okt5.1; have t5b := okt5.2.1; have t5c := okt5.2.2; have t5d := get5.1; have t5e := get5.2; try dsimp only at t5d t5e
  have hem : t5.1 = 0 → (t5.2.2.length : Int) + 1 ≤ t5.2.1 := by intro h9; rcases (show t4.1 = 0 ∨ t4.1 = 1 by omega) with q | q; { have m9 := ht4; have m8 := mustT_q (S := S0) (E := E) (c := 32) (t := t2) (by rw [← ht4]; exact q); rw [← ht4] at m8; have m7 := m8.1; have m6 := congrArg List.length m8.2; omega }; { have m5 := pT_t ht5 q; rw [m5] at h9; omega }
  refine li_aload_n hC hl 1 rfl dX12_much_20 ?_
  refine li_iload_n hC hl 2 rfl dX12_much_21 ?_
  refine li_iload_n hC hl 0 rfl dX12_much_22 ?_
  refine li_isub hC dX12_much_23 ?_
  refine wr_callVv hC (c_X12_emits l g h0 ad F A S0 ac E o t5 (kind - v3) hP okt5 (by omega) _) mk_X12_emits ml_X12_96 (rr (by decide)) ⟨by simp only [rmC]; omega, by simp only [rmC]; omega⟩ hK hS (li_recv hK.1 ck_X12 (hS.1 0 _ rfl)) rfl hl.1 rfl (Nat.le_of_ble_eq_true rfl) dX12_much_24 (fun w H locs hp hS => ?_)
  have hp : w = RW g h0 ad (va_up (va_up (va_up (va_up (va_up F 4 ac) 5 ((emitT (kind - v3) t5).2.1)) 6 E) 7 ((emitT (kind - v3) t5).1)) 8 o) (va_up A 1 (emS S0 ac (emitT (kind - v3) t5).2.2)) := hp
  obtain ⟨t6, ht6⟩ : ∃ z : PT, z = emitT (kind - v3) t5 := ⟨_, rfl⟩
  rw [← ht6] at hp
  subst hp
  obtain ⟨okt6, t6f, t6h, t6g⟩ := emitT_ok (x := kind - v3) okt5 (by omega)
  rw [← ht6] at okt6 t6f t6h t6g
  have t6a := okt6.1; have t6b := okt6.2.1; have t6c := okt6.2.2
  exact hQ _ _ _ _ _ _ _ dX12_much_27 hS (by omega) (by omega) (by have h8 := ht5; rw [ho] at h8; have e9 : muchT S0 E kind i t = t6 := (by unfold muchT; rw [← ht1, ← hv3, ← ht2, ← ht4, ← h8, ← ht6]); rw [e9])
set_option maxHeartbeats 4000000 in
set_option maxRecDepth 100000 in
theorem c_X12_tellsHere (l : Launch) (g : GG) (h0 : Nat) (ad : Nat → Nat) (F : Nat → Int) (A : Nat → Nat → Int) (S0 : Nat → Int) (ac : Int) (E : Int) (o : Int) (t : PT) (w0 : Int) (i : Nat) (hP : PIn S0 ac E) (ht : okT E t) (hi : i < 6) (hw0 : w0 = 224 ∨ w0 = 229) (sz : Nat) : MwrV l g yX12_tellsHere cX12_tellsHere 4 7 0 0 [.ref h0, .int (iI w0), .ref (g.2.2.1 i)] sz (RW g h0 ad (va_up (va_up (va_up (va_up (va_up F 4 ac) 5 t.2.1) 6 E) 7 t.1) 8 o) (va_up A 1 (emS S0 ac t.2.2))) (fun w => w = RW g h0 ad (va_up (va_up (va_up (va_up (va_up F 4 ac) 5 ((figT S0 E (spellT S0 E i (sLen.getD i 0) t)).2.1)) 6 E) 7 ((figT S0 E (spellT S0 E i (sLen.getD i 0) t)).1)) 8 o) (va_up A 1 (emS (tellB S0 ac E w0 i t) ac (figT S0 E (spellT S0 E i (sLen.getD i 0) t)).2.2))) := by
  refine wr_startV (own := RX12) (by decide) rfl (Nat.le_of_ble_eq_true rfl) ?_
  intro Pg Ev s Mi args below Mt Cd ls Q Aw hC hK hS hnm hl hQ
  have hta := ht.1; have htb := ht.2.1; have htc := ht.2.2; have hPa := hP.1; have hPb := hP.2.1
  have hl : lv_has ls 4 [(0, .ref h0), (1, .int (iI w0)), (2, .ref (g.2.2.1 i))] := hl
  obtain ⟨H, hH⟩ : ∃ H, H = s.heap := ⟨_, rfl⟩
  obtain ⟨locs, hlo⟩ : ∃ locs : List Loc, locs = [] := ⟨_, rfl⟩
  have hS : St g Aw s.heap H locs (RW g h0 ad (va_up (va_up (va_up (va_up (va_up F 4 ac) 5 t.2.1) 6 E) 7 t.1) 8 o) (va_up A 1 (emS S0 ac t.2.2))) := by rw [hH, hlo]; exact hS
  have goal : W Pg l Ev (rmC 7 0 0) s Mi args below Mt Cd H locs 0 0 Q (F0 Mi 0 ls []) := ?goal
  · rw [hH, hlo] at goal; exact goal
  clear hH hlo
  refine li_aload_n hC hl 0 rfl dX12_tellsHere_0 ?_
  refine li_aload_n hC hl 2 rfl dX12_tellsHere_1 ?_
  refine wr_callVv hC (c_X12_spells l g h0 ad F A S0 ac E o t i hP ht hi _) mk_X12_spells ml_X12_116 (rr (by decide)) ⟨by simp only [rmC]; omega, by simp only [rmC]; omega⟩ hK hS (li_recv hK.1 ck_X12 (hS.1 0 _ rfl)) rfl hl.1 rfl (Nat.le_of_ble_eq_true rfl) dX12_tellsHere_2 (fun w H locs hp hS => ?_)
  have hp : w = RW g h0 ad (va_up (va_up (va_up (va_up (va_up F 4 ac) 5 ((spellT S0 E i (sLen.getD i 0) t).2.1)) 6 E) 7 ((spellT S0 E i (sLen.getD i 0) t).1)) 8 o) (va_up A 1 (emS S0 ac (spellT S0 E i (sLen.getD i 0) t).2.2)) := hp
  obtain ⟨t1, ht1⟩ : ∃ z : PT, z = spellT S0 E i (sLen.getD i 0) t := ⟨_, rfl⟩
  rw [← ht1] at hp
  subst hp
  obtain ⟨okt1, get1⟩ := spellT_ok hP (i := i) hi ht (sLen.getD i 0) (Nat.le_refl _)
  rw [← ht1] at okt1 get1
  have t1a := okt1.1; have t1b := okt1.2.1; have t1c := okt1.2.2; have t1d := get1.1; have t1e := get1.2; try dsimp only at t1d t1e
  refine li_aload_n hC hl 0 rfl dX12_tellsHere_5 ?_
  refine wr_callVi hC (c_X12_figures l g h0 ad F A S0 ac E o t1 hP okt1 _) mk_X12_figures ml_X12_110 (rr (by decide)) ⟨by simp only [rmC]; omega, by simp only [rmC]; omega⟩ hK hS (li_recv hK.1 ck_X12 (hS.1 0 _ rfl)) rfl hl.1 rfl (Nat.le_of_ble_eq_true rfl) dX12_tellsHere_6 (fun v w H locs hp hS => ?_)
  obtain ⟨rfl, hp⟩ := hp
  have hp : w = RW g h0 ad (va_up (va_up (va_up (va_up (va_up F 4 ac) 5 ((figT S0 E t1).2.1)) 6 E) 7 ((figT S0 E t1).1)) 8 o) (va_up A 1 (emS S0 ac (figT S0 E t1).2.2)) := hp
  obtain ⟨t2, ht2⟩ : ∃ z : PT, z = figT S0 E t1 := ⟨_, rfl⟩
  rw [← ht2] at hp
  subst hp
  obtain ⟨v3, hv3⟩ : ∃ z : Int, z = figV S0 E t1 := ⟨_, rfl⟩
  rw [← hv3]
  obtain ⟨okt2, get2, t2f, t2g⟩ := figT_ok hP okt1
  rw [← ht2] at okt2 get2 t2g
  rw [← hv3] at t2f
  have t2a := okt2.1; have t2b := okt2.2.1; have t2c := okt2.2.2; have t2d := get2.1; have t2e := get2.2; try dsimp only at t2d t2e t2g
  refine li_istore_n hC (lv' := [(3, .int (iI v3)), (0, .ref h0), (1, .int (iI w0)), (2, .ref (g.2.2.1 i))]) hl (by decide) rfl dX12_tellsHere_9 (fun ls hl => ?_)
  refine li_aload_n hC hl 1 rfl dX12_tellsHere_10 ?_
  refine li_get hC hK.1 ck_X12 (hS.1 0 _ rfl) 7 (by decide) fl_X12_66 rfl (v := .int (iI t2.1)) rfl dX12_tellsHere_11 ?_
  refine li_if_ne (tgt := 29) hC (by decide) (rg (by omega) (by omega)) dX12_tellsHere_14 (fun c4 => ?_) (fun c4 => ?_)
  · exact hQ _ _ _ _ _ _ _ dX12_tellsHere_29 hS (by omega) (by omega) (by rw [← ht1, ← ht2]; unfold tellB; rw [← ht1, ← ht2, ← hv3]; rw [iteP_f (by omega)])
  · refine li_aload_n hC hl 1 rfl dX12_tellsHere_17 ?_
    refine li_get hC hK.1 ck_X12 (hS.1 0 _ rfl) 1 (by decide) fl_X12_9 rfl (v := .ref (ad 1)) rfl dX12_tellsHere_18 ?_
    refine li_iload_n hC hl 2 rfl dX12_tellsHere_21 ?_
    refine li_aload_n hC hl 1 rfl dX12_tellsHere_22 ?_
    refine li_get hC hK.1 ck_X12 (hS.1 0 _ rfl) 4 (by decide) fl_X12_87 rfl (v := .int (iI ac)) rfl dX12_tellsHere_23 ?_
    refine li_iadd hC dX12_tellsHere_26 ?_
    refine li_iload_n hC hl 0 rfl dX12_tellsHere_27 ?_
    refine li_iast hC hK hS 1 (n := 939) (f := (emS S0 ac t2.2.2)) (z := w0 + ac) rfl ⟨by omega, by omega⟩ (by decide) (ws' := RW g h0 ad (va_up (va_up (va_up (va_up (va_up F 4 ac) 5 t2.2.1) 6 E) 7 t2.1) 8 o) (va_up A 1 (va_up (emS S0 ac t2.2.2) ((w0 + ac).toNat) v3))) rfl dX12_tellsHere_28 (fun H locs hS => ?_)
    exact hQ _ _ _ _ _ _ _ dX12_tellsHere_29 hS (by omega) (by omega) (by rw [← ht1, ← ht2]; unfold tellB; rw [← ht1, ← ht2, ← hv3]; rw [iteP_t (by omega), emS_up (by omega) (by omega) _ _ (by rw [hP.2.2.1]; omega)])
set_option maxHeartbeats 4000000 in
set_option maxRecDepth 100000 in
theorem c_X12_clauseHere (l : Launch) (g : GG) (h0 : Nat) (ad : Nat → Nat) (F : Nat → Int) (A : Nat → Nat → Int) (S0 : Nat → Int) (ac : Int) (E : Int) (o : Int) (t : PT) (hP : PIn S0 ac E) (ht : okT E t) (ho : o = 0) (sz : Nat) : MwrV l g yX12_clauseHere cX12_clauseHere 1 29 0 0 [.ref h0] sz (RW g h0 ad (va_up (va_up (va_up (va_up (va_up F 4 ac) 5 t.2.1) 6 E) 7 t.1) 8 o) (va_up A 1 (emS S0 ac t.2.2))) (fun w => w = RW g h0 ad (va_up (va_up (va_up (va_up (va_up F 4 ac) 5 ((clauseT S0 E t).2.1)) 6 E) 7 ((clauseT S0 E t).1)) 8 o) (va_up A 1 (emS (clauseB S0 ac E t) ac (clauseT S0 E t).2.2))) := by
  refine wr_startV (own := RX12) (by decide) rfl (Nat.le_of_ble_eq_true rfl) ?_
  intro Pg Ev s Mi args below Mt Cd ls Q Aw hC hK hS hnm hl hQ
  have hta := ht.1; have htb := ht.2.1; have htc := ht.2.2; have hPa := hP.1; have hPb := hP.2.1
  have hl : lv_has ls 1 [(0, .ref h0)] := hl
  obtain ⟨H, hH⟩ : ∃ H, H = s.heap := ⟨_, rfl⟩
  obtain ⟨locs, hlo⟩ : ∃ locs : List Loc, locs = [] := ⟨_, rfl⟩
  have hS : St g Aw s.heap H locs (RW g h0 ad (va_up (va_up (va_up (va_up (va_up F 4 ac) 5 t.2.1) 6 E) 7 t.1) 8 o) (va_up A 1 (emS S0 ac t.2.2))) := by rw [hH, hlo]; exact hS
  have goal : W Pg l Ev (rmC 29 0 0) s Mi args below Mt Cd H locs 0 0 Q (F0 Mi 0 ls []) := ?goal
  · rw [hH, hlo] at goal; exact goal
  clear hH hlo
  refine li_aload_n hC hl 0 rfl dX12_clauseHere_0 ?_
  refine wr_callVi hC (c_X12_here l g h0 ad F A S0 ac E o t hP ht _) mk_X12_here ml_X12_70 (rr (by decide)) ⟨by simp only [rmC]; omega, by simp only [rmC]; omega⟩ hK hS (li_recv hK.1 ck_X12 (hS.1 0 _ rfl)) rfl hl.1 rfl (Nat.le_of_ble_eq_true rfl) dX12_clauseHere_1 (fun v w H locs hp hS => ?_)
  obtain ⟨hp1, hp2⟩ := hp
  have hp1 : v = iI (hereT S0 E t.2.1) := hp1
  have hp2 : w = RW g h0 ad (va_up (va_up (va_up (va_up (va_up F 4 ac) 5 t.2.1) 6 E) 7 t.1) 8 o) (va_up A 1 (emS S0 ac t.2.2)) := hp2
  subst hp1 hp2
  have q1 := hereT_rng hP (q := t.2.1) (by omega)
  by_cases c2 : hereT S0 E t.2.1 = 98
  · refine li_lookup (tgt := 83) hC (rg (by omega) (by omega)) (by decide) (off := 79) (by rw [c2]; decide) (by decide) dX12_clauseHere_4 ?_
    refine li_aload_n hC hl 0 rfl dX12_clauseHere_83 ?_
    refine li_sipush hC (z := -200) rfl dX12_clauseHere_84 ?_
    refine li_ldcS hC hK.1.2.2.2.2.1 dX12_clauseHere_87 ?_
    refine wr_callVv hC (c_X12_much l g h0 ad F A S0 ac E o t (-200) 1 hP ht (by decide) (by omega) _) mk_X12_much ml_X12_130 (rr (by decide)) ⟨by simp only [rmC]; omega, by simp only [rmC]; omega⟩ hK hS (li_recv hK.1 ck_X12 (hS.1 0 _ rfl)) rfl hl.1 rfl (Nat.le_of_ble_eq_true rfl) dX12_clauseHere_89 (fun w H locs hp hS => ?_)
    subst hp
    refine li_goto (tgt := 100) hC (by decide) dX12_clauseHere_92 ?_
    exact hQ _ _ _ _ _ _ _ dX12_clauseHere_100 hS (by omega) (by omega) (by unfold clauseT clauseB; first | (rw [if_pos (by omega), if_pos (by omega)]; first | done | rfl) | (rw [if_neg (by omega), if_pos (by omega), if_neg (by omega), if_pos (by omega)]; first | done | rfl) | (rw [if_neg (by omega), if_neg (by omega), if_pos (by omega), if_neg (by omega), if_neg (by omega)]; first | done | rfl) | (rw [if_neg (by omega), if_neg (by omega), if_neg (by omega), if_pos (by omega), if_neg (by omega), if_neg (by omega)]; first | done | rfl) | (rw [if_neg (by omega), if_neg (by omega), if_neg (by omega), if_neg (by omega), if_neg (by omega), if_neg (by omega)]; first | done | rfl))
  by_cases c3 : hereT S0 E t.2.1 = 108
  · refine li_lookup (tgt := 72) hC (rg (by omega) (by omega)) (by decide) (off := 68) (by rw [c3]; decide) (by decide) dX12_clauseHere_4 ?_
    refine li_aload_n hC hl 0 rfl dX12_clauseHere_72 ?_
    refine li_bipush hC (z := -10) rfl dX12_clauseHere_73 ?_
    refine li_ldcS hC hK.1.2.2.2.1 dX12_clauseHere_75 ?_
    refine wr_callVv hC (c_X12_much l g h0 ad F A S0 ac E o t (-10) 0 hP ht (by decide) (by omega) _) mk_X12_much ml_X12_130 (rr (by decide)) ⟨by simp only [rmC]; omega, by simp only [rmC]; omega⟩ hK hS (li_recv hK.1 ck_X12 (hS.1 0 _ rfl)) rfl hl.1 rfl (Nat.le_of_ble_eq_true rfl) dX12_clauseHere_77 (fun w H locs hp hS => ?_)
    subst hp
    refine li_goto (tgt := 100) hC (by decide) dX12_clauseHere_80 ?_
    exact hQ _ _ _ _ _ _ _ dX12_clauseHere_100 hS (by omega) (by omega) (by unfold clauseT clauseB; first | (rw [if_pos (by omega), if_pos (by omega)]; first | done | rfl) | (rw [if_neg (by omega), if_pos (by omega), if_neg (by omega), if_pos (by omega)]; first | done | rfl) | (rw [if_neg (by omega), if_neg (by omega), if_pos (by omega), if_neg (by omega), if_neg (by omega)]; first | done | rfl) | (rw [if_neg (by omega), if_neg (by omega), if_neg (by omega), if_pos (by omega), if_neg (by omega), if_neg (by omega)]; first | done | rfl) | (rw [if_neg (by omega), if_neg (by omega), if_neg (by omega), if_neg (by omega), if_neg (by omega), if_neg (by omega)]; first | done | rfl))
  by_cases c4 : hereT S0 E t.2.1 = 114
  · refine li_lookup (tgt := 60) hC (rg (by omega) (by omega)) (by decide) (off := 56) (by rw [c4]; decide) (by decide) dX12_clauseHere_4 ?_
    refine li_aload_n hC hl 0 rfl dX12_clauseHere_60 ?_
    refine li_sipush hC (z := 229) rfl dX12_clauseHere_61 ?_
    refine li_ldcS hC hK.1.2.2.2.2.2.2.1 dX12_clauseHere_64 ?_
    refine wr_callVv hC (c_X12_tellsHere l g h0 ad F A S0 ac E o t 229 3 hP ht (by decide) (by omega) _) mk_X12_tellsHere ml_X12_122 (rr (by decide)) ⟨by simp only [rmC]; omega, by simp only [rmC]; omega⟩ hK hS (li_recv hK.1 ck_X12 (hS.1 0 _ rfl)) rfl hl.1 rfl (Nat.le_of_ble_eq_true rfl) dX12_clauseHere_66 (fun w H locs hp hS => ?_)
    subst hp
    refine li_goto (tgt := 100) hC (by decide) dX12_clauseHere_69 ?_
    exact hQ _ _ _ _ _ _ _ dX12_clauseHere_100 hS (by omega) (by omega) (by unfold clauseT clauseB; first | (rw [if_pos (by omega), if_pos (by omega)]; first | done | rfl) | (rw [if_neg (by omega), if_pos (by omega), if_neg (by omega), if_pos (by omega)]; first | done | rfl) | (rw [if_neg (by omega), if_neg (by omega), if_pos (by omega), if_neg (by omega), if_neg (by omega)]; first | done | rfl) | (rw [if_neg (by omega), if_neg (by omega), if_neg (by omega), if_pos (by omega), if_neg (by omega), if_neg (by omega)]; first | done | rfl) | (rw [if_neg (by omega), if_neg (by omega), if_neg (by omega), if_neg (by omega), if_neg (by omega), if_neg (by omega)]; first | done | rfl))
  by_cases c5 : hereT S0 E t.2.1 = 119
  · refine li_lookup (tgt := 48) hC (rg (by omega) (by omega)) (by decide) (off := 44) (by rw [c5]; decide) (by decide) dX12_clauseHere_4 ?_
    refine li_aload_n hC hl 0 rfl dX12_clauseHere_48 ?_
    refine li_sipush hC (z := 224) rfl dX12_clauseHere_49 ?_
    refine li_ldcS hC hK.1.2.2.2.2.2.1 dX12_clauseHere_52 ?_
    refine wr_callVv hC (c_X12_tellsHere l g h0 ad F A S0 ac E o t 224 2 hP ht (by decide) (by omega) _) mk_X12_tellsHere ml_X12_122 (rr (by decide)) ⟨by simp only [rmC]; omega, by simp only [rmC]; omega⟩ hK hS (li_recv hK.1 ck_X12 (hS.1 0 _ rfl)) rfl hl.1 rfl (Nat.le_of_ble_eq_true rfl) dX12_clauseHere_54 (fun w H locs hp hS => ?_)
    subst hp
    refine li_goto (tgt := 100) hC (by decide) dX12_clauseHere_57 ?_
    exact hQ _ _ _ _ _ _ _ dX12_clauseHere_100 hS (by omega) (by omega) (by unfold clauseT clauseB; first | (rw [if_pos (by omega), if_pos (by omega)]; first | done | rfl) | (rw [if_neg (by omega), if_pos (by omega), if_neg (by omega), if_pos (by omega)]; first | done | rfl) | (rw [if_neg (by omega), if_neg (by omega), if_pos (by omega), if_neg (by omega), if_neg (by omega)]; first | done | rfl) | (rw [if_neg (by omega), if_neg (by omega), if_neg (by omega), if_pos (by omega), if_neg (by omega), if_neg (by omega)]; first | done | rfl) | (rw [if_neg (by omega), if_neg (by omega), if_neg (by omega), if_neg (by omega), if_neg (by omega), if_neg (by omega)]; first | done | rfl))
  refine li_lookup (tgt := 95) hC (rg (by omega) (by omega)) (by decide) (off := 91) (by simp only [Op.lookupswitch.offset]; simp [Ne.symm c2, c2, Ne.symm c3, c3, Ne.symm c4, c4, Ne.symm c5, c5]) (by decide) dX12_clauseHere_4 ?_
  refine li_aload_n hC hl 0 rfl dX12_clauseHere_95 ?_
  refine li_iconst hC dX12_clauseHere_96 ?_
  refine li_put hC hK hS ck_X12 0 rfl 7 (by decide) fl_X12_66 rfl rfl (v := .int (iI 1)) (nar_01 (Or.inr rfl)) (fit_01 (Or.inr rfl)) (Nat.le_of_ble_eq_true rfl) (ws' := RW g h0 ad (va_up (va_up (va_up (va_up (va_up F 4 ac) 5 t.2.1) 6 E) 7 1) 8 o) (va_up A 1 (emS S0 ac t.2.2))) rfl dX12_clauseHere_97 (fun H locs hS => ?_)
  exact hQ _ _ _ _ _ _ _ dX12_clauseHere_100 hS (by omega) (by omega) (by unfold clauseT clauseB; first | (rw [if_pos (by omega), if_pos (by omega)]; first | done | rfl) | (rw [if_neg (by omega), if_pos (by omega), if_neg (by omega), if_pos (by omega)]; first | done | rfl) | (rw [if_neg (by omega), if_neg (by omega), if_pos (by omega), if_neg (by omega), if_neg (by omega)]; first | done | rfl) | (rw [if_neg (by omega), if_neg (by omega), if_neg (by omega), if_pos (by omega), if_neg (by omega), if_neg (by omega)]; first | done | rfl) | (rw [if_neg (by omega), if_neg (by omega), if_neg (by omega), if_neg (by omega), if_neg (by omega), if_neg (by omega)]; first | done | rfl))
