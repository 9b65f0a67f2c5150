set_option maxHeartbeats 4000000 in
set_option maxRecDepth 100000 in
theorem c_X6_size (l : Launch) (g : GG) {ws : va_W} {i j a b n : Nat} {f : Nat → Int} {sz : Int} (hi : ws[i]? = some (a, .inr (7, [.ref b, .int (iI sz)]))) (hj : ws[j]? = some (b, .inl (g.2.1 0, n, .inl (aI f)))) (hn : n ≤ 1000)  : MroI l g yX6_size cX6_size 1 1 [.ref a] (fun H => va_P g.1 vwCl ws H) (iI (sz)) := by
  refine ro_startI (own := RX6) (by decide) rfl (Nat.le_of_ble_eq_true rfl) ?_
  intro Pg Ev s Mi args below Mt Cd ls Q hC hK hE hP hl hQ
  have hl : lv_has ls 1 [(0, .ref a)] := hl
  refine li_aload_n hC hl 0 rfl dX6_size_0 ?_
  refine li_get hC hK ck_X6 (hP i _ hi) 1 (by decide) fl_X6_19 rfl (v := .int (iI sz)) rfl dX6_size_1 ?_
  exact hQ _ _ _ dX6_size_4 rfl
set_option maxHeartbeats 4000000 in
set_option maxRecDepth 100000 in
theorem c_X6_get (l : Launch) (g : GG) {ws : va_W} {i j a b n : Nat} {f : Nat → Int} {sz : Int} (hi : ws[i]? = some (a, .inr (7, [.ref b, .int (iI sz)]))) (hj : ws[j]? = some (b, .inl (g.2.1 0, n, .inl (aI f)))) (hn : n ≤ 1000) {k : Int} (hk : 0 ≤ k ∧ k < n) : MroI l g yX6_get cX6_get 2 1 [.ref a, .int (iI k)] (fun H => va_P g.1 vwCl ws H) (iI (f k.toNat)) := by
  refine ro_startI (own := RX6) (by decide) rfl (Nat.le_of_ble_eq_true rfl) ?_
  intro Pg Ev s Mi args below Mt Cd ls Q hC hK hE hP hl hQ
  have hl : lv_has ls 2 [(0, .ref a), (1, .int (iI k))] := hl
  refine li_iload_n hC hl 1 rfl dX6_get_0 ?_
  refine li_if_lt (tgt := 22) hC (by decide) (rg (by omega) (by omega)) dX6_get_1 (fun c1 => absurd c1 (by omega)) (fun c1 => ?_)
  refine li_iload_n hC hl 1 rfl dX6_get_4 ?_
  refine li_aload_n hC hl 0 rfl dX6_get_5 ?_
  refine li_get hC hK ck_X6 (hP i _ hi) 0 (by decide) fl_X6_13 rfl (v := .ref b) rfl dX6_get_6 ?_
  refine li_alen hC hK (k := 0) (hP j _ hj) rfl dX6_get_9 ?_
  refine li_icmp_ge (tgt := 22) hC (by decide) (rg (by omega) (by omega)) (rg (by omega) (by omega)) dX6_get_10 (fun c2 => absurd c2 (by omega)) (fun c2 => ?_)
  refine li_aload_n hC hl 0 rfl dX6_get_13 ?_
  refine li_get hC hK ck_X6 (hP i _ hi) 0 (by decide) fl_X6_13 rfl (v := .ref b) rfl dX6_get_14 ?_
  refine li_iload_n hC hl 1 rfl dX6_get_17 ?_
  refine li_iald hC hK (hP j _ hj) hk (by omega) dX6_get_18 ?_
  refine li_goto (tgt := 23) hC (by decide) dX6_get_19 ?_
  exact hQ _ _ _ dX6_get_23 rfl
set_option maxHeartbeats 4000000 in
set_option maxRecDepth 100000 in
theorem c_X6_set (l : Launch) (g : GG) {ws : va_W} {i j a b n : Nat} {f : Nat → Int} {sz : Int} (hi : ws[i]? = some (a, .inr (7, [.ref b, .int (iI sz)]))) (hj : ws[j]? = some (b, .inl (g.2.1 0, n, .inl (aI f)))) (hn : n ≤ 1000) {k v : Int} (hk : 0 ≤ k ∧ k < n) {ws2 : va_W} (hw : ws.set j (b, .inl (g.2.1 0, n, .inl (aI (va_up f k.toNat v)))) = ws2) (sz0 : Nat) : MwrV l g yX6_set cX6_set 3 1 0 0 [.ref a, .int (iI k), .int (iI v)] sz0 ws (fun w => w = ws2) := by
  refine wr_startV (own := RX6) (by decide) rfl (Nat.le_of_ble_eq_true rfl) ?_
  intro Pg Ev s Mi args below Mt Cd ls Q Aw hC hK hS hnm hl hQ
  have hl : lv_has ls 3 [(0, .ref a), (1, .int (iI k)), (2, .int (iI v))] := hl
  refine li_iload_n hC hl 1 rfl dX6_set_0 ?_
  refine li_if_lt (tgt := 20) hC (by decide) (rg (by omega) (by omega)) dX6_set_1 (fun c1 => absurd c1 (by omega)) (fun c1 => ?_)
  refine li_iload_n hC hl 1 rfl dX6_set_4 ?_
  refine li_aload_n hC hl 0 rfl dX6_set_5 ?_
  refine li_get hC hK.1 ck_X6 (hS.1 i _ hi) 0 (by decide) fl_X6_13 rfl (v := .ref b) rfl dX6_set_6 ?_
  refine li_alen hC hK.1 (k := 0) (hS.1 j _ hj) rfl dX6_set_9 ?_
  refine li_icmp_ge (tgt := 20) hC (by decide) (rg (by omega) (by omega)) (rg (by omega) (by omega)) dX6_set_10 (fun c2 => absurd c2 (by omega)) (fun c2 => ?_)
  refine li_aload_n hC hl 0 rfl dX6_set_13 ?_
  refine li_get hC hK.1 ck_X6 (hS.1 i _ hi) 0 (by decide) fl_X6_13 rfl (v := .ref b) rfl dX6_set_14 ?_
  refine li_iload_n hC hl 1 rfl dX6_set_17 ?_
  refine li_iload_n hC hl 2 rfl dX6_set_18 ?_
  refine li_iast hC hK hS j hj hk (by omega) hw dX6_set_19 (fun H locs hS => ?_)
  exact hQ _ _ _ _ _ _ _ dX6_set_20 hS (by omega) (by omega) rfl
set_option maxHeartbeats 4000000 in
set_option maxRecDepth 100000 in
theorem c_X6_clear (l : Launch) (g : GG) {ws : va_W} {i a b : Nat} {sz : Int} (hi : ws[i]? = some (a, .inr (7, [.ref b, .int (iI sz)]))) {ws2 : va_W} (hw : ws.set i (a, .inr (7, [.ref b, .int (iI 0)])) = ws2) (sz0 : Nat) : MwrV l g yX6_clear cX6_clear 1 1 0 0 [.ref a] sz0 ws (fun w => w = ws2) := by
  refine wr_startV (own := RX6) (by decide) rfl (Nat.le_of_ble_eq_true rfl) ?_
  intro Pg Ev s Mi args below Mt Cd ls Q Aw hC hK hS hnm hl hQ
  have hl : lv_has ls 1 [(0, .ref a)] := hl
  refine li_aload_n hC hl 0 rfl dX6_clear_0 ?_
  refine li_iconst hC dX6_clear_1 ?_
  refine li_put hC hK hS ck_X6 i hi 1 (by decide) fl_X6_19 rfl rfl (v := .int (iI 0)) rfl rfl (Nat.le_of_ble_eq_true rfl) hw dX6_clear_2 (fun H locs hS => ?_)
  exact hQ _ _ _ _ _ _ _ dX6_clear_5 hS (by omega) (by omega) rfl
set_option maxHeartbeats 4000000 in
set_option maxRecDepth 100000 in
theorem c_X6_add (l : Launch) (g : GG) {ws : va_W} {i j a b n : Nat} {f : Nat → Int} {sz : Int} (hi : ws[i]? = some (a, .inr (7, [.ref b, .int (iI sz)]))) (hj : ws[j]? = some (b, .inl (g.2.1 0, n, .inl (aI f)))) (hn : n ≤ 1000) {v : Int} (hk : 0 ≤ sz ∧ sz < n) (hij : i ≠ j) {ws2 : va_W} (hw : (ws.set j (b, .inl (g.2.1 0, n, .inl (aI (va_up f sz.toNat v))))).set i (a, .inr (7, [.ref b, .int (iI (sz + 1))])) = ws2) (sz0 : Nat) : MwrV l g yX6_add cX6_add 2 1 0 0 [.ref a, .int (iI v)] sz0 ws (fun w => w = ws2) := by
  refine wr_startV (own := RX6) (by decide) rfl (Nat.le_of_ble_eq_true rfl) ?_
  intro Pg Ev s Mi args below Mt Cd ls Q Aw hC hK hS hnm hl hQ
  have hl : lv_has ls 2 [(0, .ref a), (1, .int (iI v))] := hl
  refine li_aload_n hC hl 0 rfl dX6_add_0 ?_
  refine li_get hC hK.1 ck_X6 (hS.1 i _ hi) 1 (by decide) fl_X6_19 rfl (v := .int (iI sz)) rfl dX6_add_1 ?_
  refine li_if_lt (tgt := 29) hC (by decide) (rg (by omega) (by omega)) dX6_add_4 (fun c1 => absurd c1 (by omega)) (fun c1 => ?_)
  refine li_aload_n hC hl 0 rfl dX6_add_7 ?_
  refine li_get hC hK.1 ck_X6 (hS.1 i _ hi) 1 (by decide) fl_X6_19 rfl (v := .int (iI sz)) rfl dX6_add_8 ?_
  refine li_aload_n hC hl 0 rfl dX6_add_11 ?_
  refine li_get hC hK.1 ck_X6 (hS.1 i _ hi) 0 (by decide) fl_X6_13 rfl (v := .ref b) rfl dX6_add_12 ?_
  refine li_alen hC hK.1 (k := 0) (hS.1 j _ hj) rfl dX6_add_15 ?_
  refine li_icmp_ge (tgt := 29) hC (by decide) (rg (by omega) (by omega)) (rg (by omega) (by omega)) dX6_add_16 (fun c2 => absurd c2 (by omega)) (fun c2 => ?_)
  refine li_aload_n hC hl 0 rfl dX6_add_19 ?_
  refine li_get hC hK.1 ck_X6 (hS.1 i _ hi) 0 (by decide) fl_X6_13 rfl (v := .ref b) rfl dX6_add_20 ?_
  refine li_aload_n hC hl 0 rfl dX6_add_23 ?_
  refine li_get hC hK.1 ck_X6 (hS.1 i _ hi) 1 (by decide) fl_X6_19 rfl (v := .int (iI sz)) rfl dX6_add_24 ?_
  refine li_iload_n hC hl 1 rfl dX6_add_27 ?_
  refine li_iast hC hK hS j hj hk (by omega) rfl dX6_add_28 (fun H locs hS => ?_)
  have hi2 : (ws.set j (b, .inl (g.2.1 0, n, .inl (aI (va_up f sz.toNat v)))))[i]? = some (a, .inr (7, [.ref b, .int (iI sz)])) := by rw [List.getElem?_set_ne (Ne.symm hij)]; exact hi
  refine li_aload_n hC hl 0 rfl dX6_add_29 ?_
  refine li_dup hC rfl dX6_add_30 ?_
  refine li_get hC hK.1 ck_X6 (hS.1 i _ hi2) 1 (by decide) fl_X6_19 rfl (v := .int (iI sz)) rfl dX6_add_31 ?_
  refine li_iconst hC dX6_add_34 ?_
  refine li_iadd hC dX6_add_35 ?_
  refine li_put hC hK hS ck_X6 i hi2 1 (by decide) fl_X6_19 rfl rfl (v := .int (iI (sz + 1))) rfl rfl (Nat.le_of_ble_eq_true rfl) hw dX6_add_36 (fun H locs hS => ?_)
  exact hQ _ _ _ _ _ _ _ dX6_add_39 hS (by omega) (by omega) rfl
set_option maxHeartbeats 4000000 in
set_option maxRecDepth 100000 in
theorem c_X6_become (l : Launch) (g : GG) {ws : va_W} {i j i2 j2 a b a2 b2 n : Nat} {f f2 : Nat → Int} {sz sz2 : Int} (hi : ws[i]? = some (a, .inr (7, [.ref b, .int (iI sz)]))) (hj : ws[j]? = some (b, .inl (g.2.1 0, n, .inl (aI f)))) (hi2 : ws[i2]? = some (a2, .inr (7, [.ref b2, .int (iI sz2)]))) (hj2 : ws[j2]? = some (b2, .inl (g.2.1 0, n, .inl (aI f2)))) (hn : n ≤ 1000) (h1 : j ≠ i) (h2 : j ≠ i2) (h3 : j ≠ j2) (h4 : i ≠ i2) {ws2 : va_W} (hw : (ws.set j (b, .inl (g.2.1 0, n, .inl (aI f2)))).set i (a, .inr (7, [.ref b, .int (iI sz2)])) = ws2) (sz0 : Nat) : MwrV l g yX6_become cX6_become 3 2 0 0 [.ref a, .ref a2] sz0 ws (fun w => w = ws2) := by
  refine wr_startV (own := RX6) (by decide) rfl (Nat.le_of_ble_eq_true rfl) ?_
  intro Pg Ev s Mi args below Mt Cd ls Q Aw hC hK hS hnm hl hQ
  have hl : lv_has ls 3 [(0, .ref a), (1, .ref a2)] := hl
  refine li_iconst hC dX6_become_0 ?_
  refine li_istore_n hC (lv' := [(2, .int (iI 0)), (0, .ref a), (1, .ref a2)]) hl (by decide) rfl dX6_become_1 (fun ls hl => ?_)
  have L : ∀ (fuel : Nat) (k : Int) (q : Nat → Int) (ls : Array Slot) (H : Heap) (locs : List Loc), St g Aw s.heap H locs (ws.set j (b, .inl (g.2.1 0, n, .inl (aI q)))) → lv_has ls 3 [(2, .int (iI k)), (0, .ref a), (1, .ref a2)] → (0 ≤ k ∧ k ≤ n) → (∀ m : Nat, (m : Int) < k → q m = f2 m) → ((n : Int) - k).toNat < fuel → W Pg l Ev (rmC 2 0 0) s Mi args below Mt Cd H locs 0 0 Q (F0 Mi 2 ls []) := by
    intro fuel
    induction fuel with
    | zero => intro k q ls H locs hS hl hk hq hm; exact absurd hm (Nat.not_lt_zero _)
    | succ fuel ih =>
      intro k q ls H locs hS hl hk hq hm
      have ki : (ws.set j (b, .inl (g.2.1 0, n, .inl (aI q))))[i]? = some (a, .inr (7, [.ref b, .int (iI sz)])) := by rw [List.getElem?_set_ne h1]; exact hi
      have kj : (ws.set j (b, .inl (g.2.1 0, n, .inl (aI q))))[j]? = some (b, .inl (g.2.1 0, n, .inl (aI q))) := List.getElem?_set_self (List.getElem?_eq_some_iff.mp hj).1
      have ki2 : (ws.set j (b, .inl (g.2.1 0, n, .inl (aI q))))[i2]? = some (a2, .inr (7, [.ref b2, .int (iI sz2)])) := by rw [List.getElem?_set_ne h2]; exact hi2
      have kj2 : (ws.set j (b, .inl (g.2.1 0, n, .inl (aI q))))[j2]? = some (b2, .inl (g.2.1 0, n, .inl (aI f2))) := by rw [List.getElem?_set_ne h3]; exact hj2
      refine li_iload_n hC hl 0 rfl dX6_become_2 ?_
      refine li_aload_n hC hl 1 rfl dX6_become_3 ?_
      refine li_get hC hK.1 ck_X6 (hS.1 i _ ki) 0 (by decide) fl_X6_13 rfl (v := .ref b) rfl dX6_become_4 ?_
      refine li_alen hC hK.1 (k := 0) (hS.1 j _ kj) rfl dX6_become_7 ?_
      refine li_icmp_ge (tgt := 28) hC (by decide) (rg (by omega) (by omega)) (rg (by omega) (by omega)) dX6_become_8 (fun c1 => ?_) (fun c1 => ?_)
      · have hS := St_ext (f' := aI f2) (ws' := ws.set j (b, .inl (g.2.1 0, n, .inl (aI f2)))) hS j kj (fun m hm => iI_inj (hq m (by omega))) (by rw [List.set_set])
        have ki : (ws.set j (b, .inl (g.2.1 0, n, .inl (aI f2))))[i]? = some (a, .inr (7, [.ref b, .int (iI sz)])) := by rw [List.getElem?_set_ne h1]; exact hi
        have ki2 : (ws.set j (b, .inl (g.2.1 0, n, .inl (aI f2))))[i2]? = some (a2, .inr (7, [.ref b2, .int (iI sz2)])) := by rw [List.getElem?_set_ne h2]; exact hi2
        refine li_aload_n hC hl 1 rfl dX6_become_28 ?_
        refine li_aload_n hC hl 2 rfl dX6_become_29 ?_
        refine li_get hC hK.1 ck_X6 (hS.1 i2 _ ki2) 1 (by decide) fl_X6_19 rfl (v := .int (iI sz2)) rfl dX6_become_30 ?_
        refine li_put hC hK hS ck_X6 i ki 1 (by decide) fl_X6_19 rfl rfl (v := .int (iI sz2)) rfl rfl (Nat.le_of_ble_eq_true rfl) hw dX6_become_33 (fun H locs hS => ?_)
        exact hQ _ _ _ _ _ _ _ dX6_become_36 hS (by omega) (by omega) rfl
      · refine li_aload_n hC hl 1 rfl dX6_become_11 ?_
        refine li_get hC hK.1 ck_X6 (hS.1 i _ ki) 0 (by decide) fl_X6_13 rfl (v := .ref b) rfl dX6_become_12 ?_
        refine li_iload_n hC hl 0 rfl dX6_become_15 ?_
        refine li_aload_n hC hl 2 rfl dX6_become_16 ?_
        refine li_iload_n hC hl 0 rfl dX6_become_17 ?_
        refine ro_callVi hC (c_X6_get l g ki2 kj2 hn (k := k) (by omega)) mk_X6_get ml_X6_23 (rr (by decide)) ⟨Nat.zero_le _, Nat.zero_le _⟩ hK.1 (hS.ro hK) hS.1 (li_recv hK.1 ck_X6 (hS.1 i2 _ ki2)) rfl hl.1 rfl (Nat.le_of_ble_eq_true rfl) dX6_become_18 ?_
        refine li_iast hC hK hS j kj (z := k) (v := f2 k.toNat) (by omega) (by omega) (by rw [List.set_set]) dX6_become_21 (fun H locs hS => ?_)
        refine li_iinc hC (lv' := [(2, .int (iI (k + 1))), (0, .ref a), (1, .ref a2)]) hl 0 rfl (by decide) rfl dX6_become_22 (fun ls hl => ?_)
        refine li_goto (tgt := 2) hC (by decide) dX6_become_25 ?_
        exact ih (k + 1) _ ls _ _ hS hl (by omega) (cp_s hk.1 hq) (by omega)
  have e0 : ws.set j (b, .inl (g.2.1 0, n, .inl (aI f))) = ws := by
    apply List.ext_getElem?
    intro k
    by_cases e : j = k
    · subst e; rw [List.getElem?_set_self (List.getElem?_eq_some_iff.mp hj).1, hj]
    · rw [List.getElem?_set_ne e]
  exact L (((n : Int) - 0).toNat + 1) 0 f ls _ _ (by rw [e0]; exact hS) hl (by omega) (by intro m hm; omega) (by omega)
