set_option maxHeartbeats 4000000 in
set_option maxRecDepth 100000 in
theorem law_undo (l : Launch) (g : GG) (x hm b L : Nat) (xs : Nat → Int32) : LawCase l g x hm b L xs 1118 := by
  intro p e s m args below meth c Q Aw i w H locs ls cells slots hC hK hX hbl hbA hL hi hcc hW hS hl K
  obtain ⟨ad, F, A, E, tl, S, nm, T, nt, nd, ar, F2, A2, hx, hw, hSA, hLI⟩ := hW
  subst hx
  rw [hw] at hS
  have hLI0 := hLI
  obtain ⟨hSh, hInv, h66, h3, hTk, hld, hcd, hde, htE, htr⟩ := hLI0
  have hInv0 := hInv
  obtain ⟨hI, hH, hL0, hC0, hG, hTS, hMI⟩ := hInv0
  refine li_aload_n hC hl 1 rfl dL_law_1118 ?_
  refine fr_callVi hC (c_X11_undo l g ad F A E tl S nm hSh hI T nt h66 (fun h9 => (hTk h9).1) (fun h9 => (hTk h9).2.1.1) hde _) mk_X11_undo ml_L_150 ⟨Nat.le_of_ble_eq_true rfl, Nat.le_of_ble_eq_true rfl⟩ ⟨by show cells + 1 ≤ 600000; omega, by show slots + 10 ≤ 7302250; omega⟩ hK hS (li_recv hK.1 ck_X11 (hS.1 0 _ rfl)) rfl hl.1 rfl (Nat.le_of_ble_eq_true rfl) dL_law_1119 (fun v w H locs hp hS => ?_)
  obtain ⟨hp0, hp1⟩ := hp
  rcases h66 with h6 | h6
  · obtain ⟨hv, hw9⟩ := hp0 h6
    rw [hw9] at hS; rw [hv]
    refine li_aload_n hC hl 2 rfl dL_law_1122 ?_
    have hS := st_swap hS
    refine fr_callVi hC (c_X12_undo l g hm ar F2 A2 S hSA (by rw [h3]; exact Or.inl h6) _) mk_X12_undo ml_L_153 ⟨Nat.le_of_ble_eq_true rfl, Nat.le_of_ble_eq_true rfl⟩ ⟨by show cells + 1 + 0 ≤ 600000; omega, by show slots + 10 + 0 ≤ 7302250; omega⟩ hK hS (li_recv hK.1 ck_X12 (hS.1 0 _ rfl)) rfl hl.1 rfl (Nat.le_of_ble_eq_true rfl) dL_law_1123 (fun v w H locs hp hS => ?_)
    obtain ⟨hv, hw9⟩ := hp.1 (by rw [h3]; exact h6)
    rw [hw9] at hS; rw [hv]
    have hS := st_swap hS
    refine li_same (tgt := 1154) hC (by decide) dL_law_1126 ?_
    exact K _ _ _ _ _ _ ⟨ad, F, A, E, tl, S, nm, T, nt, nd, ar, F2, A2, rfl, rfl, hSA, hLI⟩ hS hl (by omega) (by omega)
  · obtain ⟨hv, Fc, Ac, rc, tc, hw9, htl, hc66, ⟨hc1, hc2⟩, hsh, htk, hne⟩ := hp1 h6
    obtain ⟨hk1, hk2, hk3⟩ := hTk h6
    rw [hw9] at hS; rw [hv]
    refine li_aload_n hC hl 2 rfl dL_law_1122 ?_
    have hS := st_swap hS
    refine fr_callVi hC (c_X12_undo l g hm ar F2 A2 S hSA (by rw [h3]; exact Or.inr h6) _) mk_X12_undo ml_L_153 ⟨Nat.le_of_ble_eq_true rfl, Nat.le_of_ble_eq_true rfl⟩ ⟨by show cells + 1 + 0 ≤ 600000; omega, by show slots + 10 + 0 ≤ 7302250; omega⟩ hK hS (li_recv hK.1 ck_X12 (hS.1 0 _ rfl)) rfl hl.1 rfl (Nat.le_of_ble_eq_true rfl) dL_law_1123 (fun v w H locs hp hS => ?_)
    obtain ⟨hv, hw9⟩ := hp.2 (by rw [h3]; exact h6)
    rw [hw9] at hS; rw [hv, hk3]
    have hS := st_swap hS
    refine li_same (tgt := 1154) hC (by decide) dL_law_1126 ?_
    exact K _ _ _ _ _ _ ⟨ad, Fc, Ac, (va_up E 0 rc), tc, T, nt, T, nt, nt, ar, F2, (va_up A2 1 (A2 2)), rfl, rfl, hk3, lw_undo hLI h6 hc66 hc1 hc2 hsh htk hne⟩ hS hl (by omega) (by omega)
