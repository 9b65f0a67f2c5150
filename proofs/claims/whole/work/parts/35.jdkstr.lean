set_option maxHeartbeats 4000000 in
theorem c_J0_coder_7d493 (l : Launch) (g : GG) {i : Nat} (hi : i < 6) : MroN l g yJ0_coder_7d493 cJ0_coder_7d493 1 1 .byte [.ref (g.2.2.1 i)] (fun _ => True) (iI 0) := by
  refine ro_entry (own := RJ0) (by decide) rfl (Nat.le_of_ble_eq_true rfl) ?_
  intro Pg Ev s Mi args below Mt Cd ls hC hK hE hP hl
  have hl : lv_has ls 1 [(0, .ref (g.2.2.1 i))] := hl
  refine li_gets hC hE.2.2.1 va_S.rf fl_J0_38 rfl dJ0_coder_7d493_0 ?_
  refine li_if_eq (a := 1) (tgt := 13) hC (by decide) (rg (by decide) (by decide)) dJ0_coder_7d493_3 (fun c1 => absurd c1 (by decide)) (fun c1 => ?_)
  refine li_aload_n hC hl 0 rfl dJ0_coder_7d493_6 ?_
  refine li_getof hC (hE.2.2.2.2.1 i hi).2.1 va_S.rf fl_J0_15 rfl dJ0_coder_7d493_7 ?_
  refine li_goto (tgt := 14) hC (by decide) dJ0_coder_7d493_10 ?_
  exact ro_nret hC (by decide) rfl dJ0_coder_7d493_14
set_option maxHeartbeats 4000000 in
theorem c_J0_isLatin1_aae02 (l : Launch) (g : GG) {i : Nat} (hi : i < 6) : MroN l g yJ0_isLatin1_aae02 cJ0_isLatin1_aae02 1 1 .boolean [.ref (g.2.2.1 i)] (fun _ => True) (iI 1) := by
  refine ro_entry (own := RJ0) (by decide) rfl (Nat.le_of_ble_eq_true rfl) ?_
  intro Pg Ev s Mi args below Mt Cd ls hC hK hE hP hl
  have hl : lv_has ls 1 [(0, .ref (g.2.2.1 i))] := hl
  refine li_gets hC hE.2.2.1 va_S.rf fl_J0_38 rfl dJ0_isLatin1_aae02_0 ?_
  refine li_if_eq (a := 1) (tgt := 17) hC (by decide) (rg (by decide) (by decide)) dJ0_isLatin1_aae02_3 (fun c1 => absurd c1 (by decide)) (fun c1 => ?_)
  refine li_aload_n hC hl 0 rfl dJ0_isLatin1_aae02_6 ?_
  refine li_getof hC (hE.2.2.2.2.1 i hi).2.1 va_S.rf fl_J0_15 rfl dJ0_isLatin1_aae02_7 ?_
  refine li_if_ne (a := 0) (tgt := 17) hC (by decide) (rg (by decide) (by decide)) dJ0_isLatin1_aae02_10 (fun c1 => absurd rfl c1) (fun c1 => ?_)
  refine li_iconst hC dJ0_isLatin1_aae02_13 ?_
  refine li_goto (tgt := 18) hC (by decide) dJ0_isLatin1_aae02_14 ?_
  exact ro_nret hC (by decide) rfl dJ0_isLatin1_aae02_18
set_option maxHeartbeats 4000000 in
theorem c_J0_length_8abf5 (l : Launch) (g : GG) {i : Nat} (hi : i < 6) : MroI l g yJ0_length_8abf5 cJ0_length_8abf5 1 2 [.ref (g.2.2.1 i)] (fun _ => True) (iI (sLen.getD i 0 : Nat)) := by
  refine ro_entry (own := RJ0) (by decide) rfl (Nat.le_of_ble_eq_true rfl) ?_
  intro Pg Ev s Mi args below Mt Cd ls hC hK hE hP hl
  have hl : lv_has ls 1 [(0, .ref (g.2.2.1 i))] := hl
  refine li_aload_n hC hl 0 rfl dJ0_length_8abf5_0 ?_
  refine li_getof hC (hE.2.2.2.2.1 i hi).2.2.1 va_S.rf fl_J0_9 rfl dJ0_length_8abf5_1 ?_
  refine li_tlen hC (hE.2.2.2.2.1 i hi).2.2.2 va_S.rf dJ0_length_8abf5_4 ?_
  refine li_aload_n hC hl 0 rfl dJ0_length_8abf5_5 ?_
  refine ro_callVi hC (c_J0_coder_7d493 l g hi) mk_J0_coder_7d493 ml_J0_335 (rr (by decide)) ⟨Nat.le_of_ble_eq_true rfl, Nat.le_of_ble_eq_true rfl⟩ hK hE trivial (str_recv hE hi va_S.rf) rfl hl.1 rfl (Nat.le_of_ble_eq_true rfl) dJ0_length_8abf5_6 ?_
  refine li_ishr hC dJ0_length_8abf5_9 ?_
  refine ro_iret hC ?_ dJ0_length_8abf5_10
  have hs := sLen_ok i hi
  rw [ishr_n (by omega) ⟨by decide, by decide⟩]
  exact iI_inj (by simp)
set_option maxHeartbeats 4000000 in
theorem c_J3_checkIndex_8e157 (l : Launch) (g : GG) {z n : Int} {v : Value} (hv : v = .null ∨ ∃ t : Nat, v = .ref t) (hz : 0 ≤ z ∧ z < n) (hn : n ≤ 1000) : MroI l g yJ3_checkIndex_8e157 cJ3_checkIndex_8e157 3 1 [.int (iI z), .int (iI n), v] (fun _ => True) (iI z) := by
  refine ro_entry (own := RJ3) (by decide) rfl (by rcases hv with rfl | ⟨t, rfl⟩ <;> exact Nat.le_of_ble_eq_true rfl) ?_
  intro Pg Ev s Mi args below Mt Cd ls hC hK hE hP hl
  have hl : lv_has ls 3 [(0, .int (iI z)), (1, .int (iI n)), (2, v)] := by rcases hv with rfl | ⟨t, rfl⟩ <;> exact hl
  refine li_iload_n hC hl 0 rfl dJ3_checkIndex_8e157_0 ?_
  refine li_if_lt (tgt := 9) hC (by decide) (rg (by omega) (by omega)) dJ3_checkIndex_8e157_1 (fun c1 => absurd c1 (by omega)) (fun c1 => ?_)
  refine li_iload_n hC hl 0 rfl dJ3_checkIndex_8e157_4 ?_
  refine li_iload_n hC hl 1 rfl dJ3_checkIndex_8e157_5 ?_
  refine li_icmp_lt (tgt := 16) hC (by decide) (rg (by omega) (by omega)) (rg (by omega) (by omega)) dJ3_checkIndex_8e157_6 (fun c2 => ?_) (fun c2 => absurd c2 (by omega))
  refine li_iload_n hC hl 0 rfl dJ3_checkIndex_8e157_16 ?_
  exact ro_iret hC rfl dJ3_checkIndex_8e157_17
set_option maxHeartbeats 4000000 in
theorem c_J0_checkIndex_df160 (l : Launch) (g : GG) {z n : Int} (hz : 0 ≤ z ∧ z < n) (hn : n ≤ 1000) : MroV l g yJ0_checkIndex_df160 cJ0_checkIndex_df160 2 2 [.int (iI z), .int (iI n)] (fun _ => True) := by
  refine ro_entry (own := RJ0) (by decide) rfl (Nat.le_of_ble_eq_true rfl) ?_
  intro Pg Ev s Mi args below Mt Cd ls hC hK hE hP hl
  have hl : lv_has ls 2 [(0, .int (iI z)), (1, .int (iI n))] := hl
  refine li_iload_n hC hl 0 rfl dJ0_checkIndex_df160_0 ?_
  refine li_iload_n hC hl 1 rfl dJ0_checkIndex_df160_1 ?_
  have key : ∀ v : Value, (v = .null ∨ ∃ t : Nat, v = .ref t) → W Pg l Ev (rmL 2) s Mi args below Mt Cd s.heap [] 0 0 (MQ below ro_Sv args s 0 0 (fun _ => False)) (F0 Mi 5 ls [v, .int (iI n), .int (iI z)]) := by
    intro v hv
    refine ro_callSi hC (c_J3_checkIndex_8e157 l g hv hz hn) mk_J3_checkIndex_8e157 ml_J0_1059 (rr (by decide)) ⟨Nat.le_of_ble_eq_true rfl, Nat.le_of_ble_eq_true rfl⟩ hK hE trivial rfl hl.1 rfl (Nat.le_of_ble_eq_true rfl) dJ0_checkIndex_df160_5 ?_
    refine li_pop hC rfl dJ0_checkIndex_df160_8 ?_
    exact ro_vret hC dJ0_checkIndex_df160_9
  rcases hE.2.2.2.1 with hZ | ⟨t, hZ⟩
  · exact li_gets hC hZ va_S.rf fl_J0_1053 rfl dJ0_checkIndex_df160_2 (key _ (Or.inl rfl))
  · exact li_gets hC hZ va_S.rf fl_J0_1053 rfl dJ0_checkIndex_df160_2 (key _ (Or.inr ⟨t, rfl⟩))
set_option maxHeartbeats 4000000 in
theorem c_J1_charAt_3b067 (l : Launch) (g : GG) {i : Nat} {k : Int} (hi : i < 6) (hk : 0 ≤ k ∧ k < (sLen.getD i 0 : Nat)) : MroN l g yJ1_charAt_3b067 cJ1_charAt_3b067 2 3 .char [.ref (g.2.2.2 i), .int (iI k)] (fun _ => True) (iI (chS i k.toNat)) := by
  refine ro_entry (own := RJ1) (by decide) rfl (Nat.le_of_ble_eq_true rfl) ?_
  intro Pg Ev s Mi args below Mt Cd ls hC hK hE hP hl
  have hl : lv_has ls 2 [(0, .ref (g.2.2.2 i)), (1, .int (iI k))] := hl
  have hs := sLen_ok i hi
  refine li_iload_n hC hl 1 rfl dJ1_charAt_3b067_0 ?_
  refine li_aload_n hC hl 0 rfl dJ1_charAt_3b067_1 ?_
  refine li_tlen hC (hE.2.2.2.2.1 i hi).2.2.2 va_S.rf dJ1_charAt_3b067_2 ?_
  refine ro_callSv hC (c_J0_checkIndex_df160 l g hk (by omega)) mk_J0_checkIndex_df160 ml_J1_9 (rr (by decide)) ⟨Nat.le_of_ble_eq_true rfl, Nat.le_of_ble_eq_true rfl⟩ hK hE trivial rfl hl.1 rfl (Nat.le_of_ble_eq_true rfl) dJ1_charAt_3b067_3 ?_
  refine li_aload_n hC hl 0 rfl dJ1_charAt_3b067_6 ?_
  refine li_iload_n hC hl 1 rfl dJ1_charAt_3b067_7 ?_
  have hc := chS_ok i hi k.toNat (by omega)
  refine li_tb hC (v := .int (iI (chS i k.toNat))) (hE.2.2.2.2.1 i hi).2.2.2 va_S.rf hk (by omega) (by rw [← hc.2]) dJ1_charAt_3b067_8 ?_
  refine li_sipush hC (z := 255) rfl dJ1_charAt_3b067_9 ?_
  refine li_iand hC dJ1_charAt_3b067_12 ?_
  rw [and255 hc.1]
  refine li_i2c hC hc.1 dJ1_charAt_3b067_13 ?_
  exact ro_nret hC (narc hc.1) rfl dJ1_charAt_3b067_14
set_option maxHeartbeats 4000000 in
theorem c_J0_charAt_5068e (l : Launch) (g : GG) {i : Nat} {k : Int} (hi : i < 6) (hk : 0 ≤ k ∧ k < (sLen.getD i 0 : Nat)) : MroN l g yJ0_charAt_5068e cJ0_charAt_5068e 2 4 .char [.ref (g.2.2.1 i), .int (iI k)] (fun _ => True) (iI (chS i k.toNat)) := by
  refine ro_entry (own := RJ0) (by decide) rfl (Nat.le_of_ble_eq_true rfl) ?_
  intro Pg Ev s Mi args below Mt Cd ls hC hK hE hP hl
  have hl : lv_has ls 2 [(0, .ref (g.2.2.1 i)), (1, .int (iI k))] := hl
  have hs := sLen_ok i hi
  have hc := chS_ok i hi k.toNat (by omega)
  refine li_aload_n hC hl 0 rfl dJ0_charAt_5068e_0 ?_
  refine ro_callVi hC (c_J0_isLatin1_aae02 l g hi) mk_J0_isLatin1_aae02 ml_J0_492 (rr (by decide)) ⟨Nat.le_of_ble_eq_true rfl, Nat.le_of_ble_eq_true rfl⟩ hK hE trivial (str_recv hE hi va_S.rf) rfl hl.1 rfl (Nat.le_of_ble_eq_true rfl) dJ0_charAt_5068e_1 ?_
  refine li_if_eq (tgt := 16) hC (by decide) (rg (by decide) (by decide)) dJ0_charAt_5068e_4 (fun c1 => absurd c1 (by decide)) (fun c1 => ?_)
  refine li_aload_n hC hl 0 rfl dJ0_charAt_5068e_7 ?_
  refine li_getof hC (hE.2.2.2.2.1 i hi).2.2.1 va_S.rf fl_J0_9 rfl dJ0_charAt_5068e_8 ?_
  refine li_iload_n hC hl 1 rfl dJ0_charAt_5068e_11 ?_
  refine ro_callSi hC (c_J1_charAt_3b067 l g hi hk) mk_J1_charAt_3b067 ml_J0_495 (rr (by decide)) ⟨Nat.le_of_ble_eq_true rfl, Nat.le_of_ble_eq_true rfl⟩ hK hE trivial rfl hl.1 rfl (Nat.le_of_ble_eq_true rfl) dJ0_charAt_5068e_12 ?_
  exact ro_nret hC (narc hc.1) rfl dJ0_charAt_5068e_15
