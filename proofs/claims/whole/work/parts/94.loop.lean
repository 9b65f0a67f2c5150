theorem arms {z : Int} (h : 0 ≤ z ∧ z ≤ 33) : z = 0 ∨ z = 1 ∨ z = 2 ∨ z = 3 ∨ z = 4 ∨ z = 5 ∨ z = 6 ∨ z = 7 ∨ z = 8 ∨ z = 9 ∨ z = 10 ∨ z = 11 ∨ z = 12 ∨ z = 13 ∨ z = 14 ∨ z = 15 ∨ z = 16 ∨ z = 17 ∨ z = 18 ∨ z = 19 ∨ z = 20 ∨ z = 21 ∨ z = 22 ∨ z = 23 ∨ z = 24 ∨ z = 25 ∨ z = 26 ∨ z = 27 ∨ z = 28 ∨ z = 29 ∨ z = 30 ∨ z = 31 ∨ z = 32 ∨ z = 33 := by omega
set_option maxHeartbeats 4000000 in
set_option maxRecDepth 100000 in
theorem law_loop (l : Launch) (g : GG) (x hm b L : Nat) (xs : Nat → Int32) {p : Program} {e : Env} {s : State} {m : MethodId} {args : Array Value} {below : List Frame} {meth : Method} {c : Code} {Q : State → Prop} {Aw : Nat → Prop} (hC : Cx p s m args meth c cL_law 4 ret RL) (hK : KW g Aw s) (hX : va_X b L xs s s.heap) (hbl : b < s.heap.size) (hbA : ¬ Aw b) (hL : L ≤ 3072)
    (hend : ∀ (H : Heap) (locs : List Loc) (ls : Array Slot) (cells slots : Nat), va_S Aw s.heap H locs → cells ≤ 5000 → slots ≤ 100000 → W p l e room_1 s m args below meth c H locs cells slots Q (F0 m 1161 ls [.int (iI 1)])) :
    ∀ (fuel : Nat) (i : Int) (w : va_W) (H : Heap) (locs : List Loc) (ls : Array Slot) (cells slots : Nat), (0 ≤ i ∧ i ≤ L) → (L - i).toNat < fuel → ((cells : Int) ≤ 100 + i ∧ (slots : Int) ≤ 40000 + 10 * i) → LawW g x hm w → St g Aw s.heap H locs w → lv_has ls 4 [(0, .ref b), (1, .ref x), (2, .ref hm), (3, .int (iI i))] → W p l e room_1 s m args below meth c H locs cells slots Q (F0 m 18 ls []) := by
  intro fuel
  induction fuel with
  | zero => intro i w H locs ls cells slots hi hm; exact absurd hm (Nat.not_lt_zero _)
  | succ fuel ih =>
    intro i w H locs ls cells slots hi hfu hcc hW hS hl
    refine li_iload_n hC hl 3 rfl dL_law_18 ?_
    refine li_aload_n hC hl 0 rfl dL_law_19 ?_
    refine li_slen hC hX hbl hbA hS.2.2 dL_law_20 ?_
    refine li_bipush hC (z := 6) rfl dL_law_21 ?_
    refine li_isub hC dL_law_23 ?_
    refine li_icmp_gt (tgt := 1160) hC (by decide) (rg (by omega) (by omega)) (rg (by omega) (by omega)) dL_law_24 (fun c1 => ?_) (fun c1 => ?_)
    · refine li_iconst hC dL_law_1160 ?_
      exact hend _ _ _ _ _ hS.2.2 (by omega) (by omega)
    · have hi6 : 0 ≤ i ∧ i + 6 ≤ L := by omega
      have K : ∀ (w : va_W) (H : Heap) (locs : List Loc) (ls : Array Slot) (c1 s1 : Nat), LawW g x hm w → St g Aw s.heap H locs w → lv_has ls 4 [(0, .ref b), (1, .ref x), (2, .ref hm), (3, .int (iI i))] → c1 ≤ cells + 2 → s1 ≤ slots + 16 → W p l e room_1 s m args below meth c H locs c1 s1 Q (F0 m 1154 ls []) := by
        intro w H locs ls c1 s1 hW hS hl h1 h2
        refine li_iinc hC (lv' := [(3, .int (iI (i + 6))), (0, .ref b), (1, .ref x), (2, .ref hm)]) hl 3 rfl (by decide) rfl dL_law_1154 (fun ls hl => ?_)
        refine li_goto (tgt := 18) hC (by decide) dL_law_1157 ?_
        exact ih (i + 6) w H locs ls c1 s1 (by omega) (by omega) (by omega) hW hS (lv_sub hl [1, 2, 3, 0] rfl)
      refine li_aload_n hC hl 0 rfl dL_law_27 ?_
      refine li_iload_n hC hl 3 rfl dL_law_28 ?_
      refine li_sld hC hX hbl hbA hS.2.2 (by omega) hL dL_law_29 ?_
      refine li_bipush hC (z := 63) rfl dL_law_30 ?_
      refine li_iand hC dL_law_32 ?_
      obtain ⟨z, hz⟩ : ∃ z : Int, z = iand (xI xs i) 63 := ⟨_, rfl⟩
      have hzr : rng z := by rw [hz]; exact rng_of _
      rw [← hz]
      by_cases h33 : 0 ≤ z ∧ z ≤ 33
      · rcases arms h33 with h | h | h | h | h | h | h | h | h | h | h | h | h | h | h | h | h | h | h | h | h | h | h | h | h | h | h | h | h | h | h | h | h | h
        · exact li_tableIn (tgt := 184) hC hzr (by omega) (by omega) (off := 151) (by rw [h]; rfl) (by decide) dL_law_33 (law_feed l g x hm b L xs p e s m args below meth c Q Aw i w H locs ls cells slots hC hK hX hbl hbA hL hi6 (by omega) hW hS hl K)
        · exact li_tableIn (tgt := 207) hC hzr (by omega) (by omega) (off := 174) (by rw [h]; rfl) (by decide) dL_law_33 (law_map l g x hm b L xs p e s m args below meth c Q Aw i w H locs ls cells slots hC hK hX hbl hbA hL hi6 (by omega) hW hS hl K)
        · exact li_tableIn (tgt := 220) hC hzr (by omega) (by omega) (off := 187) (by rw [h]; rfl) (by decide) dL_law_33 (law_dot l g x hm b L xs p e s m args below meth c Q Aw i w H locs ls cells slots hC hK hX hbl hbA hL hi6 (by omega) hW hS hl K)
        · exact li_tableIn (tgt := 283) hC hzr (by omega) (by omega) (off := 250) (by rw [h]; rfl) (by decide) dL_law_33 (law_of l g x hm b L xs p e s m args below meth c Q Aw i w H locs ls cells slots hC hK hX hbl hbA hL hi6 (by omega) hW hS hl K)
        · exact li_tableIn (tgt := 316) hC hzr (by omega) (by omega) (off := 283) (by rw [h]; rfl) (by decide) dL_law_33 (law_row l g x hm b L xs p e s m args below meth c Q Aw i w H locs ls cells slots hC hK hX hbl hbA hL hi6 (by omega) hW hS hl K)
        · exact li_tableIn (tgt := 359) hC hzr (by omega) (by omega) (off := 326) (by rw [h]; rfl) (by decide) dL_law_33 (law_good l g x hm b L xs p e s m args below meth c Q Aw i w H locs ls cells slots hC hK hX hbl hbA hL hi6 (by omega) hW hS hl K)
        · exact li_tableIn (tgt := 392) hC hzr (by omega) (by omega) (off := 359) (by rw [h]; rfl) (by decide) dL_law_33 (law_lay l g x hm b L xs p e s m args below meth c Q Aw i w H locs ls cells slots hC hK hX hbl hbA hL hi6 (by omega) hW hS hl K)
        · exact li_tableIn (tgt := 425) hC hzr (by omega) (by omega) (off := 392) (by rw [h]; rfl) (by decide) dL_law_33 (law_lift l g x hm b L xs p e s m args below meth c Q Aw i w H locs ls cells slots hC hK hX hbl hbA hL hi6 (by omega) hW hS hl K)
        · exact li_tableIn (tgt := 448) hC hzr (by omega) (by omega) (off := 415) (by rw [h]; rfl) (by decide) dL_law_33 (law_told l g x hm b L xs p e s m args below meth c Q Aw i w H locs ls cells slots hC hK hX hbl hbA hL hi6 (by omega) hW hS hl K)
        · exact li_tableIn (tgt := 471) hC hzr (by omega) (by omega) (off := 438) (by rw [h]; rfl) (by decide) dL_law_33 (law_clash l g x hm b L xs p e s m args below meth c Q Aw i w H locs ls cells slots hC hK hX hbl hbA hL hi6 (by omega) hW hS hl K)
        · exact li_tableIn (tgt := 524) hC hzr (by omega) (by omega) (off := 491) (by rw [h]; rfl) (by decide) dL_law_33 (law_at l g x hm b L xs p e s m args below meth c Q Aw i w H locs ls cells slots hC hK hX hbl hbA hL hi6 (by omega) hW hS hl K)
        · exact li_tableIn (tgt := 557) hC hzr (by omega) (by omega) (off := 524) (by rw [h]; rfl) (by decide) dL_law_33 (law_most l g x hm b L xs p e s m args below meth c Q Aw i w H locs ls cells slots hC hK hX hbl hbA hL hi6 (by omega) hW hS hl K)
        · exact li_tableIn (tgt := 580) hC hzr (by omega) (by omega) (off := 547) (by rw [h]; rfl) (by decide) dL_law_33 (law_best l g x hm b L xs p e s m args below meth c Q Aw i w H locs ls cells slots hC hK hX hbl hbA hL hi6 (by omega) hW hS hl K)
        · exact li_tableIn (tgt := 603) hC hzr (by omega) (by omega) (off := 570) (by rw [h]; rfl) (by decide) dL_law_33 (law_all l g x hm b L xs p e s m args below meth c Q Aw i w H locs ls cells slots hC hK hX hbl hbA hL hi6 (by omega) hW hS hl K)
        · exact li_tableIn (tgt := 626) hC hzr (by omega) (by omega) (off := 593) (by rw [h]; rfl) (by decide) dL_law_33 (law_room l g x hm b L xs p e s m args below meth c Q Aw i w H locs ls cells slots hC hK hX hbl hbA hL hi6 (by omega) hW hS hl K)
        · exact li_tableIn (tgt := 639) hC hzr (by omega) (by omega) (off := 606) (by rw [h]; rfl) (by decide) dL_law_33 (law_moved l g x hm b L xs p e s m args below meth c Q Aw i w H locs ls cells slots hC hK hX hbl hbA hL hi6 (by omega) hW hS hl K)
        · exact li_tableIn (tgt := 662) hC hzr (by omega) (by omega) (off := 629) (by rw [h]; rfl) (by decide) dL_law_33 (law_inline l g x hm b L xs p e s m args below meth c Q Aw i w H locs ls cells slots hC hK hX hbl hbA hL hi6 (by omega) hW hS hl K)
        · exact li_tableIn (tgt := 685) hC hzr (by omega) (by omega) (off := 652) (by rw [h]; rfl) (by decide) dL_law_33 (law_order l g x hm b L xs p e s m args below meth c Q Aw i w H locs ls cells slots hC hK hX hbl hbA hL hi6 (by omega) hW hS hl K)
        · exact li_tableIn (tgt := 708) hC hzr (by omega) (by omega) (off := 675) (by rw [h]; rfl) (by decide) dL_law_33 (law_far l g x hm b L xs p e s m args below meth c Q Aw i w H locs ls cells slots hC hK hX hbl hbA hL hi6 (by omega) hW hS hl K)
        · exact li_tableIn (tgt := 731) hC hzr (by omega) (by omega) (off := 698) (by rw [h]; rfl) (by decide) dL_law_33 (law_see l g x hm b L xs p e s m args below meth c Q Aw i w H locs ls cells slots hC hK hX hbl hbA hL hi6 (by omega) hW hS hl K)
        · exact li_tableIn (tgt := 790) hC hzr (by omega) (by omega) (off := 757) (by rw [h]; rfl) (by decide) dL_law_33 (law_can l g x hm b L xs p e s m args below meth c Q Aw i w H locs ls cells slots hC hK hX hbl hbA hL hi6 (by omega) hW hS hl K)
        · exact li_tableIn (tgt := 813) hC hzr (by omega) (by omega) (off := 780) (by rw [h]; rfl) (by decide) dL_law_33 (law_firm l g x hm b L xs p e s m args below meth c Q Aw i w H locs ls cells slots hC hK hX hbl hbA hL hi6 (by omega) hW hS hl K)
        · exact li_tableIn (tgt := 846) hC hzr (by omega) (by omega) (off := 813) (by rw [h]; rfl) (by decide) dL_law_33 (law_odds l g x hm b L xs p e s m args below meth c Q Aw i w H locs ls cells slots hC hK hX hbl hbA hL hi6 (by omega) hW hS hl K)
        · exact li_tableIn (tgt := 880) hC hzr (by omega) (by omega) (off := 847) (by rw [h]; rfl) (by decide) dL_law_33 (law_mean l g x hm b L xs p e s m args below meth c Q Aw i w H locs ls cells slots hC hK hX hbl hbA hL hi6 (by omega) hW hS hl K)
        · exact li_tableIn (tgt := 904) hC hzr (by omega) (by omega) (off := 871) (by rw [h]; rfl) (by decide) dL_law_33 (law_plan l g x hm b L xs p e s m args below meth c Q Aw i w H locs ls cells slots hC hK hX hbl hbA hL hi6 (by omega) hW hS hl K)
        · exact li_tableIn (tgt := 937) hC hzr (by omega) (by omega) (off := 904) (by rw [h]; rfl) (by decide) dL_law_33 (law_done l g x hm b L xs p e s m args below meth c Q Aw i w H locs ls cells slots hC hK hX hbl hbA hL hi6 (by omega) hW hS hl K)
        · exact li_tableIn (tgt := 960) hC hzr (by omega) (by omega) (off := 927) (by rw [h]; rfl) (by decide) dL_law_33 (law_book l g x hm b L xs p e s m args below meth c Q Aw i w H locs ls cells slots hC hK hX hbl hbA hL hi6 (by omega) hW hS hl K)
        · exact li_tableIn (tgt := 993) hC hzr (by omega) (by omega) (off := 960) (by rw [h]; rfl) (by decide) dL_law_33 (law_looked l g x hm b L xs p e s m args below meth c Q Aw i w H locs ls cells slots hC hK hX hbl hbA hL hi6 (by omega) hW hS hl K)
        · exact li_tableIn (tgt := 1006) hC hzr (by omega) (by omega) (off := 973) (by rw [h]; rfl) (by decide) dL_law_33 (law_act l g x hm b L xs p e s m args below meth c Q Aw i w H locs ls cells slots hC hK hX hbl hbA hL hi6 (by omega) hW hS hl K)
        · exact li_tableIn (tgt := 1049) hC hzr (by omega) (by omega) (off := 1016) (by rw [h]; rfl) (by decide) dL_law_33 (law_trace l g x hm b L xs p e s m args below meth c Q Aw i w H locs ls cells slots hC hK hX hbl hbA hL hi6 (by omega) hW hS hl K)
        · exact li_tableIn (tgt := 1072) hC hzr (by omega) (by omega) (off := 1039) (by rw [h]; rfl) (by decide) dL_law_33 (law_as l g x hm b L xs p e s m args below meth c Q Aw i w H locs ls cells slots hC hK hX hbl hbA hL hi6 (by omega) hW hS hl K)
        · exact li_tableIn (tgt := 1105) hC hzr (by omega) (by omega) (off := 1072) (by rw [h]; rfl) (by decide) dL_law_33 (law_image l g x hm b L xs p e s m args below meth c Q Aw i w H locs ls cells slots hC hK hX hbl hbA hL hi6 (by omega) hW hS hl K)
        · exact li_tableIn (tgt := 1118) hC hzr (by omega) (by omega) (off := 1085) (by rw [h]; rfl) (by decide) dL_law_33 (law_undo l g x hm b L xs p e s m args below meth c Q Aw i w H locs ls cells slots hC hK hX hbl hbA hL hi6 (by omega) hW hS hl K)
        · exact li_tableIn (tgt := 1131) hC hzr (by omega) (by omega) (off := 1098) (by rw [h]; rfl) (by decide) dL_law_33 (law_count l g x hm b L xs p e s m args below meth c Q Aw i w H locs ls cells slots hC hK hX hbl hbA hL hi6 (by omega) hW hS hl K)
      · exact li_tableOut (tgt := 1154) hC hzr (by omega) (by decide) dL_law_33 (K w H locs ls cells slots hW hS hl (by omega) (by omega))
