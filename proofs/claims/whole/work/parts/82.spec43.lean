/-! orders: the leaf and the steps -/
section OR2
variable {S : Nat → Int}
theorem all_in {D : Nat} {u : List Int} (hn : u.Nodup) (hu : ∀ n ∈ u, 0 ≤ n ∧ n < (D : Int)) (hl : u.length = D) {n : Int} (h0 : 0 ≤ n) (h1 : n < D) : n ∈ u := by
  refine Classical.byContradiction fun h => ?_
  have hd : (n :: u).Nodup := List.nodup_cons.mpr ⟨h, hn⟩
  have hs : (n :: u) ⊆ (List.range D).map (fun k : Nat => (k : Int)) := by
    intro m hm
    have hm2 : 0 ≤ m ∧ m < (D : Int) := by
      rcases List.mem_cons.mp hm with e | e
      · rw [e]; exact ⟨h0, h1⟩
      · exact hu m e
    exact List.mem_map.mpr ⟨m.toNat, List.mem_range.mpr (by omega), by omega⟩
  have q := hd.length_le_of_subset hs
  simp at q
  omega
theorem sumI_0 : ∀ n : Nat, sumI (fun _ => (0 : Int)) n = 0
  | 0 => rfl
  | n + 1 => by
    have e : sumI (fun _ => (0 : Int)) (n + 1) = sumI (fun _ => (0 : Int)) n + 0 := rfl
    rw [e, sumI_0 n]
    rfl
theorem hopO_all {tp : Int → Int} {D : Nat} {u : List Int} (h : ∀ n : Int, 0 ≤ n → n < D → n ∈ u) : hopO tp D u = 0 := by
  unfold hopO
  have e : sumI (fun n => iteP (n ∈ u) 0 (tp n)) D = sumI (fun _ => (0 : Int)) D := sumI_ext (fun n h0 h1 => iteP_t (h n h0 h1))
  rw [e]
  exact sumI_0 D
theorem nod_app {u : List Int} {n : Int} (h : u.Nodup) (hn : ¬ n ∈ u) : (u ++ [n]).Nodup := (List.perm_append_singleton n u).nodup_iff.mpr (List.nodup_cons.mpr ⟨hn, h⟩)
theorem ord_blk {u : List Int} {n dr : Int} (hD : S 0 ≤ 7) (hn : 0 ≤ n ∧ n < S 0) (hC : InvC S) (hnu : ¬ n ∈ u) (hdr : dr = takeS S (tkL S u).1 n) : ior (blkQ S (tkL S u).1) (if dr = 4 then 0 else setB (clP S n dr) (4 * S 0).toNat) = blkQ S (tkL S (u ++ [n])).1 := by
  have t := tkL_rng hC u
  rw [tkL_app, hdr]
  exact blkQ_step hD hn (t.2.1 n hnu)
theorem ord_val {u : List Int} {n dr : Int} (hdr : dr = takeS S (tkL S u).1 n) : valO S u + (if dr = 4 then 0 else vlG S 100000 n dr) = valO S (u ++ [n]) := by
  unfold valO
  rw [tkL_app, val_step, hdr]
theorem ord_nil : valO S [] = 0 := rfl
theorem lin_blk {i dr : Int} (hD : S 0 ≤ 7) (hn : 0 ≤ i ∧ i < S 0) (hC : InvC S) (hdr : dr = takeS S (tkN S i.toNat).1 i) : ior (blkQ S (tkN S i.toNat).1) (if dr = 4 then 0 else setB (clP S i dr) (4 * S 0).toNat) = blkQ S (tkN S (i + 1).toNat).1 := by
  have t := tkN_rng hC i.toNat
  rw [tkN_s hn.1, hdr]
  exact blkQ_step hD hn (t.2.1 i (by omega))
theorem lin_val {i dr : Int} (h0 : 0 ≤ i) (hdr : dr = takeS S (tkN S i.toNat).1 i) : valT (tkN S i.toNat) + (if dr = 4 then 0 else vlG S 100000 i dr) = valT (tkN S (i + 1).toNat) := by
  rw [tkN_s h0, val_step, hdr]
theorem lin_dr (hI : InvD S) (hC : InvC S) {i bl : Int} (hn : 0 ≤ i ∧ i < S 0) (hbl : bl = blkQ S (tkN S i.toNat).1) : drS (bitsF S (wideS S)) (vlG S 100000) i bl = takeS S (tkN S i.toNat).1 i := by
  have t := tkN_rng hC i.toNat
  rw [hbl]
  exact dr_take hI hn (t.2.1 i (by omega)) t.1
theorem ord_dr (hI : InvD S) (hC : InvC S) {u : List Int} {n bl : Int} (hn : 0 ≤ n ∧ n < S 0) (hnu : ¬ n ∈ u) (hbl : bl = blkQ S (tkL S u).1) : drS (bitsF S (wideS S)) (vlG S 100000) n bl = takeS S (tkL S u).1 n := by
  have t := tkL_rng hC u
  rw [hbl]
  exact dr_take hI hn (t.2.1 n hnu) t.1
theorem valN_rng (hC : InvC S) {n : Nat} (hn : n ≤ 7) : -1000000 ≤ valT (tkN S n) ∧ valT (tkN S n) ≤ 1000000 := by
  obtain ⟨-, -, h3, h4⟩ := tkN_rng hC n
  unfold valT
  omega
theorem cmpO7 {D : Nat} {d : Nat} {u : List Int} (h : u.length + d ≤ 7) : ∀ w ∈ cmpD D okO d u, w.length ≤ 7 := fun w hw => by rw [cmpD_len d u w hw]; exact h
theorem foldO_GT (hC : InvC S) {D d : Nat} {u : List Int} {t : BT} (ht : GT t) (h : u.length + d ≤ 7) : GT (foldV (valO S) (cmpD D okO d u) t) :=
  foldV_GT _ t ht (fun w hw => valO_rng hC (cmpO7 h w hw))
end OR2
