theorem wrap10 {w : Int} (h : rng w) : ∃ n : Int, rng n ∧ iI (w - 10) = iI n ∧ (n = w - 10 ∨ (1000000 < n ∧ w < -1000000)) := by
  rcases (show -2147483648 ≤ w - 10 ∨ w - 10 < -2147483648 by omega) with q | q
  · exact ⟨w - 10, ⟨q, by have := h.2; omega⟩, rfl, Or.inl rfl⟩
  · have h1 := h.1
    refine ⟨w - 10 + 4294967296, ⟨by omega, by omega⟩, ?_, Or.inr ⟨by omega, by omega⟩⟩
    rw [← iI_add, show iI 4294967296 = 0 from by decide, Int32.add_zero]
def KeepR (S : Nat → Int) (F F2 : Nat → Int) (A A2 : Nat → Nat → Int) : Prop := (F2 3 = F 3 ∧ F2 24 = F 24) ∧ A2 1 = S ∧ A2 2 = A 2 ∧ A2 23 = A 23
noncomputable def mostR (S : Nat → Int) (what : Int) : Int := iteP (what = 0 ∨ what = 1 ∨ (0 ≤ what - 10 ∧ what - 10 < S 0)) (if what = 0 then (bestT S 1).1 else if what = 1 then (bestT S 1).2.1 else orN ((bestT S 1).2.2 (what - 10).toNat)) (-10001)
noncomputable def bestR (S : Nat → Int) (what : Int) : Int := iteP (what = 0 ∨ (0 ≤ what - 10 ∧ what - 10 < S 0)) (if what = 0 then (bestT S 0).2.1 else orN ((bestT S 0).2.2 (what - 10).toNat)) (-10001)
theorem bestT_at {S : Nat → Int} (hI : InvD S) (hC : InvC S) {by0 : Int} {b : Nat → Int} : eqT (S 0) (foldK by0 (S 0) (goodS S) (cmp (okW S (wideS S)) (S 0).toNat []) (-1, -1000000, b)) (bestT S by0) :=
  foldK_start _ (cmpW_ne _ _) (fun u hu => by
    have h := cmp_len _ _ u hu
    have h2 := hI.1
    have h3 := scoreL_rng hC (u := u) (by simp at h; omega)
    omega)
theorem bestT_TB {S : Nat → Int} (hI : InvD S) (hC : InvC S) {by0 : Int} : TB (bestT S by0) :=
  foldK_TB hC _ _ ⟨by show (-1 : Int) ≤ -1; omega, by show (-1 : Int) ≤ 7; omega, by show (-1000000 : Int) ≤ -1000000; omega, by show (-1000000 : Int) ≤ 100000; omega⟩ (fun u hu => by
    have h := cmp_len _ _ u hu
    have h2 := hI.1
    simp at h
    omega)
theorem TB_start {b : Nat → Int} : TB (-1, -1000000, b) := ⟨by show (-1 : Int) ≤ -1; omega, by show (-1 : Int) ≤ 7; omega, by show (-1000000 : Int) ≤ -1000000; omega, by show (-1000000 : Int) ≤ 100000; omega⟩
theorem use_nil : (0 : Int) = setB (useP []) 28 := (setB_0.mpr (fun j _ h => by have h1 := h.1; simp at h1; omega)).symm
/-- what stands in the best way is a place or OUT -/
theorem keepL_pl {by0 D : Int} {gd : Int → Int → Int} {t : BT} {u : List Int} (h : ∀ k : Nat, (k : Int) < D → 0 ≤ t.2.2 k ∧ t.2.2 k ≤ 4) (hu : ∀ k : Int, 0 ≤ k → k < D → 0 ≤ atL u k ∧ atL u k ≤ 4) : ∀ k : Nat, (k : Int) < D → 0 ≤ (keepL by0 D gd t u).2.2 k ∧ (keepL by0 D gd t u).2.2 k ≤ 4 := by
  intro k hk
  unfold keepL keepT
  by_cases hm : isMore by0 t (manyL u) (scoreL gd u)
  · rw [iteP_t hm]
    show 0 ≤ (if (k : Int) < D then atL u k else t.2.2 k) ∧ (if (k : Int) < D then atL u k else t.2.2 k) ≤ 4
    rw [if_pos hk]
    exact hu k (by omega) hk
  · rw [iteP_f hm]
    exact h k hk
theorem foldK_pl {by0 D : Int} {gd : Int → Int → Int} (L : List (List Int)) : ∀ t : BT, (∀ k : Nat, (k : Int) < D → 0 ≤ t.2.2 k ∧ t.2.2 k ≤ 4) → (∀ u ∈ L, ∀ k : Int, 0 ≤ k → k < D → 0 ≤ atL u k ∧ atL u k ≤ 4) → ∀ k : Nat, (k : Int) < D → 0 ≤ (foldK by0 D gd L t).2.2 k ∧ (foldK by0 D gd L t).2.2 k ≤ 4 := by
  induction L with
  | nil => exact fun t h _ => h
  | cons u L ih => exact fun t h h2 => ih _ (keepL_pl h (h2 u List.mem_cons_self)) (fun v hv => h2 v (List.mem_cons_of_mem _ hv))
theorem cmpP_all {Q : List Int → Prop} {f : Int → List (List Int)} {ok : Int → Prop} : ∀ k : Nat, (∀ p : Int, 0 ≤ p → p < k → ok p → ∀ w ∈ f p, Q w) → ∀ w ∈ cmpP f ok k, Q w
  | 0, _, w, h => by simp [cmpP] at h
  | k + 1, hf, w, h => by
    rw [cmpP, List.mem_append] at h
    rcases h with h | h
    · exact cmpP_all k (fun p h0 h1 => hf p h0 (by omega)) w h
    · by_cases hk : ok k
      · rw [iteP_t hk] at h; exact hf k (by omega) (by omega) hk w h
      · rw [iteP_f hk] at h; simp at h
theorem cmp_ok {ok : List Int → Int → Prop} : ∀ (d : Nat) (u : List Int), okL u → ∀ w ∈ cmp ok d u, okL w
  | 0, u, hu, w, h => by simp [cmp] at h; rw [h]; exact hu
  | d + 1, u, hu, w, h => by
    rw [cmp] at h
    exact cmpP_all 5 (fun p h0 h1 _ w hw => cmp_ok d (u ++ [p]) (okL_app hu (by omega)) w hw) w h
theorem atL_rng {u : List Int} (h : okL u) {k : Int} (h0 : 0 ≤ k) : 0 ≤ atL u k ∧ atL u k ≤ 4 := by
  by_cases hk : k < u.length
  · exact h k h0 hk
  · unfold atL
    rw [List.getD_eq_getElem?_getD, List.getElem?_eq_none (by omega)]
    exact ⟨by decide, by decide⟩
theorem bestT_pl {S : Nat → Int} {by0 : Int} : ∀ k : Nat, (k : Int) < S 0 → 0 ≤ (bestT S by0).2.2 k ∧ (bestT S by0).2.2 k ≤ 4 :=
  foldK_pl _ _ (fun k _ => ⟨by show (0 : Int) ≤ 0; omega, by show (0 : Int) ≤ 4; omega⟩) (fun u hu k h0 h1 => atL_rng (cmp_ok _ _ okL_nil u hu) h0)
