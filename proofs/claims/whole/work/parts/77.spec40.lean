theorem cmpP_none {f : Int → List (List Int)} {ok : Int → Prop} : ∀ k : Nat, (∀ p : Int, 0 ≤ p → p < k → ¬ ok p ∨ f p = []) → cmpP f ok k = []
  | 0, _ => rfl
  | k + 1, h => by
    rw [cmpP, cmpP_none k (fun p h0 h1 => h p h0 (by omega)), List.nil_append]
    rcases h k (by omega) (by omega) with q | q
    · exact iteP_f q
    · unfold iteP; split
      · exact q
      · rfl
theorem cmp_none {S : Nat → Int} {al : Int → Int} {i : Int} (hi : 0 ≤ i ∧ i < S 0) (ha : al i = 0) : ∀ (d : Nat) (u : List Int), (u.length : Int) + d = S 0 → (u.length : Int) ≤ i → cmp (okB S al) d u = []
  | 0, u, hd, hl => by omega
  | d + 1, u, hd, hl => by
    rw [cmp_s (by omega)]
    refine cmpP_none 5 (fun p h0 h1 => ?_)
    rcases (show (u.length : Int) = i ∨ (u.length : Int) < i by omega) with q | q
    · refine Or.inl (fun h => ?_)
      have h9 := h.1
      rw [q, ha] at h9
      exact bit_0 h0 (by omega) h9
    · exact Or.inr (cmp_none hi ha d (u ++ [p]) (by rw [len_app]; omega) (by rw [len_app]; omega))
