def GT (t : BT) : Prop := (t.1 = 0 ∨ t.1 = 1) ∧ -1000000 ≤ t.2.1 ∧ t.2.1 ≤ 1000000
theorem foldG_GT {vl : Int → Int → Int} (hv : ∀ i p : Int, -110000 ≤ vl i p ∧ vl i p ≤ 110000) : ∀ (L : List (List Int)) (t : BT), GT t → (∀ u ∈ L, u.length ≤ 7) → GT (foldG vl L t)
  | [], t, h, _ => h
  | u :: L, t, h, hl => by
    have q := scoreL_M (by decide) hv u
    have l7 := hl u List.mem_cons_self
    refine foldG_GT hv L (keepG vl t u) ?_ (fun w hw => hl w (List.mem_cons_of_mem _ hw))
    unfold keepG iteP
    split
    · exact ⟨Or.inr rfl, by show -1000000 ≤ scoreL vl u; omega, by show scoreL vl u ≤ 1000000; omega⟩
    · exact h
theorem blk_step {S : Nat → Int} {u : List Int} {p i : Int} (hD : S 0 ≤ 7) (hi : i = u.length) : ior (blk S u) (if p = 4 then 0 else setB (clP S i p) (4 * S 0).toNat) = blk S (u ++ [p]) := by
  subst hi
  by_cases h : p = 4
  · subst h; rw [if_pos rfl]; exact blk_out hD
  · rw [if_neg h]; exact blk_app hD h
theorem sco_step {vl : Int → Int → Int} {u : List Int} {p i : Int} (hi : i = u.length) : scoreL vl u + (if p = 4 then 0 else vl i p) = scoreL vl (u ++ [p]) := by
  subst hi
  rw [scoreL_app]
theorem okB_iff {S : Nat → Int} {al : Int → Int} {u : List Int} {p i : Int} (hD : S 0 ≤ 7) (hi : i = u.length) (hn : i < S 0) (hp : 0 ≤ p ∧ p ≤ 4) : (iand (ishr (al i) p) 1 ≠ 0 ∧ (p = 4 ∨ ¬ iand (ishr (blk S u) ((i * 4) + p)) 1 ≠ 0)) ↔ okB S al u p := by
  subst hi
  unfold okB
  rcases (show p = 4 ∨ p ≤ 3 by omega) with q | q
  · subst q
    exact ⟨fun h => ⟨h.1, Or.inl rfl⟩, fun h => ⟨h.1, Or.inl rfl⟩⟩
  · unfold blk
    rw [hasB (by omega) (by omega) (by omega), show ((u.length : Int) * 4) + p = 4 * (u.length : Int) + p by omega]
    constructor
    · intro h
      exact ⟨h.1, Or.inr (fun h9 => h.2.elim (by omega) (fun h8 => h8 ⟨by omega, h9⟩))⟩
    · intro h
      exact ⟨h.1, Or.inr (fun h9 => h.2.elim (by omega) (fun h8 => h8 h9.2))⟩
theorem leafG {S : Nat → Int} {vl : Int → Int → Int} {al : Int → Int} {u : List Int} {t : BT} {d : Nat} (hd : d = 0) (h : t.1 = 0 ∨ t.2.1 < scoreL vl u) : foldG vl (cmp (okB S al) d u) t = ((1, scoreL vl u, fun k : Nat => atL u (k : Int)) : BT) := by
  subst hd
  show keepG vl t u = _
  exact iteP_t h
theorem cmp7 {S : Nat → Int} {al : Int → Int} {d : Nat} {u : List Int} (h : u.length + d ≤ 7) : ∀ w ∈ cmp (okB S al) d u, w.length ≤ 7 := fun w hw => by rw [cmp_len d u w hw]; exact h
