/-! THE SEARCH: ways by bits and values, cut short -/
section SR
variable {S : Nat → Int}
def blkP (S : Nat → Int) (u : List Int) (j : Int) : Prop := ∃ k : Int, 0 ≤ k ∧ k < u.length ∧ atL u k ≠ 4 ∧ clP S k (atL u k) j
noncomputable def blk (S : Nat → Int) (u : List Int) : Int := setB (blkP S u) (4 * S 0).toNat
theorem blk_nil : blk S [] = 0 := by
  unfold blk
  refine setB_0.mpr (fun j _ h => ?_)
  obtain ⟨k, h0, h1, -⟩ := h
  simp at h1
  omega
theorem blk_app {u : List Int} {p : Int} (hD : S 0 ≤ 7) (hp : p ≠ 4) : ior (blk S u) (setB (clP S u.length p) (4 * S 0).toNat) = blk S (u ++ [p]) := by
  unfold blk
  rw [setB_or (by omega)]
  refine setB_ext (fun j h0 h1 => ?_)
  unfold blkP
  constructor
  · intro h
    rcases h with ⟨k, k0, k1, k2, k3⟩ | h
    · exact ⟨k, k0, by rw [len_app]; omega, by rw [atL_app k0 k1]; exact k2, by rw [atL_app k0 k1]; exact k3⟩
    · exact ⟨u.length, by omega, by rw [len_app]; omega, by rw [atL_last]; exact hp, by rw [atL_last]; exact h⟩
  · intro h
    obtain ⟨k, k0, k1, k2, k3⟩ := h
    rw [len_app] at k1
    rcases (show k < u.length ∨ k = u.length by omega) with q | q
    · rw [atL_app k0 q] at k2 k3
      exact Or.inl ⟨k, k0, q, k2, k3⟩
    · subst q
      rw [atL_last] at k2 k3
      exact Or.inr k3
theorem ior_z {P : Int → Prop} {n : Nat} (hn : n ≤ 30) : ior (setB P n) 0 = setB P n := by
  have e : (0 : Int) = setB (fun _ => False) n := (setB_0.mpr (fun _ _ h => h)).symm
  rw [e, setB_or hn]
  exact setB_ext (fun j _ _ => ⟨fun h => h.elim id False.elim, Or.inl⟩)
theorem blk_out {u : List Int} (hD : S 0 ≤ 7) : ior (blk S u) 0 = blk S (u ++ [4]) := by
  unfold blk
  rw [ior_z (by omega)]
  refine setB_ext (fun j h0 h1 => ?_)
  unfold blkP
  constructor
  · intro h
    obtain ⟨k, k0, k1, k2, k3⟩ := h
    exact ⟨k, k0, by rw [len_app]; omega, by rw [atL_app k0 k1]; exact k2, by rw [atL_app k0 k1]; exact k3⟩
  · intro h
    obtain ⟨k, k0, k1, k2, k3⟩ := h
    rw [len_app] at k1
    rcases (show k < u.length ∨ k = u.length by omega) with q | q
    · rw [atL_app k0 q] at k2 k3
      exact ⟨k, k0, q, k2, k3⟩
    · subst q
      rw [atL_last] at k2
      exact absurd rfl k2
def okB (S : Nat → Int) (al : Int → Int) (u : List Int) (p : Int) : Prop := iand (ishr (al u.length) p) 1 ≠ 0 ∧ (p = 4 ∨ ¬ blkP S u (4 * (u.length : Int) + p))
noncomputable def keepG (vl : Int → Int → Int) (t : BT) (u : List Int) : BT := iteP (t.1 = 0 ∨ t.2.1 < scoreL vl u) (1, scoreL vl u, fun k => atL u k) t
noncomputable def foldG (vl : Int → Int → Int) (L : List (List Int)) (t : BT) : BT := L.foldl (keepG vl) t
theorem foldG_app (vl : Int → Int → Int) (L M : List (List Int)) (t : BT) : foldG vl (L ++ M) t = foldG vl M (foldG vl L t) := List.foldl_append
theorem foldGP_t {vl : Int → Int → Int} {f : Int → List (List Int)} {ok : Int → Prop} {p : Int} {t : BT} (h : 0 ≤ p) (hok : ok p) : foldG vl (cmpP f ok (p + 1).toNat) t = foldG vl (f p) (foldG vl (cmpP f ok p.toNat) t) := by
  rw [cmpP_s h, iteP_t hok, foldG_app]
theorem foldGP_f {vl : Int → Int → Int} {f : Int → List (List Int)} {ok : Int → Prop} {p : Int} {t : BT} (h : 0 ≤ p) (hok : ¬ ok p) : foldG vl (cmpP f ok (p + 1).toNat) t = foldG vl (cmpP f ok p.toNat) t := by
  rw [cmpP_s h, iteP_f hok, List.append_nil]
theorem foldG_cut {vl : Int → Int → Int} : ∀ (L : List (List Int)) {t : BT}, t.1 ≠ 0 → (∀ w ∈ L, scoreL vl w ≤ t.2.1) → foldG vl L t = t
  | [], _, _, _ => rfl
  | u :: L, t, h0, h => by
    show foldG vl L (keepG vl t u) = t
    have e : keepG vl t u = t := iteP_f (fun h9 => by have := h u List.mem_cons_self; rcases h9 with h9 | h9; { exact h0 h9 }; { omega })
    rw [e]
    exact foldG_cut L h0 (fun w hw => h w (List.mem_cons_of_mem _ hw))
/-- of what is in cmp: the sum grows by what each gives at most -/
theorem cmp_bd {al : Int → Int} {vl : Int → Int → Int} {tp : Int → Int} {D : Int} (hb : ∀ i p : Int, 0 ≤ i → i < D → 0 ≤ p → p ≤ 3 → iand (ishr (al i) p) 1 ≠ 0 → vl i p ≤ tp i) (h4 : ∀ i : Int, 0 ≤ i → i < D → iand (ishr (al i) 4) 1 ≠ 0 → 0 ≤ tp i) : ∀ (d : Nat) (u : List Int), (u.length : Int) + d = D → ∀ w ∈ cmp (okB S al) d u, scoreL vl w ≤ scoreL vl u + (sumI tp D.toNat - sumI tp u.length)
  | 0, u, hd, w, hw => by
    have e : w = u := List.mem_singleton.mp hw
    rw [e, show D.toNat = u.length by omega]
    omega
  | d + 1, u, hd, w, hw => by
    have key : ∀ p : Int, 0 ≤ p → p < 5 → okB S al u p → ∀ w ∈ cmp (okB S al) d (u ++ [p]), scoreL vl w ≤ scoreL vl u + (sumI tp D.toNat - sumI tp u.length) := by
      intro p p0 p1 hok w hw
      have r := cmp_bd hb h4 d (u ++ [p]) (by rw [len_app]; omega) w hw
      rw [scoreL_app, len_app] at r
      have es : sumI tp (u.length + 1) = sumI tp u.length + tp u.length := rfl
      rw [es] at r
      rcases (show p = 4 ∨ p ≤ 3 by omega) with q | q
      · subst q
        rw [if_pos rfl] at r
        have := h4 u.length (by omega) (by omega) hok.1
        omega
      · rw [if_neg (by omega)] at r
        have := hb u.length p (by omega) (by omega) p0 q hok.1
        omega
    rw [cmp_s (by omega)] at hw
    exact cmpP_all (Q := fun w => scoreL vl w ≤ scoreL vl u + (sumI tp D.toNat - sumI tp u.length)) 5 (fun p p0 p1 hok w hw => key p p0 (by omega) hok w hw) w hw
theorem scoreL_M {vl : Int → Int → Int} {M : Int} (hM : 0 ≤ M) (hv : ∀ i p : Int, -M ≤ vl i p ∧ vl i p ≤ M) (u : List Int) : -(M * u.length) ≤ scoreL vl u ∧ scoreL vl u ≤ M * u.length := by
  unfold scoreL
  have key : ∀ n : Nat, -(M * n) ≤ sumI (fun k => if atL u k = 4 then 0 else vl k (atL u k)) n ∧ sumI (fun k => if atL u k = 4 then 0 else vl k (atL u k)) n ≤ M * n := by
    intro n
    induction n with
    | zero => simp [sumI]
    | succ n ih =>
      have e : sumI (fun k => if atL u k = 4 then 0 else vl k (atL u k)) (n + 1) = sumI (fun k => if atL u k = 4 then 0 else vl k (atL u k)) n + (if atL u n = 4 then 0 else vl n (atL u n)) := rfl
      have q := hv n (atL u n)
      have e2 : M * ((n + 1 : Nat) : Int) = M * n + M := by rw [show ((n + 1 : Nat) : Int) = (n : Int) + 1 by omega, Int.mul_add, Int.mul_one]
      rw [e, e2]
      split <;> omega
  exact key _
end SR
