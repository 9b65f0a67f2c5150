/-- all can be in: the ways with places of a set alone -/
def okA (S : Nat → Int) (wide set : Int) (u : List Int) (p : Int) : Prop := p < 4 ∧ iand (ishr set p) 1 = 1 ∧ fitsS S u.length p wide ∧ freeL S u p
theorem cmpP_ne {f : Int → List (List Int)} {ok : Int → Prop} {p : Int} (h0 : 0 ≤ p) (hok : ok p) (hf : f p ≠ []) : ∀ k : Nat, p < k → cmpP f ok k ≠ []
  | 0, h => absurd h (by omega)
  | k + 1, h => by
    rw [cmpP]
    rcases (show p < k ∨ p = (k : Int) by omega) with q | q
    · exact fun e => cmpP_ne h0 hok hf k q (List.append_eq_nil_iff.mp e).1
    · rw [← q, iteP_t hok]
      exact fun e => hf (List.append_eq_nil_iff.mp e).2
theorem cmpP_e {f : Int → List (List Int)} {ok : Int → Prop} {p : Int} (h0 : 0 ≤ p) (he : cmpP f ok p.toNat = []) (hf : ¬ ok p ∨ f p = []) : cmpP f ok (p + 1).toNat = [] := by
  rw [cmpP_s h0, he, List.nil_append]
  by_cases hk : ok p
  · rw [iteP_t hk]
    rcases hf with q | q
    · exact absurd hk q
    · exact q
  · rw [iteP_f hk]
def allIn (S : Nat → Int) (wide set : Int) : Prop := cmp (okA S wide set) (S 0).toNat [] ≠ []
noncomputable def frU (P : Int → Prop) : Int → Nat → Int
  | _, 0 => -5
  | lo, k + 1 => iteP (P lo) lo (frU P (lo + 1) k)
noncomputable def roomS (S : Nat → Int) : Int := frU (fun wide => allIn S wide 15) 10 21
theorem frU_s {P : Int → Prop} {v : Int} (h : v ≤ 30) : frU P v (31 - v).toNat = iteP (P v) v (frU P (v + 1) (31 - (v + 1)).toNat) := by
  have e : (31 - v).toNat = (31 - (v + 1)).toNat + 1 := by omega
  rw [e, frU]
/-- one comes in: those that are laid stay or are moved, the others stay out -/
def okM (S : Nat → Int) (wide name : Int) (u : List Int) (p : Int) : Prop := ((u.length : Int) ≠ name ∧ S (42 + (u.length : Int)).toNat = 4 → p = 4) ∧ (¬ ((u.length : Int) ≠ name ∧ S (42 + (u.length : Int)).toNat = 4) → p < 4 ∧ fitsS S u.length p wide ∧ freeL S u p)
noncomputable def costL (S : Nat → Int) (name : Int) (u : List Int) : Int := cntB (fun k => k ≠ name ∧ S (42 + k).toNat ≠ 4 ∧ atL u k ≠ S (42 + k).toNat) u.length
noncomputable def minK (c : List Int → Int) (m : Int) (u : List Int) : Int := if c u < m then c u else m
noncomputable def minL (c : List Int → Int) (L : List (List Int)) (m : Int) : Int := L.foldl (minK c) m
theorem minL_app (c : List Int → Int) (L M : List (List Int)) (m : Int) : minL c (L ++ M) m = minL c M (minL c L m) := List.foldl_append
theorem minL_le (c : List Int → Int) (L : List (List Int)) : ∀ m : Int, minL c L m ≤ m := by
  induction L with
  | nil => exact fun m => Int.le_refl m
  | cons u L ih =>
    intro m
    have h := ih (minK c m u)
    show minL c L (minK c m u) ≤ m
    have h2 : minK c m u ≤ m := by unfold minK; split <;> omega
    omega
theorem minL_ge (c : List Int → Int) (L : List (List Int)) : ∀ m b : Int, b ≤ m → (∀ u ∈ L, b ≤ c u) → b ≤ minL c L m := by
  induction L with
  | nil => exact fun m b h _ => h
  | cons u L ih =>
    intro m b h h2
    have h3 := h2 u List.mem_cons_self
    refine ih (minK c m u) b ?_ (fun v hv => h2 v (List.mem_cons_of_mem _ hv))
    unfold minK; split <;> omega
/-- nothing better comes -/
theorem minL_no (c : List Int → Int) (L : List (List Int)) (m : Int) (h : ∀ u ∈ L, m ≤ c u) : minL c L m = m := by
  have h1 := minL_le c L m
  have h2 := minL_ge c L m m (Int.le_refl m) h
  omega
theorem costL_app {S : Nat → Int} {name : Int} (u : List Int) (p : Int) : costL S name (u ++ [p]) = costL S name u + b2 ((u.length : Int) ≠ name ∧ S (42 + (u.length : Int)).toNat ≠ 4 ∧ p ≠ S (42 + (u.length : Int)).toNat) := by
  unfold costL
  rw [len_app, cntB]
  have e : cntB (fun k => k ≠ name ∧ S (42 + k).toNat ≠ 4 ∧ atL (u ++ [p]) k ≠ S (42 + k).toNat) u.length = cntB (fun k => k ≠ name ∧ S (42 + k).toNat ≠ 4 ∧ atL u k ≠ S (42 + k).toNat) u.length := cntB_ext (fun i h0 h1 => by rw [atL_app h0 h1])
  rw [e, atL_last]
theorem costL_pre {S : Nat → Int} {name : Int} {ok : List Int → Int → Prop} : ∀ (d : Nat) (u : List Int), ∀ w ∈ cmp ok d u, costL S name u ≤ costL S name w
  | 0, u, w, h => by simp [cmp] at h; rw [h]; omega
  | d + 1, u, w, h => by
    rw [cmp] at h
    refine cmpP_all (Q := fun w => costL S name u ≤ costL S name w) 5 (fun p _ _ _ w hw => ?_) w h
    have q := costL_pre (S := S) (name := name) d (u ++ [p]) w hw
    have q2 := costL_app (S := S) (name := name) u p
    have q3 := b2_01 ((u.length : Int) ≠ name ∧ S (42 + (u.length : Int)).toNat ≠ 4 ∧ p ≠ S (42 + (u.length : Int)).toNat)
    omega
theorem costL_rng {S : Nat → Int} {name : Int} (u : List Int) : 0 ≤ costL S name u ∧ costL S name u ≤ u.length := cntB_rng _ _
noncomputable def movedR (S : Nat → Int) (name : Int) : Int := iteP (0 ≤ name ∧ name < S 0) (iteP (S (42 + name).toNat = 4) (iteP (minL (costL S name) (cmp (okM S (wideS S) name) (S 0).toNat []) 99 = 99) (-5) (minL (costL S name) (cmp (okM S (wideS S) name) (S 0).toNat []) 99)) (-5)) (-1)
theorem minP_t {c : List Int → Int} {f : Int → List (List Int)} {ok : Int → Prop} {p m : Int} (h : 0 ≤ p) (hok : ok p) : minL c (cmpP f ok (p + 1).toNat) m = minL c (f p) (minL c (cmpP f ok p.toNat) m) := by
  rw [cmpP_s h, minL_app, iteP_t hok]
theorem minP_f {c : List Int → Int} {f : Int → List (List Int)} {ok : Int → Prop} {p m : Int} (h : 0 ≤ p) (hok : ¬ ok p) : minL c (cmpP f ok (p + 1).toNat) m = minL c (cmpP f ok p.toNat) m := by
  rw [cmpP_s h, minL_app, iteP_f hok]
  rfl
/-- of one that stays out there is just one way on -/
theorem cmpP_out {f : Int → List (List Int)} {ok : Int → Prop} (h : ∀ p : Int, 0 ≤ p → p ≤ 4 → (ok p ↔ p = 4)) : cmpP f ok 5 = f 4 := by
  have e : ∀ k : Nat, k ≤ 4 → cmpP f ok k = [] := by
    intro k
    induction k with
    | zero => exact fun _ => rfl
    | succ k ih =>
      intro hk
      rw [cmpP, ih (by omega), iteP_f (fun q => absurd ((h k (by omega) (by omega)).mp q) (by omega))]
      rfl
  rw [cmpP, e 4 (by omega), iteP_t (show ok ((4 : Nat) : Int) from (h 4 (by omega) (by omega)).mpr rfl)]
  rfl
