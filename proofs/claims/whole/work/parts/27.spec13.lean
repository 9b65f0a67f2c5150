noncomputable def foldK (by0 D : Int) (gd : Int → Int → Int) (L : List (List Int)) (t : BT) : BT := L.foldl (keepL by0 D gd) t
theorem foldK_app (by0 D : Int) (gd : Int → Int → Int) (L M : List (List Int)) (t : BT) : foldK by0 D gd (L ++ M) t = foldK by0 D gd M (foldK by0 D gd L t) := List.foldl_append
theorem foldK_nil (by0 D : Int) (gd : Int → Int → Int) (t : BT) : foldK by0 D gd [] t = t := rfl
theorem cmpP_s {f : Int → List (List Int)} {ok : Int → Prop} {p : Int} (h : 0 ≤ p) : cmpP f ok (p + 1).toNat = cmpP f ok p.toNat ++ iteP (ok p) (f p) [] := by
  have e : (p + 1).toNat = p.toNat + 1 := by omega
  rw [e, cmpP, Int.toNat_of_nonneg h]
theorem foldP_t {by0 D : Int} {gd : Int → Int → Int} {f : Int → List (List Int)} {ok : Int → Prop} {p : Int} {t : BT} (h : 0 ≤ p) (hok : ok p) : foldK by0 D gd (cmpP f ok (p + 1).toNat) t = foldK by0 D gd (f p) (foldK by0 D gd (cmpP f ok p.toNat) t) := by
  rw [cmpP_s h, foldK_app, iteP_t hok]
theorem foldP_f {by0 D : Int} {gd : Int → Int → Int} {f : Int → List (List Int)} {ok : Int → Prop} {p : Int} {t : BT} (h : 0 ≤ p) (hok : ¬ ok p) : foldK by0 D gd (cmpP f ok (p + 1).toNat) t = foldK by0 D gd (cmpP f ok p.toNat) t := by
  rw [cmpP_s h, foldK_app, iteP_f hok, foldK_nil]
theorem cmp_s {ok : List Int → Int → Prop} {d : Nat} {u : List Int} (h : 1 ≤ d) : cmp ok d u = cmpP (fun p => cmp ok (d - 1) (u ++ [p])) (ok u) 5 := by
  obtain ⟨e, rfl⟩ : ∃ e, d = e + 1 := ⟨d - 1, by omega⟩
  rfl
/-- the best way by 'by0' (1: how many first, 0: score alone) -/
noncomputable def bestT (S : Nat → Int) (by0 : Int) : BT := foldK by0 (S 0) (goodS S) (cmp (okW S (wideS S)) (S 0).toNat []) (-1, -1000000, fun _ => 0)
theorem okW_t {S : Nat → Int} {u : List Int} {p wide : Int} (hp : p < 4) (h1 : fitsS S u.length p wide) (h2 : freeL S u p) : okW S wide u p := Or.inr ⟨hp, h1, h2⟩
theorem okW_f1 {S : Nat → Int} {u : List Int} {p wide : Int} (hp : p < 4) (h1 : ¬ fitsS S u.length p wide) : ¬ okW S wide u p := fun h => h.elim (fun e => by omega) (fun e => h1 e.2.1)
theorem okW_f2 {S : Nat → Int} {u : List Int} {p wide : Int} (hp : p < 4) (h1 : ¬ freeL S u p) : ¬ okW S wide u p := fun h => h.elim (fun e => by omega) (fun e => h1 e.2.2)
/-- two states that show the same -/
def eqT (D : Int) (t t' : BT) : Prop := t.1 = t'.1 ∧ t.2.1 = t'.2.1 ∧ ∀ k : Nat, (k : Int) < D → t.2.2 k = t'.2.2 k
theorem isMore_eq {by0 D m s : Int} {t t' : BT} (h : eqT D t t') : isMore by0 t m s ↔ isMore by0 t' m s := by
  unfold isMore
  rw [h.1, h.2.1]
theorem keepL_eq {by0 D : Int} {gd : Int → Int → Int} {u : List Int} {t t' : BT} (h : eqT D t t') : eqT D (keepL by0 D gd t u) (keepL by0 D gd t' u) := by
  have e := isMore_eq (by0 := by0) (m := manyL u) (s := scoreL gd u) h
  unfold keepL keepT
  by_cases hm : isMore by0 t (manyL u) (scoreL gd u)
  · rw [iteP_t hm, iteP_t (e.mp hm)]
    refine ⟨rfl, rfl, fun k hk => ?_⟩
    show (if (k : Int) < D then atL u k else t.2.2 k) = (if (k : Int) < D then atL u k else t'.2.2 k)
    rw [if_pos hk, if_pos hk]
  · rw [iteP_f hm, iteP_f (fun h => hm (e.mpr h))]
    exact h
theorem foldK_eq {by0 D : Int} {gd : Int → Int → Int} (L : List (List Int)) : ∀ t t' : BT, eqT D t t' → eqT D (foldK by0 D gd L t) (foldK by0 D gd L t') := by
  induction L with
  | nil => exact fun t t' h => h
  | cons u L ih => exact fun t t' h => ih _ _ (keepL_eq h)
theorem cmpP_len {f : Int → List (List Int)} {ok : Int → Prop} {n : Nat} (hf : ∀ p : Int, ∀ w ∈ f p, w.length = n) : ∀ k : Nat, ∀ w ∈ cmpP f ok k, w.length = n
  | 0, w, h => by simp [cmpP] at h
  | k + 1, w, h => by
    rw [cmpP, List.mem_append] at h
    rcases h with h | h
    · exact cmpP_len hf k w h
    · by_cases hk : ok k
      · rw [iteP_t hk] at h; exact hf _ w h
      · rw [iteP_f hk] at h; simp at h
theorem cmp_len {ok : List Int → Int → Prop} : ∀ (d : Nat) (u : List Int), ∀ w ∈ cmp ok d u, w.length = u.length + d
  | 0, u, w, h => by simp [cmp] at h; rw [h]; omega
  | d + 1, u, w, h => by
    rw [cmp] at h
    exact cmpP_len (fun p w hw => by rw [cmp_len d (u ++ [p]) w hw, len_app]; omega) 5 w h
theorem foldK_start {by0 D : Int} {gd : Int → Int → Int} {b b' : Nat → Int} (L : List (List Int)) (hL : L ≠ []) (hs : ∀ u ∈ L, -1000000 < scoreL gd u) : eqT D (foldK by0 D gd L (-1, -1000000, b)) (foldK by0 D gd L (-1, -1000000, b')) := by
  cases L with
  | nil => exact absurd rfl hL
  | cons u L =>
    refine foldK_eq L _ _ ?_
    have h1 := manyL_rng u
    have h2 := hs u List.mem_cons_self
    have hm : ∀ c : Nat → Int, isMore by0 (-1, -1000000, c) (manyL u) (scoreL gd u) := fun c => ⟨fun _ => Or.inl (by show -1 < manyL u; omega), fun _ => Or.inl rfl⟩
    unfold keepL keepT
    rw [iteP_t (hm b), iteP_t (hm b')]
    refine ⟨rfl, rfl, fun k hk => ?_⟩
    show (if (k : Int) < D then atL u k else b k) = (if (k : Int) < D then atL u k else b' k)
    rw [if_pos hk, if_pos hk]
theorem cmpW_ne {S : Nat → Int} {wide : Int} : ∀ (d : Nat) (u : List Int), cmp (okW S wide) d u ≠ []
  | 0, u => by simp [cmp]
  | d + 1, u => by
    have h := cmpW_ne (S := S) (wide := wide) d (u ++ [4])
    rw [cmp, cmpP]
    rw [iteP_t (show okW S wide u ((4 : Nat) : Int) from Or.inl rfl)]
    exact fun h2 => h (List.append_eq_nil_iff.mp h2).2
theorem foldK_TB {S : Nat → Int} (hC : InvC S) {by0 D : Int} (L : List (List Int)) : ∀ t : BT, TB t → (∀ u ∈ L, u.length ≤ 7) → TB (foldK by0 D (goodS S) L t) := by
  induction L with
  | nil => exact fun t h _ => h
  | cons u L ih =>
    intro t h h2
    have q := manyL_rng u
    have q2 := scoreL_rng hC (h2 u List.mem_cons_self)
    have q3 := h2 u List.mem_cons_self
    exact ih _ (keepT_TB h (by omega) (by omega)) (fun v hv => h2 v (List.mem_cons_of_mem _ hv))
