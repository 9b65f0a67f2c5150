/-! LAID IN AN ORDER -/
def upI {α : Type} (f : Int → α) (k : Int) (v : α) : Int → α := fun j => if j = k then v else f j
theorem upI_same {α : Type} (f : Int → α) (k : Int) (v : α) : upI f k v k = v := if_pos rfl
theorem upI_ne {α : Type} (f : Int → α) {k j : Int} (v : α) (h : j ≠ k) : upI f k v j = f j := if_neg h
noncomputable def takeF (ok : Int → Prop) (gd : Int → Int) : Nat → Int
  | 0 => 4
  | p + 1 => iteP (ok p ∧ (takeF ok gd p = 4 ∨ gd (takeF ok gd p) < gd p)) p (takeF ok gd p)
theorem takeF_rng (ok : Int → Prop) (gd : Int → Int) : ∀ k : Nat, k ≤ 4 → 0 ≤ takeF ok gd k ∧ (takeF ok gd k = 4 ∨ takeF ok gd k < k)
  | 0, _ => by simp [takeF]
  | k + 1, h => by
    have q := takeF_rng ok gd k (by omega)
    unfold takeF iteP
    split <;> omega
theorem takeF_s {ok : Int → Prop} {gd : Int → Int} {p : Int} (h : 0 ≤ p) : takeF ok gd (p + 1).toNat = iteP (ok p ∧ (takeF ok gd p.toNat = 4 ∨ gd (takeF ok gd p.toNat) < gd p)) p (takeF ok gd p.toNat) := by
  have e : (p + 1).toNat = p.toNat + 1 := by omega
  rw [e, takeF, Int.toNat_of_nonneg h]
def freeP (S : Nat → Int) (pos : Int → Int) (n p : Int) : Prop := ∀ k : Int, 0 ≤ k → k < S 0 → pos k = 4 ∨ ¬ 0 < bothS S n p k (pos k)
def takeOk (S : Nat → Int) (pos : Int → Int) (n p : Int) : Prop := fitsS S n p (wideS S) ∧ freeP S pos n p
noncomputable def takeS (S : Nat → Int) (pos : Int → Int) (n : Int) : Int := takeF (takeOk S pos n) (goodS S n) 4
theorem takeS_rng (S : Nat → Int) (pos : Int → Int) (n : Int) : 0 ≤ takeS S pos n ∧ takeS S pos n ≤ 4 := by
  have h := takeF_rng (takeOk S pos n) (goodS S n) 4 (by decide)
  unfold takeS
  omega
def useQ (pos : Int → Int) (j : Int) : Prop := pos (j / 4) = j % 4
abbrev KT : Type := (Int → Int) × Int × Int
noncomputable def tkStep (S : Nat → Int) (t : KT) (n : Int) : KT := (upI t.1 n (takeS S t.1 n), t.2.1 + b2 (takeS S t.1 n ≠ 4), t.2.2 + (if takeS S t.1 n = 4 then 0 else goodS S n (takeS S t.1 n)))
noncomputable def tkL (S : Nat → Int) (u : List Int) : KT := u.foldl (tkStep S) (fun _ => 4, 0, 0)
theorem tkL_app (S : Nat → Int) (u : List Int) (n : Int) : tkL S (u ++ [n]) = tkStep S (tkL S u) n := by
  unfold tkL
  rw [List.foldl_append]
  rfl
theorem tkF_rng {S : Nat → Int} (hC : InvC S) : ∀ (u : List Int) (t : KT), (∀ k, 0 ≤ t.1 k ∧ t.1 k ≤ 4) → (∀ k, 0 ≤ (u.foldl (tkStep S) t).1 k ∧ (u.foldl (tkStep S) t).1 k ≤ 4) ∧ (∀ k, k ∉ u → (u.foldl (tkStep S) t).1 k = t.1 k) ∧ (t.2.1 ≤ (u.foldl (tkStep S) t).2.1 ∧ (u.foldl (tkStep S) t).2.1 ≤ t.2.1 + u.length) ∧ (t.2.2 - 1000 * u.length ≤ (u.foldl (tkStep S) t).2.2 ∧ (u.foldl (tkStep S) t).2.2 ≤ t.2.2 + 1000 * u.length)
  | [], t, h => ⟨h, fun _ _ => rfl, by show t.2.1 ≤ t.2.1 ∧ t.2.1 ≤ t.2.1 + ((0 : Nat) : Int); omega, by show t.2.2 - 1000 * ((0 : Nat) : Int) ≤ t.2.2 ∧ t.2.2 ≤ t.2.2 + 1000 * ((0 : Nat) : Int); omega⟩
  | n :: u, t, h => by
    have q := takeS_rng S t.1 n
    have q2 := b2_01 (takeS S t.1 n ≠ 4)
    have q3 := goodS_rng hC n (takeS S t.1 n)
    have hr := tkF_rng hC u (tkStep S t n) (fun k => by
      show 0 ≤ upI t.1 n (takeS S t.1 n) k ∧ upI t.1 n (takeS S t.1 n) k ≤ 4
      unfold upI
      split
      · exact q
      · exact h k)
    obtain ⟨a, b, c, d⟩ := hr
    have e1 : (tkStep S t n).2.1 = t.2.1 + b2 (takeS S t.1 n ≠ 4) := rfl
    have e2 : (tkStep S t n).2.2 = t.2.2 + (if takeS S t.1 n = 4 then 0 else goodS S n (takeS S t.1 n)) := rfl
    have e3 : ((n :: u).length : Int) = u.length + 1 := by simp
    have q4 : -1000 ≤ (if takeS S t.1 n = 4 then 0 else goodS S n (takeS S t.1 n)) ∧ (if takeS S t.1 n = 4 then 0 else goodS S n (takeS S t.1 n)) ≤ 1000 := by split <;> omega
    rw [e1] at c
    rw [e2] at d
    rw [List.foldl_cons, e3]
    refine ⟨a, fun k hk => ?_, by omega, by omega⟩
    rw [b k (fun h9 => hk (List.mem_cons_of_mem _ h9))]
    exact upI_ne _ _ (fun h9 => hk (by rw [h9]; exact List.mem_cons_self))
theorem tkL_rng {S : Nat → Int} (hC : InvC S) (u : List Int) : (∀ k, 0 ≤ (tkL S u).1 k ∧ (tkL S u).1 k ≤ 4) ∧ (∀ k, k ∉ u → (tkL S u).1 k = 4) ∧ (0 ≤ (tkL S u).2.1 ∧ (tkL S u).2.1 ≤ u.length) ∧ (-(1000 * u.length) ≤ (tkL S u).2.2 ∧ (tkL S u).2.2 ≤ 1000 * u.length) := by
  have h := tkF_rng hC u (fun _ => 4, 0, 0) (fun _ => ⟨by show (0 : Int) ≤ 4; decide, by show (4 : Int) ≤ 4; decide⟩)
  obtain ⟨a, b, c, d⟩ := h
  refine ⟨a, b, ?_, ?_⟩
  · have c' : (0 : Int) ≤ (tkL S u).2.1 ∧ (tkL S u).2.1 ≤ 0 + u.length := c
    omega
  · have d' : (0 : Int) - 1000 * u.length ≤ (tkL S u).2.2 ∧ (tkL S u).2.2 ≤ 0 + 1000 * u.length := d
    omega
/-- 'clashes and used have nothing in common', the used by where each is -/
theorem free_bitsQ {S : Nat → Int} {pos : Int → Int} {n p : Int} (hD : 0 ≤ S 0 ∧ S 0 ≤ 7) (hp : ∀ k, 0 ≤ pos k ∧ pos k ≤ 4) (hn : pos n = 4) : iand (setB (clP S n p) (4 * S 0).toNat) (setB (useQ pos) 28) = 0 ↔ freeP S pos n p := by
  have e : setB (clP S n p) (4 * S 0).toNat = setB (fun j => j < 4 * S 0 ∧ clP S n p j) 28 := by
    obtain ⟨a, a1, a2, a3⟩ := setB_bit (clP S n p) (4 * S 0).toNat
    rw [a1]
    refine (setB_of (fun j => ?_)).symm
    rw [a3 j]
    constructor
    · intro h; exact ⟨by omega, by omega, h.2⟩
    · intro h; exact ⟨by omega, h.2.2⟩
  rw [e, setB_and (by decide), setB_0]
  unfold freeP
  constructor
  · intro h k h0 h1
    have q := hp k
    rcases (show pos k = 4 ∨ pos k ≤ 3 by omega) with e4 | e4
    · exact Or.inl e4
    · refine Or.inr (fun hb => ?_)
      refine h (4 * k + pos k).toNat (by omega) ?_
      have e5 : (((4 * k + pos k).toNat : Nat) : Int) = 4 * k + pos k := Int.toNat_of_nonneg (by omega)
      rw [e5]
      have e6 : (4 * k + pos k) / 4 = k := by omega
      have e7 : (4 * k + pos k) % 4 = pos k := by omega
      refine ⟨⟨by omega, ?_⟩, ?_⟩
      · unfold clP; rw [e6, e7]; exact ⟨fun h9 => by rw [← h9, hn] at e4; omega, hb⟩
      · unfold useQ; rw [e6, e7]
  · intro h j hj hc
    obtain ⟨⟨h2, h3⟩, h4⟩ := hc
    unfold clP at h3
    unfold useQ at h4
    rcases h ((j : Int) / 4) (by omega) (by omega) with q | q
    · omega
    · rw [h4] at q; exact q h3.2
theorem useQ_up {pos : Int → Int} {n p : Int} (hn : 0 ≤ n ∧ n ≤ 6) (hp : 0 ≤ p ∧ p ≤ 3) (h4 : pos n = 4) : ior (setB (useQ pos) 28) (ishl 1 (4 * n + p)) = setB (useQ (upI pos n p)) 28 := by
  rw [setB_one (n := 28) (by decide) (by omega) (by omega), setB_or (by decide)]
  refine setB_ext (fun j h0 h1 => ?_)
  unfold useQ upI
  constructor
  · intro h
    split
    · rename_i e; rcases h with h | h
      · rw [e, h4] at h; omega
      · omega
    · rename_i e; rcases h with h | h
      · exact h
      · omega
  · intro h
    split at h
    · exact Or.inr (by omega)
    · exact Or.inl h
theorem useQ_out {pos : Int → Int} {n : Int} (h4 : pos n = 4) : upI pos n 4 = pos := by
  funext k
  unfold upI
  split
  · rename_i e; rw [e, h4]
  · rfl
theorem memB_up {u : List Int} {n : Int} (hn : 0 ≤ n ∧ n ≤ 6) : ior (setB (fun j => j ∈ u) 7) (ishl 1 n) = setB (fun j => j ∈ u ++ [n]) 7 := by
  rw [setB_one (n := 7) (by decide) hn.1 (by omega), setB_or (by decide)]
  refine setB_ext (fun j h0 h1 => ?_)
  rw [List.mem_append, List.mem_singleton]
theorem memB_at {u : List Int} {n : Int} (hn : 0 ≤ n ∧ n ≤ 6) : iand (ishr (setB (fun j => j ∈ u) 7) n) 1 = b2 (n ∈ u) := by
  rw [setB_at (by decide) hn.1 (by omega)]
  exact b2_ext ⟨fun h => h.2, fun h => ⟨by omega, h⟩⟩
/-- rows of numbers below D, each once -/
noncomputable def cmpD (D : Nat) (ok : List Int → Int → Prop) : Nat → List Int → List (List Int)
  | 0, u => [u]
  | d + 1, u => cmpP (fun p => cmpD D ok d (u ++ [p])) (ok u) D
theorem cmpD_s {D : Nat} {ok : List Int → Int → Prop} {d : Nat} {u : List Int} (h : 1 ≤ d) : cmpD D ok d u = cmpP (fun p => cmpD D ok (d - 1) (u ++ [p])) (ok u) D := by
  obtain ⟨e, rfl⟩ : ∃ e, d = e + 1 := ⟨d - 1, by omega⟩
  rfl
def okO (u : List Int) (n : Int) : Prop := ¬ n ∈ u
theorem cmpD_len {D : Nat} {ok : List Int → Int → Prop} : ∀ (d : Nat) (u : List Int), ∀ w ∈ cmpD D ok d u, w.length = u.length + d
  | 0, u, w, h => by simp [cmpD] at h; rw [h]; omega
  | d + 1, u, w, h => by
    rw [cmpD] at h
    exact cmpP_len (fun p w hw => by rw [cmpD_len d (u ++ [p]) w hw, len_app]; omega) D w h
noncomputable def keepO (S : Nat → Int) (t : BT) (u : List Int) : BT := keepT 1 (S 0) t (tkL S u).2.1 (tkL S u).2.2 (fun k => atL u k)
noncomputable def foldO (S : Nat → Int) (L : List (List Int)) (t : BT) : BT := L.foldl (keepO S) t
theorem foldO_app (S : Nat → Int) (L M : List (List Int)) (t : BT) : foldO S (L ++ M) t = foldO S M (foldO S L t) := List.foldl_append
theorem foldOP_t {S : Nat → Int} {f : Int → List (List Int)} {ok : Int → Prop} {p : Int} {t : BT} (h : 0 ≤ p) (hok : ok p) : foldO S (cmpP f ok (p + 1).toNat) t = foldO S (f p) (foldO S (cmpP f ok p.toNat) t) := by
  rw [cmpP_s h, foldO_app, iteP_t hok]
theorem foldOP_f {S : Nat → Int} {f : Int → List (List Int)} {ok : Int → Prop} {p : Int} {t : BT} (h : 0 ≤ p) (hok : ¬ ok p) : foldO S (cmpP f ok (p + 1).toNat) t = foldO S (cmpP f ok p.toNat) t := by
  rw [cmpP_s h, foldO_app, iteP_f hok]
  rfl
theorem foldO_TB {S : Nat → Int} (hC : InvC S) (L : List (List Int)) : ∀ t : BT, TB t → (∀ u ∈ L, u.length ≤ 7) → TB (foldO S L t) := by
  induction L with
  | nil => exact fun t h _ => h
  | cons u L ih =>
    intro t h h2
    have q := tkL_rng hC u
    have q3 := h2 u List.mem_cons_self
    exact ih _ (keepT_TB h (by omega) (by omega)) (fun v hv => h2 v (List.mem_cons_of_mem _ hv))
theorem keepO_leaf {S : Nat → Int} {many score : Int} {t : BT} {u : List Int} {wy : Nat → Int} {D d : Nat} {ok : List Int → Int → Prop} (hd : d = 0) (hmn : many = (tkL S u).2.1) (hsc : score = (tkL S u).2.2) (hwy : wyL u wy) (hl : (u.length : Int) = S 0) : keepT 1 (S 0) t many score wy = foldO S (cmpD D ok d u) t := by
  subst hd
  show _ = keepO S _ u
  unfold keepO
  rw [← hmn, ← hsc]
  exact keepT_ext (fun k hk => by
    have q := hwy (k : Int) (by omega) (by omega)
    rw [Int.toNat_natCast] at q
    exact q)
noncomputable def orderT (S : Nat → Int) : BT := foldO S (cmpD (S 0).toNat okO (S 0).toNat []) (-1, -1000000, fun _ => 0)
theorem keepO_eq {S : Nat → Int} {u : List Int} {t t' : BT} (h : eqT (S 0) t t') : eqT (S 0) (keepO S t u) (keepO S t' u) := by
  have e := isMore_eq (by0 := 1) (m := (tkL S u).2.1) (s := (tkL S u).2.2) h
  unfold keepO keepT
  by_cases hm : isMore 1 t (tkL S u).2.1 (tkL S u).2.2
  · rw [iteP_t hm, iteP_t (e.mp hm)]
    refine ⟨rfl, rfl, fun k hk => ?_⟩
    show (if (k : Int) < S 0 then atL u k else t.2.2 k) = (if (k : Int) < S 0 then atL u k else t'.2.2 k)
    rw [if_pos hk, if_pos hk]
  · rw [iteP_f hm, iteP_f (fun h => hm (e.mpr h))]
    exact h
theorem foldO_eq {S : Nat → Int} (L : List (List Int)) : ∀ t t' : BT, eqT (S 0) t t' → eqT (S 0) (foldO S L t) (foldO S L t') := by
  induction L with
  | nil => exact fun t t' h => h
  | cons u L ih => exact fun t t' h => ih _ _ (keepO_eq h)
/-- the first order in is kept -/
theorem foldO_start {S : Nat → Int} (hC : InvC S) {b b' : Nat → Int} (L : List (List Int)) (hL : L ≠ []) : eqT (S 0) (foldO S L (-1, -1000000, b)) (foldO S L (-1, -1000000, b')) := by
  cases L with
  | nil => exact absurd rfl hL
  | cons u L =>
    refine foldO_eq L _ _ ?_
    have h1 := (tkL_rng hC u).2.2.1
    have hm : ∀ c : Nat → Int, isMore 1 (-1, -1000000, c) (tkL S u).2.1 (tkL S u).2.2 := fun c => ⟨fun _ => Or.inl (by show -1 < (tkL S u).2.1; omega), fun h => absurd h (by decide)⟩
    unfold keepO keepT
    rw [iteP_t (hm b), iteP_t (hm b')]
    refine ⟨rfl, rfl, fun k hk => ?_⟩
    show (if (k : Int) < S 0 then atL u k else b k) = (if (k : Int) < S 0 then atL u k else b' k)
    rw [if_pos hk, if_pos hk]
theorem cmpP_two {f : Int → List (List Int)} {ok : Int → Prop} {p : Int} (h0 : 0 ≤ p) (hok : ok p) (hf : f p ≠ []) (k : Nat) (hk : p < k) : cmpP f ok k ≠ [] := cmpP_ne h0 hok hf k hk
/-- there is always an order -/
theorem exists_out : ∀ (D : Nat) (u : List Int), u.length < D → ∃ n : Int, 0 ≤ n ∧ n < D ∧ ¬ n ∈ u := by
  intro D
  induction D with
  | zero => intro u h; omega
  | succ D ih =>
    intro u h
    by_cases hm : (D : Int) ∈ u
    · have hl : (u.erase (D : Int)).length < D := by rw [List.length_erase_of_mem hm]; have : 0 < u.length := List.length_pos_of_mem hm; omega
      obtain ⟨n, h0, h1, h2⟩ := ih _ hl
      exact ⟨n, h0, by omega, fun h3 => h2 ((List.mem_erase_of_ne (by omega)).mpr h3)⟩
    · exact ⟨D, by omega, by omega, hm⟩
theorem cmpO_ne {D : Nat} : ∀ (d : Nat) (u : List Int), u.length + d = D → cmpD D okO d u ≠ []
  | 0, u, _ => by simp [cmpD]
  | d + 1, u, h => by
    obtain ⟨n, h0, h1, h2⟩ := exists_out D u (by omega)
    rw [cmpD]
    exact cmpP_ne h0 h2 (cmpO_ne d (u ++ [n]) (by rw [len_app]; omega)) D h1
theorem orderT_at {S : Nat → Int} (hI : InvD S) (hC : InvC S) {b : Nat → Int} : eqT (S 0) (foldO S (cmpD (S 0).toNat okO (S 0).toNat []) (-1, -1000000, b)) (orderT S) :=
  foldO_start hC _ (cmpO_ne _ _ (by simp))
theorem orderT_TB {S : Nat → Int} (hI : InvD S) (hC : InvC S) : TB (orderT S) :=
  foldO_TB hC _ _ ⟨by show (-1 : Int) ≤ -1; omega, by show (-1 : Int) ≤ 7; omega, by show (-1000000 : Int) ≤ -1000000; omega, by show (-1000000 : Int) ≤ 100000; omega⟩ (fun u hu => by
    have h := cmpD_len _ _ u hu
    have h2 := hI.1
    simp at h
    omega)
noncomputable def tkN (S : Nat → Int) : Nat → KT
  | 0 => (fun _ => 4, 0, 0)
  | n + 1 => tkStep S (tkN S n) n
theorem tkN_s {S : Nat → Int} {n : Int} (h : 0 ≤ n) : tkN S (n + 1).toNat = tkStep S (tkN S n.toNat) n := by
  have e : (n + 1).toNat = n.toNat + 1 := by omega
  rw [e, tkN, Int.toNat_of_nonneg h]
theorem tkN_rng {S : Nat → Int} (hC : InvC S) : ∀ n : Nat, (∀ k, 0 ≤ (tkN S n).1 k ∧ (tkN S n).1 k ≤ 4) ∧ (∀ k : Int, (n : Int) ≤ k → (tkN S n).1 k = 4) ∧ (0 ≤ (tkN S n).2.1 ∧ (tkN S n).2.1 ≤ n) ∧ (-(1000 * n) ≤ (tkN S n).2.2 ∧ (tkN S n).2.2 ≤ 1000 * n)
  | 0 => ⟨fun _ => ⟨by show (0 : Int) ≤ 4; decide, by show (4 : Int) ≤ 4; decide⟩, fun _ _ => rfl, ⟨by show (0 : Int) ≤ 0; decide, by show (0 : Int) ≤ 0; decide⟩, ⟨by show -(1000 * ((0 : Nat) : Int)) ≤ 0; decide, by show (0 : Int) ≤ 1000 * ((0 : Nat) : Int); decide⟩⟩
  | n + 1 => by
    obtain ⟨a, b, c, d⟩ := tkN_rng hC n
    have q := takeS_rng S (tkN S n).1 n
    have q2 := b2_01 (takeS S (tkN S n).1 n ≠ 4)
    have q3 := goodS_rng hC n (takeS S (tkN S n).1 n)
    have e1 : (tkN S (n + 1)).2.1 = (tkN S n).2.1 + b2 (takeS S (tkN S n).1 n ≠ 4) := rfl
    have e2 : (tkN S (n + 1)).2.2 = (tkN S n).2.2 + (if takeS S (tkN S n).1 n = 4 then 0 else goodS S n (takeS S (tkN S n).1 n)) := rfl
    have e3 : (tkN S (n + 1)).1 = upI (tkN S n).1 n (takeS S (tkN S n).1 n) := rfl
    have q4 : -1000 ≤ (if takeS S (tkN S n).1 n = 4 then 0 else goodS S n (takeS S (tkN S n).1 n)) ∧ (if takeS S (tkN S n).1 n = 4 then 0 else goodS S n (takeS S (tkN S n).1 n)) ≤ 1000 := by split <;> omega
    rw [e1, e2, e3]
    refine ⟨fun k => ?_, fun k hk => ?_, by omega, by omega⟩
    · unfold upI
      split
      · exact q
      · exact a k
    · rw [upI_ne _ _ (by omega)]
      exact b k (by omega)
noncomputable def inlineR (S : Nat → Int) (what : Int) : Int := iteP (0 ≤ what ∧ what ≤ 1) (if what = 0 then (tkN S (S 0).toNat).2.1 else (tkN S (S 0).toNat).2.2) (-10001)
noncomputable def orderR (S : Nat → Int) (k : Int) : Int := iteP (-2 ≤ k ∧ k ≤ 6) (if k = -2 then (orderT S).1 else if k = -1 then (orderT S).2.1 else if k < S 0 then (orderT S).2.2 k.toNat else -5) (-10001)
set_option maxHeartbeats 4000000 in
set_option maxRecDepth 100000 in
theorem c_X12_takes (l : Launch) (g : GG) (h0 : Nat) (ad : Nat → Nat) (F : Nat → Int) (A : Nat → Nat → Int) (S : Nat → Int) (hSA : A 1 = S) (n : Int) (used : Int) (pos : Int → Int) (ft : Nat → Int) (gdA : Nat → Int) (cl : Nat → Int) (e11 : A 11 = ft) (e12 : A 12 = gdA) (e13 : A 13 = cl) (hn : 0 ≤ n ∧ n < S 0) (hus : used = setB (useQ pos) 28) (hps : ∀ k, 0 ≤ pos k ∧ pos k ≤ 4) (hpn : pos n = 4) (hft : FitA S (wideS S) ft) (hgd : GoodA S gdA) (hcl : ClA S cl) (hI : InvD S) (hC0 : InvC S) (sz : Nat) : MwrI l g yX12_takes cX12_takes 7 1 0 0 [.ref h0, .int (iI n), .int (iI used)] sz (RW g h0 ad F A) (fun v w => v = iI (takeS S pos n) ∧ w = RW g h0 ad F A) := by
  subst hSA
  subst e11 e12 e13
  refine wr_startI (own := RX12) (by decide) rfl (Nat.le_of_ble_eq_true rfl) ?_
  intro Pg Ev s Mi args below Mt Cd ls Q Aw hC hK hS hnm hl hQ
  have hD0 := hI.1
  have hl : lv_has ls 7 [(0, .ref h0), (1, .int (iI n)), (2, .int (iI used))] := hl
  obtain ⟨H, hH⟩ : ∃ H, H = s.heap := ⟨_, rfl⟩
  obtain ⟨locs, hlo⟩ : ∃ locs : List Loc, locs = [] := ⟨_, rfl⟩
  have hS : St g Aw s.heap H locs (RW g h0 ad F A) := by rw [hH, hlo]; exact hS
  have goal : W Pg l Ev (rmC 1 0 0) s Mi args below Mt Cd H locs 0 0 Q (F0 Mi 0 ls []) := ?goal
  · rw [hH, hlo] at goal; exact goal
  clear hH hlo
  refine li_iconst hC dX12_takes_0 ?_
  refine li_istore_n hC (lv' := [(3, .int (iI 4)), (0, .ref h0), (1, .int (iI n)), (2, .int (iI used))]) hl (by decide) rfl dX12_takes_1 (fun ls hl => ?_)
  refine li_iconst hC dX12_takes_2 ?_
  refine li_istore hC (lv' := [(4, .int (iI 0)), (3, .int (iI 4)), (0, .ref h0), (1, .int (iI n)), (2, .int (iI used))]) hl (by decide) rfl dX12_takes_3 (fun ls hl => ?_)
  have L5_1 : ∀ (fuel : Nat) (p : Int) (b : Int) (ls : Array Slot) (H : Heap) (locs : List Loc), St g Aw s.heap H locs (RW g h0 ad F A) → lv_has ls 7 [(0, .ref h0), (1, .int (iI n)), (2, .int (iI used)), (3, .int (iI b)), (4, .int (iI p))] → (0 ≤ p ∧ p ≤ 4) → (b = takeF (takeOk (A 1) pos n) (goodS (A 1) n) p.toNat) → (((4 : Int) - p).toNat) < fuel → W Pg l Ev (rmC 1 0 0) s Mi args below Mt Cd H locs 0 0 Q (F0 Mi 5 ls []) := by
    intro fuel
    induction fuel with
    | zero => intro p b ls H locs hS hl hp hb hm; exact absurd hm (Nat.not_lt_zero _)
    | succ fuel ih5 =>
      intro p b ls H locs hS hl hp hb hm
      have hbr := takeF_rng (takeOk (A 1) pos n) (goodS (A 1) n) p.toNat (by omega)
      rw [← hb] at hbr
      refine li_iload hC hl 4 rfl dX12_takes_5 ?_
      refine li_iconst hC dX12_takes_7 ?_
      refine li_icmp_ge (tgt := 91) hC (by decide) (rg (by omega) (by omega)) (rg (by decide) (by decide)) dX12_takes_8 (fun c2 => ?_) (fun c2 => ?_)
      · refine li_iload_n hC hl 3 rfl dX12_takes_91 ?_
        exact hQ _ _ _ _ _ _ _ _ dX12_takes_92 hS (by omega) (by omega) (⟨iI_inj (by rw [hb, show p = 4 by omega]; rfl), rfl⟩)
      · refine li_iconst hC dX12_takes_11 ?_
        refine li_iload_n hC hl 1 rfl dX12_takes_12 ?_
        refine li_imul hC dX12_takes_13 ?_
        refine li_iload hC hl 4 rfl dX12_takes_14 ?_
        refine li_iadd hC dX12_takes_16 ?_
        refine li_istore hC (lv' := [(5, .int (iI ((4 * n) + p))), (0, .ref h0), (1, .int (iI n)), (2, .int (iI used)), (3, .int (iI b)), (4, .int (iI p))]) hl (by decide) rfl dX12_takes_17 (fun ls hl => ?_)
        refine li_aload_n hC hl 1 rfl dX12_takes_19 ?_
        refine li_get hC hK.1 ck_X12 (hS.1 0 _ rfl) 11 (by decide) fl_X12_25 rfl (v := .ref (ad 11)) rfl dX12_takes_20 ?_
        refine li_iload hC hl 0 rfl dX12_takes_23 ?_
        refine li_zald (f := (A 11)) hC hK.1 (hS.1 5 _ rfl) ⟨by omega, by omega⟩ (by decide) dX12_takes_25 ?_
        rw [FitA_at hft (by omega) (by omega)]
        refine li_ifeq_b (tgt := 45) hC (by decide) dX12_takes_26 (fun c3 => ?_) (fun c3 => ?_)
        · try have hnf : ¬ freeP (A 1) pos n p := fun h9 => absurd (hfb.mpr h9) (by assumption)
          refine li_iconst hC dX12_takes_45 ?_
          refine li_istore hC (lv' := [(6, .int (iI 0)), (5, .int (iI ((4 * n) + p))), (0, .ref h0), (1, .int (iI n)), (2, .int (iI used)), (3, .int (iI b)), (4, .int (iI p))]) hl (by decide) rfl dX12_takes_46 (fun ls hl => ?_)
          refine li_iload hC hl 0 rfl dX12_takes_48 ?_
          refine li_if_eq (tgt := 83) hC (by decide) (rg (by decide) (by decide)) dX12_takes_50 (fun c4 => ?_) (fun c4 => ?_)
          · refine li_iload_n hC hl 5 rfl dX12_takes_83 ?_
            refine li_istore_n hC (lv' := [(3, .int (iI b)), (6, .int (iI 0)), (5, .int (iI ((4 * n) + p))), (0, .ref h0), (1, .int (iI n)), (2, .int (iI used)), (4, .int (iI p))]) hl (by decide) rfl dX12_takes_84 (fun ls hl => ?_)
            refine li_iinc hC (lv' := [(4, .int (iI (p + 1))), (3, .int (iI b)), (6, .int (iI 0)), (5, .int (iI ((4 * n) + p))), (0, .ref h0), (1, .int (iI n)), (2, .int (iI used))]) hl 6 rfl (by decide) rfl dX12_takes_85 (fun ls hl => ?_)
            refine li_goto (tgt := 5) hC (by decide) dX12_takes_88 ?_
            exact ih5 (p + 1) b _ _ _ hS (lv_sub hl [4, 5, 6, 1, 0] rfl) (by omega) (by rw [takeF_s hp.1, ← hb]; first | (rw [iteP_t ⟨⟨by assumption, by assumption⟩, by omega⟩]; done) | (rw [iteP_f (fun h9 => absurd h9.1.1 (by assumption))]; done) | (rw [iteP_f (fun h9 => absurd h9.1.2 (by assumption))]; done) | (rw [iteP_f (fun h9 => absurd h9.2 (by omega))]; done)) (by omega)
          · exact absurd c4 (by decide)
        · refine li_aload_n hC hl 1 rfl dX12_takes_29 ?_
          refine li_get hC hK.1 ck_X12 (hS.1 0 _ rfl) 13 (by decide) fl_X12_31 rfl (v := .ref (ad 13)) rfl dX12_takes_30 ?_
          have hwr := wideS_rng (A 1)
          have hfb := free_bitsQ (S := A 1) (pos := pos) (n := n) (p := p) (by omega) hps hpn
          rw [← hus] at hfb
          refine li_iload hC hl 0 rfl dX12_takes_33 ?_
          refine li_iald (f := (A 13)) hC hK.1 (hS.1 7 _ rfl) ⟨by omega, by omega⟩ (by decide) dX12_takes_35 ?_
          rw [ClA_at hcl (by omega) (by omega)]
          refine li_iload_n hC hl 3 rfl dX12_takes_36 ?_
          refine li_iand hC dX12_takes_37 ?_
          refine li_if_ne (tgt := 45) hC (by decide) (rng_of _) dX12_takes_38 (fun c5 => ?_) (fun c5 => ?_)
          · try have hnf : ¬ freeP (A 1) pos n p := fun h9 => absurd (hfb.mpr h9) (by assumption)
            refine li_iconst hC dX12_takes_45 ?_
            refine li_istore hC (lv' := [(6, .int (iI 0)), (5, .int (iI ((4 * n) + p))), (0, .ref h0), (1, .int (iI n)), (2, .int (iI used)), (3, .int (iI b)), (4, .int (iI p))]) hl (by decide) rfl dX12_takes_46 (fun ls hl => ?_)
            refine li_iload hC hl 0 rfl dX12_takes_48 ?_
            refine li_if_eq (tgt := 83) hC (by decide) (rg (by decide) (by decide)) dX12_takes_50 (fun c6 => ?_) (fun c6 => ?_)
            · refine li_iload_n hC hl 5 rfl dX12_takes_83 ?_
              refine li_istore_n hC (lv' := [(3, .int (iI b)), (6, .int (iI 0)), (5, .int (iI ((4 * n) + p))), (0, .ref h0), (1, .int (iI n)), (2, .int (iI used)), (4, .int (iI p))]) hl (by decide) rfl dX12_takes_84 (fun ls hl => ?_)
              refine li_iinc hC (lv' := [(4, .int (iI (p + 1))), (3, .int (iI b)), (6, .int (iI 0)), (5, .int (iI ((4 * n) + p))), (0, .ref h0), (1, .int (iI n)), (2, .int (iI used))]) hl 6 rfl (by decide) rfl dX12_takes_85 (fun ls hl => ?_)
              refine li_goto (tgt := 5) hC (by decide) dX12_takes_88 ?_
              exact ih5 (p + 1) b _ _ _ hS (lv_sub hl [4, 5, 6, 1, 0] rfl) (by omega) (by rw [takeF_s hp.1, ← hb]; first | (rw [iteP_t ⟨⟨by assumption, by assumption⟩, by omega⟩]; done) | (rw [iteP_f (fun h9 => absurd h9.1.1 (by assumption))]; done) | (rw [iteP_f (fun h9 => absurd h9.1.2 (by assumption))]; done) | (rw [iteP_f (fun h9 => absurd h9.2 (by omega))]; done)) (by omega)
            · exact absurd c6 (by decide)
          · have hfr := hfb.mp (by assumption)
            refine li_iconst hC dX12_takes_41 ?_
            refine li_goto (tgt := 46) hC (by decide) dX12_takes_42 ?_
            refine li_istore hC (lv' := [(6, .int (iI 1)), (5, .int (iI ((4 * n) + p))), (0, .ref h0), (1, .int (iI n)), (2, .int (iI used)), (3, .int (iI b)), (4, .int (iI p))]) hl (by decide) rfl dX12_takes_46 (fun ls hl => ?_)
            refine li_iload hC hl 0 rfl dX12_takes_48 ?_
            refine li_if_eq (tgt := 83) hC (by decide) (rg (by decide) (by decide)) dX12_takes_50 (fun c7 => ?_) (fun c7 => ?_)
            · exact absurd c7 (by decide)
            · refine li_iload_n hC hl 5 rfl dX12_takes_53 ?_
              refine li_iconst hC dX12_takes_54 ?_
              refine li_icmp_eq (tgt := 78) hC (by decide) (rg (by omega) (by omega)) (rg (by decide) (by decide)) dX12_takes_55 (fun c8 => ?_) (fun c8 => ?_)
              · refine li_iload hC hl 6 rfl dX12_takes_78 ?_
                refine li_goto (tgt := 84) hC (by decide) dX12_takes_80 ?_
                refine li_istore_n hC (lv' := [(3, .int (iI p)), (6, .int (iI 1)), (5, .int (iI ((4 * n) + p))), (0, .ref h0), (1, .int (iI n)), (2, .int (iI used)), (4, .int (iI p))]) hl (by decide) rfl dX12_takes_84 (fun ls hl => ?_)
                refine li_iinc hC (lv' := [(4, .int (iI (p + 1))), (3, .int (iI p)), (6, .int (iI 1)), (5, .int (iI ((4 * n) + p))), (0, .ref h0), (1, .int (iI n)), (2, .int (iI used))]) hl 6 rfl (by decide) rfl dX12_takes_85 (fun ls hl => ?_)
                refine li_goto (tgt := 5) hC (by decide) dX12_takes_88 ?_
                exact ih5 (p + 1) p _ _ _ hS (lv_sub hl [4, 5, 6, 1, 0] rfl) (by omega) (by rw [takeF_s hp.1, ← hb]; first | (rw [iteP_t ⟨⟨by assumption, by assumption⟩, by omega⟩]; done) | (rw [iteP_f (fun h9 => absurd h9.1.1 (by assumption))]; done) | (rw [iteP_f (fun h9 => absurd h9.1.2 (by assumption))]; done) | (rw [iteP_f (fun h9 => absurd h9.2 (by omega))]; done)) (by omega)
              · refine li_aload_n hC hl 2 rfl dX12_takes_58 ?_
                refine li_get hC hK.1 ck_X12 (hS.1 0 _ rfl) 12 (by decide) fl_X12_28 rfl (v := .ref (ad 12)) rfl dX12_takes_59 ?_
                refine li_iload hC hl 1 rfl dX12_takes_62 ?_
                refine li_iald (f := (A 12)) hC hK.1 (hS.1 6 _ rfl) ⟨by omega, by omega⟩ (by decide) dX12_takes_64 ?_
                rw [GoodA_at hgd (by omega) (by omega)]
                have q9 := goodS_rng hC0 n p
                refine li_aload_n hC hl 2 rfl dX12_takes_65 ?_
                refine li_get hC hK.1 ck_X12 (hS.1 0 _ rfl) 12 (by decide) fl_X12_28 rfl (v := .ref (ad 12)) rfl dX12_takes_66 ?_
                refine li_iconst hC dX12_takes_69 ?_
                refine li_iload_n hC hl 3 rfl dX12_takes_70 ?_
                refine li_imul hC dX12_takes_71 ?_
                refine li_iload_n hC hl 5 rfl dX12_takes_72 ?_
                refine li_iadd hC dX12_takes_73 ?_
                refine li_iald (f := (A 12)) hC hK.1 (hS.1 6 _ rfl) ⟨by omega, by omega⟩ (by decide) dX12_takes_74 ?_
                rw [GoodA_at hgd (by omega) (by omega)]
                have q10 := goodS_rng hC0 n b
                refine li_icmp_le (tgt := 83) hC (by decide) (rg (by omega) (by omega)) (rg (by omega) (by omega)) dX12_takes_75 (fun c11 => ?_) (fun c11 => ?_)
                · refine li_iload_n hC hl 5 rfl dX12_takes_83 ?_
                  refine li_istore_n hC (lv' := [(3, .int (iI b)), (6, .int (iI 1)), (5, .int (iI ((4 * n) + p))), (0, .ref h0), (1, .int (iI n)), (2, .int (iI used)), (4, .int (iI p))]) hl (by decide) rfl dX12_takes_84 (fun ls hl => ?_)
                  refine li_iinc hC (lv' := [(4, .int (iI (p + 1))), (3, .int (iI b)), (6, .int (iI 1)), (5, .int (iI ((4 * n) + p))), (0, .ref h0), (1, .int (iI n)), (2, .int (iI used))]) hl 6 rfl (by decide) rfl dX12_takes_85 (fun ls hl => ?_)
                  refine li_goto (tgt := 5) hC (by decide) dX12_takes_88 ?_
                  exact ih5 (p + 1) b _ _ _ hS (lv_sub hl [4, 5, 6, 1, 0] rfl) (by omega) (by rw [takeF_s hp.1, ← hb]; first | (rw [iteP_t ⟨⟨by assumption, by assumption⟩, by omega⟩]; done) | (rw [iteP_f (fun h9 => absurd h9.1.1 (by assumption))]; done) | (rw [iteP_f (fun h9 => absurd h9.1.2 (by assumption))]; done) | (rw [iteP_f (fun h9 => absurd h9.2 (by omega))]; done)) (by omega)
                · refine li_iload hC hl 6 rfl dX12_takes_78 ?_
                  refine li_goto (tgt := 84) hC (by decide) dX12_takes_80 ?_
                  refine li_istore_n hC (lv' := [(3, .int (iI p)), (6, .int (iI 1)), (5, .int (iI ((4 * n) + p))), (0, .ref h0), (1, .int (iI n)), (2, .int (iI used)), (4, .int (iI p))]) hl (by decide) rfl dX12_takes_84 (fun ls hl => ?_)
                  refine li_iinc hC (lv' := [(4, .int (iI (p + 1))), (3, .int (iI p)), (6, .int (iI 1)), (5, .int (iI ((4 * n) + p))), (0, .ref h0), (1, .int (iI n)), (2, .int (iI used))]) hl 6 rfl (by decide) rfl dX12_takes_85 (fun ls hl => ?_)
                  refine li_goto (tgt := 5) hC (by decide) dX12_takes_88 ?_
                  exact ih5 (p + 1) p _ _ _ hS (lv_sub hl [4, 5, 6, 1, 0] rfl) (by omega) (by rw [takeF_s hp.1, ← hb]; first | (rw [iteP_t ⟨⟨by assumption, by assumption⟩, by omega⟩]; done) | (rw [iteP_f (fun h9 => absurd h9.1.1 (by assumption))]; done) | (rw [iteP_f (fun h9 => absurd h9.1.2 (by assumption))]; done) | (rw [iteP_f (fun h9 => absurd h9.2 (by omega))]; done)) (by omega)
  exact L5_1 ((((4 : Int) - 0).toNat) + 1) 0 4 _ _ _ hS (lv_sub hl [2, 3, 4, 1, 0] rfl) (by omega) (by rfl) (by omega)
set_option maxHeartbeats 4000000 in
set_option maxRecDepth 100000 in
theorem c_X12_keepsLine (l : Launch) (g : GG) (h0 : Nat) (ad : Nat → Nat) (F : Nat → Int) (A : Nat → Nat → Int) (S : Nat → Int) (hSA : A 1 = S) (m0 : Int) (s0 : Int) (b0 : Nat → Int) (wy : Nat → Int) (e16 : F 16 = m0) (e17 : F 17 = s0) (e15 : A 21 = b0) (e14 : A 20 = wy) (m1 : Int) (s1 : Int) (hm : -1 ≤ m1 ∧ m1 ≤ 7) (hs : -10000 ≤ s1 ∧ s1 ≤ 10000) (hB : TB (m0, s0, b0)) (hI : InvD S) (sz : Nat) : MwrV l g yX12_keepsLine cX12_keepsLine 4 1 0 0 [.ref h0, .int (iI m1), .int (iI s1)] sz (RW g h0 ad F A) (fun w => w = RW g h0 ad (va_up (va_up F 16 (keepT 1 (S 0) (m0, s0, b0) m1 s1 wy).1) 17 (keepT 1 (S 0) (m0, s0, b0) m1 s1 wy).2.1) (va_up A 21 (keepT 1 (S 0) (m0, s0, b0) m1 s1 wy).2.2)) := by
  subst hSA
  subst e16 e17 e15 e14
  refine wr_startV (own := RX12) (by decide) rfl (Nat.le_of_ble_eq_true rfl) ?_
  intro Pg Ev s Mi args below Mt Cd ls Q Aw hC hK hS hnm hl hQ
  have hD0 := hI.1
  have hB1 := hB.1
  have hB2 := hB.2.1
  have hB3 := hB.2.2.1
  have hB4 := hB.2.2.2
  dsimp only at hB1 hB2 hB3 hB4
  have hl : lv_has ls 4 [(0, .ref h0), (1, .int (iI m1)), (2, .int (iI s1))] := hl
  obtain ⟨H, hH⟩ : ∃ H, H = s.heap := ⟨_, rfl⟩
  obtain ⟨locs, hlo⟩ : ∃ locs : List Loc, locs = [] := ⟨_, rfl⟩
  have hS : St g Aw s.heap H locs (RW g h0 ad F A) := by rw [hH, hlo]; exact hS
  have goal : W Pg l Ev (rmC 1 0 0) s Mi args below Mt Cd H locs 0 0 Q (F0 Mi 0 ls []) := ?goal
  · rw [hH, hlo] at goal; exact goal
  clear hH hlo
  refine li_iload_n hC hl 1 rfl dX12_keepsLine_0 ?_
  refine li_aload_n hC hl 0 rfl dX12_keepsLine_1 ?_
  refine li_get hC hK.1 ck_X12 (hS.1 0 _ rfl) 16 (by decide) fl_X12_229 rfl (v := .int (iI (F 16))) rfl dX12_keepsLine_2 ?_
  refine li_icmp_gt (tgt := 24) hC (by decide) (rg (by omega) (by omega)) (rg (by omega) (by omega)) dX12_keepsLine_5 (fun c1 => ?_) (fun c1 => ?_)
  · refine li_aload_n hC hl 0 rfl dX12_keepsLine_24 ?_
    refine li_iload_n hC hl 1 rfl dX12_keepsLine_25 ?_
    refine li_put hC hK hS ck_X12 0 rfl 16 (by decide) fl_X12_229 rfl rfl (v := .int (iI m1)) rfl rfl (Nat.le_of_ble_eq_true rfl) (ws' := RW g h0 ad (va_up F 16 m1) A) rfl dX12_keepsLine_26 (fun H locs hS => ?_)
    refine li_aload_n hC hl 0 rfl dX12_keepsLine_29 ?_
    refine li_iload_n hC hl 2 rfl dX12_keepsLine_30 ?_
    refine li_put hC hK hS ck_X12 0 rfl 17 (by decide) fl_X12_232 rfl rfl (v := .int (iI s1)) rfl rfl (Nat.le_of_ble_eq_true rfl) (ws' := RW g h0 ad (va_up (va_up F 16 m1) 17 s1) A) rfl dX12_keepsLine_31 (fun H locs hS => ?_)
    refine li_iconst hC dX12_keepsLine_34 ?_
    refine li_istore_n hC (lv' := [(3, .int (iI 0)), (0, .ref h0), (1, .int (iI m1)), (2, .int (iI s1))]) hl (by decide) rfl dX12_keepsLine_35 (fun ls hl => ?_)
    have L36_2 : ∀ (fuel : Nat) (n : Int) (f : Nat → Int) (ls : Array Slot) (H : Heap) (locs : List Loc), St g Aw s.heap H locs (RW g h0 ad (va_up (va_up F 16 m1) 17 s1) (va_up A 21 f)) → lv_has ls 4 [(0, .ref h0), (1, .int (iI m1)), (2, .int (iI s1)), (3, .int (iI n))] → (0 ≤ n ∧ n ≤ (A 1) 0) → (∀ k : Nat, f k = if (k : Int) < n then (A 20) k else (A 21) k) → (((A 1) 0 - n).toNat) < fuel → W Pg l Ev (rmC 1 0 0) s Mi args below Mt Cd H locs 0 0 Q (F0 Mi 36 ls []) := by
      intro fuel
      induction fuel with
      | zero => intro n f ls H locs hS hl hn hf hm; exact absurd hm (Nat.not_lt_zero _)
      | succ fuel ih36 =>
        intro n f ls H locs hS hl hn hf hm
        refine li_iload_n hC hl 3 rfl dX12_keepsLine_36 ?_
        refine li_aload_n hC hl 0 rfl dX12_keepsLine_37 ?_
        refine li_get hC hK.1 ck_X12 (hS.1 0 _ rfl) 1 (by decide) fl_X12_9 rfl (v := .ref (ad 1)) rfl dX12_keepsLine_38 ?_
        refine li_iconst hC dX12_keepsLine_41 ?_
        refine li_iald_k (k := 0) (f := (A 1)) hC hK.1 (hS.1 1 _ rfl) rfl (by decide) (by decide) dX12_keepsLine_42 ?_
        refine li_icmp_ge (tgt := 64) hC (by decide) (rg (by omega) (by omega)) (rg (by omega) (by omega)) dX12_keepsLine_43 (fun c3 => ?_) (fun c3 => ?_)
        · exact hQ _ _ _ _ _ _ _ dX12_keepsLine_64 hS (by omega) (by omega) (by have hm9 : (isMore 1 (F 16, F 17, A 21) m1 s1) := (by unfold isMore; dsimp only; omega); have hf9 : f = (fun k : Nat => if (k : Int) < (A 1) 0 then (A 20) k else (A 21) k) := (by funext k; rw [hf k, show n = (A 1) 0 by omega]); unfold keepT; rw [iteP_t hm9, hf9])
        · refine li_aload_n hC hl 0 rfl dX12_keepsLine_46 ?_
          refine li_get hC hK.1 ck_X12 (hS.1 0 _ rfl) 21 (by decide) fl_X12_43 rfl (v := .ref (ad 21)) rfl dX12_keepsLine_47 ?_
          refine li_iload_n hC hl 3 rfl dX12_keepsLine_50 ?_
          refine li_aload_n hC hl 0 rfl dX12_keepsLine_51 ?_
          refine li_get hC hK.1 ck_X12 (hS.1 0 _ rfl) 20 (by decide) fl_X12_40 rfl (v := .ref (ad 20)) rfl dX12_keepsLine_52 ?_
          refine li_iload_n hC hl 3 rfl dX12_keepsLine_55 ?_
          refine li_iald (f := (A 20)) hC hK.1 (hS.1 10 _ rfl) ⟨by omega, by omega⟩ (by decide) dX12_keepsLine_56 ?_
          refine li_iast hC hK hS 11 (n := 7) (f := f) (z := n) rfl ⟨by omega, by omega⟩ (by decide) (ws' := RW g h0 ad (va_up (va_up F 16 m1) 17 s1) (va_up A 21 (va_up f n.toNat ((A 20) n.toNat)))) rfl dX12_keepsLine_57 (fun H locs hS => ?_)
          refine li_iinc hC (lv' := [(3, .int (iI (n + 1))), (0, .ref h0), (1, .int (iI m1)), (2, .int (iI s1))]) hl 3 rfl (by decide) rfl dX12_keepsLine_58 (fun ls hl => ?_)
          refine li_goto (tgt := 36) hC (by decide) dX12_keepsLine_61 ?_
          exact ih36 (n + 1) (va_up f n.toNat ((A 20) n.toNat)) _ _ _ hS (lv_sub hl [1, 2, 3, 0] rfl) (by omega) (by intro k; by_cases e9 : k = n.toNat; { rw [e9, up_same, if_pos (by omega)] }; { rw [up_ne _ _ e9, hf k]; (repeat' split) <;> first | rfl | omega }) (by omega)
    exact L36_2 ((((A 1) 0 - 0).toNat) + 1) 0 (A 21) _ _ _ hS (lv_sub hl [1, 2, 3, 0] rfl) (by omega) (by intro k; rw [if_neg (by omega)]) (by omega)
  · refine li_iload_n hC hl 1 rfl dX12_keepsLine_8 ?_
    refine li_aload_n hC hl 0 rfl dX12_keepsLine_9 ?_
    refine li_get hC hK.1 ck_X12 (hS.1 0 _ rfl) 16 (by decide) fl_X12_229 rfl (v := .int (iI (F 16))) rfl dX12_keepsLine_10 ?_
    refine li_icmp_ne (tgt := 64) hC (by decide) (rg (by omega) (by omega)) (rg (by omega) (by omega)) dX12_keepsLine_13 (fun c4 => ?_) (fun c4 => ?_)
    · exact hQ _ _ _ _ _ _ _ dX12_keepsLine_64 hS (by omega) (by omega) (by have hm9 : ¬ (isMore 1 (F 16, F 17, A 21) m1 s1) := (by unfold isMore; dsimp only; omega); unfold keepT; rw [iteP_f hm9]; rfl)
    · refine li_iload_n hC hl 2 rfl dX12_keepsLine_16 ?_
      refine li_aload_n hC hl 0 rfl dX12_keepsLine_17 ?_
      refine li_get hC hK.1 ck_X12 (hS.1 0 _ rfl) 17 (by decide) fl_X12_232 rfl (v := .int (iI (F 17))) rfl dX12_keepsLine_18 ?_
      refine li_icmp_le (tgt := 64) hC (by decide) (rg (by omega) (by omega)) (rg (by omega) (by omega)) dX12_keepsLine_21 (fun c5 => ?_) (fun c5 => ?_)
      · exact hQ _ _ _ _ _ _ _ dX12_keepsLine_64 hS (by omega) (by omega) (by have hm9 : ¬ (isMore 1 (F 16, F 17, A 21) m1 s1) := (by unfold isMore; dsimp only; omega); unfold keepT; rw [iteP_f hm9]; rfl)
      · refine li_aload_n hC hl 0 rfl dX12_keepsLine_24 ?_
        refine li_iload_n hC hl 1 rfl dX12_keepsLine_25 ?_
        refine li_put hC hK hS ck_X12 0 rfl 16 (by decide) fl_X12_229 rfl rfl (v := .int (iI m1)) rfl rfl (Nat.le_of_ble_eq_true rfl) (ws' := RW g h0 ad (va_up F 16 m1) A) rfl dX12_keepsLine_26 (fun H locs hS => ?_)
        refine li_aload_n hC hl 0 rfl dX12_keepsLine_29 ?_
        refine li_iload_n hC hl 2 rfl dX12_keepsLine_30 ?_
        refine li_put hC hK hS ck_X12 0 rfl 17 (by decide) fl_X12_232 rfl rfl (v := .int (iI s1)) rfl rfl (Nat.le_of_ble_eq_true rfl) (ws' := RW g h0 ad (va_up (va_up F 16 m1) 17 s1) A) rfl dX12_keepsLine_31 (fun H locs hS => ?_)
        refine li_iconst hC dX12_keepsLine_34 ?_
        refine li_istore_n hC (lv' := [(3, .int (iI 0)), (0, .ref h0), (1, .int (iI m1)), (2, .int (iI s1))]) hl (by decide) rfl dX12_keepsLine_35 (fun ls hl => ?_)
        have L36_6 : ∀ (fuel : Nat) (n : Int) (f : Nat → Int) (ls : Array Slot) (H : Heap) (locs : List Loc), St g Aw s.heap H locs (RW g h0 ad (va_up (va_up F 16 m1) 17 s1) (va_up A 21 f)) → lv_has ls 4 [(0, .ref h0), (1, .int (iI m1)), (2, .int (iI s1)), (3, .int (iI n))] → (0 ≤ n ∧ n ≤ (A 1) 0) → (∀ k : Nat, f k = if (k : Int) < n then (A 20) k else (A 21) k) → (((A 1) 0 - n).toNat) < fuel → W Pg l Ev (rmC 1 0 0) s Mi args below Mt Cd H locs 0 0 Q (F0 Mi 36 ls []) := by
          intro fuel
          induction fuel with
          | zero => intro n f ls H locs hS hl hn hf hm; exact absurd hm (Nat.not_lt_zero _)
          | succ fuel ih36 =>
            intro n f ls H locs hS hl hn hf hm
            refine li_iload_n hC hl 3 rfl dX12_keepsLine_36 ?_
            refine li_aload_n hC hl 0 rfl dX12_keepsLine_37 ?_
            refine li_get hC hK.1 ck_X12 (hS.1 0 _ rfl) 1 (by decide) fl_X12_9 rfl (v := .ref (ad 1)) rfl dX12_keepsLine_38 ?_
            refine li_iconst hC dX12_keepsLine_41 ?_
            refine li_iald_k (k := 0) (f := (A 1)) hC hK.1 (hS.1 1 _ rfl) rfl (by decide) (by decide) dX12_keepsLine_42 ?_
            refine li_icmp_ge (tgt := 64) hC (by decide) (rg (by omega) (by omega)) (rg (by omega) (by omega)) dX12_keepsLine_43 (fun c7 => ?_) (fun c7 => ?_)
            · exact hQ _ _ _ _ _ _ _ dX12_keepsLine_64 hS (by omega) (by omega) (by have hm9 : (isMore 1 (F 16, F 17, A 21) m1 s1) := (by unfold isMore; dsimp only; omega); have hf9 : f = (fun k : Nat => if (k : Int) < (A 1) 0 then (A 20) k else (A 21) k) := (by funext k; rw [hf k, show n = (A 1) 0 by omega]); unfold keepT; rw [iteP_t hm9, hf9])
            · refine li_aload_n hC hl 0 rfl dX12_keepsLine_46 ?_
              refine li_get hC hK.1 ck_X12 (hS.1 0 _ rfl) 21 (by decide) fl_X12_43 rfl (v := .ref (ad 21)) rfl dX12_keepsLine_47 ?_
              refine li_iload_n hC hl 3 rfl dX12_keepsLine_50 ?_
              refine li_aload_n hC hl 0 rfl dX12_keepsLine_51 ?_
              refine li_get hC hK.1 ck_X12 (hS.1 0 _ rfl) 20 (by decide) fl_X12_40 rfl (v := .ref (ad 20)) rfl dX12_keepsLine_52 ?_
              refine li_iload_n hC hl 3 rfl dX12_keepsLine_55 ?_
              refine li_iald (f := (A 20)) hC hK.1 (hS.1 10 _ rfl) ⟨by omega, by omega⟩ (by decide) dX12_keepsLine_56 ?_
              refine li_iast hC hK hS 11 (n := 7) (f := f) (z := n) rfl ⟨by omega, by omega⟩ (by decide) (ws' := RW g h0 ad (va_up (va_up F 16 m1) 17 s1) (va_up A 21 (va_up f n.toNat ((A 20) n.toNat)))) rfl dX12_keepsLine_57 (fun H locs hS => ?_)
              refine li_iinc hC (lv' := [(3, .int (iI (n + 1))), (0, .ref h0), (1, .int (iI m1)), (2, .int (iI s1))]) hl 3 rfl (by decide) rfl dX12_keepsLine_58 (fun ls hl => ?_)
              refine li_goto (tgt := 36) hC (by decide) dX12_keepsLine_61 ?_
              exact ih36 (n + 1) (va_up f n.toNat ((A 20) n.toNat)) _ _ _ hS (lv_sub hl [1, 2, 3, 0] rfl) (by omega) (by intro k; by_cases e9 : k = n.toNat; { rw [e9, up_same, if_pos (by omega)] }; { rw [up_ne _ _ e9, hf k]; (repeat' split) <;> first | rfl | omega }) (by omega)
        exact L36_6 ((((A 1) 0 - 0).toNat) + 1) 0 (A 21) _ _ _ hS (lv_sub hl [1, 2, 3, 0] rfl) (by omega) (by intro k; rw [if_neg (by omega)]) (by omega)
set_option maxHeartbeats 4000000 in
set_option maxRecDepth 100000 in
theorem c_X12_ordersFrom (l : Launch) (g : GG) : ∀ (d : Nat) (h0 : Nat) (ad : Nat → Nat) (F : Nat → Int) (A : Nat → Nat → Int) (S : Nat → Int) (hSA : A 1 = S) (m0 : Int) (s0 : Int) (b0 : Nat → Int) (wy : Nat → Int) (e16 : F 16 = m0) (e17 : F 17 = s0) (e15 : A 21 = b0) (e14 : A 20 = wy) (k : Int) (dn : Int) (used : Int) (many : Int) (score : Int) (u : List Int) (ft : Nat → Int) (gdA : Nat → Int) (cl : Nat → Int) (e11 : A 11 = ft) (e12 : A 12 = gdA) (e13 : A 13 = cl) (hlen : (u.length : Int) + (d : Int) = S 0) (hk : k = (u.length : Int)) (hdn : dn = setB (fun j => j ∈ u) 7) (hus : used = setB (useQ (tkL S u).1) 28) (hmn : many = (tkL S u).2.1) (hsc : score = (tkL S u).2.2) (hwy : wyL u wy) (hft : FitA S (wideS S) ft) (hgd : GoodA S gdA) (hcl : ClA S cl) (hB : TB (m0, s0, b0)) (hI : InvD S) (hC0 : InvC S) (sz : Nat), MwrV l g yX12_ordersFrom cX12_ordersFrom 8 (2 + d) 0 0 [.ref h0, .int (iI k), .int (iI dn), .int (iI used), .int (iI many), .int (iI score)] sz (RW g h0 ad F A) (fun w => ∃ wy2, wyL u wy2 ∧ w = RW g h0 ad (va_up (va_up F 16 (foldO S (cmpD (S 0).toNat okO d u) (m0, s0, b0)).1) 17 (foldO S (cmpD (S 0).toNat okO d u) (m0, s0, b0)).2.1) (va_up (va_up A 20 wy2) 21 (foldO S (cmpD (S 0).toNat okO d u) (m0, s0, b0)).2.2)) := by
  intro d
  induction d using Nat.strongRecOn with
  | _ d ih0 =>
  intro h0 ad F A S hSA m0 s0 b0 wy e16 e17 e15 e14 k dn used many score u ft gdA cl e11 e12 e13 hlen hk hdn hus hmn hsc hwy hft hgd hcl hB hI hC0 sz
  subst hSA
  subst e16 e17 e15 e14 e11 e12 e13
  refine wr_startV (own := RX12) (by decide) rfl (Nat.le_of_ble_eq_true rfl) ?_
  intro Pg Ev s Mi args below Mt Cd ls Q Aw hC hK hS hnm hl hQ
  have hD0 := hI.1
  have htr := tkL_rng hC0 u
  have htr3 := htr.2.2.1
  have htr4 := htr.2.2.2
  have hl : lv_has ls 8 [(0, .ref h0), (1, .int (iI k)), (2, .int (iI dn)), (3, .int (iI used)), (4, .int (iI many)), (5, .int (iI score))] := hl
  obtain ⟨H, hH⟩ : ∃ H, H = s.heap := ⟨_, rfl⟩
  obtain ⟨locs, hlo⟩ : ∃ locs : List Loc, locs = [] := ⟨_, rfl⟩
  have hS : St g Aw s.heap H locs (RW g h0 ad F A) := by rw [hH, hlo]; exact hS
  have goal : W Pg l Ev (rmC (2 + d) 0 0) s Mi args below Mt Cd H locs 0 0 Q (F0 Mi 0 ls []) := ?goal
  · rw [hH, hlo] at goal; exact goal
  clear hH hlo
  refine li_iload_n hC hl 1 rfl dX12_ordersFrom_0 ?_
  refine li_aload_n hC hl 0 rfl dX12_ordersFrom_1 ?_
  refine li_get hC hK.1 ck_X12 (hS.1 0 _ rfl) 1 (by decide) fl_X12_9 rfl (v := .ref (ad 1)) rfl dX12_ordersFrom_2 ?_
  refine li_iconst hC dX12_ordersFrom_5 ?_
  refine li_iald_k (k := 0) (f := (A 1)) hC hK.1 (hS.1 1 _ rfl) rfl (by decide) (by decide) dX12_ordersFrom_6 ?_
  refine li_icmp_ne (tgt := 19) hC (by decide) (rg (by omega) (by omega)) (rg (by omega) (by omega)) dX12_ordersFrom_7 (fun c1 => ?_) (fun c1 => ?_)
  · refine li_iconst hC dX12_ordersFrom_19 ?_
    refine li_istore hC (lv' := [(6, .int (iI 0)), (0, .ref h0), (1, .int (iI k)), (2, .int (iI dn)), (3, .int (iI used)), (4, .int (iI many)), (5, .int (iI score))]) hl (by decide) rfl dX12_ordersFrom_20 (fun ls hl => ?_)
    have L22_2 : ∀ (fuel : Nat) (j : Int) (t : BT) (wy : Nat → Int) (ls : Array Slot) (H : Heap) (locs : List Loc), St g Aw s.heap H locs (RW g h0 ad (va_up (va_up F 16 t.1) 17 t.2.1) (va_up (va_up A 20 wy) 21 t.2.2)) → lv_has ls 8 [(0, .ref h0), (1, .int (iI k)), (2, .int (iI dn)), (3, .int (iI used)), (4, .int (iI many)), (5, .int (iI score)), (6, .int (iI j))] → (0 ≤ j ∧ j ≤ (A 1) 0) → (t = foldO (A 1) (cmpP (fun p => cmpD ((A 1) 0).toNat okO (d - 1) (u ++ [p])) (okO u) j.toNat) (F 16, F 17, A 21)) → (TB t) → (wyL u wy) → (((A 1) 0 - j).toNat) < fuel → W Pg l Ev (rmC (2 + d) 0 0) s Mi args below Mt Cd H locs 0 0 Q (F0 Mi 22 ls []) := by
      intro fuel
      induction fuel with
      | zero => intro j t wy ls H locs hS hl hj hT hBt hwy hm; exact absurd hm (Nat.not_lt_zero _)
      | succ fuel ih22 =>
        intro j t wy ls H locs hS hl hj hT hBt hwy hm
        refine li_iload hC hl 6 rfl dX12_ordersFrom_22 ?_
        refine li_aload_n hC hl 0 rfl dX12_ordersFrom_24 ?_
        refine li_get hC hK.1 ck_X12 (hS.1 0 _ rfl) 1 (by decide) fl_X12_9 rfl (v := .ref (ad 1)) rfl dX12_ordersFrom_25 ?_
        refine li_iconst hC dX12_ordersFrom_28 ?_
        refine li_iald_k (k := 0) (f := (A 1)) hC hK.1 (hS.1 1 _ rfl) rfl (by decide) (by decide) dX12_ordersFrom_29 ?_
        refine li_icmp_ge (tgt := 135) hC (by decide) (rg (by omega) (by omega)) (rg (by omega) (by omega)) dX12_ordersFrom_30 (fun c3 => ?_) (fun c3 => ?_)
        · have hj4 : j = (A 1) 0 := by omega
          have hT4 := hT
          rw [hj4] at hT4
          exact hQ _ _ _ _ _ _ _ dX12_ordersFrom_135 hS (by omega) (by omega) (by refine ⟨wy, hwy, ?_⟩; rw [cmpD_s (d := d) (by omega), ← hT4])
        · refine li_iload_n hC hl 2 rfl dX12_ordersFrom_33 ?_
          refine li_iload hC hl 6 rfl dX12_ordersFrom_34 ?_
          refine li_ishr hC dX12_ordersFrom_36 ?_
          refine li_iconst hC dX12_ordersFrom_37 ?_
          refine li_iand hC dX12_ordersFrom_38 ?_
          rw [hdn, memB_at (u := u) (n := j) (by omega)]
          refine li_ifne_b (tgt := 129) hC (by decide) dX12_ordersFrom_39 (fun c4 => ?_) (fun c4 => ?_)
          · refine li_iinc hC (lv' := [(6, .int (iI (j + 1))), (0, .ref h0), (1, .int (iI k)), (2, .int (iI dn)), (3, .int (iI used)), (4, .int (iI many)), (5, .int (iI score))]) hl 6 rfl (by decide) rfl dX12_ordersFrom_129 (fun ls hl => ?_)
            refine li_goto (tgt := 22) hC (by decide) dX12_ordersFrom_132 ?_
            exact ih22 (j + 1) t wy _ _ _ hS (lv_sub hl [1, 2, 3, 4, 5, 6, 0] rfl) (by omega) (by rw [foldOP_f hj.1 (show ¬ okO u j from fun h9 => h9 (by assumption))]; exact hT) (by exact hBt) (by exact hwy) (by omega)
          · refine li_aload_n hC hl 0 rfl dX12_ordersFrom_42 ?_
            refine li_iload hC hl 6 rfl dX12_ordersFrom_43 ?_
            refine li_iload_n hC hl 3 rfl dX12_ordersFrom_45 ?_
            refine wr_callVi hC (c_X12_takes l g h0 ad (va_up (va_up F 16 t.1) 17 t.2.1) (va_up (va_up A 20 wy) 21 t.2.2) (A 1) rfl j used ((tkL (A 1) u).1) (A 11) (A 12) (A 13) rfl rfl rfl (by omega) (by omega) htr.1 (htr.2.1 j (by assumption)) hft hgd hcl hI hC0 _) mk_X12_takes ml_X12_263 (rr (by omega)) ⟨by simp only [rmC]; omega, by simp only [rmC]; omega⟩ hK hS (li_recv hK.1 ck_X12 (hS.1 0 _ rfl)) rfl hl.1 rfl (Nat.le_of_ble_eq_true rfl) dX12_ordersFrom_46 (fun v w H locs hp hS => ?_)
            obtain ⟨rfl, rfl⟩ := hp
            obtain ⟨pl5, hpl5⟩ : ∃ z : Int, z = takeS (A 1) ((tkL (A 1) u).1) j := ⟨_, rfl⟩
            rw [← hpl5]
            have q6 := takeS_rng (A 1) ((tkL (A 1) u).1) j
            rw [← hpl5] at q6
            refine li_istore hC (lv' := [(7, .int (iI pl5)), (0, .ref h0), (1, .int (iI k)), (2, .int (iI dn)), (3, .int (iI used)), (4, .int (iI many)), (5, .int (iI score)), (6, .int (iI j))]) hl (by decide) rfl dX12_ordersFrom_49 (fun ls hl => ?_)
            refine li_aload_n hC hl 1 rfl dX12_ordersFrom_51 ?_
            refine li_get hC hK.1 ck_X12 (hS.1 0 _ rfl) 20 (by decide) fl_X12_40 rfl (v := .ref (ad 20)) rfl dX12_ordersFrom_52 ?_
            refine li_iload_n hC hl 2 rfl dX12_ordersFrom_55 ?_
            refine li_iload hC hl 7 rfl dX12_ordersFrom_56 ?_
            refine li_iast hC hK hS 10 (n := 7) (f := wy) (z := k) rfl ⟨by omega, by omega⟩ (by decide) (ws' := RW g h0 ad (va_up (va_up F 16 t.1) 17 t.2.1) (va_up (va_up A 20 (va_up wy k.toNat j)) 21 t.2.2)) rfl dX12_ordersFrom_58 (fun H locs hS => ?_)
            refine li_iload hC hl 0 rfl dX12_ordersFrom_59 ?_
            refine li_iconst hC dX12_ordersFrom_61 ?_
            refine li_icmp_ne (tgt := 86) hC (by decide) (rg (by omega) (by omega)) (rg (by decide) (by decide)) dX12_ordersFrom_62 (fun c7 => ?_) (fun c7 => ?_)
            · refine li_aload_n hC hl 1 rfl dX12_ordersFrom_86 ?_
              refine li_iload_n hC hl 2 rfl dX12_ordersFrom_87 ?_
              refine li_iconst hC dX12_ordersFrom_88 ?_
              refine li_iadd hC dX12_ordersFrom_89 ?_
              refine li_iload_n hC hl 3 rfl dX12_ordersFrom_90 ?_
              refine li_iconst hC dX12_ordersFrom_91 ?_
              refine li_iload hC hl 7 rfl dX12_ordersFrom_92 ?_
              refine li_ishl hC dX12_ordersFrom_94 ?_
              refine li_ior hC dX12_ordersFrom_95 ?_
              refine li_iload_n hC hl 4 rfl dX12_ordersFrom_96 ?_
              refine li_iconst hC dX12_ordersFrom_97 ?_
              refine li_iconst hC dX12_ordersFrom_98 ?_
              refine li_iload hC hl 7 rfl dX12_ordersFrom_99 ?_
              refine li_imul hC dX12_ordersFrom_101 ?_
              refine li_iload hC hl 0 rfl dX12_ordersFrom_102 ?_
              refine li_iadd hC dX12_ordersFrom_104 ?_
              refine li_ishl hC dX12_ordersFrom_105 ?_
              refine li_ior hC dX12_ordersFrom_106 ?_
              refine li_iload hC hl 5 rfl dX12_ordersFrom_107 ?_
              refine li_iconst hC dX12_ordersFrom_109 ?_
              refine li_iadd hC dX12_ordersFrom_110 ?_
              refine li_iload hC hl 6 rfl dX12_ordersFrom_111 ?_
              refine li_aload_n hC hl 1 rfl dX12_ordersFrom_113 ?_
              refine li_get hC hK.1 ck_X12 (hS.1 0 _ rfl) 12 (by decide) fl_X12_28 rfl (v := .ref (ad 12)) rfl dX12_ordersFrom_114 ?_
              refine li_iconst hC dX12_ordersFrom_117 ?_
              refine li_iload hC hl 7 rfl dX12_ordersFrom_118 ?_
              refine li_imul hC dX12_ordersFrom_120 ?_
              refine li_iload hC hl 0 rfl dX12_ordersFrom_121 ?_
              refine li_iadd hC dX12_ordersFrom_123 ?_
              refine li_iald (f := (A 12)) hC hK.1 (hS.1 6 _ rfl) ⟨by omega, by omega⟩ (by decide) dX12_ordersFrom_124 ?_
              rw [GoodA_at hgd (by omega) (by omega)]
              have q8 := goodS_rng hC0 j pl5
              refine li_iadd hC dX12_ordersFrom_125 ?_
              refine wr_callVv hC (ih0 (d - 1) (by omega) h0 ad (va_up (va_up F 16 t.1) 17 t.2.1) (va_up (va_up A 20 (va_up wy k.toNat j)) 21 t.2.2) (A 1) rfl t.1 t.2.1 t.2.2 (va_up wy k.toNat j) rfl rfl rfl rfl (k + 1) (ior dn (ishl 1 j)) (ior used (ishl 1 ((4 * j) + pl5))) (many + 1) (score + (goodS (A 1) j pl5)) (u ++ [j]) (A 11) (A 12) (A 13) rfl rfl rfl (by rw [len_app]; omega) (by rw [len_app]; omega) (by rw [hdn]; exact memB_up (by omega)) (by rw [tkL_app]; show _ = setB (useQ (upI (tkL (A 1) u).1 j (takeS (A 1) (tkL (A 1) u).1 j))) 28; rw [← hpl5, hus]; exact useQ_up (by omega) (by omega) (htr.2.1 j (by assumption))) (by rw [tkL_app]; show _ = (tkL (A 1) u).2.1 + b2 (takeS (A 1) (tkL (A 1) u).1 j ≠ 4); rw [← hpl5, b2_t (by assumption), ← hmn]) (by rw [tkL_app]; show _ = (tkL (A 1) u).2.2 + (if takeS (A 1) (tkL (A 1) u).1 j = 4 then 0 else goodS (A 1) j (takeS (A 1) (tkL (A 1) u).1 j)); rw [← hpl5, if_neg (by assumption), ← hsc]) (by rw [show k.toNat = u.length by omega]; exact wyL_app hwy) hft hgd hcl (hBt) hI hC0 _) mk_X12_ordersFrom ml_X12_266 (rr (by omega)) ⟨by simp only [rmC]; omega, by simp only [rmC]; omega⟩ hK hS (li_recv hK.1 ck_X12 (hS.1 0 _ rfl)) rfl hl.1 rfl (Nat.le_of_ble_eq_true rfl) dX12_ordersFrom_126 (fun w H locs hp hS => ?_)
              obtain ⟨u9, hwy10, rfl⟩ := hp
              refine li_iinc hC (lv' := [(6, .int (iI (j + 1))), (7, .int (iI pl5)), (0, .ref h0), (1, .int (iI k)), (2, .int (iI dn)), (3, .int (iI used)), (4, .int (iI many)), (5, .int (iI score))]) hl 7 rfl (by decide) rfl dX12_ordersFrom_129 (fun ls hl => ?_)
              refine li_goto (tgt := 22) hC (by decide) dX12_ordersFrom_132 ?_
              exact ih22 (j + 1) (foldO (A 1) (cmpD ((A 1) 0).toNat okO (d - 1) (u ++ [j])) t) u9 _ _ _ hS (lv_sub hl [2, 3, 4, 5, 6, 7, 0] rfl) (by omega) (by rw [foldOP_t hj.1 (show okO u j by assumption), ← hT]) (by exact foldO_TB hC0 _ _ hBt (fun v9 h9 => by rw [cmpD_len _ _ v9 h9, len_app]; omega)) (by exact wyL_pre hwy10) (by omega)
            · refine li_aload_n hC hl 1 rfl dX12_ordersFrom_65 ?_
              refine li_iload_n hC hl 2 rfl dX12_ordersFrom_66 ?_
              refine li_iconst hC dX12_ordersFrom_67 ?_
              refine li_iadd hC dX12_ordersFrom_68 ?_
              refine li_iload_n hC hl 3 rfl dX12_ordersFrom_69 ?_
              refine li_iconst hC dX12_ordersFrom_70 ?_
              refine li_iload hC hl 7 rfl dX12_ordersFrom_71 ?_
              refine li_ishl hC dX12_ordersFrom_73 ?_
              refine li_ior hC dX12_ordersFrom_74 ?_
              refine li_iload_n hC hl 4 rfl dX12_ordersFrom_75 ?_
              refine li_iload hC hl 5 rfl dX12_ordersFrom_76 ?_
              refine li_iload hC hl 6 rfl dX12_ordersFrom_78 ?_
              refine wr_callVv hC (ih0 (d - 1) (by omega) h0 ad (va_up (va_up F 16 t.1) 17 t.2.1) (va_up (va_up A 20 (va_up wy k.toNat j)) 21 t.2.2) (A 1) rfl t.1 t.2.1 t.2.2 (va_up wy k.toNat j) rfl rfl rfl rfl (k + 1) (ior dn (ishl 1 j)) used many score (u ++ [j]) (A 11) (A 12) (A 13) rfl rfl rfl (by rw [len_app]; omega) (by rw [len_app]; omega) (by rw [hdn]; exact memB_up (by omega)) (by rw [tkL_app]; show used = setB (useQ (upI (tkL (A 1) u).1 j (takeS (A 1) (tkL (A 1) u).1 j))) 28; rw [← hpl5, show pl5 = 4 by assumption, useQ_out (htr.2.1 j (by assumption))]; exact hus) (by rw [tkL_app]; show many = (tkL (A 1) u).2.1 + b2 (takeS (A 1) (tkL (A 1) u).1 j ≠ 4); rw [← hpl5, b2_f (fun h9 => h9 (by assumption)), ← hmn]; omega) (by rw [tkL_app]; show score = (tkL (A 1) u).2.2 + (if takeS (A 1) (tkL (A 1) u).1 j = 4 then 0 else goodS (A 1) j (takeS (A 1) (tkL (A 1) u).1 j)); rw [← hpl5, if_pos (by assumption), ← hsc]; omega) (by rw [show k.toNat = u.length by omega]; exact wyL_app hwy) hft hgd hcl (hBt) hI hC0 _) mk_X12_ordersFrom ml_X12_266 (rr (by omega)) ⟨by simp only [rmC]; omega, by simp only [rmC]; omega⟩ hK hS (li_recv hK.1 ck_X12 (hS.1 0 _ rfl)) rfl hl.1 rfl (Nat.le_of_ble_eq_true rfl) dX12_ordersFrom_80 (fun w H locs hp hS => ?_)
              obtain ⟨u11, hwy12, rfl⟩ := hp
              refine li_goto (tgt := 129) hC (by decide) dX12_ordersFrom_83 ?_
              refine li_iinc hC (lv' := [(6, .int (iI (j + 1))), (7, .int (iI pl5)), (0, .ref h0), (1, .int (iI k)), (2, .int (iI dn)), (3, .int (iI used)), (4, .int (iI many)), (5, .int (iI score))]) hl 7 rfl (by decide) rfl dX12_ordersFrom_129 (fun ls hl => ?_)
              refine li_goto (tgt := 22) hC (by decide) dX12_ordersFrom_132 ?_
              exact ih22 (j + 1) (foldO (A 1) (cmpD ((A 1) 0).toNat okO (d - 1) (u ++ [j])) t) u11 _ _ _ hS (lv_sub hl [2, 3, 4, 5, 6, 7, 0] rfl) (by omega) (by rw [foldOP_t hj.1 (show okO u j by assumption), ← hT]) (by exact foldO_TB hC0 _ _ hBt (fun v9 h9 => by rw [cmpD_len _ _ v9 h9, len_app]; omega)) (by exact wyL_pre hwy12) (by omega)
    exact L22_2 ((((A 1) 0 - 0).toNat) + 1) 0 (F 16, F 17, A 21) (A 20) _ _ _ hS (lv_sub hl [1, 2, 3, 4, 5, 6, 0] rfl) (by omega) (by rfl) (by exact hB) (by exact hwy) (by omega)
  · refine li_aload_n hC hl 0 rfl dX12_ordersFrom_10 ?_
    refine li_iload hC hl 4 rfl dX12_ordersFrom_11 ?_
    refine li_iload hC hl 5 rfl dX12_ordersFrom_13 ?_
    refine wr_callVv hC (c_X12_keepsLine l g h0 ad F A (A 1) rfl (F 16) (F 17) (A 21) (A 20) rfl rfl rfl rfl many score (by omega) (by omega) (by assumption) hI _) mk_X12_keepsLine ml_X12_260 (rr (by omega)) ⟨by simp only [rmC]; omega, by simp only [rmC]; omega⟩ hK hS (li_recv hK.1 ck_X12 (hS.1 0 _ rfl)) rfl hl.1 rfl (Nat.le_of_ble_eq_true rfl) dX12_ordersFrom_15 (fun w H locs hp hS => ?_)
    subst hp
    exact hQ _ _ _ _ _ _ _ dX12_ordersFrom_18 hS (by omega) (by omega) (by rw [keepO_leaf (D := ((A 1) 0).toNat) (ok := okO) (d := d) (by omega) hmn hsc hwy (by omega)]; exact ⟨A 20, hwy, rfl⟩)
set_option maxHeartbeats 4000000 in
set_option maxRecDepth 100000 in
theorem c_X12_inline (l : Launch) (g : GG) (h0 : Nat) (ad : Nat → Nat) (F : Nat → Int) (A : Nat → Nat → Int) (S : Nat → Int) (hSA : A 1 = S) (what : Int) (hw : rng what) (hI : InvD S) (hH : InvH S) (hC0 : InvC S) (sz : Nat) : MwrI l g yX12_inline cX12_inline 7 8 0 0 [.ref h0, .int (iI what)] sz (RW g h0 ad F A) (fun v w => v = iI (inlineR S what) ∧ ∃ F2 A2, KeepR S F F2 A A2 ∧ w = RW g h0 ad F2 A2) := by
  subst hSA
  refine wr_startI (own := RX12) (by decide) rfl (Nat.le_of_ble_eq_true rfl) ?_
  intro Pg Ev s Mi args below Mt Cd ls Q Aw hC hK hS hnm hl hQ
  have hD0 := hI.1
  have hH0 := hH.1
  have hl : lv_has ls 7 [(0, .ref h0), (1, .int (iI what))] := hl
  obtain ⟨H, hH⟩ : ∃ H, H = s.heap := ⟨_, rfl⟩
  obtain ⟨locs, hlo⟩ : ∃ locs : List Loc, locs = [] := ⟨_, rfl⟩
  have hS : St g Aw s.heap H locs (RW g h0 ad F A) := by rw [hH, hlo]; exact hS
  have goal : W Pg l Ev (rmC 8 0 0) s Mi args below Mt Cd H locs 0 0 Q (F0 Mi 0 ls []) := ?goal
  · rw [hH, hlo] at goal; exact goal
  clear hH hlo
  refine li_iload_n hC hl 1 rfl dX12_inline_0 ?_
  refine li_iconst hC dX12_inline_1 ?_
  refine li_iconst hC dX12_inline_2 ?_
  refine ro_callSi hC (c_X12_in l g what 0 1 hw (rg (by decide) (by decide)) (rg (by decide) (by decide))) mk_X12_in ml_X12_56 (rr (by decide)) ⟨Nat.le_of_ble_eq_true rfl, Nat.le_of_ble_eq_true rfl⟩ hK.1 (hS.ro hK) trivial rfl hl.1 rfl (Nat.le_of_ble_eq_true rfl) dX12_inline_3 ?_
  refine li_ifne_b (tgt := 13) hC (by decide) dX12_inline_6 (fun c1 => ?_) (fun c1 => ?_)
  · refine li_aload_n hC hl 0 rfl dX12_inline_13 ?_
    refine wr_callVv hC (c_X12_looksForPairs l g h0 ad F A (A 1) rfl hI hH hC0 _) mk_X12_looksForPairs ml_X12_243 (rr (by decide)) ⟨by simp only [rmC]; omega, by simp only [rmC]; omega⟩ hK hS (li_recv hK.1 ck_X12 (hS.1 0 _ rfl)) rfl hl.1 rfl (Nat.le_of_ble_eq_true rfl) dX12_inline_14 (fun w H locs hp hS => ?_)
    obtain ⟨u2, u3, u4, u5, u6, hft7, hgd8, hcl9, rfl⟩ := hp
    refine li_iconst hC dX12_inline_17 ?_
    refine li_istore_n hC (lv' := [(2, .int (iI 0)), (0, .ref h0), (1, .int (iI what))]) hl (by decide) rfl dX12_inline_18 (fun ls hl => ?_)
    refine li_iconst hC dX12_inline_19 ?_
    refine li_istore_n hC (lv' := [(3, .int (iI 0)), (2, .int (iI 0)), (0, .ref h0), (1, .int (iI what))]) hl (by decide) rfl dX12_inline_20 (fun ls hl => ?_)
    refine li_iconst hC dX12_inline_21 ?_
    refine li_istore hC (lv' := [(4, .int (iI 0)), (3, .int (iI 0)), (2, .int (iI 0)), (0, .ref h0), (1, .int (iI what))]) hl (by decide) rfl dX12_inline_22 (fun ls hl => ?_)
    refine li_iconst hC dX12_inline_24 ?_
    refine li_istore hC (lv' := [(5, .int (iI 0)), (4, .int (iI 0)), (3, .int (iI 0)), (2, .int (iI 0)), (0, .ref h0), (1, .int (iI what))]) hl (by decide) rfl dX12_inline_25 (fun ls hl => ?_)
    have L27_10 : ∀ (fuel : Nat) (n : Int) (used : Int) (many : Int) (score : Int) (ls : Array Slot) (H : Heap) (locs : List Loc), St g Aw s.heap H locs (RW g h0 ad F (va_up (va_up (va_up (va_up (va_up A 9 u2) 10 u3) 11 u4) 12 u5) 13 u6)) → lv_has ls 7 [(0, .ref h0), (1, .int (iI what)), (2, .int (iI used)), (3, .int (iI many)), (4, .int (iI score)), (5, .int (iI n))] → (0 ≤ n ∧ n ≤ (A 1) 0) → (used = setB (useQ (tkN (A 1) n.toNat).1) 28) → (many = (tkN (A 1) n.toNat).2.1) → (score = (tkN (A 1) n.toNat).2.2) → (((A 1) 0 - n).toNat) < fuel → W Pg l Ev (rmC 8 0 0) s Mi args below Mt Cd H locs 0 0 Q (F0 Mi 27 ls []) := by
      intro fuel
      induction fuel with
      | zero => intro n used many score ls H locs hS hl hn hus hmn hsc hm; exact absurd hm (Nat.not_lt_zero _)
      | succ fuel ih27 =>
        intro n used many score ls H locs hS hl hn hus hmn hsc hm
        have htr := tkN_rng hC0 n.toNat
        have htr3 := htr.2.2.1
        have htr4 := htr.2.2.2
        refine li_iload hC hl 5 rfl dX12_inline_27 ?_
        refine li_aload_n hC hl 0 rfl dX12_inline_29 ?_
        refine li_get hC hK.1 ck_X12 (hS.1 0 _ rfl) 1 (by decide) fl_X12_9 rfl (v := .ref (ad 1)) rfl dX12_inline_30 ?_
        refine li_iconst hC dX12_inline_33 ?_
        refine li_iald_k (k := 0) (f := (A 1)) hC hK.1 (hS.1 1 _ rfl) rfl (by decide) (by decide) dX12_inline_34 ?_
        refine li_icmp_ge (tgt := 91) hC (by decide) (rg (by omega) (by omega)) (rg (by omega) (by omega)) dX12_inline_35 (fun c11 => ?_) (fun c11 => ?_)
        · have hn4 : n = (A 1) 0 := by omega
          rw [hn4] at hmn hsc
          refine li_iload_n hC hl 1 rfl dX12_inline_91 ?_
          refine li_if_ne (tgt := 99) hC (by decide) hw dX12_inline_92 (fun c12 => ?_) (fun c12 => ?_)
          · refine li_iload hC hl 4 rfl dX12_inline_99 ?_
            exact hQ _ _ _ _ _ _ _ _ dX12_inline_101 hS (by omega) (by omega) (⟨iI_inj (by unfold inlineR; first | (rw [iteP_f (by omega)]; done) | (rw [iteP_t (by omega)]; (repeat' split) <;> omega)), ⟨F, (va_up (va_up (va_up (va_up (va_up A 9 u2) 10 u3) 11 u4) 12 u5) 13 u6), ⟨⟨rfl, rfl⟩, rfl, rfl, rfl⟩, rfl⟩⟩)
          · refine li_iload_n hC hl 3 rfl dX12_inline_95 ?_
            refine li_goto (tgt := 101) hC (by decide) dX12_inline_96 ?_
            exact hQ _ _ _ _ _ _ _ _ dX12_inline_101 hS (by omega) (by omega) (⟨iI_inj (by unfold inlineR; first | (rw [iteP_f (by omega)]; done) | (rw [iteP_t (by omega)]; (repeat' split) <;> omega)), ⟨F, (va_up (va_up (va_up (va_up (va_up A 9 u2) 10 u3) 11 u4) 12 u5) 13 u6), ⟨⟨rfl, rfl⟩, rfl, rfl, rfl⟩, rfl⟩⟩)
        · refine li_aload_n hC hl 0 rfl dX12_inline_38 ?_
          refine li_iload hC hl 5 rfl dX12_inline_39 ?_
          refine li_iload_n hC hl 2 rfl dX12_inline_41 ?_
          refine wr_callVi hC (c_X12_takes l g h0 ad F (va_up (va_up (va_up (va_up (va_up A 9 u2) 10 u3) 11 u4) 12 u5) 13 u6) (A 1) rfl n used ((tkN (A 1) n.toNat).1) u4 u5 u6 rfl rfl rfl (by omega) (by omega) htr.1 (htr.2.1 n (by omega)) hft7 hgd8 hcl9 hI hC0 _) mk_X12_takes ml_X12_263 (rr (by decide)) ⟨by simp only [rmC]; omega, by simp only [rmC]; omega⟩ hK hS (li_recv hK.1 ck_X12 (hS.1 0 _ rfl)) rfl hl.1 rfl (Nat.le_of_ble_eq_true rfl) dX12_inline_42 (fun v w H locs hp hS => ?_)
          obtain ⟨rfl, rfl⟩ := hp
          obtain ⟨pl13, hpl13⟩ : ∃ z : Int, z = takeS (A 1) ((tkN (A 1) n.toNat).1) n := ⟨_, rfl⟩
          rw [← hpl13]
          have q14 := takeS_rng (A 1) ((tkN (A 1) n.toNat).1) n
          rw [← hpl13] at q14
          refine li_istore hC (lv' := [(6, .int (iI pl13)), (0, .ref h0), (1, .int (iI what)), (2, .int (iI used)), (3, .int (iI many)), (4, .int (iI score)), (5, .int (iI n))]) hl (by decide) rfl dX12_inline_45 (fun ls hl => ?_)
          refine li_iload hC hl 0 rfl dX12_inline_47 ?_
          refine li_iconst hC dX12_inline_49 ?_
          refine li_icmp_eq (tgt := 85) hC (by decide) (rg (by omega) (by omega)) (rg (by decide) (by decide)) dX12_inline_50 (fun c15 => ?_) (fun c15 => ?_)
          · refine li_iinc hC (lv' := [(5, .int (iI (n + 1))), (6, .int (iI pl13)), (0, .ref h0), (1, .int (iI what)), (2, .int (iI used)), (3, .int (iI many)), (4, .int (iI score))]) hl 6 rfl (by decide) rfl dX12_inline_85 (fun ls hl => ?_)
            refine li_goto (tgt := 27) hC (by decide) dX12_inline_88 ?_
            exact ih27 (n + 1) used many score _ _ _ hS (lv_sub hl [2, 3, 4, 5, 6, 0] rfl) (by omega) (by rw [tkN_s hn.1]; show used = setB (useQ (upI (tkN (A 1) n.toNat).1 n (takeS (A 1) (tkN (A 1) n.toNat).1 n))) 28; rw [← hpl13, show pl13 = 4 by assumption, useQ_out (htr.2.1 n (by omega))]; exact hus) (by rw [tkN_s hn.1]; show many = (tkN (A 1) n.toNat).2.1 + b2 (takeS (A 1) (tkN (A 1) n.toNat).1 n ≠ 4); rw [← hpl13, b2_f (fun h9 => h9 (by assumption)), ← hmn]; omega) (by rw [tkN_s hn.1]; show score = (tkN (A 1) n.toNat).2.2 + (if takeS (A 1) (tkN (A 1) n.toNat).1 n = 4 then 0 else goodS (A 1) n (takeS (A 1) (tkN (A 1) n.toNat).1 n)); rw [← hpl13, if_pos (by assumption), ← hsc]; omega) (by omega)
          · refine li_iload_n hC hl 3 rfl dX12_inline_53 ?_
            refine li_iconst hC dX12_inline_54 ?_
            refine li_iconst hC dX12_inline_55 ?_
            refine li_iload hC hl 6 rfl dX12_inline_56 ?_
            refine li_imul hC dX12_inline_58 ?_
            refine li_iload hC hl 0 rfl dX12_inline_59 ?_
            refine li_iadd hC dX12_inline_61 ?_
            refine li_ishl hC dX12_inline_62 ?_
            refine li_ior hC dX12_inline_63 ?_
            refine li_istore_n hC (lv' := [(2, .int (iI (ior used (ishl 1 ((4 * n) + pl13))))), (6, .int (iI pl13)), (0, .ref h0), (1, .int (iI what)), (3, .int (iI many)), (4, .int (iI score)), (5, .int (iI n))]) hl (by decide) rfl dX12_inline_64 (fun ls hl => ?_)
            refine li_iinc hC (lv' := [(3, .int (iI (many + 1))), (2, .int (iI (ior used (ishl 1 ((4 * n) + pl13))))), (6, .int (iI pl13)), (0, .ref h0), (1, .int (iI what)), (4, .int (iI score)), (5, .int (iI n))]) hl 4 rfl (by decide) rfl dX12_inline_65 (fun ls hl => ?_)
            refine li_iload hC hl 5 rfl dX12_inline_68 ?_
            refine li_aload_n hC hl 3 rfl dX12_inline_70 ?_
            refine li_get hC hK.1 ck_X12 (hS.1 0 _ rfl) 12 (by decide) fl_X12_28 rfl (v := .ref (ad 12)) rfl dX12_inline_71 ?_
            refine li_iconst hC dX12_inline_74 ?_
            refine li_iload hC hl 6 rfl dX12_inline_75 ?_
            refine li_imul hC dX12_inline_77 ?_
            refine li_iload hC hl 2 rfl dX12_inline_78 ?_
            refine li_iadd hC dX12_inline_80 ?_
            refine li_iald (f := u5) hC hK.1 (hS.1 6 _ rfl) ⟨by omega, by omega⟩ (by decide) dX12_inline_81 ?_
            rw [GoodA_at hgd8 (by omega) (by omega)]
            have q16 := goodS_rng hC0 n pl13
            refine li_iadd hC dX12_inline_82 ?_
            refine li_istore hC (lv' := [(4, .int (iI (score + (goodS (A 1) n pl13)))), (3, .int (iI (many + 1))), (2, .int (iI (ior used (ishl 1 ((4 * n) + pl13))))), (6, .int (iI pl13)), (0, .ref h0), (1, .int (iI what)), (5, .int (iI n))]) hl (by decide) rfl dX12_inline_83 (fun ls hl => ?_)
            refine li_iinc hC (lv' := [(5, .int (iI (n + 1))), (4, .int (iI (score + (goodS (A 1) n pl13)))), (3, .int (iI (many + 1))), (2, .int (iI (ior used (ishl 1 ((4 * n) + pl13))))), (6, .int (iI pl13)), (0, .ref h0), (1, .int (iI what))]) hl 6 rfl (by decide) rfl dX12_inline_85 (fun ls hl => ?_)
            refine li_goto (tgt := 27) hC (by decide) dX12_inline_88 ?_
            exact ih27 (n + 1) (ior used (ishl 1 ((4 * n) + pl13))) (many + 1) (score + (goodS (A 1) n pl13)) _ _ _ hS (lv_sub hl [5, 6, 3, 2, 1, 0] rfl) (by omega) (by rw [tkN_s hn.1]; show _ = setB (useQ (upI (tkN (A 1) n.toNat).1 n (takeS (A 1) (tkN (A 1) n.toNat).1 n))) 28; rw [← hpl13, hus]; exact useQ_up (by omega) (by omega) (htr.2.1 n (by omega))) (by rw [tkN_s hn.1]; show _ = (tkN (A 1) n.toNat).2.1 + b2 (takeS (A 1) (tkN (A 1) n.toNat).1 n ≠ 4); rw [← hpl13, b2_t (by assumption), ← hmn]) (by rw [tkN_s hn.1]; show _ = (tkN (A 1) n.toNat).2.2 + (if takeS (A 1) (tkN (A 1) n.toNat).1 n = 4 then 0 else goodS (A 1) n (takeS (A 1) (tkN (A 1) n.toNat).1 n)); rw [← hpl13, if_neg (by assumption), ← hsc]) (by omega)
    exact L27_10 ((((A 1) 0 - 0).toNat) + 1) 0 0 0 0 _ _ _ hS (lv_sub hl [4, 5, 3, 2, 1, 0] rfl) (by omega) (by exact (setB_0.mpr (fun j _ h => by unfold useQ tkN at h; simp at h; omega)).symm) (by rfl) (by rfl) (by omega)
  · refine li_sipush hC (z := -10001) rfl dX12_inline_9 ?_
    exact hQ _ _ _ _ _ _ _ _ dX12_inline_12 hS (by omega) (by omega) (⟨iI_inj (by unfold inlineR; first | (rw [iteP_f (by omega)]; done) | (rw [iteP_t (by omega)]; (repeat' split) <;> omega)), ⟨F, A, ⟨⟨rfl, rfl⟩, rfl, rfl, rfl⟩, rfl⟩⟩)
set_option maxHeartbeats 4000000 in
set_option maxRecDepth 100000 in
theorem c_X12_order (l : Launch) (g : GG) (h0 : Nat) (ad : Nat → Nat) (F : Nat → Int) (A : Nat → Nat → Int) (S : Nat → Int) (hSA : A 1 = S) (k : Int) (hw : rng k) (hI : InvD S) (hH : InvH S) (hC0 : InvC S) (sz : Nat) : MwrI l g yX12_order cX12_order 2 10 0 0 [.ref h0, .int (iI k)] sz (RW g h0 ad F A) (fun v w => v = iI (orderR S k) ∧ ∃ F2 A2, KeepR S F F2 A A2 ∧ w = RW g h0 ad F2 A2) := by
  subst hSA
  refine wr_startI (own := RX12) (by decide) rfl (Nat.le_of_ble_eq_true rfl) ?_
  intro Pg Ev s Mi args below Mt Cd ls Q Aw hC hK hS hnm hl hQ
  have hD0 := hI.1
  have hH0 := hH.1
  have hl : lv_has ls 2 [(0, .ref h0), (1, .int (iI k))] := hl
  obtain ⟨H, hH⟩ : ∃ H, H = s.heap := ⟨_, rfl⟩
  obtain ⟨locs, hlo⟩ : ∃ locs : List Loc, locs = [] := ⟨_, rfl⟩
  have hS : St g Aw s.heap H locs (RW g h0 ad F A) := by rw [hH, hlo]; exact hS
  have goal : W Pg l Ev (rmC 10 0 0) s Mi args below Mt Cd H locs 0 0 Q (F0 Mi 0 ls []) := ?goal
  · rw [hH, hlo] at goal; exact goal
  clear hH hlo
  refine li_iload_n hC hl 1 rfl dX12_order_0 ?_
  refine li_bipush hC (z := -2) rfl dX12_order_1 ?_
  refine li_bipush hC (z := 6) rfl dX12_order_3 ?_
  refine ro_callSi hC (c_X12_in l g k (-2) 6 hw (rg (by decide) (by decide)) (rg (by decide) (by decide))) mk_X12_in ml_X12_56 (rr (by decide)) ⟨Nat.le_of_ble_eq_true rfl, Nat.le_of_ble_eq_true rfl⟩ hK.1 (hS.ro hK) trivial rfl hl.1 rfl (Nat.le_of_ble_eq_true rfl) dX12_order_5 ?_
  refine li_ifne_b (tgt := 15) hC (by decide) dX12_order_8 (fun c1 => ?_) (fun c1 => ?_)
  · refine li_aload_n hC hl 0 rfl dX12_order_15 ?_
    refine wr_callVv hC (c_X12_looksForPairs l g h0 ad F A (A 1) rfl hI hH hC0 _) mk_X12_looksForPairs ml_X12_243 (rr (by decide)) ⟨by simp only [rmC]; omega, by simp only [rmC]; omega⟩ hK hS (li_recv hK.1 ck_X12 (hS.1 0 _ rfl)) rfl hl.1 rfl (Nat.le_of_ble_eq_true rfl) dX12_order_16 (fun w H locs hp hS => ?_)
    obtain ⟨u2, u3, u4, u5, u6, hft7, hgd8, hcl9, rfl⟩ := hp
    refine li_aload_n hC hl 0 rfl dX12_order_19 ?_
    refine li_iconst hC dX12_order_20 ?_
    refine li_put hC hK hS ck_X12 0 rfl 16 (by decide) fl_X12_229 rfl rfl (v := .int (iI (-1))) rfl rfl (Nat.le_of_ble_eq_true rfl) (ws' := RW g h0 ad (va_up F 16 (-1)) (va_up (va_up (va_up (va_up (va_up A 9 u2) 10 u3) 11 u4) 12 u5) 13 u6)) rfl dX12_order_21 (fun H locs hS => ?_)
    refine li_aload_n hC hl 0 rfl dX12_order_24 ?_
    refine li_ldc hC (z := -1000000) kc_X12_246 rfl dX12_order_25 ?_
    refine li_put hC hK hS ck_X12 0 rfl 17 (by decide) fl_X12_232 rfl rfl (v := .int (iI (-1000000))) rfl rfl (Nat.le_of_ble_eq_true rfl) (ws' := RW g h0 ad (va_up (va_up F 16 (-1)) 17 (-1000000)) (va_up (va_up (va_up (va_up (va_up A 9 u2) 10 u3) 11 u4) 12 u5) 13 u6)) rfl dX12_order_27 (fun H locs hS => ?_)
    refine li_aload_n hC hl 0 rfl dX12_order_30 ?_
    refine li_iconst hC dX12_order_31 ?_
    refine li_iconst hC dX12_order_32 ?_
    refine li_iconst hC dX12_order_33 ?_
    refine li_iconst hC dX12_order_34 ?_
    refine li_iconst hC dX12_order_35 ?_
    refine wr_callVv hC (c_X12_ordersFrom l g (((A 1) 0).toNat) h0 ad (va_up (va_up F 16 (-1)) 17 (-1000000)) (va_up (va_up (va_up (va_up (va_up A 9 u2) 10 u3) 11 u4) 12 u5) 13 u6) (A 1) rfl (-1) (-1000000) (A 21) (A 20) rfl rfl rfl rfl 0 0 0 0 0 ([]) u4 u5 u6 rfl rfl rfl (by show ((0 : Nat) : Int) + _ = _; omega) rfl (by exact (setB_0.mpr (fun j _ h => by simp at h)).symm) (by exact (setB_0.mpr (fun j _ h => by unfold useQ tkL at h; simp at h; omega)).symm) rfl rfl (wyL_nil _) hft7 hgd8 hcl9 TB_start hI hC0 _) mk_X12_ordersFrom ml_X12_266 (rr (by omega)) ⟨by simp only [rmC]; omega, by simp only [rmC]; omega⟩ hK hS (li_recv hK.1 ck_X12 (hS.1 0 _ rfl)) rfl hl.1 rfl (Nat.le_of_ble_eq_true rfl) dX12_order_36 (fun w H locs hp hS => ?_)
    obtain ⟨u10, hwy11, rfl⟩ := hp
    have hbe := orderT_at hI hC0 (b := A 21)
    have hbb := orderT_TB hI hC0
    have hb16 := hbe.1
    have hb17 := hbe.2.1
    have hbb1 := hbb.1
    have hbb2 := hbb.2.1
    have hbb3 := hbb.2.2.1
    have hbb4 := hbb.2.2.2
    refine li_iload_n hC hl 1 rfl dX12_order_39 ?_
    refine li_bipush hC (z := -2) rfl dX12_order_40 ?_
    refine li_icmp_ne (tgt := 52) hC (by decide) hw (rg (by decide) (by decide)) dX12_order_42 (fun c12 => ?_) (fun c12 => ?_)
    · refine li_iload_n hC hl 1 rfl dX12_order_52 ?_
      refine li_iconst hC dX12_order_53 ?_
      refine li_icmp_ne (tgt := 64) hC (by decide) hw (rg (by decide) (by decide)) dX12_order_54 (fun c13 => ?_) (fun c13 => ?_)
      · refine li_iload_n hC hl 1 rfl dX12_order_64 ?_
        refine li_aload_n hC hl 0 rfl dX12_order_65 ?_
        refine li_get hC hK.1 ck_X12 (hS.1 0 _ rfl) 1 (by decide) fl_X12_9 rfl (v := .ref (ad 1)) rfl dX12_order_66 ?_
        refine li_iconst hC dX12_order_69 ?_
        refine li_iald_k (k := 0) (f := (A 1)) hC hK.1 (hS.1 1 _ rfl) rfl (by decide) (by decide) dX12_order_70 ?_
        refine li_icmp_ge (tgt := 83) hC (by decide) hw (rg (by omega) (by omega)) dX12_order_71 (fun c14 => ?_) (fun c14 => ?_)
        · refine li_bipush hC (z := -5) rfl dX12_order_83 ?_
          exact hQ _ _ _ _ _ _ _ _ dX12_order_85 hS (by omega) (by omega) (⟨iI_inj (by unfold orderR; first | (rw [iteP_f (by omega)]; done) | (rw [iteP_t (by omega)]; (repeat' split) <;> first | rfl | omega | exact hb16 | exact hb17)), ⟨(va_up (va_up F 16 ((foldO (A 1) (cmpD ((A 1) 0).toNat okO ((A 1) 0).toNat []) (-1, -1000000, (A 21))).1)) 17 ((foldO (A 1) (cmpD ((A 1) 0).toNat okO ((A 1) 0).toNat []) (-1, -1000000, (A 21))).2.1)), (va_up (va_up (va_up (va_up (va_up (va_up (va_up A 9 u2) 10 u3) 11 u4) 12 u5) 13 u6) 20 u10) 21 ((foldO (A 1) (cmpD ((A 1) 0).toNat okO ((A 1) 0).toNat []) (-1, -1000000, (A 21))).2.2)), ⟨⟨rfl, rfl⟩, rfl, rfl, rfl⟩, rfl⟩⟩)
        · refine li_aload_n hC hl 0 rfl dX12_order_74 ?_
          refine li_get hC hK.1 ck_X12 (hS.1 0 _ rfl) 21 (by decide) fl_X12_43 rfl (v := .ref (ad 21)) rfl dX12_order_75 ?_
          refine li_iload_n hC hl 1 rfl dX12_order_78 ?_
          refine li_iald (f := (foldO (A 1) (cmpD ((A 1) 0).toNat okO ((A 1) 0).toNat []) (-1, -1000000, (A 21))).2.2) hC hK.1 (hS.1 11 _ rfl) ⟨by omega, by omega⟩ (by decide) dX12_order_79 ?_
          rw [hbe.2.2 k.toNat (by omega)]
          refine li_goto (tgt := 85) hC (by decide) dX12_order_80 ?_
          exact hQ _ _ _ _ _ _ _ _ dX12_order_85 hS (by omega) (by omega) (⟨iI_inj (by unfold orderR; first | (rw [iteP_f (by omega)]; done) | (rw [iteP_t (by omega)]; (repeat' split) <;> first | rfl | omega | exact hb16 | exact hb17)), ⟨(va_up (va_up F 16 ((foldO (A 1) (cmpD ((A 1) 0).toNat okO ((A 1) 0).toNat []) (-1, -1000000, (A 21))).1)) 17 ((foldO (A 1) (cmpD ((A 1) 0).toNat okO ((A 1) 0).toNat []) (-1, -1000000, (A 21))).2.1)), (va_up (va_up (va_up (va_up (va_up (va_up (va_up A 9 u2) 10 u3) 11 u4) 12 u5) 13 u6) 20 u10) 21 ((foldO (A 1) (cmpD ((A 1) 0).toNat okO ((A 1) 0).toNat []) (-1, -1000000, (A 21))).2.2)), ⟨⟨rfl, rfl⟩, rfl, rfl, rfl⟩, rfl⟩⟩)
      · refine li_aload_n hC hl 0 rfl dX12_order_57 ?_
        refine li_get hC hK.1 ck_X12 (hS.1 0 _ rfl) 17 (by decide) fl_X12_232 rfl (v := .int (iI ((foldO (A 1) (cmpD ((A 1) 0).toNat okO ((A 1) 0).toNat []) (-1, -1000000, (A 21))).2.1))) rfl dX12_order_58 ?_
        refine li_goto (tgt := 85) hC (by decide) dX12_order_61 ?_
        exact hQ _ _ _ _ _ _ _ _ dX12_order_85 hS (by omega) (by omega) (⟨iI_inj (by unfold orderR; first | (rw [iteP_f (by omega)]; done) | (rw [iteP_t (by omega)]; (repeat' split) <;> first | rfl | omega | exact hb16 | exact hb17)), ⟨(va_up (va_up F 16 ((foldO (A 1) (cmpD ((A 1) 0).toNat okO ((A 1) 0).toNat []) (-1, -1000000, (A 21))).1)) 17 ((foldO (A 1) (cmpD ((A 1) 0).toNat okO ((A 1) 0).toNat []) (-1, -1000000, (A 21))).2.1)), (va_up (va_up (va_up (va_up (va_up (va_up (va_up A 9 u2) 10 u3) 11 u4) 12 u5) 13 u6) 20 u10) 21 ((foldO (A 1) (cmpD ((A 1) 0).toNat okO ((A 1) 0).toNat []) (-1, -1000000, (A 21))).2.2)), ⟨⟨rfl, rfl⟩, rfl, rfl, rfl⟩, rfl⟩⟩)
    · refine li_aload_n hC hl 0 rfl dX12_order_45 ?_
      refine li_get hC hK.1 ck_X12 (hS.1 0 _ rfl) 16 (by decide) fl_X12_229 rfl (v := .int (iI ((foldO (A 1) (cmpD ((A 1) 0).toNat okO ((A 1) 0).toNat []) (-1, -1000000, (A 21))).1))) rfl dX12_order_46 ?_
      refine li_goto (tgt := 85) hC (by decide) dX12_order_49 ?_
      exact hQ _ _ _ _ _ _ _ _ dX12_order_85 hS (by omega) (by omega) (⟨iI_inj (by unfold orderR; first | (rw [iteP_f (by omega)]; done) | (rw [iteP_t (by omega)]; (repeat' split) <;> first | rfl | omega | exact hb16 | exact hb17)), ⟨(va_up (va_up F 16 ((foldO (A 1) (cmpD ((A 1) 0).toNat okO ((A 1) 0).toNat []) (-1, -1000000, (A 21))).1)) 17 ((foldO (A 1) (cmpD ((A 1) 0).toNat okO ((A 1) 0).toNat []) (-1, -1000000, (A 21))).2.1)), (va_up (va_up (va_up (va_up (va_up (va_up (va_up A 9 u2) 10 u3) 11 u4) 12 u5) 13 u6) 20 u10) 21 ((foldO (A 1) (cmpD ((A 1) 0).toNat okO ((A 1) 0).toNat []) (-1, -1000000, (A 21))).2.2)), ⟨⟨rfl, rfl⟩, rfl, rfl, rfl⟩, rfl⟩⟩)
  · refine li_sipush hC (z := -10001) rfl dX12_order_11 ?_
    exact hQ _ _ _ _ _ _ _ _ dX12_order_14 hS (by omega) (by omega) (⟨iI_inj (by unfold orderR; first | (rw [iteP_f (by omega)]; done) | (rw [iteP_t (by omega)]; (repeat' split) <;> first | rfl | omega | exact hb16 | exact hb17)), ⟨F, A, ⟨⟨rfl, rfl⟩, rfl, rfl, rfl⟩, rfl⟩⟩)
