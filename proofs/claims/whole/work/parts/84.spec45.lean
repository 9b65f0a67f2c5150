/-! THE SEARCH, MATCHED WITH THE REFERENCE'S -/
section MT
variable {S : Nat → Int}
theorem cmpP_ext {f f' : Int → List (List Int)} {ok ok' : Int → Prop} : ∀ k : Nat, (∀ p : Int, 0 ≤ p → p < k → (ok p ↔ ok' p)) → (∀ p : Int, 0 ≤ p → p < k → f p = f' p) → cmpP f ok k = cmpP f' ok' k
  | 0, _, _ => rfl
  | k + 1, h, hf => by
    have ih := cmpP_ext k (fun p h0 h1 => h p h0 (by omega)) (fun p h0 h1 => hf p h0 (by omega))
    have e := h k (by omega) (by omega)
    show cmpP f ok k ++ iteP (ok (k : Int)) (f k) [] = cmpP f' ok' k ++ iteP (ok' (k : Int)) (f' k) []
    rw [ih, hf k (by omega) (by omega)]
    by_cases q : ok (k : Int)
    · rw [iteP_t q, iteP_t (e.mp q)]
    · rw [iteP_f q, iteP_f (fun h9 => q (e.mpr h9))]
theorem cmp_ext {ok ok' : List Int → Int → Prop} {D : Int} (h : ∀ (u : List Int) (p : Int), okL u → (u.length : Int) < D → 0 ≤ p → p ≤ 4 → (ok u p ↔ ok' u p)) : ∀ (d : Nat) (u : List Int), okL u → (u.length : Int) + d = D → cmp ok d u = cmp ok' d u
  | 0, _, _, _ => rfl
  | d + 1, u, hu, hd => by
    show cmpP (fun p => cmp ok d (u ++ [p])) (ok u) 5 = cmpP (fun p => cmp ok' d (u ++ [p])) (ok' u) 5
    exact cmpP_ext 5 (fun p h0 h1 => h u p hu (by omega) h0 (by omega)) (fun p h0 h1 => cmp_ext h d (u ++ [p]) (okL_app hu ⟨h0, by omega⟩) (by rw [len_app]; omega))
theorem blk_free (hI : InvD S) {u : List Int} {p : Int} (hl : (u.length : Int) < S 0) (hp : 0 ≤ p ∧ p ≤ 3) : ¬ blkP S u (4 * (u.length : Int) + p) ↔ freeL S u p := by
  unfold blkP freeL
  constructor
  · intro h k k0 k1
    by_cases c : atL u k = 4
    · exact Or.inl c
    · refine Or.inr (fun h9 => h ⟨k, k0, k1, c, ?_⟩)
      rw [clP_j hp]
      exact ⟨by omega, (both_pos hI ⟨k0, by omega⟩ ⟨by omega, hl⟩ c (by omega)).mpr h9⟩
  · intro h h9
    obtain ⟨k, k0, k1, k2, k3⟩ := h9
    rw [clP_j hp] at k3
    rcases h k k0 k1 with c | c
    · exact k2 c
    · exact c ((both_pos hI ⟨k0, by omega⟩ ⟨by omega, hl⟩ k2 (by omega)).mp k3.2)
theorem set45 (P : Int → Prop) : setB P 4 = setB (fun j => j < 4 ∧ P j) 5 := by
  show _ = setB (fun j => j < 4 ∧ P j) 4 + b2 (((4 : Nat) : Int) < 4 ∧ P ((4 : Nat) : Int)) * ((2 ^ 4 : Nat) : Int)
  rw [b2_f (fun h => absurd h.1 (by decide)), Int.zero_mul, Int.add_zero]
  exact setB_ext (fun j h0 h1 => ⟨fun h => ⟨by omega, h⟩, fun h => h.2⟩)
theorem alW_bit {i p : Int} (hp : 0 ≤ p ∧ p ≤ 4) : iand (ishr (alW S i) p) 1 ≠ 0 ↔ (p = 4 ∨ (p < 4 ∧ fitsS S i p (wideS S))) := by
  have e : alW S i = setB (fun j => (j < 4 ∧ fitsS S i j (wideS S)) ∨ j = 4) 5 := by
    unfold alW bitsF
    have e2 : (16 : Int) = setB (fun j => j = 4) 5 := (show (16 : Int) = ishl 1 4 by decide +kernel).trans (setB_one (n := 5) (k := 4) (by decide) (by decide) (by decide))
    rw [set45, e2, setB_or (by decide)]
  rw [e, hasB (by decide) hp.1 (by omega)]
  constructor
  · intro h; rcases h.2 with q | q
    · exact Or.inr q
    · exact Or.inl q
  · intro h; rcases h with q | q
    · exact ⟨by omega, Or.inr q⟩
    · exact ⟨by omega, Or.inl q⟩
theorem okW_B (hI : InvD S) {u : List Int} {p : Int} (hl : (u.length : Int) < S 0) (hp : 0 ≤ p ∧ p ≤ 4) : okB S (alW S) u p ↔ okW S (wideS S) u p := by
  unfold okB okW
  rw [alW_bit hp]
  rcases (show p = 4 ∨ p ≤ 3 by omega) with q | q
  · exact ⟨fun _ => Or.inl q, fun _ => ⟨Or.inl q, Or.inl q⟩⟩
  · have e := blk_free hI (u := u) hl ⟨hp.1, q⟩
    constructor
    · intro h
      refine Or.inr ?_
      rcases h.1 with r | r
      · omega
      · rcases h.2 with t | t
        · omega
        · exact ⟨r.1, r.2, e.mp t⟩
    · intro h
      rcases h with r | r
      · omega
      · exact ⟨Or.inr ⟨r.1, r.2.1⟩, Or.inr (e.mpr r.2.2)⟩
theorem bit_two : ∀ x : Nat, x < 16 → ∀ y : Nat, y < 16 → ∀ p : Nat, p < 5 → (iand (ishr (iand (x : Int) (y : Int)) (p : Int)) 1 ≠ 0 ↔ (iand (ishr (x : Int) (p : Int)) 1 ≠ 0 ∧ iand (ishr (y : Int) (p : Int)) 1 = 1)) := by decide +kernel
theorem alA_bit {wd st i p : Int} (hst : 0 ≤ st ∧ st ≤ 15) (hp : 0 ≤ p ∧ p ≤ 4) : iand (ishr (alA S wd st i) p) 1 ≠ 0 ↔ (p < 4 ∧ iand (ishr st p) 1 = 1 ∧ fitsS S i p wd) := by
  have h := bitsF_rng S wd i
  have q := bit_two (bitsF S wd i).toNat (by omega) st.toNat (by omega) p.toNat (by omega)
  rw [Int.toNat_of_nonneg h.1, Int.toNat_of_nonneg hst.1, Int.toNat_of_nonneg hp.1] at q
  unfold alA
  rw [q]
  unfold bitsF
  rw [hasB (by decide) hp.1 (by omega)]
  constructor
  · intro h; exact ⟨by have := h.1.1; omega, h.2, h.1.2⟩
  · intro h; exact ⟨⟨by have := h.1; omega, h.2.2⟩, h.2.1⟩
theorem okA_B (hI : InvD S) {wd st : Int} (hst : 0 ≤ st ∧ st ≤ 15) {u : List Int} {p : Int} (hl : (u.length : Int) < S 0) (hp : 0 ≤ p ∧ p ≤ 4) : okB S (alA S wd st) u p ↔ okA S wd st u p := by
  unfold okB okA
  rw [alA_bit hst hp]
  constructor
  · intro h
    refine ⟨h.1.1, h.1.2.1, h.1.2.2, ?_⟩
    rcases h.2 with t | t
    · have := h.1.1; omega
    · exact (blk_free hI hl ⟨hp.1, by have := h.1.1; omega⟩).mp t
  · intro h
    exact ⟨⟨h.1, h.2.1, h.2.2.1⟩, Or.inr ((blk_free hI hl ⟨hp.1, by have := h.1; omega⟩).mpr h.2.2.2)⟩
theorem bit16 : ∀ p : Nat, p < 5 → (iand (ishr 16 (p : Int)) 1 ≠ 0 ↔ (p : Int) = 4) := by decide +kernel
theorem okM_B (hI : InvD S) {n : Int} {u : List Int} {p : Int} (hl : (u.length : Int) < S 0) (hp : 0 ≤ p ∧ p ≤ 4) : okB S (alM S n) u p ↔ okM S (wideS S) n u p := by
  unfold okB okM alM
  by_cases c : (u.length : Int) ≠ n ∧ S (42 + (u.length : Int)).toNat = 4
  · rw [if_pos c]
    have q := bit16 p.toNat (by omega)
    rw [Int.toNat_of_nonneg hp.1] at q
    rw [q]
    exact ⟨fun h => ⟨fun _ => h.1, fun h9 => absurd c h9⟩, fun h => ⟨h.1 c, Or.inl (h.1 c)⟩⟩
  · rw [if_neg c]
    unfold bitsF
    rw [hasB (by decide) hp.1 (by omega)]
    constructor
    · intro h
      refine ⟨fun h9 => absurd h9 c, fun _ => ⟨by have := h.1.1; omega, h.1.2, ?_⟩⟩
      rcases h.2 with t | t
      · have := h.1.1; omega
      · exact (blk_free hI hl ⟨hp.1, by have := h.1.1; omega⟩).mp t
    · intro h
      have r := h.2 c
      exact ⟨⟨by have := r.1; omega, r.2.1⟩, Or.inr ((blk_free hI hl ⟨hp.1, by have := r.1; omega⟩).mpr r.2.2)⟩
/-- the class's state of a search, and the reference's -/
def RelT (b D : Int) (t t' : BT) : Prop := (t.1 = 0 ∧ t'.1 = -1) ∨ (t.1 = 1 ∧ (0 ≤ t'.1 ∧ t'.1 ≤ 7) ∧ (-7000 ≤ t'.2.1 ∧ t'.2.1 ≤ 7000) ∧ t.2.1 = b * t'.1 + t'.2.1 ∧ ∀ k : Nat, (k : Int) < D → t.2.2 k = t'.2.2 k)
def bbOK (b by0 : Int) : Prop := (b = 100000 ∧ by0 = 1) ∨ (b = 0 ∧ by0 = 0)
theorem keep_rel {b by0 D : Int} (hb : bbOK b by0) {val : List Int → Int} {u : List Int} {m s : Int} (hv : val u = b * m + s) (hm : 0 ≤ m ∧ m ≤ 7) (hs : -7000 ≤ s ∧ s ≤ 7000) {t t' : BT} (h : RelT b D t t') : RelT b D (keepV val t u) (keepT by0 D t' m s (fun k => atL u k)) := by
  have e : (t.1 = 0 ∨ t.2.1 < val u) ↔ isMore by0 t' m s := by
    unfold isMore
    rcases h with ⟨h1, h2⟩ | ⟨h1, h2, h3, h4, h5⟩
    · rcases hb with ⟨rfl, rfl⟩ | ⟨rfl, rfl⟩
      · exact ⟨fun _ => ⟨fun _ => Or.inl (by omega), fun h9 => absurd h9 (by decide)⟩, fun _ => Or.inl h1⟩
      · exact ⟨fun _ => ⟨fun h9 => absurd rfl h9, fun _ => Or.inl h2⟩, fun _ => Or.inl h1⟩
    · rcases hb with ⟨rfl, rfl⟩ | ⟨rfl, rfl⟩
      · rw [hv, h4]
        constructor
        · intro h9; exact ⟨fun _ => by omega, fun h8 => absurd h8 (by decide)⟩
        · intro h9; have h8 := h9.1 (by decide); exact Or.inr (by omega)
      · rw [hv, h4]
        constructor
        · intro h9; exact ⟨fun h8 => absurd rfl h8, fun _ => Or.inr (by omega)⟩
        · intro h9; rcases h9.2 rfl with q | q
          · omega
          · exact Or.inr (by omega)
  unfold keepV keepT
  by_cases c : isMore by0 t' m s
  · rw [iteP_t (e.mpr c), iteP_t c]
    exact Or.inr ⟨rfl, hm, hs, hv, fun k hk => (if_pos hk).symm⟩
  · rw [iteP_f (fun h9 => c (e.mp h9)), iteP_f c]
    exact h
theorem fold_rel {b by0 D : Int} (hb : bbOK b by0) {val m s : List Int → Int} : ∀ (L : List (List Int)), (∀ u ∈ L, val u = b * m u + s u ∧ (0 ≤ m u ∧ m u ≤ 7) ∧ (-7000 ≤ s u ∧ s u ≤ 7000)) → ∀ t t' : BT, RelT b D t t' → RelT b D (foldV val L t) (L.foldl (fun t u => keepT by0 D t (m u) (s u) (fun k => atL u k)) t')
  | [], _, _, _, h => h
  | u :: L, hL, t, t', h => by
    have q := hL u List.mem_cons_self
    exact fold_rel hb L (fun w hw => hL w (List.mem_cons_of_mem _ hw)) _ _ (keep_rel hb q.1 q.2.1 q.2.2 h)
theorem keepV_1 {val : List Int → Int} {t : BT} {u : List Int} (h : t.1 = 0 ∨ t.1 = 1) : (keepV val t u).1 = 1 := by
  unfold keepV
  by_cases c : t.1 = 0 ∨ t.2.1 < val u
  · rw [iteP_t c]
  · rw [iteP_f c]
    rcases h with h | h
    · exact absurd (Or.inl h) c
    · exact h
theorem foldV_1 {val : List Int → Int} : ∀ (L : List (List Int)) (t : BT), t.1 = 1 → (foldV val L t).1 = 1
  | [], _, h => h
  | u :: L, t, h => foldV_1 L (keepV val t u) (keepV_1 (Or.inr h))
theorem foldV_b2 {val : List Int → Int} (L : List (List Int)) (f : Nat → Int) : (foldV val L (0, 0, f)).1 = b2 (L ≠ []) := by
  cases L with
  | nil => exact (b2_f (fun h => h rfl)).symm
  | cons u L =>
    rw [b2_t (List.cons_ne_nil u L)]
    exact foldV_1 L (keepV val (0, 0, f) u) (keepV_1 (Or.inl rfl))
theorem foldG_V (vl : Int → Int → Int) (L : List (List Int)) (t : BT) : foldG vl L t = foldV (scoreL vl) L t := rfl
theorem scoreL_vlG (b : Int) (u : List Int) : scoreL (vlG S b) u = b * manyL u + scoreL (goodS S) u := by
  unfold scoreL manyL
  have key : ∀ n : Nat, sumI (fun k => if atL u k = 4 then 0 else vlG S b k (atL u k)) n = b * cntB (fun k => atL u k ≠ 4) n + sumI (fun k => if atL u k = 4 then 0 else goodS S k (atL u k)) n := by
    intro n
    induction n with
    | zero => show (0 : Int) = b * 0 + 0; rw [Int.mul_zero, Int.add_zero]
    | succ n ih =>
      have e1 : sumI (fun k => if atL u k = 4 then 0 else vlG S b k (atL u k)) (n + 1) = sumI (fun k => if atL u k = 4 then 0 else vlG S b k (atL u k)) n + (if atL u n = 4 then 0 else vlG S b n (atL u n)) := rfl
      have e2 : sumI (fun k => if atL u k = 4 then 0 else goodS S k (atL u k)) (n + 1) = sumI (fun k => if atL u k = 4 then 0 else goodS S k (atL u k)) n + (if atL u n = 4 then 0 else goodS S n (atL u n)) := rfl
      have e3 : cntB (fun k => atL u k ≠ 4) (n + 1) = cntB (fun k => atL u k ≠ 4) n + b2 (atL u n ≠ 4) := rfl
      rw [e1, e2, e3, ih, Int.mul_add]
      by_cases c : atL u n = 4
      · rw [if_pos c, if_pos c, b2_f (fun h => h c), Int.mul_zero]; omega
      · rw [if_neg c, if_neg c, b2_t c, Int.mul_one]; unfold vlG; omega
  exact key _
theorem nil_len (hI : InvD S) : (([] : List Int).length : Int) + (S 0).toNat = S 0 := by
  have := hI.1
  show ((0 : Nat) : Int) + _ = _
  omega
theorem most_G (hI : InvD S) (hC : InvC S) {b by0 : Int} (hb : bbOK b by0) (f : Nat → Int) : (foldG (vlG S b) (cmp (okB S (alW S)) (S 0).toNat []) (0, 0, f)).1 = 1 ∧ (0 ≤ (bestT S by0).1 ∧ (bestT S by0).1 ≤ 7) ∧ (-7000 ≤ (bestT S by0).2.1 ∧ (bestT S by0).2.1 ≤ 7000) ∧ (foldG (vlG S b) (cmp (okB S (alW S)) (S 0).toNat []) (0, 0, f)).2.1 = b * (bestT S by0).1 + (bestT S by0).2.1 ∧ ∀ k : Nat, (k : Int) < S 0 → (foldG (vlG S b) (cmp (okB S (alW S)) (S 0).toNat []) (0, 0, f)).2.2 k = (bestT S by0).2.2 k := by
  have hD := hI.1
  have e : cmp (okB S (alW S)) (S 0).toNat [] = cmp (okW S (wideS S)) (S 0).toNat [] := cmp_ext (D := S 0) (fun u p _ hl h0 h1 => okW_B hI hl ⟨h0, h1⟩) _ _ okL_nil (nil_len hI)
  rw [e]
  have h1 : (foldG (vlG S b) (cmp (okW S (wideS S)) (S 0).toNat []) (0, 0, f)).1 = 1 := by
    rw [foldG_V, foldV_b2]
    exact b2_t (cmpW_ne _ _)
  have r : RelT b (S 0) (foldG (vlG S b) (cmp (okW S (wideS S)) (S 0).toNat []) (0, 0, f)) (bestT S by0) := fold_rel (D := S 0) hb (val := scoreL (vlG S b)) (m := manyL) (s := scoreL (goodS S)) _ (fun u hu => by
    have hl := cmp_len _ _ u hu
    have hl2 : u.length ≤ 7 := by rw [hl]; show 0 + _ ≤ 7; omega
    have q := manyL_rng u
    exact ⟨scoreL_vlG b u, by omega, scoreL_rng hC hl2⟩) _ _ (Or.inl ⟨rfl, rfl⟩)
  rcases r with ⟨r, -⟩ | r
  · omega
  · exact ⟨h1, r.2.1, r.2.2.1, r.2.2.2.1, r.2.2.2.2⟩
theorem all_G (hI : InvD S) {wd st : Int} (hst : 0 ≤ st ∧ st ≤ 15) (f : Nat → Int) : (foldG (fun _ _ => 0) (cmp (okB S (alA S wd st)) (S 0).toNat []) (0, 0, f)).1 = b2 (allIn S wd st) := by
  have e : cmp (okB S (alA S wd st)) (S 0).toNat [] = cmp (okA S wd st) (S 0).toNat [] := cmp_ext (D := S 0) (fun u p _ hl h0 h1 => okA_B hI hst hl ⟨h0, h1⟩) _ _ okL_nil (nil_len hI)
  rw [e, foldG_V, foldV_b2]
  rfl
theorem order_G (hI : InvD S) (hC : InvC S) (f : Nat → Int) : (0 ≤ (orderT S).1 ∧ (orderT S).1 ≤ 7) ∧ (-7000 ≤ (orderT S).2.1 ∧ (orderT S).2.1 ≤ 7000) ∧ (foldV (valO S) (cmpD (S 0).toNat okO (S 0).toNat []) (0, 0, f)).2.1 = 100000 * (orderT S).1 + (orderT S).2.1 ∧ ∀ k : Nat, (k : Int) < S 0 → (foldV (valO S) (cmpD (S 0).toNat okO (S 0).toNat []) (0, 0, f)).2.2 k = (orderT S).2.2 k := by
  have hD := hI.1
  have h1 : (foldV (valO S) (cmpD (S 0).toNat okO (S 0).toNat []) (0, 0, f)).1 = 1 := by
    rw [foldV_b2]
    exact b2_t (cmpO_ne _ _ (by simp))
  have r : RelT 100000 (S 0) (foldV (valO S) (cmpD (S 0).toNat okO (S 0).toNat []) (0, 0, f)) (orderT S) := fold_rel (D := S 0) (by0 := 1) (Or.inl ⟨rfl, rfl⟩) (val := valO S) (m := fun u => (tkL S u).2.1) (s := fun u => (tkL S u).2.2) _ (fun u hu => by
    have hl := cmpD_len _ _ u hu
    have hl2 : u.length ≤ 7 := by rw [hl]; show 0 + _ ≤ 7; omega
    obtain ⟨-, -, q3, q4⟩ := tkL_rng hC u
    exact ⟨rfl, by omega, by omega⟩) _ _ (Or.inl ⟨rfl, rfl⟩)
  rcases r with ⟨r, -⟩ | r
  · omega
  · exact ⟨r.2.1, r.2.2.1, r.2.2.2.1, r.2.2.2.2⟩
theorem line_G (hI : InvD S) (hC : InvC S) : (0 ≤ (tkN S (S 0).toNat).2.1 ∧ (tkN S (S 0).toNat).2.1 ≤ 7) ∧ (-7000 ≤ (tkN S (S 0).toNat).2.2 ∧ (tkN S (S 0).toNat).2.2 ≤ 7000) := by
  have hD := hI.1
  obtain ⟨-, -, h3, h4⟩ := tkN_rng hC (S 0).toNat
  omega
/-! the fewest moves -/
theorem cost_eq {n : Int} : ∀ (d : Nat) (u : List Int), scoreL (vlM S n) u = - costL S n u → ∀ w ∈ cmp (okM S (wideS S) n) d u, scoreL (vlM S n) w = - costL S n w
  | 0, u, hu, w, h => by
    have e : w = u := List.mem_singleton.mp h
    rw [e]
    exact hu
  | d + 1, u, hu, w, h => by
    rw [cmp] at h
    refine cmpP_all (Q := fun w => scoreL (vlM S n) w = - costL S n w) 5 (fun p p0 p1 hok w hw => ?_) w h
    refine cost_eq d (u ++ [p]) ?_ w hw
    rw [scoreL_app, costL_app, hu]
    unfold vlM
    by_cases c : (u.length : Int) ≠ n ∧ S (42 + (u.length : Int)).toNat = 4
    · have e4 := hok.1 c
      rw [if_pos e4, b2_f (fun h9 => h9.2.1 c.2)]
      omega
    · have r := hok.2 c
      have hr := r.1
      rw [if_neg (by omega)]
      by_cases c2 : (u.length : Int) ≠ n ∧ S (42 + (u.length : Int)).toNat ≠ 4
      · rw [if_pos c2]
        by_cases c3 : p = S (42 + (u.length : Int)).toNat
        · rw [if_pos c3, b2_f (fun h9 => h9.2.2 c3)]; omega
        · rw [if_neg c3, b2_t ⟨c2.1, c2.2, c3⟩]; omega
      · rw [if_neg c2, b2_f (fun h9 => c2 ⟨h9.1, h9.2.1⟩)]; omega
theorem fold_min {val c : List Int → Int} : ∀ (L : List (List Int)) (t : BT) (m : Int), (∀ w ∈ L, val w = - c w ∧ 0 ≤ c w ∧ c w ≤ 7) → ((t.1 = 0 ∧ m = 99) ∨ (t.1 = 1 ∧ t.2.1 = -m ∧ 0 ≤ m ∧ m ≤ 7)) → (((foldV val L t).1 = 0 ∧ minL c L m = 99) ∨ ((foldV val L t).1 = 1 ∧ (foldV val L t).2.1 = - minL c L m ∧ 0 ≤ minL c L m ∧ minL c L m ≤ 7))
  | [], _, _, _, h => h
  | u :: L, t, m, hL, h => by
    have q := hL u List.mem_cons_self
    refine fold_min L (keepV val t u) (minK c m u) (fun w hw => hL w (List.mem_cons_of_mem _ hw)) ?_
    unfold keepV minK
    by_cases k : t.1 = 0 ∨ t.2.1 < val u
    · rw [iteP_t k, if_pos (by omega)]
      exact Or.inr ⟨rfl, q.1, q.2.1, q.2.2⟩
    · have k1 : ¬ t.1 = 0 := fun h9 => k (Or.inl h9)
      have k2 : ¬ t.2.1 < val u := fun h9 => k (Or.inr h9)
      rw [iteP_f k, if_neg (by omega)]
      exact h
theorem moved_G (hI : InvD S) {n : Int} (f : Nat → Int) : ((foldG (vlM S n) (cmp (okB S (alM S n)) (S 0).toNat []) (0, 0, f)).1 = 0 ∧ minL (costL S n) (cmp (okM S (wideS S) n) (S 0).toNat []) 99 = 99) ∨ ((foldG (vlM S n) (cmp (okB S (alM S n)) (S 0).toNat []) (0, 0, f)).1 = 1 ∧ (foldG (vlM S n) (cmp (okB S (alM S n)) (S 0).toNat []) (0, 0, f)).2.1 = - minL (costL S n) (cmp (okM S (wideS S) n) (S 0).toNat []) 99 ∧ 0 ≤ minL (costL S n) (cmp (okM S (wideS S) n) (S 0).toNat []) 99 ∧ minL (costL S n) (cmp (okM S (wideS S) n) (S 0).toNat []) 99 ≤ 7) := by
  have hD := hI.1
  have e : cmp (okB S (alM S n)) (S 0).toNat [] = cmp (okM S (wideS S) n) (S 0).toNat [] := cmp_ext (D := S 0) (fun u p _ hl h0 h1 => okM_B hI hl ⟨h0, h1⟩) _ _ okL_nil (nil_len hI)
  rw [e, foldG_V]
  refine fold_min _ _ 99 (fun w hw => ?_) (Or.inl ⟨rfl, rfl⟩)
  have hl := cmp_len _ _ w hw
  have hl2 : w.length ≤ 7 := by rw [hl]; show 0 + _ ≤ 7; omega
  have q := costL_rng (S := S) (name := n) w
  exact ⟨cost_eq _ [] rfl w hw, by omega, by omega⟩
/-! how wide it would have to be -/
theorem cmp_mono {ok ok' : List Int → Int → Prop} (h : ∀ u p, ok u p → ok' u p) : ∀ (d : Nat) (u : List Int), cmp ok d u ≠ [] → cmp ok' d u ≠ []
  | 0, _, _ => by simp [cmp]
  | d + 1, u, hne => by
    intro he
    rw [cmp] at he hne
    refine hne (cmpP_none 5 (fun p h0 h1 => ?_))
    by_cases k : ok u p
    · refine Or.inr (Classical.byContradiction fun h9 => ?_)
      exact cmpP_ne h0 (h u p k) (cmp_mono h d (u ++ [p]) h9) 5 h1 he
    · exact Or.inl k
theorem allIn_mono {w w' st : Int} (hw : w ≤ w') (h : allIn S w st) : allIn S w' st := by
  refine cmp_mono (fun u p k => ?_) _ _ h
  obtain ⟨k1, k2, k3, k4⟩ := k
  unfold fitsS at k3
  refine ⟨k1, k2, ?_, k4⟩
  unfold fitsS
  exact ⟨⟨k3.1.1, k3.1.2.1, k3.1.2.2.1, by have := k3.1.2.2.2; omega⟩, k3.2⟩
theorem frU_no {P : Int → Prop} : ∀ (k : Nat) (lo : Int), (∀ v : Int, lo ≤ v → v < lo + k → ¬ P v) → frU P lo k = -5
  | 0, _, _ => rfl
  | k + 1, lo, h => by
    rw [frU, iteP_f (h lo (by omega) (by omega))]
    exact frU_no k (lo + 1) (fun v h0 h1 => h v (by omega) (by omega))
theorem room_no (h : ¬ allIn S 30 15) : roomS S = -5 := frU_no 21 10 (fun v h0 h1 h9 => h (allIn_mono (by omega) h9))
end MT
