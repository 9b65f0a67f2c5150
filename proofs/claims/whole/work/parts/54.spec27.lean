/-! LISTS OF NAMES: what stays -/
theorem lsp_set {g : GG} {tl : va_W} {el e k : Nat} {D : Int} {nm : Nat → Nat} {x y : va_E} (h : LsP g tl el D nm) (hk : tl[k]? = some (e, x)) (hne : el ≠ e) : LsP g (tl.set k (e, y)) el D nm := by
  rcases h with h | ⟨h0, j, f, h1, h2⟩
  · exact Or.inl h
  · refine Or.inr ⟨h0, j, f, ?_, h2⟩
    by_cases e1 : k = j
    · subst e1
      rw [hk] at h1
      have q := congrArg Prod.fst (Option.some.inj h1)
      exact absurd q.symm hne
    · rw [List.getElem?_set_ne e1]
      exact h1
theorem lsp_app {g : GG} {tl M : va_W} {el : Nat} {D : Int} {nm : Nat → Nat} (h : LsP g tl el D nm) : LsP g (tl ++ M) el D nm := by
  rcases h with h | ⟨h0, j, f, h1, h2⟩
  · exact Or.inl h
  · refine Or.inr ⟨h0, j, f, ?_, h2⟩
    rw [List.getElem?_append_left (List.getElem?_eq_some_iff.mp h1).1]
    exact h1
theorem lsp_ext {g : GG} {tl : va_W} {el : Nat} {D : Int} {nm nm' : Nat → Nat} (h : LsP g tl el D nm) (he : ∀ i : Nat, (i : Int) < D → nm i = nm' i) : LsP g tl el D nm' := by
  rcases h with h | ⟨h0, j, f, h1, h2⟩
  · exact Or.inl h
  · exact Or.inr ⟨h0, j, f, h1, fun i hi => by rw [h2 i hi, he i hi]⟩
/-- the names stay -/
def TlK (tl tl' : va_W) : Prop := ∀ (k a : Nat) (o : Nat × List Value), tl[k]? = some (a, .inr o) → tl'[k]? = some (a, .inr o)
theorem TlK.rf (tl : va_W) : TlK tl tl := fun _ _ _ h => h
theorem TlK.tr {a b c : va_W} (h : TlK a b) (k : TlK b c) : TlK a c := fun i q o e => k i q o (h i q o e)
theorem tlk_set {tl : va_W} {k e : Nat} {x y : ClassId × vp_A} (hk : tl[k]? = some (e, .inl x)) : TlK tl (tl.set k (e, .inl y)) := by
  intro j a o h
  by_cases e1 : k = j
  · subst e1; rw [hk] at h; cases h
  · rw [List.getElem?_set_ne e1]; exact h
theorem tlk_app (tl M : va_W) : TlK tl (tl ++ M) := by
  intro j a o h
  rw [List.getElem?_append_left (List.getElem?_eq_some_iff.mp h).1]
  exact h
theorem nmp_k {tr : Nat} {tl tl' : va_W} {S : Nat → Int} {nm : Nat → Nat} (h : NmP tr tl S nm) (hk : TlK tl tl') : NmP tr tl' S nm := by
  intro i h0 h1
  obtain ⟨k, hq⟩ := h i h0 h1
  exact ⟨k, hk k _ _ hq⟩
theorem lsp_set_own {g : GG} {tl : va_W} {e k : Nat} {D : Int} {nm : Nat → Nat} {x : va_E} {f : Nat → Option Nat} (h0 : e ≠ g.2.1 3) (hk : tl[k]? = some (e, x)) (hf : ∀ i : Nat, (i : Int) < D → f i = some (nm i)) : LsP g (tl.set k (e, obA g 10 f)) e D nm :=
  Or.inr ⟨h0, k, f, List.getElem?_set_self (List.getElem?_eq_some_iff.mp hk).1, hf⟩
/-- a fresh row of references: unlike all others, and unlike the empty one -/
theorem fresh_ne {g : GG} {A : Nat → Prop} {H0 H : Heap} {locs : List Loc} {ws : va_W} {r : Nat} {x : va_E} (hS : St g A H0 H locs (ws ++ [(r, x)])) {k e : Nat} {y : va_E} (hk : ws[k]? = some (e, y)) : e ≠ r := by
  intro h
  have hl := (List.getElem?_eq_some_iff.mp hk).1
  have q := hS.2.1.1 k ws.length (e, y) (r, x) (by rw [List.getElem?_append_left hl]; exact hk) (by rw [List.getElem?_append_right (Nat.le_refl _), Nat.sub_self]; rfl) h
  omega
theorem fresh_in {g : GG} {A : Nat → Prop} {H0 H : Heap} {locs : List Loc} {ws : va_W} {r : Nat} {x : va_E} (hS : St g A H0 H locs (ws ++ [(r, x)])) : A r :=
  hS.2.1.2 ws.length (r, x) (by rw [List.getElem?_append_right (Nat.le_refl _), Nat.sub_self]; rfl)
theorem fresh_df {g : GG} {A : Nat → Prop} {s : State} {H : Heap} {locs : List Loc} {ws : va_W} {r : Nat} {x : va_E} (hK : KW g A s) (hS : St g A s.heap H locs (ws ++ [(r, x)])) : r ≠ g.2.1 3 := by
  intro h
  have h1 := fresh_in hS
  rw [h] at h1
  exact va_T.out hK.2.1.2.1 h1
/-! what a place tells but where others are laid -/
def agr49 (S T : Nat → Int) : Prop := ∀ j : Nat, j < 42 ∨ 49 ≤ j → T j = S j
theorem agr_len {S T : Nat → Int} (h : agr49 S T) {n : Int} (hn : 0 ≤ n ∧ n < 7) : lenS T n = lenS S n := by
  unfold lenS
  rw [h _ (by omega), h _ (by omega), h _ (by omega)]
theorem agr_row {S T : Nat → Int} (h : agr49 S T) {n p : Int} (hn : 0 ≤ n ∧ n < 7) : rowS T n p = rowS S n p := by
  unfold rowS
  rw [h _ (by omega)]
theorem agr_first {S T : Nat → Int} (h : agr49 S T) {n p : Int} (hn : 0 ≤ n ∧ n < 7) : firstS T n p = firstS S n p := by
  unfold firstS
  rw [h _ (by omega), agr_len h hn]
theorem agr_isAt {S T : Nat → Int} (h : agr49 S T) {n p c r : Int} (hn : 0 ≤ n ∧ n < 7) : isAtS T n p c r ↔ isAtS S n p c r := by
  unfold isAtS
  rw [agr_row h hn, agr_first h hn, agr_len h hn]
theorem agr_both {S T : Nat → Int} (h : agr49 S T) {a p b q : Int} (ha : 0 ≤ a ∧ a < 7) (hb : 0 ≤ b ∧ b < 7) : bothS T a p b q = bothS S a p b q := by
  unfold bothS
  rw [agr_row h ha, agr_row h hb, agr_len h ha, agr_first h ha]
  have e : ∀ n : Nat, cntB (fun k => isAtS T b q (firstS S a p + k) (rowS S b q)) n = cntB (fun k => isAtS S b q (firstS S a p + k) (rowS S b q)) n := fun n => cntB_ext (fun i _ _ => agr_isAt h hb)
  rw [e]
theorem agr_fits {S T : Nat → Int} (h : agr49 S T) (hD : 0 ≤ S 0 ∧ S 0 ≤ 7) {n p w : Int} (hn : 0 ≤ n ∧ n < 7) (hp : 0 ≤ p ∧ p ≤ 3) : fitsS T n p w ↔ fitsS S n p w := by
  have h0 := h 0 (by omega)
  unfold fitsS mayS allB
  rw [h0, h (7 + n).toNat (by omega), h (49 + 4 * n + p).toNat (by omega), agr_row h hn, agr_first h hn, agr_len h hn]
  constructor
  · intro q
    exact ⟨q.1, fun d a b k => q.2 d a b (by rw [h (28 + d).toNat (by omega), h (35 + d).toNat (by omega)]; exact (agr_isAt h hn).mpr k)⟩
  · intro q
    exact ⟨q.1, fun d a b k => q.2 d a b (by rw [h (28 + d).toNat (by omega), h (35 + d).toNat (by omega)] at k; exact (agr_isAt h hn).mp k)⟩
theorem agr_wide {S T : Nat → Int} (h : agr49 S T) (hH : InvH S) : wideS T = wideS S := by
  have h1 := hH.1
  unfold wideS tellsS
  rw [h 6 (by omega)]
  split
  · rfl
  · rw [h _ (by omega)]
theorem agr_free {S T : Nat → Int} (h : agr49 S T) (hD : 0 ≤ S 0 ∧ S 0 ≤ 7) (hH : InvH S) {w w' : Int → Int} (hw : ∀ k : Int, 0 ≤ k → k < S 0 → w' k = w k) {n p : Int} (hn : 0 ≤ n ∧ n < 7) (hp : 0 ≤ p ∧ p ≤ 3) : freeW T w' n p ↔ freeW S w n p := by
  unfold freeW
  rw [agr_wide h hH, agr_fits h hD hn hp, h 0 (by omega)]
  unfold allB
  constructor
  · intro q
    refine ⟨q.1, fun k a b => ?_⟩
    have r := q.2 k a b
    dsimp only at r
    rw [hw k a b, agr_both h hn (by omega)] at r
    exact r
  · intro q
    refine ⟨q.1, fun k a b => ?_⟩
    show k = n ∨ w' k = 4 ∨ bothS T n p k (w' k) = 0
    rw [hw k a b, agr_both h hn (by omega)]
    exact q.2 k a b
theorem plan_agr {S : Nat → Int} (hI : InvD S) (hL : InvL S) {k : Nat} (h : (k : Int) ≤ S 3) : agr49 S (planS S k) := fun j hj => planS_same hI hL k h j hj
theorem plan_free {S : Nat → Int} (hI : InvD S) (hL : InvL S) (hH : InvH S) {k : Nat} (h : (k : Int) ≤ S 3) {n p : Int} (hn : 0 ≤ n ∧ n < S 0) (hp : 0 ≤ p ∧ p ≤ 3) : freeS (planS S k) n p ↔ freeW S (fun j => planS S k (42 + j).toNat) n p := by
  have hD := hI.1
  unfold freeS
  exact agr_free (plan_agr hI hL h) hD hH (fun _ _ _ => rfl) (by omega) hp
theorem plan_rng {S : Nat → Int} (hI : InvD S) (hL : InvL S) {k : Nat} (h : (k : Int) ≤ S 3) {j : Int} (hj : 0 ≤ j ∧ j < S 0) : 0 ≤ planS S k (42 + j).toNat ∧ planS S k (42 + j).toNat ≤ 4 := by
  have q := planS_I hI hL k h
  have e := planS_same hI hL k h 0 (by omega)
  exact (q.2 j hj.1 (by rw [e]; exact hj.2)).2.2.2.2.2.1
