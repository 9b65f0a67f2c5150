/-! THE SHEET, WRITTEN: what stays of it -/
section SH
variable {g : GG} {tr : Nat} {tl : va_W} {S T : Nat → Int} {nm : Nat → Nat}
theorem sh1 (h : ∀ j : Nat, (j = 5 ∨ (124 ≤ j ∧ j < 224)) → T j = S j) (h5 : S 5 ≤ 100) {tps : Int} {tp : Nat → Int} (q : tps = S 5 ∧ ∀ i : Int, 0 ≤ i → i < S 5 → tp i.toNat = tapS S i) : tps = T 5 ∧ ∀ i : Int, 0 ≤ i → i < T 5 → tp i.toNat = tapS T i := by
  have e := h 5 (Or.inl rfl)
  refine ⟨by rw [e]; exact q.1, fun i h0 h1 => ?_⟩
  rw [e] at h1
  have r := q.2 i h0 h1
  unfold tapS at r ⊢
  rw [h _ (by omega)]
  exact r
theorem code_of (h : ∀ j : Nat, (j = 6 ∨ 224 ≤ j) → T j = S j) (hH : InvH S) : manyS T = manyS S ∧ (∀ i : Nat, (i : Int) < manyS S → codeS T i = codeS S i) ∧ wideS T = wideS S ∧ riverS T = riverS S := by
  have h6 := h 6 (Or.inl rfl)
  have h0 := hH.1
  have ht : ∀ w z : Int, 224 ≤ w - 1 + 1 → tellsS T w z = tellsS S w z := by
    intro w z hw
    unfold tellsS
    rw [h6]
    split
    · rfl
    · rw [h _ (by omega)]
  refine ⟨ht 234 0 (by decide), ?_, ?_, ht 229 99 (by decide)⟩
  · intro i hi
    have h7 : S 6 ≠ -1 := by
      intro h8
      unfold manyS tellsS at hi
      rw [if_pos h8] at hi
      omega
    unfold codeS
    rw [h6, h _ (by omega)]
  · unfold wideS
    rw [ht 224 24 (by decide)]
theorem sh2 (h : ∀ j : Nat, (j = 6 ∨ 224 ≤ j) → T j = S j) (hH : InvH S) {cds : Int} {cd : Nat → Int} (q : cds = manyS S ∧ ∀ i : Int, 0 ≤ i → i < manyS S → cd i.toNat = cvS (codeS S i.toNat)) : cds = manyS T ∧ ∀ i : Int, 0 ≤ i → i < manyS T → cd i.toNat = cvS (codeS T i.toNat) := by
  obtain ⟨e1, e2, -⟩ := code_of h hH
  rw [e1]
  exact ⟨q.1, fun i h0 h1 => by rw [e2 _ (by omega)]; exact q.2 i h0 h1⟩
theorem sh3 (h : ∀ j : Nat, (j = 0 ∨ (7 ≤ j ∧ j < 42)) → T j = S j) (hD : 0 ≤ S 0 ∧ S 0 ≤ 7) {ns : Int} {el : Nat} (q : ns = S 0 ∧ LsP g tl el (S 0) nm ∧ NmP tr tl S nm) : ns = T 0 ∧ LsP g tl el (T 0) nm ∧ NmP tr tl T nm := by
  rw [h 0 (Or.inl rfl)]
  refine ⟨q.1, q.2.1, fun i h0 h1 => ?_⟩
  rw [h 0 (Or.inl rfl)] at h1
  obtain ⟨k, r⟩ := q.2.2 i h0 h1
  refine ⟨k, ?_⟩
  rw [r]
  unfold nmE
  rw [h _ (by omega), h _ (by omega), h _ (by omega), h _ (by omega), h _ (by omega)]
theorem sh4 (h : ∀ j : Nat, (j = 0 ∨ (42 ≤ j ∧ j < 49)) → T j = S j) (hD : 0 ≤ S 0 ∧ S 0 ≤ 7) {wh : Nat → Int} (q : ∀ k : Int, 0 ≤ k → k < S 0 → wh k.toNat = S (42 + k).toNat) : ∀ k : Int, 0 ≤ k → k < T 0 → wh k.toNat = T (42 + k).toNat := by
  intro k h0 h1
  rw [h 0 (Or.inl rfl)] at h1
  rw [h _ (by omega)]
  exact q k h0 h1
theorem sh5 (h : ∀ j : Nat, (j = 0 ∨ (49 ≤ j ∧ j < 77)) → T j = S j) {rw_ : Nat → Int} (q : ∀ i p : Int, 0 ≤ i → i < 7 → 0 ≤ p → p ≤ 3 → rw_ ((i * 4) + p).toNat = if i < S 0 then S (49 + 4 * i + p).toNat else 0) : ∀ i p : Int, 0 ≤ i → i < 7 → 0 ≤ p → p ≤ 3 → rw_ ((i * 4) + p).toNat = if i < T 0 then T (49 + 4 * i + p).toNat else 0 := by
  intro i p h0 h1 h2 h3
  rw [h 0 (Or.inl rfl), h _ (by omega)]
  exact q i p h0 h1 h2 h3
theorem sh6 (h : ∀ j : Nat, (j = 2 ∨ (77 ≤ j ∧ j < 92)) → T j = S j) (h2 : S 2 ≤ 5) {sns : Int} {sn : Nat → Int} (q : sns = 3 * S 2 ∧ ∀ k : Int, 0 ≤ k → k < S 2 → sn (3 * k).toNat = S (77 + k).toNat ∧ sn ((3 * k) + 1).toNat = S (82 + k).toNat ∧ sn ((3 * k) + 2).toNat = S (87 + k).toNat) : sns = 3 * T 2 ∧ ∀ k : Int, 0 ≤ k → k < T 2 → sn (3 * k).toNat = T (77 + k).toNat ∧ sn ((3 * k) + 1).toNat = T (82 + k).toNat ∧ sn ((3 * k) + 2).toNat = T (87 + k).toNat := by
  rw [h 2 (Or.inl rfl)]
  refine ⟨q.1, fun k h0 h1 => ?_⟩
  rw [h _ (by omega), h _ (by omega), h _ (by omega)]
  exact q.2 k h0 h1
theorem sh7 (h : ∀ j : Nat, (j = 3 ∨ (92 ≤ j ∧ j < 108)) → T j = S j) (h3 : S 3 ≤ 8) {sns : Int} {sn : Nat → Int} (q : sns = 2 * S 3 ∧ ∀ k : Int, 0 ≤ k → k < S 3 → sn (2 * k).toNat = S (92 + k).toNat ∧ sn ((2 * k) + 1).toNat = S (100 + k).toNat) : sns = 2 * T 3 ∧ ∀ k : Int, 0 ≤ k → k < T 3 → sn (2 * k).toNat = T (92 + k).toNat ∧ sn ((2 * k) + 1).toNat = T (100 + k).toNat := by
  rw [h 3 (Or.inl rfl)]
  refine ⟨q.1, fun k h0 h1 => ?_⟩
  rw [h _ (by omega), h _ (by omega)]
  exact q.2 k h0 h1
theorem sh8 (h : ∀ j : Nat, (j = 4 ∨ (108 ≤ j ∧ j < 124)) → T j = S j) (h3 : S 4 ≤ 8) {sns : Int} {sn : Nat → Int} (q : sns = 2 * S 4 ∧ ∀ k : Int, 0 ≤ k → k < S 4 → sn (2 * k).toNat = S (108 + k).toNat ∧ sn ((2 * k) + 1).toNat = S (116 + k).toNat) : sns = 2 * T 4 ∧ ∀ k : Int, 0 ≤ k → k < T 4 → sn (2 * k).toNat = T (108 + k).toNat ∧ sn ((2 * k) + 1).toNat = T (116 + k).toNat := by
  rw [h 4 (Or.inl rfl)]
  refine ⟨q.1, fun k h0 h1 => ?_⟩
  rw [h _ (by omega), h _ (by omega)]
  exact q.2 k h0 h1
theorem sh9 (h1 : T 1 = S 1) (h : ∀ j : Nat, (j = 6 ∨ 224 ≤ j) → T j = S j) (hH : InvH S) {mp wd rv : Int} (q : mp = S 1 ∧ wd = wideS S ∧ rv = riverS S) : mp = T 1 ∧ wd = wideS T ∧ rv = riverS T := by
  obtain ⟨-, -, e3, e4⟩ := code_of h hH
  rw [h1, e3, e4]
  exact q
end SH
/-- what stands beside the sheet stays -/
def KpS (F F' : Nat → Int) (A A' : Nat → Nat → Int) : Prop := (∀ k : Nat, (k < 3 ∨ (21 ≤ k ∧ k < 39) ∨ (63 ≤ k ∧ k ≤ 66) ∨ k = 77 ∨ k = 78) → F' k = F k) ∧ ∀ k : Nat, (k < 3 ∨ (21 ≤ k ∧ k < 40)) → A' k = A k
theorem KpS.rf (F : Nat → Int) (A : Nat → Nat → Int) : KpS F F A A := ⟨fun _ _ => rfl, fun _ _ => rfl⟩
theorem KpS.tr {F F' F2 : Nat → Int} {A A' A2 : Nat → Nat → Int} (h : KpS F F' A A') (k : KpS F' F2 A' A2) : KpS F F2 A A2 := ⟨fun j hj => (k.1 j hj).trans (h.1 j hj), fun j hj => (k.2 j hj).trans (h.2 j hj)⟩
theorem KpS.tk {g : GG} {ad : Nat → Nat} {F F' : Nat → Int} {A A' : Nat → Nat → Int} {E : Nat → Nat} {tl : va_W} {T : Nat → Int} {nt : Nat → Nat} (h : KpS F F' A A') (q : TkW g ad F A E tl T nt) : TkW g ad F' A' E tl T nt := by
  unfold TkW at q ⊢
  rw [h.1 22 (by omega), h.1 24 (by omega), h.1 78 (by omega), h.1 31 (by omega), h.1 33 (by omega), h.1 35 (by omega), h.1 63 (by omega), h.1 64 (by omega), h.1 65 (by omega), h.2 23 (by omega), h.2 25 (by omega), h.2 28 (by omega), h.2 30 (by omega), h.2 32 (by omega), h.2 34 (by omega), h.2 36 (by omega)]
  exact q
