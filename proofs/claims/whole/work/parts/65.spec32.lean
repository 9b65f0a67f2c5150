/-! THE READER -/
/-- what has been told, as the class keeps it, over what stood there -/
def cdA (f0 : Nat → Int) (L : List Int) : Nat → Int := fun i => if i < L.length then cvS (L.getD i 0) else f0 i
theorem cdA_0 (f0 : Nat → Int) : cdA f0 [] = f0 := by
  funext i
  unfold cdA
  rw [if_neg (by simp)]
theorem cdA_s (f0 : Nat → Int) (L : List Int) (y : Int) : va_up (cdA f0 L) L.length (cvS y) = cdA f0 (L ++ [y]) := by
  funext i
  unfold cdA
  rw [List.length_append, List.length_singleton]
  rcases (show i < L.length ∨ i = L.length ∨ L.length < i by omega) with h | h | h
  · rw [up_ne _ _ (by omega), if_pos h, if_pos (by omega), List.getD_eq_getElem?_getD, List.getD_eq_getElem?_getD, List.getElem?_append_left h]
  · subst h
    rw [up_same, if_pos (by omega), List.getD_eq_getElem?_getD, List.getElem?_append_right (Nat.le_refl _), Nat.sub_self]
    rfl
  · rw [up_ne _ _ (by omega), if_neg (by omega), if_neg (by omega)]
def RdW (g : GG) (ad : Nat → Nat) (F : Nat → Int) (A : Nat → Nat → Int) (E : Nat → Nat) (tl : va_W) (wd rv nu : Int) (t : PT) : va_W := CW g ad (va_up (va_up (va_up (va_up (va_up F 40 (t.2.2.length : Int)) 67 t.2.1) 68 wd) 69 rv) 70 nu) (va_up A 41 (cdA (A 41) t.2.2)) E tl
def TapI (F : Nat → Int) (A : Nat → Nat → Int) (B : Nat → Int) (Z : Int) : Prop := F 4 = Z ∧ ∀ q : Int, 0 ≤ q → q < Z → A 5 q.toNat = tapS B q
theorem rdw_add {g : GG} {ad : Nat → Nat} {F : Nat → Int} {A : Nat → Nat → Int} {E : Nat → Nat} {tl : va_W} {wd rv nu x y : Int} {t : PT} (h : x = cvS y) : ((RdW g ad F A E tl wd rv nu t).set 41 (ad 41, .inl (g.2.1 0, 100, .inl (aI (va_up (cdA (A 41) t.2.2) ((t.2.2.length : Int)).toNat x))))).set 40 (ad 40, .inr (7, [.ref (ad 41), .int (iI ((t.2.2.length : Int) + 1))])) = RdW g ad F A E tl wd rv nu (t.1, t.2.1, t.2.2 ++ [y]) := by
  rw [h, Int.toNat_natCast, cdA_s]
  have e : (t.2.2.length : Int) + 1 = ((t.2.2 ++ [y]).length : Int) := by rw [List.length_append, List.length_singleton]; omega
  rw [e]
  rfl
theorem pt_eta {t : PT} {a : Int} (h : t.1 = a) : (a, t.2.1, t.2.2) = t := by rw [← h]
theorem b2_p {P Q : Prop} (h : P ↔ Q) : iI (b2 P) = iI (b2 Q) := by rw [b2_ext h]
theorem must_0 {B : Nat → Int} {Z c : Int} {t : PT} (h : t.1 = 0) (h2 : hereT B Z t.2.1 = c) : mustT B Z c t = (0, t.2.1 + 1, t.2.2) := if_neg (by intro h9; rcases h9 with h9 | h9; { exact h9 h }; { exact h9 h2 })
theorem must_1 {B : Nat → Int} {Z c : Int} {t : PT} (h2 : hereT B Z t.2.1 ≠ c) : mustT B Z c t = (1, t.2.1, t.2.2) := if_pos (Or.inr h2)
theorem must_w {B : Nat → Int} {Z c : Int} {t : PT} (h : t.1 = 1) : mustT B Z c t = t := by
  unfold mustT
  rw [if_pos (Or.inl (by omega))]
  exact pt_eta h
theorem spell_w {B : Nat → Int} {Z : Int} {i : Nat} {t : PT} {k : Int} (h0 : 0 ≤ k) (hk : k < ((sLen.getD i 0 : Nat) : Int)) (h : (spellT B Z i (k + 1).toNat t).1 = 1) : spellT B Z i (sLen.getD i 0) t = spellT B Z i (k + 1).toNat t := by
  have key : ∀ n : Nat, spellT B Z i ((k + 1).toNat + n) t = spellT B Z i (k + 1).toNat t := by
    intro n
    induction n with
    | zero => rfl
    | succ n ih =>
      show mustT B Z (chS i ((k + 1).toNat + n)) (spellT B Z i ((k + 1).toNat + n) t) = _
      rw [ih, must_w h]
  have e : sLen.getD i 0 = (k + 1).toNat + (sLen.getD i 0 - (k + 1).toNat) := by omega
  rw [e]
  exact key _
theorem fig_1 {B : Nat → Int} {Z : Int} {t : PT} (h : ¬ (48 ≤ hereT B Z t.2.1 ∧ hereT B Z t.2.1 ≤ 57)) : figT B Z t = (1, t.2.1, t.2.2) := iteP_f (fun h9 => h h9.2)
theorem fig_2 {B : Nat → Int} {Z : Int} {t : PT} (h0 : t.1 = 0) (h : 48 ≤ hereT B Z t.2.1 ∧ hereT B Z t.2.1 ≤ 57) (h2 : 48 < hereT B Z t.2.1 ∧ 48 ≤ hereT B Z (t.2.1 + 1) ∧ hereT B Z (t.2.1 + 1) ≤ 57) : figT B Z t = (0, t.2.1 + 2, t.2.2) ∧ figV B Z t = 10 * (hereT B Z t.2.1 - 48) + hereT B Z (t.2.1 + 1) - 48 := by
  unfold figT figV
  rw [iteP_t ⟨h0, h⟩, iteP_t ⟨h2.1, h2.2⟩, iteP_t ⟨h0, h⟩, iteP_t ⟨h2.1, h2.2⟩]
  exact ⟨rfl, rfl⟩
theorem fig_3 {B : Nat → Int} {Z : Int} {t : PT} (h0 : t.1 = 0) (h : 48 ≤ hereT B Z t.2.1 ∧ hereT B Z t.2.1 ≤ 57) (h2 : ¬ (48 < hereT B Z t.2.1 ∧ 48 ≤ hereT B Z (t.2.1 + 1) ∧ hereT B Z (t.2.1 + 1) ≤ 57)) : figT B Z t = (0, t.2.1 + 1, t.2.2) ∧ figV B Z t = hereT B Z t.2.1 - 48 := by
  have h3 : ¬ (48 < hereT B Z t.2.1 ∧ digit (hereT B Z (t.2.1 + 1))) := fun h9 => h2 ⟨h9.1, h9.2⟩
  unfold figT figV
  rw [iteP_t ⟨h0, h⟩, iteP_f h3, iteP_t ⟨h0, h⟩, iteP_f h3]
  exact ⟨rfl, rfl⟩
theorem emit_0 {x : Int} {t : PT} (h : t.1 = 0) : emitT x t = (t.1, t.2.1, t.2.2 ++ [x]) := if_neg (by omega)
theorem emit_1 {x : Int} {t : PT} (h : t.1 ≠ 0) : emitT x t = t := if_pos h
theorem cvS_neg {v : Int} (h : 0 ≤ v ∧ v ≤ 99) : 10000 + v = cvS (-10 - v) ∧ 20000 + v = cvS (-200 - v) := by
  unfold cvS
  rw [if_neg (by omega), if_neg (by omega), if_neg (by omega), if_neg (by omega), if_pos (by omega), if_neg (by omega), if_neg (by omega), if_neg (by omega), if_neg (by omega), if_neg (by omega)]
  omega
theorem cvS_test {a c v : Int} (ha : 0 ≤ a ∧ a ≤ 5) (hc : 0 ≤ c ∧ c ≤ 2) (hv : 0 ≤ v ∧ v ≤ 99) : (1000 + ((a * 3) + c) * 100) + v = cvS (a + 8 * c + 32 * v) := by
  unfold cvS
  rw [if_pos (by omega), show (a + 8 * c + 32 * v) % 8 = a by omega, show (a + 8 * c + 32 * v) / 8 % 4 = c by omega, show (a + 8 * c + 32 * v) / 32 = v by omega]
