theorem must_ne {B : Nat → Int} {Z c : Int} {t u : PT} (hu : u = mustT B Z c t) (h0 : t.1 = 0) (h : u.1 ≠ 0) : hereT B Z t.2.1 ≠ c ∧ u = (1, t.2.1, t.2.2) := by
  have hne : hereT B Z t.2.1 ≠ c := by
    intro h2
    rw [hu, must_0 h0 h2] at h
    exact h rfl
  exact ⟨hne, by rw [hu]; exact must_1 hne⟩
theorem must_eq {B : Nat → Int} {Z c : Int} {t u : PT} (hu : u = mustT B Z c t) (h0 : t.1 = 0) (h : u.1 = 0) : hereT B Z t.2.1 = c ∧ u = (t.1, t.2.1 + 1, t.2.2) := by
  have he : hereT B Z t.2.1 = c := by
    apply Classical.byContradiction
    intro h2
    rw [hu, must_1 h2] at h
    exact absurd (show (1 : Int) = 0 from h) (by decide)
  exact ⟨he, by rw [hu, must_0 h0 he, h0]⟩
theorem rdw_g {g : GG} {ad : Nat → Nat} {F : Nat → Int} {A : Nat → Nat → Int} {E : Nat → Nat} {tl : va_W} {wd rv nu a b : Int} {q : Int} {L : List Int} : RdW g ad F A E tl wd rv nu (a, q, L) = RdW g ad F A E tl wd rv nu (b, q, L) := rfl
theorem pT_n0 {B : Nat → Int} {Z o : Int} {n : Nat} {t : PT} (h : 1 ≤ n) (h1 : t.1 = 0) (h2 : hereT B Z t.2.1 ≠ 33) (h3 : hereT B Z t.2.1 ≠ 40) : pT B Z n 0 o t = testT B Z t := by rw [pT_s0 h h1, if_neg h2, if_neg h3]
theorem pT_n5 {B : Nat → Int} {Z : Int} {n : Nat} {t : PT} (h : 1 ≤ n) (h1 : t.1 = 0) (h2 : hereT B Z t.2.1 = 33 ∨ hereT B Z t.2.1 = 40) : pT B Z n 0 5 t = (1, t.2.1, t.2.2) := by
  rw [pT_s0 h h1]
  rcases h2 with h2 | h2
  · rw [if_pos h2, if_pos rfl, if_pos rfl, pT_w _ _ _ _ (show (1 : Int) ≠ 0 by decide), emitT_w]
  · rw [if_neg (by omega), if_pos h2, if_pos rfl, if_pos rfl, pT_w _ _ _ _ (show (1 : Int) ≠ 0 by decide), must_w rfl]
theorem pT_nn {B : Nat → Int} {Z o : Int} {n : Nat} {t : PT} (h : 1 ≤ n) (h1 : t.1 = 0) (h2 : hereT B Z t.2.1 = 33) (ho : o ≠ 5) : pT B Z n 0 o t = emitT (-1) (pT B Z (n - 1) 0 (o + 1) (t.1, t.2.1 + 1, t.2.2)) := by
  rw [pT_s0 h h1, if_pos h2, if_neg ho, if_neg ho, h1]
theorem pT_np {B : Nat → Int} {Z o : Int} {n : Nat} {t : PT} (h : 1 ≤ n) (h1 : t.1 = 0) (h2 : hereT B Z t.2.1 = 40) (ho : o ≠ 5) : pT B Z n 0 o t = mustT B Z 41 (pT B Z (n - 1) 2 (o + 1) (t.1, t.2.1 + 1, t.2.2)) := by
  rw [pT_s0 h h1, if_neg (by omega), if_pos h2, if_neg ho, if_neg ho, h1]
