/-! WHAT HOLDS BETWEEN CALLS -/
def Inv (S : Nat → Int) : Prop := InvD S ∧ InvH S ∧ InvL S ∧ InvC S ∧ InvG S ∧ InvT S ∧ InvM S
section IV
variable {S T : Nat → Int}
theorem invD_of (h : ∀ j : Nat, (j = 0 ∨ (7 ≤ j ∧ j < 77)) → T j = S j) (hI : InvD S) : InvD T := by
  have hD := hI.1
  have e0 := h 0 (Or.inl rfl)
  refine ⟨by rw [e0]; exact hD, fun n h0 h1 => ?_⟩
  rw [e0] at h1
  have r := hI.2 n h0 h1
  rw [h (7 + n).toNat (by omega), h (14 + n).toNat (by omega), h (21 + n).toNat (by omega), h (28 + n).toNat (by omega), h (35 + n).toNat (by omega), h (42 + n).toNat (by omega)]
  refine ⟨r.1, r.2.1, r.2.2.1, r.2.2.2.1, r.2.2.2.2.1, r.2.2.2.2.2.1, fun p p0 p1 => ?_⟩
  rw [h (49 + 4 * n + p).toNat (by omega)]
  exact r.2.2.2.2.2.2 p p0 p1
theorem invL_of (h : ∀ j : Nat, (j = 2 ∨ j = 3 ∨ j = 4 ∨ (77 ≤ j ∧ j < 124)) → T j = S j) (h0 : S 0 ≤ T 0) (hL : InvL S) : InvL T := by
  obtain ⟨a, b, c, d, e, f⟩ := hL
  have e2 := h 2 (by omega)
  have e3 := h 3 (by omega)
  have e4 := h 4 (by omega)
  refine ⟨by rw [e2]; exact a, by rw [e3]; exact b, by rw [e4]; exact c, fun k k0 k1 => ?_, fun k k0 k1 => ?_, fun k k0 k1 => ?_⟩
  · rw [e2] at k1
    rw [h (77 + k).toNat (by omega), h (82 + k).toNat (by omega), h (87 + k).toNat (by omega)]
    exact d k k0 k1
  · rw [e3] at k1
    have r := e k k0 k1
    rw [h (92 + k).toNat (by omega), h (100 + k).toNat (by omega)]
    exact ⟨by omega, r.2⟩
  · rw [e4] at k1
    have r := f k k0 k1
    rw [h (108 + k).toNat (by omega), h (116 + k).toNat (by omega)]
    exact ⟨by omega, r.2⟩
theorem invCG_of (e1 : manyS T = manyS S) (e2 : ∀ i : Nat, (i : Int) < manyS S → codeS T i = codeS S i) (hC : InvC S) (hG : InvG S) : InvC T ∧ InvG T := by
  have hm := hC.1
  refine ⟨⟨by rw [e1]; exact hm, ?_, fun i hi => ?_⟩, fun i hi => ?_⟩
  · rw [e1, clS_ext (manyS S).toNat (fun i hi => e2 i (by omega))]
    exact hC.2.1
  · rw [e1] at hi
    rw [e2 i hi, depS_ext i (fun j hj => e2 j (by omega))]
    exact hC.2.2 i hi
  · rw [e1] at hi
    rw [e2 i hi, depS_ext i (fun j hj => e2 j (by omega))]
    exact hG i hi
theorem invH_of (h : ∀ j : Nat, (j = 6 ∨ 224 ≤ j) → T j = S j) (hH : InvH S) : InvH T := by
  have e6 := h 6 (Or.inl rfl)
  refine ⟨by rw [e6]; exact hH.1, fun h0 => ?_⟩
  rw [e6] at h0 ⊢
  rw [h _ (by omega), h _ (by omega)]
  exact hH.2 h0
/-- what leaves the maps as they are -/
theorem inv_of (h : ∀ j : Nat, (j = 1 ∨ j = 6 ∨ 224 ≤ j) → T j = S j) (hv : Inv S) (hI : InvD T) (hL : InvL T) (hT : InvT T) : Inv T := by
  obtain ⟨-, vH, -, vC, vG, vT, vM⟩ := hv
  have h6 : ∀ j : Nat, (j = 6 ∨ 224 ≤ j) → T j = S j := fun j hj => h j (by omega)
  obtain ⟨e1, e2, -⟩ := code_of h6 vH
  obtain ⟨c, g⟩ := invCG_of e1 e2 vC vG
  refine ⟨hI, invH_of h6 vH, hL, c, g, hT, ?_⟩
  have vM1 : S 6 < S 1 := vM
  show T 6 < T 1
  rw [h 6 (by omega), h 1 (by omega)]
  exact vM1
theorem invT_of (h : ∀ j : Nat, (j = 1 ∨ j = 5 ∨ (124 ≤ j ∧ j < 224)) → T j = S j) (hT : InvT S) : InvT T := by
  have e1 := h 1 (by omega)
  have e5 := h 5 (by omega)
  have b := hT.2.1
  refine ⟨by rw [e1]; exact hT.1, by rw [e5]; exact b, fun q q0 q1 => ?_⟩
  rw [e5] at q1
  have e : tapS T q = tapS S q := h _ (by omega)
  rw [e]
  exact hT.2.2 q q0 q1
theorem inv_feed (hv : Inv S) (x : Int) : Inv (feedS S x) := by
  have hT := hv.2.2.2.2.2.1
  have h5 := hT.2.1
  unfold feedS
  by_cases c : (0 ≤ x ∧ x ≤ 127) ∧ S 5 ≠ 100
  · rw [iteP_t c]
    have hs : ∀ j : Nat, j ≠ 5 → (j : Int) ≠ 124 + S 5 → va_up (va_up S (124 + S 5).toNat x) 5 (S 5 + 1) j = S j := fun j j1 j2 => by rw [up_ne _ _ j1, up_ne _ _ (by omega)]
    refine inv_of (fun j hj => hs j (by omega) (by omega)) hv (invD_of (fun j hj => hs j (by omega) (by omega)) hv.1) (invL_of (fun j hj => hs j (by omega) (by omega)) (by rw [hs 0 (by omega) (by omega)]; omega) hv.2.2.1) ⟨by rw [hs 1 (by omega) (by omega)]; exact hT.1, by rw [up_same]; omega, fun q q0 q1 => ?_⟩
    rw [up_same] at q1
    unfold tapS
    rw [up_ne _ _ (show (124 + q).toNat ≠ 5 by omega)]
    rcases (show q = S 5 ∨ q < S 5 by omega) with e | e
    · rw [e, up_same]; exact c.1
    · rw [up_ne _ _ (by omega)]; exact hT.2.2 q q0 e
  · rw [iteP_f c]; exact hv
theorem inv_D (hv : Inv S) (hs : ∀ j : Nat, ¬ (7 ≤ j ∧ j < 77) → T j = S j) (hI : InvD T) : Inv T :=
  inv_of (fun j hj => hs j (by omega)) hv hI (invL_of (fun j hj => hs j (by omega)) (by rw [hs 0 (by omega)]; exact Int.le_refl _) hv.2.2.1) (invT_of (fun j hj => hs j (by omega)) hv.2.2.2.2.2.1)
theorem inv_row (hv : Inv S) (n k v : Int) : Inv (rowFS S n k v) := by
  have hD := hv.1.1
  unfold rowFS
  by_cases c : (0 ≤ n ∧ n < S 0) ∧ (0 ≤ k ∧ k ≤ 3) ∧ (0 ≤ v ∧ v ≤ 9) ∧ S (7 + n).toNat = 6
  · rw [iteP_t c]
    refine inv_D hv (fun j hj => up_ne _ _ (by omega)) ⟨by rw [up_ne _ _ (by omega)]; exact hD, fun m m0 m1 => ?_⟩
    rw [up_ne _ _ (by omega)] at m1
    have r := hv.1.2 m m0 m1
    rw [up_ne _ _ (show (7 + m).toNat ≠ _ by omega), up_ne _ _ (show (14 + m).toNat ≠ _ by omega), up_ne _ _ (show (21 + m).toNat ≠ _ by omega), up_ne _ _ (show (28 + m).toNat ≠ _ by omega), up_ne _ _ (show (35 + m).toNat ≠ _ by omega), up_ne _ _ (show (42 + m).toNat ≠ _ by omega)]
    refine ⟨r.1, r.2.1, r.2.2.1, r.2.2.2.1, r.2.2.2.2.1, r.2.2.2.2.2.1, fun p p0 p1 => ?_⟩
    rcases (show (49 + 4 * m + p).toNat = (49 + 4 * n + k).toNat ∨ (49 + 4 * m + p).toNat ≠ (49 + 4 * n + k).toNat by omega) with e | e
    · rw [e, up_same]; exact c.2.2.1
    · rw [up_ne _ _ e]; exact r.2.2.2.2.2.2 p p0 p1
  · rw [iteP_f c]; exact hv
theorem inv_laid (hv : Inv S) {n p : Int} (hn : 0 ≤ n ∧ n < S 0) (hp : 0 ≤ p ∧ p ≤ 4) : Inv (va_up S (42 + n).toNat p) := by
  have hD := hv.1.1
  refine inv_D hv (fun j hj => up_ne _ _ (by omega)) ⟨by rw [up_ne _ _ (by omega)]; exact hD, fun m m0 m1 => ?_⟩
  rw [up_ne _ _ (by omega)] at m1
  have r := hv.1.2 m m0 m1
  rw [up_ne _ _ (show (7 + m).toNat ≠ _ by omega), up_ne _ _ (show (14 + m).toNat ≠ _ by omega), up_ne _ _ (show (21 + m).toNat ≠ _ by omega), up_ne _ _ (show (28 + m).toNat ≠ _ by omega), up_ne _ _ (show (35 + m).toNat ≠ _ by omega)]
  refine ⟨r.1, r.2.1, r.2.2.1, r.2.2.2.1, r.2.2.2.2.1, ?_, fun q q0 q1 => ?_⟩
  · rcases (show m = n ∨ m ≠ n by omega) with e | e
    · rw [e, up_same]; exact hp
    · rw [up_ne _ _ (by omega)]; exact r.2.2.2.2.2.1
  · rw [up_ne _ _ (by omega)]; exact r.2.2.2.2.2.2 q q0 q1
theorem inv_lay (hv : Inv S) (n p : Int) : Inv (layS S n p) := by
  unfold layS
  by_cases c : (0 ≤ n ∧ n < S 0) ∧ (0 ≤ p ∧ p ≤ 3) ∧ freeS S n p
  · rw [iteP_t c]; exact inv_laid hv c.1 (by omega)
  · rw [iteP_f c]; exact hv
theorem inv_lift (hv : Inv S) (n : Int) : Inv (liftS S n) := by
  unfold liftS
  by_cases c : 0 ≤ n ∧ n < S 0
  · rw [iteP_t c]; exact inv_laid hv c (by omega)
  · rw [iteP_f c]; exact hv
theorem inv_dot (hv : Inv S) (kind v lt c r : Int) : Inv (dotS S kind v lt c r) := by
  have hD := hv.1.1
  unfold dotS
  by_cases k : (0 ≤ kind ∧ kind ≤ 6) ∧ dotOK S kind v lt c r ∧ S 0 ≠ 7
  · rw [iteP_t k]
    have ok := k.2.1
    unfold dotOK at ok
    have hs : ∀ j : Nat, j ≠ 0 → ¬ (7 ≤ j ∧ j < 77) → dotUp S kind v lt c r j = S j := fun j j0 j1 => dotU_out (by omega) (by omega)
    refine inv_of (fun j hj => hs j (by omega) (by omega)) hv (dotU_I hv.1 (by omega) k.1 (by omega) (by omega) (by omega) (by omega)) (invL_of (fun j hj => hs j (by omega) (by omega)) (by rw [dotU_0]; omega) hv.2.2.1) (invT_of (fun j hj => hs j (by omega) (by omega)) hv.2.2.2.2.2.1)
  · rw [iteP_f k]; exact hv
theorem inv_L (hv : Inv S) (hs : ∀ j : Nat, ¬ ((2 ≤ j ∧ j ≤ 4) ∨ (77 ≤ j ∧ j < 124)) → T j = S j) (hL : InvL T) : Inv T :=
  inv_of (fun j hj => hs j (by omega)) hv (invD_of (fun j hj => hs j (by omega)) hv.1) hL (invT_of (fun j hj => hs j (by omega)) hv.2.2.2.2.2.1)
theorem inv_see (hv : Inv S) (c r z : Int) : Inv (seeS S c r z) := by
  have hL := hv.2.2.1
  obtain ⟨a, b, d, e, f, i⟩ := hL
  unfold seeS
  by_cases c1 : c = -1
  · rw [iteP_t c1]
    refine inv_L hv (fun j hj => up_ne _ _ (by omega)) ⟨by rw [up_same]; omega, by rw [up_ne _ _ (by omega)]; exact b, by rw [up_ne _ _ (by omega)]; exact d, fun k k0 k1 => ?_, fun k k0 k1 => ?_, fun k k0 k1 => ?_⟩
    · rw [up_same] at k1; omega
    · rw [up_ne _ _ (by omega)] at k1; rw [up_ne _ _ (by omega), up_ne _ _ (by omega), up_ne _ _ (by omega)]; exact f k k0 k1
    · rw [up_ne _ _ (by omega)] at k1; rw [up_ne _ _ (by omega), up_ne _ _ (by omega), up_ne _ _ (by omega)]; exact i k k0 k1
  · rw [iteP_f c1]
    by_cases c2 : (0 ≤ c ∧ c ≤ 29) ∧ (0 ≤ r ∧ r ≤ 11) ∧ S 2 ≠ 5
    · rw [iteP_t c2]
      have hs : ∀ j : Nat, j ≠ 2 → (j : Int) ≠ 77 + S 2 → (j : Int) ≠ 82 + S 2 → (j : Int) ≠ 87 + S 2 → va_up (va_up (va_up (va_up S (77 + S 2).toNat c) (82 + S 2).toNat r) (87 + S 2).toNat (iteP (z = 0) 0 1)) 2 (S 2 + 1) j = S j := fun j j1 j2 j3 j4 => by rw [up_ne _ _ j1, up_ne _ _ (by omega), up_ne _ _ (by omega), up_ne _ _ (by omega)]
      refine inv_L hv (fun j hj => hs j (by omega) (by omega) (by omega) (by omega)) ⟨by rw [up_same]; omega, by rw [hs 3 (by omega) (by omega) (by omega) (by omega)]; exact b, by rw [hs 4 (by omega) (by omega) (by omega) (by omega)]; exact d, fun k k0 k1 => ?_, fun k k0 k1 => ?_, fun k k0 k1 => ?_⟩
      · rw [up_same] at k1
        rcases (show k = S 2 ∨ k < S 2 by omega) with q | q
        · rw [q]
          refine ⟨?_, ?_, ?_⟩
          · rw [up_ne _ _ (by omega), up_ne _ _ (by omega), up_ne _ _ (by omega), up_same]; exact c2.1
          · rw [up_ne _ _ (by omega), up_ne _ _ (by omega), up_same]; exact c2.2.1
          · rw [up_ne _ _ (by omega), up_same]; unfold iteP; split <;> omega
        · rw [hs (77 + k).toNat (by omega) (by omega) (by omega) (by omega), hs (82 + k).toNat (by omega) (by omega) (by omega) (by omega), hs (87 + k).toNat (by omega) (by omega) (by omega) (by omega)]
          exact e k k0 q
      · rw [hs 3 (by omega) (by omega) (by omega) (by omega)] at k1
        rw [hs (92 + k).toNat (by omega) (by omega) (by omega) (by omega), hs (100 + k).toNat (by omega) (by omega) (by omega) (by omega), hs 0 (by omega) (by omega) (by omega) (by omega)]
        exact f k k0 k1
      · rw [hs 4 (by omega) (by omega) (by omega) (by omega)] at k1
        rw [hs (108 + k).toNat (by omega) (by omega) (by omega) (by omega), hs (116 + k).toNat (by omega) (by omega) (by omega) (by omega), hs 0 (by omega) (by omega) (by omega) (by omega)]
        exact i k k0 k1
    · rw [iteP_f c2]; exact hv
theorem inv_plan (hv : Inv S) (n p : Int) : Inv (listS 3 92 100 S n p) := by
  obtain ⟨a, b, d, e, f, i⟩ := hv.2.2.1
  unfold listS
  show Inv (iteP (n = -1) (va_up S 3 0) (iteP ((0 ≤ n ∧ n < S 0) ∧ (0 ≤ p ∧ p ≤ 4) ∧ S 3 ≠ 8) (va_up (va_up (va_up S (92 + S 3).toNat n) (100 + S 3).toNat p) 3 (S 3 + 1)) S))
  by_cases c1 : n = -1
  · rw [iteP_t c1]
    refine inv_L hv (fun j hj => up_ne _ _ (by omega)) ⟨by rw [up_ne _ _ (by omega)]; exact a, by rw [up_same]; omega, by rw [up_ne _ _ (by omega)]; exact d, fun k k0 k1 => ?_, fun k k0 k1 => ?_, fun k k0 k1 => ?_⟩
    · rw [up_ne _ _ (by omega)] at k1; rw [up_ne _ _ (by omega), up_ne _ _ (by omega), up_ne _ _ (by omega)]; exact e k k0 k1
    · rw [up_same] at k1; omega
    · rw [up_ne _ _ (by omega)] at k1; rw [up_ne _ _ (by omega), up_ne _ _ (by omega), up_ne _ _ (by omega)]; exact i k k0 k1
  · rw [iteP_f c1]
    by_cases c2 : (0 ≤ n ∧ n < S 0) ∧ (0 ≤ p ∧ p ≤ 4) ∧ S 3 ≠ 8
    · rw [iteP_t c2]
      have hs : ∀ j : Nat, j ≠ 3 → (j : Int) ≠ 92 + S 3 → (j : Int) ≠ 100 + S 3 → va_up (va_up (va_up S (92 + S 3).toNat n) (100 + S 3).toNat p) 3 (S 3 + 1) j = S j := fun j j1 j2 j3 => by rw [up_ne _ _ j1, up_ne _ _ (by omega), up_ne _ _ (by omega)]
      refine inv_L hv (fun j hj => hs j (by omega) (by omega) (by omega)) ⟨by rw [hs 2 (by omega) (by omega) (by omega)]; exact a, by rw [up_same]; omega, by rw [hs 4 (by omega) (by omega) (by omega)]; exact d, fun k k0 k1 => ?_, fun k k0 k1 => ?_, fun k k0 k1 => ?_⟩
      · rw [hs 2 (by omega) (by omega) (by omega)] at k1
        rw [hs (77 + k).toNat (by omega) (by omega) (by omega), hs (82 + k).toNat (by omega) (by omega) (by omega), hs (87 + k).toNat (by omega) (by omega) (by omega)]
        exact e k k0 k1
      · rw [up_same] at k1
        rw [hs 0 (by omega) (by omega) (by omega)]
        rcases (show k = S 3 ∨ k < S 3 by omega) with q | q
        · rw [q]
          refine ⟨?_, ?_⟩
          · rw [up_ne _ _ (by omega), up_ne _ _ (by omega), up_same]; exact c2.1
          · rw [up_ne _ _ (by omega), up_same]; exact c2.2.1
        · rw [hs (92 + k).toNat (by omega) (by omega) (by omega), hs (100 + k).toNat (by omega) (by omega) (by omega)]
          exact f k k0 q
      · rw [hs 4 (by omega) (by omega) (by omega)] at k1
        rw [hs (108 + k).toNat (by omega) (by omega) (by omega), hs (116 + k).toNat (by omega) (by omega) (by omega), hs 0 (by omega) (by omega) (by omega)]
        exact i k k0 k1
    · rw [iteP_f c2]; exact hv
theorem inv_book (hv : Inv S) (n p : Int) : Inv (listS 4 108 116 S n p) := by
  obtain ⟨a, b, d, e, f, i⟩ := hv.2.2.1
  unfold listS
  show Inv (iteP (n = -1) (va_up S 4 0) (iteP ((0 ≤ n ∧ n < S 0) ∧ (0 ≤ p ∧ p ≤ 4) ∧ S 4 ≠ 8) (va_up (va_up (va_up S (108 + S 4).toNat n) (116 + S 4).toNat p) 4 (S 4 + 1)) S))
  by_cases c1 : n = -1
  · rw [iteP_t c1]
    refine inv_L hv (fun j hj => up_ne _ _ (by omega)) ⟨by rw [up_ne _ _ (by omega)]; exact a, by rw [up_ne _ _ (by omega)]; exact b, by rw [up_same]; omega, fun k k0 k1 => ?_, fun k k0 k1 => ?_, fun k k0 k1 => ?_⟩
    · rw [up_ne _ _ (by omega)] at k1; rw [up_ne _ _ (by omega), up_ne _ _ (by omega), up_ne _ _ (by omega)]; exact e k k0 k1
    · rw [up_ne _ _ (by omega)] at k1; rw [up_ne _ _ (by omega), up_ne _ _ (by omega), up_ne _ _ (by omega)]; exact f k k0 k1
    · rw [up_same] at k1; omega
  · rw [iteP_f c1]
    by_cases c2 : (0 ≤ n ∧ n < S 0) ∧ (0 ≤ p ∧ p ≤ 4) ∧ S 4 ≠ 8
    · rw [iteP_t c2]
      have hs : ∀ j : Nat, j ≠ 4 → (j : Int) ≠ 108 + S 4 → (j : Int) ≠ 116 + S 4 → va_up (va_up (va_up S (108 + S 4).toNat n) (116 + S 4).toNat p) 4 (S 4 + 1) j = S j := fun j j1 j2 j3 => by rw [up_ne _ _ j1, up_ne _ _ (by omega), up_ne _ _ (by omega)]
      refine inv_L hv (fun j hj => hs j (by omega) (by omega) (by omega)) ⟨by rw [hs 2 (by omega) (by omega) (by omega)]; exact a, by rw [hs 3 (by omega) (by omega) (by omega)]; exact b, by rw [up_same]; omega, fun k k0 k1 => ?_, fun k k0 k1 => ?_, fun k k0 k1 => ?_⟩
      · rw [hs 2 (by omega) (by omega) (by omega)] at k1
        rw [hs (77 + k).toNat (by omega) (by omega) (by omega), hs (82 + k).toNat (by omega) (by omega) (by omega), hs (87 + k).toNat (by omega) (by omega) (by omega)]
        exact e k k0 k1
      · rw [hs 3 (by omega) (by omega) (by omega)] at k1
        rw [hs (92 + k).toNat (by omega) (by omega) (by omega), hs (100 + k).toNat (by omega) (by omega) (by omega), hs 0 (by omega) (by omega) (by omega)]
        exact f k k0 k1
      · rw [up_same] at k1
        rw [hs 0 (by omega) (by omega) (by omega)]
        rcases (show k = S 4 ∨ k < S 4 by omega) with q | q
        · rw [q]
          refine ⟨?_, ?_⟩
          · rw [up_ne _ _ (by omega), up_ne _ _ (by omega), up_same]; exact c2.1
          · rw [up_ne _ _ (by omega), up_same]; exact c2.2.1
        · rw [hs (108 + k).toNat (by omega) (by omega) (by omega), hs (116 + k).toNat (by omega) (by omega) (by omega)]
          exact i k k0 q
    · rw [iteP_f c2]; exact hv
theorem inv_map (hv : Inv S) : Inv (mapS S) := by
  obtain ⟨vI, vH, vL, vC, vG, vT, vM⟩ := hv
  have hM1 : S 6 < S 1 := vM
  have hT1 := vT.1
  have hT2 := vT.2.1
  have hH1 := vH.1
  unfold mapS
  by_cases c1 : S 1 = 5
  · rw [iteP_t c1]; exact ⟨vI, vH, vL, vC, vG, vT, vM⟩
  · rw [iteP_f c1]
    obtain ⟨hcg, hok, hsm⟩ := mapX_good vT c1
    have hl : ((mapX S).2.2.2.length : Int) ≤ 100 := by have a := hok.2.2; have b := hok.2.1; omega
    have lo : ∀ j : Nat, j < 224 → j ≠ 5 → emS (mapX S).1 (S 1) (mapX S).2.2.2 j = S j := fun j j1 j5 => map_lo vT c1 hsm (by omega) j5 (by omega) (by omega)
    have t5 := map_5 vT c1 hsm
    by_cases c2 : mapBad S (mapX S)
    · rw [iteP_t c2]
      obtain ⟨e1, e2, -, -⟩ := map_held vT vM vH vC c1 hsm hl
      obtain ⟨gC, gG⟩ := invCG_of e1 e2 vC vG
      refine ⟨invD_of (fun j hj => lo j (by omega) (by omega)) vI, ⟨by rw [lo 6 (by omega) (by omega)]; exact hH1, fun h0 => ?_⟩, invL_of (fun j hj => lo j (by omega) (by omega)) (by rw [lo 0 (by omega) (by omega)]; exact Int.le_refl _) vL, gC, gG, ⟨by rw [lo 1 (by omega) (by omega)]; exact hT1, by rw [t5]; omega, fun q q0 q1 => by rw [t5] at q1; omega⟩, by show emS (mapX S).1 (S 1) (mapX S).2.2.2 6 < emS (mapX S).1 (S 1) (mapX S).2.2.2 1; rw [lo 6 (by omega) (by omega), lo 1 (by omega) (by omega)]; exact hM1⟩
      rw [lo 6 (by omega) (by omega)] at h0 ⊢
      rw [map_lo vT c1 hsm (by omega) (by omega) (by omega) (by omega), map_lo vT c1 hsm (by omega) (by omega) (by omega) (by omega)]
      exact vH.2 h0
    · rw [iteP_f c2]
      have b0 : (mapX S).2.1 = 0 := Classical.byContradiction fun h9 => c2 (Or.inl h9)
      obtain ⟨e1, e2, -, -⟩ := map_new vT c1 hsm hl
      obtain ⟨g4, g9, gL⟩ := hcg
      obtain ⟨gg, gc, gd⟩ := gL b0
      have hP := sameB_PIn (mapB_PIn vT c1) hsm
      have hP2 := hP.2.2.1
      have lo2 : ∀ j : Nat, j < 224 → j ≠ 5 → j ≠ 1 → j ≠ 6 → va_up (va_up (emS (mapX S).1 (S 1) (mapX S).2.2.2) 1 (S 1 + 1)) 6 (S 1) j = S j := fun j j1 j5 a b => by rw [up_ne _ _ b, up_ne _ _ a]; exact lo j j1 j5
      have hcode : ∀ i : Nat, i < (mapX S).2.2.2.length → codeS (va_up (va_up (emS (mapX S).1 (S 1) (mapX S).2.2.2) 1 (S 1 + 1)) 6 (S 1)) i = fL (mapX S).2.2.2 i := fun i hi => e2 i hi
      refine ⟨invD_of (fun j hj => lo2 j (by omega) (by omega) (by omega) (by omega)) vI, ⟨by rw [up_same]; omega, fun h0 => ?_⟩, invL_of (fun j hj => lo2 j (by omega) (by omega) (by omega) (by omega)) (by rw [lo2 0 (by omega) (by omega) (by omega) (by omega)]; exact Int.le_refl _) vL, ⟨by rw [e1]; omega, ?_, fun i hi => ?_⟩, fun i hi => ?_, ⟨by rw [up_ne _ _ (by omega), up_same]; omega, by rw [up_ne _ _ (by omega), up_ne _ _ (by omega), t5]; omega, fun q q0 q1 => by rw [up_ne _ _ (by omega), up_ne _ _ (by omega), t5] at q1; omega⟩, ?_⟩
      · rw [up_same, up_ne _ _ (by omega), up_ne _ _ (by omega), up_ne _ _ (by omega), up_ne _ _ (by omega), emS_low hP _ _ _ (by omega) (by omega), emS_low hP _ _ _ (by omega) (by omega)]
        exact ⟨g4, g9⟩
      · rw [e1, Int.toNat_natCast, clS_ext _ (fun i hi => hcode i hi)]
        exact gc
      · rw [e1] at hi
        rw [hcode i (by omega), depS_ext i (fun j hj => hcode j (by omega))]
        exact (gg i (by omega)).1
      · rw [e1] at hi
        rw [hcode i (by omega), depS_ext i (fun j hj => hcode j (by omega))]
        exact (gg i (by omega)).2
      · show va_up (va_up (emS (mapX S).1 (S 1) (mapX S).2.2.2) 1 (S 1 + 1)) 6 (S 1) 6 < va_up (va_up (emS (mapX S).1 (S 1) (mapX S).2.2.2) 1 (S 1 + 1)) 6 (S 1) 1
        rw [up_same, up_ne _ _ (by omega), up_same]
        omega
/-- the first row -/
theorem inv_0 : Inv (va_up (fun _ => 0) 6 (-1)) := by
  have e : ∀ j : Nat, j ≠ 6 → va_up (fun _ => (0 : Int)) 6 (-1) j = 0 := fun j h => up_ne _ _ h
  have em : manyS (va_up (fun _ => (0 : Int)) 6 (-1)) = 0 := by unfold manyS tellsS; rw [up_same, if_pos rfl]
  refine ⟨⟨by rw [e 0 (by decide)]; omega, fun n h0 h1 => by rw [e 0 (by decide)] at h1; omega⟩, ⟨by rw [up_same]; omega, fun h0 => by rw [up_same] at h0; omega⟩, ⟨by rw [e 2 (by decide)]; omega, by rw [e 3 (by decide)]; omega, by rw [e 4 (by decide)]; omega, fun k k0 k1 => by rw [e 2 (by decide)] at k1; omega, fun k k0 k1 => by rw [e 3 (by decide)] at k1; omega, fun k k0 k1 => by rw [e 4 (by decide)] at k1; omega⟩, ⟨by rw [em]; omega, by rw [em]; show (0 : Int) ≤ 10; omega, fun i hi => by rw [em] at hi; omega⟩, fun i hi => by rw [em] at hi; omega, ⟨by rw [e 1 (by decide)]; omega, by rw [e 5 (by decide)]; omega, fun q q0 q1 => by rw [e 5 (by decide)] at q1; omega⟩, ?_⟩
  show va_up (fun _ => (0 : Int)) 6 (-1) 6 < va_up (fun _ => (0 : Int)) 6 (-1) 1
  rw [up_same, e 1 (by decide)]
  decide
end IV
