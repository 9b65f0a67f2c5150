def AlP (S : Nat → Int) (A : Nat → Nat → Int) (al : Int → Int) : Prop := ∀ i : Int, 0 ≤ i → i < S 0 → A 44 i.toNat = al i
def VlP (S : Nat → Int) (A : Nat → Nat → Int) (vl : Int → Int → Int) : Prop := ∀ i p : Int, 0 ≤ i → i < S 0 → 0 ≤ p → p ≤ 3 → A 46 ((i * 4) + p).toNat = vl i p
def ClW (S : Nat → Int) (A : Nat → Nat → Int) : Prop := ∀ i p : Int, 0 ≤ i → i < S 0 → 0 ≤ p → p ≤ 3 → A 48 ((i * 4) + p).toNat = setB (clP S i p) (4 * S 0).toNat
def TpP (S : Nat → Int) (A : Nat → Nat → Int) (tp : Int → Int) : Prop := ∀ i : Int, 0 ≤ i → i < S 0 → A 50 i.toNat = tp i
def okD (al : Int → Int) (i bl : Int) (p : Int) : Prop := iand (ishr (al i) p) 1 ≠ 0 ∧ ¬ iand (ishr bl ((i * 4) + p)) 1 ≠ 0
noncomputable def drS (al : Int → Int) (vl : Int → Int → Int) (i bl : Int) : Int := takeF (okD al i bl) (vl i) 4
theorem drS_rng (al : Int → Int) (vl : Int → Int → Int) (i bl : Int) : 0 ≤ drS al vl i bl ∧ drS al vl i bl ≤ 4 := by
  have h := takeF_rng (okD al i bl) (vl i) 4 (Nat.le_refl _)
  unfold drS
  omega
theorem takeF_ok (ok : Int → Prop) (gd : Int → Int) : ∀ k : Nat, k ≤ 4 → takeF ok gd k = 4 ∨ ok (takeF ok gd k)
  | 0, _ => Or.inl rfl
  | k + 1, h => by
    have r := takeF_ok ok gd k (by omega)
    have s := takeF_s (ok := ok) (gd := gd) (p := (k : Int)) (by omega)
    rw [show ((k : Int) + 1).toNat = k + 1 by omega, Int.toNat_natCast] at s
    rw [s]
    by_cases q : ok k ∧ (takeF ok gd k = 4 ∨ gd (takeF ok gd k) < gd k)
    · rw [iteP_t q]; exact Or.inr q.1
    · rw [iteP_f q]; exact r
theorem takeF_max (ok : Int → Prop) (gd : Int → Int) : ∀ k : Nat, k ≤ 4 → ∀ p : Int, 0 ≤ p → p < k → ok p → takeF ok gd k ≠ 4 ∧ gd p ≤ gd (takeF ok gd k)
  | 0, _, p, h0, h1, _ => by omega
  | k + 1, h, p, h0, h1, hok => by
    have s := takeF_s (ok := ok) (gd := gd) (p := (k : Int)) (by omega)
    rw [show ((k : Int) + 1).toNat = k + 1 by omega, Int.toNat_natCast] at s
    rw [s]
    rcases (show p < k ∨ p = k by omega) with q | q
    · have r := takeF_max ok gd k (by omega) p h0 q hok
      by_cases c : ok k ∧ (takeF ok gd k = 4 ∨ gd (takeF ok gd k) < gd k)
      · rw [iteP_t c]
        refine ⟨by omega, ?_⟩
        rcases c.2 with c | c
        · exact absurd c r.1
        · omega
      · rw [iteP_f c]; exact r
    · subst q
      by_cases c : ok (k : Int) ∧ (takeF ok gd k = 4 ∨ gd (takeF ok gd k) < gd k)
      · rw [iteP_t c]; exact ⟨by omega, Int.le_refl _⟩
      · rw [iteP_f c]
        have c1 : ¬ (takeF ok gd k = 4 ∨ gd (takeF ok gd k) < gd k) := fun h9 => c ⟨hok, h9⟩
        exact ⟨fun h9 => c1 (Or.inl h9), Int.not_lt.mp (fun h9 => c1 (Or.inr h9))⟩
/-- the most that a name gives, none blocked -/
noncomputable def topS (al : Int → Int) (vl : Int → Int → Int) (i : Int) : Int := iteP (iand (ishr (al i) 4) 1 ≠ 0) (if (if drS al vl i 0 = 4 then 0 else vl i (drS al vl i 0)) < 0 then 0 else (if drS al vl i 0 = 4 then 0 else vl i (drS al vl i 0))) (if drS al vl i 0 = 4 then 0 else vl i (drS al vl i 0))
theorem bit_0 {k : Int} (h0 : 0 ≤ k) (hk : k ≤ 30) : ¬ iand (ishr 0 k) 1 ≠ 0 := by
  have e := hasB (P := fun _ => False) (n := 0) (by decide) h0 hk
  exact fun h => (e.mp h).2
theorem top_max {al : Int → Int} {vl : Int → Int → Int} {i p : Int} (hi : 0 ≤ i ∧ i < 7) (hp : 0 ≤ p ∧ p ≤ 3) (h : iand (ishr (al i) p) 1 ≠ 0) : vl i p ≤ topS al vl i := by
  have q := takeF_max (okD al i 0) (vl i) 4 (Nat.le_refl _) p hp.1 (by omega) ⟨h, bit_0 (by omega) (by omega)⟩
  unfold topS
  have e : vl i p ≤ (if drS al vl i 0 = 4 then 0 else vl i (drS al vl i 0)) := by
    rw [if_neg (show drS al vl i 0 ≠ 4 from q.1)]
    exact q.2
  by_cases c : iand (ishr (al i) 4) 1 ≠ 0
  · rw [iteP_t c]; split <;> omega
  · rw [iteP_f c]; exact e
theorem top_4 {al : Int → Int} {vl : Int → Int → Int} {i : Int} (h : iand (ishr (al i) 4) 1 ≠ 0) : 0 ≤ topS al vl i := by
  unfold topS
  rw [iteP_t h]
  split <;> omega
theorem top_rng {al : Int → Int} {vl : Int → Int → Int} {M : Int} (hM : 0 ≤ M) (hv : ∀ i p : Int, -M ≤ vl i p ∧ vl i p ≤ M) (i : Int) : -M ≤ topS al vl i ∧ topS al vl i ≤ M := by
  have q := hv i (drS al vl i 0)
  have e : -M ≤ (if drS al vl i 0 = 4 then 0 else vl i (drS al vl i 0)) ∧ (if drS al vl i 0 = 4 then 0 else vl i (drS al vl i 0)) ≤ M := by split <;> omega
  unfold topS iteP
  split
  · split <;> omega
  · exact e
theorem sumI_M {f : Int → Int} {M : Int} (hv : ∀ i : Int, -M ≤ f i ∧ f i ≤ M) : ∀ n : Nat, -(M * n) ≤ sumI f n ∧ sumI f n ≤ M * n
  | 0 => by simp [sumI]
  | n + 1 => by
    have ih := sumI_M hv n
    have q := hv n
    have e : sumI f (n + 1) = sumI f n + f n := rfl
    have e2 : M * ((n + 1 : Nat) : Int) = M * n + M := by rw [show ((n + 1 : Nat) : Int) = (n : Int) + 1 by omega, Int.mul_add, Int.mul_one]
    rw [e, e2]
    omega
theorem clP_j {S : Nat → Int} {i p o q : Int} (hq : 0 ≤ q ∧ q ≤ 3) : clP S i p (4 * o + q) ↔ (i ≠ o ∧ 0 < bothS S i p o q) := by
  unfold clP
  rw [show (4 * o + q) / 4 = o by omega, show (4 * o + q) % 4 = q by omega]
