/-! THE SEARCH: orders -/
section OR
variable {S : Nat → Int}
noncomputable def keepV (val : List Int → Int) (t : BT) (u : List Int) : BT := iteP (t.1 = 0 ∨ t.2.1 < val u) (1, val u, fun k => atL u k) t
noncomputable def foldV (val : List Int → Int) (L : List (List Int)) (t : BT) : BT := L.foldl (keepV val) t
theorem foldV_app (val : List Int → Int) (L M : List (List Int)) (t : BT) : foldV val (L ++ M) t = foldV val M (foldV val L t) := List.foldl_append
theorem foldVP_t {val : List Int → Int} {f : Int → List (List Int)} {ok : Int → Prop} {p : Int} {t : BT} (h : 0 ≤ p) (hok : ok p) : foldV val (cmpP f ok (p + 1).toNat) t = foldV val (f p) (foldV val (cmpP f ok p.toNat) t) := by
  rw [cmpP_s h, iteP_t hok, foldV_app]
theorem foldVP_f {val : List Int → Int} {f : Int → List (List Int)} {ok : Int → Prop} {p : Int} {t : BT} (h : 0 ≤ p) (hok : ¬ ok p) : foldV val (cmpP f ok (p + 1).toNat) t = foldV val (cmpP f ok p.toNat) t := by
  rw [cmpP_s h, iteP_f hok, List.append_nil]
theorem foldV_cut {val : List Int → Int} : ∀ (L : List (List Int)) {t : BT}, t.1 ≠ 0 → (∀ w ∈ L, val w ≤ t.2.1) → foldV val L t = t
  | [], _, _, _ => rfl
  | u :: L, t, h0, h => by
    show foldV val L (keepV val t u) = t
    have e : keepV val t u = t := iteP_f (fun h9 => by have := h u List.mem_cons_self; rcases h9 with h9 | h9; { exact h0 h9 }; { omega })
    rw [e]
    exact foldV_cut L h0 (fun w hw => h w (List.mem_cons_of_mem _ hw))
theorem foldV_GT {val : List Int → Int} : ∀ (L : List (List Int)) (t : BT), GT t → (∀ u ∈ L, -1000000 ≤ val u ∧ val u ≤ 1000000) → GT (foldV val L t)
  | [], t, h, _ => h
  | u :: L, t, h, hl => by
    have q := hl u List.mem_cons_self
    refine foldV_GT L (keepV val t u) ?_ (fun w hw => hl w (List.mem_cons_of_mem _ hw))
    unfold keepV iteP
    split
    · exact ⟨Or.inr rfl, q.1, q.2⟩
    · exact h
/-- cells in common: each with the other -/
theorem both_pos (hI : InvD S) {a p b q : Int} (ha : 0 ≤ a ∧ a < S 0) (hb : 0 ≤ b ∧ b < S 0) (hp : p ≠ 4) (hq : q ≠ 4) : 0 < bothS S a p b q ↔ 0 < bothS S b q a p := by
  by_cases h : rowS S a p = rowS S b q
  · rw [both_ovl hI ha hb hq h, both_ovl hI hb ha hp h.symm]
    have h1 := lenS_rng hI ha
    have h2 := lenS_rng hI hb
    unfold ovl
    (repeat' split) <;> omega
  · have e1 : bothS S a p b q = 0 := by unfold bothS; exact if_neg h
    have e2 : bothS S b q a p = 0 := by unfold bothS; exact if_neg (fun h9 => h h9.symm)
    rw [e1, e2]
def blkQP (S : Nat → Int) (pos : Int → Int) (j : Int) : Prop := ∃ k : Int, 0 ≤ k ∧ k < S 0 ∧ pos k ≠ 4 ∧ clP S k (pos k) j
noncomputable def blkQ (S : Nat → Int) (pos : Int → Int) : Int := setB (blkQP S pos) (4 * S 0).toNat
theorem blkQ_0 : blkQ S (fun _ => 4) = 0 := by
  unfold blkQ
  refine setB_0.mpr (fun j _ h => ?_)
  obtain ⟨k, -, -, h2, -⟩ := h
  exact h2 rfl
theorem blkQ_step {pos : Int → Int} {n p : Int} (hD : S 0 ≤ 7) (hn : 0 ≤ n ∧ n < S 0) (h4 : pos n = 4) : ior (blkQ S pos) (if p = 4 then 0 else setB (clP S n p) (4 * S 0).toNat) = blkQ S (upI pos n p) := by
  unfold blkQ
  by_cases h : p = 4
  · rw [if_pos h, ior_z (by omega), h]
    refine setB_ext (fun j h0 h1 => ?_)
    unfold blkQP
    constructor
    · rintro ⟨k, k0, k1, k2, k3⟩
      have hk : k ≠ n := fun e => k2 (by rw [e]; exact h4)
      exact ⟨k, k0, k1, by rw [upI_ne _ _ hk]; exact k2, by rw [upI_ne _ _ hk]; exact k3⟩
    · rintro ⟨k, k0, k1, k2, k3⟩
      have hk : k ≠ n := fun e => k2 (by rw [e, upI_same])
      rw [upI_ne _ _ hk] at k2 k3
      exact ⟨k, k0, k1, k2, k3⟩
  · rw [if_neg h, setB_or (by omega)]
    refine setB_ext (fun j h0 h1 => ?_)
    unfold blkQP
    constructor
    · rintro (⟨k, k0, k1, k2, k3⟩ | h9)
      · have hk : k ≠ n := fun e => k2 (by rw [e]; exact h4)
        exact ⟨k, k0, k1, by rw [upI_ne _ _ hk]; exact k2, by rw [upI_ne _ _ hk]; exact k3⟩
      · exact ⟨n, hn.1, hn.2, by rw [upI_same]; exact h, by rw [upI_same]; exact h9⟩
    · rintro ⟨k, k0, k1, k2, k3⟩
      by_cases hk : k = n
      · rw [hk, upI_same] at k3; exact Or.inr k3
      · rw [upI_ne _ _ hk] at k2 k3; exact Or.inl ⟨k, k0, k1, k2, k3⟩
theorem takeF_ext {ok ok' : Int → Prop} {gd gd' : Int → Int} (hg : ∀ p q : Int, gd p < gd q ↔ gd' p < gd' q) : ∀ k : Nat, (∀ p : Int, 0 ≤ p → p < k → (ok p ↔ ok' p)) → takeF ok gd k = takeF ok' gd' k
  | 0, _ => rfl
  | k + 1, h => by
    have ih := takeF_ext hg k (fun p h0 h1 => h p h0 (by omega))
    have hk := h k (by omega) (by omega)
    unfold takeF
    rw [ih]
    by_cases c : ok' (k : Int) ∧ (takeF ok' gd' k = 4 ∨ gd' (takeF ok' gd' k) < gd' k)
    · rw [iteP_t c, iteP_t ⟨hk.mpr c.1, c.2.imp id (fun h9 => (hg _ _).mpr h9)⟩]
    · rw [iteP_f c, iteP_f (fun h9 => c ⟨hk.mp h9.1, h9.2.imp id (fun h8 => (hg _ _).mp h8)⟩)]
theorem dr_take (hI : InvD S) {pos : Int → Int} {n : Int} (hn : 0 ≤ n ∧ n < S 0) (h4 : pos n = 4) (hr : ∀ k : Int, 0 ≤ pos k ∧ pos k ≤ 4) : drS (bitsF S (wideS S)) (vlG S 100000) n (blkQ S pos) = takeS S pos n := by
  have hD := hI.1
  unfold drS takeS
  refine takeF_ext (fun p q => by unfold vlG; omega) 4 (fun p h0 h1 => ?_)
  unfold okD takeOk bitsF blkQ
  rw [hasB (by decide) h0 (by omega), hasB (by omega) (by omega) (by omega), show (n * 4) + p = 4 * n + p by omega]
  have key : ¬ blkQP S pos (4 * n + p) ↔ freeP S pos n p := by
    unfold blkQP freeP
    constructor
    · intro h k k0 k1
      by_cases c : pos k = 4
      · exact Or.inl c
      · refine Or.inr (fun h9 => h ⟨k, k0, k1, c, ?_⟩)
        rw [clP_j ⟨h0, by omega⟩]
        refine ⟨fun e => c (by rw [e]; exact h4), ?_⟩
        exact (both_pos hI hn ⟨k0, k1⟩ (by omega) c).mp h9
    · intro h h9
      obtain ⟨k, k0, k1, k2, k3⟩ := h9
      rw [clP_j ⟨h0, by omega⟩] at k3
      rcases h k k0 k1 with c | c
      · exact k2 c
      · exact c ((both_pos hI ⟨k0, k1⟩ hn k2 (by omega)).mp k3.2)
  constructor
  · intro h
    exact ⟨h.1.2, key.mp (fun h9 => h.2 ⟨by omega, h9⟩)⟩
  · intro h
    exact ⟨⟨by omega, h.1⟩, fun h9 => key.mpr h.2 h9.2⟩
noncomputable def valT (t : KT) : Int := 100000 * t.2.1 + t.2.2
noncomputable def valO (S : Nat → Int) (u : List Int) : Int := valT (tkL S u)
theorem val_step (t : KT) (n : Int) : valT (tkStep S t n) = valT t + (if takeS S t.1 n = 4 then 0 else vlG S 100000 n (takeS S t.1 n)) := by
  unfold valT tkStep vlG
  dsimp only
  by_cases h : takeS S t.1 n = 4
  · rw [if_pos h, if_pos h, b2_f (fun h9 => h9 h)]; omega
  · rw [if_neg h, if_neg h, b2_t h]; omega
theorem valO_rng (hC : InvC S) {u : List Int} (hl : u.length ≤ 7) : -1000000 ≤ valO S u ∧ valO S u ≤ 1000000 := by
  obtain ⟨-, -, h3, h4⟩ := tkL_rng hC u
  unfold valO valT
  omega
theorem sumI_upd {f h : Int → Int} {i : Int} : ∀ n : Nat, 0 ≤ i → i < n → (∀ k : Int, k ≠ i → f k = h k) → sumI f n - sumI h n = f i - h i
  | 0, h0, h1, _ => by omega
  | n + 1, h0, h1, hk => by
    have e1 : sumI f (n + 1) = sumI f n + f n := rfl
    have e2 : sumI h (n + 1) = sumI h n + h n := rfl
    rcases (show i < n ∨ i = n by omega) with q | q
    · have ih := sumI_upd n h0 q hk
      have := hk n (by omega)
      omega
    · have e3 : sumI f n = sumI h n := sumI_ext (fun j j0 j1 => hk j (by omega))
      rw [q]; omega
noncomputable def hopO (tp : Int → Int) (D : Nat) (u : List Int) : Int := sumI (fun n => iteP (n ∈ u) 0 (tp n)) D
theorem hopO_0 (tp : Int → Int) (D : Nat) : hopO tp D [] = sumI tp D := sumI_ext (fun n _ _ => iteP_f (by simp))
theorem hopO_s {tp : Int → Int} {D : Nat} {u : List Int} {n : Int} (h0 : 0 ≤ n) (h1 : n < D) (hn : ¬ n ∈ u) : hopO tp D (u ++ [n]) = hopO tp D u - tp n := by
  have q := sumI_upd (f := fun k => iteP (k ∈ u ++ [n]) 0 (tp k)) (h := fun k => iteP (k ∈ u) 0 (tp k)) (i := n) D h0 h1 (fun k hk => by
    by_cases c : k ∈ u
    · show iteP (k ∈ u ++ [n]) 0 (tp k) = iteP (k ∈ u) 0 (tp k)
      rw [iteP_t (List.mem_append_left _ c), iteP_t c]
    · show iteP (k ∈ u ++ [n]) 0 (tp k) = iteP (k ∈ u) 0 (tp k)
      rw [iteP_f (by simp [c, hk]), iteP_f c])
  have e1 : iteP (n ∈ u ++ [n]) 0 (tp n) = 0 := iteP_t (by simp)
  have e2 : iteP (n ∈ u) 0 (tp n) = tp n := iteP_f hn
  rw [e1, e2] at q
  unfold hopO
  omega
theorem hopO_rng {tp : Int → Int} (ht : ∀ i : Int, 0 ≤ tp i ∧ tp i ≤ 110000) (u : List Int) : ∀ D : Nat, 0 ≤ hopO tp D u ∧ hopO tp D u ≤ 110000 * D
  | 0 => by simp [hopO, sumI]
  | D + 1 => by
    have ih := hopO_rng ht u D
    have q := ht D
    have e : hopO tp (D + 1) u = hopO tp D u + iteP ((D : Int) ∈ u) 0 (tp D) := rfl
    rw [e]
    unfold iteP
    split <;> omega
theorem memO_iff {u : List Int} {n : Int} (hn : 0 ≤ n ∧ n ≤ 6) : iand (ishr (setB (fun j => j ∈ u) 7) n) 1 ≠ 0 ↔ n ∈ u := by
  rw [hasB (by decide) hn.1 (by omega)]
  exact ⟨fun h => h.2, fun h => ⟨by omega, h⟩⟩
theorem topO_rng (hC : InvC S) (al : Int → Int) (i : Int) : 0 ≤ topS al (vlG S 100000) i ∧ topS al (vlG S 100000) i ≤ 110000 := by
  have q := goodS_rng hC i (drS al (vlG S 100000) i 0)
  have q2 : vlG S 100000 i (drS al (vlG S 100000) i 0) = 100000 + goodS S i (drS al (vlG S 100000) i 0) := rfl
  have e : 0 ≤ (if drS al (vlG S 100000) i 0 = 4 then 0 else vlG S 100000 i (drS al (vlG S 100000) i 0)) ∧ (if drS al (vlG S 100000) i 0 = 4 then 0 else vlG S 100000 i (drS al (vlG S 100000) i 0)) ≤ 110000 := by
    split <;> omega
  unfold topS iteP
  split
  · split <;> omega
  · exact e
theorem gain_top (hI : InvD S) (hC : InvC S) {pos : Int → Int} {n : Int} (hn : 0 ≤ n ∧ n < S 0) (h4 : pos n = 4) (hr : ∀ k : Int, 0 ≤ pos k ∧ pos k ≤ 4) : (if takeS S pos n = 4 then 0 else vlG S 100000 n (takeS S pos n)) ≤ topS (bitsF S (wideS S)) (vlG S 100000) n := by
  have hD := hI.1
  by_cases h : takeS S pos n = 4
  · rw [if_pos h]; exact (topO_rng hC _ n).1
  · rw [if_neg h]
    have e := dr_take hI hn h4 hr
    have q := takeF_ok (okD (bitsF S (wideS S)) n (blkQ S pos)) (vlG S 100000 n) 4 (Nat.le_refl _)
    have q2 : drS (bitsF S (wideS S)) (vlG S 100000) n (blkQ S pos) = 4 ∨ okD (bitsF S (wideS S)) n (blkQ S pos) (drS (bitsF S (wideS S)) (vlG S 100000) n (blkQ S pos)) := q
    rw [e] at q2
    have r := takeS_rng S pos n
    rcases q2 with q2 | q2
    · exact absurd q2 h
    · exact top_max (by omega) (by omega) q2.1
theorem cmpO_bd (hI : InvD S) (hC : InvC S) : ∀ (d : Nat) (u : List Int), (∀ n ∈ u, 0 ≤ n ∧ n < S 0) → ∀ w ∈ cmpD (S 0).toNat okO d u, valO S w ≤ valO S u + hopO (topS (bitsF S (wideS S)) (vlG S 100000)) (S 0).toNat u
  | 0, u, _, w, hw => by
    have e : w = u := List.mem_singleton.mp hw
    have q := hopO_rng (topO_rng hC (bitsF S (wideS S))) u (S 0).toNat
    rw [e]
    omega
  | d + 1, u, hu, w, hw => by
    have hD := hI.1
    have key : ∀ n : Int, 0 ≤ n → n < ((S 0).toNat : Nat) → okO u n → ∀ w ∈ cmpD (S 0).toNat okO d (u ++ [n]), valO S w ≤ valO S u + hopO (topS (bitsF S (wideS S)) (vlG S 100000)) (S 0).toNat u := by
      intro n n0 n1 hok w hw
      have r := cmpO_bd hI hC d (u ++ [n]) (fun m hm => by rcases List.mem_append.mp hm with h | h; { exact hu m h }; { rw [List.mem_singleton.mp h]; omega }) w hw
      have t := tkL_rng hC u
      have e1 : valO S (u ++ [n]) = valO S u + (if takeS S (tkL S u).1 n = 4 then 0 else vlG S 100000 n (takeS S (tkL S u).1 n)) := by
        unfold valO
        rw [tkL_app]
        exact val_step _ _
      have e2 := gain_top hI hC (pos := (tkL S u).1) (n := n) (by omega) (t.2.1 n hok) t.1
      rw [hopO_s n0 n1 hok] at r
      omega
    rw [cmpD_s (by omega)] at hw
    exact cmpP_all (Q := fun w => valO S w ≤ valO S u + hopO (topS (bitsF S (wideS S)) (vlG S 100000)) (S 0).toNat u) (S 0).toNat (fun p p0 p1 hok w hw => key p p0 p1 hok w hw) w hw
theorem leafV {val : List Int → Int} {D d : Nat} {u : List Int} {t : BT} (hd : d = 0) (h : t.1 = 0 ∨ t.2.1 < val u) : foldV val (cmpD D okO d u) t = ((1, val u, fun k : Nat => atL u (k : Int)) : BT) := by
  subst hd
  show keepV val t u = _
  exact iteP_t h
end OR
