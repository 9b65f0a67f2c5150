/-! THE CLASS: its cells, and what they stand for -/
def CW (g : GG) (ad : Nat → Nat) (F : Nat → Int) (A : Nat → Nat → Int) (E : Nat → Nat) (tl : va_W) : va_W :=
  (ad 0, .inr (12, [.ref (ad 1), .ref (ad 3), .ref (ad 21), .ref (ad 39), .ref (ad 42), .int (iI (F 66))])) ::
  (ad 1, .inr (7, [.ref (ad 2), .int (iI (F 1))])) ::
  (ad 2, .inl (g.2.1 0, 20, .inl (aI (A 2)))) ::
  (ad 3, .inr (9, [.ref (ad 4), .ref (ad 6), .ref (ad 8), .ref (ad 9), .ref (ad 11), .ref (ad 13), .ref (ad 15), .ref (ad 17), .ref (ad 19), .int (iI (F 60)), .int (iI (F 61)), .int (iI (F 62))])) ::
  (ad 4, .inr (7, [.ref (ad 5), .int (iI (F 4))])) ::
  (ad 5, .inl (g.2.1 0, 100, .inl (aI (A 5)))) ::
  (ad 6, .inr (7, [.ref (ad 7), .int (iI (F 6))])) ::
  (ad 7, .inl (g.2.1 0, 100, .inl (aI (A 7)))) ::
  (ad 8, .inr (0, [.int (iI (F 75)), .ref (E 0), .int (iI (F 76))])) ::
  (ad 9, .inr (7, [.ref (ad 10), .int (iI (F 9))])) ::
  (ad 10, .inl (g.2.1 0, 7, .inl (aI (A 10)))) ::
  (ad 11, .inr (7, [.ref (ad 12), .int (iI (F 11))])) ::
  (ad 12, .inl (g.2.1 0, 28, .inl (aI (A 12)))) ::
  (ad 13, .inr (7, [.ref (ad 14), .int (iI (F 13))])) ::
  (ad 14, .inl (g.2.1 0, 15, .inl (aI (A 14)))) ::
  (ad 15, .inr (7, [.ref (ad 16), .int (iI (F 15))])) ::
  (ad 16, .inl (g.2.1 0, 16, .inl (aI (A 16)))) ::
  (ad 17, .inr (7, [.ref (ad 18), .int (iI (F 17))])) ::
  (ad 18, .inl (g.2.1 0, 16, .inl (aI (A 18)))) ::
  (ad 19, .inr (7, [.ref (ad 20), .int (iI (F 19))])) ::
  (ad 20, .inl (g.2.1 0, 7, .inl (aI (A 20)))) ::
  (ad 21, .inr (9, [.ref (ad 22), .ref (ad 24), .ref (ad 26), .ref (ad 27), .ref (ad 29), .ref (ad 31), .ref (ad 33), .ref (ad 35), .ref (ad 37), .int (iI (F 63)), .int (iI (F 64)), .int (iI (F 65))])) ::
  (ad 22, .inr (7, [.ref (ad 23), .int (iI (F 22))])) ::
  (ad 23, .inl (g.2.1 0, 100, .inl (aI (A 23)))) ::
  (ad 24, .inr (7, [.ref (ad 25), .int (iI (F 24))])) ::
  (ad 25, .inl (g.2.1 0, 100, .inl (aI (A 25)))) ::
  (ad 26, .inr (0, [.int (iI (F 77)), .ref (E 1), .int (iI (F 78))])) ::
  (ad 27, .inr (7, [.ref (ad 28), .int (iI (F 27))])) ::
  (ad 28, .inl (g.2.1 0, 7, .inl (aI (A 28)))) ::
  (ad 29, .inr (7, [.ref (ad 30), .int (iI (F 29))])) ::
  (ad 30, .inl (g.2.1 0, 28, .inl (aI (A 30)))) ::
  (ad 31, .inr (7, [.ref (ad 32), .int (iI (F 31))])) ::
  (ad 32, .inl (g.2.1 0, 15, .inl (aI (A 32)))) ::
  (ad 33, .inr (7, [.ref (ad 34), .int (iI (F 33))])) ::
  (ad 34, .inl (g.2.1 0, 16, .inl (aI (A 34)))) ::
  (ad 35, .inr (7, [.ref (ad 36), .int (iI (F 35))])) ::
  (ad 36, .inl (g.2.1 0, 16, .inl (aI (A 36)))) ::
  (ad 37, .inr (7, [.ref (ad 38), .int (iI (F 37))])) ::
  (ad 38, .inl (g.2.1 0, 7, .inl (aI (A 38)))) ::
  (ad 39, .inr (6, [.ref (ad 4), .ref (ad 40), .int (iI (F 67)), .int (iI (F 68)), .int (iI (F 69)), .int (iI (F 70))])) ::
  (ad 40, .inr (7, [.ref (ad 41), .int (iI (F 40))])) ::
  (ad 41, .inl (g.2.1 0, 100, .inl (aI (A 41)))) ::
  (ad 42, .inr (8, [.ref (ad 3), .ref (ad 43), .ref (ad 45), .ref (ad 47), .ref (ad 49), .ref (ad 51), .ref (ad 53), .int (iI (F 71)), .int (iI (F 72)), .int (iI (F 73)), .int (iI (F 74))])) ::
  (ad 43, .inr (7, [.ref (ad 44), .int (iI (F 43))])) ::
  (ad 44, .inl (g.2.1 0, 7, .inl (aI (A 44)))) ::
  (ad 45, .inr (7, [.ref (ad 46), .int (iI (F 45))])) ::
  (ad 46, .inl (g.2.1 0, 28, .inl (aI (A 46)))) ::
  (ad 47, .inr (7, [.ref (ad 48), .int (iI (F 47))])) ::
  (ad 48, .inl (g.2.1 0, 28, .inl (aI (A 48)))) ::
  (ad 49, .inr (7, [.ref (ad 50), .int (iI (F 49))])) ::
  (ad 50, .inl (g.2.1 0, 7, .inl (aI (A 50)))) ::
  (ad 51, .inr (7, [.ref (ad 52), .int (iI (F 51))])) ::
  (ad 52, .inl (g.2.1 0, 7, .inl (aI (A 52)))) ::
  (ad 53, .inr (7, [.ref (ad 54), .int (iI (F 53))])) ::
  (ad 54, .inl (g.2.1 0, 7, .inl (aI (A 54)))) :: tl
theorem CW_tl {g : GG} {ad : Nat → Nat} {F : Nat → Int} {A : Nat → Nat → Int} {E : Nat → Nat} {tl : va_W} (k : Nat) : (CW g ad F A E tl)[55 + k]? = tl[k]? := by
  unfold CW
  rw [Nat.add_comm]
  rfl
theorem CW_set {g : GG} {ad : Nat → Nat} {F : Nat → Int} {A : Nat → Nat → Int} {E : Nat → Nat} {tl : va_W} (k : Nat) (x : Nat × va_E) : (CW g ad F A E tl).set (55 + k) x = CW g ad F A E (tl.set k x) := by
  unfold CW
  rw [Nat.add_comm]
  rfl
theorem CW_app {g : GG} {ad : Nat → Nat} {F : Nat → Int} {A : Nat → Nat → Int} {E : Nat → Nat} {tl : va_W} (x : va_W) : CW g ad F A E tl ++ x = CW g ad F A E (tl ++ x) := rfl
def cvS (st : Int) : Int := if 0 ≤ st then 1000 + (st % 8 * 3 + st / 8 % 4) * 100 + st / 32 else if st = -1 then 1 else if st = -2 then 2 else if st = -3 then 3 else if -200 < st then 10000 + (-10 - st) else 20000 + (-200 - st)
/-- a list's elements, by their addresses -/
def LsP (g : GG) (tl : va_W) (el : Nat) (D : Int) (nm : Nat → Nat) : Prop := (D = 0 ∧ el = g.2.1 3) ∨ (el ≠ g.2.1 3 ∧ ∃ (k : Nat) (f : Nat → Option Nat), tl[k]? = some (el, .inl (g.2.1 2, 10, .inr (.inr (.inr (.inr f))))) ∧ ∀ i : Nat, (i : Int) < D → f i = some (nm i))
def nmE (tr : Nat) (S : Nat → Int) (i : Int) : va_E := .inr (kci (S (7 + i).toNat), nmV tr i (S (14 + i).toNat) (S (21 + i).toNat) (S (28 + i).toNat) (S (35 + i).toNat))
def NmP (tr : Nat) (tl : va_W) (S : Nat → Int) (nm : Nat → Nat) : Prop := ∀ i : Int, 0 ≤ i → i < S 0 → ∃ k : Nat, tl[k]? = some (nm i.toNat, nmE tr S i)
def ShP (g : GG) (tr : Nat) (tl : va_W) (S : Nat → Int) (nm : Nat → Nat) (tps : Int) (tp : Nat → Int) (cds : Int) (cd : Nat → Int) (el : Nat) (ns : Int) (wh rw : Nat → Int) (sns : Int) (sn : Nat → Int) (pls : Int) (pl : Nat → Int) (bks : Int) (bk : Nat → Int) (mp wd rv : Int) : Prop :=
  (tps = S 5 ∧ ∀ i : Int, 0 ≤ i → i < S 5 → tp i.toNat = tapS S i) ∧
  (cds = manyS S ∧ ∀ i : Int, 0 ≤ i → i < manyS S → cd i.toNat = cvS (codeS S i.toNat)) ∧
  (ns = S 0 ∧ LsP g tl el (S 0) nm ∧ NmP tr tl S nm) ∧
  (∀ k : Int, 0 ≤ k → k < S 0 → wh k.toNat = S (42 + k).toNat) ∧
  (∀ i p : Int, 0 ≤ i → i < 7 → 0 ≤ p → p ≤ 3 → rw ((i * 4) + p).toNat = if i < S 0 then S (49 + 4 * i + p).toNat else 0) ∧
  (sns = 3 * S 2 ∧ ∀ k : Int, 0 ≤ k → k < S 2 → sn (3 * k).toNat = S (77 + k).toNat ∧ sn ((3 * k) + 1).toNat = S (82 + k).toNat ∧ sn ((3 * k) + 2).toNat = S (87 + k).toNat) ∧
  (pls = 2 * S 3 ∧ ∀ k : Int, 0 ≤ k → k < S 3 → pl (2 * k).toNat = S (92 + k).toNat ∧ pl ((2 * k) + 1).toNat = S (100 + k).toNat) ∧
  (bks = 2 * S 4 ∧ ∀ k : Int, 0 ≤ k → k < S 4 → bk (2 * k).toNat = S (108 + k).toNat ∧ bk ((2 * k) + 1).toNat = S (116 + k).toNat) ∧
  (mp = S 1 ∧ wd = wideS S ∧ rv = riverS S)
def ShW (g : GG) (ad : Nat → Nat) (F : Nat → Int) (A : Nat → Nat → Int) (E : Nat → Nat) (tl : va_W) (S : Nat → Int) (nm : Nat → Nat) : Prop := ShP g (ad 1) tl S nm (F 4) (A 5) (F 6) (A 7) (E 0) (F 76) (A 10) (A 12) (F 13) (A 14) (F 15) (A 16) (F 17) (A 18) (F 60) (F 61) (F 62)
def TkW (g : GG) (ad : Nat → Nat) (F : Nat → Int) (A : Nat → Nat → Int) (E : Nat → Nat) (tl : va_W) (S : Nat → Int) (nm : Nat → Nat) : Prop := ShP g (ad 1) tl S nm (F 22) (A 23) (F 24) (A 25) (E 1) (F 78) (A 28) (A 30) (F 31) (A 32) (F 33) (A 34) (F 35) (A 36) (F 63) (F 64) (F 65)
theorem nm_at {g : GG} {ad : Nat → Nat} {F : Nat → Int} {A : Nat → Nat → Int} {E : Nat → Nat} {tl : va_W} {S : Nat → Int} {nm : Nat → Nat} {H : Heap} (hP : va_P g.1 vwCl (CW g ad F A E tl) H) (hN : NmP (ad 1) tl S nm) (hI : InvD S) {i : Int} (hi : 0 ≤ i ∧ i < S 0) : nmAt g (nm i.toNat) (S (7 + i).toNat) (ad 1) i (S (14 + i).toNat) (S (21 + i).toNat) (S (28 + i).toNat) (S (35 + i).toNat) H := by
  obtain ⟨k, hk⟩ := hN i hi.1 hi.2
  exact ⟨hP (55 + k) _ (by rw [CW_tl]; exact hk), (hI.2 i hi.1 hi.2).1⟩
