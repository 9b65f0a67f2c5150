theorem ro_entryF {l : Launch} {g : GG} {y : MethodName} {cc : ByteArray} {maxL : Nat} {ret : Option FieldType} {own : String} {rm : Room} {av : List Value} {Pic : Heap → Prop} {Qc : Array Value → State → Outcome → State → Prop}
    (hy : plainFor y = true) (ho : y.cls = own) (hav : (lg_sl av).length ≤ maxL)
    (body : ∀ (p : Program) (e : Jvm.Env) (s : State) (m : MethodId) (args : Array Value) (below : List Frame) (meth : Method) (c : Code) (ls : Array Slot), Cx p s m args meth c cc maxL ret own → KU g s → EnvG g NoA s s.heap → Pic s.heap → lv_has ls maxL (lv_args 0 av) →
      W p l e rm s m args below meth c s.heap [] 0 0 (MQ below Qc args s 0 0 (fun _ => False)) (F0 m 0 ls [])) :
    Met l y (wsA y cc maxL ret) rm (ro_P g av Pic) Qc 0 0 (fun _ => False) := by
  refine va_MetF (cc := cc) (maxL := maxL) (ret := ret) hy rfl ?_
  intro p e s m args below meth c s₁ B hml hv
  obtain ⟨rfl, hK, hE, hP⟩ := hv
  have hts := atoms_spec (ws := wsA y cc maxL ret) B.pre
  have hown : s.vm.findClass own = some m.cls := by rw [← ho]; exact findClass_of_methodNamed B.named
  rw [lg_entry_eq]
  exact body p e s m _ below meth c _ ⟨B.exec, B.bytes, B.returns, hml, hown, fun w hw => hts w (List.mem_cons_of_mem _ hw), B.notSynchronized⟩ hK hE hP (lv_entry av hav)

theorem ro_startIF {l : Launch} {g : GG} {y : MethodName} {cc : ByteArray} {maxL k : Nat} {own : String} {av : List Value} {Pic : Heap → Prop} {v : Int32} (hy : plainFor y = true) (ho : y.cls = own) (hav : (lg_sl av).length ≤ maxL)
    (body : ∀ (p : Program) (e : Env) (s : State) (m : MethodId) (args : Array Value) (below : List Frame) (meth : Method) (c : Code) (ls : Array Slot) (Q : State → Prop), Cx p s m args meth c cc maxL (some .int) own → KU g s → EnvG g NoA s s.heap → Pic s.heap → lv_has ls maxL (lv_args 0 av) → (∀ (w : Int32) (pc : Nat) (ls : Array Slot), decode cc pc = .ok (.ireturn, 1) → w = v → W p l e (rmL k) s m args below meth c s.heap [] 0 0 Q (F0 m pc ls [.int w])) →
      W p l e (rmL k) s m args below meth c s.heap [] 0 0 Q (F0 m 0 ls [])) : MroI l g y cc maxL k  av Pic v := by
  refine ro_entryF hy ho hav ?_
  intro p e s m args below meth c ls hC hK hE hP hl
  refine body p e s m args below meth c ls _ hC hK hE hP hl ?_
  intro w pc ls hd hw
  exact ro_iret hC hw hd
theorem ixor_nn {a b : Int} (ha : 0 ≤ a ∧ a ≤ 2147483647) (hb : 0 ≤ b ∧ b ≤ 2147483647) : 0 ≤ ixor a b := by
  obtain ⟨x, rfl⟩ := Int.eq_ofNat_of_zero_le ha.1
  obtain ⟨y, rfl⟩ := Int.eq_ofNat_of_zero_le hb.1
  have e : iI (x : Int) ^^^ iI (y : Int) = nI (x ^^^ y) := by
    rw [iI_nat, iI_nat]
    apply Int32.toBitVec_inj.1
    show BitVec.ofNat 32 x ^^^ BitVec.ofNat 32 y = BitVec.ofNat 32 (x ^^^ y)
    apply BitVec.eq_of_getLsbD_eq
    intro i hi
    simp [hi]
  have h : x ^^^ y < 2 ^ 31 := Nat.xor_lt_two_pow (by omega) (by omega)
  show 0 ≤ (iI (x : Int) ^^^ iI (y : Int)).toInt
  rw [e, nI_toInt h]
  omega
/-- how many bits -/
def pcN (x : Nat) : Nat := x % 2 + x / 2 % 2 + x / 4 % 2 + x / 8 % 2 + x / 16 % 2 + x / 32 % 2 + x / 64 % 2
def pcI (x : Int) : Int := pcN x.toNat
theorem pcN_up : ∀ n : Nat, n < 7 → ∀ x : Nat, x < 2 ^ n → pcN (x + 2 ^ n) = pcN x + 1 := by decide +kernel
theorem pc_set (P : Int → Prop) : ∀ n : Nat, n ≤ 7 → pcI (setB P n) = cntB P n
  | 0, _ => by show pcI 0 = 0; decide
  | n + 1, h => by
    obtain ⟨x, h1, h2⟩ := setB_nat P n
    have q := pc_set P n (by omega)
    rw [h2] at q
    rcases b2_01 (P n) with e | e
    · rw [setB, cntB, e, h2, Int.zero_mul, Int.add_zero, q, Int.add_zero]
    · rw [setB, cntB, e, h2, Int.one_mul, ← q]
      have u := pcN_up n (by omega) x h1
      unfold pcI
      rw [show ((x : Int) + ((2 ^ n : Nat) : Int)).toNat = x + 2 ^ n by omega, Int.toNat_natCast, u]
      omega
theorem bc_dec : ∀ x : Nat, x < 128 → (iand (((iand (((iand ((x : Int) - (iand (iush (x : Int) 1) 1431655765)) 858993459) + (iand (iush ((x : Int) - (iand (iush (x : Int) 1) 1431655765)) 2) 858993459)) + (iush ((iand ((x : Int) - (iand (iush (x : Int) 1) 1431655765)) 858993459) + (iand (iush ((x : Int) - (iand (iush (x : Int) 1) 1431655765)) 2) 858993459)) 4)) 252645135) + (iush (iand (((iand ((x : Int) - (iand (iush (x : Int) 1) 1431655765)) 858993459) + (iand (iush ((x : Int) - (iand (iush (x : Int) 1) 1431655765)) 2) 858993459)) + (iush ((iand ((x : Int) - (iand (iush (x : Int) 1) 1431655765)) 858993459) + (iand (iush ((x : Int) - (iand (iush (x : Int) 1) 1431655765)) 2) 858993459)) 4)) 252645135) 8)) + (iush ((iand (((iand ((x : Int) - (iand (iush (x : Int) 1) 1431655765)) 858993459) + (iand (iush ((x : Int) - (iand (iush (x : Int) 1) 1431655765)) 2) 858993459)) + (iush ((iand ((x : Int) - (iand (iush (x : Int) 1) 1431655765)) 858993459) + (iand (iush ((x : Int) - (iand (iush (x : Int) 1) 1431655765)) 2) 858993459)) 4)) 252645135) + (iush (iand (((iand ((x : Int) - (iand (iush (x : Int) 1) 1431655765)) 858993459) + (iand (iush ((x : Int) - (iand (iush (x : Int) 1) 1431655765)) 2) 858993459)) + (iush ((iand ((x : Int) - (iand (iush (x : Int) 1) 1431655765)) 858993459) + (iand (iush ((x : Int) - (iand (iush (x : Int) 1) 1431655765)) 2) 858993459)) 4)) 252645135) 8)) 16)) 63) = pcI (x : Int) := by decide +kernel
theorem bc_at {x : Int} (h : 0 ≤ x ∧ x ≤ 127) : (iand (((iand (((iand (x - (iand (iush x 1) 1431655765)) 858993459) + (iand (iush (x - (iand (iush x 1) 1431655765)) 2) 858993459)) + (iush ((iand (x - (iand (iush x 1) 1431655765)) 858993459) + (iand (iush (x - (iand (iush x 1) 1431655765)) 2) 858993459)) 4)) 252645135) + (iush (iand (((iand (x - (iand (iush x 1) 1431655765)) 858993459) + (iand (iush (x - (iand (iush x 1) 1431655765)) 2) 858993459)) + (iush ((iand (x - (iand (iush x 1) 1431655765)) 858993459) + (iand (iush (x - (iand (iush x 1) 1431655765)) 2) 858993459)) 4)) 252645135) 8)) + (iush ((iand (((iand (x - (iand (iush x 1) 1431655765)) 858993459) + (iand (iush (x - (iand (iush x 1) 1431655765)) 2) 858993459)) + (iush ((iand (x - (iand (iush x 1) 1431655765)) 858993459) + (iand (iush (x - (iand (iush x 1) 1431655765)) 2) 858993459)) 4)) 252645135) + (iush (iand (((iand (x - (iand (iush x 1) 1431655765)) 858993459) + (iand (iush (x - (iand (iush x 1) 1431655765)) 2) 858993459)) + (iush ((iand (x - (iand (iush x 1) 1431655765)) 858993459) + (iand (iush (x - (iand (iush x 1) 1431655765)) 2) 858993459)) 4)) 252645135) 8)) 16)) 63) = pcI x := by
  have q := bc_dec x.toNat (by omega)
  rw [Int.toNat_of_nonneg h.1] at q
  exact q
set_option maxRecDepth 100000 in
theorem bl_dec : ∀ a : Nat, a < 46 → ∀ n : Nat, n < 15 → (iand ((((jand (((jand ((mskI (a : Int) (n : Int)) - (jand (jush (mskI (a : Int) (n : Int)) 1) 6148914691236517205)) 3689348814741910323) + (jand (jush ((mskI (a : Int) (n : Int)) - (jand (jush (mskI (a : Int) (n : Int)) 1) 6148914691236517205)) 2) 3689348814741910323)) + (jush ((jand ((mskI (a : Int) (n : Int)) - (jand (jush (mskI (a : Int) (n : Int)) 1) 6148914691236517205)) 3689348814741910323) + (jand (jush ((mskI (a : Int) (n : Int)) - (jand (jush (mskI (a : Int) (n : Int)) 1) 6148914691236517205)) 2) 3689348814741910323)) 4)) 1085102592571150095) + (jush (jand (((jand ((mskI (a : Int) (n : Int)) - (jand (jush (mskI (a : Int) (n : Int)) 1) 6148914691236517205)) 3689348814741910323) + (jand (jush ((mskI (a : Int) (n : Int)) - (jand (jush (mskI (a : Int) (n : Int)) 1) 6148914691236517205)) 2) 3689348814741910323)) + (jush ((jand ((mskI (a : Int) (n : Int)) - (jand (jush (mskI (a : Int) (n : Int)) 1) 6148914691236517205)) 3689348814741910323) + (jand (jush ((mskI (a : Int) (n : Int)) - (jand (jush (mskI (a : Int) (n : Int)) 1) 6148914691236517205)) 2) 3689348814741910323)) 4)) 1085102592571150095) 8)) + (jush ((jand (((jand ((mskI (a : Int) (n : Int)) - (jand (jush (mskI (a : Int) (n : Int)) 1) 6148914691236517205)) 3689348814741910323) + (jand (jush ((mskI (a : Int) (n : Int)) - (jand (jush (mskI (a : Int) (n : Int)) 1) 6148914691236517205)) 2) 3689348814741910323)) + (jush ((jand ((mskI (a : Int) (n : Int)) - (jand (jush (mskI (a : Int) (n : Int)) 1) 6148914691236517205)) 3689348814741910323) + (jand (jush ((mskI (a : Int) (n : Int)) - (jand (jush (mskI (a : Int) (n : Int)) 1) 6148914691236517205)) 2) 3689348814741910323)) 4)) 1085102592571150095) + (jush (jand (((jand ((mskI (a : Int) (n : Int)) - (jand (jush (mskI (a : Int) (n : Int)) 1) 6148914691236517205)) 3689348814741910323) + (jand (jush ((mskI (a : Int) (n : Int)) - (jand (jush (mskI (a : Int) (n : Int)) 1) 6148914691236517205)) 2) 3689348814741910323)) + (jush ((jand ((mskI (a : Int) (n : Int)) - (jand (jush (mskI (a : Int) (n : Int)) 1) 6148914691236517205)) 3689348814741910323) + (jand (jush ((mskI (a : Int) (n : Int)) - (jand (jush (mskI (a : Int) (n : Int)) 1) 6148914691236517205)) 2) 3689348814741910323)) 4)) 1085102592571150095) 8)) 16)) + (jush (((jand (((jand ((mskI (a : Int) (n : Int)) - (jand (jush (mskI (a : Int) (n : Int)) 1) 6148914691236517205)) 3689348814741910323) + (jand (jush ((mskI (a : Int) (n : Int)) - (jand (jush (mskI (a : Int) (n : Int)) 1) 6148914691236517205)) 2) 3689348814741910323)) + (jush ((jand ((mskI (a : Int) (n : Int)) - (jand (jush (mskI (a : Int) (n : Int)) 1) 6148914691236517205)) 3689348814741910323) + (jand (jush ((mskI (a : Int) (n : Int)) - (jand (jush (mskI (a : Int) (n : Int)) 1) 6148914691236517205)) 2) 3689348814741910323)) 4)) 1085102592571150095) + (jush (jand (((jand ((mskI (a : Int) (n : Int)) - (jand (jush (mskI (a : Int) (n : Int)) 1) 6148914691236517205)) 3689348814741910323) + (jand (jush ((mskI (a : Int) (n : Int)) - (jand (jush (mskI (a : Int) (n : Int)) 1) 6148914691236517205)) 2) 3689348814741910323)) + (jush ((jand ((mskI (a : Int) (n : Int)) - (jand (jush (mskI (a : Int) (n : Int)) 1) 6148914691236517205)) 3689348814741910323) + (jand (jush ((mskI (a : Int) (n : Int)) - (jand (jush (mskI (a : Int) (n : Int)) 1) 6148914691236517205)) 2) 3689348814741910323)) 4)) 1085102592571150095) 8)) + (jush ((jand (((jand ((mskI (a : Int) (n : Int)) - (jand (jush (mskI (a : Int) (n : Int)) 1) 6148914691236517205)) 3689348814741910323) + (jand (jush ((mskI (a : Int) (n : Int)) - (jand (jush (mskI (a : Int) (n : Int)) 1) 6148914691236517205)) 2) 3689348814741910323)) + (jush ((jand ((mskI (a : Int) (n : Int)) - (jand (jush (mskI (a : Int) (n : Int)) 1) 6148914691236517205)) 3689348814741910323) + (jand (jush ((mskI (a : Int) (n : Int)) - (jand (jush (mskI (a : Int) (n : Int)) 1) 6148914691236517205)) 2) 3689348814741910323)) 4)) 1085102592571150095) + (jush (jand (((jand ((mskI (a : Int) (n : Int)) - (jand (jush (mskI (a : Int) (n : Int)) 1) 6148914691236517205)) 3689348814741910323) + (jand (jush ((mskI (a : Int) (n : Int)) - (jand (jush (mskI (a : Int) (n : Int)) 1) 6148914691236517205)) 2) 3689348814741910323)) + (jush ((jand ((mskI (a : Int) (n : Int)) - (jand (jush (mskI (a : Int) (n : Int)) 1) 6148914691236517205)) 3689348814741910323) + (jand (jush ((mskI (a : Int) (n : Int)) - (jand (jush (mskI (a : Int) (n : Int)) 1) 6148914691236517205)) 2) 3689348814741910323)) 4)) 1085102592571150095) 8)) 16)) 32)) 127) = (n : Int) := by decide +kernel
theorem bl_at {a n : Int} (ha : 0 ≤ a ∧ a ≤ 45) (hn : 0 ≤ n ∧ n ≤ 14) : (iand ((((jand (((jand ((mskI a n) - (jand (jush (mskI a n) 1) 6148914691236517205)) 3689348814741910323) + (jand (jush ((mskI a n) - (jand (jush (mskI a n) 1) 6148914691236517205)) 2) 3689348814741910323)) + (jush ((jand ((mskI a n) - (jand (jush (mskI a n) 1) 6148914691236517205)) 3689348814741910323) + (jand (jush ((mskI a n) - (jand (jush (mskI a n) 1) 6148914691236517205)) 2) 3689348814741910323)) 4)) 1085102592571150095) + (jush (jand (((jand ((mskI a n) - (jand (jush (mskI a n) 1) 6148914691236517205)) 3689348814741910323) + (jand (jush ((mskI a n) - (jand (jush (mskI a n) 1) 6148914691236517205)) 2) 3689348814741910323)) + (jush ((jand ((mskI a n) - (jand (jush (mskI a n) 1) 6148914691236517205)) 3689348814741910323) + (jand (jush ((mskI a n) - (jand (jush (mskI a n) 1) 6148914691236517205)) 2) 3689348814741910323)) 4)) 1085102592571150095) 8)) + (jush ((jand (((jand ((mskI a n) - (jand (jush (mskI a n) 1) 6148914691236517205)) 3689348814741910323) + (jand (jush ((mskI a n) - (jand (jush (mskI a n) 1) 6148914691236517205)) 2) 3689348814741910323)) + (jush ((jand ((mskI a n) - (jand (jush (mskI a n) 1) 6148914691236517205)) 3689348814741910323) + (jand (jush ((mskI a n) - (jand (jush (mskI a n) 1) 6148914691236517205)) 2) 3689348814741910323)) 4)) 1085102592571150095) + (jush (jand (((jand ((mskI a n) - (jand (jush (mskI a n) 1) 6148914691236517205)) 3689348814741910323) + (jand (jush ((mskI a n) - (jand (jush (mskI a n) 1) 6148914691236517205)) 2) 3689348814741910323)) + (jush ((jand ((mskI a n) - (jand (jush (mskI a n) 1) 6148914691236517205)) 3689348814741910323) + (jand (jush ((mskI a n) - (jand (jush (mskI a n) 1) 6148914691236517205)) 2) 3689348814741910323)) 4)) 1085102592571150095) 8)) 16)) + (jush (((jand (((jand ((mskI a n) - (jand (jush (mskI a n) 1) 6148914691236517205)) 3689348814741910323) + (jand (jush ((mskI a n) - (jand (jush (mskI a n) 1) 6148914691236517205)) 2) 3689348814741910323)) + (jush ((jand ((mskI a n) - (jand (jush (mskI a n) 1) 6148914691236517205)) 3689348814741910323) + (jand (jush ((mskI a n) - (jand (jush (mskI a n) 1) 6148914691236517205)) 2) 3689348814741910323)) 4)) 1085102592571150095) + (jush (jand (((jand ((mskI a n) - (jand (jush (mskI a n) 1) 6148914691236517205)) 3689348814741910323) + (jand (jush ((mskI a n) - (jand (jush (mskI a n) 1) 6148914691236517205)) 2) 3689348814741910323)) + (jush ((jand ((mskI a n) - (jand (jush (mskI a n) 1) 6148914691236517205)) 3689348814741910323) + (jand (jush ((mskI a n) - (jand (jush (mskI a n) 1) 6148914691236517205)) 2) 3689348814741910323)) 4)) 1085102592571150095) 8)) + (jush ((jand (((jand ((mskI a n) - (jand (jush (mskI a n) 1) 6148914691236517205)) 3689348814741910323) + (jand (jush ((mskI a n) - (jand (jush (mskI a n) 1) 6148914691236517205)) 2) 3689348814741910323)) + (jush ((jand ((mskI a n) - (jand (jush (mskI a n) 1) 6148914691236517205)) 3689348814741910323) + (jand (jush ((mskI a n) - (jand (jush (mskI a n) 1) 6148914691236517205)) 2) 3689348814741910323)) 4)) 1085102592571150095) + (jush (jand (((jand ((mskI a n) - (jand (jush (mskI a n) 1) 6148914691236517205)) 3689348814741910323) + (jand (jush ((mskI a n) - (jand (jush (mskI a n) 1) 6148914691236517205)) 2) 3689348814741910323)) + (jush ((jand ((mskI a n) - (jand (jush (mskI a n) 1) 6148914691236517205)) 3689348814741910323) + (jand (jush ((mskI a n) - (jand (jush (mskI a n) 1) 6148914691236517205)) 2) 3689348814741910323)) 4)) 1085102592571150095) 8)) 16)) 32)) 127) = n := by
  have q := bl_dec a.toNat (by omega) n.toNat (by omega)
  rw [Int.toNat_of_nonneg ha.1, Int.toNat_of_nonneg hn.1] at q
  exact q
set_option maxHeartbeats 4000000 in
set_option maxRecDepth 100000 in
theorem c_J9_max_7cf53 (l : Launch) (g : GG) (a : Int) (b : Int) (ha : rng a) (hb : rng b) : MroI l g yJ9_max_7cf53 cJ9_max_7cf53 2 1 [.int (iI a), .int (iI b)] (fun _ => True) (iI (if a < b then b else a)) := by
  refine ro_startIF (own := RJ9) (by decide +kernel) rfl (Nat.le_of_ble_eq_true rfl) ?_
  intro Pg Ev s Mi args below Mt Cd ls Q hC hK hE hP hl hQ
  have hl : lv_has ls 2 [(0, .int (iI a)), (1, .int (iI b))] := hl
  refine li_iload_n hC hl 0 rfl dJ9_max_7cf53_0 ?_
  refine li_iload_n hC hl 1 rfl dJ9_max_7cf53_1 ?_
  refine li_icmp_lt (tgt := 9) hC (by decide) ha hb dJ9_max_7cf53_2 (fun c1 => ?_) (fun c1 => ?_)
  · refine li_iload_n hC hl 1 rfl dJ9_max_7cf53_9 ?_
    exact hQ _ _ _ dJ9_max_7cf53_10 (iI_inj (by split <;> omega))
  · refine li_iload_n hC hl 0 rfl dJ9_max_7cf53_5 ?_
    refine li_goto (tgt := 10) hC (by decide) dJ9_max_7cf53_6 ?_
    exact hQ _ _ _ dJ9_max_7cf53_10 (iI_inj (by split <;> omega))
set_option maxHeartbeats 4000000 in
set_option maxRecDepth 100000 in
theorem c_J9_min_7cf53 (l : Launch) (g : GG) (a : Int) (b : Int) (ha : rng a) (hb : rng b) : MroI l g yJ9_min_7cf53 cJ9_min_7cf53 2 1 [.int (iI a), .int (iI b)] (fun _ => True) (iI (if b < a then b else a)) := by
  refine ro_startIF (own := RJ9) (by decide +kernel) rfl (Nat.le_of_ble_eq_true rfl) ?_
  intro Pg Ev s Mi args below Mt Cd ls Q hC hK hE hP hl hQ
  have hl : lv_has ls 2 [(0, .int (iI a)), (1, .int (iI b))] := hl
  refine li_iload_n hC hl 0 rfl dJ9_min_7cf53_0 ?_
  refine li_iload_n hC hl 1 rfl dJ9_min_7cf53_1 ?_
  refine li_icmp_gt (tgt := 9) hC (by decide) ha hb dJ9_min_7cf53_2 (fun c1 => ?_) (fun c1 => ?_)
  · refine li_iload_n hC hl 1 rfl dJ9_min_7cf53_9 ?_
    exact hQ _ _ _ dJ9_min_7cf53_10 (iI_inj (by split <;> omega))
  · refine li_iload_n hC hl 0 rfl dJ9_min_7cf53_5 ?_
    refine li_goto (tgt := 10) hC (by decide) dJ9_min_7cf53_6 ?_
    exact hQ _ _ _ dJ9_min_7cf53_10 (iI_inj (by split <;> omega))
set_option maxHeartbeats 4000000 in
set_option maxRecDepth 100000 in
theorem c_J9_abs_0f7a4 (l : Launch) (g : GG) (a : Int) (ha : rng a) : MroI l g yJ9_abs_0f7a4 cJ9_abs_0f7a4 1 1 [.int (iI a)] (fun _ => True) (iI (if a < 0 then -a else a)) := by
  refine ro_startIF (own := RJ9) (by decide +kernel) rfl (Nat.le_of_ble_eq_true rfl) ?_
  intro Pg Ev s Mi args below Mt Cd ls Q hC hK hE hP hl hQ
  have hl : lv_has ls 1 [(0, .int (iI a))] := hl
  refine li_iload_n hC hl 0 rfl dJ9_abs_0f7a4_0 ?_
  refine li_if_ge (tgt := 9) hC (by decide) ha dJ9_abs_0f7a4_1 (fun c1 => ?_) (fun c1 => ?_)
  · refine li_iload_n hC hl 0 rfl dJ9_abs_0f7a4_9 ?_
    exact hQ _ _ _ dJ9_abs_0f7a4_10 (iI_inj (by split <;> omega))
  · refine li_iload_n hC hl 0 rfl dJ9_abs_0f7a4_4 ?_
    refine li_ineg hC dJ9_abs_0f7a4_5 ?_
    refine li_goto (tgt := 10) hC (by decide) dJ9_abs_0f7a4_6 ?_
    exact hQ _ _ _ dJ9_abs_0f7a4_10 (iI_inj (by split <;> omega))
set_option maxHeartbeats 4000000 in
set_option maxRecDepth 100000 in
theorem c_J9_floorDiv_7cf53 (l : Launch) (g : GG) (a : Int) (b : Int) (ha : 0 ≤ a ∧ a ≤ 2147483647) (hb : 0 < b ∧ b ≤ 2147483647) : MroI l g yJ9_floorDiv_7cf53 cJ9_floorDiv_7cf53 3 1 [.int (iI a), .int (iI b)] (fun _ => True) (iI (a / b)) := by
  refine ro_startIF (own := RJ9) (by decide +kernel) rfl (Nat.le_of_ble_eq_true rfl) ?_
  intro Pg Ev s Mi args below Mt Cd ls Q hC hK hE hP hl hQ
  have hl : lv_has ls 3 [(0, .int (iI a)), (1, .int (iI b))] := hl
  refine li_iload_n hC hl 0 rfl dJ9_floorDiv_7cf53_0 ?_
  refine li_iload_n hC hl 1 rfl dJ9_floorDiv_7cf53_1 ?_
  refine li_idivN hC (by omega) (by omega) (by omega) (by omega) dJ9_floorDiv_7cf53_2 ?_
  refine li_istore_n hC (lv' := [(2, .int (iI (a / b))), (0, .int (iI a)), (1, .int (iI b))]) hl (by decide) rfl dJ9_floorDiv_7cf53_3 (fun ls hl => ?_)
  refine li_iload_n hC hl 1 rfl dJ9_floorDiv_7cf53_4 ?_
  refine li_iload_n hC hl 2 rfl dJ9_floorDiv_7cf53_5 ?_
  refine li_ixor hC dJ9_floorDiv_7cf53_6 ?_
  refine li_if_ge (tgt := 21) hC (by decide) (rng_of _) dJ9_floorDiv_7cf53_7 (fun c1 => ?_) (fun c1 => ?_)
  · refine li_iload_n hC hl 0 rfl dJ9_floorDiv_7cf53_21 ?_
    exact hQ _ _ _ dJ9_floorDiv_7cf53_22 (iI_inj (by omega))
  · exact absurd (ixor_nn ha ⟨by omega, hb.2⟩) (by omega)
set_option maxHeartbeats 4000000 in
set_option maxRecDepth 100000 in
theorem c_J6_bitCount_0f7a4 (l : Launch) (g : GG) (x : Int) (hx : 0 ≤ x ∧ x ≤ 127) : MroI l g yJ6_bitCount_0f7a4 cJ6_bitCount_0f7a4 1 1 [.int (iI x)] (fun _ => True) (iI (pcI x)) := by
  refine ro_startI (own := RJ6) (by decide) rfl (Nat.le_of_ble_eq_true rfl) ?_
  intro Pg Ev s Mi args below Mt Cd ls Q hC hK hE hP hl hQ
  have hl : lv_has ls 1 [(0, .int (iI x))] := hl
  refine li_iload_n hC hl 0 rfl dJ6_bitCount_0f7a4_0 ?_
  refine li_iload_n hC hl 0 rfl dJ6_bitCount_0f7a4_1 ?_
  refine li_iconst hC dJ6_bitCount_0f7a4_2 ?_
  refine li_iushr hC dJ6_bitCount_0f7a4_3 ?_
  refine li_ldcw hC (z := 1431655765) kc_J6_265 rfl dJ6_bitCount_0f7a4_4 ?_
  refine li_iand hC dJ6_bitCount_0f7a4_7 ?_
  refine li_isub hC dJ6_bitCount_0f7a4_8 ?_
  refine li_istore_n hC (lv' := [(0, .int (iI (x - (iand (iush x 1) 1431655765))))]) hl (by decide) rfl dJ6_bitCount_0f7a4_9 (fun ls hl => ?_)
  refine li_iload_n hC hl 0 rfl dJ6_bitCount_0f7a4_10 ?_
  refine li_ldcw hC (z := 858993459) kc_J6_266 rfl dJ6_bitCount_0f7a4_11 ?_
  refine li_iand hC dJ6_bitCount_0f7a4_14 ?_
  refine li_iload_n hC hl 0 rfl dJ6_bitCount_0f7a4_15 ?_
  refine li_iconst hC dJ6_bitCount_0f7a4_16 ?_
  refine li_iushr hC dJ6_bitCount_0f7a4_17 ?_
  refine li_ldcw hC (z := 858993459) kc_J6_266 rfl dJ6_bitCount_0f7a4_18 ?_
  refine li_iand hC dJ6_bitCount_0f7a4_21 ?_
  refine li_iadd hC dJ6_bitCount_0f7a4_22 ?_
  refine li_istore_n hC (lv' := [(0, .int (iI ((iand (x - (iand (iush x 1) 1431655765)) 858993459) + (iand (iush (x - (iand (iush x 1) 1431655765)) 2) 858993459))))]) hl (by decide) rfl dJ6_bitCount_0f7a4_23 (fun ls hl => ?_)
  refine li_iload_n hC hl 0 rfl dJ6_bitCount_0f7a4_24 ?_
  refine li_iload_n hC hl 0 rfl dJ6_bitCount_0f7a4_25 ?_
  refine li_iconst hC dJ6_bitCount_0f7a4_26 ?_
  refine li_iushr hC dJ6_bitCount_0f7a4_27 ?_
  refine li_iadd hC dJ6_bitCount_0f7a4_28 ?_
  refine li_ldcw hC (z := 252645135) kc_J6_267 rfl dJ6_bitCount_0f7a4_29 ?_
  refine li_iand hC dJ6_bitCount_0f7a4_32 ?_
  refine li_istore_n hC (lv' := [(0, .int (iI (iand (((iand (x - (iand (iush x 1) 1431655765)) 858993459) + (iand (iush (x - (iand (iush x 1) 1431655765)) 2) 858993459)) + (iush ((iand (x - (iand (iush x 1) 1431655765)) 858993459) + (iand (iush (x - (iand (iush x 1) 1431655765)) 2) 858993459)) 4)) 252645135)))]) hl (by decide) rfl dJ6_bitCount_0f7a4_33 (fun ls hl => ?_)
  refine li_iload_n hC hl 0 rfl dJ6_bitCount_0f7a4_34 ?_
  refine li_iload_n hC hl 0 rfl dJ6_bitCount_0f7a4_35 ?_
  refine li_bipush hC (z := 8) rfl dJ6_bitCount_0f7a4_36 ?_
  refine li_iushr hC dJ6_bitCount_0f7a4_38 ?_
  refine li_iadd hC dJ6_bitCount_0f7a4_39 ?_
  refine li_istore_n hC (lv' := [(0, .int (iI ((iand (((iand (x - (iand (iush x 1) 1431655765)) 858993459) + (iand (iush (x - (iand (iush x 1) 1431655765)) 2) 858993459)) + (iush ((iand (x - (iand (iush x 1) 1431655765)) 858993459) + (iand (iush (x - (iand (iush x 1) 1431655765)) 2) 858993459)) 4)) 252645135) + (iush (iand (((iand (x - (iand (iush x 1) 1431655765)) 858993459) + (iand (iush (x - (iand (iush x 1) 1431655765)) 2) 858993459)) + (iush ((iand (x - (iand (iush x 1) 1431655765)) 858993459) + (iand (iush (x - (iand (iush x 1) 1431655765)) 2) 858993459)) 4)) 252645135) 8))))]) hl (by decide) rfl dJ6_bitCount_0f7a4_40 (fun ls hl => ?_)
  refine li_iload_n hC hl 0 rfl dJ6_bitCount_0f7a4_41 ?_
  refine li_iload_n hC hl 0 rfl dJ6_bitCount_0f7a4_42 ?_
  refine li_bipush hC (z := 16) rfl dJ6_bitCount_0f7a4_43 ?_
  refine li_iushr hC dJ6_bitCount_0f7a4_45 ?_
  refine li_iadd hC dJ6_bitCount_0f7a4_46 ?_
  refine li_istore_n hC (lv' := [(0, .int (iI (((iand (((iand (x - (iand (iush x 1) 1431655765)) 858993459) + (iand (iush (x - (iand (iush x 1) 1431655765)) 2) 858993459)) + (iush ((iand (x - (iand (iush x 1) 1431655765)) 858993459) + (iand (iush (x - (iand (iush x 1) 1431655765)) 2) 858993459)) 4)) 252645135) + (iush (iand (((iand (x - (iand (iush x 1) 1431655765)) 858993459) + (iand (iush (x - (iand (iush x 1) 1431655765)) 2) 858993459)) + (iush ((iand (x - (iand (iush x 1) 1431655765)) 858993459) + (iand (iush (x - (iand (iush x 1) 1431655765)) 2) 858993459)) 4)) 252645135) 8)) + (iush ((iand (((iand (x - (iand (iush x 1) 1431655765)) 858993459) + (iand (iush (x - (iand (iush x 1) 1431655765)) 2) 858993459)) + (iush ((iand (x - (iand (iush x 1) 1431655765)) 858993459) + (iand (iush (x - (iand (iush x 1) 1431655765)) 2) 858993459)) 4)) 252645135) + (iush (iand (((iand (x - (iand (iush x 1) 1431655765)) 858993459) + (iand (iush (x - (iand (iush x 1) 1431655765)) 2) 858993459)) + (iush ((iand (x - (iand (iush x 1) 1431655765)) 858993459) + (iand (iush (x - (iand (iush x 1) 1431655765)) 2) 858993459)) 4)) 252645135) 8)) 16))))]) hl (by decide) rfl dJ6_bitCount_0f7a4_47 (fun ls hl => ?_)
  refine li_iload_n hC hl 0 rfl dJ6_bitCount_0f7a4_48 ?_
  refine li_bipush hC (z := 63) rfl dJ6_bitCount_0f7a4_49 ?_
  refine li_iand hC dJ6_bitCount_0f7a4_51 ?_
  exact hQ _ _ _ dJ6_bitCount_0f7a4_52 (iI_inj (by exact bc_at hx))
set_option maxHeartbeats 4000000 in
set_option maxRecDepth 100000 in
theorem c_J13_bitCount_95d88 (l : Launch) (g : GG) (a : Int) (n : Int) (ha : 0 ≤ a ∧ a ≤ 45) (hn : 0 ≤ n ∧ n ≤ 14) : MroI l g yJ13_bitCount_95d88 cJ13_bitCount_95d88 2 1 [.long (jI (mskI a n))] (fun _ => True) (iI (n)) := by
  refine ro_startI (own := RJ13) (by decide) rfl (Nat.le_of_ble_eq_true rfl) ?_
  intro Pg Ev s Mi args below Mt Cd ls Q hC hK hE hP hl hQ
  have hl : lv_has ls 2 [(0, .long (jI (mskI a n)))] := hl
  refine li_lload_n hC hl 0 rfl dJ13_bitCount_95d88_0 ?_
  refine li_lload_n hC hl 0 rfl dJ13_bitCount_95d88_1 ?_
  refine li_iconst hC dJ13_bitCount_95d88_2 ?_
  refine li_lushr hC dJ13_bitCount_95d88_3 ?_
  refine li_ldc2 hC (z := 6148914691236517205) kl_J13_314 rfl dJ13_bitCount_95d88_4 ?_
  refine li_land hC dJ13_bitCount_95d88_7 ?_
  refine li_lsub hC dJ13_bitCount_95d88_8 ?_
  refine li_lstore_n hC (lv' := [(0, .long (jI ((mskI a n) - (jand (jush (mskI a n) 1) 6148914691236517205))))]) hl (by decide) rfl dJ13_bitCount_95d88_9 (fun ls hl => ?_)
  refine li_lload_n hC hl 0 rfl dJ13_bitCount_95d88_10 ?_
  refine li_ldc2 hC (z := 3689348814741910323) kl_J13_316 rfl dJ13_bitCount_95d88_11 ?_
  refine li_land hC dJ13_bitCount_95d88_14 ?_
  refine li_lload_n hC hl 0 rfl dJ13_bitCount_95d88_15 ?_
  refine li_iconst hC dJ13_bitCount_95d88_16 ?_
  refine li_lushr hC dJ13_bitCount_95d88_17 ?_
  refine li_ldc2 hC (z := 3689348814741910323) kl_J13_316 rfl dJ13_bitCount_95d88_18 ?_
  refine li_land hC dJ13_bitCount_95d88_21 ?_
  refine li_ladd hC dJ13_bitCount_95d88_22 ?_
  refine li_lstore_n hC (lv' := [(0, .long (jI ((jand ((mskI a n) - (jand (jush (mskI a n) 1) 6148914691236517205)) 3689348814741910323) + (jand (jush ((mskI a n) - (jand (jush (mskI a n) 1) 6148914691236517205)) 2) 3689348814741910323))))]) hl (by decide) rfl dJ13_bitCount_95d88_23 (fun ls hl => ?_)
  refine li_lload_n hC hl 0 rfl dJ13_bitCount_95d88_24 ?_
  refine li_lload_n hC hl 0 rfl dJ13_bitCount_95d88_25 ?_
  refine li_iconst hC dJ13_bitCount_95d88_26 ?_
  refine li_lushr hC dJ13_bitCount_95d88_27 ?_
  refine li_ladd hC dJ13_bitCount_95d88_28 ?_
  refine li_ldc2 hC (z := 1085102592571150095) kl_J13_318 rfl dJ13_bitCount_95d88_29 ?_
  refine li_land hC dJ13_bitCount_95d88_32 ?_
  refine li_lstore_n hC (lv' := [(0, .long (jI (jand (((jand ((mskI a n) - (jand (jush (mskI a n) 1) 6148914691236517205)) 3689348814741910323) + (jand (jush ((mskI a n) - (jand (jush (mskI a n) 1) 6148914691236517205)) 2) 3689348814741910323)) + (jush ((jand ((mskI a n) - (jand (jush (mskI a n) 1) 6148914691236517205)) 3689348814741910323) + (jand (jush ((mskI a n) - (jand (jush (mskI a n) 1) 6148914691236517205)) 2) 3689348814741910323)) 4)) 1085102592571150095)))]) hl (by decide) rfl dJ13_bitCount_95d88_33 (fun ls hl => ?_)
  refine li_lload_n hC hl 0 rfl dJ13_bitCount_95d88_34 ?_
  refine li_lload_n hC hl 0 rfl dJ13_bitCount_95d88_35 ?_
  refine li_bipush hC (z := 8) rfl dJ13_bitCount_95d88_36 ?_
  refine li_lushr hC dJ13_bitCount_95d88_38 ?_
  refine li_ladd hC dJ13_bitCount_95d88_39 ?_
  refine li_lstore_n hC (lv' := [(0, .long (jI ((jand (((jand ((mskI a n) - (jand (jush (mskI a n) 1) 6148914691236517205)) 3689348814741910323) + (jand (jush ((mskI a n) - (jand (jush (mskI a n) 1) 6148914691236517205)) 2) 3689348814741910323)) + (jush ((jand ((mskI a n) - (jand (jush (mskI a n) 1) 6148914691236517205)) 3689348814741910323) + (jand (jush ((mskI a n) - (jand (jush (mskI a n) 1) 6148914691236517205)) 2) 3689348814741910323)) 4)) 1085102592571150095) + (jush (jand (((jand ((mskI a n) - (jand (jush (mskI a n) 1) 6148914691236517205)) 3689348814741910323) + (jand (jush ((mskI a n) - (jand (jush (mskI a n) 1) 6148914691236517205)) 2) 3689348814741910323)) + (jush ((jand ((mskI a n) - (jand (jush (mskI a n) 1) 6148914691236517205)) 3689348814741910323) + (jand (jush ((mskI a n) - (jand (jush (mskI a n) 1) 6148914691236517205)) 2) 3689348814741910323)) 4)) 1085102592571150095) 8))))]) hl (by decide) rfl dJ13_bitCount_95d88_40 (fun ls hl => ?_)
  refine li_lload_n hC hl 0 rfl dJ13_bitCount_95d88_41 ?_
  refine li_lload_n hC hl 0 rfl dJ13_bitCount_95d88_42 ?_
  refine li_bipush hC (z := 16) rfl dJ13_bitCount_95d88_43 ?_
  refine li_lushr hC dJ13_bitCount_95d88_45 ?_
  refine li_ladd hC dJ13_bitCount_95d88_46 ?_
  refine li_lstore_n hC (lv' := [(0, .long (jI (((jand (((jand ((mskI a n) - (jand (jush (mskI a n) 1) 6148914691236517205)) 3689348814741910323) + (jand (jush ((mskI a n) - (jand (jush (mskI a n) 1) 6148914691236517205)) 2) 3689348814741910323)) + (jush ((jand ((mskI a n) - (jand (jush (mskI a n) 1) 6148914691236517205)) 3689348814741910323) + (jand (jush ((mskI a n) - (jand (jush (mskI a n) 1) 6148914691236517205)) 2) 3689348814741910323)) 4)) 1085102592571150095) + (jush (jand (((jand ((mskI a n) - (jand (jush (mskI a n) 1) 6148914691236517205)) 3689348814741910323) + (jand (jush ((mskI a n) - (jand (jush (mskI a n) 1) 6148914691236517205)) 2) 3689348814741910323)) + (jush ((jand ((mskI a n) - (jand (jush (mskI a n) 1) 6148914691236517205)) 3689348814741910323) + (jand (jush ((mskI a n) - (jand (jush (mskI a n) 1) 6148914691236517205)) 2) 3689348814741910323)) 4)) 1085102592571150095) 8)) + (jush ((jand (((jand ((mskI a n) - (jand (jush (mskI a n) 1) 6148914691236517205)) 3689348814741910323) + (jand (jush ((mskI a n) - (jand (jush (mskI a n) 1) 6148914691236517205)) 2) 3689348814741910323)) + (jush ((jand ((mskI a n) - (jand (jush (mskI a n) 1) 6148914691236517205)) 3689348814741910323) + (jand (jush ((mskI a n) - (jand (jush (mskI a n) 1) 6148914691236517205)) 2) 3689348814741910323)) 4)) 1085102592571150095) + (jush (jand (((jand ((mskI a n) - (jand (jush (mskI a n) 1) 6148914691236517205)) 3689348814741910323) + (jand (jush ((mskI a n) - (jand (jush (mskI a n) 1) 6148914691236517205)) 2) 3689348814741910323)) + (jush ((jand ((mskI a n) - (jand (jush (mskI a n) 1) 6148914691236517205)) 3689348814741910323) + (jand (jush ((mskI a n) - (jand (jush (mskI a n) 1) 6148914691236517205)) 2) 3689348814741910323)) 4)) 1085102592571150095) 8)) 16))))]) hl (by decide) rfl dJ13_bitCount_95d88_47 (fun ls hl => ?_)
  refine li_lload_n hC hl 0 rfl dJ13_bitCount_95d88_48 ?_
  refine li_lload_n hC hl 0 rfl dJ13_bitCount_95d88_49 ?_
  refine li_bipush hC (z := 32) rfl dJ13_bitCount_95d88_50 ?_
  refine li_lushr hC dJ13_bitCount_95d88_52 ?_
  refine li_ladd hC dJ13_bitCount_95d88_53 ?_
  refine li_lstore_n hC (lv' := [(0, .long (jI ((((jand (((jand ((mskI a n) - (jand (jush (mskI a n) 1) 6148914691236517205)) 3689348814741910323) + (jand (jush ((mskI a n) - (jand (jush (mskI a n) 1) 6148914691236517205)) 2) 3689348814741910323)) + (jush ((jand ((mskI a n) - (jand (jush (mskI a n) 1) 6148914691236517205)) 3689348814741910323) + (jand (jush ((mskI a n) - (jand (jush (mskI a n) 1) 6148914691236517205)) 2) 3689348814741910323)) 4)) 1085102592571150095) + (jush (jand (((jand ((mskI a n) - (jand (jush (mskI a n) 1) 6148914691236517205)) 3689348814741910323) + (jand (jush ((mskI a n) - (jand (jush (mskI a n) 1) 6148914691236517205)) 2) 3689348814741910323)) + (jush ((jand ((mskI a n) - (jand (jush (mskI a n) 1) 6148914691236517205)) 3689348814741910323) + (jand (jush ((mskI a n) - (jand (jush (mskI a n) 1) 6148914691236517205)) 2) 3689348814741910323)) 4)) 1085102592571150095) 8)) + (jush ((jand (((jand ((mskI a n) - (jand (jush (mskI a n) 1) 6148914691236517205)) 3689348814741910323) + (jand (jush ((mskI a n) - (jand (jush (mskI a n) 1) 6148914691236517205)) 2) 3689348814741910323)) + (jush ((jand ((mskI a n) - (jand (jush (mskI a n) 1) 6148914691236517205)) 3689348814741910323) + (jand (jush ((mskI a n) - (jand (jush (mskI a n) 1) 6148914691236517205)) 2) 3689348814741910323)) 4)) 1085102592571150095) + (jush (jand (((jand ((mskI a n) - (jand (jush (mskI a n) 1) 6148914691236517205)) 3689348814741910323) + (jand (jush ((mskI a n) - (jand (jush (mskI a n) 1) 6148914691236517205)) 2) 3689348814741910323)) + (jush ((jand ((mskI a n) - (jand (jush (mskI a n) 1) 6148914691236517205)) 3689348814741910323) + (jand (jush ((mskI a n) - (jand (jush (mskI a n) 1) 6148914691236517205)) 2) 3689348814741910323)) 4)) 1085102592571150095) 8)) 16)) + (jush (((jand (((jand ((mskI a n) - (jand (jush (mskI a n) 1) 6148914691236517205)) 3689348814741910323) + (jand (jush ((mskI a n) - (jand (jush (mskI a n) 1) 6148914691236517205)) 2) 3689348814741910323)) + (jush ((jand ((mskI a n) - (jand (jush (mskI a n) 1) 6148914691236517205)) 3689348814741910323) + (jand (jush ((mskI a n) - (jand (jush (mskI a n) 1) 6148914691236517205)) 2) 3689348814741910323)) 4)) 1085102592571150095) + (jush (jand (((jand ((mskI a n) - (jand (jush (mskI a n) 1) 6148914691236517205)) 3689348814741910323) + (jand (jush ((mskI a n) - (jand (jush (mskI a n) 1) 6148914691236517205)) 2) 3689348814741910323)) + (jush ((jand ((mskI a n) - (jand (jush (mskI a n) 1) 6148914691236517205)) 3689348814741910323) + (jand (jush ((mskI a n) - (jand (jush (mskI a n) 1) 6148914691236517205)) 2) 3689348814741910323)) 4)) 1085102592571150095) 8)) + (jush ((jand (((jand ((mskI a n) - (jand (jush (mskI a n) 1) 6148914691236517205)) 3689348814741910323) + (jand (jush ((mskI a n) - (jand (jush (mskI a n) 1) 6148914691236517205)) 2) 3689348814741910323)) + (jush ((jand ((mskI a n) - (jand (jush (mskI a n) 1) 6148914691236517205)) 3689348814741910323) + (jand (jush ((mskI a n) - (jand (jush (mskI a n) 1) 6148914691236517205)) 2) 3689348814741910323)) 4)) 1085102592571150095) + (jush (jand (((jand ((mskI a n) - (jand (jush (mskI a n) 1) 6148914691236517205)) 3689348814741910323) + (jand (jush ((mskI a n) - (jand (jush (mskI a n) 1) 6148914691236517205)) 2) 3689348814741910323)) + (jush ((jand ((mskI a n) - (jand (jush (mskI a n) 1) 6148914691236517205)) 3689348814741910323) + (jand (jush ((mskI a n) - (jand (jush (mskI a n) 1) 6148914691236517205)) 2) 3689348814741910323)) 4)) 1085102592571150095) 8)) 16)) 32))))]) hl (by decide) rfl dJ13_bitCount_95d88_54 (fun ls hl => ?_)
  refine li_lload_n hC hl 0 rfl dJ13_bitCount_95d88_55 ?_
  refine li_l2i hC dJ13_bitCount_95d88_56 ?_
  refine li_bipush hC (z := 127) rfl dJ13_bitCount_95d88_57 ?_
  refine li_iand hC dJ13_bitCount_95d88_59 ?_
  exact hQ _ _ _ dJ13_bitCount_95d88_60 (iI_inj (by exact bl_at ha hn))
