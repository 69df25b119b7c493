/-! ===== methods that touch no cell ===== -/
theorem isd_int {a : Int32} : isd (.int a) = false := rfl
theorem isd_long {a : Int64} : isd (.long a) = false := rfl
theorem isd_ref {a : Nat} : isd (.ref a) = false := rfl
theorem isd_fl {a : UInt32} : isd (.float a) = false := rfl
theorem isd_jk : isd jkV = false := rfl
theorem nb0 : narrow .boolean (.int 0) = .int 0 := by decide
theorem nb1 : narrow .boolean (.int 1) = .int 1 := by decide
theorem ev_in {X : aX} {d M n : Nat} {av L : List Value} {h h' : aH} {r : Option Value} (hL : mL M = n) (ha : av.all okA = true) (hl : (lay av).length ≤ n) (he : entL n av = L) (k : aRun (aEv X d) X M (r, h') 0 L [] h) : aEv X (d + 1) M av h r h' := by
  subst hL; subst he
  exact ⟨⟨ha, hl⟩, k⟩
def inF (a b c : Int64) : Int32 := if b ≤ a ∧ a ≤ c then 1 else 0
theorem ev_Mod_in {X : aX} {d : Nat} {a b c : Int64} {h : aH} : aEv X (d + 1) m_Mod_in [.long a, .long b, .long c] h (some (.int (inF a b c))) h := by
  refine ev_in mL_Mod_in rfl (Nat.le_of_ble_eq_true rfl) rfl ?_
  show aRun _ _ _ _ 0 [.long a, j2V, .long b, j2V, .long c, j2V] [] h
  simp only [x_Mod_in_0, x_Mod_in_1, x_Mod_in_2, x_Mod_in_3, x_Mod_in_6, x_Mod_in_7, x_Mod_in_9, x_Mod_in_10, x_Mod_in_13, x_Mod_in_14, x_Mod_in_17, x_Mod_in_18, lg_cmp_lt, lg_cmp_gt, nb0, nb1, inF, Prod.mk.injEq, Option.some.injEq, Value.int.injEq, and_true, true_and]
  by_cases h1 : a < b
  · rw [if_pos h1, if_neg (fun q => absurd q.1 (Int64.not_le.mpr h1))]
  · rw [if_neg h1]
    by_cases h2 : c < a
    · rw [if_pos h2, if_neg (fun q => absurd q.2 (Int64.not_le.mpr h2))]
    · rw [if_neg h2, if_pos ⟨Int64.not_lt.mp h1, Int64.not_lt.mp h2⟩]
def hasB (s k : Int32) : Int32 := (s >>> (k &&& 31)) &&& 1
theorem ev_Mod_has {X : aX} {d : Nat} {a b : Int32} {h : aH} : aEv X (d + 1) m_Mod_has [.int a, .int b] h (some (.int (if hasB a b = 1 then 1 else 0))) h := by
  refine ev_in mL_Mod_has rfl (Nat.le_of_ble_eq_true rfl) rfl ?_
  show aRun _ _ _ _ 0 [.int a, .int b] [] h
  simp only [x_Mod_has_0, x_Mod_has_1, x_Mod_has_2, x_Mod_has_3, x_Mod_has_4, x_Mod_has_5, x_Mod_has_6, x_Mod_has_9, x_Mod_has_10, x_Mod_has_13, x_Mod_has_14, nb0, nb1, hasB, Prod.mk.injEq, Option.some.injEq, Value.int.injEq, and_true, true_and]
  by_cases h1 : a >>> (b &&& 31) &&& 1 = 1
  · simp [h1]
  · simp [h1]
theorem ev_Ht_bitOf {X : aX} {d : Nat} {a b : Int32} {h : aH} : aEv X (d + 1) m_Ht_bitOf [.int a, .int b] h (some (.int (hasB a b))) h := by
  refine ev_in mL_Ht_bitOf rfl (Nat.le_of_ble_eq_true rfl) rfl ?_
  show aRun _ _ _ _ 0 [.int a, .int b] [] h
  simp only [x_Ht_bitOf_0, x_Ht_bitOf_1, x_Ht_bitOf_2, x_Ht_bitOf_3, x_Ht_bitOf_4, x_Ht_bitOf_5, hasB]
theorem ev_Ht_isRack {X : aX} {d : Nat} {a : Int32} {h : aH} : aEv X (d + 1) m_Ht_isRack [.int a] h (some (.int (if 0 ≤ a ∧ a < 3 then 1 else 0))) h := by
  refine ev_in mL_Ht_isRack rfl (Nat.le_of_ble_eq_true rfl) rfl ?_
  show aRun _ _ _ _ 0 [.int a] [] h
  simp only [x_Ht_isRack_0, x_Ht_isRack_1, x_Ht_isRack_4, x_Ht_isRack_5, x_Ht_isRack_6, x_Ht_isRack_9, x_Ht_isRack_10, x_Ht_isRack_13, x_Ht_isRack_14, nb0, nb1, Prod.mk.injEq, Option.some.injEq, Value.int.injEq, and_true, true_and]
  by_cases h1 : a < 0
  · rw [if_pos h1, if_neg (fun q => absurd q.1 (Int32.not_le.mpr h1))]
  · rw [if_neg h1]
    by_cases h2 : 3 ≤ a
    · rw [if_pos h2, if_neg (fun q => absurd q.2 (Int32.not_lt.mpr h2))]
    · rw [if_neg h2, if_pos ⟨Int32.not_lt.mp h1, Int32.not_le.mp h2⟩]
def wbA (k : Int32) : Int32 := ([1, 0, 2, 3, 2] : List Int32).getD k.toNatClampNeg 0
def wbH (k : Int32) : Int32 := ([1, 0, 2, 0, 0] : List Int32).getD k.toNatClampNeg 0
theorem kA_0 {X : aX} : kA X 0 = some (.int, 5, fun j => ([1, 0, 2, 3, 2] : List Int32).getD j 0) := rfl
theorem kA_1 {X : aX} : kA X 1 = some (.int, 5, fun j => ([1, 0, 2, 0, 0] : List Int32).getD j 0) := rfl
theorem kA_2 {X : aX} : kA X 2 = some (.int, 6, fun j => ([-1, 0, 1, 1, 0, 4] : List Int32).getD j 0) := rfl
theorem kA_3 {X : aX} : kA X 3 = some (.int, X.1, X.2) := rfl
theorem ev_Ht_wearBy {X : aX} {d : Nat} {k e : Int32} {h : aH} (hk : vp_in k 5) : aEv X (d + 1) m_Ht_wearBy [.int k, .int e] h (some (.int (if e = 0 then wbA k else wbH k))) h := by
  refine ev_in mL_Ht_wearBy rfl (Nat.le_of_ble_eq_true rfl) rfl ?_
  show aRun _ _ _ _ 0 [.int k, .int e] [] h
  simp only [x_Ht_wearBy_0, x_Ht_wearBy_1, x_Ht_wearBy_4, x_Ht_wearBy_7, x_Ht_wearBy_8, x_Ht_wearBy_9, x_Ht_wearBy_12, x_Ht_wearBy_15, x_Ht_wearBy_16, x_Ht_wearBy_17]
  rw [x_Ht_wearBy_16k kA_0, x_Ht_wearBy_8k kA_1]
  simp only [x_Ht_wearBy_0, x_Ht_wearBy_1, x_Ht_wearBy_4, x_Ht_wearBy_7, x_Ht_wearBy_8, x_Ht_wearBy_9, x_Ht_wearBy_12, x_Ht_wearBy_15, x_Ht_wearBy_16, x_Ht_wearBy_17, hk, true_and, Prod.mk.injEq, Option.some.injEq, Value.int.injEq, and_true, wbA, wbH]
  by_cases h1 : e = 0
  · simp only [h1, if_true]
  · simp only [h1, if_false]
