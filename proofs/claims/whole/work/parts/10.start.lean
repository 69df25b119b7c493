-- ===== end of PART A; then your names; then what follows =====
/-! THE CLAIM OUT OF ONE WALK OF THE LAW'S BODY. Your part is whole_start (and what it stands on); all else here is the same for every law, but numbers. -/
def R_law : String := "HookTiesLaw"
def lw_P (b : Addr) (xs : List Int32) (args : Array Value) (s : State) : Prop := args = #[.ref b] ∧ s.IntsAt b xs ∧ xs.length ≤ 2560 ∧ (Jvm.Cond.and given_1 narrow_1).before args s = true
def lw_Q (_ : Array Value) (s : State) (o : Outcome) (t : State) : Prop := o = .returned (some (.int 1)) ∧ Framed s o t [] 600000 7302250
def lw_Z (below : List Frame) (a : Array Value) (s : State) : State → Prop := fun t => ∃ o, t.status = .running ∧ Ended t below o ∧ lw_Q a s o t
/-- the law's own end, with 1 on the stack, nothing written that was there before, its room as the claim has it -/
theorem lw_ret {p : Program} {l : Launch} {e : Env} {s : State} {m : MethodId} {below : List Frame} {meth : Method} {c : Code} {b : Nat} (hx : p.tables.exec = Jvm.exec) (hb : c.code = code) (hr : meth.sig.returnType = ret) (hlocks : meth.locks = false) {pc : Nat} {H : Heap} {ls : Array Slot} (hdg : decode code pc = .ok (.ireturn, 1)) : W p l e room_1 s m #[Value.ref b] below meth c H [] 600000 7302250 (lw_Z below #[Value.ref b] s) (F0 m pc ls [.int 1]) := by
  intro T hT X
  obtain ⟨fs, hret, hrun, hended, hW, hframe⟩ := X.leave (v := some (.int 1)) (hlocks := hlocks) (fun h => by rw [hr] at h; cases h)
  have hmeth' : T.vm.method? m = some meth := X.method'
  refine ⟨T.setFrames fs, ?_, .returned (some (.int 1)), hrun, hended, rfl, ⟨_, rfl⟩, hW, hframe⟩
  jvm_step X.here [X.here.top, hx, hb, hdg, hmeth', hr, ret, narrow_b1]
  (try refine ⟨rfl, ?_⟩); (try refine ⟨rfl, ?_⟩)
  first | (intro acts; rw [hret _ acts rfl rfl rfl]) | rw [hret _ _ rfl rfl rfl]
  exact Steps.refl _
/-- what holds at the law's entry: the machine, the code, the tables' words (any of lw_tbl by 'hts w (by decide +kernel)'), the script of L ints xs at the cell b, what the Statement gives of the start (any of its parts by flat_of_before) -/
def lw_At (p : Program) (s : State) (m : MethodId) (meth : Method) (c : Code) (b L : Nat) (xs : Nat → Int32) : Prop :=
  p.tables.exec = Jvm.exec ∧ c.code = code ∧ meth.sig.returnType = ret ∧ c.maxLocals = 4 ∧ s.vm.findClass R_law = some m.cls ∧ (∀ w ∈ lw_tbl, w.before #[Value.ref b] s = true) ∧ va_X b L xs s s.heap ∧ b < s.heap.size ∧ meth.locks = false ∧ (Jvm.Cond.and given_1 narrow_1).before #[Value.ref b] s = true

/-! ===== what holds at the law's entry ===== -/
def sIx : List Nat := [38, 49, 54, 84, 86, 88, 90, 92]
def sTm (i : Nat) : Term := .string "HookTies$Text" (sIx.getD i 0)
def sLen : List Nat := strB.map List.length
abbrev FL : List Cond := flatC (Jvm.Cond.and given_1 narrow_1)
theorem str_dec : (∀ i, i < 8 → Cond.exactly (sTm i) "java/lang/String" ∈ FL ∧ Cond.eq (.field (sTm i) "java/lang/String" "coder" "B") (.int 0) ∈ FL ∧ Cond.arrayOf (.field (sTm i) "java/lang/String" "value" "[B") .byte ∈ FL ∧ Cond.eq (.length (.field (sTm i) "java/lang/String" "value" "[B")) (.int (Int32.ofNat (sLen.getD i 0))) ∈ FL ∧ ∀ j, j < sLen.getD i 0 → Cond.eq (.elem (.field (sTm i) "java/lang/String" "value" "[B") (.int (Int32.ofNat j))) (.int ((strB.getD i []).getD j 0)) ∈ FL) := by decide +kernel
theorem str_ne : ∀ i, i < 8 → ∀ j, j < 8 → i ≠ j → Cond.not (Cond.eq (sTm i) (sTm j)) ∈ FL ∨ Cond.not (Cond.eq (sTm j) (sTm i)) ∈ FL := by decide +kernel
theorem str_ref : ∀ i, i < 8 → ∃ e, lkT[i]? = some e ∧ cn e.1 = "HookTies$Text" ∧ e.2.1 = sIx.getD i 0 ∧ Cond.stringRef "HookTies$Text" e.2.1 e.2.2 ∈ lw_tbl := by
  intro i hi
  have key : ∀ i, i < 8 → cn (lkT.getD i (0, 0, "")).1 = "HookTies$Text" ∧ (lkT.getD i (0, 0, "")).2.1 = sIx.getD i 0 ∧ Cond.stringRef "HookTies$Text" (lkT.getD i (0, 0, "")).2.1 (lkT.getD i (0, 0, "")).2.2 ∈ lw_tbl := by decide +kernel
  have hl : i < lkT.length := hi
  refine ⟨lkT.getD i (0, 0, ""), ?_, key i hi⟩
  rw [List.getD_eq_getElem?_getD, List.getElem?_eq_getElem hl]
  rfl
theorem sta_dec : ∀ q ∈ sgT, Cond.laysStatic q.1 q.2.1 q.2.2.1 ∈ lw_tbl ∧ Cond.initialized q.1 ∈ lw_tbl := by decide +kernel
theorem stA_dec (nm : String) (f : List Int32) (h : (nm, f) ∈ [("WEARS_AWAY", ([1, 0, 2, 3, 2] : List Int32)), ("WEARS_HOME", [1, 0, 2, 0, 0]), ("RANK_ABOVE", [-1, 0, 1, 1, 0, 4])]) : Cond.arrayOf (.static "HookTies" nm "[I") .int ∈ FL ∧ Cond.eq (.length (.static "HookTies" nm "[I")) (.int (Int32.ofNat f.length)) ∈ FL ∧ ∀ j, j < f.length → Cond.eq (.elem (.static "HookTies" nm "[I") (.int (Int32.ofNat j))) (.int (f.getD j 0)) ∈ FL := by
  simp only [List.mem_cons, List.not_mem_nil, or_false, Prod.mk.injEq] at h
  rcases h with ⟨rfl, rfl⟩ | ⟨rfl, rfl⟩ | ⟨rfl, rfl⟩
  · decide +kernel
  · decide +kernel
  · decide +kernel
theorem int_dec : Cond.eq (.static "java/lang/String" "COMPACT_STRINGS" "Z") (.int 1) ∈ FL ∧ Cond.eq (.static "java/lang/StringUTF16" "$assertionsDisabled" "Z") (.int 1) ∈ FL ∧ Cond.eq (.static "java/lang/StringUTF16" "HI_BYTE_SHIFT" "I") (.int 0) ∈ FL ∧ Cond.eq (.static "java/lang/StringUTF16" "LO_BYTE_SHIFT" "I") (.int 8) ∈ FL ∧ Cond.isRef (.static "jdk/internal/util/Preconditions" "SIOOBE_FORMATTER" "Ljava/util/function/BiFunction;") ∈ FL := by decide +kernel
theorem arr_dec : Cond.arrayClass .int ∈ lw_tbl ∧ Cond.arrayClass .boolean ∈ lw_tbl ∧ Cond.arrayClass .char ∈ lw_tbl ∧ Cond.arrayOver (.object "HookTies$State") ∈ lw_tbl ∧ Cond.arrayOver (.object "HookTies$Rack") ∈ lw_tbl := by decide +kernel
theorem cls_dec : ∀ r ∈ cls, Cond.instantiable r.1 r.2.2 ∈ lw_tbl ∧ ∀ w ∈ u_ws r.1 r.2.1 r.2.2, w ∈ lw_tbl := by decide +kernel
theorem start_EV {p : Program} {s : State} {m : MethodId} {meth : Method} {c : Code} {b L : Nat} {xs : Nat → Int32} (hL : L ≤ 2560) (C0 : lw_At p s m meth c b L xs) : ∃ (D : va_G) (ac : FieldType → ClassId) (kv : UInt32 → Value), EV (L, xs) D ac s.heap.size kv s ∧ kv 3 = .ref b := by
  obtain ⟨hx, hb, hr, hml, hown, hts, hX, hbl, hlocks, hgv⟩ := C0
  have hs := flat_of_before _ hgv
  have hA : ∀ a : Nat, a < s.heap.size → ¬ (fun z => s.heap.size ≤ z) a := fun a h1 h2 => Nat.not_le.mpr h1 h2
  -- classes
  have hcl : ∀ ci : Nat, ∃ q : ClassId × (Nat → Nat), ∀ r, cls[ci]? = some r → u_Kn s r.1 r.2.1 r.2.2 q.1 q.2 := by
    intro ci
    cases hc : cls[ci]? with
    | none => exact ⟨(0, fun _ => 0), fun r h => by cases h⟩
    | some r =>
      obtain ⟨h1, h2⟩ := cls_dec r (List.mem_of_getElem? hc)
      obtain ⟨c0, iS, hK⟩ := u_known (C := r.1) (T := r.2.1) (N := r.2.2) (n := r.2.2) hts h2 (hts _ h1)
      exact ⟨(c0, iS), fun r' h => by cases h; exact hK⟩
  obtain ⟨dq, hdq⟩ := Classical.axiomOfChoice hcl
  -- classes of rows
  have hac : ∀ t : FieldType, ∃ cA : ClassId, t ∈ tyL → ArrOfT s cA t ∧ va_RA s cA t := by
    intro t
    by_cases ht : t ∈ tyL
    · obtain ⟨w1, w2, w3, w4, w5⟩ := arr_dec
      simp only [tyL, List.mem_cons, List.not_mem_nil, or_false] at ht
      rcases ht with rfl | rfl | rfl | rfl | rfl
      · obtain ⟨cA, k, comp, f1, f2, f3⟩ := Cond.arrayClass_spec (hts _ w1)
        exact ⟨cA, fun _ => ⟨fun n z => ⟨fun k h => (by cases h), k, f2, comp, f3⟩, f1⟩⟩
      · obtain ⟨cA, k, comp, f1, f2, f3⟩ := Cond.arrayClass_spec (hts _ w2)
        exact ⟨cA, fun _ => ⟨fun n z => ⟨fun k h => (by cases h), k, f2, comp, f3⟩, f1⟩⟩
      · obtain ⟨cA, k, comp, f1, f2, f3⟩ := Cond.arrayClass_spec (hts _ w3)
        exact ⟨cA, fun _ => ⟨fun n z => ⟨fun k h => (by cases h), k, f2, comp, f3⟩, f1⟩⟩
      · obtain ⟨comp, cA, k, f1, -, f2, f3, f4⟩ := Cond.arrayOver_spec (hts _ w4)
        exact ⟨cA, fun _ => ⟨fun n z => ⟨fun k h => (by cases h), k, f2, comp, f3⟩, k, comp, f2, f3, f1, f4⟩⟩
      · obtain ⟨comp, cA, k, f1, -, f2, f3, f4⟩ := Cond.arrayOver_spec (hts _ w5)
        exact ⟨cA, fun _ => ⟨fun n z => ⟨fun k h => (by cases h), k, f2, comp, f3⟩, k, comp, f2, f3, f1, f4⟩⟩
    · exact ⟨0, fun h => absurd h ht⟩
  obtain ⟨ac, hac⟩ := Classical.axiomOfChoice hac
  -- statics
  have sta : ∀ (nm : String) (f : List Int32), (nm, f) ∈ [("WEARS_AWAY", ([1, 0, 2, 3, 2] : List Int32)), ("WEARS_HOME", [1, 0, 2, 0, 0]), ("RANK_ABOVE", [-1, 0, 1, 1, 0, 4])] → f.length < 100 → ∃ t : Nat, (Term.static "HookTies" nm "[I").eval #[Value.ref b] s none [] s = some (.ref t) ∧ va_T .int t f.length (fun j => .int (f.getD j 0)) (fun z => s.heap.size ≤ z) s s.heap := by
    intro nm f hm hf
    obtain ⟨w1, w2, w3⟩ := stA_dec nm f hm
    exact va_Tof (f := fun j => .int (f.getD j 0)) (by omega) (hs _ w1) (va_eqt (hs _ w2)) (fun j hj => va_eqt (hs _ (w3 j hj))) hA
  obtain ⟨t0, e0, hT0⟩ := sta "WEARS_AWAY" [1, 0, 2, 3, 2] (by simp) (by decide)
  obtain ⟨t1, e1, hT1⟩ := sta "WEARS_HOME" [1, 0, 2, 0, 0] (by simp) (by decide)
  obtain ⟨t2, e2, hT2⟩ := sta "RANK_ABOVE" [-1, 0, 1, 1, 0, 4] (by simp) (by decide)
  obtain ⟨i1, i2, i3, i4, i5⟩ := int_dec
  -- Strings
  obtain ⟨adK, adV, hSS, hSe⟩ := vk_Sof (args := #[Value.ref b]) (s := s) (N := 8) (tm := sTm) (len := sLen) (byt := strB) (A := fun z => s.heap.size ≤ z) (by decide) (fun i hi => hs _ (str_dec i hi).1) (fun i hi => hs _ (str_dec i hi).2.1) (fun i hi => hs _ (str_dec i hi).2.2.1) (fun i hi => hs _ (str_dec i hi).2.2.2.1) (fun i hi j hj => hs _ ((str_dec i hi).2.2.2.2 j hj)) (fun i j hi hj hij => (str_ne i hi j hj hij).elim (fun h => Or.inl (hs _ h)) (fun h => Or.inr (hs _ h))) hA
  -- the formatter
  obtain ⟨q5, h5, h5z⟩ : ∃ q5 : Value, (q5 = .null ∨ ∃ t : Nat, q5 = .ref t) ∧ va_Z "jdk/internal/util/Preconditions" "SIOOBE_FORMATTER" "Ljava/util/function/BiFunction;" q5 (fun z => s.heap.size ≤ z) s s.heap := by
    have w := sta_dec ("jdk/internal/util/Preconditions", "SIOOBE_FORMATTER", "Ljava/util/function/BiFunction;", .float 5) (by decide +kernel)
    rcases va_Zqof (hts _ w.1) (hts _ w.2) (hs _ i5) hA with h | ⟨t, h⟩
    · exact ⟨_, Or.inl rfl, h⟩
    · exact ⟨_, Or.inr ⟨t, rfl⟩, h⟩
  generalize hkv : (fun c : UInt32 => if c = 0 then Value.ref t0 else if c = 1 then .ref t1 else if c = 2 then .ref t2 else if c = 3 then .ref b else if c = 5 then q5 else if 10 ≤ c.toNat ∧ c.toNat < 18 then .ref (adK (c.toNat - 10)) else if 20 ≤ c.toNat ∧ c.toNat < 28 then .ref (adV (c.toNat - 20)) else .null) = kv
  have kv0 : kv 0 = .ref t0 := by rw [← hkv]; rfl
  have kv1 : kv 1 = .ref t1 := by rw [← hkv]; rfl
  have kv2 : kv 2 = .ref t2 := by rw [← hkv]; rfl
  have kv3 : kv 3 = .ref b := by rw [← hkv]; rfl
  have kv5 : kv 5 = q5 := by rw [← hkv]; rfl
  have kvS : ∀ i, i < 8 → kv (sid i) = .ref (adK i) := by
    intro i hi
    rw [← hkv]
    have key : ∀ i, i < 8 → sid i ≠ 0 ∧ sid i ≠ 1 ∧ sid i ≠ 2 ∧ sid i ≠ 3 ∧ sid i ≠ 5 ∧ (10 ≤ (sid i).toNat ∧ (sid i).toNat < 18) ∧ (sid i).toNat - 10 = i := by decide
    obtain ⟨a1, a2, a3, a4, a5, a6, a7⟩ := key i hi
    simp only [if_neg a1, if_neg a2, if_neg a3, if_neg a4, if_neg a5, if_pos a6, a7]
  have kvB : ∀ c : UInt32, 20 ≤ c.toNat ∧ c.toNat < 28 → kv c = .ref (adV (c.toNat - 20)) := by
    intro c hc
    rw [← hkv]
    have a1 : c ≠ 0 := fun q => by rw [q] at hc; exact absurd hc.1 (by decide)
    have a2 : c ≠ 1 := fun q => by rw [q] at hc; exact absurd hc.1 (by decide)
    have a3 : c ≠ 2 := fun q => by rw [q] at hc; exact absurd hc.1 (by decide)
    have a4 : c ≠ 3 := fun q => by rw [q] at hc; exact absurd hc.1 (by decide)
    have a5 : c ≠ 5 := fun q => by rw [q] at hc; exact absurd hc.1 (by decide)
    have a6 : ¬ (10 ≤ c.toNat ∧ c.toNat < 18) := by omega
    simp only [if_neg a1, if_neg a2, if_neg a3, if_neg a4, if_neg a5, if_neg a6, if_pos hc]
  refine ⟨(fun k => (dq k).1, fun k => (dq k).2), ac, kv, ⟨Nat.le_refl _, ⟨fun ci r h => hdq ci r h, fun k q h => ?_⟩, ⟨va_AO.of (hts _ arr_dec.2.2.2.1), va_AO.of (hts _ arr_dec.2.2.2.2)⟩, fun w hw => ?_, fun c q hc => ?_, fun q hq => ?_, fun i hi => ?_, fun c => ?_⟩, kv3⟩
  · unfold tyK at h
    rw [List.getElem?_map] at h
    cases ht : tyL[k]? with
    | none => rw [ht] at h; cases h
    | some t =>
      rw [ht] at h
      cases h
      exact hac t (List.mem_of_getElem? ht)
  · have hn := (List.mem_filter.mp hw)
    have h0 := hts w hn.1
    cases w <;> first | (simp [isNest] at hn; done) | exact va_Nw.of rfl h0
  · unfold kA at hc
    split at hc
    · next e => cases hc; subst e; exact ⟨t0, kv0, hT0⟩
    split at hc
    · next e => cases hc; subst e; exact ⟨t1, kv1, hT1⟩
    split at hc
    · next e => cases hc; subst e; exact ⟨t2, kv2, hT2⟩
    split at hc
    · next e =>
      cases hc
      subst e
      obtain ⟨scr, h1, h2, h3, h4, h5⟩ := hX
      exact ⟨b, kv3, scr, h1, h2, h3, Nat.le_of_eq h4.symm, by rw [h4] <;> rfl, h5, fun q => Nat.not_le.mpr hbl q⟩
    split at hc
    · next e =>
      cases hc
      have hi : c.toNat - 20 < 8 := by omega
      refine ⟨adV (c.toNat - 20), kvB c e, ?_⟩
      have := (hSS.1 (c.toNat - 20) hi).2.2.2
      have hlen : sLen.getD (c.toNat - 20) 0 = (strB.getD (c.toNat - 20) []).length := by
        have key : ∀ i, i < 8 → sLen.getD i 0 = (strB.getD i []).length := by decide
        exact key _ hi
      rw [hlen] at this
      exact this
    · cases hc
  · have w := sta_dec q hq
    simp only [sgT, List.mem_cons, List.not_mem_nil, or_false] at hq
    rcases hq with rfl | rfl | rfl | rfl | rfl | rfl | rfl | rfl
    all_goals first
      | exact va_Zof (hts _ w.1) (hts _ w.2) (va_eqi (hs _ i1)) hA
      | exact va_Zof (hts _ w.1) (hts _ w.2) (va_eqi (hs _ i2)) hA
      | exact va_Zof (hts _ w.1) (hts _ w.2) (va_eqi (hs _ i3)) hA
      | exact va_Zof (hts _ w.1) (hts _ w.2) (va_eqi (hs _ i4)) hA
      | (show va_Z _ _ _ (kv 0) _ _ _; rw [kv0]; exact va_Zref (hts _ w.1) (hts _ w.2) e0 hA)
      | (show va_Z _ _ _ (kv 1) _ _ _; rw [kv1]; exact va_Zref (hts _ w.1) (hts _ w.2) e1 hA)
      | (show va_Z _ _ _ (kv 2) _ _ _; rw [kv2]; exact va_Zref (hts _ w.1) (hts _ w.2) e2 hA)
      | (show va_Z _ _ _ (kv 5) _ _ _; rw [kv5]; exact h5z)
  · obtain ⟨g1, g2, g3, g4⟩ := hSS.1 i hi
    refine ⟨adK i, kvS i hi, g1, g2, ?_, fun e' he => ?_⟩
    · have hb9 : kv (bid i) = .ref (adV i) := by
        have key : ∀ i, i < 8 → (20 ≤ (bid i).toNat ∧ (bid i).toNat < 28) ∧ (bid i).toNat - 20 = i := by decide
        obtain ⟨k1, k2⟩ := key i hi
        rw [kvB _ k1, k2]
      rw [hb9]
      exact g3
    · obtain ⟨e9, f1, f2, f3, f4⟩ := str_ref i hi
      cases he.symm.trans f1
      rw [f2]
      have hev := hSe i hi
      unfold sTm at hev
      rw [← f3] at hev
      exact vk_R.of (hts _ f4) (by rw [Term.string_eval_of_vm (args := #[]) (U := s) rfl] ; exact hev)
  · rw [← hkv]
    dsimp only
    split
    · exact Or.inr ⟨_, rfl⟩
    split
    · exact Or.inr ⟨_, rfl⟩
    split
    · exact Or.inr ⟨_, rfl⟩
    split
    · exact Or.inr ⟨_, rfl⟩
    split
    · exact h5
    split
    · exact Or.inr ⟨_, rfl⟩
    split
    · exact Or.inr ⟨_, rfl⟩
    · exact Or.inl rfl
