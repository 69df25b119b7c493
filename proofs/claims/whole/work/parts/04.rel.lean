/-! ===== what the machine's heap holds, by the abstract one ===== -/
def cv (b0 : Nat) (kv : UInt32 → Value) : Value → Value
  | .ref k => .ref (b0 + k)
  | .float c => kv c
  | .int a => .int a
  | .long a => .long a
  | .double a => .double a
  | .null => .null
  | .retAddr a => .retAddr a
def cE (ac : FieldType → ClassId) (b0 : Nat) (kv : UInt32 → Value) : aE → va_E
  | .inl (ty, n, .inl f) => .inl (ac ty, n, .inl f)
  | .inl (ty, n, .inr g) => .inl (ac ty, n, .inr (.inr (.inr (.inr (fun j => (g j).map (fun k => b0 + k))))))
  | .inr (ci, fs) => .inr (ci, fs.map (cv b0 kv))
def cW (ac : FieldType → ClassId) (b0 : Nat) (kv : UInt32 → Value) (h : aH) : va_W := (List.range (hn h)).map (fun k => (b0 + k, cE ac b0 kv (hg h k)))
def tyL : List FieldType := [.int, .boolean, .char, .object "HookTies$State", .object "HookTies$Rack"]
def tyOk (e : aE) : Prop := ∀ q, e = .inl q → q.1 ∈ tyL
def HR (D : va_G) (ac : FieldType → ClassId) (b0 : Nat) (kv : UInt32 → Value) (h : aH) (H : Heap) : Prop := ((∀ k, hn h ≤ k → hg h k = aJ) ∧ ∀ k, tyOk (hg h k)) ∧ va_P D cls (cW ac b0 kv h) H ∧ H.size = b0 + hn h
theorem cW_get {ac : FieldType → ClassId} {b0 : Nat} {kv : UInt32 → Value} {h : aH} {k : Nat} (hk : k < hn h) : (cW ac b0 kv h)[k]? = some (b0 + k, cE ac b0 kv (hg h k)) := by
  simp [cW, hk]
theorem cW_len {ac : FieldType → ClassId} {b0 : Nat} {kv : UInt32 → Value} {h : aH} : (cW ac b0 kv h).length = hn h := by
  simp [cW]
theorem cW_hs {ac : FieldType → ClassId} {b0 : Nat} {kv : UInt32 → Value} {h : aH} {k : Nat} {e : aE} (hk : k < hn h) : cW ac b0 kv (hs h k e) = (cW ac b0 kv h).set k (b0 + k, cE ac b0 kv e) := by
  apply List.ext_getElem?
  intro j
  by_cases hj : j < hn h
  · rw [cW_get (show j < hn (hs h k e) from hj), hg_hs]
    by_cases hjk : j = k
    · subst hjk
      rw [List.getElem?_set_self (by rw [cW_len]; exact hj), if_pos rfl]
    · rw [List.getElem?_set_ne (Ne.symm hjk), cW_get hj, if_neg hjk]
  · rw [List.getElem?_eq_none (by rw [cW_len]; exact Nat.not_lt.mp hj), List.getElem?_eq_none (by rw [List.length_set, cW_len]; exact Nat.not_lt.mp hj)]
theorem cW_hp {ac : FieldType → ClassId} {b0 : Nat} {kv : UInt32 → Value} {h : aH} {z : Nat} {e : aE} : cW ac b0 kv (hp h z e) = cW ac b0 kv h ++ [(b0 + hn h, cE ac b0 kv e)] := by
  unfold cW
  rw [hn_hp, List.range_succ, List.map_append]
  congr 1
  · apply List.map_congr_left
    intro k hk
    have hk' := List.mem_range.mp hk
    rw [hg_hp, if_neg (Nat.ne_of_lt hk')]
  · rw [List.map_cons, List.map_nil, hg_hp, if_pos rfl]
theorem cW_D {ac : FieldType → ClassId} {b0 : Nat} {kv : UInt32 → Value} (h : aH) : va_D (fun q : Nat => b0 ≤ q) (cW ac b0 kv h) := by
  have key : ∀ (k : Nat) (q : Nat × va_E), (cW ac b0 kv h)[k]? = some q → q.1 = b0 + k := by
    intro k q hk
    have hlt := (List.getElem?_eq_some_iff.mp hk).1
    rw [cW_len] at hlt
    rw [cW_get hlt] at hk
    cases hk
    rfl
  refine ⟨fun i j p q hi hj e => ?_, fun k q hk => ?_⟩
  · rw [key i p hi, key j q hj] at e
    omega
  · rw [key k q hk]
    exact Nat.le_add_right _ _
theorem hg_lt {D : va_G} {ac : FieldType → ClassId} {b0 : Nat} {kv : UInt32 → Value} {h : aH} {H : Heap} (hR : HR D ac b0 kv h H) {k : Nat} (hk : hg h k ≠ aJ) : k < hn h := by
  rcases Nat.lt_or_ge k (hn h) with q | q
  · exact q
  · exact absurd (hR.1.1 k q) hk
theorem HR_get {D : va_G} {ac : FieldType → ClassId} {b0 : Nat} {kv : UInt32 → Value} {h : aH} {H : Heap} (hR : HR D ac b0 kv h H) {k : Nat} {e : aE} (hk : hg h k = e) (he : e ≠ aJ) : k < hn h ∧ (cW ac b0 kv h)[k]? = some (b0 + k, cE ac b0 kv e) := by
  have hl := hg_lt hR (by rw [hk]; exact he)
  exact ⟨hl, by rw [cW_get hl, hk]⟩
theorem HR_hs {D : va_G} {ac : FieldType → ClassId} {b0 : Nat} {kv : UInt32 → Value} {h : aH} {H H1 : Heap} (hR : HR D ac b0 kv h H) {k : Nat} {e : aE} (hk : k < hn h) (hty : tyOk e) (hP : va_P D cls ((cW ac b0 kv h).set k (b0 + k, cE ac b0 kv e)) H1) (hz1 : H1.size = H.size) : HR D ac b0 kv (hs h k e) H1 := by
  refine ⟨⟨fun j hj => ?_, fun j => ?_⟩, by rw [cW_hs hk]; exact hP, hz1.trans hR.2.2⟩
  · have hj' : hn h ≤ j := hj
    rw [hg_hs, if_neg (by omega)]
    exact hR.1.1 j hj'
  · rw [hg_hs]
    by_cases hj : j = k
    · rw [if_pos hj]; exact hty
    · rw [if_neg hj]; exact hR.1.2 j
theorem HR_hp {D : va_G} {ac : FieldType → ClassId} {b0 : Nat} {kv : UInt32 → Value} {h : aH} {H H1 : Heap} (hR : HR D ac b0 kv h H) {z : Nat} {e : aE} (hty : tyOk e) (hP : va_P D cls (cW ac b0 kv h ++ [(b0 + hn h, cE ac b0 kv e)]) H1) (hz1 : H1.size = H.size + 1) : HR D ac b0 kv (hp h z e) H1 := by
  refine ⟨⟨fun j hj => ?_, fun j => ?_⟩, by rw [cW_hp]; exact hP, by rw [hz1, hR.2.2, hn_hp]; omega⟩
  · rw [hn_hp] at hj
    rw [hg_hp, if_neg (by omega)]
    exact hR.1.1 j (by omega)
  · rw [hg_hp]
    by_cases hj : j = hn h
    · rw [if_pos hj]; exact hty
    · rw [if_neg hj]; exact hR.1.2 j
theorem tyOk_r {q : Nat × List Value} : tyOk (.inr q) := fun _ e => by cases e
theorem tyOk_l {q : FieldType × Nat × ((Nat → Int32) ⊕ (Nat → Option Nat))} (h : q.1 ∈ tyL) : tyOk (.inl q) := fun _ e => by cases e; exact h
/-! ===== what stays the same all the time ===== -/
def tyK (ac : FieldType → ClassId) : List (ClassId × FieldType) := tyL.map (fun t => (ac t, t))
def isNest : Cond → Bool
  | .methodLinkNest .. => true
  | .fieldLinkNest .. => true
  | _ => false
def nwl : List Cond := lw_tbl.filter isNest
def sid (i : Nat) : UInt32 := UInt32.ofNat (10 + i)
def bid (i : Nat) : UInt32 := UInt32.ofNat (20 + i)
def EV (X : aX) (D : va_G) (ac : FieldType → ClassId) (b0 : Nat) (kv : UInt32 → Value) (U : State) : Prop :=
  b0 ≤ U.heap.size ∧ va_K D cls (tyK ac) U ∧ (va_AO "HookTies$State" U ∧ va_AO "HookTies$Rack" U) ∧ (∀ w ∈ nwl, va_Nw w U) ∧
  (∀ (c : UInt32) (q : FieldType × Nat × (Nat → Int32)), kA X c = some q → ∃ t : Nat, kv c = .ref t ∧ va_T q.1 t q.2.1 (fun j => .int (q.2.2 j)) (fun z => b0 ≤ z) U U.heap) ∧
  (∀ q ∈ sgT, va_Z q.1 q.2.1 q.2.2.1 (cv b0 kv q.2.2.2) (fun z => b0 ≤ z) U U.heap) ∧
  (∀ i : Nat, i < 8 → ∃ t : Nat, kv (sid i) = .ref t ∧ va_O "java/lang/String" t (fun z => b0 ≤ z) U U.heap ∧ va_OF "java/lang/String" "coder" "B" (.int 0) t (fun z => b0 ≤ z) U U.heap ∧ va_OF "java/lang/String" "value" "[B" (kv (bid i)) t (fun z => b0 ≤ z) U U.heap ∧ ∀ e, lkT[i]? = some e → vk_R (cn e.1) e.2.1 e.2.2 t U) ∧
  (∀ c : UInt32, kv c = .null ∨ ∃ t : Nat, kv c = .ref t)
theorem EV.moved {X : aX} {D : va_G} {ac : FieldType → ClassId} {b0 : Nat} {kv : UInt32 → Value} {s U : State} (h : EV X D ac b0 kv s) (hW : s.WarmedH U.vm) (hb : b0 ≤ U.heap.size) (hq : ∀ q : Nat, q < s.heap.size → ¬ b0 ≤ q → U.heap[q]? = s.heap[q]?) : EV X D ac b0 kv U := by
  obtain ⟨h1, h2, h3, h4, h5, h6, h7, h8⟩ := h
  have ha := hW.alike
  refine ⟨hb, va_K.moved ha h2, ⟨va_AO.moved ha h3.1, va_AO.moved ha h3.2⟩, fun w hw => ?_, fun c q hc => ?_, fun q hq' => ?_, fun i hi => ?_, h8⟩
  · have hn := (List.mem_filter.mp hw).2
    have h0 := h4 w hw
    cases w <;> first | (simp [isNest] at hn; done) | exact va_Nw.warmM hW h0 | exact va_Nw.warmF hW h0
  · obtain ⟨t, e, hT⟩ := h5 c q hc
    exact ⟨t, e, va_T.moved ha (hT.kept hq)⟩
  · exact va_Z.moved ha ((h6 q hq').kept hq)
  · obtain ⟨t, e, g1, g2, g3, g4⟩ := h7 i hi
    exact ⟨t, e, va_O.moved ha (g1.kept hq), va_OF.moved ha (g2.kept hq), va_OF.moved ha (g3.kept hq), fun e' he => vk_R.warm hW (g4 e' he)⟩
theorem EV.same {X : aX} {D : va_G} {ac : FieldType → ClassId} {b0 : Nat} {kv : UInt32 → Value} {u U : State} (h : EV X D ac b0 kv u) (hv : u.vm = U.vm) (hh : u.heap = U.heap) : EV X D ac b0 kv U := by
  obtain ⟨h1, h2, h3, h4, h5, h6, h7, h8⟩ := h
  have ha : u.vm.Alike U.vm := by rw [hv]; exact Vm.Alike.refl _
  refine ⟨by rw [← hh]; exact h1, va_K.moved ha h2, ⟨va_AO.moved ha h3.1, va_AO.moved ha h3.2⟩, fun w hw => ?_, fun c q hc => ?_, fun q hq' => ?_, fun i hi => ?_, h8⟩
  · have hn := (List.mem_filter.mp hw).2
    have h0 := h4 w hw
    cases w <;> first | (simp [isNest] at hn; done) | exact va_Nw.same rfl hv h0
  · obtain ⟨t, e, hT⟩ := h5 c q hc
    exact ⟨t, e, by rw [← hh]; exact va_T.moved ha hT⟩
  · rw [← hh]; exact va_Z.moved ha (h6 q hq')
  · obtain ⟨t, e, g1, g2, g3, g4⟩ := h7 i hi
    rw [← hh]
    exact ⟨t, e, va_O.moved ha g1, va_OF.moved ha g2, va_OF.moved ha g3, fun e' he => vk_R.same hv.symm (g4 e' he)⟩
/-! ===== locals ===== -/
def njk : Value → Bool
  | .double _ => false
  | _ => true
def LR (b0 : Nat) (kv : UInt32 → Value) (ls : Array Slot) (n : Nat) (L : List Value) : Prop := ls.size = n ∧ L.length = n ∧ lv_wf ls ∧ (∀ (i : Nat) (v : Value), L[i]? = some v → njk v = true → ls[i]? = some (.val (cv b0 kv v))) ∧ ∀ (i : Nat) (x : Int64), L[i]? = some (.long x) → L[i + 1]? = some j2V
/-- the list of what is known of the locals, as the kit's rows take it -/
def lkn (b0 : Nat) (kv : UInt32 → Value) (L : List Value) : List (Nat × Value) := (List.range L.length).filterMap (fun i => match L[i]? with
  | some v => if njk v then some (i, cv b0 kv v) else none
  | none => none)
theorem lkn_mem {b0 : Nat} {kv : UInt32 → Value} {L : List Value} {q : Nat × Value} : q ∈ lkn b0 kv L ↔ ∃ v, L[q.1]? = some v ∧ njk v = true ∧ q.2 = cv b0 kv v := by
  unfold lkn
  rw [List.mem_filterMap]
  constructor
  · rintro ⟨i, hi, h⟩
    cases hv : L[i]? with
    | none => rw [hv] at h; cases h
    | some v =>
      rw [hv] at h
      dsimp only at h
      by_cases hj : njk v = true
      · rw [if_pos hj] at h
        cases h
        exact ⟨v, hv, hj, rfl⟩
      · rw [if_neg hj] at h
        cases h
  · rintro ⟨v, h1, h2, h3⟩
    refine ⟨q.1, List.mem_range.mpr (List.getElem?_eq_some_iff.mp h1).1, ?_⟩
    rw [h1]
    dsimp only
    rw [if_pos h2, ← h3]
theorem LR.has {b0 : Nat} {kv : UInt32 → Value} {ls : Array Slot} {n : Nat} {L : List Value} (h : LR b0 kv ls n L) : lv_has ls n (lkn b0 kv L) := by
  obtain ⟨h1, h2, h3, h4, h5⟩ := h
  refine ⟨h1, h3, fun q hq => ?_⟩
  obtain ⟨v, g1, g2, g3⟩ := lkn_mem.mp hq
  rw [g3]
  exact h4 q.1 v g1 g2
theorem cv_cat {b0 : Nat} {kv : UInt32 → Value} (hk : ∀ c : UInt32, kv c = .null ∨ ∃ t : Nat, kv c = .ref t) (v : Value) : (cv b0 kv v).category = 2 ↔ (∃ x, v = .long x) ∨ ∃ x, v = .double x := by
  cases v with
  | float c =>
    rcases hk c with e | ⟨t, e⟩ <;> simp [cv, e, Value.category]
  | _ => simp [cv, Value.category]
theorem LR.sto {b0 : Nat} {kv : UInt32 → Value} (hk : ∀ c : UInt32, kv c = .null ∨ ∃ t : Nat, kv c = .ref t) {ls ls' : Array Slot} {n i : Nat} {L : List Value} {v w : Value} (h : LR b0 kv ls n L) (hw : L[i]? = some w) (hd : isd w = false) (hv : ∀ x, v ≠ .long x)
    (h' : lv_has ls' n ((i, cv b0 kv v) :: (lkn b0 kv L).filter (fun q => !(q.1 == i) && !(q.1 + 1 == i && q.2.category == 2)))) : LR b0 kv ls' n (L.set i v) := by
  obtain ⟨h1, h2, h3, h4, h5⟩ := h
  have hil : i < L.length := (List.getElem?_eq_some_iff.mp hw).1
  refine ⟨h'.1, by rw [List.length_set]; exact h2, h'.2.1, fun j u hj hu => ?_, fun j x hj => ?_⟩
  · by_cases e : j = i
    · subst e
      rw [List.getElem?_set_self hil] at hj
      cases hj
      exact h'.2.2 _ List.mem_cons_self
    · rw [List.getElem?_set_ne (Ne.symm e)] at hj
      refine h'.2.2 (j, cv b0 kv u) (List.mem_cons_of_mem _ (List.mem_filter.mpr ⟨lkn_mem.mpr ⟨u, hj, hu, rfl⟩, ?_⟩))
      simp only [Bool.and_eq_true, Bool.not_eq_true', beq_eq_false_iff_ne, ne_eq, Bool.and_eq_false_iff]
      refine ⟨e, ?_⟩
      by_cases hji : j + 1 = i
      · right
        intro hc
        rcases (cv_cat hk u).mp hc with ⟨x, rfl⟩ | ⟨x, rfl⟩
        · have h6 := h5 j x hj
          rw [hji, hw] at h6
          cases h6
          simp [isd, j2V] at hd
        · simp [njk] at hu
      · exact Or.inl hji
  · by_cases e : j = i
    · subst e
      rw [List.getElem?_set_self hil] at hj
      cases hj
      exact absurd rfl (hv x)
    · rw [List.getElem?_set_ne (Ne.symm e)] at hj
      have h6 := h5 j x hj
      by_cases e2 : j + 1 = i
      · rw [e2, hw] at h6
        cases h6
        simp [isd, j2V] at hd
      · rw [List.getElem?_set_ne (Ne.symm e2)]
        exact h6
theorem LR.sto2 {b0 : Nat} {kv : UInt32 → Value} (hk : ∀ c : UInt32, kv c = .null ∨ ∃ t : Nat, kv c = .ref t) {ls ls' : Array Slot} {n i : Nat} {L : List Value} {x0 : Int64} {w : Value} (h : LR b0 kv ls n L) (hw : L[i]? = some w) (hd : sec2 L i w = false) (hi : i + 1 < L.length)
    (h' : lv_has ls' n ((i, cv b0 kv (.long x0)) :: (lkn b0 kv L).filter (fun q => !(q.1 == i) && (!(q.1 == i + 1) && !(q.1 + 1 == i && q.2.category == 2))))) : LR b0 kv ls' n ((L.set i (.long x0)).set (i + 1) j2V) := by
  obtain ⟨h1, h2, h3, h4, h5⟩ := h
  have hil : i < L.length := (List.getElem?_eq_some_iff.mp hw).1
  have get : ∀ j : Nat, ((L.set i (.long x0)).set (i + 1) j2V)[j]? = if j = i + 1 then some j2V else if j = i then some (.long x0) else L[j]? := by
    intro j
    by_cases e2 : j = i + 1
    · subst e2
      rw [List.getElem?_set_self (by rw [List.length_set]; exact hi), if_pos rfl]
    · rw [List.getElem?_set_ne (Ne.symm e2), if_neg e2]
      by_cases e : j = i
      · subst e
        rw [List.getElem?_set_self hil, if_pos rfl]
      · rw [List.getElem?_set_ne (Ne.symm e), if_neg e]
  refine ⟨h'.1, by rw [List.length_set, List.length_set]; exact h2, h'.2.1, fun j u hj hu => ?_, fun j x hj => ?_⟩
  · rw [get j] at hj
    by_cases e2 : j = i + 1
    · rw [if_pos e2] at hj
      cases hj
      simp [njk, j2V] at hu
    · rw [if_neg e2] at hj
      by_cases e : j = i
      · rw [if_pos e] at hj
        cases hj
        subst e
        exact h'.2.2 _ List.mem_cons_self
      · rw [if_neg e] at hj
        refine h'.2.2 (j, cv b0 kv u) (List.mem_cons_of_mem _ (List.mem_filter.mpr ⟨lkn_mem.mpr ⟨u, hj, hu, rfl⟩, ?_⟩))
        simp only [Bool.and_eq_true, Bool.not_eq_true', beq_eq_false_iff_ne, ne_eq, Bool.and_eq_false_iff]
        refine ⟨e, e2, ?_⟩
        by_cases hji : j + 1 = i
        · right
          intro hc
          rcases (cv_cat hk u).mp hc with ⟨x, rfl⟩ | ⟨x, rfl⟩
          · have h6 := h5 j x hj
            rw [hji, hw] at h6
            cases h6
            rw [← hji] at hd
            simp [sec2, isd, j2V, hj] at hd
          · simp [njk] at hu
        · exact Or.inl hji
  · rw [get j] at hj
    rw [get (j + 1)]
    by_cases e2 : j = i + 1
    · rw [if_pos e2] at hj
      cases hj
    · rw [if_neg e2] at hj
      by_cases e : j = i
      · rw [if_pos (by omega)]
      · rw [if_neg e] at hj
        have h6 := h5 j x hj
        rw [if_neg (by omega)]
        by_cases e3 : j + 1 = i
        · rw [e3, hw] at h6
          cases h6
          rw [← e3] at hd
          simp [sec2, isd, j2V, hj] at hd
        · rw [if_neg e3]
          exact h6
