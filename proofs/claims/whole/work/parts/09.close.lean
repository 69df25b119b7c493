/-! ===== making cells, ends, and the theorem ===== -/
section Sim2
variable {p : Program} {l : Launch} {e : Env} {R : Room} {s : State} {m : MethodId} {args : Array Value} {below : List Frame} {meth : Method} {c : Code} {Q : State → Prop}
variable {X : aX} {D : va_G} {ac : FieldType → ClassId} {b0 : Nat} {kv : UInt32 → Value} {M pc : Nat} {L S L' S' : List Value} {h h' h0 hE : aH} {pc' : Nat}
theorem s_new (C0 : SC p s m args meth c X D ac b0 kv M) (hRc : hn hE - hn h0 ≤ R.cells) (hRs : hz hE - hz h0 ≤ R.slots) {idx n : Nat} (hd : decode (mC M) pc = .ok (.new idx, n)) (hn1 : n = iln (.new idx) n) (hst : stepF X M pc (.new idx) L S h = some (.inl (pc', L', S', h'))) (hk : GW p l e R s m args below meth c Q D ac b0 kv M h0 hE pc' L' S' h') : GW p l e R s m args below meth c Q D ac b0 kv M h0 hE pc L S h := by
  obtain rfl : n = 3 := hn1
  simp only [stepF] at hst
  cases hf : fN1 (mK M) idx with
  | none => rw [hf] at hst; cases hst
  | some ci =>
    rw [hf] at hst
    cases gt_s hst
    have g1 := hk.1.1
    have g2 := hk.1.2
    rw [hn_hp] at g1
    rw [hz_hp] at g2
    refine ⟨⟨by omega, by omega⟩, fun hA hB H locs ls hR hS hL => ?_⟩
    refine Rnew C0 hf hR hS (by omega) (by omega) hd (fun H1 hR1 hS1 => ?_)
    have := hk.2 (by rw [hn_hp]; omega) (by rw [hz_hp]; omega) H1 locs ls hR1 hS1 hL
    rw [hn_hp, hz_hp] at this
    rw [show hn h - hn h0 + 1 = hn h + 1 - hn h0 by omega, show hz h - hz h0 + fN ci = hz h + fN ci - hz h0 by omega]
    exact this
theorem arr_in {at_ : ArrayType} {ty : FieldType} (h : aty at_ = some ty) : Cond.arrayClass ty ∈ gtbl := by
  have k1 : Cond.arrayClass .int ∈ gtbl := by decide +kernel
  have k2 : Cond.arrayClass .boolean ∈ gtbl := by decide +kernel
  have k3 : Cond.arrayClass .char ∈ gtbl := by decide +kernel
  cases at_ <;> simp only [aty] at h <;> cases h <;> assumption
theorem s_newarray (C0 : SC p s m args meth c X D ac b0 kv M) (hRc : hn hE - hn h0 ≤ R.cells) (hRs : hz hE - hz h0 ≤ R.slots) {at_ : ArrayType} {n : Nat} (hd : decode (mC M) pc = .ok (.newarray at_, n)) (hn1 : n = iln (.newarray at_) n) (hst : stepF X M pc (.newarray at_) L S h = some (.inl (pc', L', S', h'))) (hk : GW p l e R s m args below meth c Q D ac b0 kv M h0 hE pc' L' S' h') : GW p l e R s m args below meth c Q D ac b0 kv M h0 hE pc L S h := by
  obtain rfl : n = 2 := hn1
  simp only [stepF] at hst
  cases hf : aty at_ with
  | none => rw [hf] at hst; cases hst
  | some ty =>
    rw [hf] at hst
    dsimp only at hst
    obtain ⟨x, S1, rfl, hs2⟩ := op1_s hst
    by_cases hc : x < 0 ∨ 1000 < x.toNatClampNeg
    · rw [if_pos hc] at hs2; cases hs2
    · rw [if_neg hc] at hs2
      cases gt_s hs2
      have g1 := hk.1.1
      have g2 := hk.1.2
      rw [hn_hp] at g1
      rw [hz_hp] at g2
      refine ⟨⟨by omega, by omega⟩, fun hA hB H locs ls hR hS hL => ?_⟩
      refine Rnewa C0 hf (fun q => hc (Or.inl q)) (fun q => hc (Or.inr q)) hR hS (by omega) (by omega) hd (arr_in hf) (fun H1 hR1 hS1 => ?_)
      have := hk.2 (by rw [hn_hp]; omega) (by rw [hz_hp]; omega) H1 locs ls hR1 hS1 hL
      rw [hn_hp, hz_hp] at this
      rw [show hn h - hn h0 + 1 = hn h + 1 - hn h0 by omega, show hz h - hz h0 + x.toNatClampNeg = hz h + x.toNatClampNeg - hz h0 by omega]
      exact this
theorem s_anewarray (C0 : SC p s m args meth c X D ac b0 kv M) (hRc : hn hE - hn h0 ≤ R.cells) (hRs : hz hE - hz h0 ≤ R.slots) {idx n : Nat} (hd : decode (mC M) pc = .ok (.anewarray idx, n)) (hn1 : n = iln (.anewarray idx) n) (hst : stepF X M pc (.anewarray idx) L S h = some (.inl (pc', L', S', h'))) (hk : GW p l e R s m args below meth c Q D ac b0 kv M h0 hE pc' L' S' h') : GW p l e R s m args below meth c Q D ac b0 kv M h0 hE pc L S h := by
  obtain rfl : n = 3 := hn1
  simp only [stepF] at hst
  cases hf : fN1 (mK M) idx with
  | none => rw [hf] at hst; cases hst
  | some ci =>
    rw [hf] at hst
    dsimp only at hst
    obtain ⟨x, S1, rfl, hs2⟩ := op1_s hst
    by_cases hc : x < 0 ∨ 1000 < x.toNatClampNeg ∨ ¬ (ci = 1 ∨ ci = 3)
    · rw [if_pos hc] at hs2; cases hs2
    · rw [if_neg hc] at hs2
      cases gt_s hs2
      have g1 := hk.1.1
      have g2 := hk.1.2
      rw [hn_hp] at g1
      rw [hz_hp] at g2
      refine ⟨⟨by omega, by omega⟩, fun hA hB H locs ls hR hS hL => ?_⟩
      refine Rnewq C0 hf (by omega) (fun q => hc (Or.inl q)) (fun q => hc (Or.inr (Or.inl q))) hR hS (by omega) (by omega) hd (fun H1 hR1 hS1 => ?_)
      have := hk.2 (by rw [hn_hp]; omega) (by rw [hz_hp]; omega) H1 locs ls hR1 hS1 hL
      rw [hn_hp, hz_hp] at this
      rw [show hn h - hn h0 + 1 = hn h + 1 - hn h0 by omega, show hz h - hz h0 + x.toNatClampNeg = hz h + x.toNatClampNeg - hz h0 by omega]
      exact this
/-- what an end of the walk needs -/
def ENDS (p : Program) (l : Launch) (e : Env) (R : Room) (s : State) (m : MethodId) (args : Array Value) (below : List Frame) (meth : Method) (c : Code) (Q : State → Prop) (D : va_G) (ac : FieldType → ClassId) (b0 : Nat) (kv : UInt32 → Value) (M : Nat) (h0 hE : aH) (r : Option Value) : Prop :=
  ∀ (H : Heap) (locs : List Loc) (ls : Array Slot) (pc : Nat), HR D ac b0 kv hE H → va_S (fun q => b0 ≤ q) s.heap H locs →
    (∀ (v : Int32) (ty : FieldType), r = some (.int v) → mR M = some ty → narrow ty (.int v) = .int v → decode (mC M) pc = .ok (.ireturn, 1) → W p l e R s m args below meth c H locs (hn hE - hn h0) (hz hE - hz h0) Q (F0 m pc ls [.int v])) ∧
    (r = none → mR M = none → decode (mC M) pc = .ok (.return_, 1) → W p l e R s m args below meth c H locs (hn hE - hn h0) (hz hE - hz h0) Q (F0 m pc ls []))
set_option maxHeartbeats 4000000 in
theorem sim_close {C : aCall} {d : Nat} {r : Option Value} (C0 : SC p s m args meth c X D ac b0 kv M) (hC : ∀ Mc av h r h', C Mc av h r h' → Mc < 195 → Mc ≠ m_Object_init → Mc ≠ m_Math_max → Mc ≠ m_Math_min → CTR l X D ac b0 kv d Mc av h r h') (hRf : d + 1 ≤ R.frames) (hRl : 100 * (d + 1) ≤ R.locals) (hRc : hn hE - hn h0 ≤ R.cells) (hRs : hz hE - hz h0 ≤ R.slots) (hEnd : ENDS p l e R s m args below meth c Q D ac b0 kv M h0 hE r) :
    ∀ pc L S h, aES C X M (GW p l e R s m args below meth c Q D ac b0 kv M h0 hE) (r, hE) pc L S h → GW p l e R s m args below meth c Q D ac b0 kv M h0 hE pc L S h := by
  intro pc L S h ⟨i, n, nx, hd, hn1, hst, hnx⟩
  cases nx with
  | inr res =>
    have hnx : res = (r, hE) := hnx
    subst hnx
    cases i with
    | ireturn =>
      obtain rfl : n = 1 := hn1
      have hs2 : stepF X M pc .ireturn L S h = some (.inr (r, hE)) := hst
      simp only [stepF] at hs2
      split at hs2
      · next v ty e1 =>
        by_cases hc : narrow ty (.int v) = .int v
        · rw [if_pos hc] at hs2
          cases hs2
          exact ⟨⟨Nat.le_refl _, Nat.le_refl _⟩, fun _ _ H locs ls hR hS hL => (hEnd H locs ls pc hR hS).1 v ty rfl e1 hc hd⟩
        · rw [if_neg hc] at hs2; cases hs2
      · cases hs2
    | return_ =>
      obtain rfl : n = 1 := hn1
      have hs2 : stepF X M pc .return_ L S h = some (.inr (r, hE)) := hst
      simp only [stepF] at hs2
      split at hs2
      · next e1 =>
        cases hs2
        exact ⟨⟨Nat.le_refl _, Nat.le_refl _⟩, fun _ _ H locs ls hR hS hL => (hEnd H locs ls pc hR hS).2 rfl e1 hd⟩
      · cases hs2
    | invokestatic idx =>
      simp only [aST] at hst
      split at hst
      · exact absurd hst.2 (by simp)
      · exact hst.elim
    | invokevirtual idx =>
      simp only [aST] at hst
      split at hst
      · exact absurd hst.2 (by simp)
      · exact hst.elim
    | invokespecial idx =>
      simp only [aST] at hst
      split at hst
      · exact absurd hst.2 (by simp)
      · exact hst.elim
    | _ => exact absurd hst.2 (by simp)
  | inl g =>
    obtain ⟨pc', L', S', h'⟩ := g
    have hk : GW p l e R s m args below meth c Q D ac b0 kv M h0 hE pc' L' S' h' := hnx
    cases i with
    | invokestatic idx =>
      obtain rfl : n = 3 := hn1
      simp only [aST] at hst
      split at hst
      · next kd Mc nest hf => exact s_call C0 hC hRf hRl hRc hRs hf hd (Or.inl ⟨rfl, hst.1.1⟩) hst.1.2 hk
      · exact hst.elim
    | invokevirtual idx =>
      obtain rfl : n = 3 := hn1
      simp only [aST] at hst
      split at hst
      · next kd Mc nest hf => exact s_call C0 hC hRf hRl hRc hRs hf hd (Or.inr (Or.inl ⟨rfl, hst.1.1⟩)) hst.1.2 hk
      · exact hst.elim
    | invokespecial idx =>
      obtain rfl : n = 3 := hn1
      simp only [aST] at hst
      split at hst
      · next kd Mc nest hf => exact s_call C0 hC hRf hRl hRc hRs hf hd (Or.inr (Or.inr ⟨rfl, hst.1.1⟩)) hst.1.2 hk
      · exact hst.elim
    | ireturn =>
      have hst : stepF X M pc .ireturn L S h = some (.inl (pc', L', S', h')) := hst
      simp only [stepF] at hst
      split at hst
      · split at hst <;> cases hst
      · cases hst
    | return_ =>
      have hst : stepF X M pc .return_ L S h = some (.inl (pc', L', S', h')) := hst
      simp only [stepF] at hst
      split at hst <;> cases hst
    | ifCond cd off => cases cd with
      | eq => exact s_if_eq C0 hd hn1 hst.1 hk
      | ne => exact s_if_ne C0 hd hn1 hst.1 hk
      | lt => exact s_if_lt C0 hd hn1 hst.1 hk
      | ge => exact s_if_ge C0 hd hn1 hst.1 hk
      | gt => exact s_if_gt C0 hd hn1 hst.1 hk
      | le => exact s_if_le C0 hd hn1 hst.1 hk
    | if_icmp cd off => cases cd with
      | eq => exact s_icmp_eq C0 hd hn1 hst.1 hk
      | ne => exact s_icmp_ne C0 hd hn1 hst.1 hk
      | lt => exact s_icmp_lt C0 hd hn1 hst.1 hk
      | ge => exact s_icmp_ge C0 hd hn1 hst.1 hk
      | gt => exact s_icmp_gt C0 hd hn1 hst.1 hk
      | le => exact s_icmp_le C0 hd hn1 hst.1 hk
    | iinc k j => exact s_iinc C0 hd hn1 hst.1 hk
    | iconst a0 => exact s_iconst C0 hd hn1 hst.1 hk
    | bipush a0 => exact s_bipush C0 hd hn1 hst.1 hk
    | sipush a0 => exact s_sipush C0 hd hn1 hst.1 hk
    | lconst a0 => exact s_lconst C0 hd hn1 hst.1 hk
    | ldc a0 => exact s_ldc C0 hd hn1 hst.1 hk
    | ldc_w a0 => exact s_ldc_w C0 hd hn1 hst.1 hk
    | ldc2_w a0 => exact s_ldc2_w C0 hd hn1 hst.1 hk
    | iload a0 => exact s_iload C0 hd hn1 hst.1 hk
    | iload_n a0 => exact s_iload_n C0 hd hn1 hst.1 hk
    | lload a0 => exact s_lload C0 hd hn1 hst.1 hk
    | lload_n a0 => exact s_lload_n C0 hd hn1 hst.1 hk
    | aload a0 => exact s_aload C0 hd hn1 hst.1 hk
    | aload_n a0 => exact s_aload_n C0 hd hn1 hst.1 hk
    | istore a0 => exact s_istore C0 hd hn1 hst.1 hk
    | istore_n a0 => exact s_istore_n C0 hd hn1 hst.1 hk
    | lstore a0 => exact s_lstore C0 hd hn1 hst.1 hk
    | lstore_n a0 => exact s_lstore_n C0 hd hn1 hst.1 hk
    | astore a0 => exact s_astore C0 hd hn1 hst.1 hk
    | astore_n a0 => exact s_astore_n C0 hd hn1 hst.1 hk
    | iadd => exact s_iadd C0 hd hn1 hst.1 hk
    | isub => exact s_isub C0 hd hn1 hst.1 hk
    | imul => exact s_imul C0 hd hn1 hst.1 hk
    | iand => exact s_iand C0 hd hn1 hst.1 hk
    | ior => exact s_ior C0 hd hn1 hst.1 hk
    | ixor => exact s_ixor C0 hd hn1 hst.1 hk
    | ishl => exact s_ishl C0 hd hn1 hst.1 hk
    | ishr => exact s_ishr C0 hd hn1 hst.1 hk
    | idiv => exact s_idiv C0 hd hn1 hst.1 hk
    | irem => exact s_irem C0 hd hn1 hst.1 hk
    | iushr => exact s_iushr C0 hd hn1 hst.1 hk
    | ineg => exact s_ineg C0 hd hn1 hst.1 hk
    | ladd => exact s_ladd C0 hd hn1 hst.1 hk
    | lmul => exact s_lmul C0 hd hn1 hst.1 hk
    | ldiv => exact s_ldiv C0 hd hn1 hst.1 hk
    | lrem => exact s_lrem C0 hd hn1 hst.1 hk
    | lcmp => exact s_lcmp C0 hd hn1 hst.1 hk
    | i2l => exact s_i2l C0 hd hn1 hst.1 hk
    | i2c => exact s_i2c C0 hd hn1 hst.1 hk
    | l2i => exact s_l2i C0 hd hn1 hst.1 hk
    | dup => exact s_dup C0 hd hn1 hst.1 hk
    | pop => exact s_pop C0 hd hn1 hst.1 hk
    | dup2 => exact s_dup2 C0 hd hn1 hst.1 hk
    | goto a0 => exact s_goto C0 hd hn1 hst.1 hk
    | tableswitch a0 a1 a2 a3 => exact s_tableswitch C0 hd hn1 hst.1 hk
    | getfield a0 => exact s_getfield C0 hd hn1 hst.1 hk
    | putfield a0 => exact s_putfield C0 hd hn1 hst.1 hk
    | getstatic a0 => exact s_getstatic C0 hd hn1 hst.1 hk
    | iaload => exact s_iaload C0 hd hn1 hst.1 hk
    | baload => exact s_baload C0 hd hn1 hst.1 hk
    | caload => exact s_caload C0 hd hn1 hst.1 hk
    | aaload => exact s_aaload C0 hd hn1 hst.1 hk
    | iastore => exact s_iastore C0 hd hn1 hst.1 hk
    | bastore => exact s_bastore C0 hd hn1 hst.1 hk
    | castore => exact s_castore C0 hd hn1 hst.1 hk
    | aastore => exact s_aastore C0 hd hn1 hst.1 hk
    | arraylength => exact s_arraylength C0 hd hn1 hst.1 hk
    | new idx => exact s_new C0 hRc hRs hd hn1 hst.1 hk
    | newarray t => exact s_newarray C0 hRc hRs hd hn1 hst.1 hk
    | anewarray idx => exact s_anewarray C0 hRc hRs hd hn1 hst.1 hk
    | _ => exact absurd hst.1 (by simp [stepF])
end Sim2
section Mono
set_option maxHeartbeats 4000000 in
theorem stepF_mono {X : aX} {M pc : Nat} {i : Instr} {L S : List Value} {h : aH} {pc' : Nat} {L' S' : List Value} {h' : aH} (hst : stepF X M pc i L S h = some (.inl (pc', L', S', h'))) : hn h ≤ hn h' ∧ hz h ≤ hz h' := by
  have refl : hn h ≤ hn h ∧ hz h ≤ hz h := ⟨Nat.le_refl _, Nat.le_refl _⟩
  cases i <;> simp only [stepF, ldi, ldl, lda, sti, stl, sta, op2, op2l, op1, op1l, gfd, pfd, ald, ast, aald, aast, alen, jp, br, reduceCtorEq] at hst <;> (repeat' split at hst) <;> first | (cases hst; done) | (cases gt_s hst; first | exact refl | exact ⟨Nat.le_succ _, Nat.le_add_right _ _⟩)
theorem stepR_same {X : aX} {M pc : Nat} {i : Instr} (hi : i = .ireturn ∨ i = .return_) {L S : List Value} {h : aH} {r : Option Value} {h' : aH} (hst : stepF X M pc i L S h = some (.inr (r, h'))) : h = h' := by
  rcases hi with rfl | rfl <;> simp only [stepF] at hst <;> (repeat' split at hst) <;> first | (cases hst; done) | (cases hst; rfl)
theorem stepC_mono {C : aCall} (hC : ∀ Mc av h r h', C Mc av h r h' → hn h ≤ hn h' ∧ hz h ≤ hz h') {M pc kd Mc : Nat} {L S : List Value} {h : aH} {pc' : Nat} {L' S' : List Value} {h' : aH} (hst : stepC C M pc kd Mc L S h (.inl (pc', L', S', h'))) : hn h ≤ hn h' ∧ hz h ≤ hz h' := by
  have refl : hn h ≤ hn h ∧ hz h ≤ hz h := ⟨Nat.le_refl _, Nat.le_refl _⟩
  unfold stepC at hst
  split at hst
  · obtain ⟨-, -, r, h1, hc, he⟩ := hst
    cases he
    exact hC _ _ _ _ _ hc
  split at hst
  · obtain ⟨-, hst⟩ := hst
    split at hst
    · obtain ⟨-, -, r, h1, hc, he⟩ := hst
      cases he
      exact hC _ _ _ _ _ hc
    · exact hst.elim
  split at hst
  · obtain ⟨-, hst⟩ := hst
    split at hst
    · obtain ⟨-, r, h1, hc, he⟩ := hst
      cases he
      exact hC _ _ _ _ _ hc
    · exact hst.elim
  split at hst
  · split at hst
    · obtain ⟨-, he⟩ := hst
      cases he
      exact refl
    · exact hst.elim
  split at hst
  · unfold acp at hst
    (repeat' split at hst) <;> first | (cases hst; done) | (cases gt_s hst; exact refl)
  split at hst
  · obtain ⟨x, y, S1, -, hs2⟩ := op2_s hst
    split at hs2
    · cases gt_s hs2; exact refl
    · cases hs2
  split at hst
  · obtain ⟨x, y, S1, -, hs2⟩ := op2_s hst
    split at hs2
    · cases gt_s hs2; exact refl
    · cases hs2
  · exact hst.elim
theorem aES_grow {C : aCall} (hC : ∀ Mc av h r h', C Mc av h r h' → hn h ≤ hn h' ∧ hz h ≤ hz h') {X : aX} {M : Nat} {r : Option Value} {hE : aH} (pc : Nat) (L S : List Value) (h : aH) (k : aES C X M (fun _ _ _ h => hn h ≤ hn hE ∧ hz h ≤ hz hE) (r, hE) pc L S h) : hn h ≤ hn hE ∧ hz h ≤ hz hE := by
  obtain ⟨i, n, nx, hd, hn1, hst, hnx⟩ := k
  cases nx with
  | inr res =>
    have hnx : res = (r, hE) := hnx
    subst hnx
    have : h = hE := by
      cases i with
      | ireturn => exact stepR_same (X := X) (M := M) (pc := pc) (i := .ireturn) (Or.inl rfl) hst
      | return_ => exact stepR_same (X := X) (M := M) (pc := pc) (i := .return_) (Or.inr rfl) hst
      | invokestatic idx =>
        simp only [aST] at hst
        split at hst
        · exact absurd hst.2 (by simp)
        · exact hst.elim
      | invokevirtual idx =>
        simp only [aST] at hst
        split at hst
        · exact absurd hst.2 (by simp)
        · exact hst.elim
      | invokespecial idx =>
        simp only [aST] at hst
        split at hst
        · exact absurd hst.2 (by simp)
        · exact hst.elim
      | _ => exact absurd hst.2 (by simp)
    rw [this]
    exact ⟨Nat.le_refl _, Nat.le_refl _⟩
  | inl g =>
    obtain ⟨pc', L', S', h'⟩ := g
    have hk : hn h' ≤ hn hE ∧ hz h' ≤ hz hE := hnx
    have hg1 : hn h ≤ hn h' ∧ hz h ≤ hz h' := by
      cases i with
      | ireturn => exact stepF_mono (X := X) (M := M) (pc := pc) (i := .ireturn) hst
      | return_ => exact stepF_mono (X := X) (M := M) (pc := pc) (i := .return_) hst
      | invokestatic idx =>
        simp only [aST] at hst
        split at hst
        · exact stepC_mono hC hst.1.2
        · exact hst.elim
      | invokevirtual idx =>
        simp only [aST] at hst
        split at hst
        · exact stepC_mono hC hst.1.2
        · exact hst.elim
      | invokespecial idx =>
        simp only [aST] at hst
        split at hst
        · exact stepC_mono hC hst.1.2
        · exact hst.elim
      | _ => exact stepF_mono hst.1
    omega
theorem aEv_grow {X : aX} : ∀ (d M : Nat) (av : List Value) (h : aH) (r : Option Value) (h' : aH), aEv X d M av h r h' → hn h ≤ hn h' ∧ hz h ≤ hz h' := by
  intro d
  induction d with
  | zero => intro M av h r h' q; exact q.elim
  | succ d ih => intro M av h r h' q; exact q.2 _ (aES_grow ih)
end Mono
section Sim3
theorem lay_cv {b0 : Nat} {kv : UInt32 → Value} (hk : ∀ c : UInt32, kv c = .null ∨ ∃ t : Nat, kv c = .ref t) : ∀ (av : List Value), av.all okA = true → (lg_sl (av.map (cv b0 kv))).length = (lay av).length ∧ (∀ (i : Nat) (v : Value), (lay av)[i]? = some v → njk v = true → (lg_sl (av.map (cv b0 kv)))[i]? = some (.val (cv b0 kv v))) ∧ ∀ (i : Nat) (x : Int64), (lay av)[i]? = some (.long x) → (lay av)[i + 1]? = some j2V := by
  intro av
  induction av with
  | nil => intro _; exact ⟨rfl, fun i v h => by simp [lay] at h, fun i x h => by simp [lay] at h⟩
  | cons v av ih =>
    intro ha
    simp only [List.all_cons, Bool.and_eq_true] at ha
    obtain ⟨i1, i2, i3⟩ := ih ha.2
    cases v with
    | long x0 =>
      have e1 : lay (.long x0 :: av) = .long x0 :: j2V :: lay av := rfl
      have e2 : lg_sl ((Value.long x0 :: av).map (cv b0 kv)) = .val (.long x0) :: .second :: lg_sl (av.map (cv b0 kv)) := by simp [lg_sl, cv, Value.category]
      rw [e1, e2]
      refine ⟨by simp [i1], fun i w h hj => ?_, fun i x h => ?_⟩
      · match i, h with
        | 0, h => cases h; rfl
        | 1, h => cases h; simp [njk, j2V] at hj
        | i + 2, h => exact i2 i w h hj
      · match i, h with
        | 0, h => rfl
        | 1, h => cases h
        | i + 2, h => exact i3 i x h
    | int a =>
      have e1 : lay (.int a :: av) = .int a :: lay av := rfl
      have e2 : lg_sl ((Value.int a :: av).map (cv b0 kv)) = .val (.int a) :: lg_sl (av.map (cv b0 kv)) := by simp [lg_sl, cv, Value.category]
      rw [e1, e2]
      refine ⟨by simp [i1], fun i w h hj => ?_, fun i x h => ?_⟩
      · match i, h with
        | 0, h => cases h; rfl
        | i + 1, h => exact i2 i w h hj
      · match i, h with
        | 0, h => cases h
        | i + 1, h => exact i3 i x h
    | ref a =>
      have e1 : lay (.ref a :: av) = .ref a :: lay av := rfl
      have e2 : lg_sl ((Value.ref a :: av).map (cv b0 kv)) = .val (.ref (b0 + a)) :: lg_sl (av.map (cv b0 kv)) := by simp [lg_sl, cv, Value.category]
      rw [e1, e2]
      refine ⟨by simp [i1], fun i w h hj => ?_, fun i x h => ?_⟩
      · match i, h with
        | 0, h => cases h; rfl
        | i + 1, h => exact i2 i w h hj
      · match i, h with
        | 0, h => cases h
        | i + 1, h => exact i3 i x h
    | float a =>
      have e1 : lay (.float a :: av) = .float a :: lay av := rfl
      have e2 : lg_sl ((Value.float a :: av).map (cv b0 kv)) = .val (kv a) :: lg_sl (av.map (cv b0 kv)) := by
        rcases hk a with e | ⟨t, e⟩ <;> simp [lg_sl, cv, e, Value.category]
      rw [e1, e2]
      refine ⟨by simp [i1], fun i w h hj => ?_, fun i x h => ?_⟩
      · match i, h with
        | 0, h => cases h; rfl
        | i + 1, h => exact i2 i w h hj
      · match i, h with
        | 0, h => cases h
        | i + 1, h => exact i3 i x h
    | _ => simp [okA] at ha
theorem entry_LR {b0 : Nat} {kv : UInt32 → Value} (hk : ∀ c : UInt32, kv c = .null ∨ ∃ t : Nat, kv c = .ref t) {av : List Value} {n : Nat} (ha : av.all okA = true) (hl : (lay av).length ≤ n) : LR b0 kv ((lg_sl (av.map (cv b0 kv)) ++ List.replicate (n - (lg_sl (av.map (cv b0 kv))).length) Slot.unset).toArray) n (entL n av) := by
  obtain ⟨h1, h2, h3⟩ := lay_cv (b0 := b0) hk av ha
  have he := lv_entry (av.map (cv b0 kv)) (n := n) (by rw [h1]; exact hl)
  refine ⟨he.1, by simp [entL]; omega, he.2.1, fun i v hv hj => ?_, fun i x hx => ?_⟩
  · unfold entL at hv
    by_cases hi : i < (lay av).length
    · rw [List.getElem?_append_left hi] at hv
      have := h2 i v hv hj
      rw [List.getElem?_toArray, List.getElem?_append_left (by rw [h1]; exact hi)]
      exact this
    · rw [List.getElem?_append_right (by omega)] at hv
      have := (List.getElem?_eq_some_iff.mp hv).2
      rw [List.getElem_replicate] at this
      subst this
      simp [njk, jkV] at hj
  · unfold entL at hx ⊢
    by_cases hi : i < (lay av).length
    · rw [List.getElem?_append_left hi] at hx
      have := h3 i x hx
      rw [List.getElem?_append_left (List.getElem?_eq_some_iff.mp this).1]
      exact this
    · rw [List.getElem?_append_right (by omega)] at hx
      have := (List.getElem?_eq_some_iff.mp hx).2
      rw [List.getElem_replicate] at this
      cases this
/-- THE THEOREM: what the abstract machine does with a method, the machine does -/
theorem sim (l : Launch) (X : aX) (D : va_G) (ac : FieldType → ClassId) (b0 : Nat) (kv : UInt32 → Value) : ∀ (d M : Nat) (av : List Value) (h : aH) (r : Option Value) (h' : aH), aEv X d M av h r h' → M < 195 → M ≠ m_Object_init → M ≠ m_Math_max → M ≠ m_Math_min → CTR l X D ac b0 kv d M av h r h' := by
  intro d
  induction d with
  | zero => intro M av h r h' q; exact q.elim
  | succ d ih =>
    intro M av h r h' ⟨⟨hok, hlen⟩, hrun⟩ hM n1 n2 n3
    obtain ⟨a1, a2, a3, a4, a5, a6, a7, a8, a9⟩ := mW_ok hM n1
    have hmono := aEv_grow (d + 1) M av h r h' ⟨⟨hok, hlen⟩, hrun⟩
    refine ⟨hmono, Met.ofW (cc := mC M) (maxL := mL M) (ret := mR M) (a9 n2 n3) rfl ?_⟩
    intro p e s m args below meth c s₁ B hml hv
    obtain ⟨rfl, hR, hE⟩ := hv
    have hts := atoms_spec (ws := wsM M) B.pre
    have C0 : SC p s m (av.map (cv b0 kv)).toArray meth c X D ac b0 kv M := ⟨B.exec, B.bytes, B.returns, hml, by rw [a1]; exact findClass_of_methodNamed B.named, fun w hw => hts w (List.mem_cons_of_mem _ hw), B.notSynchronized, fun _ => (name_of_methodNamed B.named B.method).1, hE⟩
    have hEnd : ENDS p l e (rmD (d + 1) (hn h' - hn h) (hz h' - hz h)) s m (av.map (cv b0 kv)).toArray below meth c (MQ below (QQ D ac b0 kv r h') (av.map (cv b0 kv)).toArray s (hn h' - hn h) (hz h' - hz h) (fun z => b0 ≤ z)) D ac b0 kv M h h' r := by
      intro H locs ls pc hR1 hS1
      refine ⟨fun v ty e1 e2 e3 hd => ?_, fun e1 e2 hd => ?_⟩
      · subst e1
        exact W.zret C0.1 C0.2.1 (C0.2.2.1.trans e2) e3 (fun t ht hW => ⟨rfl, by rw [ht]; exact hR1, hS1.F ht⟩) hS1.2.2 hd C0.2.2.2.2.2.2.1
      · subst e1
        exact W.vret C0.1 C0.2.1 (C0.2.2.1.trans e2) (fun t ht hW => ⟨rfl, by rw [ht]; exact hR1, hS1.F ht⟩) hS1.2.2 hd C0.2.2.2.2.2.2.1
    have key := hrun _ (sim_close (d := d) (Q := MQ below (QQ D ac b0 kv r h') (av.map (cv b0 kv)).toArray s (hn h' - hn h) (hz h' - hz h) (fun z => b0 ≤ z)) (R := rmD (d + 1) (hn h' - hn h) (hz h' - hz h)) (h0 := h) C0 (fun Mc av h r h' q => ih Mc av h r h' q) (Nat.le_refl _) (Nat.le_refl _) (Nat.le_refl _) (Nat.le_refl _) hEnd)
    have hw := key.2 (Nat.le_refl _) (Nat.le_refl _) s.heap [] _ hR va_S.rf (entry_LR hE.2.2.2.2.2.2.2 hok hlen)
    rw [lg_entry_eq]
    rw [Nat.sub_self, Nat.sub_self] at hw
    exact hw
end Sim3
