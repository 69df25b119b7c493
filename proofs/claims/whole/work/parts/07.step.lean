/-! ===== each instruction that is no call: from the abstract machine to the machine ===== -/
theorem gt_s {pc : Nat} {L S : List Value} {h : aH} {z : aN} (k : gt pc L S h = some z) : z = .inl (pc, L, S, h) := (Option.some.inj k).symm
theorem jp_s {pc : Nat} {off : Int} {L S : List Value} {h : aH} {z : aN} (k : jp pc off L S h = some z) : ∃ t : Nat, (pc : Int) + off = (t : Int) ∧ z = .inl (t, L, S, h) := by
  unfold jp at k
  cases ht : (pc : Int) + off with
  | ofNat t => rw [ht] at k; exact ⟨t, rfl, gt_s k⟩
  | negSucc t => rw [ht] at k; cases k
theorem br_s {c : Prop} [Decidable c] {pc : Nat} {off : Int} {L S : List Value} {h : aH} {z : aN} (k : br c pc off L S h = some z) : ∃ t : Nat, (pc : Int) + off = (t : Int) ∧ ((c ∧ z = .inl (t, L, S, h)) ∨ (¬ c ∧ z = .inl (pc + 3, L, S, h))) := by
  unfold br at k
  cases ht : (pc : Int) + off with
  | ofNat t =>
    rw [ht] at k
    dsimp only at k
    by_cases hc : c
    · rw [if_pos hc] at k
      exact ⟨t, rfl, Or.inl ⟨hc, gt_s k⟩⟩
    · rw [if_neg hc] at k
      exact ⟨t, rfl, Or.inr ⟨hc, gt_s k⟩⟩
  | negSucc t => rw [ht] at k; cases k
theorem ldi_s {L : List Value} {i : Nat} {K : Int32 → Option aN} {z : aN} (k : ldi L i K = some z) : ∃ a, L[i]? = some (.int a) ∧ K a = some z := by
  unfold ldi at k
  split at k
  · next a e => exact ⟨a, e, k⟩
  · cases k
theorem ldl_s {L : List Value} {i : Nat} {K : Int64 → Option aN} {z : aN} (k : ldl L i K = some z) : ∃ a, L[i]? = some (.long a) ∧ K a = some z := by
  unfold ldl at k
  split at k
  · next a e => exact ⟨a, e, k⟩
  · cases k
theorem lda_s {L : List Value} {i : Nat} {K : Value → Option aN} {z : aN} (k : lda L i K = some z) : ∃ v, L[i]? = some v ∧ ((∃ a, v = .ref a) ∨ ∃ a, v = .float a) ∧ K v = some z := by
  unfold lda at k
  split at k
  · next a e => exact ⟨_, e, Or.inl ⟨a, rfl⟩, k⟩
  · next a e => exact ⟨_, e, Or.inr ⟨a, rfl⟩, k⟩
  · cases k
theorem sto_s {L L' : List Value} {i : Nat} {v : Value} (k : sto L i v = some L') : ∃ w, L[i]? = some w ∧ isd w = false ∧ L' = L.set i v := by
  unfold sto at k
  split at k
  · next w e =>
    by_cases hw : isd w = true
    · rw [if_pos hw] at k; cases k
    · rw [if_neg hw] at k
      exact ⟨w, e, by simpa using hw, (Option.some.inj k).symm⟩
  · cases k
theorem sto2_s {L L' : List Value} {i : Nat} {v : Value} (k : sto2 L i v = some L') : ∃ w, L[i]? = some w ∧ sec2 L i w = false ∧ i + 1 < L.length ∧ L' = (L.set i v).set (i + 1) j2V := by
  unfold sto2 at k
  split at k
  · next w e =>
    by_cases hw : sec2 L i w = true
    · rw [if_pos hw] at k; cases k
    · rw [if_neg hw] at k
      by_cases hl : i + 1 < L.length
      · rw [if_pos hl] at k
        exact ⟨w, e, by simpa using hw, hl, (Option.some.inj k).symm⟩
      · rw [if_neg hl] at k; cases k
  · cases k
theorem sti_s {L S : List Value} {i : Nat} {K : List Value → List Value → Option aN} {z : aN} (k : sti L S i K = some z) : ∃ a S1 w, S = .int a :: S1 ∧ L[i]? = some w ∧ isd w = false ∧ K (L.set i (.int a)) S1 = some z := by
  unfold sti at k
  split at k
  · next a S1 =>
    split at k
    · next L1 e =>
      obtain ⟨w, h1, h2, rfl⟩ := sto_s e
      exact ⟨a, S1, w, rfl, h1, h2, k⟩
    · cases k
  · cases k
theorem stl_s {L S : List Value} {i : Nat} {K : List Value → List Value → Option aN} {z : aN} (k : stl L S i K = some z) : ∃ a S1 w, S = .long a :: S1 ∧ L[i]? = some w ∧ sec2 L i w = false ∧ i + 1 < L.length ∧ K ((L.set i (.long a)).set (i + 1) j2V) S1 = some z := by
  unfold stl at k
  split at k
  · next a S1 =>
    split at k
    · next L1 e =>
      obtain ⟨w, h1, h2, h3, rfl⟩ := sto2_s e
      exact ⟨a, S1, w, rfl, h1, h2, h3, k⟩
    · cases k
  · cases k
theorem sta_s {L S : List Value} {i : Nat} {K : List Value → List Value → Option aN} {z : aN} (k : sta L S i K = some z) : ∃ v S1 w, S = v :: S1 ∧ ((∃ a, v = .ref a) ∨ ∃ a, v = .float a) ∧ L[i]? = some w ∧ isd w = false ∧ K (L.set i v) S1 = some z := by
  unfold sta at k
  split at k
  · next a S1 =>
    split at k
    · next L1 e =>
      obtain ⟨w, h1, h2, rfl⟩ := sto_s e
      exact ⟨_, S1, w, rfl, Or.inl ⟨a, rfl⟩, h1, h2, k⟩
    · cases k
  · next a S1 =>
    split at k
    · next L1 e =>
      obtain ⟨w, h1, h2, rfl⟩ := sto_s e
      exact ⟨_, S1, w, rfl, Or.inr ⟨a, rfl⟩, h1, h2, k⟩
    · cases k
  · cases k
theorem op2_s {S : List Value} {K : Int32 → Int32 → List Value → Option aN} {z : aN} (k : op2 S K = some z) : ∃ x y S1, S = .int y :: .int x :: S1 ∧ K x y S1 = some z := by
  unfold op2 at k
  split at k
  · next y x S1 => exact ⟨x, y, S1, rfl, k⟩
  · cases k
theorem op2l_s {S : List Value} {K : Int64 → Int64 → List Value → Option aN} {z : aN} (k : op2l S K = some z) : ∃ x y S1, S = .long y :: .long x :: S1 ∧ K x y S1 = some z := by
  unfold op2l at k
  split at k
  · next y x S1 => exact ⟨x, y, S1, rfl, k⟩
  · cases k
theorem op1_s {S : List Value} {K : Int32 → List Value → Option aN} {z : aN} (k : op1 S K = some z) : ∃ x S1, S = .int x :: S1 ∧ K x S1 = some z := by
  unfold op1 at k
  split at k
  · next x S1 => exact ⟨x, S1, rfl, k⟩
  · cases k
theorem op1l_s {S : List Value} {K : Int64 → List Value → Option aN} {z : aN} (k : op1l S K = some z) : ∃ x S1, S = .long x :: S1 ∧ K x S1 = some z := by
  unfold op1l at k
  split at k
  · next x S1 => exact ⟨x, S1, rfl, k⟩
  · cases k
theorem gfd_s {e : aE} {ci f : Nat} {K : Value → Option aN} {z : aN} (k : gfd e ci f K = some z) : ∃ fs v, e = .inr (ci, fs) ∧ fs[f]? = some v ∧ K v = some z := by
  unfold gfd at k
  split at k
  · next c fs =>
    by_cases hc : c = ci
    · rw [if_pos hc] at k
      subst hc
      split at k
      · next v e => exact ⟨fs, v, rfl, e, k⟩
      · cases k
    · rw [if_neg hc] at k; cases k
  · cases k
theorem pfd_s {e : aE} {ci f : Nat} {v : Value} {K : aE → Option aN} {z : aN} (k : pfd e ci f v K = some z) : ∃ fs, e = .inr (ci, fs) ∧ f < fs.length ∧ K (.inr (ci, fs.set f v)) = some z := by
  unfold pfd at k
  split at k
  · next c fs =>
    by_cases hc : c = ci ∧ f < fs.length
    · rw [if_pos hc] at k
      obtain ⟨rfl, h2⟩ := hc
      exact ⟨fs, rfl, h2, k⟩
    · rw [if_neg hc] at k; cases k
  · cases k
theorem ald_s {e : aE} {t : FieldType} {i : Int32} {K : Int32 → Option aN} {z : aN} (k : ald e t i K = some z) : ∃ n f, e = .inl (t, n, .inl f) ∧ ¬ (i < 0 ∨ n ≤ i.toNatClampNeg) ∧ K (f i.toNatClampNeg) = some z := by
  unfold ald at k
  split at k
  · next ty n f =>
    by_cases hc : ty = t ∧ ¬ (i < 0 ∨ n ≤ i.toNatClampNeg)
    · rw [if_pos hc] at k
      obtain ⟨rfl, h2⟩ := hc
      exact ⟨n, f, rfl, h2, k⟩
    · rw [if_neg hc] at k; cases k
  · cases k
theorem ast_s {e : aE} {t : FieldType} {i x : Int32} {K : aE → Option aN} {z : aN} (k : ast e t i x K = some z) : ∃ n f, e = .inl (t, n, .inl f) ∧ ¬ (i < 0 ∨ n ≤ i.toNatClampNeg) ∧ K (.inl (t, n, .inl (upd f i.toNatClampNeg (vp_nar t x)))) = some z := by
  unfold ast at k
  split at k
  · next ty n f =>
    by_cases hc : ty = t ∧ ¬ (i < 0 ∨ n ≤ i.toNatClampNeg)
    · rw [if_pos hc] at k
      obtain ⟨rfl, h2⟩ := hc
      exact ⟨n, f, rfl, h2, k⟩
    · rw [if_neg hc] at k; cases k
  · cases k
theorem aald_s {e : aE} {i : Int32} {K : Value → Option aN} {z : aN} (k : aald e i K = some z) : ∃ C n g a, e = .inl (.object C, n, .inr g) ∧ ¬ (i < 0 ∨ n ≤ i.toNatClampNeg) ∧ g i.toNatClampNeg = some a ∧ K (.ref a) = some z := by
  unfold aald at k
  split at k
  · next C n g =>
    by_cases hc : ¬ (i < 0 ∨ n ≤ i.toNatClampNeg)
    · rw [if_pos hc] at k
      split at k
      · next a e => exact ⟨C, n, g, a, rfl, hc, e, k⟩
      · cases k
    · rw [if_neg hc] at k; cases k
  · cases k
theorem aast_s {e ev : aE} {i : Int32} {v : Nat} {K : aE → Option aN} {z : aN} (k : aast e ev i v K = some z) : ∃ n g ci fs, e = .inl (.object (cn ci), n, .inr g) ∧ ev = .inr (ci, fs) ∧ ci < 8 ∧ ¬ (i < 0 ∨ n ≤ i.toNatClampNeg) ∧ K (.inl (.object (cn ci), n, .inr (va_up g i.toNatClampNeg (some v)))) = some z := by
  unfold aast at k
  split at k
  · next C n g ci fs =>
    by_cases hc : C = cn ci ∧ ci < 8 ∧ ¬ (i < 0 ∨ n ≤ i.toNatClampNeg)
    · rw [if_pos hc] at k
      obtain ⟨rfl, h2, h3⟩ := hc
      exact ⟨n, g, ci, fs, rfl, rfl, h2, h3, k⟩
    · rw [if_neg hc] at k; cases k
  · cases k
theorem alen_s {e : aE} {K : Int32 → Option aN} {z : aN} (k : alen e K = some z) : ∃ t n f, e = .inl (t, n, .inl f) ∧ K (Int32.ofNat n) = some z := by
  unfold alen at k
  split at k
  · next t n f => exact ⟨t, n, f, rfl, k⟩
  · cases k
/-- what is to be shown of a place of the walk -/
def GW (p : Program) (l : Launch) (e : Env) (R : Room) (s : State) (m : MethodId) (args : Array Value) (below : List Frame) (meth : Method) (c : Code) (Q : State → Prop) (D : va_G) (ac : FieldType → ClassId) (b0 : Nat) (kv : UInt32 → Value) (M : Nat) (h0 hE : aH) (pc : Nat) (L S : List Value) (h : aH) : Prop :=
  (hn h ≤ hn hE ∧ hz h ≤ hz hE) ∧ (hn h0 ≤ hn h → hz h0 ≤ hz h → ∀ (H : Heap) (locs : List Loc) (ls : Array Slot), HR D ac b0 kv h H → va_S (fun q => b0 ≤ q) s.heap H locs → LR b0 kv ls (mL M) L → W p l e R s m args below meth c H locs (hn h - hn h0) (hz h - hz h0) Q (F0 m pc ls (S.map (cv b0 kv))))
theorem LR.at_ {b0 : Nat} {kv : UInt32 → Value} {ls : Array Slot} {n : Nat} {L : List Value} (h : LR b0 kv ls n L) {i : Nat} {v : Value} (hv : L[i]? = some v) (hj : njk v = true) : ls[i]? = some (.val (cv b0 kv v)) := h.2.2.2.1 i v hv hj
theorem LR.lt {b0 : Nat} {kv : UInt32 → Value} {ls : Array Slot} {n : Nat} {L : List Value} (h : LR b0 kv ls n L) {i : Nat} {v : Value} (hv : L[i]? = some v) : i < n := by
  rw [← h.2.1]; exact (List.getElem?_eq_some_iff.mp hv).1
theorem cat1_ok {b0 : Nat} {kv : UInt32 → Value} (hk : ∀ c : UInt32, kv c = .null ∨ ∃ t : Nat, kv c = .ref t) {v : Value} (h : cat1 v = true) : (cv b0 kv v).category = 1 := by
  cases v with
  | float c => rcases hk c with e | ⟨t, e⟩ <;> simp [cv, e, Value.category]
  | int a => rfl
  | ref a => rfl
  | _ => simp [cat1] at h
theorem isS_ok {c : UInt32} (h : isS c = true) : ∃ i, i < 8 ∧ c = sid i ∧ c + 10 = bid i := by
  simp only [isS, decide_eq_true_eq] at h
  have hc : c = UInt32.ofNat c.toNat := by simp
  have key : ∀ n, n < 18 → 10 ≤ n → UInt32.ofNat n = sid (n - 10) ∧ UInt32.ofNat n + 10 = bid (n - 10) := by decide
  obtain ⟨k1, k2⟩ := key c.toNat h.2 h.1
  exact ⟨c.toNat - 10, by omega, hc.trans k1, by rw [← hc] at k2; exact k2⟩
theorem kA_ty {X : aX} {c : UInt32} {q : FieldType × Nat × (Nat → Int32)} (h : kA X c = some q) : True := trivial
section Step
variable {p : Program} {l : Launch} {e : Env} {R : Room} {s : State} {m : MethodId} {args : Array Value} {below : List Frame} {meth : Method} {c : Code} {Q : State → Prop}
variable {X : aX} {D : va_G} {ac : FieldType → ClassId} {b0 : Nat} {kv : UInt32 → Value} {M pc : Nat} {L S L' S' : List Value} {h h' h0 hE : aH} {pc' : Nat}

theorem s_iconst (C0 : SC p s m args meth c X D ac b0 kv M) {k : Int} {n : Nat} (hd : decode (mC M) pc = .ok (.iconst k, n)) (hn : n = iln (.iconst k) n) (hst : stepF X M pc (.iconst k) L S h = some (.inl (pc', L', S', h'))) (hk : GW p l e R s m args below meth c Q D ac b0 kv M h0 hE pc' L' S' h') : GW p l e R s m args below meth c Q D ac b0 kv M h0 hE pc L S h := by
  obtain ⟨hx, hb, hr, hml, hown, hts, hlo, hnm, hEv⟩ := id C0
  obtain rfl : n = 1 := hn
  cases gt_s hst
  refine ⟨hk.1, ?_⟩
  intro hA hB H locs ls hR hS hL
  exact lv_iconst hx hb hd rfl (hk.2 hA hB H locs ls hR hS hL)
theorem s_bipush (C0 : SC p s m args meth c X D ac b0 kv M) {k : Int} {n : Nat} (hd : decode (mC M) pc = .ok (.bipush k, n)) (hn : n = iln (.bipush k) n) (hst : stepF X M pc (.bipush k) L S h = some (.inl (pc', L', S', h'))) (hk : GW p l e R s m args below meth c Q D ac b0 kv M h0 hE pc' L' S' h') : GW p l e R s m args below meth c Q D ac b0 kv M h0 hE pc L S h := by
  obtain ⟨hx, hb, hr, hml, hown, hts, hlo, hnm, hEv⟩ := id C0
  obtain rfl : n = 2 := hn
  cases gt_s hst
  refine ⟨hk.1, ?_⟩
  intro hA hB H locs ls hR hS hL
  exact lv_bipush hx hb hd rfl (hk.2 hA hB H locs ls hR hS hL)
theorem s_sipush (C0 : SC p s m args meth c X D ac b0 kv M) {k : Int} {n : Nat} (hd : decode (mC M) pc = .ok (.sipush k, n)) (hn : n = iln (.sipush k) n) (hst : stepF X M pc (.sipush k) L S h = some (.inl (pc', L', S', h'))) (hk : GW p l e R s m args below meth c Q D ac b0 kv M h0 hE pc' L' S' h') : GW p l e R s m args below meth c Q D ac b0 kv M h0 hE pc L S h := by
  obtain ⟨hx, hb, hr, hml, hown, hts, hlo, hnm, hEv⟩ := id C0
  obtain rfl : n = 3 := hn
  cases gt_s hst
  refine ⟨hk.1, ?_⟩
  intro hA hB H locs ls hR hS hL
  exact lv_sipush hx hb hd rfl (hk.2 hA hB H locs ls hR hS hL)
theorem s_lconst (C0 : SC p s m args meth c X D ac b0 kv M) {k : Fin 2} {n : Nat} (hd : decode (mC M) pc = .ok (.lconst k, n)) (hn : n = iln (.lconst k) n) (hst : stepF X M pc (.lconst k) L S h = some (.inl (pc', L', S', h'))) (hk : GW p l e R s m args below meth c Q D ac b0 kv M h0 hE pc' L' S' h') : GW p l e R s m args below meth c Q D ac b0 kv M h0 hE pc L S h := by
  obtain ⟨hx, hb, hr, hml, hown, hts, hlo, hnm, hEv⟩ := id C0
  obtain rfl : n = 1 := hn
  cases gt_s hst
  refine ⟨hk.1, ?_⟩
  intro hA hB H locs ls hR hS hL
  exact lv_lconst hx hb hd rfl (hk.2 hA hB H locs ls hR hS hL)
theorem s_ldc (C0 : SC p s m args meth c X D ac b0 kv M) {k : Nat} {n : Nat} (hd : decode (mC M) pc = .ok (.ldc k, n)) (hn : n = iln (.ldc k) n) (hst : stepF X M pc (.ldc k) L S h = some (.inl (pc', L', S', h'))) (hk : GW p l e R s m args below meth c Q D ac b0 kv M h0 hE pc' L' S' h') : GW p l e R s m args below meth c Q D ac b0 kv M h0 hE pc L S h := by
  obtain ⟨hx, hb, hr, hml, hown, hts, hlo, hnm, hEv⟩ := id C0
  obtain rfl : n = 2 := hn
  simp only [stepF] at hst
  cases hf : fC (mK M) k with
  | some v =>
    rw [hf] at hst
    cases gt_s hst
    refine ⟨hk.1, ?_⟩
    intro hA hB H locs ls hR hS hL
    exact lv_ldc hx hb hown (hts _ (fC_ok hf)) hd (hk.2 hA hB H locs ls hR hS hL)
  | none =>
    rw [hf] at hst
    dsimp only at hst
    cases hq : fT1 (mK M) k with
    | none => rw [hq] at hst; cases hst
    | some q =>
      rw [hq] at hst
      cases gt_s hst
      obtain ⟨hq8, e1, he1, e2, e3⟩ := fT1_ok hq
      obtain ⟨t, ht, -, -, -, hR9⟩ := hEv.2.2.2.2.2.2.1 q hq8
      have hR9 := hR9 e1 he1
      rw [e2, e3] at hR9
      refine ⟨hk.1, ?_⟩
      intro hA hB H locs ls hR hS hL
      refine va_ldcS hx hb hown hR9 hd ?_
      have := hk.2 hA hB H locs ls hR hS hL
      rw [List.map_cons, show cv b0 kv (.float (UInt32.ofNat (10 + q))) = kv (sid q) from rfl, ht] at this
      exact this
theorem s_ldc_w (C0 : SC p s m args meth c X D ac b0 kv M) {k : Nat} {n : Nat} (hd : decode (mC M) pc = .ok (.ldc_w k, n)) (hn : n = iln (.ldc_w k) n) (hst : stepF X M pc (.ldc_w k) L S h = some (.inl (pc', L', S', h'))) (hk : GW p l e R s m args below meth c Q D ac b0 kv M h0 hE pc' L' S' h') : GW p l e R s m args below meth c Q D ac b0 kv M h0 hE pc L S h := by
  obtain ⟨hx, hb, hr, hml, hown, hts, hlo, hnm, hEv⟩ := id C0
  obtain rfl : n = 3 := hn
  simp only [stepF] at hst
  cases hf : fC (mK M) k with
  | some v =>
    rw [hf] at hst
    cases gt_s hst
    refine ⟨hk.1, ?_⟩
    intro hA hB H locs ls hR hS hL
    exact lv_ldcw hx hb hown (hts _ (fC_ok hf)) hd (hk.2 hA hB H locs ls hR hS hL)
  | none => rw [hf] at hst; cases hst
theorem s_ldc2_w (C0 : SC p s m args meth c X D ac b0 kv M) {k : Nat} {n : Nat} (hd : decode (mC M) pc = .ok (.ldc2_w k, n)) (hn : n = iln (.ldc2_w k) n) (hst : stepF X M pc (.ldc2_w k) L S h = some (.inl (pc', L', S', h'))) (hk : GW p l e R s m args below meth c Q D ac b0 kv M h0 hE pc' L' S' h') : GW p l e R s m args below meth c Q D ac b0 kv M h0 hE pc L S h := by
  obtain ⟨hx, hb, hr, hml, hown, hts, hlo, hnm, hEv⟩ := id C0
  obtain rfl : n = 3 := hn
  simp only [stepF] at hst
  cases hf : fC2 (mK M) k with
  | some v =>
    rw [hf] at hst
    cases gt_s hst
    refine ⟨hk.1, ?_⟩
    intro hA hB H locs ls hR hS hL
    exact lv_ldc2 hx hb hown (hts _ (fC2_ok hf)) hd (hk.2 hA hB H locs ls hR hS hL)
  | none => rw [hf] at hst; cases hst
theorem s_iload (C0 : SC p s m args meth c X D ac b0 kv M) {k : Nat} {n : Nat} (hd : decode (mC M) pc = .ok (.iload k, n)) (hn : n = iln (.iload k) n) (hst : stepF X M pc (.iload k) L S h = some (.inl (pc', L', S', h'))) (hk : GW p l e R s m args below meth c Q D ac b0 kv M h0 hE pc' L' S' h') : GW p l e R s m args below meth c Q D ac b0 kv M h0 hE pc L S h := by
  obtain ⟨hx, hb, hr, hml, hown, hts, hlo, hnm, hEv⟩ := id C0
  obtain rfl : n = 2 := hn
  obtain ⟨a, hv, hst⟩ := ldi_s hst
  cases gt_s hst
  refine ⟨hk.1, ?_⟩
  intro hA hB H locs ls hR hS hL
  exact lv_iload hx hb hd (hL.at_ hv rfl) (hk.2 hA hB H locs ls hR hS hL)
theorem s_iload_n (C0 : SC p s m args meth c X D ac b0 kv M) {k : Fin 4} {n : Nat} (hd : decode (mC M) pc = .ok (.iload_n k, n)) (hn : n = iln (.iload_n k) n) (hst : stepF X M pc (.iload_n k) L S h = some (.inl (pc', L', S', h'))) (hk : GW p l e R s m args below meth c Q D ac b0 kv M h0 hE pc' L' S' h') : GW p l e R s m args below meth c Q D ac b0 kv M h0 hE pc L S h := by
  obtain ⟨hx, hb, hr, hml, hown, hts, hlo, hnm, hEv⟩ := id C0
  obtain rfl : n = 1 := hn
  obtain ⟨a, hv, hst⟩ := ldi_s hst
  cases gt_s hst
  refine ⟨hk.1, ?_⟩
  intro hA hB H locs ls hR hS hL
  exact lv_iload_n hx hb hd rfl (hL.at_ hv rfl) (hk.2 hA hB H locs ls hR hS hL)
theorem s_lload (C0 : SC p s m args meth c X D ac b0 kv M) {k : Nat} {n : Nat} (hd : decode (mC M) pc = .ok (.lload k, n)) (hn : n = iln (.lload k) n) (hst : stepF X M pc (.lload k) L S h = some (.inl (pc', L', S', h'))) (hk : GW p l e R s m args below meth c Q D ac b0 kv M h0 hE pc' L' S' h') : GW p l e R s m args below meth c Q D ac b0 kv M h0 hE pc L S h := by
  obtain ⟨hx, hb, hr, hml, hown, hts, hlo, hnm, hEv⟩ := id C0
  obtain rfl : n = 2 := hn
  obtain ⟨a, hv, hst⟩ := ldl_s hst
  cases gt_s hst
  refine ⟨hk.1, ?_⟩
  intro hA hB H locs ls hR hS hL
  exact lv_lload hx hb hd (hL.at_ hv rfl) (hk.2 hA hB H locs ls hR hS hL)
theorem s_lload_n (C0 : SC p s m args meth c X D ac b0 kv M) {k : Fin 4} {n : Nat} (hd : decode (mC M) pc = .ok (.lload_n k, n)) (hn : n = iln (.lload_n k) n) (hst : stepF X M pc (.lload_n k) L S h = some (.inl (pc', L', S', h'))) (hk : GW p l e R s m args below meth c Q D ac b0 kv M h0 hE pc' L' S' h') : GW p l e R s m args below meth c Q D ac b0 kv M h0 hE pc L S h := by
  obtain ⟨hx, hb, hr, hml, hown, hts, hlo, hnm, hEv⟩ := id C0
  obtain rfl : n = 1 := hn
  obtain ⟨a, hv, hst⟩ := ldl_s hst
  cases gt_s hst
  refine ⟨hk.1, ?_⟩
  intro hA hB H locs ls hR hS hL
  exact lv_lload_n hx hb hd rfl (hL.at_ hv rfl) (hk.2 hA hB H locs ls hR hS hL)
theorem s_aload (C0 : SC p s m args meth c X D ac b0 kv M) {k : Nat} {n : Nat} (hd : decode (mC M) pc = .ok (.aload k, n)) (hn : n = iln (.aload k) n) (hst : stepF X M pc (.aload k) L S h = some (.inl (pc', L', S', h'))) (hk : GW p l e R s m args below meth c Q D ac b0 kv M h0 hE pc' L' S' h') : GW p l e R s m args below meth c Q D ac b0 kv M h0 hE pc L S h := by
  obtain ⟨hx, hb, hr, hml, hown, hts, hlo, hnm, hEv⟩ := id C0
  obtain rfl : n = 2 := hn
  have hst : lda L k (fun a => gt (pc + 2) L (a :: S) h) = some (.inl (pc', L', S', h')) := hst
  obtain ⟨v, hv, hor, hst⟩ := lda_s hst
  cases gt_s hst
  refine ⟨hk.1, ?_⟩
  intro hA hB H locs ls hR hS hL
  have hkk := hk.2 hA hB H locs ls hR hS hL
  rcases hor with ⟨a, rfl⟩ | ⟨a, rfl⟩
  · exact lv_aload hx hb hd (hL.at_ hv rfl) hkk
  · have h1 := hL.at_ hv rfl
    rw [List.map_cons] at hkk
    rw [show cv b0 kv (.float a) = kv a from rfl] at h1 hkk
    rcases hEv.2.2.2.2.2.2.2 a with e1 | ⟨t, e1⟩
    · rw [e1] at h1 hkk
      exact lv_aloadN hx hb hd h1 hkk
    · rw [e1] at h1 hkk
      exact lv_aload hx hb hd h1 hkk
theorem s_aload_n (C0 : SC p s m args meth c X D ac b0 kv M) {k : Fin 4} {n : Nat} (hd : decode (mC M) pc = .ok (.aload_n k, n)) (hn : n = iln (.aload_n k) n) (hst : stepF X M pc (.aload_n k) L S h = some (.inl (pc', L', S', h'))) (hk : GW p l e R s m args below meth c Q D ac b0 kv M h0 hE pc' L' S' h') : GW p l e R s m args below meth c Q D ac b0 kv M h0 hE pc L S h := by
  obtain ⟨hx, hb, hr, hml, hown, hts, hlo, hnm, hEv⟩ := id C0
  obtain rfl : n = 1 := hn
  have hst : lda L k (fun a => gt (pc + 1) L (a :: S) h) = some (.inl (pc', L', S', h')) := hst
  obtain ⟨v, hv, hor, hst⟩ := lda_s hst
  cases gt_s hst
  refine ⟨hk.1, ?_⟩
  intro hA hB H locs ls hR hS hL
  have hkk := hk.2 hA hB H locs ls hR hS hL
  rcases hor with ⟨a, rfl⟩ | ⟨a, rfl⟩
  · exact lv_aload_n hx hb hd rfl (hL.at_ hv rfl) hkk
  · have h1 := hL.at_ hv rfl
    rw [List.map_cons] at hkk
    rw [show cv b0 kv (.float a) = kv a from rfl] at h1 hkk
    rcases hEv.2.2.2.2.2.2.2 a with e1 | ⟨t, e1⟩
    · rw [e1] at h1 hkk
      exact lv_aload_nN hx hb hd rfl h1 hkk
    · rw [e1] at h1 hkk
      exact lv_aload_n hx hb hd rfl h1 hkk
theorem s_istore (C0 : SC p s m args meth c X D ac b0 kv M) {k : Nat} {n : Nat} (hd : decode (mC M) pc = .ok (.istore k, n)) (hn : n = iln (.istore k) n) (hst : stepF X M pc (.istore k) L S h = some (.inl (pc', L', S', h'))) (hk : GW p l e R s m args below meth c Q D ac b0 kv M h0 hE pc' L' S' h') : GW p l e R s m args below meth c Q D ac b0 kv M h0 hE pc L S h := by
  obtain ⟨hx, hb, hr, hml, hown, hts, hlo, hnm, hEv⟩ := id C0
  obtain rfl : n = 2 := hn
  obtain ⟨a, S1, w, rfl, hw, hwd, hst⟩ := sti_s hst
  cases gt_s hst
  refine ⟨hk.1, ?_⟩
  intro hA hB H locs ls hR hS hL
  exact lv_istore hx hb hd hL.has (hL.lt hw) rfl (fun ls' hl' => hk.2 hA hB H locs ls' hR hS (hL.sto hEv.2.2.2.2.2.2.2 hw hwd (fun x q => by cases q) hl'))
theorem s_istore_n (C0 : SC p s m args meth c X D ac b0 kv M) {k : Fin 4} {n : Nat} (hd : decode (mC M) pc = .ok (.istore_n k, n)) (hn : n = iln (.istore_n k) n) (hst : stepF X M pc (.istore_n k) L S h = some (.inl (pc', L', S', h'))) (hk : GW p l e R s m args below meth c Q D ac b0 kv M h0 hE pc' L' S' h') : GW p l e R s m args below meth c Q D ac b0 kv M h0 hE pc L S h := by
  obtain ⟨hx, hb, hr, hml, hown, hts, hlo, hnm, hEv⟩ := id C0
  obtain rfl : n = 1 := hn
  obtain ⟨a, S1, w, rfl, hw, hwd, hst⟩ := sti_s hst
  cases gt_s hst
  refine ⟨hk.1, ?_⟩
  intro hA hB H locs ls hR hS hL
  exact lv_istore_n hx hb hd rfl hL.has (hL.lt hw) rfl (fun ls' hl' => hk.2 hA hB H locs ls' hR hS (hL.sto hEv.2.2.2.2.2.2.2 hw hwd (fun x q => by cases q) hl'))
theorem s_lstore (C0 : SC p s m args meth c X D ac b0 kv M) {k : Nat} {n : Nat} (hd : decode (mC M) pc = .ok (.lstore k, n)) (hn : n = iln (.lstore k) n) (hst : stepF X M pc (.lstore k) L S h = some (.inl (pc', L', S', h'))) (hk : GW p l e R s m args below meth c Q D ac b0 kv M h0 hE pc' L' S' h') : GW p l e R s m args below meth c Q D ac b0 kv M h0 hE pc L S h := by
  obtain ⟨hx, hb, hr, hml, hown, hts, hlo, hnm, hEv⟩ := id C0
  obtain rfl : n = 2 := hn
  obtain ⟨a, S1, w, rfl, hw, hwd, hlt, hst⟩ := stl_s hst
  cases gt_s hst
  refine ⟨hk.1, ?_⟩
  intro hA hB H locs ls hR hS hL
  exact lv_lstore hx hb hd hL.has (by rw [← hL.2.1]; exact hlt) rfl (fun ls' hl' => hk.2 hA hB H locs ls' hR hS (hL.sto2 hEv.2.2.2.2.2.2.2 hw hwd hlt hl'))
theorem s_lstore_n (C0 : SC p s m args meth c X D ac b0 kv M) {k : Fin 4} {n : Nat} (hd : decode (mC M) pc = .ok (.lstore_n k, n)) (hn : n = iln (.lstore_n k) n) (hst : stepF X M pc (.lstore_n k) L S h = some (.inl (pc', L', S', h'))) (hk : GW p l e R s m args below meth c Q D ac b0 kv M h0 hE pc' L' S' h') : GW p l e R s m args below meth c Q D ac b0 kv M h0 hE pc L S h := by
  obtain ⟨hx, hb, hr, hml, hown, hts, hlo, hnm, hEv⟩ := id C0
  obtain rfl : n = 1 := hn
  obtain ⟨a, S1, w, rfl, hw, hwd, hlt, hst⟩ := stl_s hst
  cases gt_s hst
  refine ⟨hk.1, ?_⟩
  intro hA hB H locs ls hR hS hL
  exact lv_lstore_n hx hb hd rfl hL.has (by rw [← hL.2.1]; exact hlt) rfl (fun ls' hl' => hk.2 hA hB H locs ls' hR hS (hL.sto2 hEv.2.2.2.2.2.2.2 hw hwd hlt hl'))
theorem s_astore (C0 : SC p s m args meth c X D ac b0 kv M) {k : Nat} {n : Nat} (hd : decode (mC M) pc = .ok (.astore k, n)) (hn : n = iln (.astore k) n) (hst : stepF X M pc (.astore k) L S h = some (.inl (pc', L', S', h'))) (hk : GW p l e R s m args below meth c Q D ac b0 kv M h0 hE pc' L' S' h') : GW p l e R s m args below meth c Q D ac b0 kv M h0 hE pc L S h := by
  obtain ⟨hx, hb, hr, hml, hown, hts, hlo, hnm, hEv⟩ := id C0
  obtain rfl : n = 2 := hn
  have hst : sta L S k (fun L S => gt (pc + 2) L S h) = some (.inl (pc', L', S', h')) := hst
  obtain ⟨v, S1, w, rfl, hor, hw, hwd, hst⟩ := sta_s hst
  cases gt_s hst
  refine ⟨hk.1, ?_⟩
  intro hA hB H locs ls hR hS hL
  have nl : ∀ x, v ≠ .long x := by
    rcases hor with ⟨a, rfl⟩ | ⟨a, rfl⟩ <;> (intro x q; cases q)
  have go : ∀ ls' : Array Slot, lv_has ls' (mL M) ((_, cv b0 kv v) :: (lkn b0 kv L).filter (fun q => !(q.1 == _) && !(q.1 + 1 == _ && q.2.category == 2))) → W p l e R s m args below meth c H locs (hn h - hn h0) (hz h - hz h0) Q (F0 m _ ls' (S'.map (cv b0 kv))) := fun ls' hl' => hk.2 hA hB H locs ls' hR hS (hL.sto hEv.2.2.2.2.2.2.2 hw hwd nl hl')
  rcases hor with ⟨a, rfl⟩ | ⟨a, rfl⟩
  · exact lv_astore hx hb hd hL.has (hL.lt hw) rfl go
  · rw [List.map_cons]
    rw [show cv b0 kv (.float a) = kv a from rfl] at go ⊢
    rcases hEv.2.2.2.2.2.2.2 a with e1 | ⟨t, e1⟩
    · rw [e1] at go ⊢
      exact lv_astoreN hx hb hd hL.has (hL.lt hw) rfl go
    · rw [e1] at go ⊢
      exact lv_astore hx hb hd hL.has (hL.lt hw) rfl go
theorem s_astore_n (C0 : SC p s m args meth c X D ac b0 kv M) {k : Fin 4} {n : Nat} (hd : decode (mC M) pc = .ok (.astore_n k, n)) (hn : n = iln (.astore_n k) n) (hst : stepF X M pc (.astore_n k) L S h = some (.inl (pc', L', S', h'))) (hk : GW p l e R s m args below meth c Q D ac b0 kv M h0 hE pc' L' S' h') : GW p l e R s m args below meth c Q D ac b0 kv M h0 hE pc L S h := by
  obtain ⟨hx, hb, hr, hml, hown, hts, hlo, hnm, hEv⟩ := id C0
  obtain rfl : n = 1 := hn
  have hst : sta L S k (fun L S => gt (pc + 1) L S h) = some (.inl (pc', L', S', h')) := hst
  obtain ⟨v, S1, w, rfl, hor, hw, hwd, hst⟩ := sta_s hst
  cases gt_s hst
  refine ⟨hk.1, ?_⟩
  intro hA hB H locs ls hR hS hL
  have nl : ∀ x, v ≠ .long x := by
    rcases hor with ⟨a, rfl⟩ | ⟨a, rfl⟩ <;> (intro x q; cases q)
  have go : ∀ ls' : Array Slot, lv_has ls' (mL M) ((_, cv b0 kv v) :: (lkn b0 kv L).filter (fun q => !(q.1 == _) && !(q.1 + 1 == _ && q.2.category == 2))) → W p l e R s m args below meth c H locs (hn h - hn h0) (hz h - hz h0) Q (F0 m _ ls' (S'.map (cv b0 kv))) := fun ls' hl' => hk.2 hA hB H locs ls' hR hS (hL.sto hEv.2.2.2.2.2.2.2 hw hwd nl hl')
  rcases hor with ⟨a, rfl⟩ | ⟨a, rfl⟩
  · exact lv_astore_n hx hb hd rfl hL.has (hL.lt hw) rfl go
  · rw [List.map_cons]
    rw [show cv b0 kv (.float a) = kv a from rfl] at go ⊢
    rcases hEv.2.2.2.2.2.2.2 a with e1 | ⟨t, e1⟩
    · rw [e1] at go ⊢
      exact lv_astore_nN hx hb hd rfl hL.has (hL.lt hw) rfl go
    · rw [e1] at go ⊢
      exact lv_astore_n hx hb hd rfl hL.has (hL.lt hw) rfl go
theorem s_iinc (C0 : SC p s m args meth c X D ac b0 kv M) {k : Nat} {j : Int} {n : Nat} (hd : decode (mC M) pc = .ok (.iinc k j, n)) (hn : n = iln (.iinc k j) n) (hst : stepF X M pc (.iinc k j) L S h = some (.inl (pc', L', S', h'))) (hk : GW p l e R s m args below meth c Q D ac b0 kv M h0 hE pc' L' S' h') : GW p l e R s m args below meth c Q D ac b0 kv M h0 hE pc L S h := by
  obtain ⟨hx, hb, hr, hml, hown, hts, hlo, hnm, hEv⟩ := id C0
  obtain rfl : n = 3 := hn
  obtain ⟨a, hv, hst⟩ := ldi_s hst
  cases gt_s hst
  refine ⟨hk.1, ?_⟩
  intro hA hB H locs ls hR hS hL
  obtain ⟨q, hq⟩ := List.getElem?_of_mem (lkn_mem (b0 := b0) (kv := kv) (q := (k, .int a)).mpr ⟨_, hv, rfl, rfl⟩)
  exact lv_iinc hx hb hd hL.has hq rfl (hL.lt hv) rfl (fun ls' hl' => hk.2 hA hB H locs ls' hR hS (hL.sto hEv.2.2.2.2.2.2.2 hv rfl (fun x q => by cases q) hl'))
theorem s_iadd (C0 : SC p s m args meth c X D ac b0 kv M)  {n : Nat} (hd : decode (mC M) pc = .ok (.iadd, n)) (hn : n = iln (.iadd) n) (hst : stepF X M pc (.iadd) L S h = some (.inl (pc', L', S', h'))) (hk : GW p l e R s m args below meth c Q D ac b0 kv M h0 hE pc' L' S' h') : GW p l e R s m args below meth c Q D ac b0 kv M h0 hE pc L S h := by
  obtain ⟨hx, hb, hr, hml, hown, hts, hlo, hnm, hEv⟩ := id C0
  obtain rfl : n = 1 := hn
  obtain ⟨x, y, S1, rfl, hst⟩ := op2_s hst
  cases gt_s hst
  refine ⟨hk.1, ?_⟩
  intro hA hB H locs ls hR hS hL
  exact lv_iadd hx hb hd (hk.2 hA hB H locs ls hR hS hL)
theorem s_isub (C0 : SC p s m args meth c X D ac b0 kv M)  {n : Nat} (hd : decode (mC M) pc = .ok (.isub, n)) (hn : n = iln (.isub) n) (hst : stepF X M pc (.isub) L S h = some (.inl (pc', L', S', h'))) (hk : GW p l e R s m args below meth c Q D ac b0 kv M h0 hE pc' L' S' h') : GW p l e R s m args below meth c Q D ac b0 kv M h0 hE pc L S h := by
  obtain ⟨hx, hb, hr, hml, hown, hts, hlo, hnm, hEv⟩ := id C0
  obtain rfl : n = 1 := hn
  obtain ⟨x, y, S1, rfl, hst⟩ := op2_s hst
  cases gt_s hst
  refine ⟨hk.1, ?_⟩
  intro hA hB H locs ls hR hS hL
  exact lv_isub hx hb hd (hk.2 hA hB H locs ls hR hS hL)
theorem s_imul (C0 : SC p s m args meth c X D ac b0 kv M)  {n : Nat} (hd : decode (mC M) pc = .ok (.imul, n)) (hn : n = iln (.imul) n) (hst : stepF X M pc (.imul) L S h = some (.inl (pc', L', S', h'))) (hk : GW p l e R s m args below meth c Q D ac b0 kv M h0 hE pc' L' S' h') : GW p l e R s m args below meth c Q D ac b0 kv M h0 hE pc L S h := by
  obtain ⟨hx, hb, hr, hml, hown, hts, hlo, hnm, hEv⟩ := id C0
  obtain rfl : n = 1 := hn
  obtain ⟨x, y, S1, rfl, hst⟩ := op2_s hst
  cases gt_s hst
  refine ⟨hk.1, ?_⟩
  intro hA hB H locs ls hR hS hL
  exact lv_imul hx hb hd (hk.2 hA hB H locs ls hR hS hL)
theorem s_iand (C0 : SC p s m args meth c X D ac b0 kv M)  {n : Nat} (hd : decode (mC M) pc = .ok (.iand, n)) (hn : n = iln (.iand) n) (hst : stepF X M pc (.iand) L S h = some (.inl (pc', L', S', h'))) (hk : GW p l e R s m args below meth c Q D ac b0 kv M h0 hE pc' L' S' h') : GW p l e R s m args below meth c Q D ac b0 kv M h0 hE pc L S h := by
  obtain ⟨hx, hb, hr, hml, hown, hts, hlo, hnm, hEv⟩ := id C0
  obtain rfl : n = 1 := hn
  obtain ⟨x, y, S1, rfl, hst⟩ := op2_s hst
  cases gt_s hst
  refine ⟨hk.1, ?_⟩
  intro hA hB H locs ls hR hS hL
  exact lv_iand hx hb hd (hk.2 hA hB H locs ls hR hS hL)
theorem s_ior (C0 : SC p s m args meth c X D ac b0 kv M)  {n : Nat} (hd : decode (mC M) pc = .ok (.ior, n)) (hn : n = iln (.ior) n) (hst : stepF X M pc (.ior) L S h = some (.inl (pc', L', S', h'))) (hk : GW p l e R s m args below meth c Q D ac b0 kv M h0 hE pc' L' S' h') : GW p l e R s m args below meth c Q D ac b0 kv M h0 hE pc L S h := by
  obtain ⟨hx, hb, hr, hml, hown, hts, hlo, hnm, hEv⟩ := id C0
  obtain rfl : n = 1 := hn
  obtain ⟨x, y, S1, rfl, hst⟩ := op2_s hst
  cases gt_s hst
  refine ⟨hk.1, ?_⟩
  intro hA hB H locs ls hR hS hL
  exact lv_ior hx hb hd (hk.2 hA hB H locs ls hR hS hL)
theorem s_ixor (C0 : SC p s m args meth c X D ac b0 kv M)  {n : Nat} (hd : decode (mC M) pc = .ok (.ixor, n)) (hn : n = iln (.ixor) n) (hst : stepF X M pc (.ixor) L S h = some (.inl (pc', L', S', h'))) (hk : GW p l e R s m args below meth c Q D ac b0 kv M h0 hE pc' L' S' h') : GW p l e R s m args below meth c Q D ac b0 kv M h0 hE pc L S h := by
  obtain ⟨hx, hb, hr, hml, hown, hts, hlo, hnm, hEv⟩ := id C0
  obtain rfl : n = 1 := hn
  obtain ⟨x, y, S1, rfl, hst⟩ := op2_s hst
  cases gt_s hst
  refine ⟨hk.1, ?_⟩
  intro hA hB H locs ls hR hS hL
  exact lv_ixor hx hb hd (hk.2 hA hB H locs ls hR hS hL)
theorem s_ishl (C0 : SC p s m args meth c X D ac b0 kv M)  {n : Nat} (hd : decode (mC M) pc = .ok (.ishl, n)) (hn : n = iln (.ishl) n) (hst : stepF X M pc (.ishl) L S h = some (.inl (pc', L', S', h'))) (hk : GW p l e R s m args below meth c Q D ac b0 kv M h0 hE pc' L' S' h') : GW p l e R s m args below meth c Q D ac b0 kv M h0 hE pc L S h := by
  obtain ⟨hx, hb, hr, hml, hown, hts, hlo, hnm, hEv⟩ := id C0
  obtain rfl : n = 1 := hn
  obtain ⟨x, y, S1, rfl, hst⟩ := op2_s hst
  cases gt_s hst
  refine ⟨hk.1, ?_⟩
  intro hA hB H locs ls hR hS hL
  exact lv_ishl hx hb hd (hk.2 hA hB H locs ls hR hS hL)
theorem s_ishr (C0 : SC p s m args meth c X D ac b0 kv M)  {n : Nat} (hd : decode (mC M) pc = .ok (.ishr, n)) (hn : n = iln (.ishr) n) (hst : stepF X M pc (.ishr) L S h = some (.inl (pc', L', S', h'))) (hk : GW p l e R s m args below meth c Q D ac b0 kv M h0 hE pc' L' S' h') : GW p l e R s m args below meth c Q D ac b0 kv M h0 hE pc L S h := by
  obtain ⟨hx, hb, hr, hml, hown, hts, hlo, hnm, hEv⟩ := id C0
  obtain rfl : n = 1 := hn
  obtain ⟨x, y, S1, rfl, hst⟩ := op2_s hst
  cases gt_s hst
  refine ⟨hk.1, ?_⟩
  intro hA hB H locs ls hR hS hL
  exact lv_ishr hx hb hd (hk.2 hA hB H locs ls hR hS hL)
theorem s_idiv (C0 : SC p s m args meth c X D ac b0 kv M)  {n : Nat} (hd : decode (mC M) pc = .ok (.idiv, n)) (hn : n = iln (.idiv) n) (hst : stepF X M pc (.idiv) L S h = some (.inl (pc', L', S', h'))) (hk : GW p l e R s m args below meth c Q D ac b0 kv M h0 hE pc' L' S' h') : GW p l e R s m args below meth c Q D ac b0 kv M h0 hE pc L S h := by
  obtain ⟨hx, hb, hr, hml, hown, hts, hlo, hnm, hEv⟩ := id C0
  obtain rfl : n = 1 := hn
  have hst : op2 S (fun x y S => if y = 0 then none else gt (pc + 1) L (.int (x / y) :: S) h) = some (.inl (pc', L', S', h')) := hst
  obtain ⟨x, y, S1, rfl, hs2⟩ := op2_s hst
  by_cases hy : y = 0
  · rw [if_pos hy] at hs2; cases hs2
  · rw [if_neg hy] at hs2
    cases gt_s hs2
    refine ⟨hk.1, ?_⟩
    intro hA hB H locs ls hR hS hL
    exact lv_idiv hx hb hd hy (hk.2 hA hB H locs ls hR hS hL)
theorem s_irem (C0 : SC p s m args meth c X D ac b0 kv M)  {n : Nat} (hd : decode (mC M) pc = .ok (.irem, n)) (hn : n = iln (.irem) n) (hst : stepF X M pc (.irem) L S h = some (.inl (pc', L', S', h'))) (hk : GW p l e R s m args below meth c Q D ac b0 kv M h0 hE pc' L' S' h') : GW p l e R s m args below meth c Q D ac b0 kv M h0 hE pc L S h := by
  obtain ⟨hx, hb, hr, hml, hown, hts, hlo, hnm, hEv⟩ := id C0
  obtain rfl : n = 1 := hn
  have hst : op2 S (fun x y S => if y = 0 then none else gt (pc + 1) L (.int (x - x / y * y) :: S) h) = some (.inl (pc', L', S', h')) := hst
  obtain ⟨x, y, S1, rfl, hs2⟩ := op2_s hst
  by_cases hy : y = 0
  · rw [if_pos hy] at hs2; cases hs2
  · rw [if_neg hy] at hs2
    cases gt_s hs2
    refine ⟨hk.1, ?_⟩
    intro hA hB H locs ls hR hS hL
    exact lv_irem hx hb hd hy (hk.2 hA hB H locs ls hR hS hL)
theorem s_iushr (C0 : SC p s m args meth c X D ac b0 kv M)  {n : Nat} (hd : decode (mC M) pc = .ok (.iushr, n)) (hn : n = iln (.iushr) n) (hst : stepF X M pc (.iushr) L S h = some (.inl (pc', L', S', h'))) (hk : GW p l e R s m args below meth c Q D ac b0 kv M h0 hE pc' L' S' h') : GW p l e R s m args below meth c Q D ac b0 kv M h0 hE pc L S h := by
  obtain ⟨hx, hb, hr, hml, hown, hts, hlo, hnm, hEv⟩ := id C0
  obtain rfl : n = 1 := hn
  obtain ⟨x, y, S1, rfl, hst⟩ := op2_s hst
  cases gt_s hst
  refine ⟨hk.1, ?_⟩
  intro hA hB H locs ls hR hS hL
  exact lv_iushr hx hb hd rfl (hk.2 hA hB H locs ls hR hS hL)
theorem s_ineg (C0 : SC p s m args meth c X D ac b0 kv M)  {n : Nat} (hd : decode (mC M) pc = .ok (.ineg, n)) (hn : n = iln (.ineg) n) (hst : stepF X M pc (.ineg) L S h = some (.inl (pc', L', S', h'))) (hk : GW p l e R s m args below meth c Q D ac b0 kv M h0 hE pc' L' S' h') : GW p l e R s m args below meth c Q D ac b0 kv M h0 hE pc L S h := by
  obtain ⟨hx, hb, hr, hml, hown, hts, hlo, hnm, hEv⟩ := id C0
  obtain rfl : n = 1 := hn
  obtain ⟨x, S1, rfl, hst⟩ := op1_s hst
  cases gt_s hst
  refine ⟨hk.1, ?_⟩
  intro hA hB H locs ls hR hS hL
  exact lv_ineg hx hb hd (hk.2 hA hB H locs ls hR hS hL)
theorem s_ladd (C0 : SC p s m args meth c X D ac b0 kv M)  {n : Nat} (hd : decode (mC M) pc = .ok (.ladd, n)) (hn : n = iln (.ladd) n) (hst : stepF X M pc (.ladd) L S h = some (.inl (pc', L', S', h'))) (hk : GW p l e R s m args below meth c Q D ac b0 kv M h0 hE pc' L' S' h') : GW p l e R s m args below meth c Q D ac b0 kv M h0 hE pc L S h := by
  obtain ⟨hx, hb, hr, hml, hown, hts, hlo, hnm, hEv⟩ := id C0
  obtain rfl : n = 1 := hn
  obtain ⟨x, y, S1, rfl, hst⟩ := op2l_s hst
  cases gt_s hst
  refine ⟨hk.1, ?_⟩
  intro hA hB H locs ls hR hS hL
  exact lv_ladd hx hb hd (hk.2 hA hB H locs ls hR hS hL)
theorem s_lmul (C0 : SC p s m args meth c X D ac b0 kv M)  {n : Nat} (hd : decode (mC M) pc = .ok (.lmul, n)) (hn : n = iln (.lmul) n) (hst : stepF X M pc (.lmul) L S h = some (.inl (pc', L', S', h'))) (hk : GW p l e R s m args below meth c Q D ac b0 kv M h0 hE pc' L' S' h') : GW p l e R s m args below meth c Q D ac b0 kv M h0 hE pc L S h := by
  obtain ⟨hx, hb, hr, hml, hown, hts, hlo, hnm, hEv⟩ := id C0
  obtain rfl : n = 1 := hn
  obtain ⟨x, y, S1, rfl, hst⟩ := op2l_s hst
  cases gt_s hst
  refine ⟨hk.1, ?_⟩
  intro hA hB H locs ls hR hS hL
  exact lv_lmul hx hb hd (hk.2 hA hB H locs ls hR hS hL)
theorem s_ldiv (C0 : SC p s m args meth c X D ac b0 kv M)  {n : Nat} (hd : decode (mC M) pc = .ok (.ldiv, n)) (hn : n = iln (.ldiv) n) (hst : stepF X M pc (.ldiv) L S h = some (.inl (pc', L', S', h'))) (hk : GW p l e R s m args below meth c Q D ac b0 kv M h0 hE pc' L' S' h') : GW p l e R s m args below meth c Q D ac b0 kv M h0 hE pc L S h := by
  obtain ⟨hx, hb, hr, hml, hown, hts, hlo, hnm, hEv⟩ := id C0
  obtain rfl : n = 1 := hn
  have hst : op2l S (fun x y S => if y = 0 then none else gt (pc + 1) L (.long (x / y) :: S) h) = some (.inl (pc', L', S', h')) := hst
  obtain ⟨x, y, S1, rfl, hs2⟩ := op2l_s hst
  by_cases hy : y = 0
  · rw [if_pos hy] at hs2; cases hs2
  · rw [if_neg hy] at hs2
    cases gt_s hs2
    refine ⟨hk.1, ?_⟩
    intro hA hB H locs ls hR hS hL
    exact lv_ldiv hx hb hd hy (hk.2 hA hB H locs ls hR hS hL)
theorem s_lrem (C0 : SC p s m args meth c X D ac b0 kv M)  {n : Nat} (hd : decode (mC M) pc = .ok (.lrem, n)) (hn : n = iln (.lrem) n) (hst : stepF X M pc (.lrem) L S h = some (.inl (pc', L', S', h'))) (hk : GW p l e R s m args below meth c Q D ac b0 kv M h0 hE pc' L' S' h') : GW p l e R s m args below meth c Q D ac b0 kv M h0 hE pc L S h := by
  obtain ⟨hx, hb, hr, hml, hown, hts, hlo, hnm, hEv⟩ := id C0
  obtain rfl : n = 1 := hn
  have hst : op2l S (fun x y S => if y = 0 then none else gt (pc + 1) L (.long (x - x / y * y) :: S) h) = some (.inl (pc', L', S', h')) := hst
  obtain ⟨x, y, S1, rfl, hs2⟩ := op2l_s hst
  by_cases hy : y = 0
  · rw [if_pos hy] at hs2; cases hs2
  · rw [if_neg hy] at hs2
    cases gt_s hs2
    refine ⟨hk.1, ?_⟩
    intro hA hB H locs ls hR hS hL
    exact lv_lrem hx hb hd hy (hk.2 hA hB H locs ls hR hS hL)
theorem s_lcmp (C0 : SC p s m args meth c X D ac b0 kv M)  {n : Nat} (hd : decode (mC M) pc = .ok (.lcmp, n)) (hn : n = iln (.lcmp) n) (hst : stepF X M pc (.lcmp) L S h = some (.inl (pc', L', S', h'))) (hk : GW p l e R s m args below meth c Q D ac b0 kv M h0 hE pc' L' S' h') : GW p l e R s m args below meth c Q D ac b0 kv M h0 hE pc L S h := by
  obtain ⟨hx, hb, hr, hml, hown, hts, hlo, hnm, hEv⟩ := id C0
  obtain rfl : n = 1 := hn
  obtain ⟨x, y, S1, rfl, hst⟩ := op2l_s hst
  cases gt_s hst
  refine ⟨hk.1, ?_⟩
  intro hA hB H locs ls hR hS hL
  exact W.lcmp hx hb hd (hk.2 hA hB H locs ls hR hS hL)
theorem s_i2l (C0 : SC p s m args meth c X D ac b0 kv M)  {n : Nat} (hd : decode (mC M) pc = .ok (.i2l, n)) (hn : n = iln (.i2l) n) (hst : stepF X M pc (.i2l) L S h = some (.inl (pc', L', S', h'))) (hk : GW p l e R s m args below meth c Q D ac b0 kv M h0 hE pc' L' S' h') : GW p l e R s m args below meth c Q D ac b0 kv M h0 hE pc L S h := by
  obtain ⟨hx, hb, hr, hml, hown, hts, hlo, hnm, hEv⟩ := id C0
  obtain rfl : n = 1 := hn
  obtain ⟨x, S1, rfl, hst⟩ := op1_s hst
  cases gt_s hst
  refine ⟨hk.1, ?_⟩
  intro hA hB H locs ls hR hS hL
  exact lv_i2l hx hb hd rfl (hk.2 hA hB H locs ls hR hS hL)
theorem s_i2c (C0 : SC p s m args meth c X D ac b0 kv M)  {n : Nat} (hd : decode (mC M) pc = .ok (.i2c, n)) (hn : n = iln (.i2c) n) (hst : stepF X M pc (.i2c) L S h = some (.inl (pc', L', S', h'))) (hk : GW p l e R s m args below meth c Q D ac b0 kv M h0 hE pc' L' S' h') : GW p l e R s m args below meth c Q D ac b0 kv M h0 hE pc L S h := by
  obtain ⟨hx, hb, hr, hml, hown, hts, hlo, hnm, hEv⟩ := id C0
  obtain rfl : n = 1 := hn
  obtain ⟨x, S1, rfl, hst⟩ := op1_s hst
  cases gt_s hst
  refine ⟨hk.1, ?_⟩
  intro hA hB H locs ls hR hS hL
  exact lv_i2c hx hb hd rfl (hk.2 hA hB H locs ls hR hS hL)
theorem s_l2i (C0 : SC p s m args meth c X D ac b0 kv M)  {n : Nat} (hd : decode (mC M) pc = .ok (.l2i, n)) (hn : n = iln (.l2i) n) (hst : stepF X M pc (.l2i) L S h = some (.inl (pc', L', S', h'))) (hk : GW p l e R s m args below meth c Q D ac b0 kv M h0 hE pc' L' S' h') : GW p l e R s m args below meth c Q D ac b0 kv M h0 hE pc L S h := by
  obtain ⟨hx, hb, hr, hml, hown, hts, hlo, hnm, hEv⟩ := id C0
  obtain rfl : n = 1 := hn
  obtain ⟨x, S1, rfl, hst⟩ := op1l_s hst
  cases gt_s hst
  refine ⟨hk.1, ?_⟩
  intro hA hB H locs ls hR hS hL
  exact lv_l2i hx hb hd rfl (hk.2 hA hB H locs ls hR hS hL)
theorem s_dup (C0 : SC p s m args meth c X D ac b0 kv M)  {n : Nat} (hd : decode (mC M) pc = .ok (.dup, n)) (hn : n = iln (.dup) n) (hst : stepF X M pc (.dup) L S h = some (.inl (pc', L', S', h'))) (hk : GW p l e R s m args below meth c Q D ac b0 kv M h0 hE pc' L' S' h') : GW p l e R s m args below meth c Q D ac b0 kv M h0 hE pc L S h := by
  obtain ⟨hx, hb, hr, hml, hown, hts, hlo, hnm, hEv⟩ := id C0
  obtain rfl : n = 1 := hn
  simp only [stepF] at hst
  split at hst
  · next v S1 =>
    by_cases hc : cat1 v = true
    · rw [if_pos hc] at hst
      cases gt_s hst
      refine ⟨hk.1, ?_⟩
      intro hA hB H locs ls hR hS hL
      exact lv_dup hx hb hd (cat1_ok hEv.2.2.2.2.2.2.2 hc) (hk.2 hA hB H locs ls hR hS hL)
    · rw [if_neg hc] at hst; cases hst
  · cases hst
theorem s_pop (C0 : SC p s m args meth c X D ac b0 kv M)  {n : Nat} (hd : decode (mC M) pc = .ok (.pop, n)) (hn : n = iln (.pop) n) (hst : stepF X M pc (.pop) L S h = some (.inl (pc', L', S', h'))) (hk : GW p l e R s m args below meth c Q D ac b0 kv M h0 hE pc' L' S' h') : GW p l e R s m args below meth c Q D ac b0 kv M h0 hE pc L S h := by
  obtain ⟨hx, hb, hr, hml, hown, hts, hlo, hnm, hEv⟩ := id C0
  obtain rfl : n = 1 := hn
  simp only [stepF] at hst
  split at hst
  · next v S1 =>
    by_cases hc : cat1 v = true
    · rw [if_pos hc] at hst
      cases gt_s hst
      refine ⟨hk.1, ?_⟩
      intro hA hB H locs ls hR hS hL
      exact lv_pop hx hb hd (cat1_ok hEv.2.2.2.2.2.2.2 hc) (hk.2 hA hB H locs ls hR hS hL)
    · rw [if_neg hc] at hst; cases hst
  · cases hst
theorem s_dup2 (C0 : SC p s m args meth c X D ac b0 kv M)  {n : Nat} (hd : decode (mC M) pc = .ok (.dup2, n)) (hn : n = iln (.dup2) n) (hst : stepF X M pc (.dup2) L S h = some (.inl (pc', L', S', h'))) (hk : GW p l e R s m args below meth c Q D ac b0 kv M h0 hE pc' L' S' h') : GW p l e R s m args below meth c Q D ac b0 kv M h0 hE pc L S h := by
  obtain ⟨hx, hb, hr, hml, hown, hts, hlo, hnm, hEv⟩ := id C0
  obtain rfl : n = 1 := hn
  simp only [stepF] at hst
  split at hst
  · next v w S1 =>
    by_cases hc : cat1 v = true ∧ cat1 w = true
    · rw [if_pos hc] at hst
      cases gt_s hst
      refine ⟨hk.1, ?_⟩
      intro hA hB H locs ls hR hS hL
      exact lv_dup2_11 hx hb hd (cat1_ok hEv.2.2.2.2.2.2.2 hc.1) (cat1_ok hEv.2.2.2.2.2.2.2 hc.2) (hk.2 hA hB H locs ls hR hS hL)
    · rw [if_neg hc] at hst; cases hst
  · cases hst
theorem s_goto (C0 : SC p s m args meth c X D ac b0 kv M) {off : Int} {n : Nat} (hd : decode (mC M) pc = .ok (.goto off, n)) (hn : n = iln (.goto off) n) (hst : stepF X M pc (.goto off) L S h = some (.inl (pc', L', S', h'))) (hk : GW p l e R s m args below meth c Q D ac b0 kv M h0 hE pc' L' S' h') : GW p l e R s m args below meth c Q D ac b0 kv M h0 hE pc L S h := by
  obtain ⟨hx, hb, hr, hml, hown, hts, hlo, hnm, hEv⟩ := id C0
  obtain rfl : n = 3 := hn
  obtain ⟨t, ht, hst⟩ := jp_s hst
  cases hst
  refine ⟨hk.1, ?_⟩
  intro hA hB H locs ls hR hS hL
  exact lv_goto hx hb hd ht (hk.2 hA hB H locs ls hR hS hL)
theorem s_if_eq (C0 : SC p s m args meth c X D ac b0 kv M) {off : Int} {n : Nat} (hd : decode (mC M) pc = .ok (.ifCond .eq off, n)) (hn : n = iln (.ifCond .eq off) n) (hst : stepF X M pc (.ifCond .eq off) L S h = some (.inl (pc', L', S', h'))) (hk : GW p l e R s m args below meth c Q D ac b0 kv M h0 hE pc' L' S' h') : GW p l e R s m args below meth c Q D ac b0 kv M h0 hE pc L S h := by
  obtain ⟨hx, hb, hr, hml, hown, hts, hlo, hnm, hEv⟩ := id C0
  obtain rfl : n = 3 := hn
  obtain ⟨x, S1, rfl, hst⟩ := op1_s hst
  obtain ⟨t, ht, ⟨hc, hst⟩ | ⟨hc, hst⟩⟩ := br_s hst
  · cases hst
    refine ⟨hk.1, ?_⟩
    intro hA hB H locs ls hR hS hL
    exact lv_if_eq hx hb hd ht (fun _ => hk.2 hA hB H locs ls hR hS hL) (fun q => absurd hc (by first | exact q | exact fun z => z q))
  · cases hst
    refine ⟨hk.1, ?_⟩
    intro hA hB H locs ls hR hS hL
    exact lv_if_eq hx hb hd ht (fun q => absurd q hc) (fun _ => hk.2 hA hB H locs ls hR hS hL)
theorem s_icmp_eq (C0 : SC p s m args meth c X D ac b0 kv M) {off : Int} {n : Nat} (hd : decode (mC M) pc = .ok (.if_icmp .eq off, n)) (hn : n = iln (.if_icmp .eq off) n) (hst : stepF X M pc (.if_icmp .eq off) L S h = some (.inl (pc', L', S', h'))) (hk : GW p l e R s m args below meth c Q D ac b0 kv M h0 hE pc' L' S' h') : GW p l e R s m args below meth c Q D ac b0 kv M h0 hE pc L S h := by
  obtain ⟨hx, hb, hr, hml, hown, hts, hlo, hnm, hEv⟩ := id C0
  obtain rfl : n = 3 := hn
  obtain ⟨x, y, S1, rfl, hst⟩ := op2_s hst
  obtain ⟨t, ht, ⟨hc, hst⟩ | ⟨hc, hst⟩⟩ := br_s hst
  · cases hst
    refine ⟨hk.1, ?_⟩
    intro hA hB H locs ls hR hS hL
    exact lv_icmp_eq hx hb hd ht (fun _ => hk.2 hA hB H locs ls hR hS hL) (fun q => absurd hc (by first | exact q | exact fun z => z q))
  · cases hst
    refine ⟨hk.1, ?_⟩
    intro hA hB H locs ls hR hS hL
    exact lv_icmp_eq hx hb hd ht (fun q => absurd q hc) (fun _ => hk.2 hA hB H locs ls hR hS hL)
theorem s_if_ne (C0 : SC p s m args meth c X D ac b0 kv M) {off : Int} {n : Nat} (hd : decode (mC M) pc = .ok (.ifCond .ne off, n)) (hn : n = iln (.ifCond .ne off) n) (hst : stepF X M pc (.ifCond .ne off) L S h = some (.inl (pc', L', S', h'))) (hk : GW p l e R s m args below meth c Q D ac b0 kv M h0 hE pc' L' S' h') : GW p l e R s m args below meth c Q D ac b0 kv M h0 hE pc L S h := by
  obtain ⟨hx, hb, hr, hml, hown, hts, hlo, hnm, hEv⟩ := id C0
  obtain rfl : n = 3 := hn
  obtain ⟨x, S1, rfl, hst⟩ := op1_s hst
  obtain ⟨t, ht, ⟨hc, hst⟩ | ⟨hc, hst⟩⟩ := br_s hst
  · cases hst
    refine ⟨hk.1, ?_⟩
    intro hA hB H locs ls hR hS hL
    exact lv_if_ne hx hb hd ht (fun _ => hk.2 hA hB H locs ls hR hS hL) (fun q => absurd hc (by first | exact q | exact fun z => z q))
  · cases hst
    refine ⟨hk.1, ?_⟩
    intro hA hB H locs ls hR hS hL
    exact lv_if_ne hx hb hd ht (fun q => absurd q hc) (fun _ => hk.2 hA hB H locs ls hR hS hL)
theorem s_icmp_ne (C0 : SC p s m args meth c X D ac b0 kv M) {off : Int} {n : Nat} (hd : decode (mC M) pc = .ok (.if_icmp .ne off, n)) (hn : n = iln (.if_icmp .ne off) n) (hst : stepF X M pc (.if_icmp .ne off) L S h = some (.inl (pc', L', S', h'))) (hk : GW p l e R s m args below meth c Q D ac b0 kv M h0 hE pc' L' S' h') : GW p l e R s m args below meth c Q D ac b0 kv M h0 hE pc L S h := by
  obtain ⟨hx, hb, hr, hml, hown, hts, hlo, hnm, hEv⟩ := id C0
  obtain rfl : n = 3 := hn
  obtain ⟨x, y, S1, rfl, hst⟩ := op2_s hst
  obtain ⟨t, ht, ⟨hc, hst⟩ | ⟨hc, hst⟩⟩ := br_s hst
  · cases hst
    refine ⟨hk.1, ?_⟩
    intro hA hB H locs ls hR hS hL
    exact lv_icmp_ne hx hb hd ht (fun _ => hk.2 hA hB H locs ls hR hS hL) (fun q => absurd hc (by first | exact q | exact fun z => z q))
  · cases hst
    refine ⟨hk.1, ?_⟩
    intro hA hB H locs ls hR hS hL
    exact lv_icmp_ne hx hb hd ht (fun q => absurd q hc) (fun _ => hk.2 hA hB H locs ls hR hS hL)
theorem s_if_lt (C0 : SC p s m args meth c X D ac b0 kv M) {off : Int} {n : Nat} (hd : decode (mC M) pc = .ok (.ifCond .lt off, n)) (hn : n = iln (.ifCond .lt off) n) (hst : stepF X M pc (.ifCond .lt off) L S h = some (.inl (pc', L', S', h'))) (hk : GW p l e R s m args below meth c Q D ac b0 kv M h0 hE pc' L' S' h') : GW p l e R s m args below meth c Q D ac b0 kv M h0 hE pc L S h := by
  obtain ⟨hx, hb, hr, hml, hown, hts, hlo, hnm, hEv⟩ := id C0
  obtain rfl : n = 3 := hn
  obtain ⟨x, S1, rfl, hst⟩ := op1_s hst
  obtain ⟨t, ht, ⟨hc, hst⟩ | ⟨hc, hst⟩⟩ := br_s hst
  · cases hst
    refine ⟨hk.1, ?_⟩
    intro hA hB H locs ls hR hS hL
    exact lv_if_lt hx hb hd ht (fun _ => hk.2 hA hB H locs ls hR hS hL) (fun q => absurd hc (by first | exact q | exact fun z => z q))
  · cases hst
    refine ⟨hk.1, ?_⟩
    intro hA hB H locs ls hR hS hL
    exact lv_if_lt hx hb hd ht (fun q => absurd q hc) (fun _ => hk.2 hA hB H locs ls hR hS hL)
theorem s_icmp_lt (C0 : SC p s m args meth c X D ac b0 kv M) {off : Int} {n : Nat} (hd : decode (mC M) pc = .ok (.if_icmp .lt off, n)) (hn : n = iln (.if_icmp .lt off) n) (hst : stepF X M pc (.if_icmp .lt off) L S h = some (.inl (pc', L', S', h'))) (hk : GW p l e R s m args below meth c Q D ac b0 kv M h0 hE pc' L' S' h') : GW p l e R s m args below meth c Q D ac b0 kv M h0 hE pc L S h := by
  obtain ⟨hx, hb, hr, hml, hown, hts, hlo, hnm, hEv⟩ := id C0
  obtain rfl : n = 3 := hn
  obtain ⟨x, y, S1, rfl, hst⟩ := op2_s hst
  obtain ⟨t, ht, ⟨hc, hst⟩ | ⟨hc, hst⟩⟩ := br_s hst
  · cases hst
    refine ⟨hk.1, ?_⟩
    intro hA hB H locs ls hR hS hL
    exact lv_icmp_lt hx hb hd ht (fun _ => hk.2 hA hB H locs ls hR hS hL) (fun q => absurd hc (by first | exact q | exact fun z => z q))
  · cases hst
    refine ⟨hk.1, ?_⟩
    intro hA hB H locs ls hR hS hL
    exact lv_icmp_lt hx hb hd ht (fun q => absurd q hc) (fun _ => hk.2 hA hB H locs ls hR hS hL)
theorem s_if_ge (C0 : SC p s m args meth c X D ac b0 kv M) {off : Int} {n : Nat} (hd : decode (mC M) pc = .ok (.ifCond .ge off, n)) (hn : n = iln (.ifCond .ge off) n) (hst : stepF X M pc (.ifCond .ge off) L S h = some (.inl (pc', L', S', h'))) (hk : GW p l e R s m args below meth c Q D ac b0 kv M h0 hE pc' L' S' h') : GW p l e R s m args below meth c Q D ac b0 kv M h0 hE pc L S h := by
  obtain ⟨hx, hb, hr, hml, hown, hts, hlo, hnm, hEv⟩ := id C0
  obtain rfl : n = 3 := hn
  obtain ⟨x, S1, rfl, hst⟩ := op1_s hst
  obtain ⟨t, ht, ⟨hc, hst⟩ | ⟨hc, hst⟩⟩ := br_s hst
  · cases hst
    refine ⟨hk.1, ?_⟩
    intro hA hB H locs ls hR hS hL
    exact lv_if_ge hx hb hd ht (fun _ => hk.2 hA hB H locs ls hR hS hL) (fun q => absurd hc (by first | exact q | exact fun z => z q))
  · cases hst
    refine ⟨hk.1, ?_⟩
    intro hA hB H locs ls hR hS hL
    exact lv_if_ge hx hb hd ht (fun q => absurd q hc) (fun _ => hk.2 hA hB H locs ls hR hS hL)
theorem s_icmp_ge (C0 : SC p s m args meth c X D ac b0 kv M) {off : Int} {n : Nat} (hd : decode (mC M) pc = .ok (.if_icmp .ge off, n)) (hn : n = iln (.if_icmp .ge off) n) (hst : stepF X M pc (.if_icmp .ge off) L S h = some (.inl (pc', L', S', h'))) (hk : GW p l e R s m args below meth c Q D ac b0 kv M h0 hE pc' L' S' h') : GW p l e R s m args below meth c Q D ac b0 kv M h0 hE pc L S h := by
  obtain ⟨hx, hb, hr, hml, hown, hts, hlo, hnm, hEv⟩ := id C0
  obtain rfl : n = 3 := hn
  obtain ⟨x, y, S1, rfl, hst⟩ := op2_s hst
  obtain ⟨t, ht, ⟨hc, hst⟩ | ⟨hc, hst⟩⟩ := br_s hst
  · cases hst
    refine ⟨hk.1, ?_⟩
    intro hA hB H locs ls hR hS hL
    exact lv_icmp_ge hx hb hd ht (fun _ => hk.2 hA hB H locs ls hR hS hL) (fun q => absurd hc (by first | exact q | exact fun z => z q))
  · cases hst
    refine ⟨hk.1, ?_⟩
    intro hA hB H locs ls hR hS hL
    exact lv_icmp_ge hx hb hd ht (fun q => absurd q hc) (fun _ => hk.2 hA hB H locs ls hR hS hL)
theorem s_if_gt (C0 : SC p s m args meth c X D ac b0 kv M) {off : Int} {n : Nat} (hd : decode (mC M) pc = .ok (.ifCond .gt off, n)) (hn : n = iln (.ifCond .gt off) n) (hst : stepF X M pc (.ifCond .gt off) L S h = some (.inl (pc', L', S', h'))) (hk : GW p l e R s m args below meth c Q D ac b0 kv M h0 hE pc' L' S' h') : GW p l e R s m args below meth c Q D ac b0 kv M h0 hE pc L S h := by
  obtain ⟨hx, hb, hr, hml, hown, hts, hlo, hnm, hEv⟩ := id C0
  obtain rfl : n = 3 := hn
  obtain ⟨x, S1, rfl, hst⟩ := op1_s hst
  obtain ⟨t, ht, ⟨hc, hst⟩ | ⟨hc, hst⟩⟩ := br_s hst
  · cases hst
    refine ⟨hk.1, ?_⟩
    intro hA hB H locs ls hR hS hL
    exact lv_if_gt hx hb hd ht (fun _ => hk.2 hA hB H locs ls hR hS hL) (fun q => absurd hc (by first | exact q | exact fun z => z q))
  · cases hst
    refine ⟨hk.1, ?_⟩
    intro hA hB H locs ls hR hS hL
    exact lv_if_gt hx hb hd ht (fun q => absurd q hc) (fun _ => hk.2 hA hB H locs ls hR hS hL)
theorem s_icmp_gt (C0 : SC p s m args meth c X D ac b0 kv M) {off : Int} {n : Nat} (hd : decode (mC M) pc = .ok (.if_icmp .gt off, n)) (hn : n = iln (.if_icmp .gt off) n) (hst : stepF X M pc (.if_icmp .gt off) L S h = some (.inl (pc', L', S', h'))) (hk : GW p l e R s m args below meth c Q D ac b0 kv M h0 hE pc' L' S' h') : GW p l e R s m args below meth c Q D ac b0 kv M h0 hE pc L S h := by
  obtain ⟨hx, hb, hr, hml, hown, hts, hlo, hnm, hEv⟩ := id C0
  obtain rfl : n = 3 := hn
  obtain ⟨x, y, S1, rfl, hst⟩ := op2_s hst
  obtain ⟨t, ht, ⟨hc, hst⟩ | ⟨hc, hst⟩⟩ := br_s hst
  · cases hst
    refine ⟨hk.1, ?_⟩
    intro hA hB H locs ls hR hS hL
    exact lv_icmp_gt hx hb hd ht (fun _ => hk.2 hA hB H locs ls hR hS hL) (fun q => absurd hc (by first | exact q | exact fun z => z q))
  · cases hst
    refine ⟨hk.1, ?_⟩
    intro hA hB H locs ls hR hS hL
    exact lv_icmp_gt hx hb hd ht (fun q => absurd q hc) (fun _ => hk.2 hA hB H locs ls hR hS hL)
theorem s_if_le (C0 : SC p s m args meth c X D ac b0 kv M) {off : Int} {n : Nat} (hd : decode (mC M) pc = .ok (.ifCond .le off, n)) (hn : n = iln (.ifCond .le off) n) (hst : stepF X M pc (.ifCond .le off) L S h = some (.inl (pc', L', S', h'))) (hk : GW p l e R s m args below meth c Q D ac b0 kv M h0 hE pc' L' S' h') : GW p l e R s m args below meth c Q D ac b0 kv M h0 hE pc L S h := by
  obtain ⟨hx, hb, hr, hml, hown, hts, hlo, hnm, hEv⟩ := id C0
  obtain rfl : n = 3 := hn
  obtain ⟨x, S1, rfl, hst⟩ := op1_s hst
  obtain ⟨t, ht, ⟨hc, hst⟩ | ⟨hc, hst⟩⟩ := br_s hst
  · cases hst
    refine ⟨hk.1, ?_⟩
    intro hA hB H locs ls hR hS hL
    exact lv_if_le hx hb hd ht (fun _ => hk.2 hA hB H locs ls hR hS hL) (fun q => absurd hc (by first | exact q | exact fun z => z q))
  · cases hst
    refine ⟨hk.1, ?_⟩
    intro hA hB H locs ls hR hS hL
    exact lv_if_le hx hb hd ht (fun q => absurd q hc) (fun _ => hk.2 hA hB H locs ls hR hS hL)
theorem s_icmp_le (C0 : SC p s m args meth c X D ac b0 kv M) {off : Int} {n : Nat} (hd : decode (mC M) pc = .ok (.if_icmp .le off, n)) (hn : n = iln (.if_icmp .le off) n) (hst : stepF X M pc (.if_icmp .le off) L S h = some (.inl (pc', L', S', h'))) (hk : GW p l e R s m args below meth c Q D ac b0 kv M h0 hE pc' L' S' h') : GW p l e R s m args below meth c Q D ac b0 kv M h0 hE pc L S h := by
  obtain ⟨hx, hb, hr, hml, hown, hts, hlo, hnm, hEv⟩ := id C0
  obtain rfl : n = 3 := hn
  obtain ⟨x, y, S1, rfl, hst⟩ := op2_s hst
  obtain ⟨t, ht, ⟨hc, hst⟩ | ⟨hc, hst⟩⟩ := br_s hst
  · cases hst
    refine ⟨hk.1, ?_⟩
    intro hA hB H locs ls hR hS hL
    exact lv_icmp_le hx hb hd ht (fun _ => hk.2 hA hB H locs ls hR hS hL) (fun q => absurd hc (by first | exact q | exact fun z => z q))
  · cases hst
    refine ⟨hk.1, ?_⟩
    intro hA hB H locs ls hR hS hL
    exact lv_icmp_le hx hb hd ht (fun q => absurd q hc) (fun _ => hk.2 hA hB H locs ls hR hS hL)
theorem s_tableswitch (C0 : SC p s m args meth c X D ac b0 kv M) {dflt lo hi : Int} {offs : Array Int} {n : Nat} (hd : decode (mC M) pc = .ok (.tableswitch dflt lo hi offs, n)) (hn : n = iln (.tableswitch dflt lo hi offs) n) (hst : stepF X M pc (.tableswitch dflt lo hi offs) L S h = some (.inl (pc', L', S', h'))) (hk : GW p l e R s m args below meth c Q D ac b0 kv M h0 hE pc' L' S' h') : GW p l e R s m args below meth c Q D ac b0 kv M h0 hE pc L S h := by
  obtain ⟨hx, hb, hr, hml, hown, hts, hlo, hnm, hEv⟩ := id C0
  have hst : op1 S (fun x S => if x.toInt < lo ∨ hi < x.toInt then jp pc dflt L S h else match offs[(x.toInt - lo).toNat]? with
    | some off => jp pc off L S h
    | none => none) = some (.inl (pc', L', S', h')) := hst
  obtain ⟨x, S1, rfl, hs2⟩ := op1_s hst
  by_cases hc : x.toInt < lo ∨ hi < x.toInt
  · rw [if_pos hc] at hs2
    obtain ⟨t, ht, hs2⟩ := jp_s hs2
    cases hs2
    refine ⟨hk.1, ?_⟩
    intro hA hB H locs ls hR hS hL
    exact lv_tableOut hx hb hd hc ht (hk.2 hA hB H locs ls hR hS hL)
  · rw [if_neg hc] at hs2
    cases ho : offs[(x.toInt - lo).toNat]? with
    | none => rw [ho] at hs2; cases hs2
    | some off =>
      rw [ho] at hs2
      obtain ⟨t, ht, hs2⟩ := jp_s hs2
      cases hs2
      refine ⟨hk.1, ?_⟩
      intro hA hB H locs ls hR hS hL
      exact lv_tableIn hx hb hd (fun q => hc (Or.inl q)) (fun q => hc (Or.inr q)) ho ht (hk.2 hA hB H locs ls hR hS hL)
theorem s_getfield (C0 : SC p s m args meth c X D ac b0 kv M) {idx : Nat} {n : Nat} (hd : decode (mC M) pc = .ok (.getfield idx, n)) (hn : n = iln (.getfield idx) n) (hst : stepF X M pc (.getfield idx) L S h = some (.inl (pc', L', S', h'))) (hk : GW p l e R s m args below meth c Q D ac b0 kv M h0 hE pc' L' S' h') : GW p l e R s m args below meth c Q D ac b0 kv M h0 hE pc L S h := by
  obtain ⟨hx, hb, hr, hml, hown, hts, hlo, hnm, hEv⟩ := id C0
  obtain rfl : n = 3 := hn
  simp only [stepF] at hst
  split at hst
  · next k S1 =>
    cases hf : fF (mK M) idx with
    | none => rw [hf] at hst; cases hst
    | some q =>
      obtain ⟨ci, f, nest⟩ := q
      rw [hf] at hst
      obtain ⟨fs, v, h1, h2, hst⟩ := gfd_s hst
      cases gt_s hst
      refine ⟨hk.1, ?_⟩
      intro hA hB H locs ls hR hS hL
      exact Rget C0 hf hR h1 h2 hd (hk.2 hA hB H locs ls hR hS hL)
  · next q S1 =>
    cases hf : fS (mK M) idx with
    | none => rw [hf] at hst; cases hst
    | some f =>
      rw [hf] at hst
      dsimp only at hst
      by_cases hq : isS q = true
      · rw [if_pos hq] at hst
        cases gt_s hst
        obtain ⟨hf2, hw⟩ := fS_ok hf
        obtain ⟨i, hi, e1, e2⟩ := isS_ok hq
        obtain ⟨t, ht, hO, hOF1, hOF2, -⟩ := hEv.2.2.2.2.2.2.1 i hi
        refine ⟨hk.1, ?_⟩
        intro hA hB H locs ls hR hS hL
        have hkk := hk.2 hA hB H locs ls hR hS hL
        rw [List.map_cons, show cv b0 kv (.float q) = kv q from rfl, e1, ht]
        rw [List.map_cons] at hkk
        rcases (show f = 0 ∨ f = 1 by omega) with rfl | rfl
        · rw [if_pos rfl, show cv b0 kv (.float (q + 10)) = kv (q + 10) from rfl, e2] at hkk
          exact vk_getf hx hb hOF2 hS hown (hts _ hw) (fun _ z => z) hd hkk
        · exact vk_getf hx hb hOF1 hS hown (hts _ hw) (fun _ z => z) hd hkk
      · rw [if_neg hq] at hst; cases hst
  · cases hst
theorem s_putfield (C0 : SC p s m args meth c X D ac b0 kv M) {idx : Nat} {n : Nat} (hd : decode (mC M) pc = .ok (.putfield idx, n)) (hn : n = iln (.putfield idx) n) (hst : stepF X M pc (.putfield idx) L S h = some (.inl (pc', L', S', h'))) (hk : GW p l e R s m args below meth c Q D ac b0 kv M h0 hE pc' L' S' h') : GW p l e R s m args below meth c Q D ac b0 kv M h0 hE pc L S h := by
  obtain ⟨hx, hb, hr, hml, hown, hts, hlo, hnm, hEv⟩ := id C0
  obtain rfl : n = 3 := hn
  simp only [stepF] at hst
  split at hst
  · next v k S1 =>
    cases hf : fF (mK M) idx with
    | none => rw [hf] at hst; cases hst
    | some q =>
      obtain ⟨ci, f, nest⟩ := q
      rw [hf] at hst
      dsimp only at hst
      by_cases hc : okf (fty ci f) v = true ∧ ((fT ci f).2.2.2 = false ∨ (nest = false ∧ mS M = 2 ∧ mK M = ci))
      · rw [if_pos hc] at hst
        obtain ⟨fs, h1, h2, hst⟩ := pfd_s hst
        cases gt_s hst
        refine ⟨hk.1, ?_⟩
        intro hA hB H locs ls hR hS hL
        exact Rput C0 hf hc.1 hc.2 hR hS h1 h2 hd (fun H1 locs1 hR1 hS1 => hk.2 hA hB H1 locs1 ls hR1 hS1 hL)
      · rw [if_neg hc] at hst; cases hst
  · cases hst
theorem s_getstatic (C0 : SC p s m args meth c X D ac b0 kv M) {idx : Nat} {n : Nat} (hd : decode (mC M) pc = .ok (.getstatic idx, n)) (hn : n = iln (.getstatic idx) n) (hst : stepF X M pc (.getstatic idx) L S h = some (.inl (pc', L', S', h'))) (hk : GW p l e R s m args below meth c Q D ac b0 kv M h0 hE pc' L' S' h') : GW p l e R s m args below meth c Q D ac b0 kv M h0 hE pc L S h := by
  obtain ⟨hx, hb, hr, hml, hown, hts, hlo, hnm, hEv⟩ := id C0
  obtain rfl : n = 3 := hn
  simp only [stepF] at hst
  cases hf : fG (mK M) idx with
  | none => rw [hf] at hst; cases hst
  | some q =>
    rw [hf] at hst
    cases gt_s hst
    obtain ⟨hq, hw⟩ := fG_ok hf
    have hm : sgE q ∈ sgT := by
      unfold sgE
      rw [List.getD_eq_getElem?_getD, List.getElem?_eq_getElem hq]
      exact List.getElem_mem hq
    refine ⟨hk.1, ?_⟩
    intro hA hB H locs ls hR hS hL
    exact va_gets hx hb (hEv.2.2.2.2.2.1 _ hm) hS hown (hts _ hw) (fun _ z => z) hd (hk.2 hA hB H locs ls hR hS hL)
theorem s_iaload (C0 : SC p s m args meth c X D ac b0 kv M)  {n : Nat} (hd : decode (mC M) pc = .ok (.iaload, n)) (hn : n = iln (.iaload) n) (hst : stepF X M pc (.iaload) L S h = some (.inl (pc', L', S', h'))) (hk : GW p l e R s m args below meth c Q D ac b0 kv M h0 hE pc' L' S' h') : GW p l e R s m args below meth c Q D ac b0 kv M h0 hE pc L S h := by
  obtain ⟨hx, hb, hr, hml, hown, hts, hlo, hnm, hEv⟩ := id C0
  obtain rfl : n = 1 := hn
  simp only [stepF] at hst
  split at hst
  · next i k S1 =>
    obtain ⟨n1, f, h1, h2, hst⟩ := ald_s hst
    cases gt_s hst
    refine ⟨hk.1, ?_⟩
    intro hA hB H locs ls hR hS hL
    obtain ⟨hlt, hget⟩ := HR_get hR h1 (by intro q; cases q)
    obtain ⟨t0, ht⟩ := tyK_get (ac := ac) (t := .int) (by decide)
    exact va_iald hx hb hEv.2.1 hR.2.1 k t0 hget ht h2 hd (hk.2 hA hB H locs ls hR hS hL)
  · next i q S1 =>
    split at hst
    · next t n1 f hA =>
      by_cases hc : t = .int ∧ ¬ (i < 0 ∨ n1 ≤ i.toNatClampNeg)
      · rw [if_pos hc] at hst
        cases gt_s hst
        obtain ⟨rfl, hin⟩ := hc
        obtain ⟨t1, e1, hT⟩ := hEv.2.2.2.2.1 _ _ hA
        refine ⟨hk.1, ?_⟩
        intro hA hB H locs ls hR hS hL
        rw [List.map_cons, List.map_cons, show cv b0 kv (.float q) = kv q from rfl, e1]
        exact va_ti hx hb hT hS hin rfl hd (hk.2 hA hB H locs ls hR hS hL)
      · rw [if_neg hc] at hst; cases hst
    · cases hst
  · cases hst
theorem s_baload (C0 : SC p s m args meth c X D ac b0 kv M)  {n : Nat} (hd : decode (mC M) pc = .ok (.baload, n)) (hn : n = iln (.baload) n) (hst : stepF X M pc (.baload) L S h = some (.inl (pc', L', S', h'))) (hk : GW p l e R s m args below meth c Q D ac b0 kv M h0 hE pc' L' S' h') : GW p l e R s m args below meth c Q D ac b0 kv M h0 hE pc L S h := by
  obtain ⟨hx, hb, hr, hml, hown, hts, hlo, hnm, hEv⟩ := id C0
  obtain rfl : n = 1 := hn
  simp only [stepF] at hst
  split at hst
  · next i k S1 =>
    obtain ⟨n1, f, h1, h2, hst⟩ := ald_s hst
    cases gt_s hst
    refine ⟨hk.1, ?_⟩
    intro hA hB H locs ls hR hS hL
    obtain ⟨hlt, hget⟩ := HR_get hR h1 (by intro q; cases q)
    obtain ⟨t0, ht⟩ := tyK_get (ac := ac) (t := .boolean) (by decide)
    exact va_zald hx hb hEv.2.1 hR.2.1 k t0 hget ht h2 hd (hk.2 hA hB H locs ls hR hS hL)
  · next i q S1 =>
    split at hst
    · next t n1 f hA =>
      by_cases hc : t = .byte ∧ ¬ (i < 0 ∨ n1 ≤ i.toNatClampNeg)
      · rw [if_pos hc] at hst
        cases gt_s hst
        obtain ⟨rfl, hin⟩ := hc
        obtain ⟨t1, e1, hT⟩ := hEv.2.2.2.2.1 _ _ hA
        refine ⟨hk.1, ?_⟩
        intro hA hB H locs ls hR hS hL
        rw [List.map_cons, List.map_cons, show cv b0 kv (.float q) = kv q from rfl, e1]
        exact va_tb hx hb hT hS hin rfl hd (hk.2 hA hB H locs ls hR hS hL)
      · rw [if_neg hc] at hst; cases hst
    · cases hst
  · cases hst
theorem s_caload (C0 : SC p s m args meth c X D ac b0 kv M)  {n : Nat} (hd : decode (mC M) pc = .ok (.caload, n)) (hn : n = iln (.caload) n) (hst : stepF X M pc (.caload) L S h = some (.inl (pc', L', S', h'))) (hk : GW p l e R s m args below meth c Q D ac b0 kv M h0 hE pc' L' S' h') : GW p l e R s m args below meth c Q D ac b0 kv M h0 hE pc L S h := by
  obtain ⟨hx, hb, hr, hml, hown, hts, hlo, hnm, hEv⟩ := id C0
  obtain rfl : n = 1 := hn
  simp only [stepF] at hst
  split at hst
  · next i k S1 =>
    obtain ⟨n1, f, h1, h2, hst⟩ := ald_s hst
    cases gt_s hst
    refine ⟨hk.1, ?_⟩
    intro hA hB H locs ls hR hS hL
    obtain ⟨hlt, hget⟩ := HR_get hR h1 (by intro q; cases q)
    obtain ⟨t0, ht⟩ := tyK_get (ac := ac) (t := .char) (by decide)
    exact va_cald hx hb hEv.2.1 hR.2.1 k t0 hget ht h2 hd (hk.2 hA hB H locs ls hR hS hL)
  · cases hst
theorem s_aaload (C0 : SC p s m args meth c X D ac b0 kv M)  {n : Nat} (hd : decode (mC M) pc = .ok (.aaload, n)) (hn : n = iln (.aaload) n) (hst : stepF X M pc (.aaload) L S h = some (.inl (pc', L', S', h'))) (hk : GW p l e R s m args below meth c Q D ac b0 kv M h0 hE pc' L' S' h') : GW p l e R s m args below meth c Q D ac b0 kv M h0 hE pc L S h := by
  obtain ⟨hx, hb, hr, hml, hown, hts, hlo, hnm, hEv⟩ := id C0
  obtain rfl : n = 1 := hn
  simp only [stepF] at hst
  split at hst
  · next i k S1 =>
    obtain ⟨C, n1, g, a, h1, h2, h3, hst⟩ := aald_s hst
    cases gt_s hst
    refine ⟨hk.1, ?_⟩
    intro hA hB H locs ls hR hS hL
    obtain ⟨hlt, hget⟩ := HR_get hR h1 (by intro q; cases q)
    have hkk := hk.2 hA hB H locs ls hR hS hL
    obtain ⟨t0, ht⟩ := tyK_get (ac := ac) (hR.1.2 k _ h1)
    exact va_aldq hx hb hEv.2.1 hR.2.1 k t0 hget ht h2 hd (by
      show W p l e R s m args below meth c H locs (hn h - hn h0) (hz h - hz h0) Q (F0 m (pc + 1) ls (va_rf ((g i.toNatClampNeg).map (fun k => b0 + k)) :: S1.map (cv b0 kv)))
      rw [h3]
      exact hkk)
  · cases hst
theorem s_iastore (C0 : SC p s m args meth c X D ac b0 kv M)  {n : Nat} (hd : decode (mC M) pc = .ok (.iastore, n)) (hn : n = iln (.iastore) n) (hst : stepF X M pc (.iastore) L S h = some (.inl (pc', L', S', h'))) (hk : GW p l e R s m args below meth c Q D ac b0 kv M h0 hE pc' L' S' h') : GW p l e R s m args below meth c Q D ac b0 kv M h0 hE pc L S h := by
  obtain ⟨hx, hb, hr, hml, hown, hts, hlo, hnm, hEv⟩ := id C0
  obtain rfl : n = 1 := hn
  simp only [stepF] at hst
  split at hst
  · next x i k S1 =>
    obtain ⟨n1, f, h1, h2, hst⟩ := ast_s hst
    cases gt_s hst
    refine ⟨hk.1, ?_⟩
    intro hA hB H locs ls hR hS hL
    exact Rast C0 (Or.inl ⟨rfl, rfl⟩) hR hS h1 h2 hd (fun H1 locs1 hR1 hS1 => hk.2 hA hB H1 locs1 ls hR1 hS1 hL)
  · cases hst
theorem s_bastore (C0 : SC p s m args meth c X D ac b0 kv M)  {n : Nat} (hd : decode (mC M) pc = .ok (.bastore, n)) (hn : n = iln (.bastore) n) (hst : stepF X M pc (.bastore) L S h = some (.inl (pc', L', S', h'))) (hk : GW p l e R s m args below meth c Q D ac b0 kv M h0 hE pc' L' S' h') : GW p l e R s m args below meth c Q D ac b0 kv M h0 hE pc L S h := by
  obtain ⟨hx, hb, hr, hml, hown, hts, hlo, hnm, hEv⟩ := id C0
  obtain rfl : n = 1 := hn
  simp only [stepF] at hst
  split at hst
  · next x i k S1 =>
    obtain ⟨n1, f, h1, h2, hst⟩ := ast_s hst
    cases gt_s hst
    refine ⟨hk.1, ?_⟩
    intro hA hB H locs ls hR hS hL
    exact Rast C0 (Or.inr (Or.inl ⟨rfl, rfl⟩)) hR hS h1 h2 hd (fun H1 locs1 hR1 hS1 => hk.2 hA hB H1 locs1 ls hR1 hS1 hL)
  · cases hst
theorem s_castore (C0 : SC p s m args meth c X D ac b0 kv M)  {n : Nat} (hd : decode (mC M) pc = .ok (.castore, n)) (hn : n = iln (.castore) n) (hst : stepF X M pc (.castore) L S h = some (.inl (pc', L', S', h'))) (hk : GW p l e R s m args below meth c Q D ac b0 kv M h0 hE pc' L' S' h') : GW p l e R s m args below meth c Q D ac b0 kv M h0 hE pc L S h := by
  obtain ⟨hx, hb, hr, hml, hown, hts, hlo, hnm, hEv⟩ := id C0
  obtain rfl : n = 1 := hn
  simp only [stepF] at hst
  split at hst
  · next x i k S1 =>
    obtain ⟨n1, f, h1, h2, hst⟩ := ast_s hst
    cases gt_s hst
    refine ⟨hk.1, ?_⟩
    intro hA hB H locs ls hR hS hL
    exact Rast C0 (Or.inr (Or.inr ⟨rfl, rfl⟩)) hR hS h1 h2 hd (fun H1 locs1 hR1 hS1 => hk.2 hA hB H1 locs1 ls hR1 hS1 hL)
  · cases hst
theorem s_aastore (C0 : SC p s m args meth c X D ac b0 kv M)  {n : Nat} (hd : decode (mC M) pc = .ok (.aastore, n)) (hn : n = iln (.aastore) n) (hst : stepF X M pc (.aastore) L S h = some (.inl (pc', L', S', h'))) (hk : GW p l e R s m args below meth c Q D ac b0 kv M h0 hE pc' L' S' h') : GW p l e R s m args below meth c Q D ac b0 kv M h0 hE pc L S h := by
  obtain ⟨hx, hb, hr, hml, hown, hts, hlo, hnm, hEv⟩ := id C0
  obtain rfl : n = 1 := hn
  simp only [stepF] at hst
  split at hst
  · next v i k S1 =>
    obtain ⟨n1, g, ci, fs, h1, h2, h3, h4, hst⟩ := aast_s hst
    cases gt_s hst
    refine ⟨hk.1, ?_⟩
    intro hA hB H locs ls hR hS hL
    exact Raast C0 rfl h3 (hR.1.2 k _ h1) hR hS h1 h2 h4 hd (fun H1 locs1 hR1 hS1 => hk.2 hA hB H1 locs1 ls hR1 hS1 hL)
  · cases hst
theorem s_arraylength (C0 : SC p s m args meth c X D ac b0 kv M)  {n : Nat} (hd : decode (mC M) pc = .ok (.arraylength, n)) (hn : n = iln (.arraylength) n) (hst : stepF X M pc (.arraylength) L S h = some (.inl (pc', L', S', h'))) (hk : GW p l e R s m args below meth c Q D ac b0 kv M h0 hE pc' L' S' h') : GW p l e R s m args below meth c Q D ac b0 kv M h0 hE pc L S h := by
  obtain ⟨hx, hb, hr, hml, hown, hts, hlo, hnm, hEv⟩ := id C0
  obtain rfl : n = 1 := hn
  simp only [stepF] at hst
  split at hst
  · next k S1 =>
    obtain ⟨t, n1, f, h1, hst⟩ := alen_s hst
    cases gt_s hst
    refine ⟨hk.1, ?_⟩
    intro hA hB H locs ls hR hS hL
    obtain ⟨hlt, hget⟩ := HR_get hR h1 (by intro q; cases q)
    obtain ⟨t0, ht⟩ := tyK_get (ac := ac) (hR.1.2 k _ h1)
    exact va_alen hx hb hEv.2.1 hR.2.1 k t0 hget ht rfl hd (hk.2 hA hB H locs ls hR hS hL)
  · next q S1 =>
    split at hst
    · next t n1 f hA =>
      cases gt_s hst
      obtain ⟨t1, e1, hT⟩ := hEv.2.2.2.2.1 _ _ hA
      refine ⟨hk.1, ?_⟩
      intro hA hB H locs ls hR hS hL
      rw [List.map_cons, show cv b0 kv (.float q) = kv q from rfl, e1]
      exact va_tlen hx hb hT hS rfl hd (hk.2 hA hB H locs ls hR hS hL)
    · cases hst
  · cases hst
end Step
