/-! ===== the abstract machine is deterministic; its steps as equivalences ===== -/
def DET (C : aCall) : Prop := ∀ M av h r h' r2 h2, C M av h r h' → C M av h r2 h2 → r = r2 ∧ h' = h2
theorem stepC_det {C : aCall} (hC : DET C) {M pc kd Mc : Nat} {L S : List Value} {h : aH} {n1 n2 : aN} (k1 : stepC C M pc kd Mc L S h n1) (k2 : stepC C M pc kd Mc L S h n2) : n1 = n2 := by
  unfold stepC at k1 k2
  split at k1
  · next e0 =>
    rw [if_pos e0] at k2
    obtain ⟨-, -, r, h1, a, rfl⟩ := k1
    obtain ⟨-, -, r2, h2, a2, rfl⟩ := k2
    obtain ⟨rfl, rfl⟩ := hC _ _ _ _ _ _ _ a a2
    rfl
  next e0 =>
  rw [if_neg e0] at k2
  split at k1
  · next e1 =>
    rw [if_pos e1] at k2
    obtain ⟨-, k1⟩ := k1
    obtain ⟨-, k2⟩ := k2
    cases hd : S.drop (mP Mc) with
    | nil => rw [hd] at k1; exact k1.elim
    | cons v S' =>
      rw [hd] at k1 k2
      obtain ⟨-, -, r, h1, a, rfl⟩ := k1
      obtain ⟨-, -, r2, h2, a2, rfl⟩ := k2
      obtain ⟨rfl, rfl⟩ := hC _ _ _ _ _ _ _ a a2
      rfl
  next e1 =>
  rw [if_neg e1] at k2
  split at k1
  · next e2 =>
    rw [if_pos e2] at k2
    obtain ⟨-, k1⟩ := k1
    obtain ⟨-, k2⟩ := k2
    cases hd : S.drop (mP Mc) with
    | nil => rw [hd] at k1; exact k1.elim
    | cons v S' =>
      rw [hd] at k1 k2
      cases v with
      | ref a0 =>
        obtain ⟨-, r, h1, a, rfl⟩ := k1
        obtain ⟨-, r2, h2, a2, rfl⟩ := k2
        obtain ⟨rfl, rfl⟩ := hC _ _ _ _ _ _ _ a a2
        rfl
      | _ => exact k1.elim
  next e2 =>
  rw [if_neg e2] at k2
  split at k1
  · next e3 =>
    rw [if_pos e3] at k2
    split at k1
    · exact k1.2.trans k2.2.symm
    · exact k1.elim
  next e3 =>
  rw [if_neg e3] at k2
  split at k1
  · next e4 => rw [if_pos e4] at k2; exact Option.some.inj (k1.symm.trans k2)
  next e4 =>
  rw [if_neg e4] at k2
  split at k1
  · next e5 => rw [if_pos e5] at k2; exact Option.some.inj (k1.symm.trans k2)
  next e5 =>
  rw [if_neg e5] at k2
  split at k1
  · next e6 => rw [if_pos e6] at k2; exact Option.some.inj (k1.symm.trans k2)
  · exact k1.elim
theorem aST_det {C : aCall} (hC : DET C) {X : aX} {M pc : Nat} {i : Instr} {L S : List Value} {h : aH} {n1 n2 : aN} (k1 : aST C X M pc i L S h n1) (k2 : aST C X M pc i L S h n2) : n1 = n2 := by
  cases i with
  | invokestatic idx =>
    simp only [aST] at k1 k2
    cases hf : fM (mK M) idx with
    | none => rw [hf] at k1; exact k1.elim
    | some q =>
      rw [hf] at k1 k2
      exact stepC_det hC k1.1.2 k2.1.2
  | invokevirtual idx =>
    simp only [aST] at k1 k2
    cases hf : fM (mK M) idx with
    | none => rw [hf] at k1; exact k1.elim
    | some q =>
      rw [hf] at k1 k2
      exact stepC_det hC k1.1.2 k2.1.2
  | invokespecial idx =>
    simp only [aST] at k1 k2
    cases hf : fM (mK M) idx with
    | none => rw [hf] at k1; exact k1.elim
    | some q =>
      rw [hf] at k1 k2
      exact stepC_det hC k1.1.2 k2.1.2
  | ireturn => exact Option.some.inj (Eq.trans (Eq.symm k1) k2)
  | return_ => exact Option.some.inj (Eq.trans (Eq.symm k1) k2)
  | _ => exact Option.some.inj (Eq.trans (Eq.symm k1.1) k2.1)
theorem aRun_det {C : aCall} (hC : DET C) {X : aX} {M : Nat} {res : aR} {pc : Nat} {L S : List Value} {h : aH} (k : aRun C X M res pc L S h) : ∀ res2, aRun C X M res2 pc L S h → res = res2 := by
  refine k (fun pc L S h => ∀ res2, aRun C X M res2 pc L S h → res = res2) ?_
  intro pc L S h ⟨i, n, nx, hd, hn1, hst, hnx⟩ res2 k2
  obtain ⟨i2, n2, nx2, hd2, -, hst2, hnx2⟩ := aRun_out k2
  have e := hd.symm.trans hd2
  injection e with e
  injection e with e1 e2
  subst e1
  have := aST_det hC hst hst2
  subst this
  cases nx with
  | inl g => exact hnx res2 hnx2
  | inr r => exact Eq.trans (Eq.symm hnx) hnx2
theorem aEv_det {X : aX} : ∀ d, DET (aEv X d) := by
  intro d
  induction d with
  | zero => intro M av h r h' r2 h2 q; exact q.elim
  | succ d ih =>
    intro M av h r h' r2 h2 q q2
    have := aRun_det ih q.2 _ q2.2
    injection this with a b
    exact ⟨a, b⟩
/-- a call whose outcome is known -/
theorem cal {X : aX} {d M : Nat} {av : List Value} {h : aH} {r : Option Value} {h' : aH} (hc : aEv X d M av h r h') (K : Option Value → aH → Prop) : (∃ r h', aEv X d M av h r h' ∧ K r h') ↔ K r h' := by
  constructor
  · rintro ⟨r2, h2, a, b⟩
    obtain ⟨rfl, rfl⟩ := aEv_det d _ _ _ _ _ _ _ hc a
    exact b
  · intro k
    exact ⟨r, h', hc, k⟩
def isF : Instr → Bool
  | .invokestatic _ | .invokevirtual _ | .invokespecial _ | .ireturn | .return_ => false
  | _ => true
theorem aST_F {C : aCall} {X : aX} {M pc : Nat} {i : Instr} {L S : List Value} {h : aH} {nx : aN} (hi : isF i = true) : aST C X M pc i L S h nx ↔ (stepF X M pc i L S h = some nx ∧ nx.isLeft = true) := by
  cases i <;> first | (cases hi; done) | exact Iff.rfl
theorem dT {M pc : Nat} {b : ByteArray} {z : Except DecodeError (Instr × Nat)} (h : mC M = b) (hd : decode b pc = z) : decode (mC M) pc = z := by rw [h]; exact hd
section XR
variable {C : aCall} {X : aX} {M : Nat} {res : aR} {pc n : Nat} {i : Instr} {L S : List Value} {h : aH}
/-- a step that only goes on -/
theorem xF {pc' : Nat} {L' S' : List Value} {h' : aH} (hd : decode (mC M) pc = .ok (i, n)) (hn : n = iln i n) (hi : isF i = true) (hst : stepF X M pc i L S h = some (.inl (pc', L', S', h'))) : aRun C X M res pc L S h ↔ aRun C X M res pc' L' S' h' := by
  rw [aRun_iff hd hn]
  constructor
  · rintro ⟨nx, h1, h2⟩
    have h3 := ((aST_F hi).mp h1).1
    cases Option.some.inj (hst.symm.trans h3)
    exact h2
  · intro k
    exact ⟨_, (aST_F hi).mpr ⟨hst, rfl⟩, k⟩
/-- a step that is stuck unless K0, and goes on then -/
theorem xO {A : Type} {f : A → Option aN → Prop} : True := trivial
/-- a branch -/
theorem xB {c : Prop} [Decidable c] {off : Int} {t : Nat} {S' : List Value} (hd : decode (mC M) pc = .ok (i, n)) (hn : n = iln i n) (hi : isF i = true) (hst : stepF X M pc i L S h = br c pc off L S' h) (ht : (pc : Int) + off = (t : Int)) : aRun C X M res pc L S h ↔ if c then aRun C X M res t L S' h else aRun C X M res (pc + 3) L S' h := by
  have hbr : br c pc off L S' h = if c then gt t L S' h else gt (pc + 3) L S' h := by
    unfold br
    rw [ht]
  rw [hbr] at hst
  by_cases hc : c
  · rw [if_pos hc] at hst ⊢
    exact xF hd hn hi hst
  · rw [if_neg hc] at hst ⊢
    exact xF hd hn hi hst
def gF (e : aE) (ci f : Nat) (K : Value → Prop) : Prop := ∃ fs v, e = .inr (ci, fs) ∧ fs[f]? = some v ∧ K v
theorem gF_mk {ci f : Nat} {fs : List Value} {v : Value} {K : Value → Prop} (hv : fs[f]? = some v) : gF (.inr (ci, fs)) ci f K ↔ K v := by
  constructor
  · rintro ⟨fs2, v2, e, h1, h2⟩
    cases e
    cases hv.symm.trans h1
    exact h2
  · intro k
    exact ⟨fs, v, rfl, hv, k⟩
theorem xG {idx k ci f : Nat} {nest : Bool} {S' : List Value} (hd : decode (mC M) pc = .ok (.getfield idx, 3)) (hf : fF (mK M) idx = some (ci, f, nest)) : aRun C X M res pc L (.ref k :: S') h ↔ gF (hg h k) ci f (fun v => aRun C X M res (pc + 3) L (v :: S') h) := by
  rw [aRun_iff hd rfl]
  constructor
  · rintro ⟨nx, h1, h2⟩
    have h3 := ((aST_F rfl).mp h1).1
    simp only [stepF, hf] at h3
    obtain ⟨fs, v, a1, a2, a3⟩ := gfd_s h3
    cases gt_s a3
    exact ⟨fs, v, a1, a2, h2⟩
  · rintro ⟨fs, v, a1, a2, a3⟩
    refine ⟨.inl (pc + 3, L, v :: S', h), (aST_F rfl).mpr ⟨?_, rfl⟩, a3⟩
    simp only [stepF, hf, gfd, a1, if_pos, a2]
    rfl
def pF (e : aE) (ci f : Nat) (v : Value) (K : aE → Prop) : Prop := ∃ fs, e = .inr (ci, fs) ∧ f < fs.length ∧ K (.inr (ci, fs.set f v))
theorem pF_mk {ci f : Nat} {fs fs' : List Value} {v : Value} {K : aE → Prop} (hl : f < fs.length) (hv : fs.set f v = fs') : pF (.inr (ci, fs)) ci f v K ↔ K (.inr (ci, fs')) := by
  subst hv
  constructor
  · rintro ⟨fs2, e, h1, h2⟩
    cases e
    exact h2
  · intro k
    exact ⟨fs, rfl, hl, k⟩
theorem xP {idx k ci f : Nat} {nest : Bool} {v : Value} {S' : List Value} (hd : decode (mC M) pc = .ok (.putfield idx, 3)) (hf : fF (mK M) idx = some (ci, f, nest)) (hfin : (fT ci f).2.2.2 = false ∨ (nest = false ∧ mS M = 2 ∧ mK M = ci)) : aRun C X M res pc L (v :: .ref k :: S') h ↔ (okf (fty ci f) v = true ∧ pF (hg h k) ci f v (fun e => aRun C X M res (pc + 3) L S' (hs h k e))) := by
  rw [aRun_iff hd rfl]
  constructor
  · rintro ⟨nx, h1, h2⟩
    have h3 := ((aST_F rfl).mp h1).1
    simp only [stepF, hf] at h3
    by_cases hc : okf (fty ci f) v = true ∧ ((fT ci f).2.2.2 = false ∨ (nest = false ∧ mS M = 2 ∧ mK M = ci))
    · rw [if_pos hc] at h3
      obtain ⟨fs, a1, a2, a3⟩ := pfd_s h3
      cases gt_s a3
      exact ⟨hc.1, fs, a1, a2, h2⟩
    · rw [if_neg hc] at h3; cases h3
  · rintro ⟨hok, fs, a1, a2, a3⟩
    refine ⟨.inl (pc + 3, L, S', hs h k (.inr (ci, fs.set f v))), (aST_F rfl).mpr ⟨?_, rfl⟩, a3⟩
    simp only [stepF, hf]
    rw [if_pos ⟨hok, hfin⟩]
    simp only [pfd, a1]
    rw [if_pos ⟨trivial, a2⟩]
    rfl
def aL (e : aE) (t : FieldType) (i : Int32) (K : Int32 → Prop) : Prop := ∃ n f, e = .inl (t, n, .inl f) ∧ vp_in i n ∧ K (f i.toNatClampNeg)
theorem aL_mk {t : FieldType} {n : Nat} {f : Nat → Int32} {i : Int32} {K : Int32 → Prop} : aL (.inl (t, n, .inl f)) t i K ↔ (vp_in i n ∧ K (f i.toNatClampNeg)) := by
  constructor
  · rintro ⟨n2, f2, e, h1, h2⟩
    cases e
    exact ⟨h1, h2⟩
  · rintro ⟨h1, h2⟩
    exact ⟨n, f, rfl, h1, h2⟩
theorem xA {op : Instr} {t : FieldType} (ho : (op = .iaload ∧ t = .int) ∨ (op = .baload ∧ t = .boolean) ∨ (op = .caload ∧ t = .char)) {j : Int32} {k : Nat} {S' : List Value} (hd : decode (mC M) pc = .ok (op, 1)) : aRun C X M res pc L (.int j :: .ref k :: S') h ↔ aL (hg h k) t j (fun v => aRun C X M res (pc + 1) L (.int v :: S') h) := by
  have hi : isF op = true ∧ 1 = iln op 1 := by rcases ho with ⟨rfl, -⟩ | ⟨rfl, -⟩ | ⟨rfl, -⟩ <;> exact ⟨rfl, rfl⟩
  have hs9 : stepF X M pc op L (.int j :: .ref k :: S') h = ald (hg h k) t j (fun v => gt (pc + 1) L (.int v :: S') h) := by rcases ho with ⟨rfl, rfl⟩ | ⟨rfl, rfl⟩ | ⟨rfl, rfl⟩ <;> rfl
  rw [aRun_iff hd hi.2]
  constructor
  · rintro ⟨nx, h1, h2⟩
    have h3 := ((aST_F hi.1).mp h1).1
    rw [hs9] at h3
    obtain ⟨n1, f, a1, a2, a3⟩ := ald_s h3
    cases gt_s a3
    exact ⟨n1, f, a1, a2, h2⟩
  · rintro ⟨n1, f, a1, a2, a3⟩
    refine ⟨.inl (pc + 1, L, .int (f j.toNatClampNeg) :: S', h), (aST_F hi.1).mpr ⟨?_, rfl⟩, a3⟩
    rw [hs9]
    simp only [ald, a1]
    rw [if_pos ⟨trivial, a2⟩]
    rfl
/-- a row that nobody writes -/
theorem xK {op : Instr} {t : FieldType} (ho : (op = .iaload ∧ t = .int) ∨ (op = .baload ∧ t = .byte)) {j : Int32} {q : UInt32} {S' : List Value} {N : Nat} {f : Nat → Int32} (hq : kA X q = some (t, N, f)) (hd : decode (mC M) pc = .ok (op, 1)) : aRun C X M res pc L (.int j :: .float q :: S') h ↔ (vp_in j N ∧ aRun C X M res (pc + 1) L (.int (f j.toNatClampNeg) :: S') h) := by
  have hi : isF op = true ∧ 1 = iln op 1 := by rcases ho with ⟨rfl, -⟩ | ⟨rfl, -⟩ <;> exact ⟨rfl, rfl⟩
  have hs9 : stepF X M pc op L (.int j :: .float q :: S') h = if t = t ∧ ¬ (j < 0 ∨ N ≤ j.toNatClampNeg) then gt (pc + 1) L (.int (f j.toNatClampNeg) :: S') h else none := by
    rcases ho with ⟨rfl, rfl⟩ | ⟨rfl, rfl⟩ <;> simp only [stepF, hq]
  rw [aRun_iff hd hi.2]
  constructor
  · rintro ⟨nx, h1, h2⟩
    have h3 := ((aST_F hi.1).mp h1).1
    rw [hs9] at h3
    by_cases hc : t = t ∧ ¬ (j < 0 ∨ N ≤ j.toNatClampNeg)
    · rw [if_pos hc] at h3
      cases gt_s h3
      exact ⟨hc.2, h2⟩
    · rw [if_neg hc] at h3; cases h3
  · rintro ⟨a2, a3⟩
    refine ⟨.inl (pc + 1, L, .int (f j.toNatClampNeg) :: S', h), (aST_F hi.1).mpr ⟨?_, rfl⟩, a3⟩
    rw [hs9, if_pos ⟨rfl, a2⟩]
    rfl
def aS (e : aE) (t : FieldType) (i x : Int32) (K : aE → Prop) : Prop := ∃ n f, e = .inl (t, n, .inl f) ∧ vp_in i n ∧ K (.inl (t, n, .inl (upd f i.toNatClampNeg (vp_nar t x))))
theorem aS_mk {t : FieldType} {n : Nat} {f : Nat → Int32} {i x : Int32} {K : aE → Prop} : aS (.inl (t, n, .inl f)) t i x K ↔ (vp_in i n ∧ K (.inl (t, n, .inl (upd f i.toNatClampNeg (vp_nar t x))))) := by
  constructor
  · rintro ⟨n2, f2, e, h1, h2⟩
    cases e
    exact ⟨h1, h2⟩
  · rintro ⟨h1, h2⟩
    exact ⟨n, f, rfl, h1, h2⟩
theorem aS_int {n : Nat} {f : Nat → Int32} {i x : Int32} {K : aE → Prop} : aS (.inl (.int, n, .inl f)) .int i x K ↔ (vp_in i n ∧ K (.inl (.int, n, .inl (upd f i.toNatClampNeg x)))) := aS_mk
theorem xW {op : Instr} {t : FieldType} (ho : (op = .iastore ∧ t = .int) ∨ (op = .bastore ∧ t = .boolean) ∨ (op = .castore ∧ t = .char)) {x j : Int32} {k : Nat} {S' : List Value} (hd : decode (mC M) pc = .ok (op, 1)) : aRun C X M res pc L (.int x :: .int j :: .ref k :: S') h ↔ aS (hg h k) t j x (fun e => aRun C X M res (pc + 1) L S' (hs h k e)) := by
  have hi : isF op = true ∧ 1 = iln op 1 := by rcases ho with ⟨rfl, -⟩ | ⟨rfl, -⟩ | ⟨rfl, -⟩ <;> exact ⟨rfl, rfl⟩
  have hs9 : stepF X M pc op L (.int x :: .int j :: .ref k :: S') h = ast (hg h k) t j x (fun e => gt (pc + 1) L S' (hs h k e)) := by rcases ho with ⟨rfl, rfl⟩ | ⟨rfl, rfl⟩ | ⟨rfl, rfl⟩ <;> rfl
  rw [aRun_iff hd hi.2]
  constructor
  · rintro ⟨nx, h1, h2⟩
    have h3 := ((aST_F hi.1).mp h1).1
    rw [hs9] at h3
    obtain ⟨n1, f, a1, a2, a3⟩ := ast_s h3
    cases gt_s a3
    exact ⟨n1, f, a1, a2, h2⟩
  · rintro ⟨n1, f, a1, a2, a3⟩
    refine ⟨.inl (pc + 1, L, S', hs h k (.inl (t, n1, .inl (upd f j.toNatClampNeg (vp_nar t x))))), (aST_F hi.1).mpr ⟨?_, rfl⟩, a3⟩
    rw [hs9]
    simp only [ast, a1]
    rw [if_pos ⟨trivial, a2⟩]
    rfl
def aaL (e : aE) (i : Int32) (K : Value → Prop) : Prop := ∃ D n g a, e = .inl (.object D, n, .inr g) ∧ vp_in i n ∧ g i.toNatClampNeg = some a ∧ K (.ref a)
theorem xAA {j : Int32} {k : Nat} {S' : List Value} (hd : decode (mC M) pc = .ok (.aaload, 1)) : aRun C X M res pc L (.int j :: .ref k :: S') h ↔ aaL (hg h k) j (fun v => aRun C X M res (pc + 1) L (v :: S') h) := by
  rw [aRun_iff hd rfl]
  constructor
  · rintro ⟨nx, h1, h2⟩
    have h3 : aald (hg h k) j (fun v => gt (pc + 1) L (v :: S') h) = some nx := ((aST_F rfl).mp h1).1
    obtain ⟨D, n1, g, a, a1, a2, a3, a4⟩ := aald_s h3
    cases gt_s a4
    exact ⟨D, n1, g, a, a1, a2, a3, h2⟩
  · rintro ⟨D, n1, g, a, a1, a2, a3, a4⟩
    refine ⟨.inl (pc + 1, L, .ref a :: S', h), (aST_F rfl).mpr ⟨?_, rfl⟩, a4⟩
    show aald (hg h k) j (fun v => gt (pc + 1) L (v :: S') h) = _
    simp only [aald, a1]
    rw [if_pos (show ¬ (j < 0 ∨ n1 ≤ j.toNatClampNeg) from a2), a3]
    rfl
/-- div, rem -/
theorem xD {K : Int32 → Int32 → Int32} {op : Instr} (ho : (op = .idiv ∧ K = fun x y => x / y) ∨ (op = .irem ∧ K = fun x y => x - x / y * y)) {x y : Int32} {S' : List Value} (hd : decode (mC M) pc = .ok (op, 1)) : aRun C X M res pc L (.int y :: .int x :: S') h ↔ (¬ y = 0 ∧ aRun C X M res (pc + 1) L (.int (K x y) :: S') h) := by
  have hi : isF op = true ∧ 1 = iln op 1 := by rcases ho with ⟨rfl, -⟩ | ⟨rfl, -⟩ <;> exact ⟨rfl, rfl⟩
  have hs9 : stepF X M pc op L (.int y :: .int x :: S') h = if y = 0 then none else gt (pc + 1) L (.int (K x y) :: S') h := by rcases ho with ⟨rfl, rfl⟩ | ⟨rfl, rfl⟩ <;> rfl
  rw [aRun_iff hd hi.2]
  constructor
  · rintro ⟨nx, h1, h2⟩
    have h3 := ((aST_F hi.1).mp h1).1
    rw [hs9] at h3
    by_cases hc : y = 0
    · rw [if_pos hc] at h3; cases h3
    · rw [if_neg hc] at h3
      cases gt_s h3
      exact ⟨hc, h2⟩
  · rintro ⟨a2, a3⟩
    refine ⟨.inl (pc + 1, L, .int (K x y) :: S', h), (aST_F hi.1).mpr ⟨?_, rfl⟩, a3⟩
    rw [hs9, if_neg a2]
    rfl
theorem xDl {K : Int64 → Int64 → Int64} {op : Instr} (ho : (op = .ldiv ∧ K = fun x y => x / y) ∨ (op = .lrem ∧ K = fun x y => x - x / y * y)) {x y : Int64} {S' : List Value} (hd : decode (mC M) pc = .ok (op, 1)) : aRun C X M res pc L (.long y :: .long x :: S') h ↔ (¬ y = 0 ∧ aRun C X M res (pc + 1) L (.long (K x y) :: S') h) := by
  have hi : isF op = true ∧ 1 = iln op 1 := by rcases ho with ⟨rfl, -⟩ | ⟨rfl, -⟩ <;> exact ⟨rfl, rfl⟩
  have hs9 : stepF X M pc op L (.long y :: .long x :: S') h = if y = 0 then none else gt (pc + 1) L (.long (K x y) :: S') h := by rcases ho with ⟨rfl, rfl⟩ | ⟨rfl, rfl⟩ <;> rfl
  rw [aRun_iff hd hi.2]
  constructor
  · rintro ⟨nx, h1, h2⟩
    have h3 := ((aST_F hi.1).mp h1).1
    rw [hs9] at h3
    by_cases hc : y = 0
    · rw [if_pos hc] at h3; cases h3
    · rw [if_neg hc] at h3
      cases gt_s h3
      exact ⟨hc, h2⟩
  · rintro ⟨a2, a3⟩
    refine ⟨.inl (pc + 1, L, .long (K x y) :: S', h), (aST_F hi.1).mpr ⟨?_, rfl⟩, a3⟩
    rw [hs9, if_neg a2]
    rfl
/-- ends -/
theorem xI {v : Int32} {ty : FieldType} (hd : decode (mC M) pc = .ok (.ireturn, 1)) (hr : mR M = some ty) : aRun C X M res pc L [.int v] h ↔ (narrow ty (.int v) = .int v ∧ res = (some (.int v), h)) := by
  rw [aRun_iff hd rfl]
  constructor
  · rintro ⟨nx, h1, h2⟩
    have h3 : stepF X M pc .ireturn L [.int v] h = some nx := h1
    simp only [stepF, hr] at h3
    by_cases hc : narrow ty (.int v) = .int v
    · rw [if_pos hc] at h3
      cases h3
      exact ⟨hc, Eq.symm h2⟩
    · rw [if_neg hc] at h3; cases h3
  · rintro ⟨h1, rfl⟩
    refine ⟨.inr (some (.int v), h), ?_, rfl⟩
    show stepF X M pc .ireturn L [.int v] h = _
    simp only [stepF, hr]
    rw [if_pos h1]
theorem xI_int {v : Int32} (hd : decode (mC M) pc = .ok (.ireturn, 1)) (hr : mR M = some .int) : aRun C X M res pc L [.int v] h ↔ res = (some (.int v), h) := by
  rw [xI hd hr]
  exact ⟨fun q => q.2, fun q => ⟨rfl, q⟩⟩
theorem xI_bool {v : Int32} (hd : decode (mC M) pc = .ok (.ireturn, 1)) (hr : mR M = some .boolean) : aRun C X M res pc L [.int v] h ↔ (narrow .boolean (.int v) = .int v ∧ res = (some (.int v), h)) := xI hd hr
theorem xV (hd : decode (mC M) pc = .ok (.return_, 1)) (hr : mR M = none) : aRun C X M res pc L [] h ↔ res = (none, h) := by
  rw [aRun_iff hd rfl]
  constructor
  · rintro ⟨nx, h1, h2⟩
    have h3 : stepF X M pc .return_ L [] h = some nx := h1
    simp only [stepF, hr] at h3
    cases h3
    exact Eq.symm h2
  · rintro rfl
    refine ⟨.inr (none, h), ?_, rfl⟩
    show stepF X M pc .return_ L [] h = _
    simp only [stepF, hr]
/-- calls -/
theorem xCS {idx Mc k : Nat} {nest : Bool} (hd : decode (mC M) pc = .ok (.invokestatic idx, 3)) (hf : fM (mK M) idx = some (0, Mc, nest)) (hp : mP Mc = k) (hl : k ≤ S.length) : aRun C X M res pc L S h ↔ ((S.drop k).length ≤ 4 ∧ ∃ r h', C Mc (S.take k).reverse h r h' ∧ aRun C X M res (pc + 3) L (r.toList ++ S.drop k) h') := by
  subst hp
  rw [aRun_iff hd rfl]
  simp only [aST, hf, stepC, if_true]
  constructor
  · rintro ⟨nx, ⟨⟨-, -, a1, r, h', a2, rfl⟩, -⟩, a3⟩
    exact ⟨a1, r, h', a2, a3⟩
  · rintro ⟨a1, r, h', a2, a3⟩
    exact ⟨_, ⟨⟨Or.inl trivial, hl, a1, r, h', a2, rfl⟩, rfl⟩, a3⟩
theorem xCV {idx Mc k : Nat} {nest : Bool} {v : Value} {S' : List Value} (hd : decode (mC M) pc = .ok (.invokevirtual idx, 3)) (hf : fM (mK M) idx = some (1, Mc, nest)) (hp : mP Mc = k) (hl : k ≤ S.length) (hS : S.drop k = v :: S') : aRun C X M res pc L S h ↔ (rcv h (mK Mc) v = true ∧ S'.length ≤ 4 ∧ ∃ r h', C Mc (v :: (S.take k).reverse) h r h' ∧ aRun C X M res (pc + 3) L (r.toList ++ S') h') := by
  subst hp
  rw [aRun_iff hd rfl]
  simp only [aST, hf, stepC, hS]
  constructor
  · rintro ⟨nx, ⟨⟨-, -, a0, a1, r, h', a2, rfl⟩, -⟩, a3⟩
    exact ⟨a0, a1, r, h', a2, a3⟩
  · rintro ⟨a0, a1, r, h', a2, a3⟩
    exact ⟨_, ⟨⟨trivial, hl, a0, a1, r, h', a2, rfl⟩, rfl⟩, a3⟩
theorem xCI {idx Mc k a : Nat} {nest : Bool} {S' : List Value} (hd : decode (mC M) pc = .ok (.invokespecial idx, 3)) (hf : fM (mK M) idx = some (2, Mc, nest)) (hp : mP Mc = k) (hl : k ≤ S.length) (hS : S.drop k = .ref a :: S') : aRun C X M res pc L S h ↔ (S'.length ≤ 4 ∧ ∃ r h', C Mc (.ref a :: (S.take k).reverse) h r h' ∧ aRun C X M res (pc + 3) L (r.toList ++ S') h') := by
  subst hp
  rw [aRun_iff hd rfl]
  simp only [aST, hf, stepC, hS]
  constructor
  · rintro ⟨nx, ⟨⟨-, -, a1, r, h', a2, rfl⟩, -⟩, a3⟩
    exact ⟨a1, r, h', a2, a3⟩
  · rintro ⟨a1, r, h', a2, a3⟩
    exact ⟨_, ⟨⟨Or.inl trivial, hl, a1, r, h', a2, rfl⟩, rfl⟩, a3⟩
theorem xCO {idx Mc a : Nat} {nest : Bool} {S' : List Value} (hd : decode (mC M) pc = .ok (.invokespecial idx, 3)) (hf : fM (mK M) idx = some (3, Mc, nest)) : aRun C X M res pc L (.ref a :: S') h ↔ (S'.length ≤ 4 ∧ aRun C X M res (pc + 3) L S' h) := by
  rw [aRun_iff hd rfl]
  simp only [aST, hf, stepC]
  constructor
  · rintro ⟨nx, ⟨⟨-, a1, rfl⟩, -⟩, a3⟩
    exact ⟨a1, a3⟩
  · rintro ⟨a1, a3⟩
    exact ⟨_, ⟨⟨Or.inr trivial, a1, rfl⟩, rfl⟩, a3⟩
def aCp (ea eb : aE) (sp dp n : Int32) (K : aE → Prop) : Prop := ∃ n0 f n1 g, ea = .inl (.int, n0, .inl f) ∧ eb = .inl (.int, n1, .inl g) ∧ (¬ sp < 0 ∧ ¬ dp < 0 ∧ ¬ n < 0 ∧ sp.toNatClampNeg + n.toNatClampNeg ≤ n0 ∧ dp.toNatClampNeg + n.toNatClampNeg ≤ n1) ∧ K (.inl (.int, n1, .inl (va_cpy f g sp.toNatClampNeg dp.toNatClampNeg n.toNatClampNeg)))
theorem xCC {idx Mc a b : Nat} {nest : Bool} {sp dp n : Int32} {S' : List Value} (hd : decode (mC M) pc = .ok (.invokestatic idx, 3)) (hf : fM (mK M) idx = some (4, Mc, nest)) : aRun C X M res pc L (.int n :: .int dp :: .ref b :: .int sp :: .ref a :: S') h ↔ (S'.length ≤ 4 ∧ aCp (hg h a) (hg h b) sp dp n (fun e => aRun C X M res (pc + 3) L S' (hs h b e))) := by
  rw [aRun_iff hd rfl]
  simp only [aST, hf, stepC]
  constructor
  · rintro ⟨nx, ⟨⟨-, a1⟩, -⟩, a3⟩
    have a1 : acp (.int n :: .int dp :: .ref b :: .int sp :: .ref a :: S') h (fun S' h' => gt (pc + 3) L S' h') = some nx := a1
    unfold acp at a1
    dsimp only at a1
    split at a1
    · next n0 f n1 g e1 e2 =>
      split at a1
      · next hc =>
        cases gt_s a1
        exact ⟨hc.2.2.2.2.2, n0, f, n1, g, e1, e2, ⟨hc.1, hc.2.1, hc.2.2.1, hc.2.2.2.1, hc.2.2.2.2.1⟩, a3⟩
      · cases a1
    · cases a1
  · rintro ⟨a0, n0, f, n1, g, e1, e2, c, a3⟩
    refine ⟨.inl (pc + 3, L, S', hs h b (.inl (.int, n1, .inl (va_cpy f g sp.toNatClampNeg dp.toNatClampNeg n.toNatClampNeg)))), ⟨⟨Or.inr (Or.inl trivial), ?_⟩, rfl⟩, a3⟩
    show acp (.int n :: .int dp :: .ref b :: .int sp :: .ref a :: S') h (fun S' h' => gt (pc + 3) L S' h') = _
    simp only [acp, e1, e2]
    rw [if_pos ⟨c.1, c.2.1, c.2.2.1, c.2.2.2.1, c.2.2.2.2, a0⟩]
    rfl
theorem xCX {idx Mc : Nat} {nest : Bool} {x y : Int32} {S' : List Value} (hd : decode (mC M) pc = .ok (.invokestatic idx, 3)) (hf : fM (mK M) idx = some (5, Mc, nest)) (hl : S'.length ≤ 4) : aRun C X M res pc L (.int y :: .int x :: S') h ↔ aRun C X M res (pc + 3) L (.int (if x < y then y else x) :: S') h := by
  rw [aRun_iff hd rfl]
  simp only [aST, hf, stepC]
  constructor
  · rintro ⟨nx, ⟨⟨-, a1⟩, -⟩, a3⟩
    have a1 : (if S'.length ≤ 4 then gt (pc + 3) L (.int (if x < y then y else x) :: S') h else none) = some nx := a1
    rw [if_pos hl] at a1
    cases gt_s a1
    exact a3
  · intro a3
    refine ⟨.inl (pc + 3, L, .int (if x < y then y else x) :: S', h), ⟨⟨Or.inr (Or.inr (Or.inl trivial)), ?_⟩, rfl⟩, a3⟩
    show (if S'.length ≤ 4 then gt (pc + 3) L (.int (if x < y then y else x) :: S') h else none) = _
    rw [if_pos hl]
    rfl
theorem xCN {idx Mc : Nat} {nest : Bool} {x y : Int32} {S' : List Value} (hd : decode (mC M) pc = .ok (.invokestatic idx, 3)) (hf : fM (mK M) idx = some (6, Mc, nest)) (hl : S'.length ≤ 4) : aRun C X M res pc L (.int y :: .int x :: S') h ↔ aRun C X M res (pc + 3) L (.int (if y < x then y else x) :: S') h := by
  rw [aRun_iff hd rfl]
  simp only [aST, hf, stepC]
  constructor
  · rintro ⟨nx, ⟨⟨-, a1⟩, -⟩, a3⟩
    have a1 : (if S'.length ≤ 4 then gt (pc + 3) L (.int (if y < x then y else x) :: S') h else none) = some nx := a1
    rw [if_pos hl] at a1
    cases gt_s a1
    exact a3
  · intro a3
    refine ⟨.inl (pc + 3, L, .int (if y < x then y else x) :: S', h), ⟨⟨Or.inr (Or.inr (Or.inr trivial)), ?_⟩, rfl⟩, a3⟩
    show (if S'.length ≤ 4 then gt (pc + 3) L (.int (if y < x then y else x) :: S') h else none) = _
    rw [if_pos hl]
    rfl
theorem xSi {a : Int32} {k d : Nat} {op : Instr} {w : Value} {L' S' : List Value} (ho : (op = .istore k ∧ d = 2) ∨ (∃ q : Fin 4, op = .istore_n q ∧ (q : Nat) = k ∧ d = 1)) (hw : L[k]? = some w) (hl : isd w = false) (hL : L.set k (.int a) = L') (hd : decode (mC M) pc = .ok (op, d)) : aRun C X M res pc L (.int a :: S') h ↔ aRun C X M res (pc + d) L' S' h := by
  subst hL
  have hs0 : sto L k (.int a) = some (L.set k (.int a)) := by
    unfold sto
    rw [hw]
    show (if isd w = true then none else _) = _
    rw [hl]
    rfl
  rcases ho with ⟨rfl, rfl⟩ | ⟨q, rfl, rfl, rfl⟩
  · exact xF hd rfl rfl (by simp only [stepF, sti, hs0]; rfl)
  · exact xF hd rfl rfl (by simp only [stepF, sti, hs0]; rfl)
theorem xSa {a k d : Nat} {op : Instr} {w : Value} {L' S' : List Value} (ho : (op = .astore k ∧ d = 2) ∨ (∃ q : Fin 4, op = .astore_n q ∧ (q : Nat) = k ∧ d = 1)) (hw : L[k]? = some w) (hl : isd w = false) (hL : L.set k (.ref a) = L') (hd : decode (mC M) pc = .ok (op, d)) : aRun C X M res pc L (.ref a :: S') h ↔ aRun C X M res (pc + d) L' S' h := by
  subst hL
  have hs0 : sto L k (.ref a) = some (L.set k (.ref a)) := by
    unfold sto
    rw [hw]
    show (if isd w = true then none else _) = _
    rw [hl]
    rfl
  rcases ho with ⟨rfl, rfl⟩ | ⟨q, rfl, rfl, rfl⟩
  · exact xF hd rfl rfl (by simp only [stepF, sta, hs0]; rfl)
  · exact xF hd rfl rfl (by simp only [stepF, sta, hs0]; rfl)
theorem xSl2 {a : Int64} {k d : Nat} {op : Instr} {w : Value} {L' S' : List Value} (ho : (op = .lstore k ∧ d = 2) ∨ (∃ q : Fin 4, op = .lstore_n q ∧ (q : Nat) = k ∧ d = 1)) (hw : L[k]? = some w) (hl : sec2 L k w = false) (hlt : k + 1 < L.length) (hL : (L.set k (.long a)).set (k + 1) j2V = L') (hd : decode (mC M) pc = .ok (op, d)) : aRun C X M res pc L (.long a :: S') h ↔ aRun C X M res (pc + d) L' S' h := by
  subst hL
  have hs0 : sto2 L k (.long a) = some ((L.set k (.long a)).set (k + 1) j2V) := by
    unfold sto2
    rw [hw]
    show (if sec2 L k w = true then none else if k + 1 < L.length then _ else _) = _
    rw [hl, if_pos hlt]
    rfl
  rcases ho with ⟨rfl, rfl⟩ | ⟨q, rfl, rfl, rfl⟩
  · exact xF hd rfl rfl (by simp only [stepF, stl, hs0]; rfl)
  · exact xF hd rfl rfl (by simp only [stepF, stl, hs0]; rfl)
theorem xSl {a : Int64} {k d : Nat} {op : Instr} {w : Value} {L' S' : List Value} (ho : (op = .lstore k ∧ d = 2) ∨ (∃ q : Fin 4, op = .lstore_n q ∧ (q : Nat) = k ∧ d = 1)) (hw : L[k]? = some w) (hl : isd w = false) (hlt : k + 1 < L.length) (hL : (L.set k (.long a)).set (k + 1) j2V = L') (hd : decode (mC M) pc = .ok (op, d)) : aRun C X M res pc L (.long a :: S') h ↔ aRun C X M res (pc + d) L' S' h := xSl2 ho hw (by unfold sec2; rw [hl]; rfl) hlt hL hd
theorem xLd {idx : Nat} {v : Int32} (hd : decode (mC M) pc = .ok (.ldc idx, 2)) (hf : fC (mK M) idx = some v) : aRun C X M res pc L S h ↔ aRun C X M res (pc + 2) L (.int v :: S) h := xF hd rfl rfl (by simp only [stepF, hf]; rfl)
theorem xLs {idx q : Nat} {u : UInt32} (hd : decode (mC M) pc = .ok (.ldc idx, 2)) (hf : fC (mK M) idx = none) (hq : fT1 (mK M) idx = some q) (hu : UInt32.ofNat (10 + q) = u) : aRun C X M res pc L S h ↔ aRun C X M res (pc + 2) L (.float u :: S) h := xF hd rfl rfl (by simp only [stepF, hf, hq, hu]; rfl)
theorem xLw {idx : Nat} {v : Int32} (hd : decode (mC M) pc = .ok (.ldc_w idx, 3)) (hf : fC (mK M) idx = some v) : aRun C X M res pc L S h ↔ aRun C X M res (pc + 3) L (.int v :: S) h := xF hd rfl rfl (by simp only [stepF, hf]; rfl)
theorem xL2 {idx : Nat} {v : Int64} (hd : decode (mC M) pc = .ok (.ldc2_w idx, 3)) (hf : fC2 (mK M) idx = some v) : aRun C X M res pc L S h ↔ aRun C X M res (pc + 3) L (.long v :: S) h := xF hd rfl rfl (by simp only [stepF, hf]; rfl)
theorem xGs {idx q : Nat} {v : Value} (hd : decode (mC M) pc = .ok (.getstatic idx, 3)) (hf : fG (mK M) idx = some q) (hv : (sgE q).2.2.2 = v) : aRun C X M res pc L S h ↔ aRun C X M res (pc + 3) L (v :: S) h := xF hd rfl rfl (by simp only [stepF, hf, hv]; rfl)
theorem xNw {idx ci k : Nat} (hd : decode (mC M) pc = .ok (.new idx, 3)) (hf : fN1 (mK M) idx = some ci) (hk : fN ci = k) : aRun C X M res pc L S h ↔ aRun C X M res (pc + 3) L (.ref (hn h) :: S) (hp h k (.inr (ci, newF ci))) := xF hd rfl rfl (by subst hk; simp only [stepF, hf]; rfl)
theorem xNq {idx ci : Nat} {z : Int32} {S' : List Value} (hd : decode (mC M) pc = .ok (.anewarray idx, 3)) (hf : fN1 (mK M) idx = some ci) (hci : ci = 1 ∨ ci = 3) (hz : ¬ (z < 0 ∨ 1000 < z.toNatClampNeg)) : aRun C X M res pc L (.int z :: S') h ↔ aRun C X M res (pc + 3) L (.ref (hn h) :: S') (hp h z.toNatClampNeg (.inl (.object (cn ci), z.toNatClampNeg, .inr (fun _ => none)))) := xF hd rfl rfl (by
  simp only [stepF, hf, op1]
  rw [if_neg (by rintro (q | q | q); exact hz (Or.inl q); exact hz (Or.inr q); exact q hci)]
  rfl)
theorem xNa {t : ArrayType} {ty : FieldType} {z : Int32} {S' : List Value} (hd : decode (mC M) pc = .ok (.newarray t, 2)) (hf : aty t = some ty) (hz : ¬ (z < 0 ∨ 1000 < z.toNatClampNeg)) : aRun C X M res pc L (.int z :: S') h ↔ aRun C X M res (pc + 2) L (.ref (hn h) :: S') (hp h z.toNatClampNeg (.inl (ty, z.toNatClampNeg, .inl (fun _ => 0)))) := xF hd rfl rfl (by
  simp only [stepF, hf, op1]
  rw [if_neg hz]
  rfl)
theorem xSf {idx f : Nat} {c : UInt32} {v : Value} {S' : List Value} (hd : decode (mC M) pc = .ok (.getfield idx, 3)) (hf : fS (mK M) idx = some f) (hc : isS c = true) (hv : (if f = 0 then .float (c + 10) else .int 0 : Value) = v) : aRun C X M res pc L (.float c :: S') h ↔ aRun C X M res (pc + 3) L (v :: S') h := xF hd rfl rfl (by
  subst hv
  simp only [stepF, hf]
  rw [if_pos hc]
  rfl)
theorem xAs {v k : Nat} {j : Int32} {N ci : Nat} {g : Nat → Option Nat} {fs S' : List Value} (hk : hg h k = .inl (.object (cn ci), N, .inr g)) (hv : hg h v = .inr (ci, fs)) (hci : ci < 8) (hj : vp_in j N) (hd : decode (mC M) pc = .ok (.aastore, 1)) : aRun C X M res pc L (.ref v :: .int j :: .ref k :: S') h ↔ aRun C X M res (pc + 1) L S' (hs h k (.inl (.object (cn ci), N, .inr (va_up g j.toNatClampNeg (some v))))) := xF hd rfl rfl (by
  simp only [stepF, hk, hv, aast]
  rw [if_pos ⟨trivial, hci, hj⟩]
  rfl)
/-- a switch over 0, 1 .. -/
def tsw (x : Int32) (K : Nat → Prop) (dflt : Nat) : Nat → List Nat → Prop
  | _, [] => K dflt
  | k, t :: ts => if x = nI k then K t else tsw x K dflt (k + 1) ts
theorem tsw_spec {x : Int32} {K : Nat → Prop} {dflt : Nat} : ∀ (ts : List Nat) (k : Nat), k + ts.length < 2 ^ 31 → (tsw x K dflt k ts ↔ ((∃ j, ∃ t, ts[j]? = some t ∧ x = nI (k + j) ∧ K t) ∨ ((∀ j, j < ts.length → x ≠ nI (k + j)) ∧ K dflt)))
  | [], k, _ => by
    simp only [tsw, List.getElem?_nil, List.length_nil]
    constructor
    · intro q; exact Or.inr ⟨fun j hj => absurd hj (Nat.not_lt_zero _), q⟩
    · rintro (⟨j, t, e, -⟩ | q)
      · cases e
      · exact q.2
  | t :: ts, k, hl => by
    simp only [List.length_cons] at hl
    have ih := tsw_spec (x := x) (K := K) (dflt := dflt) ts (k + 1) (by omega)
    unfold tsw
    by_cases hx : x = nI k
    · rw [if_pos hx]
      constructor
      · intro q; exact Or.inl ⟨0, t, rfl, hx, q⟩
      · rintro (⟨j, t2, e, e2, e3⟩ | ⟨q, -⟩)
        · have : j = 0 := by
            rw [hx] at e2
            have hj : j < (t :: ts).length := (List.getElem?_eq_some_iff.mp e).1
            simp only [List.length_cons] at hj
            have := (nI_eq (by omega) (by omega)).mp e2
            omega
          subst this
          cases e
          exact e3
        · exact absurd hx (q 0 (by simp))
    · rw [if_neg hx, ih]
      constructor
      · rintro (⟨j, t2, e, e2, e3⟩ | ⟨q, q2⟩)
        · exact Or.inl ⟨j + 1, t2, e, by rw [e2]; congr 1; omega, e3⟩
        · refine Or.inr ⟨fun j hj => ?_, q2⟩
          match j with
          | 0 => exact hx
          | j + 1 =>
            have := q j (by simpa using hj)
            rw [show k + 1 + j = k + (j + 1) by omega] at this
            exact this
      · rintro (⟨j, t2, e, e2, e3⟩ | ⟨q, q2⟩)
        · match j with
          | 0 => exact absurd e2 hx
          | j + 1 => exact Or.inl ⟨j, t2, e, by rw [e2]; congr 1; omega, e3⟩
        · refine Or.inr ⟨fun j hj => ?_, q2⟩
          have := q (j + 1) (by simpa using hj)
          rw [show k + 1 + j = k + (j + 1) by omega]
          exact this
theorem xT {dflt : Int} {hi td : Nat} {offs : List Int} {ts : List Nat} {x : Int32} {S' : List Value} (hd : decode (mC M) pc = .ok (.tableswitch dflt 0 hi offs.toArray, n)) (hlen : ts.length = hi + 1) (hlt : hi < 1000) (hto : offs.map (fun o => (pc : Int) + o) = ts.map (fun t : Nat => (t : Int))) (htd : (pc : Int) + dflt = (td : Int)) : aRun C X M res pc L (.int x :: S') h ↔ tsw x (fun t => aRun C X M res t L S' h) td 0 ts := by
  rw [tsw_spec ts 0 (by omega)]
  have hol : offs.length = ts.length := by
    have := congrArg List.length hto
    simpa using this
  have jpo : ∀ (off : Int) (t : Nat), (pc : Int) + off = (t : Int) → jp pc off L S' h = gt t L S' h := by
    intro off t e1
    unfold jp
    rw [e1]
  have hoff : ∀ (j t : Nat), ts[j]? = some t → ∃ o, offs[j]? = some o ∧ (pc : Int) + o = (t : Int) := by
    intro j t e1
    have h1 : (offs.map (fun o => (pc : Int) + o))[j]? = some (t : Int) := by rw [hto, List.getElem?_map, e1]; rfl
    rw [List.getElem?_map] at h1
    cases ho : offs[j]? with
    | none => rw [ho] at h1; cases h1
    | some o => rw [ho] at h1; exact ⟨o, rfl, by simpa using h1⟩
  by_cases hx : x.toInt < 0 ∨ (hi : Int) < x.toInt
  · have hst : stepF X M pc (.tableswitch dflt 0 hi offs.toArray) L (.int x :: S') h = some (.inl (td, L, S', h)) := by
      show (if x.toInt < 0 ∨ (hi : Int) < x.toInt then jp pc dflt L S' h else _) = _
      rw [if_pos hx, jpo _ _ htd]
      rfl
    rw [xF hd rfl rfl hst]
    have hno : ∀ j, j < ts.length → x ≠ nI (0 + j) := by
      intro j hj e1
      rw [e1, Nat.zero_add, nI_toInt (by omega)] at hx
      omega
    constructor
    · intro q; exact Or.inr ⟨hno, q⟩
    · rintro (⟨j, t, e1, e2, -⟩ | q)
      · exact absurd e2 (hno j (List.getElem?_eq_some_iff.mp e1).1)
      · exact q.2
  · have hx0 : 0 ≤ x.toInt ∧ x.toInt ≤ hi := by omega
    have hxn : x = nI x.toInt.toNat := by
      apply Int32.toInt_inj.mp
      rw [nI_toInt (by omega)]
      omega
    have hlt2 : x.toInt.toNat < ts.length := by omega
    obtain ⟨o, ho1, ho2⟩ := hoff _ _ (List.getElem?_eq_getElem hlt2)
    have hst : stepF X M pc (.tableswitch dflt 0 hi offs.toArray) L (.int x :: S') h = some (.inl (ts[x.toInt.toNat], L, S', h)) := by
      show (if x.toInt < 0 ∨ (hi : Int) < x.toInt then jp pc dflt L S' h else match offs.toArray[(x.toInt - 0).toNat]? with
        | some off => jp pc off L S' h
        | none => none) = _
      rw [if_neg hx, Int.sub_zero, List.getElem?_toArray, ho1]
      show jp pc o L S' h = _
      rw [jpo _ _ ho2]
      rfl
    rw [xF hd rfl rfl hst]
    constructor
    · intro q; exact Or.inl ⟨_, _, List.getElem?_eq_getElem hlt2, by rw [Nat.zero_add]; exact hxn, q⟩
    · rintro (⟨j, t, e1, e2, e3⟩ | ⟨q, -⟩)
      · have hj : j < ts.length := (List.getElem?_eq_some_iff.mp e1).1
        have : j = x.toInt.toNat := by
          rw [e2, Nat.zero_add, nI_toInt (by omega)]
          omega
        subst this
        rw [List.getElem?_eq_getElem hlt2] at e1
        cases e1
        exact e3
      · exact absurd hxn (by have := q _ hlt2; rw [Nat.zero_add] at this; exact this)
end XR
