/-! ===== parts of the pictures, kept and anew ===== -/
def pPast (h : aH) (a : Int32 × (Nat → Nat) × (Nat → vS)) : Prop := hg h 19 = .inl (.object "HookTies$State", 8, .inr (pastA a.2.1)) ∧ ∀ i, i < 8 → oState h (34 + 3 * a.2.1 i) (a.2.2 i)
def pKept (h : aH) (a : (Nat → vS) × vF) : Prop := (hg h 20 = .inl (.object "HookTies$State", 2, .inr keptA) ∧ ∀ i, i < 2 → oState h (58 + 3 * i) (a.1 i)) ∧ hg h 21 = .inl (.boolean, 2, .inl a.2)
def pWants (h : aH) (f : vF) : Prop := hg h 22 = .inl (.int, 7, .inl f)
def pKnit (h : aH) : Prop := ∃ f g : vF, hg h 27 = .inl (.int, 2, .inl f) ∧ hg h 28 = .inl (.int, 2, .inl g)
def pRacks (h : aH) (f : Nat → vR) : Prop := hg h 33 = .inl (.object "HookTies$Rack", 3, .inr rackA) ∧ ∀ i, i < 3 → oRack h (64 + 3 * i) (f i)
theorem cX_mk {h : aH} {t : vT} {s : vS} {a : Int32 × (Nat → Nat) × (Nat → vS)} {k : (Nat → vS) × vF} {w : vF} {lt : vF} {ln : Int32} {sg : vF × vF × vF × Int32} {rk : Nat → vR} (h1 : oHt h a.1) (h2 : oTold h 1 t) (h3 : ∃ t, oTold h 7 t) (h4 : oState h 13 s) (h5 : ∃ s, oState h 16 s) (h6 : pPast h a) (h7 : pKept h k) (h8 : pWants h w) (h9 : oText h lt ln) (h10 : oNet h) (h11 : pKnit h) (h12 : oSights h sg) (h13 : pRacks h rk) : cX h (t, s, a, k, w, (lt, ln), sg, rk) := ⟨h1, h2, h3, h4, h5, h6, h7, h8, h9, h10, h11, h12, h13⟩
theorem cX_un {h : aH} {x : vX} (c : cX h x) : oHt h x.2.2.1.1 ∧ oTold h 1 x.1 ∧ (∃ t, oTold h 7 t) ∧ oState h 13 x.2.1 ∧ (∃ s, oState h 16 s) ∧ pPast h x.2.2.1 ∧ pKept h x.2.2.2.1 ∧ pWants h x.2.2.2.2.1 ∧ oText h x.2.2.2.2.2.1.1 x.2.2.2.2.2.1.2 ∧ oNet h ∧ pKnit h ∧ oSights h x.2.2.2.2.2.2.1 ∧ pRacks h x.2.2.2.2.2.2.2 := c
theorem oHt.kept {h h' : aH} {n : Int32} (o : oHt h n) (q : hg h' 0 = hg h 0) : oHt h' n := by unfold oHt; rw [q]; exact o
theorem exT.kept {h h' : aH} {r : Nat} (o : ∃ t, oTold h r t) (q : ∀ k, r ≤ k → k < r + 6 → hg h' k = hg h k) : ∃ t, oTold h' r t := by
  obtain ⟨t, o⟩ := o
  exact ⟨t, o.kept q⟩
theorem exS.kept {h h' : aH} {r : Nat} (o : ∃ t, oState h r t) (q : ∀ k, r ≤ k → k < r + 3 → hg h' k = hg h k) : ∃ t, oState h' r t := by
  obtain ⟨t, o⟩ := o
  exact ⟨t, o.kept q⟩
theorem pPast.kept {h h' : aH} {a : Int32 × (Nat → Nat) × (Nat → vS)} (o : pPast h a) (hpi : ∀ i, i < 8 → a.2.1 i < 8) (q : hg h' 19 = hg h 19) (q2 : ∀ k, 34 ≤ k → k < 58 → hg h' k = hg h k) : pPast h' a := ⟨by rw [q]; exact o.1, fun i hi => (o.2 i hi).kept (fun k _ _ => q2 k (by omega) (by have := hpi i hi; omega))⟩
theorem pKept.kept {h h' : aH} {a : (Nat → vS) × vF} (o : pKept h a) (q : hg h' 20 = hg h 20) (q1 : hg h' 21 = hg h 21) (q2 : ∀ k, 58 ≤ k → k < 64 → hg h' k = hg h k) : pKept h' a := ⟨⟨by rw [q]; exact o.1.1, fun i hi => (o.1.2 i hi).kept (fun k _ _ => q2 k (by omega) (by omega))⟩, by rw [q1]; exact o.2⟩
theorem pWants.kept {h h' : aH} {f : vF} (o : pWants h f) (q : hg h' 22 = hg h 22) : pWants h' f := by unfold pWants; rw [q]; exact o
theorem oText.kept {h h' : aH} {lt : vF} {ln : Int32} (o : oText h lt ln) (q : hg h' 23 = hg h 23) (q2 : hg h' 24 = hg h 24) : oText h' lt ln := by
  obtain ⟨c, t, s, e, a, b⟩ := o
  exact ⟨c, t, s, e, by rw [q]; exact a, by rw [q2]; exact b⟩
theorem oNet.kept {h h' : aH} (o : oNet h) (q : hg h' 25 = hg h 25) (q2 : hg h' 26 = hg h 26) : oNet h' := by
  obtain ⟨i, t, f, a, b⟩ := o
  exact ⟨i, t, f, by rw [q]; exact a, by rw [q2]; exact b⟩
theorem pKnit.kept {h h' : aH} (o : pKnit h) (q : hg h' 27 = hg h 27) (q2 : hg h' 28 = hg h 28) : pKnit h' := by
  obtain ⟨f, g, a, b⟩ := o
  exact ⟨f, g, by rw [q]; exact a, by rw [q2]; exact b⟩
theorem oSights.kept {h h' : aH} {s : vF × vF × vF × Int32} (o : oSights h s) (q : ∀ k, 29 ≤ k → k < 33 → hg h' k = hg h k) : oSights h' s := by
  obtain ⟨a, b, c, d⟩ := o
  exact ⟨by rw [q _ (by omega) (by omega)]; exact a, by rw [q _ (by omega) (by omega)]; exact b, by rw [q _ (by omega) (by omega)]; exact c, by rw [q _ (by omega) (by omega)]; exact d⟩
theorem pRacks.kept {h h' : aH} {f : Nat → vR} (o : pRacks h f) (q : hg h' 33 = hg h 33) (q2 : ∀ k, 64 ≤ k → k < 73 → hg h' k = hg h k) : pRacks h' f := ⟨by rw [q]; exact o.1, fun i hi => (o.2 i hi).kept (fun k _ _ => q2 k (by omega) (by omega))⟩
/-! the reference -/
abbrev mObj (u ln sm a b c d e f : Int32) : aE := .inr (7, [.ref 74, .int u, .ref 75, .ref 76, .int ln, .int sm, .ref 77, .ref 78, .ref 79, .ref 80, .ref 81, .ref 82, .ref 83, .int a, .int b, .int c, .int d, .int e, .int f, .ref 84, .ref 85, .ref 86, .ref 87, .ref 88, .ref 89, .ref 90, .ref 91, .ref 92, .ref 93, .ref 94])
/-- the reference's cells but its own object's -/
def pM2 (h : aH) (row ik tx s1 s2 s3 rm sz so vl : vF) : Prop := (hg h 74 = .inl (.int, 344, .inl row) ∧ hg h 75 = .inl (.boolean, 2, .inl ik) ∧ hg h 76 = .inl (.int, 200, .inl tx)) ∧ (hg h 77 = .inl (.int, 6, .inl s1) ∧ hg h 78 = .inl (.int, 6, .inl s2) ∧ hg h 79 = .inl (.int, 6, .inl s3)) ∧ (hg h 80 = .inl (.int, 3, .inl rm) ∧ hg h 81 = .inl (.int, 3, .inl sz) ∧ hg h 82 = .inl (.int, 36, .inl so) ∧ hg h 83 = .inl (.int, 36, .inl vl)) ∧ (∃ n9 lk st : vF, hg h 84 = .inl (.int, 3, .inl n9) ∧ hg h 93 = .inl (.int, 7, .inl lk) ∧ hg h 94 = .inl (.int, 4, .inl st)) ∧ oWords h
theorem cY_mk {h : aH} {u ln sm a b c d e f : Int32} {row ik tx s1 s2 s3 rm sz so vl : vF} (h1 : hg h 73 = mObj u ln sm a b c d e f) (h2 : pM2 h row ik tx s1 s2 s3 rm sz so vl) : cY h ((row, u, ik), (tx, ln), (sm, s1, s2, s3), (rm, sz, so, vl)) := ⟨⟨a, b, c, d, e, f, h1⟩, h2⟩
theorem cY_un {h : aH} {y : vY} (hc : cY h y) : ∃ a b c d e f : Int32, hg h 73 = mObj y.1.2.1 y.2.1.2 y.2.2.1.1 a b c d e f ∧ pM2 h y.1.1 y.1.2.2 y.2.1.1 y.2.2.1.2.1 y.2.2.1.2.2.1 y.2.2.1.2.2.2 y.2.2.2.1 y.2.2.2.2.1 y.2.2.2.2.2.1 y.2.2.2.2.2.2 := by
  obtain ⟨⟨a, b, c, d, e, f, h1⟩, h2⟩ := hc
  exact ⟨a, b, c, d, e, f, h1, h2⟩
section PM
variable {h h' : aH} {row ik tx s1 s2 s3 rm sz so vl : vF}
theorem pM2.kept (o : pM2 h row ik tx s1 s2 s3 rm sz so vl) (q : ∀ k, 74 ≤ k → hg h' k = hg h k) : pM2 h' row ik tx s1 s2 s3 rm sz so vl := by
  obtain ⟨⟨h2, h3, h4⟩, ⟨h5, h6, h7⟩, ⟨h8, h9, h10, h11⟩, ⟨n9, lk, st, h12, h13, h14⟩, h15, h16, h17, h18, h19, h20, h21, h22⟩ := o
  refine ⟨⟨?_, ?_, ?_⟩, ⟨?_, ?_, ?_⟩, ⟨?_, ?_, ?_, ?_⟩, ⟨n9, lk, st, ?_, ?_, ?_⟩, ?_, ?_, ?_, ?_, ?_, ?_, ?_, ?_⟩
  all_goals (rw [q _ (by omega)]; assumption)
theorem pM2.obj (o : pM2 h row ik tx s1 s2 s3 rm sz so vl) {e : aE} : pM2 (hs h 73 e) row ik tx s1 s2 s3 rm sz so vl := o.kept (fun k hk => hg_hs_ne _ _ (by omega))
theorem pM2.u_row (o : pM2 h row ik tx s1 s2 s3 rm sz so vl) {f : vF} : pM2 (hs h 74 (.inl (.int, 344, .inl f))) f ik tx s1 s2 s3 rm sz so vl := by
  obtain ⟨⟨h2, h3, h4⟩, ⟨h5, h6, h7⟩, ⟨h8, h9, h10, h11⟩, ⟨n9, lk, st, h12, h13, h14⟩, h15, h16, h17, h18, h19, h20, h21, h22⟩ := o
  refine ⟨⟨hg_hs_self _ _ _, ?_, ?_⟩, ⟨?_, ?_, ?_⟩, ⟨?_, ?_, ?_, ?_⟩, ⟨n9, lk, st, ?_, ?_, ?_⟩, ?_, ?_, ?_, ?_, ?_, ?_, ?_, ?_⟩
  all_goals (rw [hg_hs_ne _ _ (by omega)]; assumption)
theorem pM2.u_ik (o : pM2 h row ik tx s1 s2 s3 rm sz so vl) {f : vF} : pM2 (hs h 75 (.inl (.boolean, 2, .inl f))) row f tx s1 s2 s3 rm sz so vl := by
  obtain ⟨⟨h2, h3, h4⟩, ⟨h5, h6, h7⟩, ⟨h8, h9, h10, h11⟩, ⟨n9, lk, st, h12, h13, h14⟩, h15, h16, h17, h18, h19, h20, h21, h22⟩ := o
  refine ⟨⟨?_, hg_hs_self _ _ _, ?_⟩, ⟨?_, ?_, ?_⟩, ⟨?_, ?_, ?_, ?_⟩, ⟨n9, lk, st, ?_, ?_, ?_⟩, ?_, ?_, ?_, ?_, ?_, ?_, ?_, ?_⟩
  all_goals (rw [hg_hs_ne _ _ (by omega)]; assumption)
theorem pM2.u_tx (o : pM2 h row ik tx s1 s2 s3 rm sz so vl) {f : vF} : pM2 (hs h 76 (.inl (.int, 200, .inl f))) row ik f s1 s2 s3 rm sz so vl := by
  obtain ⟨⟨h2, h3, h4⟩, ⟨h5, h6, h7⟩, ⟨h8, h9, h10, h11⟩, ⟨n9, lk, st, h12, h13, h14⟩, h15, h16, h17, h18, h19, h20, h21, h22⟩ := o
  refine ⟨⟨?_, ?_, hg_hs_self _ _ _⟩, ⟨?_, ?_, ?_⟩, ⟨?_, ?_, ?_, ?_⟩, ⟨n9, lk, st, ?_, ?_, ?_⟩, ?_, ?_, ?_, ?_, ?_, ?_, ?_, ?_⟩
  all_goals (rw [hg_hs_ne _ _ (by omega)]; assumption)
theorem pM2.u_s1 (o : pM2 h row ik tx s1 s2 s3 rm sz so vl) {f : vF} : pM2 (hs h 77 (.inl (.int, 6, .inl f))) row ik tx f s2 s3 rm sz so vl := by
  obtain ⟨⟨h2, h3, h4⟩, ⟨h5, h6, h7⟩, ⟨h8, h9, h10, h11⟩, ⟨n9, lk, st, h12, h13, h14⟩, h15, h16, h17, h18, h19, h20, h21, h22⟩ := o
  refine ⟨⟨?_, ?_, ?_⟩, ⟨hg_hs_self _ _ _, ?_, ?_⟩, ⟨?_, ?_, ?_, ?_⟩, ⟨n9, lk, st, ?_, ?_, ?_⟩, ?_, ?_, ?_, ?_, ?_, ?_, ?_, ?_⟩
  all_goals (rw [hg_hs_ne _ _ (by omega)]; assumption)
theorem pM2.u_s2 (o : pM2 h row ik tx s1 s2 s3 rm sz so vl) {f : vF} : pM2 (hs h 78 (.inl (.int, 6, .inl f))) row ik tx s1 f s3 rm sz so vl := by
  obtain ⟨⟨h2, h3, h4⟩, ⟨h5, h6, h7⟩, ⟨h8, h9, h10, h11⟩, ⟨n9, lk, st, h12, h13, h14⟩, h15, h16, h17, h18, h19, h20, h21, h22⟩ := o
  refine ⟨⟨?_, ?_, ?_⟩, ⟨?_, hg_hs_self _ _ _, ?_⟩, ⟨?_, ?_, ?_, ?_⟩, ⟨n9, lk, st, ?_, ?_, ?_⟩, ?_, ?_, ?_, ?_, ?_, ?_, ?_, ?_⟩
  all_goals (rw [hg_hs_ne _ _ (by omega)]; assumption)
theorem pM2.u_s3 (o : pM2 h row ik tx s1 s2 s3 rm sz so vl) {f : vF} : pM2 (hs h 79 (.inl (.int, 6, .inl f))) row ik tx s1 s2 f rm sz so vl := by
  obtain ⟨⟨h2, h3, h4⟩, ⟨h5, h6, h7⟩, ⟨h8, h9, h10, h11⟩, ⟨n9, lk, st, h12, h13, h14⟩, h15, h16, h17, h18, h19, h20, h21, h22⟩ := o
  refine ⟨⟨?_, ?_, ?_⟩, ⟨?_, ?_, hg_hs_self _ _ _⟩, ⟨?_, ?_, ?_, ?_⟩, ⟨n9, lk, st, ?_, ?_, ?_⟩, ?_, ?_, ?_, ?_, ?_, ?_, ?_, ?_⟩
  all_goals (rw [hg_hs_ne _ _ (by omega)]; assumption)
theorem pM2.u_rm (o : pM2 h row ik tx s1 s2 s3 rm sz so vl) {f : vF} : pM2 (hs h 80 (.inl (.int, 3, .inl f))) row ik tx s1 s2 s3 f sz so vl := by
  obtain ⟨⟨h2, h3, h4⟩, ⟨h5, h6, h7⟩, ⟨h8, h9, h10, h11⟩, ⟨n9, lk, st, h12, h13, h14⟩, h15, h16, h17, h18, h19, h20, h21, h22⟩ := o
  refine ⟨⟨?_, ?_, ?_⟩, ⟨?_, ?_, ?_⟩, ⟨hg_hs_self _ _ _, ?_, ?_, ?_⟩, ⟨n9, lk, st, ?_, ?_, ?_⟩, ?_, ?_, ?_, ?_, ?_, ?_, ?_, ?_⟩
  all_goals (rw [hg_hs_ne _ _ (by omega)]; assumption)
theorem pM2.u_sz (o : pM2 h row ik tx s1 s2 s3 rm sz so vl) {f : vF} : pM2 (hs h 81 (.inl (.int, 3, .inl f))) row ik tx s1 s2 s3 rm f so vl := by
  obtain ⟨⟨h2, h3, h4⟩, ⟨h5, h6, h7⟩, ⟨h8, h9, h10, h11⟩, ⟨n9, lk, st, h12, h13, h14⟩, h15, h16, h17, h18, h19, h20, h21, h22⟩ := o
  refine ⟨⟨?_, ?_, ?_⟩, ⟨?_, ?_, ?_⟩, ⟨?_, hg_hs_self _ _ _, ?_, ?_⟩, ⟨n9, lk, st, ?_, ?_, ?_⟩, ?_, ?_, ?_, ?_, ?_, ?_, ?_, ?_⟩
  all_goals (rw [hg_hs_ne _ _ (by omega)]; assumption)
theorem pM2.u_so (o : pM2 h row ik tx s1 s2 s3 rm sz so vl) {f : vF} : pM2 (hs h 82 (.inl (.int, 36, .inl f))) row ik tx s1 s2 s3 rm sz f vl := by
  obtain ⟨⟨h2, h3, h4⟩, ⟨h5, h6, h7⟩, ⟨h8, h9, h10, h11⟩, ⟨n9, lk, st, h12, h13, h14⟩, h15, h16, h17, h18, h19, h20, h21, h22⟩ := o
  refine ⟨⟨?_, ?_, ?_⟩, ⟨?_, ?_, ?_⟩, ⟨?_, ?_, hg_hs_self _ _ _, ?_⟩, ⟨n9, lk, st, ?_, ?_, ?_⟩, ?_, ?_, ?_, ?_, ?_, ?_, ?_, ?_⟩
  all_goals (rw [hg_hs_ne _ _ (by omega)]; assumption)
theorem pM2.u_vl (o : pM2 h row ik tx s1 s2 s3 rm sz so vl) {f : vF} : pM2 (hs h 83 (.inl (.int, 36, .inl f))) row ik tx s1 s2 s3 rm sz so f := by
  obtain ⟨⟨h2, h3, h4⟩, ⟨h5, h6, h7⟩, ⟨h8, h9, h10, h11⟩, ⟨n9, lk, st, h12, h13, h14⟩, h15, h16, h17, h18, h19, h20, h21, h22⟩ := o
  refine ⟨⟨?_, ?_, ?_⟩, ⟨?_, ?_, ?_⟩, ⟨?_, ?_, ?_, hg_hs_self _ _ _⟩, ⟨n9, lk, st, ?_, ?_, ?_⟩, ?_, ?_, ?_, ?_, ?_, ?_, ?_, ?_⟩
  all_goals (rw [hg_hs_ne _ _ (by omega)]; assumption)
end PM
