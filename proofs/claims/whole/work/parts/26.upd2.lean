/-! ===== the class's cells, a part of them anew (printed by genupd) ===== -/
theorem cX.u_racks {h h' : aH} {x : vX} {rk9 : Nat → vR} (hc : cX h x) (hpi : ∀ i, i < 8 → x.2.2.1.2.1 i < 8) (o13 : pRacks h' rk9) (q : ∀ k, k < 64 → hg h' k = hg h k) : cX h' (x.1, x.2.1, x.2.2.1, x.2.2.2.1, x.2.2.2.2.1, x.2.2.2.2.2.1, x.2.2.2.2.2.2.1, rk9) := by
  obtain ⟨h1, h2, h3, h4, h5, h6, h7, h8, h9, h10, h11, h12, h13⟩ := cX_un hc
  exact cX_mk (h1.kept (q _ (by omega))) (h2.kept (fun k _ _ => q k (by omega))) (exT.kept h3 (fun k _ _ => q k (by omega))) (h4.kept (fun k _ _ => q k (by omega))) (exS.kept h5 (fun k _ _ => q k (by omega))) (h6.kept hpi (q _ (by omega)) (fun k _ _ => q k (by omega))) (h7.kept (q _ (by omega)) (q _ (by omega)) (fun k _ _ => q k (by omega))) (h8.kept (q _ (by omega))) (h9.kept (q _ (by omega)) (q _ (by omega))) (h10.kept (q _ (by omega)) (q _ (by omega))) (h11.kept (q _ (by omega)) (q _ (by omega))) (h12.kept (fun k _ _ => q k (by omega))) o13
theorem cX.u_wants {h h' : aH} {x : vX} {w9 : vF} (hc : cX h x) (hpi : ∀ i, i < 8 → x.2.2.1.2.1 i < 8) (o8 : pWants h' w9) (q : ∀ k, k ≠ 22 → hg h' k = hg h k) : cX h' (x.1, x.2.1, x.2.2.1, x.2.2.2.1, w9, x.2.2.2.2.2.1, x.2.2.2.2.2.2.1, x.2.2.2.2.2.2.2) := by
  obtain ⟨h1, h2, h3, h4, h5, h6, h7, h8, h9, h10, h11, h12, h13⟩ := cX_un hc
  exact cX_mk (h1.kept (q _ (by omega))) (h2.kept (fun k _ _ => q k (by omega))) (exT.kept h3 (fun k _ _ => q k (by omega))) (h4.kept (fun k _ _ => q k (by omega))) (exS.kept h5 (fun k _ _ => q k (by omega))) (h6.kept hpi (q _ (by omega)) (fun k _ _ => q k (by omega))) (h7.kept (q _ (by omega)) (q _ (by omega)) (fun k _ _ => q k (by omega))) o8 (h9.kept (q _ (by omega)) (q _ (by omega))) (h10.kept (q _ (by omega)) (q _ (by omega))) (h11.kept (q _ (by omega)) (q _ (by omega))) (h12.kept (fun k _ _ => q k (by omega))) (h13.kept (q _ (by omega)) (fun k _ _ => q k (by omega)))
theorem cX.u_now {h h' : aH} {x : vX} {s9 : vS} (hc : cX h x) (hpi : ∀ i, i < 8 → x.2.2.1.2.1 i < 8) (o4 : oState h' 13 s9) (q : ∀ k, (k < 13 ∨ 15 < k) → hg h' k = hg h k) : cX h' (x.1, s9, x.2.2.1, x.2.2.2.1, x.2.2.2.2.1, x.2.2.2.2.2.1, x.2.2.2.2.2.2.1, x.2.2.2.2.2.2.2) := by
  obtain ⟨h1, h2, h3, h4, h5, h6, h7, h8, h9, h10, h11, h12, h13⟩ := cX_un hc
  exact cX_mk (h1.kept (q _ (by omega))) (h2.kept (fun k _ _ => q k (by omega))) (exT.kept h3 (fun k _ _ => q k (by omega))) o4 (exS.kept h5 (fun k _ _ => q k (by omega))) (h6.kept hpi (q _ (by omega)) (fun k _ _ => q k (by omega))) (h7.kept (q _ (by omega)) (q _ (by omega)) (fun k _ _ => q k (by omega))) (h8.kept (q _ (by omega))) (h9.kept (q _ (by omega)) (q _ (by omega))) (h10.kept (q _ (by omega)) (q _ (by omega))) (h11.kept (q _ (by omega)) (q _ (by omega))) (h12.kept (fun k _ _ => q k (by omega))) (h13.kept (q _ (by omega)) (fun k _ _ => q k (by omega)))
theorem cX.u_np {h h' : aH} {x : vX} {s9 : vS} {a9 : Int32 × (Nat → Nat) × (Nat → vS)} (hc : cX h x) (o1 : oHt h' a9.1) (o4 : oState h' 13 s9) (o6 : pPast h' a9) (q : ∀ k, (k ≠ 0 ∧ (k < 13 ∨ 15 < k) ∧ k ≠ 19 ∧ (k < 34 ∨ 57 < k)) → hg h' k = hg h k) : cX h' (x.1, s9, a9, x.2.2.2.1, x.2.2.2.2.1, x.2.2.2.2.2.1, x.2.2.2.2.2.2.1, x.2.2.2.2.2.2.2) := by
  obtain ⟨h1, h2, h3, h4, h5, h6, h7, h8, h9, h10, h11, h12, h13⟩ := cX_un hc
  exact cX_mk o1 (h2.kept (fun k _ _ => q k (by omega))) (exT.kept h3 (fun k _ _ => q k (by omega))) o4 (exS.kept h5 (fun k _ _ => q k (by omega))) o6 (h7.kept (q _ (by omega)) (q _ (by omega)) (fun k _ _ => q k (by omega))) (h8.kept (q _ (by omega))) (h9.kept (q _ (by omega)) (q _ (by omega))) (h10.kept (q _ (by omega)) (q _ (by omega))) (h11.kept (q _ (by omega)) (q _ (by omega))) (h12.kept (fun k _ _ => q k (by omega))) (h13.kept (q _ (by omega)) (fun k _ _ => q k (by omega)))
theorem cX.u_kept {h h' : aH} {x : vX} {k9 : (Nat → vS) × vF} (hc : cX h x) (hpi : ∀ i, i < 8 → x.2.2.1.2.1 i < 8) (o7 : pKept h' k9) (q : ∀ k, (k ≠ 21 ∧ (k < 58 ∨ 63 < k)) → hg h' k = hg h k) : cX h' (x.1, x.2.1, x.2.2.1, k9, x.2.2.2.2.1, x.2.2.2.2.2.1, x.2.2.2.2.2.2.1, x.2.2.2.2.2.2.2) := by
  obtain ⟨h1, h2, h3, h4, h5, h6, h7, h8, h9, h10, h11, h12, h13⟩ := cX_un hc
  exact cX_mk (h1.kept (q _ (by omega))) (h2.kept (fun k _ _ => q k (by omega))) (exT.kept h3 (fun k _ _ => q k (by omega))) (h4.kept (fun k _ _ => q k (by omega))) (exS.kept h5 (fun k _ _ => q k (by omega))) (h6.kept hpi (q _ (by omega)) (fun k _ _ => q k (by omega))) o7 (h8.kept (q _ (by omega))) (h9.kept (q _ (by omega)) (q _ (by omega))) (h10.kept (q _ (by omega)) (q _ (by omega))) (h11.kept (q _ (by omega)) (q _ (by omega))) (h12.kept (fun k _ _ => q k (by omega))) (h13.kept (q _ (by omega)) (fun k _ _ => q k (by omega)))
theorem cX.u_n0 {h h' : aH} {x : vX} {s9 : vS} (hc : cX h x) (hpi : ∀ i, i < 8 → x.2.2.1.2.1 i < 8) (o1 : oHt h' x.2.2.1.1) (o4 : oState h' 13 s9) (q : ∀ k, (k ≠ 0 ∧ (k < 13 ∨ 15 < k)) → hg h' k = hg h k) : cX h' (x.1, s9, x.2.2.1, x.2.2.2.1, x.2.2.2.2.1, x.2.2.2.2.2.1, x.2.2.2.2.2.2.1, x.2.2.2.2.2.2.2) := by
  obtain ⟨h1, h2, h3, h4, h5, h6, h7, h8, h9, h10, h11, h12, h13⟩ := cX_un hc
  exact cX_mk o1 (h2.kept (fun k _ _ => q k (by omega))) (exT.kept h3 (fun k _ _ => q k (by omega))) o4 (exS.kept h5 (fun k _ _ => q k (by omega))) (h6.kept hpi (q _ (by omega)) (fun k _ _ => q k (by omega))) (h7.kept (q _ (by omega)) (q _ (by omega)) (fun k _ _ => q k (by omega))) (h8.kept (q _ (by omega))) (h9.kept (q _ (by omega)) (q _ (by omega))) (h10.kept (q _ (by omega)) (q _ (by omega))) (h11.kept (q _ (by omega)) (q _ (by omega))) (h12.kept (fun k _ _ => q k (by omega))) (h13.kept (q _ (by omega)) (fun k _ _ => q k (by omega)))
theorem cX.u_scr {h h' : aH} {x : vX}  (hc : cX h x) (hpi : ∀ i, i < 8 → x.2.2.1.2.1 i < 8) (o3 : ∃ t, oTold h' 7 t) (o5 : ∃ s, oState h' 16 s) (o9 : oText h' x.2.2.2.2.2.1.1 x.2.2.2.2.2.1.2) (o10 : oNet h') (o11 : pKnit h') (q : ∀ k, (k < 7 ∨ (12 < k ∧ k < 16) ∨ (18 < k ∧ k < 23) ∨ 28 < k) → hg h' k = hg h k) : cX h' (x.1, x.2.1, x.2.2.1, x.2.2.2.1, x.2.2.2.2.1, x.2.2.2.2.2.1, x.2.2.2.2.2.2.1, x.2.2.2.2.2.2.2) := by
  obtain ⟨h1, h2, h3, h4, h5, h6, h7, h8, h9, h10, h11, h12, h13⟩ := cX_un hc
  exact cX_mk (h1.kept (q _ (by omega))) (h2.kept (fun k _ _ => q k (by omega))) o3 (h4.kept (fun k _ _ => q k (by omega))) o5 (h6.kept hpi (q _ (by omega)) (fun k _ _ => q k (by omega))) (h7.kept (q _ (by omega)) (q _ (by omega)) (fun k _ _ => q k (by omega))) (h8.kept (q _ (by omega))) o9 o10 o11 (h12.kept (fun k _ _ => q k (by omega))) (h13.kept (q _ (by omega)) (fun k _ _ => q k (by omega)))
theorem cX.u_ahead {h h' : aH} {x : vX}  (hc : cX h x) (hpi : ∀ i, i < 8 → x.2.2.1.2.1 i < 8) (o5 : ∃ s, oState h' 16 s) (q : ∀ k, (k < 16 ∨ 18 < k) → hg h' k = hg h k) : cX h' (x.1, x.2.1, x.2.2.1, x.2.2.2.1, x.2.2.2.2.1, x.2.2.2.2.2.1, x.2.2.2.2.2.2.1, x.2.2.2.2.2.2.2) := by
  obtain ⟨h1, h2, h3, h4, h5, h6, h7, h8, h9, h10, h11, h12, h13⟩ := cX_un hc
  exact cX_mk (h1.kept (q _ (by omega))) (h2.kept (fun k _ _ => q k (by omega))) (exT.kept h3 (fun k _ _ => q k (by omega))) (h4.kept (fun k _ _ => q k (by omega))) o5 (h6.kept hpi (q _ (by omega)) (fun k _ _ => q k (by omega))) (h7.kept (q _ (by omega)) (q _ (by omega)) (fun k _ _ => q k (by omega))) (h8.kept (q _ (by omega))) (h9.kept (q _ (by omega)) (q _ (by omega))) (h10.kept (q _ (by omega)) (q _ (by omega))) (h11.kept (q _ (by omega)) (q _ (by omega))) (h12.kept (fun k _ _ => q k (by omega))) (h13.kept (q _ (by omega)) (fun k _ _ => q k (by omega)))
theorem cX.u_an {h h' : aH} {x : vX}  (hc : cX h x) (hpi : ∀ i, i < 8 → x.2.2.1.2.1 i < 8) (o5 : ∃ s, oState h' 16 s) (o10 : oNet h') (q : ∀ k, (k < 16 ∨ (18 < k ∧ k ≠ 25 ∧ k ≠ 26)) → hg h' k = hg h k) : cX h' (x.1, x.2.1, x.2.2.1, x.2.2.2.1, x.2.2.2.2.1, x.2.2.2.2.2.1, x.2.2.2.2.2.2.1, x.2.2.2.2.2.2.2) := by
  obtain ⟨h1, h2, h3, h4, h5, h6, h7, h8, h9, h10, h11, h12, h13⟩ := cX_un hc
  exact cX_mk (h1.kept (q _ (by omega))) (h2.kept (fun k _ _ => q k (by omega))) (exT.kept h3 (fun k _ _ => q k (by omega))) (h4.kept (fun k _ _ => q k (by omega))) o5 (h6.kept hpi (q _ (by omega)) (fun k _ _ => q k (by omega))) (h7.kept (q _ (by omega)) (q _ (by omega)) (fun k _ _ => q k (by omega))) (h8.kept (q _ (by omega))) (h9.kept (q _ (by omega)) (q _ (by omega))) o10 (h11.kept (q _ (by omega)) (q _ (by omega))) (h12.kept (fun k _ _ => q k (by omega))) (h13.kept (q _ (by omega)) (fun k _ _ => q k (by omega)))
theorem cX.u_nk {h h' : aH} {x : vX}  (hc : cX h x) (hpi : ∀ i, i < 8 → x.2.2.1.2.1 i < 8) (o10 : oNet h') (o11 : pKnit h') (q : ∀ k, (k < 25 ∨ 28 < k) → hg h' k = hg h k) : cX h' (x.1, x.2.1, x.2.2.1, x.2.2.2.1, x.2.2.2.2.1, x.2.2.2.2.2.1, x.2.2.2.2.2.2.1, x.2.2.2.2.2.2.2) := by
  obtain ⟨h1, h2, h3, h4, h5, h6, h7, h8, h9, h10, h11, h12, h13⟩ := cX_un hc
  exact cX_mk (h1.kept (q _ (by omega))) (h2.kept (fun k _ _ => q k (by omega))) (exT.kept h3 (fun k _ _ => q k (by omega))) (h4.kept (fun k _ _ => q k (by omega))) (exS.kept h5 (fun k _ _ => q k (by omega))) (h6.kept hpi (q _ (by omega)) (fun k _ _ => q k (by omega))) (h7.kept (q _ (by omega)) (q _ (by omega)) (fun k _ _ => q k (by omega))) (h8.kept (q _ (by omega))) (h9.kept (q _ (by omega)) (q _ (by omega))) o10 o11 (h12.kept (fun k _ _ => q k (by omega))) (h13.kept (q _ (by omega)) (fun k _ _ => q k (by omega)))
theorem cX.u_all {h h' : aH} {x : vX} {t9 : vT} {s9 : vS} {a9 : Int32 × (Nat → Nat) × (Nat → vS)} {k9 : (Nat → vS) × vF} {w9 : vF} {lt9 : vF} {ln9 : Int32} {sg9 : vF × vF × vF × Int32} {rk9 : Nat → vR} (hc : cX h x) (o1 : oHt h' a9.1) (o2 : oTold h' 1 t9) (o3 : ∃ t, oTold h' 7 t) (o4 : oState h' 13 s9) (o6 : pPast h' a9) (o7 : pKept h' k9) (o8 : pWants h' w9) (o9 : oText h' lt9 ln9) (o12 : oSights h' sg9) (o13 : pRacks h' rk9) (q : ∀ k, ((15 < k ∧ k < 19) ∨ (24 < k ∧ k < 29)) → hg h' k = hg h k) : cX h' (t9, s9, a9, k9, w9, (lt9, ln9), sg9, rk9) := by
  obtain ⟨h1, h2, h3, h4, h5, h6, h7, h8, h9, h10, h11, h12, h13⟩ := cX_un hc
  exact cX_mk o1 o2 o3 o4 (exS.kept h5 (fun k _ _ => q k (by omega))) o6 o7 o8 o9 (h10.kept (q _ (by omega)) (q _ (by omega))) (h11.kept (q _ (by omega)) (q _ (by omega))) o12 o13
/-- one rack anew -/
def updR (f : Nat → vR) (i : Nat) (r : vR) : Nat → vR := fun j => if j = i then r else f j
theorem pRacks.put {h h' : aH} {f : Nat → vR} {i : Nat} {r : vR} (o : pRacks h f) (hi : i < 3) (ho : oRack h' (64 + 3 * i) r) (q : ∀ k, 33 ≤ k → k < 73 → (k < 64 + 3 * i ∨ 64 + 3 * i + 2 < k) → hg h' k = hg h k) : pRacks h' (updR f i r) := by
  refine ⟨by rw [q 33 (by omega) (by omega) (by omega)]; exact o.1, fun j hj => ?_⟩
  unfold updR
  by_cases e : j = i
  · subst e; rw [if_pos rfl]; exact ho
  · rw [if_neg e]; exact (o.2 j hj).kept (fun k _ _ => q k (by omega) (by omega) (by omega))
/-- the tie of one rack -/
def hkC (r : vR) (rm sz : Int32) (so vl : vF) (i : Nat) : Prop := r.1 = (if rm < 0 then 1 else 0) ∧ ((rm < 0 ∧ r.2.2.1 = 0) ∨ ∃ n s : Nat, n ≤ 12 ∧ s ≤ n ∧ rm = nI n ∧ r.2.1 = nI n ∧ r.2.2.1 = nI s ∧ sz = nI s ∧ ∀ j, j < s → r.2.2.2.1 j = so (12 * i + j) ∧ r.2.2.2.2 j = vl (12 * i + j))
theorem Rel.hk {x : vX} {y : vY} (hr : Rel x y) : ∀ i, i < 3 → hkC (x.2.2.2.2.2.2.2 i) (y.2.2.2.1 i) (y.2.2.2.2.1 i) y.2.2.2.2.2.1 y.2.2.2.2.2.2 i := by
  obtain ⟨nh, nt, u, ln, sm, hb, a1, a2, a3, a4, a5, a6, a7, a8⟩ := hr
  exact a8
theorem Rel.u_hk {x : vX} {y : vY} (hr : Rel x y) {i : Nat} {r : vR} {rm sz so vl : vF} (h1 : hkC r (rm i) (sz i) so vl i) (h2 : ∀ j, j < 3 → j ≠ i → rm j = y.2.2.2.1 j ∧ sz j = y.2.2.2.2.1 j ∧ ∀ t, t < 12 → so (12 * j + t) = y.2.2.2.2.2.1 (12 * j + t) ∧ vl (12 * j + t) = y.2.2.2.2.2.2 (12 * j + t)) : Rel (x.1, x.2.1, x.2.2.1, x.2.2.2.1, x.2.2.2.2.1, x.2.2.2.2.2.1, x.2.2.2.2.2.2.1, updR x.2.2.2.2.2.2.2 i r) (y.1, y.2.1, y.2.2.1, rm, sz, so, vl) := by
  obtain ⟨nh, nt, u, ln, sm, hb, a1, a2, a3, a4, a5, a6, a7, a8⟩ := hr
  refine ⟨nh, nt, u, ln, sm, hb, a1, a2, a3, a4, a5, a6, a7, fun j hj => ?_⟩
  show hkC (updR _ i r j) (rm j) (sz j) so vl j
  unfold updR
  by_cases e : j = i
  · subst e; rw [if_pos rfl]; exact h1
  · rw [if_neg e]
    obtain ⟨e1, e2, e3⟩ := h2 j hj e
    rw [e1, e2]
    have q : hkC _ _ _ _ _ j := a8 j hj
    obtain ⟨q1, q2⟩ := q
    refine ⟨q1, ?_⟩
    rcases q2 with q2 | ⟨n, s, g1, g2, g3, g4, g5, g6, g7⟩
    · exact Or.inl q2
    · refine Or.inr ⟨n, s, g1, g2, g3, g4, g5, g6, fun t ht => ?_⟩
      rw [(e3 t (by omega)).1, (e3 t (by omega)).2]
      exact g7 t ht
theorem rr1 (r : Nat) : (r + 1 = r) = False := eq_false (by omega)
theorem rr2 (r : Nat) : (r + 2 = r) = False := eq_false (by omega)
theorem rr3 (r : Nat) : (r = r + 1) = False := eq_false (by omega)
theorem rr4 (r : Nat) : (r = r + 2) = False := eq_false (by omega)
theorem rr5 (r : Nat) : (r + 1 = r + 2) = False := eq_false (by omega)
theorem rr6 (r : Nat) : (r + 2 = r + 1) = False := eq_false (by omega)
