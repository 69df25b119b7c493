/-! ===== the claim's start out of a run of the abstract machine ===== -/
def h00 : aH := (0, 0, fun _ => aJ)
/-- what is left to be shown: the law, on the abstract machine, comes to its end with 1, within the room -/
def LawRuns (X : aX) : Prop := ∃ (d : Nat) (hE : aH), d ≤ 700 ∧ hn hE ≤ 600000 ∧ hz hE ≤ 7302250 ∧ aRun (aEv X d) X mLaw (some (.int 1), hE) 0 (entL 4 [.float 3]) [] h00
theorem law_facts : mC mLaw = code ∧ mR mLaw = ret ∧ mL mLaw = 4 ∧ cn (mK mLaw) = R_law ∧ mS mLaw = 0 := ⟨rfl, rfl, rfl, by decide +kernel, by decide +kernel⟩
theorem whole_of_run (hall : ∀ X : aX, X.1 ≤ 2560 → LawRuns X) {p : Program} {e : Env} {s : State} {m : MethodId} {below : List Frame} {meth : Method} {c : Code} (l : Launch) {b L : Nat} {xs : Nat → Int32} (hL : L ≤ 2560) (C0 : lw_At p s m meth c b L xs) : W p l e room_1 s m #[Value.ref b] below meth c s.heap [] 0 0 (lw_Z below #[Value.ref b] s) (entryFrame m ([Value.ref b] : List Value).toArray 4) := by
  obtain ⟨D, ac, kv, hEv, hk3⟩ := start_EV hL C0
  obtain ⟨d, hE, hd, hc1, hc2, hrun⟩ := hall (L, xs) hL
  obtain ⟨hx, hb, hr, hml, hown, hts, hX, hbl, hlocks, hgv⟩ := C0
  obtain ⟨f1, f2, f3, f4, f5⟩ := law_facts
  have C1 : SC p s m #[Value.ref b] meth c (L, xs) D ac s.heap.size kv mLaw := ⟨hx, by rw [f1]; exact hb, by rw [f2]; exact hr, by rw [f3]; exact hml, by rw [f4]; exact hown, fun w hw => hts w (gtbl_in hw).1, hlocks, fun q => by rw [f5] at q; exact absurd q (by decide), hEv⟩
  have hR0 : HR D ac s.heap.size kv h00 s.heap := ⟨⟨fun _ _ => rfl, fun _ _ q => by cases q⟩, fun k q h => by simp [cW, h00, hn] at h, rfl⟩
  have hEnd : ENDS p l e room_1 s m #[Value.ref b] below meth c (lw_Z below #[Value.ref b] s) D ac s.heap.size kv mLaw h00 hE (some (.int 1)) := by
    intro H locs ls pc hR1 hS1
    refine ⟨fun v ty e1 e2 e3 hd => ?_, fun e1 => by cases e1⟩
    cases e1
    refine va_forget (fun q hq => hS1.2.2 q hq) ?_
    refine W.widen (k := 600000) (n := 7302250) (by show hn hE - 0 ≤ _; omega) (by show hz hE - 0 ≤ _; omega) ?_
    exact lw_ret hx hb hr hlocks (by rw [← f1]; exact hd)
  have key := hrun _ (sim_close (d := d) (Q := lw_Z below #[Value.ref b] s) (R := room_1) (h0 := h00) C1 (fun Mc av h r h' q => sim l (L, xs) D ac s.heap.size kv d Mc av h r h' q) (by show d + 1 ≤ 2048; omega) (by show 100 * (d + 1) ≤ 84000; omega) (by show hn hE - 0 ≤ 600000; omega) (by show hz hE - 0 ≤ 7302250; omega) hEnd)
  have hLR := entry_LR (b0 := s.heap.size) (kv := kv) hEv.2.2.2.2.2.2.2 (av := [.float 3]) (n := 4) (by decide) (by decide)
  have e3 : ([.float 3] : List Value).map (cv s.heap.size kv) = [.ref b] := by
    show [kv 3] = [.ref b]
    rw [hk3]
  rw [e3] at hLR
  have hw := key.2 (Nat.le_refl _) (Nat.le_refl _) s.heap [] _ hR0 va_S.rf (by rw [f3]; exact hLR)
  rw [lg_entry_eq]
  exact hw
