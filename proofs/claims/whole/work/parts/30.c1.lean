/-! ===== calls: write, erase, seen, forget ===== -/
/-- the class's cells, one part of them anew -/
theorem cX.text {h h' : aH} {x : vX} {lt : vF} {ln : Int32} (hc : cX h x) (ho : oText h' lt ln) (q : ∀ k, k ≠ 23 → k ≠ 24 → hg h' k = hg h k) : cX h' (x.1, x.2.1, x.2.2.1, x.2.2.2.1, x.2.2.2.2.1, (lt, ln), x.2.2.2.2.2.2.1, x.2.2.2.2.2.2.2) := by
  obtain ⟨h1, h2, ⟨t, h3⟩, h4, ⟨s, h5⟩, ⟨h6, h7⟩, ⟨⟨h8, h9⟩, h10⟩, h11, -, ⟨i1, t1, f1, h14, h15⟩, ⟨f2, g2, h16, h17⟩, ⟨h18, h19, h20, h21⟩, h22, h23⟩ := hc
  refine ⟨?_, h2.kept (fun k _ _ => q k (by omega) (by omega)), ⟨t, h3.kept (fun k _ _ => q k (by omega) (by omega))⟩, h4.kept (fun k _ _ => q k (by omega) (by omega)), ⟨s, h5.kept (fun k _ _ => q k (by omega) (by omega))⟩, ⟨?_, fun i hi => (h7 i hi).kept (fun k _ _ => q k (by omega) (by omega))⟩, ⟨⟨?_, fun i hi => (h9 i hi).kept (fun k _ _ => q k (by omega) (by omega))⟩, ?_⟩, ?_, ho, ⟨i1, t1, f1, ?_, ?_⟩, ⟨f2, g2, ?_, ?_⟩, ⟨?_, ?_, ?_, ?_⟩, ?_, fun i hi => (h23 i hi).kept (fun k _ _ => q k (by omega) (by omega))⟩
  · unfold oHt; rw [q _ (by omega) (by omega)]; exact h1
  all_goals (rw [q _ (by omega) (by omega)]; assumption)
theorem cX.sights {h h' : aH} {x : vX} {sg : vF × vF × vF × Int32} (hc : cX h x) (ho : oSights h' sg) (q : ∀ k, k < 29 ∨ 32 < k → hg h' k = hg h k) : cX h' (x.1, x.2.1, x.2.2.1, x.2.2.2.1, x.2.2.2.2.1, x.2.2.2.2.2.1, sg, x.2.2.2.2.2.2.2) := by
  obtain ⟨h1, h2, ⟨t, h3⟩, h4, ⟨s, h5⟩, ⟨h6, h7⟩, ⟨⟨h8, h9⟩, h10⟩, h11, ⟨c1, c2, c3, c4, h12, h13⟩, ⟨i1, t1, f1, h14, h15⟩, ⟨f2, g2, h16, h17⟩, -, h22, h23⟩ := hc
  refine ⟨?_, h2.kept (fun k _ _ => q k (by omega)), ⟨t, h3.kept (fun k _ _ => q k (by omega))⟩, h4.kept (fun k _ _ => q k (by omega)), ⟨s, h5.kept (fun k _ _ => q k (by omega))⟩, ⟨?_, fun i hi => (h7 i hi).kept (fun k _ _ => q k (by omega))⟩, ⟨⟨?_, fun i hi => (h9 i hi).kept (fun k _ _ => q k (by omega))⟩, ?_⟩, ?_, ⟨c1, c2, c3, c4, ?_, ?_⟩, ⟨i1, t1, f1, ?_, ?_⟩, ⟨f2, g2, ?_, ?_⟩, ho, ?_, fun i hi => (h23 i hi).kept (fun k _ _ => q k (by omega))⟩
  · unfold oHt; rw [q _ (by omega)]; exact h1
  all_goals (rw [q _ (by omega)]; assumption)
theorem cX.ht {h : aH} {x : vX} (hc : cX h x) : hg h 0 = .inr (6, [.ref 1, .ref 7, .ref 13, .ref 16, .ref 19, .int x.2.2.1.1, .ref 20, .ref 21, .ref 22, .ref 23, .ref 25, .ref 27, .ref 28, .ref 29, .ref 33]) := hc.1
theorem ok_erase : CallOK m_Ht_erase m_Mod_erase 0 := by
  refine callOK_of ?_
  intro X d h av x y hl ha hx hy hr
  cases av with
  | cons v l => cases hl
  | nil =>
  have h0 := hx.ht
  obtain ⟨c1, c2, c3, c4, hT, hT2⟩ := hx.2.2.2.2.2.2.2.2.1
  refine ⟨x.2.2.2.2.2.1.2, hs h 23 (.inr (4, [.ref 24, .int 0, .int c1, .int c2, .int c3, .int c4])), (x.1, x.2.1, x.2.2.1, x.2.2.2.1, x.2.2.2.2.1, (x.2.2.2.2.2.1.1, 0), x.2.2.2.2.2.2.1, x.2.2.2.2.2.2.2), (y.1, (y.2.1.1, 0), y.2.2), ?_, frX.put (by omega), hx.text ⟨c1, c2, c3, c4, hg_hs_self _ _ _, by rw [hg_hs_ne _ _ (by omega)]; exact hT2⟩ (fun k h1 h2 => hg_hs_ne _ _ h1), ?_, ?_⟩
  · refine ev_in mL_Ht_erase rfl (Nat.le_of_ble_eq_true rfl) rfl ?_
    show aRun _ _ _ _ 0 [.ref 0, jkV] [] h
    simp only [x_Ht_erase_0, x_Ht_erase_1, x_Ht_erase_4, x_Ht_erase_8, x_Ht_erase_9, x_Ht_erase_12, x_Ht_erase_13, x_Ht_erase_16, x_Ht_erase_17, x_Ht_erase_7j, x_Ht_erase_7i, h0, hT, gF_6_9, gF_4_1, pF_4_1, isd_jk, eq_self]
  · obtain ⟨nh, nt, u, ln, sm, hb, a1, a2, a3, a4, a5, a6, a7, a8⟩ := hr
    exact ⟨nh, nt, u, 0, sm, ⟨hb.1, hb.2.1, hb.2.2.1, by omega, hb.2.2.2.2⟩, a1, a2, a3, a4, a5, ⟨rfl, rfl, fun i hi => absurd hi (Nat.not_lt_zero i)⟩, a7, a8⟩
  · intro g hy
    obtain ⟨⟨a, b, c, d9, e, f, hm⟩, hy2⟩ := hy
    unfold oMod at hm
    have hlen : y.2.1.2 = x.2.2.2.2.2.1.2 := by
      obtain ⟨nh, nt, u, ln, sm, hb, a1, a2, a3, a4, a5, a6, a7, a8⟩ := hr
      rw [a6.1, a6.2.1]
    refine ⟨hs g 73 (.inr (7, [.ref 74, .int y.1.2.1, .ref 75, .ref 76, .int 0, .int y.2.2.1.1, .ref 77, .ref 78, .ref 79, .ref 80, .ref 81, .ref 82, .ref 83, .int a, .int b, .int c, .int d9, .int e, .int f, .ref 84, .ref 85, .ref 86, .ref 87, .ref 88, .ref 89, .ref 90, .ref 91, .ref 92, .ref 93, .ref 94])), ?_, frY.put (by omega), ?_⟩
    · refine ev_in mL_Mod_erase rfl (Nat.le_of_ble_eq_true rfl) rfl ?_
      show aRun _ _ _ _ 0 [.ref 73, jkV] [] g
      simp only [x_Mod_erase_0, x_Mod_erase_1, x_Mod_erase_5, x_Mod_erase_6, x_Mod_erase_7, x_Mod_erase_10, x_Mod_erase_11, x_Mod_erase_4j, x_Mod_erase_4i, hm, gF_7_4, pF_7_4, isd_jk, eq_self, hlen]
    · sorry
