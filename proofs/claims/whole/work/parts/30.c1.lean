/-! ===== calls: write, erase, seen, forget ===== -/
theorem cX.ht {h : aH} {x : vX} (hc : cX h x) : hg h 0 = .inr (6, [.ref 1, .ref 7, .ref 13, .ref 16, .ref 19, .int x.2.2.1.1, .ref 20, .ref 21, .ref 22, .ref 23, .ref 25, .ref 27, .ref 28, .ref 29, .ref 33]) := hc.1
theorem Rel.pi {x : vX} {y : vY} (hr : Rel x y) : ∀ i, i < 8 → x.2.2.1.2.1 i < 8 := by
  obtain ⟨_, _, _, _, _, -, -, -, ⟨-, -, q, -⟩, -⟩ := hr
  exact q
/-- the class's cells, the text's anew -/
theorem cX.u_text {h h' : aH} {x : vX} {lt : vF} {ln : Int32} (hc : cX h x) (hpi : ∀ i, i < 8 → x.2.2.1.2.1 i < 8) (ho : oText h' lt ln) (q : ∀ k, k < 23 ∨ 24 < k → hg h' k = hg h k) : cX h' (x.1, x.2.1, x.2.2.1, x.2.2.2.1, x.2.2.2.2.1, (lt, ln), x.2.2.2.2.2.2.1, x.2.2.2.2.2.2.2) := by
  obtain ⟨h1, h2, h3, h4, h5, h6, h7, h8, h9, h10, h11, h12, h13⟩ := cX_un hc
  exact cX_mk (h1.kept (q _ (by omega))) (h2.kept (fun k _ _ => q k (by omega))) (exT.kept h3 (fun k _ _ => q k (by omega))) (h4.kept (fun k _ _ => q k (by omega))) (exS.kept h5 (fun k _ _ => q k (by omega))) (h6.kept hpi (q _ (by omega)) (fun k _ _ => q k (by omega))) (h7.kept (q _ (by omega)) (q _ (by omega)) (fun k _ _ => q k (by omega))) (h8.kept (q _ (by omega))) ho (h10.kept (q _ (by omega)) (q _ (by omega))) (h11.kept (q _ (by omega)) (q _ (by omega))) (h12.kept (fun k _ _ => q k (by omega))) (h13.kept (q _ (by omega)) (fun k _ _ => q k (by omega)))
theorem cX.u_sights {h h' : aH} {x : vX} {sg : vF × vF × vF × Int32} (hc : cX h x) (hpi : ∀ i, i < 8 → x.2.2.1.2.1 i < 8) (ho : oSights h' sg) (q : ∀ k, k < 29 ∨ 32 < k → hg h' k = hg h k) : cX h' (x.1, x.2.1, x.2.2.1, x.2.2.2.1, x.2.2.2.2.1, x.2.2.2.2.2.1, sg, x.2.2.2.2.2.2.2) := by
  obtain ⟨h1, h2, h3, h4, h5, h6, h7, h8, h9, h10, h11, h12, h13⟩ := cX_un hc
  exact cX_mk (h1.kept (q _ (by omega))) (h2.kept (fun k _ _ => q k (by omega))) (exT.kept h3 (fun k _ _ => q k (by omega))) (h4.kept (fun k _ _ => q k (by omega))) (exS.kept h5 (fun k _ _ => q k (by omega))) (h6.kept hpi (q _ (by omega)) (fun k _ _ => q k (by omega))) (h7.kept (q _ (by omega)) (q _ (by omega)) (fun k _ _ => q k (by omega))) (h8.kept (q _ (by omega))) (h9.kept (q _ (by omega)) (q _ (by omega))) (h10.kept (q _ (by omega)) (q _ (by omega))) (h11.kept (q _ (by omega)) (q _ (by omega))) ho (h13.kept (q _ (by omega)) (fun k _ _ => q k (by omega)))
/-- a call that changes nothing -/
theorem callOK_same {Mx My : Nat} {X : aX} {d : Nat} {h : aH} {av : List Value} {x : vX} {y : vY} {r : Int32} (hx : cX h x) (hr : Rel x y) (e1 : aEv X (d + 40) Mx (.ref 0 :: av) h (some (.int r)) h) (e2 : ∀ g, cY g y → aEv X (d + 40) My (.ref 73 :: av) g (some (.int r)) g) : ∃ (r : Int32) (h1 : aH) (x' : vX) (y' : vY), aEv X (d + 40) Mx (.ref 0 :: av) h (some (.int r)) h1 ∧ frX h h1 ∧ cX h1 x' ∧ Rel x' y' ∧ ∀ g, cY g y → ∃ g', aEv X (d + 40) My (.ref 73 :: av) g (some (.int r)) g' ∧ frY g g' ∧ cY g' y' :=
  ⟨r, h, x, y, e1, frX.rf, hx, hr, fun g hg9 => ⟨g, e2 g hg9, frY.rf, hg9⟩⟩
theorem av0 {av : List Value} (hl : av.length = 0) : av = [] := List.length_eq_zero_iff.mp hl
theorem av1 {av : List Value} (hl : av.length = 1) (ha : ∀ v ∈ av, ∃ a : Int32, v = .int a) : ∃ a : Int32, av = [.int a] := by
  match av, hl with
  | [v], _ =>
    obtain ⟨a, rfl⟩ := ha v List.mem_cons_self
    exact ⟨a, rfl⟩
theorem av2 {av : List Value} (hl : av.length = 2) (ha : ∀ v ∈ av, ∃ a : Int32, v = .int a) : ∃ a b : Int32, av = [.int a, .int b] := by
  match av, hl with
  | [v, w], _ =>
    obtain ⟨a, rfl⟩ := ha v List.mem_cons_self
    obtain ⟨b, rfl⟩ := ha w (List.mem_cons_of_mem _ List.mem_cons_self)
    exact ⟨a, b, rfl⟩
theorem av3 {av : List Value} (hl : av.length = 3) (ha : ∀ v ∈ av, ∃ a : Int32, v = .int a) : ∃ a b c : Int32, av = [.int a, .int b, .int c] := by
  match av, hl with
  | [v, w, z], _ =>
    obtain ⟨a, rfl⟩ := ha v List.mem_cons_self
    obtain ⟨b, rfl⟩ := ha w (List.mem_cons_of_mem _ List.mem_cons_self)
    obtain ⟨c, rfl⟩ := ha z (List.mem_cons_of_mem _ (List.mem_cons_of_mem _ List.mem_cons_self))
    exact ⟨a, b, c, rfl⟩
theorem av4 {av : List Value} (hl : av.length = 4) (ha : ∀ v ∈ av, ∃ a : Int32, v = .int a) : ∃ a b c d : Int32, av = [.int a, .int b, .int c, .int d] := by
  match av, hl with
  | [v, w, z, q], _ =>
    obtain ⟨a, rfl⟩ := ha v List.mem_cons_self
    obtain ⟨b, rfl⟩ := ha w (List.mem_cons_of_mem _ List.mem_cons_self)
    obtain ⟨c, rfl⟩ := ha z (List.mem_cons_of_mem _ (List.mem_cons_of_mem _ List.mem_cons_self))
    obtain ⟨d, rfl⟩ := ha q (List.mem_cons_of_mem _ (List.mem_cons_of_mem _ (List.mem_cons_of_mem _ List.mem_cons_self)))
    exact ⟨a, b, c, d, rfl⟩
theorem ok_erase : CallOK m_Ht_erase m_Mod_erase 0 := by
  refine callOK_of ?_
  intro X d h av x y hl ha hx hy hr
  obtain rfl := av0 hl
  have h0 := hx.ht
  obtain ⟨c1, c2, c3, c4, hT, hT2⟩ := hx.2.2.2.2.2.2.2.2.1
  refine ⟨x.2.2.2.2.2.1.2, hs h 23 (.inr (4, [.ref 24, .int 0, .int c1, .int c2, .int c3, .int c4])), _, (y.1, (y.2.1.1, 0), y.2.2), ?_, frX.put (by omega), hx.u_text hr.pi ⟨c1, c2, c3, c4, hg_hs_self _ _ _, by rw [hg_hs_ne _ _ (by omega)]; exact hT2⟩ (fun k h1 => hg_hs_ne _ _ (by omega)), ?_, ?_⟩
  · refine ev_in mL_Ht_erase rfl (Nat.le_of_ble_eq_true rfl) rfl ?_
    show aRun _ _ _ _ 0 [.ref 0, jkV] [] h
    simp only [x_Ht_erase_0, x_Ht_erase_1, x_Ht_erase_4, x_Ht_erase_8, x_Ht_erase_9, x_Ht_erase_12, x_Ht_erase_13, x_Ht_erase_16, x_Ht_erase_17, x_Ht_erase_7j, x_Ht_erase_7i, h0, hT, gF_6_9, gF_4_1, pF_4_1]
  · obtain ⟨nh, nt, u, ln, sm, hb, a1, a2, a3, a4, a5, a6, a7, a8⟩ := hr
    exact ⟨nh, nt, u, 0, sm, ⟨hb.1, hb.2.1, hb.2.2.1, by omega, hb.2.2.2.2⟩, a1, a2, a3, a4, a5, ⟨rfl, rfl, fun i hi => absurd hi (Nat.not_lt_zero i)⟩, a7, a8⟩
  · intro g hy
    obtain ⟨a, b, c, d9, e, f, hm, hy2⟩ := cY_un hy
    have hlen : y.2.1.2 = x.2.2.2.2.2.1.2 := by
      obtain ⟨nh, nt, u, ln, sm, hb, a1, a2, a3, a4, a5, a6, a7, a8⟩ := hr
      rw [a6.1, a6.2.1]
    refine ⟨hs g 73 (mObj y.1.2.1 0 y.2.2.1.1 a b c d9 e f), ?_, frY.put (by omega), cY_mk (hg_hs_self _ _ _) hy2.obj⟩
    refine ev_in mL_Mod_erase rfl (Nat.le_of_ble_eq_true rfl) rfl ?_
    show aRun _ _ _ _ 0 [.ref 73, jkV] [] g
    simp only [x_Mod_erase_0, x_Mod_erase_1, x_Mod_erase_5, x_Mod_erase_6, x_Mod_erase_7, x_Mod_erase_10, x_Mod_erase_11, x_Mod_erase_4j, x_Mod_erase_4i, hm, gF_7_4, pF_7_4, hlen]
theorem ok_forget : CallOK m_Ht_forget m_Mod_forget 0 := by
  refine callOK_of ?_
  intro X d h av x y hl ha hx hy hr
  obtain rfl := av0 hl
  have h0 := hx.ht
  obtain ⟨g1, g2, g3, g4⟩ := hx.2.2.2.2.2.2.2.2.2.2.2.1
  refine ⟨x.2.2.2.2.2.2.1.2.2.2, hs h 29 (.inr (2, [.ref 30, .ref 31, .ref 32, .int 0])), _, (y.1, y.2.1, (0, y.2.2.1.2), y.2.2.2), ?_, frX.put (by omega), hx.u_sights (sg := (x.2.2.2.2.2.2.1.1, x.2.2.2.2.2.2.1.2.1, x.2.2.2.2.2.2.1.2.2.1, 0)) hr.pi ⟨hg_hs_self _ _ _, by rw [hg_hs_ne _ _ (by omega)]; exact g2, by rw [hg_hs_ne _ _ (by omega)]; exact g3, by rw [hg_hs_ne _ _ (by omega)]; exact g4⟩ (fun k h1 => hg_hs_ne _ _ (by omega)), ?_, ?_⟩
  · refine ev_in mL_Ht_forget rfl (Nat.le_of_ble_eq_true rfl) rfl ?_
    show aRun _ _ _ _ 0 [.ref 0, jkV] [] h
    simp only [x_Ht_forget_0, x_Ht_forget_1, x_Ht_forget_4, x_Ht_forget_8, x_Ht_forget_9, x_Ht_forget_12, x_Ht_forget_13, x_Ht_forget_16, x_Ht_forget_17, x_Ht_forget_7j, x_Ht_forget_7i, h0, g1, gF_6_13, gF_2_3, pF_2_3]
  · obtain ⟨nh, nt, u, ln, sm, hb, a1, a2, a3, a4, a5, a6, a7, a8⟩ := hr
    exact ⟨nh, nt, u, ln, 0, ⟨hb.1, hb.2.1, hb.2.2.1, hb.2.2.2.1, by omega⟩, a1, a2, a3, a4, a5, a6, ⟨rfl, rfl, fun i hi => absurd hi (Nat.not_lt_zero i)⟩, a8⟩
  · intro g hy
    obtain ⟨a, b, c, d9, e, f, hm, hy2⟩ := cY_un hy
    have hlen : y.2.2.1.1 = x.2.2.2.2.2.2.1.2.2.2 := by
      obtain ⟨nh, nt, u, ln, sm, hb, a1, a2, a3, a4, a5, a6, a7, a8⟩ := hr
      rw [a7.1, a7.2.1]
    refine ⟨hs g 73 (mObj y.1.2.1 y.2.1.2 0 a b c d9 e f), ?_, frY.put (by omega), cY_mk (hg_hs_self _ _ _) hy2.obj⟩
    refine ev_in mL_Mod_forget rfl (Nat.le_of_ble_eq_true rfl) rfl ?_
    show aRun _ _ _ _ 0 [.ref 73, jkV] [] g
    simp only [x_Mod_forget_0, x_Mod_forget_1, x_Mod_forget_5, x_Mod_forget_6, x_Mod_forget_7, x_Mod_forget_10, x_Mod_forget_11, x_Mod_forget_4j, x_Mod_forget_4i, hm, gF_7_5, pF_7_5, hlen]
