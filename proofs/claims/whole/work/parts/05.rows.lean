/-! ===== what the tables say of links, classes, methods ===== -/
theorem find_ok {α : Type} {l : List α} {p q : α → Bool} (hq : l.all q = true) {e : α} (h : l.find? p = some e) : e ∈ l ∧ p e = true ∧ q e = true :=
  ⟨List.mem_of_find?_eq_some h, List.find?_some h, List.all_eq_true.mp hq e (List.mem_of_find?_eq_some h)⟩
theorem fF_ok {k idx ci f : Nat} {nest : Bool} (h : fF k idx = some (ci, f, nest)) : f < fN ci ∧ (if nest then Cond.fieldLinkNest (cn k) idx (fT ci f).1 (fT ci f).2.1 (fT ci f).2.2.1 "HookTies" ∈ nwl else Cond.fieldLink (cn k) idx (fT ci f).1 (fT ci f).2.1 (fT ci f).2.2.1 ∈ gtbl) := by
  unfold fF at h
  cases hf : lkF.find? (fun e => e.1 == k && e.2.1 == idx) with
  | none => rw [hf] at h; cases h
  | some e =>
    rw [hf] at h
    obtain ⟨-, h2, h3⟩ := find_ok lkF_chk hf
    obtain ⟨a, b, c, d, e', g⟩ := e
    simp only [Bool.and_eq_true, beq_iff_eq] at h2
    obtain ⟨rfl, rfl⟩ := h2
    simp only [Option.map_some, Option.some.injEq, Prod.mk.injEq] at h
    obtain ⟨rfl, rfl, rfl⟩ := h
    simp only [lkFc, Bool.and_eq_true, decide_eq_true_eq] at h3
    refine ⟨h3.2, ?_⟩
    cases e' with
    | true =>
      have h4 := h3.1
      simp only [if_true, decide_eq_true_eq] at h4 ⊢
      exact List.mem_filter.mpr ⟨List.mem_of_getElem? h4, rfl⟩
    | false =>
      have h4 := h3.1
      simp only [Bool.false_eq_true, if_false, decide_eq_true_eq] at h4 ⊢
      exact gtbl_mk _ h4 rfl
theorem fS_ok {k idx f : Nat} (h : fS k idx = some f) : f < 2 ∧ Cond.fieldLink (cn k) idx "java/lang/String" (sfN f).1 (sfN f).2 ∈ gtbl := by
  unfold fS at h
  cases hf : lkS.find? (fun e => e.1 == k && e.2.1 == idx) with
  | none => rw [hf] at h; cases h
  | some e =>
    rw [hf] at h
    obtain ⟨-, h2, h3⟩ := find_ok lkS_chk hf
    obtain ⟨a, b, c, d⟩ := e
    simp only [Bool.and_eq_true, beq_iff_eq] at h2
    obtain ⟨rfl, rfl⟩ := h2
    simp only [Option.map_some, Option.some.injEq] at h
    subst h
    simp only [lkSc, Bool.and_eq_true, decide_eq_true_eq] at h3
    exact ⟨h3.2, gtbl_mk _ h3.1 rfl⟩
theorem fG_ok {k idx f : Nat} (h : fG k idx = some f) : f < sgT.length ∧ Cond.fieldLink (cn k) idx (sgE f).1 (sgE f).2.1 (sgE f).2.2.1 ∈ gtbl := by
  unfold fG at h
  cases hf : lkG.find? (fun e => e.1 == k && e.2.1 == idx) with
  | none => rw [hf] at h; cases h
  | some e =>
    rw [hf] at h
    obtain ⟨-, h2, h3⟩ := find_ok lkG_chk hf
    obtain ⟨a, b, c, d⟩ := e
    simp only [Bool.and_eq_true, beq_iff_eq] at h2
    obtain ⟨rfl, rfl⟩ := h2
    simp only [Option.map_some, Option.some.injEq] at h
    subst h
    simp only [lkGc, Bool.and_eq_true, decide_eq_true_eq] at h3
    exact ⟨h3.2, gtbl_mk _ h3.1 rfl⟩
theorem fC_ok {k idx : Nat} {v : Int32} (h : fC k idx = some v) : Cond.constant (cn k) idx v ∈ gtbl := by
  unfold fC at h
  cases hf : lkC.find? (fun e => e.1 == k && e.2.1 == idx) with
  | none => rw [hf] at h; cases h
  | some e =>
    rw [hf] at h
    obtain ⟨-, h2, h3⟩ := find_ok lkC_chk hf
    obtain ⟨a, b, c, d⟩ := e
    simp only [Bool.and_eq_true, beq_iff_eq] at h2
    obtain ⟨rfl, rfl⟩ := h2
    simp only [Option.map_some, Option.some.injEq] at h
    subst h
    simp only [lkCc, decide_eq_true_eq] at h3
    exact gtbl_mk _ h3 rfl
theorem fC2_ok {k idx : Nat} {v : Int64} (h : fC2 k idx = some v) : Cond.constantLong (cn k) idx v ∈ gtbl := by
  unfold fC2 at h
  cases hf : lkC2.find? (fun e => e.1 == k && e.2.1 == idx) with
  | none => rw [hf] at h; cases h
  | some e =>
    rw [hf] at h
    obtain ⟨-, h2, h3⟩ := find_ok lkC2_chk hf
    obtain ⟨a, b, c, d⟩ := e
    simp only [Bool.and_eq_true, beq_iff_eq] at h2
    obtain ⟨rfl, rfl⟩ := h2
    simp only [Option.map_some, Option.some.injEq] at h
    subst h
    simp only [lkC2c, decide_eq_true_eq] at h3
    exact gtbl_mk _ h3 rfl
theorem fN1_ok {k idx ci : Nat} (h : fN1 k idx = some ci) : ci < 8 ∧ Cond.classLink (cn k) idx (cn ci) ∈ gtbl ∧ Cond.instantiable (cn ci) (fN ci) ∈ gtbl ∧ Cond.initialized (cn ci) ∈ gtbl := by
  unfold fN1 at h
  cases hf : lkN.find? (fun e => e.1 == k && e.2.1 == idx) with
  | none => rw [hf] at h; cases h
  | some e =>
    rw [hf] at h
    obtain ⟨-, h2, h3⟩ := find_ok lkN_chk hf
    obtain ⟨a, b, c, d, e', g⟩ := e
    simp only [Bool.and_eq_true, beq_iff_eq] at h2
    obtain ⟨rfl, rfl⟩ := h2
    simp only [Option.map_some, Option.some.injEq] at h
    subst h
    simp only [lkNc, Bool.and_eq_true, decide_eq_true_eq] at h3
    exact ⟨h3.2, gtbl_mk _ h3.1.1.1 rfl, gtbl_mk _ h3.1.1.2 rfl, gtbl_mk _ h3.1.2 rfl⟩
theorem fT1_ok {k idx q : Nat} (h : fT1 k idx = some q) : q < 8 ∧ ∃ e, lkT[q]? = some e ∧ e.1 = k ∧ e.2.1 = idx := by
  unfold fT1 at h
  obtain ⟨h1, h2, -⟩ := List.findIdx?_eq_some_iff_getElem.mp h
  simp only [Bool.and_eq_true, beq_iff_eq] at h2
  exact ⟨h1, lkT[q], List.getElem?_eq_getElem h1, h2.1, h2.2⟩
theorem cls_ok : ∀ (ci : Nat) (r : vw_C), cls[ci]? = some r → ci < 8 ∧ r.1 = cn ci ∧ r.2.1 = fT ci ∧ r.2.2 = fN ci ∧ (∀ k, k < r.2.2 → parseFieldDescriptor (r.2.1 k).2.2.1 = some (fty ci k)) ∧ (∀ a, a < r.2.2 → ∀ b, b < r.2.2 → a ≠ b → (r.2.1 a).2.1 ≠ (r.2.1 b).2.1) ∧ (∀ k, k < r.2.2 → (r.2.1 k).1 = r.1) := by
  intro ci r h
  match ci, h with
  | 0, h => cases h; exact ⟨by decide, by decide, rfl, rfl, tyX0_ok, nmX0, by decide⟩
  | 1, h => cases h; exact ⟨by decide, by decide, rfl, rfl, tyX1_ok, nmX1, by decide⟩
  | 2, h => cases h; exact ⟨by decide, by decide, rfl, rfl, tyX2_ok, nmX2, by decide⟩
  | 3, h => cases h; exact ⟨by decide, by decide, rfl, rfl, tyX3_ok, nmX3, by decide⟩
  | 4, h => cases h; exact ⟨by decide, by decide, rfl, rfl, tyX4_ok, nmX4, by decide⟩
  | 5, h => cases h; exact ⟨by decide, by decide, rfl, rfl, tyX5_ok, nmX5, by decide⟩
  | 6, h => cases h; exact ⟨by decide, by decide, rfl, rfl, tyX6_ok, nmX6, by decide⟩
  | 7, h => cases h; exact ⟨by decide, by decide, rfl, rfl, tyX7_ok, nmX7, by decide +kernel⟩
  | n + 8, h => simp [cls] at h
theorem lay_dec : (cls.all fun r => (u_ws r.1 r.2.1 r.2.2).all fun w => decide (w ∈ gtbl)) = true := by decide +kernel
theorem cls_lay {ci : Nat} {r : vw_C} (h : cls[ci]? = some r) : ∀ w ∈ u_ws r.1 r.2.1 r.2.2, w ∈ gtbl := by
  intro w hw
  have h1 := List.all_eq_true.mp lay_dec r (List.mem_of_getElem? h)
  have h2 := List.all_eq_true.mp h1 w hw
  simpa using h2
theorem cls_of {ci : Nat} (h : ci < 8) : ∃ r, cls[ci]? = some r := ⟨cls[ci]'h, List.getElem?_eq_getElem h⟩
theorem fN_pos {ci f : Nat} (h : f < fN ci) : ∃ r, cls[ci]? = some r := by
  unfold fN at h
  cases hc : cls[ci]? with
  | none => rw [hc] at h; exact absurd h (Nat.not_lt_zero _)
  | some r => exact ⟨r, rfl⟩
theorem okf_ok {t : FieldType} {v : Value} {b0 : Nat} {kv : UInt32 → Value} (h : okf t v = true) : narrow t (cv b0 kv v) = cv b0 kv v ∧ fits t (cv b0 kv v) = true := by
  cases v with
  | int a =>
    cases t with
    | int => exact ⟨rfl, rfl⟩
    | boolean =>
      simp only [okf, decide_eq_true_eq] at h
      rcases h with rfl | rfl
      · exact ⟨(by decide : narrow .boolean (.int 0) = .int 0), (by decide : fits .boolean (.int 0) = true)⟩
      · exact ⟨(by decide : narrow .boolean (.int 1) = .int 1), (by decide : fits .boolean (.int 1) = true)⟩
    | _ => simp [okf] at h
  | ref a =>
    cases t with
    | array t => exact ⟨rfl, rfl⟩
    | object n => exact ⟨rfl, rfl⟩
    | _ => simp [okf] at h
  | _ => simp [okf] at h
theorem tyK_get {ac : FieldType → ClassId} {t : FieldType} (h : t ∈ tyL) : ∃ t0 : Nat, (tyK ac)[t0]? = some (ac t, t) := by
  obtain ⟨i, hi⟩ := List.getElem?_of_mem h
  exact ⟨i, by rw [tyK, List.getElem?_map, hi]; rfl⟩
theorem mt_ok {M : Nat} (h : M < 195) : mtChk M = true := List.all_eq_true.mp mt_chk M (List.mem_range.mpr h)
/-! ===== the context of a method's walk ===== -/
def SC (p : Program) (s : State) (m : MethodId) (args : Array Value) (meth : Method) (c : Code) (X : aX) (D : va_G) (ac : FieldType → ClassId) (b0 : Nat) (kv : UInt32 → Value) (M : Nat) : Prop :=
  p.tables.exec = Jvm.exec ∧ c.code = mC M ∧ meth.sig.returnType = mR M ∧ c.maxLocals = mL M ∧ s.vm.findClass (cn (mK M)) = some m.cls ∧ (∀ w ∈ gtbl, w.before args s = true) ∧ meth.locks = false ∧ (mS M = 2 → meth.name = (mY M).name) ∧ EV X D ac b0 kv s
section Rows
variable {p : Program} {l : Launch} {e : Env} {R : Room} {s : State} {m : MethodId} {args : Array Value} {below : List Frame} {meth : Method} {c : Code} {H : Heap} {locs : List Loc} {cells slots : Nat} {Q : State → Prop}
variable {X : aX} {D : va_G} {ac : FieldType → ClassId} {b0 : Nat} {kv : UInt32 → Value} {M pc : Nat} {ls : Array Slot} {rest : List Value} {h : aH}
theorem HR_put {H1 : Heap} (hR : HR D ac b0 kv h H) {k : Nat} {e1 : aE} (hk : k < hn h) (hty : tyOk e1) (he : va_at D cls (b0 + k, cE ac b0 kv e1) H1) (z : H1.size = H.size) (oq : ∀ q : Nat, q ≠ b0 + k → H1[q]? = H[q]?) : HR D ac b0 kv (hs h k e1) H1 :=
  HR_hs hR hk hty (hR.2.1.set (cW_D h) (cW_get hk) he oq) z
theorem Rget (C0 : SC p s m args meth c X D ac b0 kv M) {idx ci f k : Nat} {nest : Bool} {fs : List Value} {v : Value} (hf : fF (mK M) idx = some (ci, f, nest)) (hR : HR D ac b0 kv h H) (hk : hg h k = .inr (ci, fs)) (hv : fs[f]? = some v) (hd : decode (mC M) pc = .ok (.getfield idx, 3))
    (kk : W p l e R s m args below meth c H locs cells slots Q (F0 m (pc + 3) ls (cv b0 kv v :: rest))) : W p l e R s m args below meth c H locs cells slots Q (F0 m pc ls (.ref (b0 + k) :: rest)) := by
  obtain ⟨hx, hb, hr, hml, hown, hts, hlo, hnm, hE⟩ := C0
  obtain ⟨hfl, hw⟩ := fF_ok hf
  obtain ⟨r, hc⟩ := fN_pos hfl
  obtain ⟨-, g1, g2, g3, -⟩ := cls_ok ci r hc
  obtain ⟨C, T, N⟩ := r
  dsimp only at g1 g2 g3
  subst g2; subst g3
  have hne : (Sum.inr (ci, fs) : aE) ≠ aJ := by
    intro q
    cases q
    simp at hv
  obtain ⟨hlt, hget⟩ := HR_get hR hk hne
  have hv2 : (fs.map (cv b0 kv))[f]? = some (cv b0 kv v) := by rw [List.getElem?_map, hv]; rfl
  cases nest with
  | true => exact va_getN (C := C) (T := fT ci) (N := fN ci) (ref := (fT ci f).1) hx hb hts (cls_lay hc) hown hE.2.1 hR.2.1 k hget hc f hfl (va_Nw.use rfl (hE.2.2.2.1 _ hw)) (fun _ q => q) hv2 hd kk
  | false => exact va_get (C := C) (T := fT ci) (N := fN ci) (ref := (fT ci f).1) hx hb hts (cls_lay hc) hown hE.2.1 hR.2.1 k hget hc f hfl (hts _ hw) (fun _ q => q) hv2 hd kk
theorem Rput (C0 : SC p s m args meth c X D ac b0 kv M) {idx ci f k : Nat} {nest : Bool} {fs : List Value} {v : Value} (hf : fF (mK M) idx = some (ci, f, nest)) (hok : okf (fty ci f) v = true) (hfin : (fT ci f).2.2.2 = false ∨ (nest = false ∧ mS M = 2 ∧ mK M = ci)) (hR : HR D ac b0 kv h H) (hS : va_S (fun q => b0 ≤ q) s.heap H locs) (hk : hg h k = .inr (ci, fs)) (hl : f < fs.length) (hd : decode (mC M) pc = .ok (.putfield idx, 3))
    (kk : ∀ (H1 : Heap) (locs1 : List Loc), HR D ac b0 kv (hs h k (.inr (ci, fs.set f v))) H1 → va_S (fun q => b0 ≤ q) s.heap H1 locs1 → W p l e R s m args below meth c H1 locs1 cells slots Q (F0 m (pc + 3) ls rest)) : W p l e R s m args below meth c H locs cells slots Q (F0 m pc ls (cv b0 kv v :: .ref (b0 + k) :: rest)) := by
  obtain ⟨hx, hb, hr, hml, hown, hts, hlo, hnm, hE⟩ := C0
  obtain ⟨hfl, hw⟩ := fF_ok hf
  obtain ⟨r, hc⟩ := fN_pos hfl
  obtain ⟨hci, g1, g2, g3, g4, g5, g6⟩ := cls_ok ci r hc
  obtain ⟨C, T, N⟩ := r
  dsimp only at g1 g2 g3 g4 g5 g6
  subst g2; subst g3
  have hne : (Sum.inr (ci, fs) : aE) ≠ aJ := by
    intro q
    cases q
    exact absurd hl (Nat.not_lt_zero _)
  obtain ⟨hlt, hget⟩ := HR_get hR hk hne
  have hK := hE.2.1
  have hap := va_apart (own := cn (mK M)) hts (cls_lay hc) (fty ci) g4 g5 hK hc
  obtain ⟨r2, h1, cell, q1, q2, q3, q4⟩ := hR.2.1 k _ hget
  have hr2 : r2 = (C, fT ci, fN ci) := Option.some.inj (h1.symm.trans hc)
  subst hr2
  obtain ⟨hSl, hfc, kC, hkC, hkind⟩ := hK.1 ci _ hc
  obtain ⟨cf, kf, fi, fd, hi, hsl⟩ := hSl f hfl
  have hlay := hts _ (cls_lay hc _ (u_in_lay hfl))
  have hst := (u_facts hfc hkC (u_lays hts (cls_lay hc) hfl) hi).1
  obtain ⟨hn, hfit⟩ := okf_ok (b0 := b0) (kv := kv) hok
  have hlt2 : f < (fs.map (cv b0 kv)).length := by rw [List.length_map]; exact hl
  have fin : ∀ H1 : Heap, H1[b0 + k]? = some (cell.setSlot fd.slot (cv b0 kv v)) → H1.size = H.size → (∀ q : Nat, q ≠ b0 + k → H1[q]? = H[q]?) → W p l e R s m args below meth c H1 (locs ++ [⟨b0 + k, fd.slot⟩]) cells slots Q (F0 m (pc + 3) ls rest) := by
    intro H1 e1 e2 e3
    refine kk H1 _ (HR_put hR hlt tyOk_r ?_ e2 e3) (hS.put e2 e3 (Nat.le_add_right _ _))
    refine ⟨_, hc, ?_⟩
    rw [List.map_set]
    rw [hsl] at e1
    exact t_OB.to (V := updV (vp_V (fs.map (cv b0 kv))) f (cv b0 kv v)) ⟨_, e1, q2, q3, t_set q4 hap hfl _⟩ (fun j _ => vp_updV_set hlt2 _ j)
  by_cases hF : (fT ci f).2.2.2 = false
  · unfold u_lay at hlay
    rw [if_neg (by rw [hF]; decide)] at hlay
    have h6 := u_store hfc hkC hkind hlay hi (g4 f hfl) hn hfit
    cases nest with
    | true => exact va_WputK hx hb (f := fd) hown (va_Nw.use rfl (hE.2.2.2.1 _ hw)) hi hst (by rw [q2]; exact h6) q1 q3 (by rw [hsl]; exact k2_hasslot (q4 f hfl)) rfl rfl hd fin
    | false => exact W.putK hx hb (f := fd) ⟨hown, hts _ hw, ⟨_, _, _, hi⟩, hst⟩ (by rw [q2]; exact h6) q1 q3 (by rw [hsl]; exact k2_hasslot (q4 f hfl)) rfl rfl hd fin
  · rcases hfin with hfin | ⟨hfin, hm2, hmk⟩
    · exact absurd hfin hF
    · subst hfin
      have hF' : (fT ci f).2.2.2 = true := by simpa using hF
      unfold u_lay at hlay
      rw [if_pos hF'] at hlay
      have hM : M < 195 := by
        rcases Nat.lt_or_ge M 195 with q | q
        · exact q
        · exfalso
          by_cases q2 : M = 195
          · subst q2; exact absurd hm2 (by decide)
          · have : mS M = 99 := by
              unfold mS
              rw [List.getD_eq_getElem?_getD, List.getElem?_eq_none (by show mtS.length ≤ M; have : mtS.length = 196 := (by decide +kernel); omega)]
              rfl
            rw [this] at hm2
            exact absurd hm2 (by decide)
      have hin : meth.name = "<init>" := by
        have hc2 := mt_ok hM
        simp only [mtChk, hm2, Bool.and_eq_true, decide_eq_true_eq] at hc2
        rw [hnm hm2]
        exact hc2.2.2
      have hcf : m.cls = cf := by
        obtain ⟨_, _, c', _, _, _, -, -, hf', -, -, -, hown2, -⟩ := Cond.laysFinal_spec hlay
        have e1 : c' = cf := by have := hi.symm.trans hf'; simp at this; exact this.1.symm
        rw [g6 f hfl, g1, ← hmk] at hown2
        rw [← e1]; exact Option.some.inj (hown.symm.trans hown2)
      have h6 := u_fits hfc hkC hkind (Or.inr hlay) hi (g4 f hfl) hn hfit
      exact W.putFinK hx hb hown (hts _ hw) hi hst hcf hin (by rw [q2]; exact h6) q1 q3 (by rw [hsl]; exact k2_hasslot (q4 f hfl)) rfl rfl hd fin
theorem Rast (C0 : SC p s m args meth c X D ac b0 kv M) {k n : Nat} {f : Nat → Int32} {t : FieldType} {op : Instr} (hop : (t = .int ∧ op = .iastore) ∨ (t = .boolean ∧ op = .bastore) ∨ (t = .char ∧ op = .castore)) (hR : HR D ac b0 kv h H) (hS : va_S (fun q => b0 ≤ q) s.heap H locs) (hk : hg h k = .inl (t, n, .inl f)) {i x : Int32} (hin : ¬ (i < 0 ∨ n ≤ i.toNatClampNeg)) (hd : decode (mC M) pc = .ok (op, 1))
    (kk : ∀ (H1 : Heap) (locs1 : List Loc), HR D ac b0 kv (hs h k (.inl (t, n, .inl (upd f i.toNatClampNeg (vp_nar t x))))) H1 → va_S (fun q => b0 ≤ q) s.heap H1 locs1 → W p l e R s m args below meth c H1 locs1 cells slots Q (F0 m (pc + 1) ls rest)) : W p l e R s m args below meth c H locs cells slots Q (F0 m pc ls (.int x :: .int i :: .ref (b0 + k) :: rest)) := by
  obtain ⟨hx, hb, hr, hml, hown, hts, hlo, hnm, hE⟩ := C0
  have hne : (Sum.inl (t, n, Sum.inl f) : aE) ≠ aJ := by intro q; cases q
  obtain ⟨hlt, hget⟩ := HR_get hR hk hne
  have hcell : H[b0 + k]? = some (vp_cell (ac t) (n, .inl f)) := hR.2.1 k _ hget
  have hin2 : ¬ (i < 0 ∨ (vp_cell (ac t) (n, .inl f)).slots.size ≤ i.toNatClampNeg) := by rw [vp_cell_i, arrV_size]; exact hin
  have fin : ∀ H1 : Heap, H1[b0 + k]? = some ((vp_cell (ac t) (n, .inl f)).setSlot i.toNatClampNeg (.int (vp_nar t x))) → H1.size = H.size → (∀ q : Nat, q ≠ b0 + k → H1[q]? = H[q]?) → W p l e R s m args below meth c H1 (locs ++ [⟨b0 + k, i.toNatClampNeg⟩]) cells slots Q (F0 m (pc + 1) ls rest) := by
    intro H1 e1 e2 e3
    refine kk H1 _ (HR_put hR hlt (tyOk_l (show t ∈ tyL by rcases hop with ⟨rfl, -⟩ | ⟨rfl, -⟩ | ⟨rfl, -⟩ <;> decide)) ?_ e2 e3) (hS.put e2 e3 (Nat.le_add_right _ _))
    show H1[b0 + k]? = some (vp_cell (ac t) (n, .inl (upd f i.toNatClampNeg (vp_nar t x))))
    rw [e1, vp_cell_i, vp_cell_i, arrV_store]
    congr 2
    funext q
    by_cases hq : q = i.toNatClampNeg
    · subst hq
      simp [updV, upd]
    · simp [updV, upd, hq]
  rcases hop with ⟨rfl, rfl⟩ | ⟨rfl, rfl⟩ | ⟨rfl, rfl⟩
  · obtain ⟨t0, ht⟩ := tyK_get (ac := ac) (t := .int) (by decide)
    exact W.iast hx hb hcell ((hE.2.1.2 t0 _ ht).1 n (fun j => .int (f j))) (fun q => by cases q) hin2 rfl rfl hd (fun H1 e1 e2 e3 => fin H1 (by rw [e1]; rfl) e2 e3)
  · obtain ⟨t0, ht⟩ := tyK_get (ac := ac) (t := .boolean) (by decide)
    exact W.zast hx hb hcell ((hE.2.1.2 t0 _ ht).1 n (fun j => .int (f j))) (fun q => by cases q) hin2 rfl rfl hd (fun H1 e1 e2 e3 => fin H1 (by rw [e1]; rfl) e2 e3)
  · obtain ⟨t0, ht⟩ := tyK_get (ac := ac) (t := .char) (by decide)
    exact W.cast hx hb hcell ((hE.2.1.2 t0 _ ht).1 n (fun j => .int (f j))) (fun q => by cases q) hin2 rfl rfl hd (fun H1 e1 e2 e3 => fin H1 (by rw [e1]; rfl) e2 e3)
theorem Raast (C0 : SC p s m args meth c X D ac b0 kv M) {k n v ci : Nat} {C : String} {g : Nat → Option Nat} {fs : List Value} (hC : C = cn ci) (hci : ci < 8) (hty : FieldType.object C ∈ tyL) (hR : HR D ac b0 kv h H) (hS : va_S (fun q => b0 ≤ q) s.heap H locs) (hk : hg h k = .inl (.object C, n, .inr g)) (hv : hg h v = .inr (ci, fs)) {i : Int32} (hin : ¬ (i < 0 ∨ n ≤ i.toNatClampNeg)) (hd : decode (mC M) pc = .ok (.aastore, 1))
    (kk : ∀ (H1 : Heap) (locs1 : List Loc), HR D ac b0 kv (hs h k (.inl (.object C, n, .inr (va_up g i.toNatClampNeg (some v))))) H1 → va_S (fun q => b0 ≤ q) s.heap H1 locs1 → W p l e R s m args below meth c H1 locs1 cells slots Q (F0 m (pc + 1) ls rest)) : W p l e R s m args below meth c H locs cells slots Q (F0 m pc ls (.ref (b0 + v) :: .int i :: .ref (b0 + k) :: rest)) := by
  obtain ⟨hx, hb, hr, hml, hown, hts, hlo, hnm, hE⟩ := C0
  obtain ⟨hlt, hget⟩ := HR_get hR hk (by intro q; cases q)
  obtain ⟨hltv, hgetv⟩ := HR_get hR hv (by intro q; cases q; exact absurd hci (by decide))
  have hK := hE.2.1
  have hcell : H[b0 + k]? = some (vp_cell (ac (.object C)) (n, .inr (.inr (.inr (.inr (fun j => (g j).map (fun k => b0 + k))))))) := hR.2.1 k _ hget
  obtain ⟨r, hc⟩ := cls_of hci
  obtain ⟨-, g1, -⟩ := cls_ok ci r hc
  obtain ⟨r', hr', cellV, a1, a2, a3, -⟩ := hR.2.1 v _ hgetv
  have hcls := (hK.1 ci r hc).2
  obtain ⟨t0, ht⟩ := tyK_get (ac := ac) hty
  obtain ⟨kA, comp, k1, k2, k3, -⟩ := (hK.2 t0 _ ht).2
  have hcomp : comp = D.1 ci := by
    have h1 : s.vm.findClass r.1 = some (D.1 ci) := hcls.1
    rw [g1, ← hC] at h1
    exact Option.some.inj (k3.symm.trans h1)
  subst hcomp
  obtain ⟨kC, hkC, -⟩ := hcls.2
  have hlt2 : i.toNatClampNeg < n := Nat.not_le.mp fun q => hin (Or.inr q)
  have h0 : ¬ i < 0 := fun q => hin (Or.inl q)
  refine W.aast hx hb hcell (fun q h => by cases h) (fun h => by cases h) k1 k2 rfl hkC ⟨h0, by rw [vp_cell_q, arrV_size]; exact hlt2⟩ a1 (fun q h => by rw [a3] at h; cases h) (by rw [a2]; exact hkC) (by rw [a2]; exact va_assign hcls) rfl rfl hd fun H1 e1 e2 e3 => ?_
  refine kk H1 _ (HR_put hR hlt (tyOk_l hty) ?_ e2 e3) (hS.put e2 e3 (Nat.le_add_right _ _))
  show H1[b0 + k]? = some (vp_cell (ac (.object C)) (n, .inr (.inr (.inr (.inr (fun j => (va_up g i.toNatClampNeg (some v) j).map (fun k => b0 + k)))))))
  rw [e1, vp_cell_q, vp_cell_q, arrV_store]
  congr 2
  funext q
  by_cases hq : q = i.toNatClampNeg
  · subst hq
    simp [updV, va_up, va_rf]
  · simp [updV, va_up, hq]
end Rows
