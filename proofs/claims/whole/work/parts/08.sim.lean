/-! ===== calls, ends, and the whole: what the abstract machine does, the machine does ===== -/
theorem mE_dec : (List.range 195).all (fun M => (mtE M).isSome && decide (mL M ≤ 81) && (decide (mS M ≠ 2) || decide (mR M = none))) = true := by decide +kernel
theorem mE_ok {M : Nat} (h : M < 195) : (mtE M).isSome = true ∧ mL M ≤ 81 ∧ (mS M = 2 → mR M = none) := by
  have h1 := List.all_eq_true.mp mE_dec M (List.mem_range.mpr h)
  simp only [Bool.and_eq_true, decide_eq_true_eq, Bool.or_eq_true] at h1
  refine ⟨h1.1.1, h1.1.2, fun q => ?_⟩
  rcases h1.2 with z | z
  · exact absurd q z
  · exact z
theorem code_in {M : Nat} (h : M < 195) : Cond.code (mY M) (mC M) (mL M) (mR M) ∈ gtbl := by
  have h1 := (mE_ok h).1
  unfold mY mC mL mR
  unfold mtE at h1 ⊢
  rw [if_neg (Nat.ne_of_lt h)] at h1 ⊢
  cases hw : lw_tbl[(mtI.getD M 99999)]? with
  | none => rw [hw] at h1; cases h1
  | some w =>
    rw [hw] at h1
    cases w with
    | code y b n r => exact gtbl_mk _ hw rfl
    | _ => cases h1
theorem goodIn_g {l : List Cond} (h : ∀ w ∈ l, w ∈ gtbl) : GoodIn gtbl l := fun w hw => ⟨h w hw, good_of_word (gtbl_in (h w hw)).2⟩
def wsM (M : Nat) : List Cond := Cond.code (mY M) (mC M) (mL M) (mR M) :: gtbl
theorem wsM_g {M : Nat} (h : M < 195) : ∀ w ∈ wsM M, w ∈ gtbl := by
  intro w hw
  rcases List.mem_cons.mp hw with rfl | hw
  · exact code_in h
  · exact hw
/-- what the tables say of a method that is called -/
theorem mW_ok {M : Nat} (h : M < 195) (h1 : M ≠ m_Object_init) : cn (mK M) = (mY M).cls ∧ (parseMethodDescriptor (mY M).desc).map (fun d => d.parameters.length) = some (mP M) ∧ (mY M).cls ≠ "java/lang/invoke/MethodHandle" ∧ (mY M).cls ≠ "java/lang/invoke/VarHandle" ∧ Cond.initialized (mY M).cls ∈ gtbl ∧ (mS M = 0 → Cond.static (mY M) ∈ gtbl) ∧ (mS M = 1 → Cond.instanceMethod (mY M) ∈ gtbl ∧ Cond.selects (mY M).cls (mY M) (mY M) ∈ gtbl) ∧ (mS M = 2 → Cond.instanceMethod (mY M) ∈ gtbl ∧ (mY M).name = "<init>") ∧ (M ≠ m_Math_max → M ≠ m_Math_min → plainName (mY M).cls = true) := by
  have hc := mt_ok h
  simp only [mtChk, Bool.and_eq_true, decide_eq_true_eq, Bool.or_eq_true] at hc
  obtain ⟨⟨⟨⟨⟨a1, a2⟩, a3⟩, a4⟩, a5⟩, a6⟩ := hc
  have hpl : M ≠ m_Math_max → M ≠ m_Math_min → plainName (mY M).cls = true := by
    intro q1 q2
    rcases a3 with a3 | a3 | a3 | a3
    · exact a3
    · exact absurd a3 h1
    · exact absurd a3 q1
    · exact absurd a3 q2
  refine ⟨a1, a2, a4, a5, ?_⟩
  rcases hS : mS M with _ | _ | _ | n
  · rw [hS] at a6
    simp only [Bool.and_eq_true, decide_eq_true_eq] at a6
    exact ⟨gtbl_mk _ a6.1 rfl, fun _ => gtbl_mk _ a6.2 rfl, fun q => by omega, fun q => by omega, hpl⟩
  · rw [hS] at a6
    simp only [Bool.and_eq_true, decide_eq_true_eq] at a6
    exact ⟨gtbl_mk _ a6.1.1 rfl, fun q => by omega, fun _ => ⟨gtbl_mk _ a6.1.2 rfl, gtbl_mk _ a6.2 rfl⟩, fun q => by omega, hpl⟩
  · rw [hS] at a6
    simp only [Bool.and_eq_true, decide_eq_true_eq, Bool.or_eq_true] at a6
    refine ⟨?_, fun q => by omega, fun q => by omega, fun _ => ⟨gtbl_mk _ a6.1.2 rfl, a6.2⟩, hpl⟩
    rcases a6.1.1 with z | z
    · exact absurd z h1
    · exact gtbl_mk _ z rfl
  · rw [hS] at a6
    cases a6
theorem fM_ok {k idx kd Mc : Nat} {nest : Bool} (h : fM k idx = some (kd, Mc, nest)) : (kd < 3 → Mc < 195 ∧ Mc ≠ m_Object_init ∧ Mc ≠ m_Math_max ∧ Mc ≠ m_Math_min ∧ mS Mc = kd) ∧ (3 ≤ kd → nest = false) ∧ (kd = 3 → Mc = m_Object_init) ∧ (kd = 5 → Mc = m_Math_max) ∧ (kd = 6 → Mc = m_Math_min) ∧ (nest = true → Cond.methodLinkNest (cn k) idx (mY Mc) "HookTies" ∈ nwl) ∧ (nest = false → Cond.methodLink (cn k) idx (if kd = 4 then arraycopyName else mY Mc) ∈ gtbl) := by
  unfold fM at h
  cases hf : lkM.find? (fun e => e.1 == k && e.2.1 == idx) with
  | none => rw [hf] at h; cases h
  | some e =>
    rw [hf] at h
    obtain ⟨-, h2, h3⟩ := find_ok lkM_chk hf
    obtain ⟨a, b, c, d, e', g⟩ := e
    simp only [Bool.and_eq_true, beq_iff_eq] at h2
    obtain ⟨rfl, rfl⟩ := h2
    simp only [Option.map_some, Option.some.injEq, Prod.mk.injEq] at h
    obtain ⟨rfl, rfl, rfl⟩ := h
    simp only [lkMc, Bool.and_eq_true, Bool.or_eq_true, decide_eq_true_eq] at h3
    obtain ⟨h3, h4⟩ := h3
    refine ⟨fun q => ?_, fun q => ?_, fun q => ?_, fun q => ?_, fun q => ?_, fun q => ?_, fun q => ?_⟩
    · rcases h4 with (((z | z) | z) | z) | z <;> first | omega | exact ⟨z.2.2.1, z.2.2.2.1, z.2.2.2.2.1, z.2.2.2.2.2, z.1.symm⟩
    · rcases h4 with (((z | z) | z) | z) | z <;> first | exact z.2 | exact z.2.2 | omega
    · rcases h4 with (((z | z) | z) | z) | z <;> first | exact z.2.1 | omega
    · rcases h4 with (((z | z) | z) | z) | z <;> first | exact z.2.1 | omega
    · rcases h4 with (((z | z) | z) | z) | z <;> first | exact z.2.1 | omega
    · subst q
      simp only [if_true, decide_eq_true_eq] at h3
      exact List.mem_filter.mpr ⟨List.mem_of_getElem? h3, rfl⟩
    · subst q
      simp only [Bool.false_eq_true, if_false, decide_eq_true_eq] at h3
      exact gtbl_mk _ h3 rfl
def rmD (d mc ms : Nat) : Room := { frames := d, cells := mc, slots := ms, locals := 100 * d }
def QQ (D : va_G) (ac : FieldType → ClassId) (b0 : Nat) (kv : UInt32 → Value) (r : Option Value) (h' : aH) : Array Value → State → Outcome → State → Prop := fun _ st oc t => oc = .returned (r.map (cv b0 kv)) ∧ HR D ac b0 kv h' t.heap ∧ va_F (fun z => b0 ≤ z) st t
def PP (X : aX) (D : va_G) (ac : FieldType → ClassId) (b0 : Nat) (kv : UInt32 → Value) (av : List Value) (h : aH) : Array Value → State → Prop := va_Pc (av.map (cv b0 kv)) (fun U => HR D ac b0 kv h U.heap ∧ EV X D ac b0 kv U)
theorem PP_blind {X : aX} {D : va_G} {ac : FieldType → ClassId} {b0 : Nat} {kv : UInt32 → Value} {av : List Value} {h : aH} : FrameBlind (PP X D ac b0 kv av h) := fun a U g mk q => ⟨q.1, q.2.1, q.2.2.same rfl rfl⟩
/-- the contract of a call -/
def CTR (l : Launch) (X : aX) (D : va_G) (ac : FieldType → ClassId) (b0 : Nat) (kv : UInt32 → Value) (d : Nat) : aCall := fun M av h r h' => (hn h ≤ hn h' ∧ hz h ≤ hz h') ∧ Met l (mY M) (wsM M) (rmD d (hn h' - hn h) (hz h' - hz h)) (PP X D ac b0 kv av h) (QQ D ac b0 kv r h') (hn h' - hn h) (hz h' - hz h) (fun z => b0 ≤ z)
section Sim
variable {p : Program} {l : Launch} {e : Env} {R : Room} {s : State} {m : MethodId} {args : Array Value} {below : List Frame} {meth : Method} {c : Code} {Q : State → Prop}
variable {X : aX} {D : va_G} {ac : FieldType → ClassId} {b0 : Nat} {kv : UInt32 → Value} {M pc : Nat} {L S L' S' : List Value} {h h' h0 hE : aH} {pc' : Nat}
theorem call_go {H : Heap} {locs : List Loc} {cells slots mc ms : Nat} {ls : Array Slot} {st0 rest : List Value} {r : Option Value} {a : Array Value} (hrun : va_Run p l e R s m args below meth c H locs cells slots mc ms (F0 m pc ls st0) rest (QQ D ac b0 kv r h' a) (fun z => b0 ≤ z)) (hS : va_S (fun q => b0 ≤ q) s.heap H locs)
    (kk : ∀ (H1 : Heap) (locs1 : List Loc), HR D ac b0 kv h' H1 → va_S (fun q => b0 ≤ q) s.heap H1 locs1 → W p l e R s m args below meth c H1 locs1 (cells + mc) (slots + ms) Q (F0 m (pc + 3) ls ((r.map (cv b0 kv)).toList ++ rest))) : W p l e R s m args below meth c H locs cells slots Q (F0 m pc ls st0) := by
  intro T hT Y
  obtain ⟨v, st₀, t, T', L9, h0, Y', hL, e1, e2, ⟨hv, hR, hz9, hk⟩, st⟩ := hrun T hT Y
  injection hv with hv
  subst hv
  rw [h0] at hz9 hk
  obtain ⟨t2, a1, b1⟩ := kk T'.heap (locs ++ L9) (by rw [e1]; exact hR)
    ⟨Nat.le_trans hS.1 (by rw [e1]; exact hz9), fun q h1 h2 => by rw [e1, hk q (Nat.lt_of_lt_of_le h1 hS.1) h2]; exact hS.2.1 q h1 h2, fun q hq => by
      rcases List.mem_append.mp hq with h | h
      · exact hS.2.2 q h
      · exact hL q h⟩ T' rfl Y'
  exact ⟨t2, st t2 a1, b1⟩
theorem pre_ok (C0 : SC p s m args meth c X D ac b0 kv M) {H : Heap} {locs : List Loc} (hR : HR D ac b0 kv h H) (hS : va_S (fun q => b0 ≤ q) s.heap H locs) {av : List Value} : ∀ U : State, U.heap = H → s.WarmedH U.vm → PP X D ac b0 kv av h (av.map (cv b0 kv)).toArray U := by
  intro U hU hW
  refine ⟨rfl, by rw [hU]; exact hR, C0.2.2.2.2.2.2.2.2.moved hW (by rw [hU, hR.2.2]; exact Nat.le_add_right _ _) (fun q h1 h2 => by rw [hU]; exact hS.2.1 q h1 h2)⟩
theorem recv_ok (C0 : SC p s m args meth c X D ac b0 kv M) {H : Heap} {locs : List Loc} (hR : HR D ac b0 kv h H) (hS : va_S (fun q => b0 ≤ q) s.heap H locs) {Mc : Nat} {v : Value} (hv : rcv h (mK Mc) v = true) (hcl : cn (mK Mc) = (mY Mc).cls) : ∃ (b : Nat) (cell : Cell), cv b0 kv v = .ref b ∧ H[b]? = some cell ∧ cell.vm.isStatics = false ∧ s.vm.findClass (mY Mc).cls = some cell.cls := by
  have hEv := C0.2.2.2.2.2.2.2.2
  cases v with
  | ref a =>
    simp only [rcv] at hv
    split at hv
    · next k fs e1 =>
      simp only [decide_eq_true_eq] at hv
      obtain ⟨hv1, hv2⟩ := hv
      obtain ⟨hlt, hget⟩ := HR_get hR e1 (by intro q; cases q; exact absurd hv2 (by decide))
      obtain ⟨r, hc⟩ := cls_of hv2
      obtain ⟨-, g1, -⟩ := cls_ok k r hc
      obtain ⟨cell, c1, c2, c3⟩ := va_recv hEv.2.1 hR.2.1 hc hget
      exact ⟨b0 + a, cell, rfl, c1, c2, by rw [← hcl, ← hv1, ← g1]; exact c3⟩
    · cases hv
  | float q =>
    simp only [rcv, Bool.and_eq_true, decide_eq_true_eq] at hv
    obtain ⟨i, hi, e1, -⟩ := isS_ok hv.1
    obtain ⟨t, ht, hO, -⟩ := hEv.2.2.2.2.2.2.1 i hi
    obtain ⟨cell, c1, c2, c3, -⟩ := hO.kept hS.2.1
    exact ⟨t, cell, by rw [show cv b0 kv (.float q) = kv q from rfl, e1]; exact ht, c1, c2, by rw [← hcl, hv.2]; exact c3⟩
  | _ => simp [rcv] at hv
theorem split_ok {n : Nat} (hn : n ≤ S.length) : (S.map (cv b0 kv)) = (((S.take n).reverse).map (cv b0 kv)).reverse ++ (S.drop n).map (cv b0 kv) ∧ (((S.take n).reverse).map (cv b0 kv)).length = n := by
  constructor
  · rw [List.map_reverse, List.reverse_reverse, ← List.map_append, List.take_append_drop]
  · rw [List.length_map, List.length_reverse, List.length_take]
    omega
theorem s_call {C : aCall} {d : Nat} (C0 : SC p s m args meth c X D ac b0 kv M) (hC : ∀ Mc av h r h', C Mc av h r h' → Mc < 195 → Mc ≠ m_Object_init → Mc ≠ m_Math_max → Mc ≠ m_Math_min → CTR l X D ac b0 kv d Mc av h r h') (hRf : d + 1 ≤ R.frames) (hRl : 100 * (d + 1) ≤ R.locals) (hRc : hn hE - hn h0 ≤ R.cells) (hRs : hz hE - hz h0 ≤ R.slots)
    {i : Instr} {idx kd Mc : Nat} {nest : Bool} (hf : fM (mK M) idx = some (kd, Mc, nest)) (hd : decode (mC M) pc = .ok (i, 3)) (hi : (i = .invokestatic idx ∧ (kd = 0 ∨ kd = 4 ∨ kd = 5 ∨ kd = 6)) ∨ (i = .invokevirtual idx ∧ kd = 1) ∨ (i = .invokespecial idx ∧ (kd = 2 ∨ kd = 3))) (hst : stepC C M pc kd Mc L S h (.inl (pc', L', S', h'))) (hk : GW p l e R s m args below meth c Q D ac b0 kv M h0 hE pc' L' S' h') : GW p l e R s m args below meth c Q D ac b0 kv M h0 hE pc L S h := by
  obtain ⟨hx, hb, hr, hml, hown, hts, hlo, hnm, hEv⟩ := id C0
  obtain ⟨f1, f2, f3, f4, f5, f6, f7⟩ := fM_ok hf
  have hfx : CallFix p m c (mC M) (mL M) s args gtbl (cn (mK M)) := ⟨hx, hb, hml, hown, hts⟩
  unfold stepC at hst
  by_cases k0 : kd = 0
  · subst k0
    rw [if_pos rfl] at hst
    obtain ⟨hle, h4, r, h1, hcall, he⟩ := hst
    cases he
    obtain ⟨m1, m2, m3, m4, m5⟩ := f1 (by decide)
    obtain ⟨a1, a2, a3, a4, a5, a6, -⟩ := mW_ok m1 m2
    obtain ⟨⟨g1, g2⟩, hM⟩ := hC _ _ _ _ _ hcall m1 m2 m3 m4
    have hop : i = .invokestatic idx := by
      rcases hi with z | z | z
      · exact z.1
      · omega
      · omega
    subst hop
    refine ⟨⟨Nat.le_trans g1 hk.1.1, Nat.le_trans g2 hk.1.2⟩, fun hA hB H locs ls hR hS hL => ?_⟩
    obtain ⟨s1, s2⟩ := split_ok (S := S) (b0 := b0) (kv := kv) hle
    have hroom : (rmD d (hn h' - hn h) (hz h' - hz h)).frames + 1 ≤ R.frames ∧ 8 + (mL Mc + 11) + (rmD d (hn h' - hn h) (hz h' - hz h)).locals ≤ R.locals := ⟨hRf, by have := (mE_ok m1).2.1; show 8 + (mL Mc + 11) + 100 * d ≤ _; omega⟩
    have hcs : (hn h - hn h0) + (hn h' - hn h) ≤ R.cells ∧ (hz h - hz h0) + (hz h' - hz h) ≤ R.slots := by have := hk.1; omega
    have hW : 2 * (F0 m pc ls (S.map (cv b0 kv))).monitorRoom + (((S.drop (mP Mc)).map (cv b0 kv)).map fun v => v.category).sum ≤ 8 := by
      have := cat_sum (b0 := b0) (kv := kv) _ h4
      show 2 * 0 + _ ≤ 8
      omega
    have fin : ∀ (H1 : Heap) (locs1 : List Loc), HR D ac b0 kv h' H1 → va_S (fun q => b0 ≤ q) s.heap H1 locs1 → W p l e R s m args below meth c H1 locs1 ((hn h - hn h0) + (hn h' - hn h)) ((hz h - hz h0) + (hz h' - hz h)) Q (F0 m (pc + 3) ls ((r.map (cv b0 kv)).toList ++ (S.drop (mP Mc)).map (cv b0 kv))) := by
      intro H1 locs1 hR1 hS1
      have := hk.2 (by omega) (by omega) H1 locs1 ls hR1 hS1 hL
      rw [show (hn h - hn h0) + (hn h' - hn h) = hn h' - hn h0 by omega, show (hz h - hz h0) + (hz h' - hz h) = hz h' - hz h0 by omega]
      rw [List.map_append] at this
      cases r <;> exact this
    cases nest with
    | false =>
      have hw := f7 rfl
      rw [if_neg (by decide)] at hw
      exact call_go (va_runS hfx hM (va_cwS (mP Mc) hts (goodIn_g (fun w hw2 => by
        unfold va_wsS at hw2
        rcases List.mem_append.mp hw2 with z | z
        · simp only [List.mem_cons, List.not_mem_nil, or_false] at z
          rcases z with rfl | rfl | rfl
          · exact hw
          · exact a6 m5
          · exact a5
        · exact wsM_g m1 w z)) rfl rfl rfl ⟨a3, a4, a2⟩ hroom) ⟨PP_blind, pre_ok C0 hR hS⟩ rfl s2 hL.1 s1 hW hd hcs) hS fin
    | true =>
      exact call_go (va_runSN hfx hM ⟨va_cnB (mP Mc) hts (goodIn_g (wsM_g m1)) rfl rfl rfl (hEv.2.2.2.1 _ (f6 rfl)) (hts _ a5) ⟨a3, a4, a2⟩ hroom, hts _ (a6 m5), trivial⟩ ⟨PP_blind, pre_ok C0 hR hS⟩ rfl s2 hL.1 s1 hW hd hcs) hS fin
  rw [if_neg k0] at hst
  by_cases k1 : kd = 1
  · subst k1
    rw [if_pos rfl] at hst
    obtain ⟨hle, hst⟩ := hst
    have hop : i = .invokevirtual idx := by
      rcases hi with z | z | z
      · omega
      · exact z.1
      · omega
    subst hop
    split at hst
    · next v S1 hdr =>
      obtain ⟨hv, h4, r, h1, hcall, he⟩ := hst
      cases he
      obtain ⟨m1, m2, m3, m4, m5⟩ := f1 (by decide)
      obtain ⟨a1, a2, a3, a4, a5, -, a6, -⟩ := mW_ok m1 m2
      obtain ⟨⟨g1, g2⟩, hM⟩ := hC _ _ _ _ _ hcall m1 m2 m3 m4
      refine ⟨⟨Nat.le_trans g1 hk.1.1, Nat.le_trans g2 hk.1.2⟩, fun hA hB H locs ls hR hS hL => ?_⟩
      obtain ⟨s1, s2⟩ := split_ok (S := S) (b0 := b0) (kv := kv) hle
      obtain ⟨b, cell, hb1, hb2, hb3, hb4⟩ := recv_ok C0 hR hS hv a1
      rw [hdr, List.map_cons, hb1] at s1
      have hroom : (rmD d (hn h' - hn h) (hz h' - hz h)).frames + 1 ≤ R.frames ∧ 8 + (mL Mc + 11) + (rmD d (hn h' - hn h) (hz h' - hz h)).locals ≤ R.locals := ⟨hRf, by have := (mE_ok m1).2.1; show 8 + (mL Mc + 11) + 100 * d ≤ _; omega⟩
      have hcs : (hn h - hn h0) + (hn h' - hn h) ≤ R.cells ∧ (hz h - hz h0) + (hz h' - hz h) ≤ R.slots := by have := hk.1; omega
      have hW : 2 * (F0 m pc ls (S.map (cv b0 kv))).monitorRoom + ((S1.map (cv b0 kv)).map fun v => v.category).sum ≤ 8 := by
        have := cat_sum (b0 := b0) (kv := kv) _ h4
        show 2 * 0 + _ ≤ 8
        omega
      have fin : ∀ (H1 : Heap) (locs1 : List Loc), HR D ac b0 kv h' H1 → va_S (fun q => b0 ≤ q) s.heap H1 locs1 → W p l e R s m args below meth c H1 locs1 ((hn h - hn h0) + (hn h' - hn h)) ((hz h - hz h0) + (hz h' - hz h)) Q (F0 m (pc + 3) ls ((r.map (cv b0 kv)).toList ++ S1.map (cv b0 kv))) := by
        intro H1 locs1 hR1 hS1
        have := hk.2 (by omega) (by omega) H1 locs1 ls hR1 hS1 hL
        rw [show (hn h - hn h0) + (hn h' - hn h) = hn h' - hn h0 by omega, show (hz h - hz h0) + (hz h' - hz h) = hz h' - hz h0 by omega]
        rw [List.map_append] at this
        cases r <;> exact this
      have hpre : PreV s H (mY Mc).cls b (PP X D ac b0 kv (v :: (S.take (mP Mc)).reverse) h) (((S.take (mP Mc)).reverse).map (cv b0 kv)) := by
        refine ⟨PP_blind, ⟨cell, hb2, hb3, hb4⟩, ?_⟩
        have := pre_ok (av := v :: (S.take (mP Mc)).reverse) C0 hR hS
        rw [List.map_cons, hb1] at this
        exact this
      cases nest with
      | false =>
        have hw := f7 rfl
        rw [if_neg (by decide)] at hw
        exact call_go (va_runV hfx hM (cwV (mP Mc) hts (goodIn_g (fun w hw2 => by
          unfold wsV at hw2
          rcases List.mem_append.mp hw2 with z | z
          · simp only [List.mem_cons, List.not_mem_nil, or_false] at z
            rcases z with rfl | rfl | rfl | rfl
            · exact hw
            · exact (a6 m5).1
            · exact (a6 m5).2
            · exact a5
          · exact wsM_g m1 w z)) rfl rfl rfl ⟨rfl, a3, a4, a2⟩ hroom) hpre rfl s2 hL.1 s1 hW hd hcs) hS fin
      | true =>
        exact call_go (va_runVN hfx hM ⟨va_cnB (mP Mc) hts (goodIn_g (wsM_g m1)) rfl rfl rfl (hEv.2.2.2.1 _ (f6 rfl)) (hts _ a5) ⟨a3, a4, a2⟩ hroom, hts _ (a6 m5).1, hts _ (a6 m5).2⟩ hpre rfl s2 hL.1 s1 hW hd hcs) hS fin
    · exact hst.elim
  rw [if_neg k1] at hst
  by_cases k2 : kd = 2
  · subst k2
    rw [if_pos rfl] at hst
    obtain ⟨hle, hst⟩ := hst
    have hop : i = .invokespecial idx := by
      rcases hi with z | z | z
      · omega
      · omega
      · exact z.1
    subst hop
    split at hst
    · next a S1 hdr =>
      obtain ⟨h4, r, h1, hcall, he⟩ := hst
      cases he
      obtain ⟨m1, m2, m3, m4, m5⟩ := f1 (by decide)
      obtain ⟨a1, a2, a3, a4, a5, -, -, a6, -⟩ := mW_ok m1 m2
      obtain ⟨⟨g1, g2⟩, hM⟩ := hC _ _ _ _ _ hcall m1 m2 m3 m4
      have hret := (mE_ok m1).2.2 m5
      refine ⟨⟨Nat.le_trans g1 hk.1.1, Nat.le_trans g2 hk.1.2⟩, fun hA hB H locs ls hR hS hL => ?_⟩
      obtain ⟨s1, s2⟩ := split_ok (S := S) (b0 := b0) (kv := kv) hle
      rw [hdr, List.map_cons] at s1
      have hroom : (rmD d (hn h' - hn h) (hz h' - hz h)).frames + 1 ≤ R.frames ∧ 8 + (mL Mc + 11) + (rmD d (hn h' - hn h) (hz h' - hz h)).locals ≤ R.locals := ⟨hRf, by have := (mE_ok m1).2.1; show 8 + (mL Mc + 11) + 100 * d ≤ _; omega⟩
      have hcs : (hn h - hn h0) + (hn h' - hn h) ≤ R.cells ∧ (hz h - hz h0) + (hz h' - hz h) ≤ R.slots := by have := hk.1; omega
      have hW : 2 * (F0 m pc ls (S.map (cv b0 kv))).monitorRoom + ((S1.map (cv b0 kv)).map fun v => v.category).sum ≤ 8 := by
        have := cat_sum (b0 := b0) (kv := kv) _ h4
        show 2 * 0 + _ ≤ 8
        omega
      have fin : ∀ (H1 : Heap) (locs1 : List Loc), HR D ac b0 kv h' H1 → va_S (fun q => b0 ≤ q) s.heap H1 locs1 → W p l e R s m args below meth c H1 locs1 ((hn h - hn h0) + (hn h' - hn h)) ((hz h - hz h0) + (hz h' - hz h)) Q (F0 m (pc + 3) ls ((r.map (cv b0 kv)).toList ++ S1.map (cv b0 kv))) := by
        intro H1 locs1 hR1 hS1
        have := hk.2 (by omega) (by omega) H1 locs1 ls hR1 hS1 hL
        rw [show (hn h - hn h0) + (hn h' - hn h) = hn h' - hn h0 by omega, show (hz h - hz h0) + (hz h' - hz h) = hz h' - hz h0 by omega]
        rw [List.map_append] at this
        cases r <;> exact this
      have hpre : PreS s H (PP X D ac b0 kv (.ref a :: (S.take (mP Mc)).reverse) h) (.ref (b0 + a) :: ((S.take (mP Mc)).reverse).map (cv b0 kv)) := ⟨PP_blind, pre_ok (av := .ref a :: (S.take (mP Mc)).reverse) C0 hR hS⟩
      have hwM : wsM Mc = Cond.code (mY Mc) (mC Mc) (mL Mc) none :: gtbl := by unfold wsM; rw [hret]
      cases nest with
      | false =>
        have hw := f7 rfl
        rw [if_neg (by decide)] at hw
        exact call_go (va_runI hfx hM (cwI (mP Mc) hts (goodIn_g (wsM_g m1)) hwM rfl rfl (hts _ a5) (hts _ hw) (hts _ (a6 m5).1) (a6 m5).2 ⟨a3, a4, a2⟩ hroom) hpre rfl s2 hL.1 s1 hW hd hcs) hS fin
      | true =>
        exact call_go (va_runIN hfx hM ⟨va_cnB (mP Mc) hts (goodIn_g (wsM_g m1)) hwM rfl rfl (hEv.2.2.2.1 _ (f6 rfl)) (hts _ a5) ⟨a3, a4, a2⟩ hroom, (a6 m5).2, hts _ (a6 m5).1⟩ hpre rfl s2 hL.1 s1 hW hd hcs) hS fin
    · exact hst.elim
  rw [if_neg k2] at hst
  by_cases k3 : kd = 3
  · subst k3
    rw [if_pos rfl] at hst
    have hop : i = .invokespecial idx := by
      rcases hi with z | z | z
      · omega
      · omega
      · exact z.1
    subst hop
    have hMc := f3 rfl
    subst hMc
    split at hst
    · next a S1 =>
      obtain ⟨h4, he⟩ := hst
      cases he
      refine ⟨hk.1, fun hA hB H locs ls hR hS hL => ?_⟩
      have hw := f7 (f2 (by decide))
      rw [if_neg (by decide)] at hw
      have hi1 : Cond.instanceMethod (mY m_Object_init) ∈ gtbl := by
        have hc := mt_ok (M := m_Object_init) (by decide)
        have hS : mS m_Object_init = 2 := by decide +kernel
        simp only [mtChk, hS, Bool.and_eq_true, decide_eq_true_eq, Bool.or_eq_true] at hc
        exact gtbl_mk _ hc.2.1.2 rfl
      have hy : mY m_Object_init = Lib.objectInit := by decide +kernel
      have hcd := code_in (M := m_Object_init) (by decide)
      rw [hy] at hw hi1 hcd
      have hcd2 : Cond.code Lib.objectInit ⟨#[0xb1]⟩ 1 none ∈ gtbl := by
        have e1 : mC m_Object_init = ⟨#[0xb1]⟩ := by decide +kernel
        have e2 : mL m_Object_init = 1 := by decide +kernel
        have e3 : mR m_Object_init = none := by decide +kernel
        rw [e1, e2, e3] at hcd
        exact hcd
      refine W.objInit hx hb hown (hts _ hw) (hts _ hi1) (hts _ hcd2) rfl (by rw [hml]; exact hL.1) rfl hd (by omega) ?_ (hk.2 hA hB H locs ls hR hS hL)
      have := cat_sum (b0 := b0) (kv := kv) _ h4
      show 2 * 0 + _ + 12 ≤ _
      omega
    · exact hst.elim
  rw [if_neg k3] at hst
  have hop : i = .invokestatic idx := by
    rcases hi with z | z | z
    · exact z.1
    · omega
    · omega
  subst hop
  by_cases k4 : kd = 4
  · subst k4
    rw [if_pos rfl] at hst
    have hw := f7 (f2 (by decide))
    rw [if_pos rfl] at hw
    unfold acp at hst
    split at hst
    · next n dp kb sp ka S1 =>
      split at hst
      · next n0 f n1 g e1 e2 =>
        by_cases hc : ¬ sp < 0 ∧ ¬ dp < 0 ∧ ¬ n < 0 ∧ sp.toNatClampNeg + n.toNatClampNeg ≤ n0 ∧ dp.toNatClampNeg + n.toNatClampNeg ≤ n1 ∧ S1.length ≤ 4
        · rw [if_pos hc] at hst
          cases gt_s hst
          obtain ⟨c1, c2, c3, c4, c5, c6⟩ := hc
          refine ⟨hk.1, fun hA hB H locs ls hR hS hL => ?_⟩
          have hs4 := cat_sum (b0 := b0) (kv := kv) _ c6
          exact Racp C0 hL.1 hf hR hS e1 e2 c1 c2 c3 c4 c5 (by omega) (by omega) hd hw (gtbl_mk 289 (by decide +kernel) rfl) (gtbl_mk 288 (by decide +kernel) rfl) (gtbl_mk 95 (by decide +kernel) rfl) (fun H1 locs1 hR1 hS1 => hk.2 hA hB H1 locs1 ls hR1 hS1 hL)
        · rw [if_neg hc] at hst; cases hst
      · cases hst
    · cases hst
  rw [if_neg k4] at hst
  by_cases k5 : kd = 5
  · subst k5
    rw [if_pos rfl] at hst
    have hw := f7 (f2 (by decide))
    rw [if_neg (by decide), f4 rfl] at hw
    have hst : op2 S (fun x y S' => if S'.length ≤ 4 then gt (pc + 3) L (.int (if x < y then y else x) :: S') h else none) = some (.inl (pc', L', S', h')) := hst
    obtain ⟨x, y, S1, rfl, hs2⟩ := op2_s hst
    by_cases hc : S1.length ≤ 4
    · rw [if_pos hc] at hs2
      cases gt_s hs2
      obtain ⟨a1, a2, a3, a4, a5, a6, -⟩ := mW_ok (M := m_Math_max) (by decide) (by decide)
      have hcd := code_in (M := m_Math_max) (by decide)
      have ey : mY m_Math_max = Lib.Math.max.name := by decide +kernel
      have e1 : mC m_Math_max = Lib.Math.max.code := by decide +kernel
      have e2 : mL m_Math_max = 2 := by decide +kernel
      have e3 : mR m_Math_max = some .int := by decide +kernel
      have hS0 := a6 (by decide +kernel)
      rw [ey] at hw a5 hS0
      rw [ey, e1, e2, e3] at hcd
      refine ⟨hk.1, fun hA hB H locs ls hR hS hL => ?_⟩
      have hs4 := cat_sum (b0 := b0) (kv := kv) _ hc
      exact va_mmax hx hb (by rw [hml]; exact hL.1.symm) hown (hts _ hw) (hts _ hS0) (hts _ a5) (hts _ hcd) (by omega) (by omega) (by have := hk.1; omega) (by have := hk.1; omega) hd (hk.2 hA hB H locs ls hR hS hL)
    · rw [if_neg hc] at hs2; cases hs2
  rw [if_neg k5] at hst
  by_cases k6 : kd = 6
  · subst k6
    rw [if_pos rfl] at hst
    have hw := f7 (f2 (by decide))
    rw [if_neg (by decide), f5 rfl] at hw
    have hst : op2 S (fun x y S' => if S'.length ≤ 4 then gt (pc + 3) L (.int (if y < x then y else x) :: S') h else none) = some (.inl (pc', L', S', h')) := hst
    obtain ⟨x, y, S1, rfl, hs2⟩ := op2_s hst
    by_cases hc : S1.length ≤ 4
    · rw [if_pos hc] at hs2
      cases gt_s hs2
      obtain ⟨a1, a2, a3, a4, a5, a6, -⟩ := mW_ok (M := m_Math_min) (by decide) (by decide)
      have hcd := code_in (M := m_Math_min) (by decide)
      have ey : mY m_Math_min = Lib.Math.min.name := by decide +kernel
      have e1 : mC m_Math_min = Lib.Math.min.code := by decide +kernel
      have e2 : mL m_Math_min = 2 := by decide +kernel
      have e3 : mR m_Math_min = some .int := by decide +kernel
      have hS0 := a6 (by decide +kernel)
      rw [ey] at hw a5 hS0
      rw [ey, e1, e2, e3] at hcd
      refine ⟨hk.1, fun hA hB H locs ls hR hS hL => ?_⟩
      have hs4 := cat_sum (b0 := b0) (kv := kv) _ hc
      exact va_mmin hx hb (by rw [hml]; exact hL.1.symm) hown (hts _ hw) (hts _ hS0) (hts _ a5) (hts _ hcd) (by omega) (by omega) (by have := hk.1; omega) (by have := hk.1; omega) hd (hk.2 hA hB H locs ls hR hS hL)
    · rw [if_neg hc] at hs2; cases hs2
  rw [if_neg k6] at hst
  exact hst.elim
end Sim
