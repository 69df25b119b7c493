/-! ===== copying rows, making cells ===== -/
theorem cat_sum {b0 : Nat} {kv : UInt32 → Value} : ∀ (S : List Value), S.length ≤ 4 → ((S.map (cv b0 kv)).map fun v => v.category).sum ≤ 8 := by
  intro S hS
  have key : ∀ S : List Value, ((S.map (cv b0 kv)).map fun v => v.category).sum ≤ 2 * S.length := by
    intro S
    induction S with
    | nil => simp
    | cons v S ih =>
      simp only [List.map_cons, List.sum_cons, List.length_cons]
      have := lv_cat (cv b0 kv v)
      omega
  have := key S
  omega
section Alloc
variable {p : Program} {l : Launch} {e : Env} {R : Room} {s : State} {m : MethodId} {args : Array Value} {below : List Frame} {meth : Method} {c : Code} {H : Heap} {locs : List Loc} {cells slots : Nat} {Q : State → Prop}
variable {X : aX} {D : va_G} {ac : FieldType → ClassId} {b0 : Nat} {kv : UInt32 → Value} {M pc : Nat} {ls : Array Slot} {rest : List Value} {h : aH}
theorem Racp (C0 : SC p s m args meth c X D ac b0 kv M) (hml : ls.size = mL M) {idx : Nat} {Mc : Nat} {nest : Bool} (hf : fM (mK M) idx = some (4, Mc, nest)) (hR : HR D ac b0 kv h H) (hS : va_S (fun q => b0 ≤ q) s.heap H locs) {ka kb n0 n1 : Nat} {f g : Nat → Int32} (hka : hg h ka = .inl (.int, n0, .inl f)) (hkb : hg h kb = .inl (.int, n1, .inl g))
    {sp dp n : Int32} (h1 : ¬ sp < 0) (h2 : ¬ dp < 0) (h3 : ¬ n < 0) (h4 : sp.toNatClampNeg + n.toNatClampNeg ≤ n0) (h5 : dp.toNatClampNeg + n.toNatClampNeg ≤ n1)
    (hframes : 1 ≤ R.frames) (hlocals : (rest.map fun v => v.category).sum + 92 ≤ R.locals) (hd : decode (mC M) pc = .ok (.invokestatic idx, 3))
    (hw : Cond.methodLink (cn (mK M)) idx arraycopyName ∈ gtbl) (hw2 : Cond.native arraycopyName ∈ gtbl) (hw3 : Cond.static arraycopyName ∈ gtbl) (hw4 : Cond.initialized "java/lang/System" ∈ gtbl)
    (kk : ∀ (H1 : Heap) (locs1 : List Loc), HR D ac b0 kv (hs h kb (.inl (.int, n1, .inl (va_cpy f g sp.toNatClampNeg dp.toNatClampNeg n.toNatClampNeg)))) H1 → va_S (fun q => b0 ≤ q) s.heap H1 locs1 → W p l e R s m args below meth c H1 locs1 cells slots Q (F0 m (pc + 3) ls rest)) : W p l e R s m args below meth c H locs cells slots Q (F0 m pc ls (.int n :: .int dp :: .ref (b0 + kb) :: .int sp :: .ref (b0 + ka) :: rest)) := by
  obtain ⟨hx, hb, hr, hmL, hown, hts, hlo, hnm, hE⟩ := C0
  obtain ⟨hlta, hgeta⟩ := HR_get hR hka (by intro q; cases q)
  obtain ⟨hltb, hgetb⟩ := HR_get hR hkb (by intro q; cases q)
  have hK := hE.2.1
  have nn : ∀ z : Int32, ¬ z < 0 → z.toInt = (z.toNatClampNeg : Int) := by
    intro z hz
    have hz0 : (0 : Int) ≤ z.toInt := by
      have := Int32.not_lt.mp hz
      simpa using Int32.le_iff_toInt_le.mp this
    show z.toInt = ((z.toInt.toNat : Nat) : Int)
    omega
  intro T hT Y
  have hc0 : H[b0 + ka]? = some (vp_cell (ac .int) (n0, .inl f)) := hR.2.1 ka _ hgeta
  have hc1 : H[b0 + kb]? = some (vp_cell (ac .int) (n1, .inl g)) := hR.2.1 kb _ hgetb
  obtain ⟨t0, ht⟩ := tyK_get (ac := ac) (t := .int) (by decide)
  obtain ⟨-, k0, hk0, cm0, hkk0⟩ := (hK.2 t0 _ ht).1 n0 (fun j => .int (f j))
  obtain ⟨-, k1, hk1, cm1, hkk1⟩ := (hK.2 t0 _ ht).1 n1 (fun j => .int (g j))
  obtain ⟨vm', Y', step⟩ := Y.arraycopy hx hown (hts _ hw) (hts _ hw2) (hts _ hw3) (hts _ hw4) (src := b0 + ka) (dst := b0 + kb) (cs := vp_cell (ac .int) (n0, .inl f)) (cd := vp_cell (ac .int) (n1, .inl g)) (srcPos := sp) (destPos := dp) (n := n) (by rw [hT]; exact hc0) (by rw [hT]; exact hc1)
    (fun _ h => by cases h) (fun _ h => by cases h) (fun h => by cases h) (fun h => by cases h) hk0 hk1 hkk0 hkk1 (by simp [refKind]) h1 h2 h3
    (by rw [nn sp h1, nn n h3]; show ¬ _ > ((arrV (ac .int) n0 (fun j => .int (f j))).slots.size : Int); rw [arrV_size]; omega)
    (by rw [nn dp h2, nn n h3]; show ¬ _ > ((arrV (ac .int) n1 (fun j => .int (g j))).slots.size : Int); rw [arrV_size]; omega)
    (fun vm₁ _ i hi => by
      have e1 : (vp_cell (ac .int) (n0, .inl f)).slots.getD (sp.toNatClampNeg + i) .null = .int (f (sp.toNatClampNeg + i)) := by
        show (arrV (ac .int) n0 (fun j => .int (f j))).slots.getD _ _ = _
        rw [Array.getD_eq_getD_getElem?, arrV_read _ _ (by omega)]
        rfl
      refine ⟨?_, ?_⟩
      · rw [e1]
        rfl
      · rw [e1]
        exact trivial)
    (g := F0 m pc ls (.int n :: .int dp :: .ref (b0 + kb) :: .int sp :: .ref (b0 + ka) :: rest)) rfl (by rw [hmL]; exact hml) (rest := rest) rfl (by rw [hb]; exact hd) hframes (by
      show 2 * 0 + _ + _ ≤ _
      have : nativeFrameWords "java/lang/System" "arraycopy" 5 + 11 ≤ 92 := by decide +kernel
      omega)
  have e1 : copied (vp_cell (ac .int) (n0, .inl f)) (vp_cell (ac .int) (n1, .inl g)) sp dp n = vp_cell (ac .int) (n1, .inl (va_cpy f g sp.toNatClampNeg dp.toNatClampNeg n.toNatClampNeg)) := va_copied (fun z => .int z) (ac .int) (ac .int) f g h4
  rw [e1] at Y' step
  have hl : b0 + kb < H.size := (Array.getElem?_eq_some_iff.mp hc1).1
  generalize hcc : vp_cell (ac .int) (n1, .inl (va_cpy f g sp.toNatClampNeg dp.toNatClampNeg n.toNatClampNeg)) = cc1 at Y' step
  have hheap : ((T.setVm vm').setCell (b0 + kb) cc1).heap = H.setIfInBounds (b0 + kb) cc1 := by rw [← hT]; rfl
  have oq : ∀ q : Nat, q ≠ b0 + kb → (H.setIfInBounds (b0 + kb) cc1)[q]? = H[q]? := fun q hq => by simp [Array.getElem?_setIfInBounds, Ne.symm hq]
  have hsz : (H.setIfInBounds (b0 + kb) cc1).size = H.size := by simp
  have hat : (H.setIfInBounds (b0 + kb) cc1)[b0 + kb]? = some cc1 := by simp [Array.getElem?_setIfInBounds, hl]
  have hR' : HR D ac b0 kv (hs h kb (.inl (.int, n1, .inl (va_cpy f g sp.toNatClampNeg dp.toNatClampNeg n.toNatClampNeg)))) (H.setIfInBounds (b0 + kb) cc1) := HR_put hR hltb (tyOk_l (show FieldType.int ∈ tyL by decide)) (by show _ = some (vp_cell _ _); rw [hat, ← hcc]) hsz oq
  obtain ⟨t, a1, b1⟩ := kk _ _ hR' ⟨by rw [hsz]; exact hS.1, fun q g1 g2 => by
      rw [oq q (fun e => g2 (by rw [e]; exact Nat.le_add_right _ _))]
      exact hS.2.1 q g1 g2, fun q hq => by
      rcases List.mem_append.mp hq with h | h
      · exact hS.2.2 q h
      · obtain ⟨z, -, hz⟩ := List.mem_map.mp h
        rw [← hz]
        exact Nat.le_add_right _ _⟩ _ hheap Y'
  exact ⟨t, step t a1, b1⟩
theorem Rnew (C0 : SC p s m args meth c X D ac b0 kv M) {idx ci : Nat} (hf : fN1 (mK M) idx = some ci) (hR : HR D ac b0 kv h H) (hS : va_S (fun q => b0 ≤ q) s.heap H locs) (hcells : cells + 1 ≤ R.cells) (hslots : slots + fN ci ≤ R.slots) (hd : decode (mC M) pc = .ok (.new idx, 3))
    (kk : ∀ (H1 : Heap), HR D ac b0 kv (hp h (fN ci) (.inr (ci, newF ci))) H1 → va_S (fun q => b0 ≤ q) s.heap H1 locs → W p l e R s m args below meth c H1 locs (cells + 1) (slots + fN ci) Q (F0 m (pc + 3) ls (.ref (b0 + hn h) :: rest))) : W p l e R s m args below meth c H locs cells slots Q (F0 m pc ls rest) := by
  obtain ⟨hx, hb, hr, hmL, hown, hts, hlo, hnm, hE⟩ := C0
  obtain ⟨hci, w1, w2, w3⟩ := fN1_ok hf
  obtain ⟨r, hc⟩ := cls_of hci
  obtain ⟨-, g1, g2, g3, g4, g5, g6⟩ := cls_ok ci r hc
  obtain ⟨C, T, N⟩ := r
  dsimp only at g1 g2 g3 g4
  subst g1; subst g2; subst g3
  have hKn := hE.2.1.1 ci _ hc
  refine W.newcK hx hb hown (hts _ w1) (hts _ w2) (hts _ w3) rfl hd hcells hslots hKn.2.1 hR.2.2 fun H1 kC hkC e1 z1 o1 => ?_
  have hk : ∀ (k : Nat) (x : Nat × va_E), (cW ac b0 kv h)[k]? = some x → H1[x.1]? = H[x.1]? := fun k x hx => o1 x.1 (by rw [← hR.2.2]; exact (hR.2.1 k x hx).lt)
  refine kk H1 (HR_hp hR tyOk_r ((hR.2.1.kept hk).app (fun k x hx => ?_)) (by rw [z1, hR.2.2])) ⟨Nat.le_trans hS.1 (by rw [z1, hR.2.2]; omega), fun x h1 h2 => (o1 x (by rw [← hR.2.2]; exact Nat.lt_of_lt_of_le h1 hS.1)).trans (hS.2.1 x h1 h2), hS.2.2⟩
  have hz : k < 1 := (List.getElem?_eq_some_iff.mp hx).1
  rw [show k = 0 by omega] at hx
  cases hx
  refine ⟨_, hc, (u_born (fty ci) hts (cls_lay hc) hKn hkC e1 g4).to (fun j hj => ?_)⟩
  have hnf : ((newF ci).map (cv b0 kv))[j]? = some (cv b0 kv (dfV (fty ci j))) := by
    have hj' : j < fN ci := hj
    simp [newF, hj']
  have hdf : ∀ ci, ci < 8 → ∀ j, j < fN ci → defaultValue (fty ci j) = dfV (fty ci j) ∧ (dfV (fty ci j) = .int 0 ∨ dfV (fty ci j) = .null) := by decide +kernel
  obtain ⟨d1, d2⟩ := hdf ci hci j hj
  show defaultValue (fty ci j) = vp_V ((newF ci).map (cv b0 kv)) j
  rw [vp_V, List.getD_eq_getElem?_getD, hnf, d1]
  rcases d2 with d2 | d2 <;> rw [d2] <;> rfl
theorem Rnewa (C0 : SC p s m args meth c X D ac b0 kv M) {at_ : ArrayType} {ty : FieldType} (hf : aty at_ = some ty) {n : Int32} (h0 : ¬ n < 0) (hn1 : ¬ 1000 < n.toNatClampNeg) (hR : HR D ac b0 kv h H) (hS : va_S (fun q => b0 ≤ q) s.heap H locs) (hcells : cells + 1 ≤ R.cells) (hslots : slots + n.toNatClampNeg ≤ R.slots) (hd : decode (mC M) pc = .ok (.newarray at_, 2))
    (hw : Cond.arrayClass ty ∈ gtbl)
    (kk : ∀ (H1 : Heap), HR D ac b0 kv (hp h n.toNatClampNeg (.inl (ty, n.toNatClampNeg, .inl (fun _ => 0)))) H1 → va_S (fun q => b0 ≤ q) s.heap H1 locs → W p l e R s m args below meth c H1 locs (cells + 1) (slots + n.toNatClampNeg) Q (F0 m (pc + 2) ls (.ref (b0 + hn h) :: rest))) : W p l e R s m args below meth c H locs cells slots Q (F0 m pc ls (.int n :: rest)) := by
  obtain ⟨hx, hb, hr, hmL, hown, hts, hlo, hnm, hE⟩ := C0
  have hty : newarray.typeOf at_ = ty ∧ ty ∈ tyL ∧ defaultValue ty = .int 0 ∧ componentBytes ty ≤ 4 ∧ refKind ty = false := by
    cases at_ <;> simp only [aty] at hf <;> first | (cases hf; done) | (cases hf; exact ⟨rfl, by decide, rfl, by decide, rfl⟩)
  obtain ⟨e0, hin, hdv, hcb, hrk⟩ := hty
  subst e0
  have hbytes : n.toNatClampNeg * componentBytes (newarray.typeOf at_) ≤ 536870912 := by
    have : n.toNatClampNeg * componentBytes (newarray.typeOf at_) ≤ 1000 * 4 := Nat.mul_le_mul (by omega) hcb
    omega
  refine va_newaK hx hb (hts _ hw) rfl hd rfl h0 rfl hbytes hcells hslots hR.2.2 fun H1 cA e1 z1 o1 hAr hNm => ?_
  obtain ⟨t0, ht⟩ := tyK_get (ac := ac) hin
  have hcA : cA = ac (newarray.typeOf at_) := by
    have h2 := (hE.2.1.2 t0 _ ht).2
    have h3 : s.vm.findClass ("[" ++ (newarray.typeOf at_).toString) = some (ac (newarray.typeOf at_)) := by
      cases at_ <;> first | exact h2 | (simp [aty] at hf; done)
    exact Option.some.inj (hNm.symm.trans h3)
  subst hcA
  have hk : ∀ (k : Nat) (x : Nat × va_E), (cW ac b0 kv h)[k]? = some x → H1[x.1]? = H[x.1]? := fun k x hx => o1 x.1 (by rw [← hR.2.2]; exact (hR.2.1 k x hx).lt)
  refine kk H1 (HR_hp hR (tyOk_l hin) ((hR.2.1.kept hk).app (fun k x hx => ?_)) (by rw [z1, hR.2.2])) ⟨Nat.le_trans hS.1 (by rw [z1, hR.2.2]; omega), fun x h1 h2 => (o1 x (by rw [← hR.2.2]; exact Nat.lt_of_lt_of_le h1 hS.1)).trans (hS.2.1 x h1 h2), hS.2.2⟩
  have hz : k < 1 := (List.getElem?_eq_some_iff.mp hx).1
  rw [show k = 0 by omega] at hx
  cases hx
  show H1[b0 + hn h]? = some (vp_cell _ _)
  rw [vp_cell_i, e1, hdv]
theorem Rnewq (C0 : SC p s m args meth c X D ac b0 kv M) {idx ci : Nat} (hf : fN1 (mK M) idx = some ci) (hci : ci = 1 ∨ ci = 3) {n : Int32} (h0 : ¬ n < 0) (hn1 : ¬ 1000 < n.toNatClampNeg) (hR : HR D ac b0 kv h H) (hS : va_S (fun q => b0 ≤ q) s.heap H locs) (hcells : cells + 1 ≤ R.cells) (hslots : slots + n.toNatClampNeg ≤ R.slots) (hd : decode (mC M) pc = .ok (.anewarray idx, 3))
    (kk : ∀ (H1 : Heap), HR D ac b0 kv (hp h n.toNatClampNeg (.inl (.object (cn ci), n.toNatClampNeg, .inr (fun _ => none)))) H1 → va_S (fun q => b0 ≤ q) s.heap H1 locs → W p l e R s m args below meth c H1 locs (cells + 1) (slots + n.toNatClampNeg) Q (F0 m (pc + 3) ls (.ref (b0 + hn h) :: rest))) : W p l e R s m args below meth c H locs cells slots Q (F0 m pc ls (.int n :: rest)) := by
  obtain ⟨hx, hb, hr, hmL, hown, hts, hlo, hnm, hE⟩ := C0
  obtain ⟨-, w1, -⟩ := fN1_ok hf
  have hov : (Cond.arrayOver (.object (cn ci))).before args s = true := by
    rcases hci with rfl | rfl
    · exact va_AO.use hE.2.2.1.2
    · exact va_AO.use hE.2.2.1.1
  have hin : FieldType.object (cn ci) ∈ tyL := by
    rcases hci with rfl | rfl <;> decide
  refine W.anew hx hb hown (hts _ w1) hov rfl hd rfl h0 (by omega) hcells hslots fun cA kA comp f1 f2 f3 f4 => ?_
  generalize hH1 : H.push ({ cls := cA, slots := Array.replicate n.toNatClampNeg .null, vm := .none } : Cell) = H1
  have z1 : H1.size = H.size + 1 := by rw [← hH1, Array.size_push]
  have e1 : H1[H.size]? = some (arrV cA n.toNatClampNeg (fun _ => .null)) := by rw [← hH1, Array.getElem?_push_size, ← arrV_new]
  have o1 : ∀ q : Nat, q < H.size → H1[q]? = H[q]? := fun q hq => by rw [← hH1, Array.getElem?_push, if_neg (Nat.ne_of_lt hq)]
  obtain ⟨t0, ht⟩ := tyK_get (ac := ac) hin
  have hcA : cA = ac (.object (cn ci)) := by
    obtain ⟨_, _, -, -, -, h3⟩ := (hE.2.1.2 t0 _ ht).2
    exact Option.some.inj (f1.symm.trans h3)
  subst hcA
  have hk : ∀ (k : Nat) (x : Nat × va_E), (cW ac b0 kv h)[k]? = some x → H1[x.1]? = H[x.1]? := fun k x hx => o1 x.1 ((hR.2.1 k x hx).lt)
  rw [hR.2.2] at e1
  have hR1 := HR_hp (z := n.toNatClampNeg) (e := .inl (.object (cn ci), n.toNatClampNeg, .inr (fun _ => none))) hR (tyOk_l hin) ((hR.2.1.kept hk).app (fun k x hx => by
    have hz : k < 1 := (List.getElem?_eq_some_iff.mp hx).1
    rw [show k = 0 by omega] at hx
    cases hx
    show H1[b0 + hn h]? = some (vp_cell _ _)
    rw [vp_cell_q, e1]
    rfl)) z1
  have := kk H1 hR1 ⟨Nat.le_trans hS.1 (by rw [z1]; omega), fun x h1 h2 => (o1 x (Nat.lt_of_lt_of_le h1 hS.1)).trans (hS.2.1 x h1 h2), hS.2.2⟩
  rw [← hR.2.2] at this
  exact this
end Alloc
