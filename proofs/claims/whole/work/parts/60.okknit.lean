/-! ===== knit ===== -/
theorem enR_up {row : vF} {nh nt o t i k t' : Nat} (hi : i < nh) (h7 : nh ≤ 7) (eo : row (34 + t) = nI k) (hk : k < nh) (ht : t < nt) (h10 : nt ≤ 10) (ht' : t' < nt) : enR (upd row (334 + t) (nI i)) 322 nh o t' = if t' = t then enF (nd (2 ^ nh - 1) o) k i else enR row 322 nh o t' := by
  unfold enR
  by_cases e : t' = t
  · subst e
    rw [if_pos rfl, show 322 + 12 + t' = 334 + t' by omega, pk_us, pk_un (by omega), eo]
    unfold enI
    rw [if_neg (nI_m1 (by omega)), nI_clamp (by omega), nI_clamp (by omega)]
  · rw [if_neg e, pk_un (by omega), pk_un (by omega)]
theorem np_one {row : vF} {nh nt o t i : Nat} (kr : kR row nh nt o) (ht : t < nt) (hi : i < nh) : np row nh nt o ≤ np (upd row (334 + t) (nI i)) nh nt o + 1 := by
  obtain ⟨⟨n7, n10⟩, -, hG, -⟩ := id kr
  have k1 := kr.up ht hi
  obtain ⟨k, hk, eo⟩ := hG.2 t ht
  refine ptN_one (t := t) (a := k) (b := i) (up7 ins_lt n7) (fun t ht => enR_lt n7 hG ht) (fun t ht => enR_lt n7 k1.2.2.1 ht) (fun j hj hjt => ?_) (by omega) (by omega) (fun j hj => ?_)
  · rw [enR_up hi n7 eo hk ht n10 hj, if_neg hjt]
  · rw [enR_up hi n7 eo hk ht n10 ht, if_pos rfl] at hj
    unfold enF at hj
    split at hj
    · rw [Nat.zero_testBit] at hj; cases hj
    · exact or2_bit.mp hj
theorem one_none {row : vF} {nh nt o : Nat} (kr : kR row nh nt o) (h : 2 < np row nh nt o) : ∀ t, t < nt → q1F row nh nt o t = none := by
  intro t ht
  refine fo_no _ _ (fun i _ hi => ?_)
  have := np_one (i := i) kr ht (by omega)
  exact if_neg (fun z => by omega)
theorem two_none {row : vF} {nh nt o : Nat} (kr : kR row nh nt o) (h : 3 < np row nh nt o) : ∀ t, t < nt → q2F row nh nt o t = none := by
  intro t ht
  refine fo_no _ _ (fun i _ hi => ?_)
  have := np_one (i := i) kr ht (by omega)
  unfold q2h
  split
  · exact fo_no _ _ (fun j h1 h2 => one_none (kr.up ht (by omega)) (by omega) j (by omega))
  · rfl
theorem cls_one {X : aX} {d : Nat} {h : aH} {x : vX} {row f : vF} {nh nt o s fs : Nat} (hK : ∀ f kt kh, cX (ks h (nd (2 ^ nh - 1) o) nt f kt kh) x) (kr : kR row nh nt o) (hf : ∀ t, t < nt → f t = nI (enR row 322 nh o t)) (e1 : x.1.1.1 = nI nh) (e2 : x.1.1.2 = nI nt) (ea : ∀ t, t < nt → x.2.1.1 t = row (12 + t)) (eo : ∀ t, t < nt → x.1.2.2.1 t = row (34 + t)) (hs9 : s < 2) (hfs : fs ≤ nt) : ∀ kt kh, (oneF row nh nt o fs = none → ∃ kt' kh', (∀ j, j ≠ s → kt' j = kt j ∧ kh' j = kh j) ∧ aEv X (d + 7) m_Ht_knitsBy [.ref 0, .int (nI 1), .int (nI fs), .int (nI s)] (ks h (nd (2 ^ nh - 1) o) nt f kt kh) (some (.int 0)) (ks h (nd (2 ^ nh - 1) o) nt f kt' kh')) ∧ ∀ a, oneF row nh nt o fs = some a → ∃ f' kt' kh', ((∀ j, j ≠ s → kt' j = kt j ∧ kh' j = kh j) ∧ kt' s = nI a.1 ∧ kh' s = nI a.2.1) ∧ aEv X (d + 7) m_Ht_knitsBy [.ref 0, .int (nI 1), .int (nI fs), .int (nI s)] (ks h (nd (2 ^ nh - 1) o) nt f kt kh) (some (.int 1)) (ks h (nd (2 ^ nh - 1) o) nt f' kt' kh') := by
  intro kt0 kh0
  obtain ⟨⟨n7, n10⟩, ⟨b1, b2, b3, b4, b5⟩, hG, d9⟩ := id kr
  refine ev_knits (X := X) (d := d + 3) (mr := 1) (Q := q1F row nh nt o) (Post := fun t a kt kh => (∀ j, j ≠ s → kt j = kt0 j ∧ kh j = kh0 j) ∧ kt s = nI t ∧ kh s = nI a.1) (OKk := fun kt kh => ∀ j, j ≠ s → kt j = kt0 j ∧ kh j = kh0 j) hK n7 n10 hG hf e2 ea hs9 (by omega) (by omega) hfs (fun hp => one_none kr hp) (fun t ht z => fo_no _ _ (fun i _ _ => if_neg (fun w => w.1.1 z))) (fun t ht hft hz => ?_) kt0 kh0 (fun j _ => ⟨rfl, rfl⟩)
  obtain ⟨k, hk, ek⟩ := hG.2 t ht
  refine ev_send (X := X) (d := d + 4) (mr := 1) (s := s) (row := row) (k := k) (Q := q0 row nh nt o t) (Post := fun i _ kt kh => (∀ j, j ≠ s → kt j = kt0 j ∧ kh j = kh0 j) ∧ kt s = nI t ∧ kh s = nI i) (OKk := fun kt kh => ∀ j, j ≠ s → kt j = kt0 j ∧ kh j = kh0 j) hK n7 n10 b5 e1 ht (ea t ht) (d9 t ht) ((eo t ht).trans ek) hk (by omega) (by omega) hs9 (fun kt kh i ok j hj => by rw [pk_un hj, pk_un hj]; exact ok j hj) (fun i hi z => if_neg (fun w => by rw [z] at w; exact absurd w.1.2 (by decide))) (fun i hi sd kt kh ok kts khs => ?_)
  have E := ev_knits0 (X := X) (d := d + 1) (row := upd row (334 + t) (nI i)) (f := upd f t (nI (enF (nd (2 ^ nh - 1) o) k i))) (kt := kt) (kh := kh) (l2 := nI (t + 1)) (l3 := nI (s + 1)) hK n7 n10 (kr.up ht hi).2.2.1 (fun t' ht' => by
    rw [enR_up hi n7 ek hk ht n10 ht']
    by_cases e : t' = t
    · rw [if_pos e, e, pk_us]
    · rw [if_neg e, pk_un e]; exact hf t' ht')
  refine ⟨fun z => ⟨kt, kh, ok, ?_⟩, fun a z => ⟨upd f t (nI (enF (nd (2 ^ nh - 1) o) k i)), kt, kh, ⟨ok, kts, khs⟩, ?_⟩⟩
  · have n1 : ¬ np (upd row (334 + t) (nI i)) nh nt o ≤ 1 := fun w => by
      unfold q0 at z
      rw [if_pos ⟨⟨hz, sd⟩, w⟩] at z
      cases z
    rw [if_neg n1] at E
    exact E
  · have n1 : np (upd row (334 + t) (nI i)) nh nt o ≤ 1 := by
      unfold q0 at z
      by_cases w : np (upd row (334 + t) (nI i)) nh nt o ≤ 1
      · exact w
      · rw [if_neg (fun y => w y.2)] at z; cases z
    rw [if_pos n1] at E
    exact E
theorem cls_two {X : aX} {d : Nat} {h : aH} {x : vX} {row f : vF} {nh nt o : Nat} (hK : ∀ f kt kh, cX (ks h (nd (2 ^ nh - 1) o) nt f kt kh) x) (kr : kR row nh nt o) (hf : ∀ t, t < nt → f t = nI (enR row 322 nh o t)) (e1 : x.1.1.1 = nI nh) (e2 : x.1.1.2 = nI nt) (ea : ∀ t, t < nt → x.2.1.1 t = row (12 + t)) (eo : ∀ t, t < nt → x.1.2.2.1 t = row (34 + t)) : ∀ kt kh, (twoF row nh nt o = none → ∃ kt' kh', True ∧ aEv X (d + 9) m_Ht_knitsBy [.ref 0, .int (nI 2), .int (nI 0), .int (nI 0)] (ks h (nd (2 ^ nh - 1) o) nt f kt kh) (some (.int 0)) (ks h (nd (2 ^ nh - 1) o) nt f kt' kh')) ∧ ∀ a, twoF row nh nt o = some a → ∃ f' kt' kh', (kt' 0 = nI a.1 ∧ kh' 0 = nI a.2.1 ∧ kt' 1 = nI a.2.2.1 ∧ kh' 1 = nI a.2.2.2.1) ∧ aEv X (d + 9) m_Ht_knitsBy [.ref 0, .int (nI 2), .int (nI 0), .int (nI 0)] (ks h (nd (2 ^ nh - 1) o) nt f kt kh) (some (.int 1)) (ks h (nd (2 ^ nh - 1) o) nt f' kt' kh') := by
  intro kt0 kh0
  obtain ⟨⟨n7, n10⟩, ⟨b1, b2, b3, b4, b5⟩, hG, d9⟩ := id kr
  refine ev_knits (X := X) (d := d + 5) (mr := 2) (s := 0) (fs := 0) (Q := q2F row nh nt o) (Post := fun t a kt kh => kt 0 = nI t ∧ kh 0 = nI a.1 ∧ kt 1 = nI a.2.1 ∧ kh 1 = nI a.2.2.1) (OKk := fun _ _ => True) hK n7 n10 hG hf e2 ea (by omega) (by omega) (by omega) (by omega) (fun hp => two_none kr hp) (fun t ht z => fo_no _ _ (fun i _ _ => if_neg (fun w => w.1 z))) (fun t ht hft hz => ?_) kt0 kh0 trivial
  obtain ⟨k, hk, ek⟩ := hG.2 t ht
  refine ev_send (X := X) (d := d + 6) (mr := 2) (s := 0) (row := row) (k := k) (Q := q2h row nh nt o t) (Post := fun i a kt kh => kt 0 = nI t ∧ kh 0 = nI i ∧ kt 1 = nI a.1 ∧ kh 1 = nI a.2.1) (OKk := fun _ _ => True) hK n7 n10 b5 e1 ht (ea t ht) (d9 t ht) ((eo t ht).trans ek) hk (by omega) (by omega) (by omega) (fun _ _ _ _ => trivial) (fun i hi z => if_neg (fun w => by rw [z] at w; exact absurd w.2 (by decide))) (fun i hi sd kt kh ok kts khs => ?_)
  have k1 := kr.up (h := i) ht hi
  have E := cls_one (X := X) (d := d) (row := upd row (334 + t) (nI i)) (f := upd f t (nI (enF (nd (2 ^ nh - 1) o) k i))) (s := 1) (fs := t + 1) hK k1 (fun t' ht' => by
    rw [enR_up hi n7 ek hk ht n10 ht']
    by_cases e : t' = t
    · rw [if_pos e, e, pk_us]
    · rw [if_neg e, pk_un e]; exact hf t' ht') e1 e2 (fun t' ht' => by rw [pk_un (by omega)]; exact ea t' ht') (fun t' ht' => by rw [pk_un (by omega)]; exact eo t' ht') (by omega) (by omega) kt kh
  have e : q2h row nh nt o t i = oneF (upd row (334 + t) (nI i)) nh nt o (t + 1) := if_pos ⟨hz, sd⟩
  rw [e]
  refine ⟨fun z => ?_, fun a z => ?_⟩
  · obtain ⟨kt', kh', -, B⟩ := E.1 z
    exact ⟨kt', kh', trivial, B⟩
  · obtain ⟨f', kt', kh', ⟨c1, c2, c3⟩, B⟩ := E.2 a z
    exact ⟨f', kt', kh', ⟨(c1 0 (by omega)).1.trans kts, (c1 0 (by omega)).2.trans khs, c2, c3⟩, B⟩
/-- how both come out -/
def knR (many : Int32) (kt kh st : vF) : Prop := many = 0 ∨ many = -1 ∨ (many = 1 ∧ kt 0 = st 0 ∧ kh 0 = st 2) ∨ (many = 2 ∧ (kt 0 = st 0 ∧ kt 1 = st 1) ∧ kh 0 = st 2 ∧ kh 1 = st 3)
theorem tried_k {T : vT} {row : vF} {nh nt : Nat} {s : vS} (hT : tR T row nh nt) (hs0 : stR row 0 nh nt s) : ∃ o, s.2.2.1 = nI o ∧ kR (fb_put row (fun t => row (0 + t)) 322 22) nh nt o ∧ (∀ t, t < nt → (fb_put row (fun t => row (0 + t)) 322 22) (334 + t) = (fb_put row (fun t => row (0 + t)) 322 22) (12 + t)) ∧ (∀ k, k < 322 → (fb_put row (fun t => row (0 + t)) 322 22) k = row k) := by
  obtain ⟨⟨n7, n10⟩, ⟨t1, t2, t3, t4⟩, t5⟩ := id hT
  obtain ⟨g1, g2, g3, ⟨o, o1, o2⟩, g5, g6⟩ := id hs0
  have lo : ∀ k, k < 322 → (fb_put row (fun t => row (0 + t)) 322 22) k = row k := fun k hk => fb_put_out (by omega)
  have hi : ∀ k, k < 22 → (fb_put row (fun t => row (0 + t)) 322 22) (322 + k) = row k := fun k hk => by rw [fb_put_in (by omega) (by omega), Nat.add_sub_cancel_left, Nat.zero_add]
  have a0 : ∀ t, t < nt → row (12 + t) = -1 ∨ ∃ j, j < nh ∧ row (12 + t) = nI j := fun t ht => by
    have := g1 t ht
    rw [Nat.zero_add] at this
    rw [← this.1]; exact this.2.2.1
  refine ⟨o, o2, ⟨⟨n7, n10⟩, ⟨by rw [lo 22 (by omega)]; exact t3, by rw [lo 23 (by omega)]; exact t4, by rw [lo 0 (by omega)]; exact g2.symm.trans o2, by rw [show 322 = 322 + 0 from rfl, hi 0 (by omega)]; exact g2.symm.trans o2, o1⟩, ⟨fun t ht => ?_, fun t ht => ?_⟩, fun t ht => ?_⟩, fun t ht => ?_, lo⟩
  · rw [Nat.add_assoc, hi (12 + t) (by omega)]; exact a0 t ht
  · rw [lo (34 + t) (by omega)]; exact (t5 t ht).2.2.2
  · rw [lo (12 + t) (by omega)]; exact a0 t ht
  · rw [show 334 + t = 322 + (12 + t) by omega, hi (12 + t) (by omega), lo (12 + t) (by omega)]
theorem kn5 (a : Int32) : (a < -1 ∧ ¬ -1 ≤ a) ∨ (¬ a < -1 ∧ -1 ≤ a ∧ ¬ a < 4 ∧ ¬ a ≤ 3) ∨ a = -1 ∨ a = 0 ∨ a = 1 ∨ a = 2 ∨ a = 3 := by
  have e1 : (-1 : Int32).toInt = -1 := rfl
  have e2 : (4 : Int32).toInt = 4 := rfl
  have e3 : (3 : Int32).toInt = 3 := rfl
  have e4 : (0 : Int32).toInt = 0 := rfl
  have e5 : (1 : Int32).toInt = 1 := rfl
  have e6 : (2 : Int32).toInt = 2 := rfl
  simp only [fa_lt, fa_le, fa_eq, e1, e2, e3, e4, e5, e6]
  omega
theorem ks_id {h : aH} {ins nt : Nat} {f kt kh : vF} (h1 : hg h 27 = .inl (.int, 2, .inl kt)) (h2 : hg h 28 = .inl (.int, 2, .inl kh)) : ks h ins nt f kt kh = putN h ins nt f := by
  unfold ks
  rw [hs_id ((putN_ne (by omega)).trans h1), hs_id ((putN_ne (by omega)).trans h2)]
theorem gs_id {g : aH} {row l st : vF} (h1 : hg g 94 = .inl (.int, 4, .inl st)) : hs (hs g 74 (.inl (.int, 344, .inl row))) 93 (.inl (.int, 7, .inl l)) = gs g row l st := by
  unfold gs
  rw [hs_id ((hg_hs_ne _ _ (by omega)).trans ((hg_hs_ne _ _ (by omega)).trans h1))]
theorem wid_cong {en en' : Nat → Nat} {r w : Nat} : ∀ n, (∀ t, t < n → en t = en' t) → wid en r w n = wid en' r w n
  | 0, _ => rfl
  | n + 1, h => by
    unfold wid
    rw [wid_cong n (fun t ht => h t (by omega)), h n (by omega)]
theorem ptN_cong {en en' : Nat → Nat} {w nt : Nat} (h : ∀ t, t < nt → en t = en' t) : ptN en w nt = ptN en' w nt := by
  have e : reC en w nt = reC en' w nt := by
    funext v
    unfold reC
    rw [show (fun s => wid en s w nt) = (fun s => wid en' s w nt) from funext (fun s => wid_cong nt h)]
  unfold ptN
  rw [e]
theorem knit_pair {X : aX} {dc dm : Nat} {h : aH} {x : vX} {y : vY} (hx : cX h x) (hr : Rel x y) : ∃ (many : Int32) (kt kh : vF) (h1 : aH) (row' : vF), frX h h1 ∧ cX h1 x ∧ (hg h1 27 = .inl (.int, 2, .inl kt) ∧ hg h1 28 = .inl (.int, 2, .inl kh)) ∧ (∀ k, k < 322 → row' k = y.1.1 k) ∧ aEv X (dc + 11) m_Ht_fewestToKnit [.ref 0] h (some (.int many)) h1 ∧ ∀ g l1, cY g y → ∃ g' st, knR many kt kh st ∧ frY g g' ∧ cY g' ((row', y.1.2), y.2) ∧ hg g' 94 = .inl (.int, 4, .inl st) ∧ ∀ res l2, isd l2 = false → aRun (aEv X (dm + 6)) X m_Mod_knit res 59 [.ref 73, l1, l2] [.int many] g' → aRun (aEv X (dm + 6)) X m_Mod_knit res 17 [.ref 73, l1, l2] [] g := by
  obtain ⟨nh, nt, hT, hs0⟩ := hr.tR
  obtain ⟨⟨n7, n10⟩, ⟨t1, t2, t3, t4⟩, t5⟩ := id hT
  obtain ⟨at0, -⟩ := Rel.at0 hs0
  obtain ⟨o', oo, kr, hrr, lo⟩ := tried_k hT hs0
  obtain ⟨o, f, o1, o2, o3, o4, o5⟩ := draw_ok (r := 13) (by omega) hx hT hx.s13 hs0.a.1
  have hoo : o' = o := (nI_eq (lt31 kr.2.1.2.2.2.2 (by omega)) (lt31 o1 (by omega))).mp (oo.symm.trans o3)
  subst hoo
  obtain ⟨kt0, kh0, h27, h28⟩ := hx.2.2.2.2.2.2.2.2.2.2.1
  have hK : ∀ f kt kh, cX (ks h (nd (2 ^ nh - 1) o') nt f kt kh) x := fun f kt kh => ks_c hx hr.pi
  have h34 : ∀ t, t < nt → fb_put y.1.1 (fun t => y.1.1 (0 + t)) 322 22 (322 + 12 + t) = y.1.1 (12 + t) := fun t ht => by rw [show 322 + 12 + t = 334 + t by omega, hrr t ht, lo _ (by omega)]
  have eR : ∀ t, t < nt → enR (fb_put y.1.1 (fun t => y.1.1 (0 + t)) 322 22) 322 nh o' t = enR y.1.1 0 nh o' t := fun t ht => by
    unfold enR
    rw [h34 t ht, lo (34 + t) (by omega), Nat.zero_add]
  have eR0 : ∀ t, t < nt → enR (fb_put y.1.1 (fun t => y.1.1 (0 + t)) 322 22) 0 nh o' t = enR (fb_put y.1.1 (fun t => y.1.1 (0 + t)) 322 22) 322 nh o' t := fun t ht => by
    unfold enR
    rw [h34 t ht, Nat.zero_add, lo (12 + t) (by omega)]
  generalize hrow1 : fb_put y.1.1 (fun t => y.1.1 (0 + t)) 322 22 = row1 at kr hrr lo eR eR0 h34
  have hf : ∀ t, t < nt → f t = nI (enR row1 322 nh o' t) := fun t ht => by rw [eR t ht]; exact o4 t ht
  have ea : ∀ t, t < nt → x.2.1.1 t = row1 (12 + t) := fun t ht => by rw [lo _ (by omega)]; exact (at0 t ht).1
  have eo : ∀ t, t < nt → x.1.2.2.1 t = row1 (34 + t) := fun t ht => by rw [lo _ (by omega)]; exact (t5 t ht).2.2.1
  have g0 : gR row1 0 nh nt := ⟨fun t ht => by rw [Nat.zero_add]; exact kr.2.2.2 t ht, kr.2.2.1.2⟩
  have pl : np row1 nh nt o' ≤ 7 := ptN_le
  have kid := ks_id (ins := nd (2 ^ nh - 1) o') (nt := nt) (f := f) h27 h28
  obtain ⟨i9, t9, f0, h25, h26⟩ := hx.2.2.2.2.2.2.2.2.2.1
  -- the reference up to its count of pieces
  have M0 : ∀ X d g l1, cY g y → ∃ l st0, hg g 94 = .inl (.int, 4, .inl st0) ∧ ∀ res l2, (if 2 ≤ np row1 nh nt o' then aRun (aEv X (d + 6)) X m_Mod_knit res 36 [.ref 73, l1, l2] [] (gs g row1 l st0) else aRun (aEv X (d + 6)) X m_Mod_knit res 59 [.ref 73, l1, l2] [.int 0] (gs g row1 l st0)) → aRun (aEv X (d + 6)) X m_Mod_knit res 17 [.ref 73, l1, l2] [] g := by
    intro X d g l1 hy
    obtain ⟨st0, hst⟩ := hy.st
    have L := ev_layTried (X := X) (d := d + 2) (N := 0) (n9 := 0) hy.mob hy.row (by omega) rfl rfl
    rw [hrow1] at L
    have hy1 := hy.u_row (f := row1)
    obtain ⟨l0, hl0⟩ := hy1.lk
    have W := ev_piecesIn (X := X) (d := d + 3) (b := 0) (aw := 0) (b9 := 0) (a9 := 0) hy1.mob hy1.row hl0 rfl rfl kr.2.1.1 kr.2.1.2.1 n7 n10 (by omega) kr.2.1.2.2.1 (up7 o1 n7) (by omega) g0.1 g0.2
    have E := ptN_eq (o := o') (aw := 0) n7 g0
    rw [nd_0, ptN_cong eR0] at E
    have W : aEv X (d + 6) m_Mod_piecesIn [.ref 73, .int 0, .int 0] (hs g 74 (.inl (.int, 344, .inl row1))) (some (.int (nI (np row1 nh nt o')))) (hs (hs g 74 (.inl (.int, 344, .inl row1))) 93 (.inl (.int, 7, .inl (lnkF l0 (lkR row1 0 nt (o' ||| 0)))))) := by
      unfold np; rw [E]; exact W
    rw [gs_id hst] at W
    refine ⟨lnkF l0 (lkR row1 0 nt (o' ||| 0)), st0, hst, fun res l2 K => ?_⟩
    obtain ⟨a1, b', c, d9, e, f9, hm, hy2⟩ := cY_un hy
    have hm2 : hg (hs g 74 (.inl (.int, 344, .inl row1))) 73 = _ := (hg_hs_ne _ _ (by omega)).trans hm
    simp (disch := omega) only [x_Mod_knit_17, x_Mod_knit_18, x_Mod_knit_19, x_Mod_knit_22, x_Mod_knit_23, x_Mod_knit_24, x_Mod_knit_25, x_Mod_knit_28, x_Mod_knit_29, x_Mod_knit_32, x_Mod_knit_33, if_true, if_false, ↓reduceIte, hg_hs, Nat.reduceEqDiff, and_true, true_and, and_self, false_and, and_false, not_true_eq_false, not_false_eq_true, Option.toList_some, Option.toList_none, List.cons_append, List.nil_append, List.length_nil, List.length_cons, Nat.zero_le, Nat.reduceAdd, Nat.reduceLeDiff, Nat.zero_add, nb0, nb1, ne_eq, i10, i01, eq_self, vni, nbi, rcv_e, rcE_mk, Nat.reduceLT, mKe_Ht_arrowOf, mKe_Ht_as, mKe_Ht_ask, mKe_Ht_back, mKe_Ht_beginAsTold, mKe_Ht_behind, mKe_Ht_commons, mKe_Ht_count, mKe_Ht_drop, mKe_Ht_erase, mKe_Ht_fault, mKe_Ht_fewestToKnit, mKe_Ht_find, mKe_Ht_foretell, mKe_Ht_forget, mKe_Ht_hang, mKe_Ht_hangs, mKe_Ht_hooks, mKe_Ht_house, mKe_Ht_housesOnRings, mKe_Ht_hungOnAll, mKe_Ht_isHouse, mKe_Ht_isOnRing, mKe_Ht_isThing, mKe_Ht_join, mKe_Ht_keep, mKe_Ht_kinds, mKe_Ht_knit, mKe_Ht_knitsBy, mKe_Ht_knitsBySending, mKe_Ht_leaves, mKe_Ht_patch, mKe_Ht_pieces, mKe_Ht_refusedAsSuch, mKe_Ht_remember, mKe_Ht_rings, mKe_Ht_seen, mKe_Ht_send, mKe_Ht_thing, mKe_Ht_thingsWhere, mKe_Ht_trade, mKe_Ht_undo, mKe_Ht_unhang, mKe_Ht_want, mKe_Ht_way, mKe_Ht_whole, mKe_Ht_worthOfAll, mKe_Ht_wouldUntie, mKe_Ht_write, mKe_Ht_year, mKe_Mod_allHanging, mKe_Mod_allWorth, mKe_Mod_arrow, mKe_Mod_as, mKe_Mod_ask, mKe_Mod_back, mKe_Mod_behind, mKe_Mod_commons, mKe_Mod_copyRow, mKe_Mod_count, mKe_Mod_drop, mKe_Mod_erase, mKe_Mod_fault, mKe_Mod_find, mKe_Mod_forget, mKe_Mod_hang, mKe_Mod_hangs, mKe_Mod_hooks, mKe_Mod_house, mKe_Mod_isHouse, mKe_Mod_isLoosed, mKe_Mod_isSendable, mKe_Mod_isThing, mKe_Mod_isTied, mKe_Mod_isWord, mKe_Mod_join, mKe_Mod_keep, mKe_Mod_keepPast, mKe_Mod_kindHere, mKe_Mod_kinds, mKe_Mod_knit, mKe_Mod_knitsByOne, mKe_Mod_knitsByTwo, mKe_Mod_layLinks, mKe_Mod_layTried, mKe_Mod_leaves, mKe_Mod_nextToken, mKe_Mod_noSuch, mKe_Mod_number, mKe_Mod_partOf, mKe_Mod_passes, mKe_Mod_patch, mKe_Mod_pieces, mKe_Mod_piecesIn, mKe_Mod_reads, mKe_Mod_readsClause, mKe_Mod_readsCommons, mKe_Mod_readsHouse, mKe_Mod_readsThing, mKe_Mod_readsWant, mKe_Mod_rings, mKe_Mod_seen, mKe_Mod_send, mKe_Mod_sendsOne, mKe_Mod_thing, mKe_Mod_thingsAt, mKe_Mod_thingsOf, mKe_Mod_tiedOnes, mKe_Mod_trade, mKe_Mod_undo, mKe_Mod_unhang, mKe_Mod_want, mKe_Mod_way, mKe_Mod_wears, mKe_Mod_whole, mKe_Mod_write, mKe_Mod_year, mKe_Net_draw, mKe_Net_endsOf, mKe_Net_links, mKe_Net_openLinkOutOf, mKe_Net_parts, mKe_Net_reachOf, mKe_Net_stepsBetween, mKe_Net_weightOfAllReached, mKe_Net_widened, mKe_Rack_firstPlaceOf, mKe_Rack_putAllBehind, mKe_Rack_putAt, mKe_Rack_renew, mKe_Rack_takeAway, mKe_Rack_takeFrom, mKe_Sights_fits, mKe_Sights_fittingKinds, mKe_Sights_note, mKe_State_beginAs, mKe_State_copyFrom, mKe_State_inside, mKe_State_leaveUntied, mKe_State_passYears, mKe_State_tied, mKe_State_wearAll, mKe_State_wearOf, mKe_Text_isWord, mKe_Text_kindHere, mKe_Text_readClause, mKe_Text_readHouse, mKe_Text_readInto, mKe_Text_readNumber, mKe_Text_readThing, mKe_Text_readWant, mKe_Text_step, mKe_Told_addThing, mKe_Told_clearAll, mKe_Told_copyFrom, ladd, laddr, lmul, lmulr, lsubr, ladm1, nI_add, n_lt_l, l_lt_n, n_le_l, l_le_n, n_eq_l, l_eq_n, n_eq_m1, m1_eq_n, aL_l, aS_l, aL_n, aS_n, nI_ltI, nI_leI, nI_eq, shl1, or0, fa_or, hm, hm2, cal L, cal W]
    exact K
  have hgfr : ∀ g r l st, frY g (gs g r l st) := fun g r l st => gs_fr
  have D : aEv X (dc + 10) m_Net_draw [.ref 25, .ref 1, .ref 13] h none (ks h (nd (2 ^ nh - 1) o') nt f kt0 kh0) := by rw [kid]; exact o5 X (dc + 8)
  have z0 : ¬ (2 : Int32) < 0 := by decide
  have z1 : ¬ (2 : Int32) < 1 := by decide
  have z2 : ¬ (2 : Int32) < 2 := by decide
  have z3 : (2 : Int32) < 3 := by decide
  have s01 : (0 + 1 : Int32) = 1 := by decide
  have s11 : (1 + 1 : Int32) = 2 := by decide
  have s21 : (2 + 1 : Int32) = 3 := by decide
  have E0 := ev_knits0 (X := X) (d := dc + 6) (row := row1) (f := f) (kt := kt0) (kh := kh0) (l2 := 0) (l3 := 0) hK n7 n10 kr.2.2.1 hf
  have c0' : ∀ f kt kh, hg (ks h (nd (2 ^ nh - 1) o') nt f kt kh) 0 = _ := fun f kt kh => (hK f kt kh).c0
  by_cases q0 : np row1 nh nt o' ≤ 1
  · rw [if_pos q0] at E0
    have B : aEv X (dc + 10) m_Ht_knitsBy [.ref 0, .int 0, .int 0, .int 0] (ks h (nd (2 ^ nh - 1) o') nt f kt0 kh0) (some (.int 1)) (ks h (nd (2 ^ nh - 1) o') nt f kt0 kh0) := E0
    refine ⟨0, kt0, kh0, ks h (nd (2 ^ nh - 1) o') nt f kt0 kh0, row1, ks_fr, hK _ _ _, ⟨ks_27, ks_28⟩, lo, ?_, fun g l1 hy => ?_⟩
    · refine ev_in mL_Ht_fewestToKnit rfl (Nat.le_of_ble_eq_true rfl) rfl ?_; show aRun _ _ _ _ 0 [.ref 0, jkV] [] h
      simp (disch := omega) only [x_Ht_fewestToKnit_0, x_Ht_fewestToKnit_1, x_Ht_fewestToKnit_4, x_Ht_fewestToKnit_5, x_Ht_fewestToKnit_8, x_Ht_fewestToKnit_9, x_Ht_fewestToKnit_12, x_Ht_fewestToKnit_15, x_Ht_fewestToKnit_17, x_Ht_fewestToKnit_18, x_Ht_fewestToKnit_19, x_Ht_fewestToKnit_22, x_Ht_fewestToKnit_23, x_Ht_fewestToKnit_24, x_Ht_fewestToKnit_25, x_Ht_fewestToKnit_26, x_Ht_fewestToKnit_29, x_Ht_fewestToKnit_32, x_Ht_fewestToKnit_33, x_Ht_fewestToKnit_34, x_Ht_fewestToKnit_37, x_Ht_fewestToKnit_40, x_Ht_fewestToKnit_41, x_Ht_fewestToKnit_16j, x_Ht_fewestToKnit_16i, if_true, if_false, ↓reduceIte, hg_hs, Nat.reduceEqDiff, and_true, true_and, and_self, false_and, and_false, not_true_eq_false, not_false_eq_true, Option.toList_some, Option.toList_none, List.cons_append, List.nil_append, List.length_nil, List.length_cons, Nat.zero_le, Nat.reduceAdd, Nat.reduceLeDiff, Nat.zero_add, nb0, nb1, ne_eq, i10, i01, eq_self, vni, nbi, rcv_e, rcE_mk, Nat.reduceLT, mKe_Ht_arrowOf, mKe_Ht_as, mKe_Ht_ask, mKe_Ht_back, mKe_Ht_beginAsTold, mKe_Ht_behind, mKe_Ht_commons, mKe_Ht_count, mKe_Ht_drop, mKe_Ht_erase, mKe_Ht_fault, mKe_Ht_fewestToKnit, mKe_Ht_find, mKe_Ht_foretell, mKe_Ht_forget, mKe_Ht_hang, mKe_Ht_hangs, mKe_Ht_hooks, mKe_Ht_house, mKe_Ht_housesOnRings, mKe_Ht_hungOnAll, mKe_Ht_isHouse, mKe_Ht_isOnRing, mKe_Ht_isThing, mKe_Ht_join, mKe_Ht_keep, mKe_Ht_kinds, mKe_Ht_knit, mKe_Ht_knitsBy, mKe_Ht_knitsBySending, mKe_Ht_leaves, mKe_Ht_patch, mKe_Ht_pieces, mKe_Ht_refusedAsSuch, mKe_Ht_remember, mKe_Ht_rings, mKe_Ht_seen, mKe_Ht_send, mKe_Ht_thing, mKe_Ht_thingsWhere, mKe_Ht_trade, mKe_Ht_undo, mKe_Ht_unhang, mKe_Ht_want, mKe_Ht_way, mKe_Ht_whole, mKe_Ht_worthOfAll, mKe_Ht_wouldUntie, mKe_Ht_write, mKe_Ht_year, mKe_Mod_allHanging, mKe_Mod_allWorth, mKe_Mod_arrow, mKe_Mod_as, mKe_Mod_ask, mKe_Mod_back, mKe_Mod_behind, mKe_Mod_commons, mKe_Mod_copyRow, mKe_Mod_count, mKe_Mod_drop, mKe_Mod_erase, mKe_Mod_fault, mKe_Mod_find, mKe_Mod_forget, mKe_Mod_hang, mKe_Mod_hangs, mKe_Mod_hooks, mKe_Mod_house, mKe_Mod_isHouse, mKe_Mod_isLoosed, mKe_Mod_isSendable, mKe_Mod_isThing, mKe_Mod_isTied, mKe_Mod_isWord, mKe_Mod_join, mKe_Mod_keep, mKe_Mod_keepPast, mKe_Mod_kindHere, mKe_Mod_kinds, mKe_Mod_knit, mKe_Mod_knitsByOne, mKe_Mod_knitsByTwo, mKe_Mod_layLinks, mKe_Mod_layTried, mKe_Mod_leaves, mKe_Mod_nextToken, mKe_Mod_noSuch, mKe_Mod_number, mKe_Mod_partOf, mKe_Mod_passes, mKe_Mod_patch, mKe_Mod_pieces, mKe_Mod_piecesIn, mKe_Mod_reads, mKe_Mod_readsClause, mKe_Mod_readsCommons, mKe_Mod_readsHouse, mKe_Mod_readsThing, mKe_Mod_readsWant, mKe_Mod_rings, mKe_Mod_seen, mKe_Mod_send, mKe_Mod_sendsOne, mKe_Mod_thing, mKe_Mod_thingsAt, mKe_Mod_thingsOf, mKe_Mod_tiedOnes, mKe_Mod_trade, mKe_Mod_undo, mKe_Mod_unhang, mKe_Mod_want, mKe_Mod_way, mKe_Mod_wears, mKe_Mod_whole, mKe_Mod_write, mKe_Mod_year, mKe_Net_draw, mKe_Net_endsOf, mKe_Net_links, mKe_Net_openLinkOutOf, mKe_Net_parts, mKe_Net_reachOf, mKe_Net_stepsBetween, mKe_Net_weightOfAllReached, mKe_Net_widened, mKe_Rack_firstPlaceOf, mKe_Rack_putAllBehind, mKe_Rack_putAt, mKe_Rack_renew, mKe_Rack_takeAway, mKe_Rack_takeFrom, mKe_Sights_fits, mKe_Sights_fittingKinds, mKe_Sights_note, mKe_State_beginAs, mKe_State_copyFrom, mKe_State_inside, mKe_State_leaveUntied, mKe_State_passYears, mKe_State_tied, mKe_State_wearAll, mKe_State_wearOf, mKe_Text_isWord, mKe_Text_kindHere, mKe_Text_readClause, mKe_Text_readHouse, mKe_Text_readInto, mKe_Text_readNumber, mKe_Text_readThing, mKe_Text_readWant, mKe_Text_step, mKe_Told_addThing, mKe_Told_clearAll, mKe_Told_copyFrom, gF_6_0, pF_6_0, gF_6_1, pF_6_1, gF_6_2, pF_6_2, gF_6_3, pF_6_3, gF_6_4, pF_6_4, gF_6_5, pF_6_5, gF_6_6, pF_6_6, gF_6_7, pF_6_7, gF_6_8, pF_6_8, gF_6_9, pF_6_9, gF_6_10, pF_6_10, gF_6_11, pF_6_11, gF_6_12, pF_6_12, gF_6_13, pF_6_13, gF_6_14, pF_6_14, hx.c0, h25, cal D, c0', z0, cal B]
    · obtain ⟨l, st0, hst, K⟩ := M0 X dm g l1 hy
      refine ⟨gs g row1 l st0, st0, Or.inl rfl, gs_fr, gs_c hy, gs_94, fun res l2 _ k => K res l2 ?_⟩
      rw [if_neg (by omega)]
      exact k
  · have q2 : 2 ≤ np row1 nh nt o' := by omega
    rw [if_neg q0] at E0
    have B0 : aEv X (dc + 10) m_Ht_knitsBy [.ref 0, .int 0, .int 0, .int 0] (ks h (nd (2 ^ nh - 1) o') nt f kt0 kh0) (some (.int 0)) (ks h (nd (2 ^ nh - 1) o') nt f kt0 kh0) := E0
    have C1 := cls_one (X := X) (d := dc + 3) (s := 0) (fs := 0) hK kr hf t1 t2 ea eo (by omega) (by omega) kt0 kh0
    have M1 : ∀ g l st, cY g y → (oneF row1 nh nt o' 0 = none → ∃ l', aEv X (dm + 6) m_Mod_knitsByOne [.ref 73] (gs g row1 l st) (some (.int 0)) (gs g row1 l' st)) ∧ ∀ a, oneF row1 nh nt o' 0 = some a → ∃ l', aEv X (dm + 6) m_Mod_knitsByOne [.ref 73] (gs g row1 l st) (some (.int 1)) (gs g (upd row1 (334 + a.1) (nI a.2.1)) l' (upd (upd st 0 (nI a.1)) 2 (nI a.2.1))) := by
      intro g l st hy
      obtain ⟨k1, k2⟩ := lp_mone (X := X) (d := dm + 1) (st := st) hy.mob kr hrr nt 0 (by omega) l
      have head : ∀ r g', aRun (aEv X (dm + 5)) X m_Mod_knitsByOne (r, g') 2 [.ref 73, .int (nI 0)] [] (gs g row1 l st) → aEv X (dm + 6) m_Mod_knitsByOne [.ref 73] (gs g row1 l st) r g' := by
        intro r g' B
        refine ev_in mL_Mod_knitsByOne rfl (Nat.le_of_ble_eq_true rfl) rfl ?_; show aRun _ _ _ _ 0 [.ref 73, jkV] [] (gs g row1 l st)
        simp only [x_Mod_knitsByOne_0, x_Mod_knitsByOne_1j, x_Mod_knitsByOne_1i]
        exact B
      exact ⟨fun z => (k1 z).imp (fun l' B => head _ _ B), fun a z => (k2 a z).imp (fun l' B => head _ _ B)⟩
    have M2 : ∀ g l st, cY g y → (twoF row1 nh nt o' = none → ∃ l', aEv X (dm + 6) m_Mod_knitsByTwo [.ref 73] (gs g row1 l st) (some (.int 0)) (gs g row1 l' st)) ∧ ∀ a, twoF row1 nh nt o' = some a → ∃ l', aEv X (dm + 6) m_Mod_knitsByTwo [.ref 73] (gs g row1 l st) (some (.int 1)) (gs g (upd (upd row1 (334 + a.1) (nI a.2.1)) (334 + a.2.2.1) (nI a.2.2.2.1)) l' (upd (upd (upd (upd st 1 (nI a.2.2.1)) 3 (nI a.2.2.2.1)) 0 (nI a.1)) 2 (nI a.2.1))) := by
      intro g l st hy
      obtain ⟨k1, k2⟩ := lp_mtwo3 (X := X) (d := dm + 1) (st := st) hy.mob kr hrr nt 0 (by omega) l jkV jkV rfl rfl
      have head : ∀ r g', aRun (aEv X (dm + 5)) X m_Mod_knitsByTwo (r, g') 2 [.ref 73, .int (nI 0), jkV, jkV] [] (gs g row1 l st) → aEv X (dm + 6) m_Mod_knitsByTwo [.ref 73] (gs g row1 l st) r g' := by
        intro r g' B
        refine ev_in mL_Mod_knitsByTwo rfl (Nat.le_of_ble_eq_true rfl) rfl ?_; show aRun _ _ _ _ 0 [.ref 73, jkV, jkV, jkV] [] (gs g row1 l st)
        simp only [x_Mod_knitsByTwo_0, x_Mod_knitsByTwo_1j, x_Mod_knitsByTwo_1i]
        exact B
      exact ⟨fun z => (k1 z).imp (fun l' B => head _ _ B), fun a z => (k2 a z).imp (fun l' B => head _ _ B)⟩
    have hmg : ∀ g, cY g y → ∃ e, ∀ r l st, hg (gs g r l st) 73 = .inr (7, e) := fun g hy => by
      obtain ⟨u, ln, sm, a1, b1, c1, d1, e1, f1, hm⟩ := hy.mob
      exact ⟨_, fun r l st => gs_73.trans hm⟩
    cases q1 : oneF row1 nh nt o' 0 with
    | some a =>
      obtain ⟨f1, kt1, kh1, ⟨-, c2, c3⟩, B1⟩ := C1.2 a q1
      have B1 : aEv X (dc + 10) m_Ht_knitsBy [.ref 0, .int 1, .int 0, .int 0] (ks h (nd (2 ^ nh - 1) o') nt f kt0 kh0) (some (.int 1)) (ks h (nd (2 ^ nh - 1) o') nt f1 kt1 kh1) := B1
      refine ⟨1, kt1, kh1, ks h (nd (2 ^ nh - 1) o') nt f1 kt1 kh1, upd row1 (334 + a.1) (nI a.2.1), ks_fr, hK _ _ _, ⟨ks_27, ks_28⟩, fun k hk => (pk_un (by omega)).trans (lo k hk), ?_, fun g l1 hy => ?_⟩
      · refine ev_in mL_Ht_fewestToKnit rfl (Nat.le_of_ble_eq_true rfl) rfl ?_; show aRun _ _ _ _ 0 [.ref 0, jkV] [] h
        simp (disch := omega) only [x_Ht_fewestToKnit_0, x_Ht_fewestToKnit_1, x_Ht_fewestToKnit_4, x_Ht_fewestToKnit_5, x_Ht_fewestToKnit_8, x_Ht_fewestToKnit_9, x_Ht_fewestToKnit_12, x_Ht_fewestToKnit_15, x_Ht_fewestToKnit_17, x_Ht_fewestToKnit_18, x_Ht_fewestToKnit_19, x_Ht_fewestToKnit_22, x_Ht_fewestToKnit_23, x_Ht_fewestToKnit_24, x_Ht_fewestToKnit_25, x_Ht_fewestToKnit_26, x_Ht_fewestToKnit_29, x_Ht_fewestToKnit_32, x_Ht_fewestToKnit_33, x_Ht_fewestToKnit_34, x_Ht_fewestToKnit_37, x_Ht_fewestToKnit_40, x_Ht_fewestToKnit_41, x_Ht_fewestToKnit_16j, x_Ht_fewestToKnit_16i, if_true, if_false, ↓reduceIte, hg_hs, Nat.reduceEqDiff, and_true, true_and, and_self, false_and, and_false, not_true_eq_false, not_false_eq_true, Option.toList_some, Option.toList_none, List.cons_append, List.nil_append, List.length_nil, List.length_cons, Nat.zero_le, Nat.reduceAdd, Nat.reduceLeDiff, Nat.zero_add, nb0, nb1, ne_eq, i10, i01, eq_self, vni, nbi, rcv_e, rcE_mk, Nat.reduceLT, mKe_Ht_arrowOf, mKe_Ht_as, mKe_Ht_ask, mKe_Ht_back, mKe_Ht_beginAsTold, mKe_Ht_behind, mKe_Ht_commons, mKe_Ht_count, mKe_Ht_drop, mKe_Ht_erase, mKe_Ht_fault, mKe_Ht_fewestToKnit, mKe_Ht_find, mKe_Ht_foretell, mKe_Ht_forget, mKe_Ht_hang, mKe_Ht_hangs, mKe_Ht_hooks, mKe_Ht_house, mKe_Ht_housesOnRings, mKe_Ht_hungOnAll, mKe_Ht_isHouse, mKe_Ht_isOnRing, mKe_Ht_isThing, mKe_Ht_join, mKe_Ht_keep, mKe_Ht_kinds, mKe_Ht_knit, mKe_Ht_knitsBy, mKe_Ht_knitsBySending, mKe_Ht_leaves, mKe_Ht_patch, mKe_Ht_pieces, mKe_Ht_refusedAsSuch, mKe_Ht_remember, mKe_Ht_rings, mKe_Ht_seen, mKe_Ht_send, mKe_Ht_thing, mKe_Ht_thingsWhere, mKe_Ht_trade, mKe_Ht_undo, mKe_Ht_unhang, mKe_Ht_want, mKe_Ht_way, mKe_Ht_whole, mKe_Ht_worthOfAll, mKe_Ht_wouldUntie, mKe_Ht_write, mKe_Ht_year, mKe_Mod_allHanging, mKe_Mod_allWorth, mKe_Mod_arrow, mKe_Mod_as, mKe_Mod_ask, mKe_Mod_back, mKe_Mod_behind, mKe_Mod_commons, mKe_Mod_copyRow, mKe_Mod_count, mKe_Mod_drop, mKe_Mod_erase, mKe_Mod_fault, mKe_Mod_find, mKe_Mod_forget, mKe_Mod_hang, mKe_Mod_hangs, mKe_Mod_hooks, mKe_Mod_house, mKe_Mod_isHouse, mKe_Mod_isLoosed, mKe_Mod_isSendable, mKe_Mod_isThing, mKe_Mod_isTied, mKe_Mod_isWord, mKe_Mod_join, mKe_Mod_keep, mKe_Mod_keepPast, mKe_Mod_kindHere, mKe_Mod_kinds, mKe_Mod_knit, mKe_Mod_knitsByOne, mKe_Mod_knitsByTwo, mKe_Mod_layLinks, mKe_Mod_layTried, mKe_Mod_leaves, mKe_Mod_nextToken, mKe_Mod_noSuch, mKe_Mod_number, mKe_Mod_partOf, mKe_Mod_passes, mKe_Mod_patch, mKe_Mod_pieces, mKe_Mod_piecesIn, mKe_Mod_reads, mKe_Mod_readsClause, mKe_Mod_readsCommons, mKe_Mod_readsHouse, mKe_Mod_readsThing, mKe_Mod_readsWant, mKe_Mod_rings, mKe_Mod_seen, mKe_Mod_send, mKe_Mod_sendsOne, mKe_Mod_thing, mKe_Mod_thingsAt, mKe_Mod_thingsOf, mKe_Mod_tiedOnes, mKe_Mod_trade, mKe_Mod_undo, mKe_Mod_unhang, mKe_Mod_want, mKe_Mod_way, mKe_Mod_wears, mKe_Mod_whole, mKe_Mod_write, mKe_Mod_year, mKe_Net_draw, mKe_Net_endsOf, mKe_Net_links, mKe_Net_openLinkOutOf, mKe_Net_parts, mKe_Net_reachOf, mKe_Net_stepsBetween, mKe_Net_weightOfAllReached, mKe_Net_widened, mKe_Rack_firstPlaceOf, mKe_Rack_putAllBehind, mKe_Rack_putAt, mKe_Rack_renew, mKe_Rack_takeAway, mKe_Rack_takeFrom, mKe_Sights_fits, mKe_Sights_fittingKinds, mKe_Sights_note, mKe_State_beginAs, mKe_State_copyFrom, mKe_State_inside, mKe_State_leaveUntied, mKe_State_passYears, mKe_State_tied, mKe_State_wearAll, mKe_State_wearOf, mKe_Text_isWord, mKe_Text_kindHere, mKe_Text_readClause, mKe_Text_readHouse, mKe_Text_readInto, mKe_Text_readNumber, mKe_Text_readThing, mKe_Text_readWant, mKe_Text_step, mKe_Told_addThing, mKe_Told_clearAll, mKe_Told_copyFrom, gF_6_0, pF_6_0, gF_6_1, pF_6_1, gF_6_2, pF_6_2, gF_6_3, pF_6_3, gF_6_4, pF_6_4, gF_6_5, pF_6_5, gF_6_6, pF_6_6, gF_6_7, pF_6_7, gF_6_8, pF_6_8, gF_6_9, pF_6_9, gF_6_10, pF_6_10, gF_6_11, pF_6_11, gF_6_12, pF_6_12, gF_6_13, pF_6_13, gF_6_14, pF_6_14, hx.c0, h25, cal D, c0', z0, z1, s01, cal B0, cal B1]
      · obtain ⟨l, st0, hst, K⟩ := M0 X dm g l1 hy
        obtain ⟨l', N⟩ := (M1 g l st0 hy).2 a q1
        obtain ⟨e9, hm⟩ := hmg g hy
        refine ⟨gs g (upd row1 (334 + a.1) (nI a.2.1)) l' (upd (upd st0 0 (nI a.1)) 2 (nI a.2.1)), _, Or.inr (Or.inr (Or.inl ⟨rfl, ?_, ?_⟩)), gs_fr, gs_c hy, gs_94, fun res l2 _ k => K res l2 ?_⟩
        · rw [pk_un (by omega), pk_us]; exact c2
        · rw [pk_us]; exact c3
        · rw [if_pos q2]
          simp (disch := omega) only [x_Mod_knit_36, x_Mod_knit_37, x_Mod_knit_40, x_Mod_knit_43, x_Mod_knit_44, if_true, if_false, ↓reduceIte, hg_hs, Nat.reduceEqDiff, and_true, true_and, and_self, false_and, and_false, not_true_eq_false, not_false_eq_true, Option.toList_some, Option.toList_none, List.cons_append, List.nil_append, List.length_nil, List.length_cons, Nat.zero_le, Nat.reduceAdd, Nat.reduceLeDiff, Nat.zero_add, nb0, nb1, ne_eq, i10, i01, eq_self, vni, nbi, rcv_e, rcE_mk, Nat.reduceLT, mKe_Ht_arrowOf, mKe_Ht_as, mKe_Ht_ask, mKe_Ht_back, mKe_Ht_beginAsTold, mKe_Ht_behind, mKe_Ht_commons, mKe_Ht_count, mKe_Ht_drop, mKe_Ht_erase, mKe_Ht_fault, mKe_Ht_fewestToKnit, mKe_Ht_find, mKe_Ht_foretell, mKe_Ht_forget, mKe_Ht_hang, mKe_Ht_hangs, mKe_Ht_hooks, mKe_Ht_house, mKe_Ht_housesOnRings, mKe_Ht_hungOnAll, mKe_Ht_isHouse, mKe_Ht_isOnRing, mKe_Ht_isThing, mKe_Ht_join, mKe_Ht_keep, mKe_Ht_kinds, mKe_Ht_knit, mKe_Ht_knitsBy, mKe_Ht_knitsBySending, mKe_Ht_leaves, mKe_Ht_patch, mKe_Ht_pieces, mKe_Ht_refusedAsSuch, mKe_Ht_remember, mKe_Ht_rings, mKe_Ht_seen, mKe_Ht_send, mKe_Ht_thing, mKe_Ht_thingsWhere, mKe_Ht_trade, mKe_Ht_undo, mKe_Ht_unhang, mKe_Ht_want, mKe_Ht_way, mKe_Ht_whole, mKe_Ht_worthOfAll, mKe_Ht_wouldUntie, mKe_Ht_write, mKe_Ht_year, mKe_Mod_allHanging, mKe_Mod_allWorth, mKe_Mod_arrow, mKe_Mod_as, mKe_Mod_ask, mKe_Mod_back, mKe_Mod_behind, mKe_Mod_commons, mKe_Mod_copyRow, mKe_Mod_count, mKe_Mod_drop, mKe_Mod_erase, mKe_Mod_fault, mKe_Mod_find, mKe_Mod_forget, mKe_Mod_hang, mKe_Mod_hangs, mKe_Mod_hooks, mKe_Mod_house, mKe_Mod_isHouse, mKe_Mod_isLoosed, mKe_Mod_isSendable, mKe_Mod_isThing, mKe_Mod_isTied, mKe_Mod_isWord, mKe_Mod_join, mKe_Mod_keep, mKe_Mod_keepPast, mKe_Mod_kindHere, mKe_Mod_kinds, mKe_Mod_knit, mKe_Mod_knitsByOne, mKe_Mod_knitsByTwo, mKe_Mod_layLinks, mKe_Mod_layTried, mKe_Mod_leaves, mKe_Mod_nextToken, mKe_Mod_noSuch, mKe_Mod_number, mKe_Mod_partOf, mKe_Mod_passes, mKe_Mod_patch, mKe_Mod_pieces, mKe_Mod_piecesIn, mKe_Mod_reads, mKe_Mod_readsClause, mKe_Mod_readsCommons, mKe_Mod_readsHouse, mKe_Mod_readsThing, mKe_Mod_readsWant, mKe_Mod_rings, mKe_Mod_seen, mKe_Mod_send, mKe_Mod_sendsOne, mKe_Mod_thing, mKe_Mod_thingsAt, mKe_Mod_thingsOf, mKe_Mod_tiedOnes, mKe_Mod_trade, mKe_Mod_undo, mKe_Mod_unhang, mKe_Mod_want, mKe_Mod_way, mKe_Mod_wears, mKe_Mod_whole, mKe_Mod_write, mKe_Mod_year, mKe_Net_draw, mKe_Net_endsOf, mKe_Net_links, mKe_Net_openLinkOutOf, mKe_Net_parts, mKe_Net_reachOf, mKe_Net_stepsBetween, mKe_Net_weightOfAllReached, mKe_Net_widened, mKe_Rack_firstPlaceOf, mKe_Rack_putAllBehind, mKe_Rack_putAt, mKe_Rack_renew, mKe_Rack_takeAway, mKe_Rack_takeFrom, mKe_Sights_fits, mKe_Sights_fittingKinds, mKe_Sights_note, mKe_State_beginAs, mKe_State_copyFrom, mKe_State_inside, mKe_State_leaveUntied, mKe_State_passYears, mKe_State_tied, mKe_State_wearAll, mKe_State_wearOf, mKe_Text_isWord, mKe_Text_kindHere, mKe_Text_readClause, mKe_Text_readHouse, mKe_Text_readInto, mKe_Text_readNumber, mKe_Text_readThing, mKe_Text_readWant, mKe_Text_step, mKe_Told_addThing, mKe_Told_clearAll, mKe_Told_copyFrom, hm, cal N]
          exact k
    | none =>
      obtain ⟨kt1, kh1, -, B1⟩ := C1.1 q1
      have B1 : aEv X (dc + 10) m_Ht_knitsBy [.ref 0, .int 1, .int 0, .int 0] (ks h (nd (2 ^ nh - 1) o') nt f kt0 kh0) (some (.int 0)) (ks h (nd (2 ^ nh - 1) o') nt f kt1 kh1) := B1
      have C2 := cls_two (X := X) (d := dc + 1) hK kr hf t1 t2 ea eo kt1 kh1
      cases q3 : twoF row1 nh nt o' with
      | some a =>
        obtain ⟨f2, kt2, kh2, ⟨c1, c2, c3, c4⟩, B2⟩ := C2.2 a q3
        have B2 : aEv X (dc + 10) m_Ht_knitsBy [.ref 0, .int 2, .int 0, .int 0] (ks h (nd (2 ^ nh - 1) o') nt f kt1 kh1) (some (.int 1)) (ks h (nd (2 ^ nh - 1) o') nt f2 kt2 kh2) := B2
        refine ⟨2, kt2, kh2, ks h (nd (2 ^ nh - 1) o') nt f2 kt2 kh2, upd (upd row1 (334 + a.1) (nI a.2.1)) (334 + a.2.2.1) (nI a.2.2.2.1), ks_fr, hK _ _ _, ⟨ks_27, ks_28⟩, fun k hk => (pk_un (by omega)).trans ((pk_un (by omega)).trans (lo k hk)), ?_, fun g l1 hy => ?_⟩
        · refine ev_in mL_Ht_fewestToKnit rfl (Nat.le_of_ble_eq_true rfl) rfl ?_; show aRun _ _ _ _ 0 [.ref 0, jkV] [] h
          simp (disch := omega) only [x_Ht_fewestToKnit_0, x_Ht_fewestToKnit_1, x_Ht_fewestToKnit_4, x_Ht_fewestToKnit_5, x_Ht_fewestToKnit_8, x_Ht_fewestToKnit_9, x_Ht_fewestToKnit_12, x_Ht_fewestToKnit_15, x_Ht_fewestToKnit_17, x_Ht_fewestToKnit_18, x_Ht_fewestToKnit_19, x_Ht_fewestToKnit_22, x_Ht_fewestToKnit_23, x_Ht_fewestToKnit_24, x_Ht_fewestToKnit_25, x_Ht_fewestToKnit_26, x_Ht_fewestToKnit_29, x_Ht_fewestToKnit_32, x_Ht_fewestToKnit_33, x_Ht_fewestToKnit_34, x_Ht_fewestToKnit_37, x_Ht_fewestToKnit_40, x_Ht_fewestToKnit_41, x_Ht_fewestToKnit_16j, x_Ht_fewestToKnit_16i, if_true, if_false, ↓reduceIte, hg_hs, Nat.reduceEqDiff, and_true, true_and, and_self, false_and, and_false, not_true_eq_false, not_false_eq_true, Option.toList_some, Option.toList_none, List.cons_append, List.nil_append, List.length_nil, List.length_cons, Nat.zero_le, Nat.reduceAdd, Nat.reduceLeDiff, Nat.zero_add, nb0, nb1, ne_eq, i10, i01, eq_self, vni, nbi, rcv_e, rcE_mk, Nat.reduceLT, mKe_Ht_arrowOf, mKe_Ht_as, mKe_Ht_ask, mKe_Ht_back, mKe_Ht_beginAsTold, mKe_Ht_behind, mKe_Ht_commons, mKe_Ht_count, mKe_Ht_drop, mKe_Ht_erase, mKe_Ht_fault, mKe_Ht_fewestToKnit, mKe_Ht_find, mKe_Ht_foretell, mKe_Ht_forget, mKe_Ht_hang, mKe_Ht_hangs, mKe_Ht_hooks, mKe_Ht_house, mKe_Ht_housesOnRings, mKe_Ht_hungOnAll, mKe_Ht_isHouse, mKe_Ht_isOnRing, mKe_Ht_isThing, mKe_Ht_join, mKe_Ht_keep, mKe_Ht_kinds, mKe_Ht_knit, mKe_Ht_knitsBy, mKe_Ht_knitsBySending, mKe_Ht_leaves, mKe_Ht_patch, mKe_Ht_pieces, mKe_Ht_refusedAsSuch, mKe_Ht_remember, mKe_Ht_rings, mKe_Ht_seen, mKe_Ht_send, mKe_Ht_thing, mKe_Ht_thingsWhere, mKe_Ht_trade, mKe_Ht_undo, mKe_Ht_unhang, mKe_Ht_want, mKe_Ht_way, mKe_Ht_whole, mKe_Ht_worthOfAll, mKe_Ht_wouldUntie, mKe_Ht_write, mKe_Ht_year, mKe_Mod_allHanging, mKe_Mod_allWorth, mKe_Mod_arrow, mKe_Mod_as, mKe_Mod_ask, mKe_Mod_back, mKe_Mod_behind, mKe_Mod_commons, mKe_Mod_copyRow, mKe_Mod_count, mKe_Mod_drop, mKe_Mod_erase, mKe_Mod_fault, mKe_Mod_find, mKe_Mod_forget, mKe_Mod_hang, mKe_Mod_hangs, mKe_Mod_hooks, mKe_Mod_house, mKe_Mod_isHouse, mKe_Mod_isLoosed, mKe_Mod_isSendable, mKe_Mod_isThing, mKe_Mod_isTied, mKe_Mod_isWord, mKe_Mod_join, mKe_Mod_keep, mKe_Mod_keepPast, mKe_Mod_kindHere, mKe_Mod_kinds, mKe_Mod_knit, mKe_Mod_knitsByOne, mKe_Mod_knitsByTwo, mKe_Mod_layLinks, mKe_Mod_layTried, mKe_Mod_leaves, mKe_Mod_nextToken, mKe_Mod_noSuch, mKe_Mod_number, mKe_Mod_partOf, mKe_Mod_passes, mKe_Mod_patch, mKe_Mod_pieces, mKe_Mod_piecesIn, mKe_Mod_reads, mKe_Mod_readsClause, mKe_Mod_readsCommons, mKe_Mod_readsHouse, mKe_Mod_readsThing, mKe_Mod_readsWant, mKe_Mod_rings, mKe_Mod_seen, mKe_Mod_send, mKe_Mod_sendsOne, mKe_Mod_thing, mKe_Mod_thingsAt, mKe_Mod_thingsOf, mKe_Mod_tiedOnes, mKe_Mod_trade, mKe_Mod_undo, mKe_Mod_unhang, mKe_Mod_want, mKe_Mod_way, mKe_Mod_wears, mKe_Mod_whole, mKe_Mod_write, mKe_Mod_year, mKe_Net_draw, mKe_Net_endsOf, mKe_Net_links, mKe_Net_openLinkOutOf, mKe_Net_parts, mKe_Net_reachOf, mKe_Net_stepsBetween, mKe_Net_weightOfAllReached, mKe_Net_widened, mKe_Rack_firstPlaceOf, mKe_Rack_putAllBehind, mKe_Rack_putAt, mKe_Rack_renew, mKe_Rack_takeAway, mKe_Rack_takeFrom, mKe_Sights_fits, mKe_Sights_fittingKinds, mKe_Sights_note, mKe_State_beginAs, mKe_State_copyFrom, mKe_State_inside, mKe_State_leaveUntied, mKe_State_passYears, mKe_State_tied, mKe_State_wearAll, mKe_State_wearOf, mKe_Text_isWord, mKe_Text_kindHere, mKe_Text_readClause, mKe_Text_readHouse, mKe_Text_readInto, mKe_Text_readNumber, mKe_Text_readThing, mKe_Text_readWant, mKe_Text_step, mKe_Told_addThing, mKe_Told_clearAll, mKe_Told_copyFrom, gF_6_0, pF_6_0, gF_6_1, pF_6_1, gF_6_2, pF_6_2, gF_6_3, pF_6_3, gF_6_4, pF_6_4, gF_6_5, pF_6_5, gF_6_6, pF_6_6, gF_6_7, pF_6_7, gF_6_8, pF_6_8, gF_6_9, pF_6_9, gF_6_10, pF_6_10, gF_6_11, pF_6_11, gF_6_12, pF_6_12, gF_6_13, pF_6_13, gF_6_14, pF_6_14, hx.c0, h25, cal D, c0', z0, z1, z2, s01, s11, cal B0, cal B1, cal B2]
        · obtain ⟨l, st0, hst, K⟩ := M0 X dm g l1 hy
          obtain ⟨l', N⟩ := (M1 g l st0 hy).1 q1
          obtain ⟨l'', N2⟩ := (M2 g l' st0 hy).2 a q3
          obtain ⟨e9, hm⟩ := hmg g hy
          refine ⟨gs g (upd (upd row1 (334 + a.1) (nI a.2.1)) (334 + a.2.2.1) (nI a.2.2.2.1)) l'' (upd (upd (upd (upd st0 1 (nI a.2.2.1)) 3 (nI a.2.2.2.1)) 0 (nI a.1)) 2 (nI a.2.1)), _, Or.inr (Or.inr (Or.inr ⟨rfl, ⟨?_, ?_⟩, ?_, ?_⟩)), gs_fr, gs_c hy, gs_94, fun res l2 _ k => K res l2 ?_⟩
          · rw [pk_un (by omega), pk_us]; exact c1
          · rw [pk_un (by omega), pk_un (by omega), pk_un (by omega), pk_us]; exact c3
          · rw [pk_us]; exact c2
          · rw [pk_un (by omega), pk_un (by omega), pk_us]; exact c4
          · rw [if_pos q2]
            simp (disch := omega) only [x_Mod_knit_36, x_Mod_knit_37, x_Mod_knit_40, x_Mod_knit_43, x_Mod_knit_44, x_Mod_knit_47, x_Mod_knit_48, x_Mod_knit_51, x_Mod_knit_54, x_Mod_knit_55, if_true, if_false, ↓reduceIte, hg_hs, Nat.reduceEqDiff, and_true, true_and, and_self, false_and, and_false, not_true_eq_false, not_false_eq_true, Option.toList_some, Option.toList_none, List.cons_append, List.nil_append, List.length_nil, List.length_cons, Nat.zero_le, Nat.reduceAdd, Nat.reduceLeDiff, Nat.zero_add, nb0, nb1, ne_eq, i10, i01, eq_self, vni, nbi, rcv_e, rcE_mk, Nat.reduceLT, mKe_Ht_arrowOf, mKe_Ht_as, mKe_Ht_ask, mKe_Ht_back, mKe_Ht_beginAsTold, mKe_Ht_behind, mKe_Ht_commons, mKe_Ht_count, mKe_Ht_drop, mKe_Ht_erase, mKe_Ht_fault, mKe_Ht_fewestToKnit, mKe_Ht_find, mKe_Ht_foretell, mKe_Ht_forget, mKe_Ht_hang, mKe_Ht_hangs, mKe_Ht_hooks, mKe_Ht_house, mKe_Ht_housesOnRings, mKe_Ht_hungOnAll, mKe_Ht_isHouse, mKe_Ht_isOnRing, mKe_Ht_isThing, mKe_Ht_join, mKe_Ht_keep, mKe_Ht_kinds, mKe_Ht_knit, mKe_Ht_knitsBy, mKe_Ht_knitsBySending, mKe_Ht_leaves, mKe_Ht_patch, mKe_Ht_pieces, mKe_Ht_refusedAsSuch, mKe_Ht_remember, mKe_Ht_rings, mKe_Ht_seen, mKe_Ht_send, mKe_Ht_thing, mKe_Ht_thingsWhere, mKe_Ht_trade, mKe_Ht_undo, mKe_Ht_unhang, mKe_Ht_want, mKe_Ht_way, mKe_Ht_whole, mKe_Ht_worthOfAll, mKe_Ht_wouldUntie, mKe_Ht_write, mKe_Ht_year, mKe_Mod_allHanging, mKe_Mod_allWorth, mKe_Mod_arrow, mKe_Mod_as, mKe_Mod_ask, mKe_Mod_back, mKe_Mod_behind, mKe_Mod_commons, mKe_Mod_copyRow, mKe_Mod_count, mKe_Mod_drop, mKe_Mod_erase, mKe_Mod_fault, mKe_Mod_find, mKe_Mod_forget, mKe_Mod_hang, mKe_Mod_hangs, mKe_Mod_hooks, mKe_Mod_house, mKe_Mod_isHouse, mKe_Mod_isLoosed, mKe_Mod_isSendable, mKe_Mod_isThing, mKe_Mod_isTied, mKe_Mod_isWord, mKe_Mod_join, mKe_Mod_keep, mKe_Mod_keepPast, mKe_Mod_kindHere, mKe_Mod_kinds, mKe_Mod_knit, mKe_Mod_knitsByOne, mKe_Mod_knitsByTwo, mKe_Mod_layLinks, mKe_Mod_layTried, mKe_Mod_leaves, mKe_Mod_nextToken, mKe_Mod_noSuch, mKe_Mod_number, mKe_Mod_partOf, mKe_Mod_passes, mKe_Mod_patch, mKe_Mod_pieces, mKe_Mod_piecesIn, mKe_Mod_reads, mKe_Mod_readsClause, mKe_Mod_readsCommons, mKe_Mod_readsHouse, mKe_Mod_readsThing, mKe_Mod_readsWant, mKe_Mod_rings, mKe_Mod_seen, mKe_Mod_send, mKe_Mod_sendsOne, mKe_Mod_thing, mKe_Mod_thingsAt, mKe_Mod_thingsOf, mKe_Mod_tiedOnes, mKe_Mod_trade, mKe_Mod_undo, mKe_Mod_unhang, mKe_Mod_want, mKe_Mod_way, mKe_Mod_wears, mKe_Mod_whole, mKe_Mod_write, mKe_Mod_year, mKe_Net_draw, mKe_Net_endsOf, mKe_Net_links, mKe_Net_openLinkOutOf, mKe_Net_parts, mKe_Net_reachOf, mKe_Net_stepsBetween, mKe_Net_weightOfAllReached, mKe_Net_widened, mKe_Rack_firstPlaceOf, mKe_Rack_putAllBehind, mKe_Rack_putAt, mKe_Rack_renew, mKe_Rack_takeAway, mKe_Rack_takeFrom, mKe_Sights_fits, mKe_Sights_fittingKinds, mKe_Sights_note, mKe_State_beginAs, mKe_State_copyFrom, mKe_State_inside, mKe_State_leaveUntied, mKe_State_passYears, mKe_State_tied, mKe_State_wearAll, mKe_State_wearOf, mKe_Text_isWord, mKe_Text_kindHere, mKe_Text_readClause, mKe_Text_readHouse, mKe_Text_readInto, mKe_Text_readNumber, mKe_Text_readThing, mKe_Text_readWant, mKe_Text_step, mKe_Told_addThing, mKe_Told_clearAll, mKe_Told_copyFrom, hm, cal N, cal N2]
            exact k
      | none =>
        obtain ⟨kt2, kh2, -, B2⟩ := C2.1 q3
        have B2 : aEv X (dc + 10) m_Ht_knitsBy [.ref 0, .int 2, .int 0, .int 0] (ks h (nd (2 ^ nh - 1) o') nt f kt1 kh1) (some (.int 0)) (ks h (nd (2 ^ nh - 1) o') nt f kt2 kh2) := B2
        refine ⟨-1, kt2, kh2, ks h (nd (2 ^ nh - 1) o') nt f kt2 kh2, row1, ks_fr, hK _ _ _, ⟨ks_27, ks_28⟩, lo, ?_, fun g l1 hy => ?_⟩
        · refine ev_in mL_Ht_fewestToKnit rfl (Nat.le_of_ble_eq_true rfl) rfl ?_; show aRun _ _ _ _ 0 [.ref 0, jkV] [] h
          simp (disch := omega) only [x_Ht_fewestToKnit_0, x_Ht_fewestToKnit_1, x_Ht_fewestToKnit_4, x_Ht_fewestToKnit_5, x_Ht_fewestToKnit_8, x_Ht_fewestToKnit_9, x_Ht_fewestToKnit_12, x_Ht_fewestToKnit_15, x_Ht_fewestToKnit_17, x_Ht_fewestToKnit_18, x_Ht_fewestToKnit_19, x_Ht_fewestToKnit_22, x_Ht_fewestToKnit_23, x_Ht_fewestToKnit_24, x_Ht_fewestToKnit_25, x_Ht_fewestToKnit_26, x_Ht_fewestToKnit_29, x_Ht_fewestToKnit_32, x_Ht_fewestToKnit_33, x_Ht_fewestToKnit_34, x_Ht_fewestToKnit_37, x_Ht_fewestToKnit_40, x_Ht_fewestToKnit_41, x_Ht_fewestToKnit_16j, x_Ht_fewestToKnit_16i, if_true, if_false, ↓reduceIte, hg_hs, Nat.reduceEqDiff, and_true, true_and, and_self, false_and, and_false, not_true_eq_false, not_false_eq_true, Option.toList_some, Option.toList_none, List.cons_append, List.nil_append, List.length_nil, List.length_cons, Nat.zero_le, Nat.reduceAdd, Nat.reduceLeDiff, Nat.zero_add, nb0, nb1, ne_eq, i10, i01, eq_self, vni, nbi, rcv_e, rcE_mk, Nat.reduceLT, mKe_Ht_arrowOf, mKe_Ht_as, mKe_Ht_ask, mKe_Ht_back, mKe_Ht_beginAsTold, mKe_Ht_behind, mKe_Ht_commons, mKe_Ht_count, mKe_Ht_drop, mKe_Ht_erase, mKe_Ht_fault, mKe_Ht_fewestToKnit, mKe_Ht_find, mKe_Ht_foretell, mKe_Ht_forget, mKe_Ht_hang, mKe_Ht_hangs, mKe_Ht_hooks, mKe_Ht_house, mKe_Ht_housesOnRings, mKe_Ht_hungOnAll, mKe_Ht_isHouse, mKe_Ht_isOnRing, mKe_Ht_isThing, mKe_Ht_join, mKe_Ht_keep, mKe_Ht_kinds, mKe_Ht_knit, mKe_Ht_knitsBy, mKe_Ht_knitsBySending, mKe_Ht_leaves, mKe_Ht_patch, mKe_Ht_pieces, mKe_Ht_refusedAsSuch, mKe_Ht_remember, mKe_Ht_rings, mKe_Ht_seen, mKe_Ht_send, mKe_Ht_thing, mKe_Ht_thingsWhere, mKe_Ht_trade, mKe_Ht_undo, mKe_Ht_unhang, mKe_Ht_want, mKe_Ht_way, mKe_Ht_whole, mKe_Ht_worthOfAll, mKe_Ht_wouldUntie, mKe_Ht_write, mKe_Ht_year, mKe_Mod_allHanging, mKe_Mod_allWorth, mKe_Mod_arrow, mKe_Mod_as, mKe_Mod_ask, mKe_Mod_back, mKe_Mod_behind, mKe_Mod_commons, mKe_Mod_copyRow, mKe_Mod_count, mKe_Mod_drop, mKe_Mod_erase, mKe_Mod_fault, mKe_Mod_find, mKe_Mod_forget, mKe_Mod_hang, mKe_Mod_hangs, mKe_Mod_hooks, mKe_Mod_house, mKe_Mod_isHouse, mKe_Mod_isLoosed, mKe_Mod_isSendable, mKe_Mod_isThing, mKe_Mod_isTied, mKe_Mod_isWord, mKe_Mod_join, mKe_Mod_keep, mKe_Mod_keepPast, mKe_Mod_kindHere, mKe_Mod_kinds, mKe_Mod_knit, mKe_Mod_knitsByOne, mKe_Mod_knitsByTwo, mKe_Mod_layLinks, mKe_Mod_layTried, mKe_Mod_leaves, mKe_Mod_nextToken, mKe_Mod_noSuch, mKe_Mod_number, mKe_Mod_partOf, mKe_Mod_passes, mKe_Mod_patch, mKe_Mod_pieces, mKe_Mod_piecesIn, mKe_Mod_reads, mKe_Mod_readsClause, mKe_Mod_readsCommons, mKe_Mod_readsHouse, mKe_Mod_readsThing, mKe_Mod_readsWant, mKe_Mod_rings, mKe_Mod_seen, mKe_Mod_send, mKe_Mod_sendsOne, mKe_Mod_thing, mKe_Mod_thingsAt, mKe_Mod_thingsOf, mKe_Mod_tiedOnes, mKe_Mod_trade, mKe_Mod_undo, mKe_Mod_unhang, mKe_Mod_want, mKe_Mod_way, mKe_Mod_wears, mKe_Mod_whole, mKe_Mod_write, mKe_Mod_year, mKe_Net_draw, mKe_Net_endsOf, mKe_Net_links, mKe_Net_openLinkOutOf, mKe_Net_parts, mKe_Net_reachOf, mKe_Net_stepsBetween, mKe_Net_weightOfAllReached, mKe_Net_widened, mKe_Rack_firstPlaceOf, mKe_Rack_putAllBehind, mKe_Rack_putAt, mKe_Rack_renew, mKe_Rack_takeAway, mKe_Rack_takeFrom, mKe_Sights_fits, mKe_Sights_fittingKinds, mKe_Sights_note, mKe_State_beginAs, mKe_State_copyFrom, mKe_State_inside, mKe_State_leaveUntied, mKe_State_passYears, mKe_State_tied, mKe_State_wearAll, mKe_State_wearOf, mKe_Text_isWord, mKe_Text_kindHere, mKe_Text_readClause, mKe_Text_readHouse, mKe_Text_readInto, mKe_Text_readNumber, mKe_Text_readThing, mKe_Text_readWant, mKe_Text_step, mKe_Told_addThing, mKe_Told_clearAll, mKe_Told_copyFrom, gF_6_0, pF_6_0, gF_6_1, pF_6_1, gF_6_2, pF_6_2, gF_6_3, pF_6_3, gF_6_4, pF_6_4, gF_6_5, pF_6_5, gF_6_6, pF_6_6, gF_6_7, pF_6_7, gF_6_8, pF_6_8, gF_6_9, pF_6_9, gF_6_10, pF_6_10, gF_6_11, pF_6_11, gF_6_12, pF_6_12, gF_6_13, pF_6_13, gF_6_14, pF_6_14, hx.c0, h25, cal D, c0', z0, z1, z2, z3, s01, s11, s21, cal B0, cal B1, cal B2]
        · obtain ⟨l, st0, hst, K⟩ := M0 X dm g l1 hy
          obtain ⟨l', N⟩ := (M1 g l st0 hy).1 q1
          obtain ⟨l'', N2⟩ := (M2 g l' st0 hy).1 q3
          obtain ⟨e9, hm⟩ := hmg g hy
          refine ⟨gs g row1 l'' st0, st0, Or.inr (Or.inl rfl), gs_fr, gs_c hy, gs_94, fun res l2 _ k => K res l2 ?_⟩
          rw [if_pos q2]
          simp (disch := omega) only [x_Mod_knit_36, x_Mod_knit_37, x_Mod_knit_40, x_Mod_knit_43, x_Mod_knit_44, x_Mod_knit_47, x_Mod_knit_48, x_Mod_knit_51, x_Mod_knit_54, x_Mod_knit_55, x_Mod_knit_58, if_true, if_false, ↓reduceIte, hg_hs, Nat.reduceEqDiff, and_true, true_and, and_self, false_and, and_false, not_true_eq_false, not_false_eq_true, Option.toList_some, Option.toList_none, List.cons_append, List.nil_append, List.length_nil, List.length_cons, Nat.zero_le, Nat.reduceAdd, Nat.reduceLeDiff, Nat.zero_add, nb0, nb1, ne_eq, i10, i01, eq_self, vni, nbi, rcv_e, rcE_mk, Nat.reduceLT, mKe_Ht_arrowOf, mKe_Ht_as, mKe_Ht_ask, mKe_Ht_back, mKe_Ht_beginAsTold, mKe_Ht_behind, mKe_Ht_commons, mKe_Ht_count, mKe_Ht_drop, mKe_Ht_erase, mKe_Ht_fault, mKe_Ht_fewestToKnit, mKe_Ht_find, mKe_Ht_foretell, mKe_Ht_forget, mKe_Ht_hang, mKe_Ht_hangs, mKe_Ht_hooks, mKe_Ht_house, mKe_Ht_housesOnRings, mKe_Ht_hungOnAll, mKe_Ht_isHouse, mKe_Ht_isOnRing, mKe_Ht_isThing, mKe_Ht_join, mKe_Ht_keep, mKe_Ht_kinds, mKe_Ht_knit, mKe_Ht_knitsBy, mKe_Ht_knitsBySending, mKe_Ht_leaves, mKe_Ht_patch, mKe_Ht_pieces, mKe_Ht_refusedAsSuch, mKe_Ht_remember, mKe_Ht_rings, mKe_Ht_seen, mKe_Ht_send, mKe_Ht_thing, mKe_Ht_thingsWhere, mKe_Ht_trade, mKe_Ht_undo, mKe_Ht_unhang, mKe_Ht_want, mKe_Ht_way, mKe_Ht_whole, mKe_Ht_worthOfAll, mKe_Ht_wouldUntie, mKe_Ht_write, mKe_Ht_year, mKe_Mod_allHanging, mKe_Mod_allWorth, mKe_Mod_arrow, mKe_Mod_as, mKe_Mod_ask, mKe_Mod_back, mKe_Mod_behind, mKe_Mod_commons, mKe_Mod_copyRow, mKe_Mod_count, mKe_Mod_drop, mKe_Mod_erase, mKe_Mod_fault, mKe_Mod_find, mKe_Mod_forget, mKe_Mod_hang, mKe_Mod_hangs, mKe_Mod_hooks, mKe_Mod_house, mKe_Mod_isHouse, mKe_Mod_isLoosed, mKe_Mod_isSendable, mKe_Mod_isThing, mKe_Mod_isTied, mKe_Mod_isWord, mKe_Mod_join, mKe_Mod_keep, mKe_Mod_keepPast, mKe_Mod_kindHere, mKe_Mod_kinds, mKe_Mod_knit, mKe_Mod_knitsByOne, mKe_Mod_knitsByTwo, mKe_Mod_layLinks, mKe_Mod_layTried, mKe_Mod_leaves, mKe_Mod_nextToken, mKe_Mod_noSuch, mKe_Mod_number, mKe_Mod_partOf, mKe_Mod_passes, mKe_Mod_patch, mKe_Mod_pieces, mKe_Mod_piecesIn, mKe_Mod_reads, mKe_Mod_readsClause, mKe_Mod_readsCommons, mKe_Mod_readsHouse, mKe_Mod_readsThing, mKe_Mod_readsWant, mKe_Mod_rings, mKe_Mod_seen, mKe_Mod_send, mKe_Mod_sendsOne, mKe_Mod_thing, mKe_Mod_thingsAt, mKe_Mod_thingsOf, mKe_Mod_tiedOnes, mKe_Mod_trade, mKe_Mod_undo, mKe_Mod_unhang, mKe_Mod_want, mKe_Mod_way, mKe_Mod_wears, mKe_Mod_whole, mKe_Mod_write, mKe_Mod_year, mKe_Net_draw, mKe_Net_endsOf, mKe_Net_links, mKe_Net_openLinkOutOf, mKe_Net_parts, mKe_Net_reachOf, mKe_Net_stepsBetween, mKe_Net_weightOfAllReached, mKe_Net_widened, mKe_Rack_firstPlaceOf, mKe_Rack_putAllBehind, mKe_Rack_putAt, mKe_Rack_renew, mKe_Rack_takeAway, mKe_Rack_takeFrom, mKe_Sights_fits, mKe_Sights_fittingKinds, mKe_Sights_note, mKe_State_beginAs, mKe_State_copyFrom, mKe_State_inside, mKe_State_leaveUntied, mKe_State_passYears, mKe_State_tied, mKe_State_wearAll, mKe_State_wearOf, mKe_Text_isWord, mKe_Text_kindHere, mKe_Text_readClause, mKe_Text_readHouse, mKe_Text_readInto, mKe_Text_readNumber, mKe_Text_readThing, mKe_Text_readWant, mKe_Text_step, mKe_Told_addThing, mKe_Told_clearAll, mKe_Told_copyFrom, hm, cal N, cal N2]
          exact k
