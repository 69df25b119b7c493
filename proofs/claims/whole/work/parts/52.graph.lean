/-! ===== nets: least closed sets of houses ===== -/
theorem bit_lt {s n i : Nat} (h : s < 2 ^ n) (hb : s.testBit i = true) : i < n := by
  by_cases q : i < n
  · exact q
  · rw [Nat.testBit_lt_two_pow (Nat.lt_of_lt_of_le h (Nat.pow_le_pow_right (by omega) (by omega)))] at hb
    cases hb
theorem bit_sub {a b : Nat} (h1 : ∀ i, a.testBit i = true → b.testBit i = true) (h2 : a ≠ b) : ∃ i, b.testBit i = true ∧ a.testBit i = false := by
  apply Classical.byContradiction
  intro q
  refine h2 (Nat.eq_of_testBit_eq (fun i => ?_))
  cases z : a.testBit i
  · cases w : b.testBit i
    · rfl
    · exact absurd ⟨i, w, z⟩ q
  · rw [h1 i z]
theorem bit_eq {a b : Nat} (h1 : ∀ i, a.testBit i = true → b.testBit i = true) (h2 : ∀ i, b.testBit i = true → a.testBit i = true) : a = b := by
  refine Nat.eq_of_testBit_eq (fun i => ?_)
  cases z : a.testBit i
  · cases w : b.testBit i
    · rfl
    · rw [h2 i w] at z; cases z
  · rw [h1 i z]
def clo (E : Nat → Nat → Prop) (T : Nat → Prop) : Prop := ∀ a b, T a → E a b → T b
/-- S is the least set that holds h and is closed -/
def Lea (E : Nat → Nat → Prop) (h S : Nat) : Prop := S.testBit h = true ∧ clo E (fun v => S.testBit v = true) ∧ ∀ T : Nat → Prop, T h → clo E T → ∀ v, S.testBit v = true → T v
theorem Lea.uniq {E E' : Nat → Nat → Prop} {h S S' : Nat} (l : Lea E h S) (l' : Lea E' h S') (h1 : ∀ a b, E a b → a = b ∨ E' a b) (h2 : ∀ a b, E' a b → a = b ∨ E a b) : S = S' := by
  refine bit_eq (fun i hi => ?_) (fun i hi => ?_)
  · exact l.2.2 (fun v => S'.testBit v = true) l'.1 (fun a b ha he => (h1 a b he).elim (fun e => e ▸ ha) (fun e => l'.2.1 a b ha e)) i hi
  · exact l'.2.2 (fun v => S.testBit v = true) l.1 (fun a b ha he => (h2 a b he).elim (fun e => e ▸ ha) (fun e => l.2.1 a b ha e)) i hi
def itN (F : Nat → Nat) : Nat → Nat → Nat
  | 0, s => s
  | m + 1, s => itN F m (F s)
theorem itN_s {F : Nat → Nat} : ∀ m s, itN F (m + 1) s = F (itN F m s)
  | 0, s => rfl
  | m + 1, s => itN_s m (F s)
theorem itN_fix {F : Nat → Nat} {s : Nat} (h : F s = s) : ∀ m, itN F m s = s
  | 0 => rfl
  | m + 1 => by show itN F m (F s) = s; rw [h]; exact itN_fix h m
theorem itN_add {F : Nat → Nat} : ∀ m n s, itN F (m + n) s = itN F n (itN F m s)
  | 0, n, s => by rw [Nat.zero_add]; rfl
  | m + 1, n, s => by rw [Nat.add_right_comm]; exact itN_add m n (F s)
theorem it_stable {F : Nat → Nat} {h : Nat} (hh : h < 7) (inf : ∀ s i, s.testBit i = true → (F s).testBit i = true) (bnd : ∀ s, s < 2 ^ 7 → F s < 2 ^ 7) : F (itN F 6 (2 ^ h)) = itN F 6 (2 ^ h) := by
  apply Classical.byContradiction
  intro hne
  have hb : ∀ i, itN F i (2 ^ h) < 2 ^ 7 := by
    intro i
    induction i with
    | zero => exact Nat.pow_lt_pow_right (by omega) hh
    | succ i ih => rw [itN_s]; exact bnd _ ih
  have hm : ∀ i j v, i ≤ j → (itN F i (2 ^ h)).testBit v = true → (itN F j (2 ^ h)).testBit v = true := by
    intro i j v hij
    induction j with
    | zero => intro z; have e : i = 0 := by omega
              rw [e] at z; exact z
    | succ j ih =>
      intro z
      by_cases e : i = j + 1
      · rw [e] at z; exact z
      · rw [itN_s]; exact inf _ _ (ih (by omega) z)
  have hd : ∀ i, i ≤ 6 → F (itN F i (2 ^ h)) ≠ itN F i (2 ^ h) := by
    intro i hi e
    apply hne
    have e2 : itN F 6 (2 ^ h) = itN F i (2 ^ h) := by
      have := itN_add (F := F) i (6 - i) (2 ^ h)
      rw [itN_fix e, show i + (6 - i) = 6 by omega] at this
      exact this
    rw [e2]; exact e
  have H : ∀ i, ∃ v, i ≤ 6 → (itN F (i + 1) (2 ^ h)).testBit v = true ∧ (itN F i (2 ^ h)).testBit v = false := by
    intro i
    by_cases hi : i ≤ 6
    · obtain ⟨v, h1, h2⟩ := bit_sub (inf (itN F i (2 ^ h))) (Ne.symm (hd i hi))
      exact ⟨v, fun _ => ⟨by rw [itN_s]; exact h1, h2⟩⟩
    · exact ⟨0, fun z => absurd z hi⟩
  obtain ⟨e, he⟩ := Classical.axiomOfChoice H
  obtain ⟨i, j, h1, h2, h3⟩ := pig 7 (fun i => if i = 0 then h else e (i - 1)) (fun i hi => by
    show (if i = 0 then h else e (i - 1)) < 7
    by_cases q : i = 0
    · rw [if_pos q]; exact hh
    · rw [if_neg q]; exact bit_lt (hb _) (he (i - 1) (by omega)).1)
  have h3 : (if i = 0 then h else e (i - 1)) = (if j = 0 then h else e (j - 1)) := h3
  rw [if_neg (show ¬ j = 0 by omega)] at h3
  have z1 : (itN F i (2 ^ h)).testBit (e (j - 1)) = true := by
    rw [← h3]
    by_cases q : i = 0
    · subst q; rw [if_pos rfl]; exact Nat.testBit_two_pow_self
    · rw [if_neg q]
      have := (he (i - 1) (by omega)).1
      rw [show i - 1 + 1 = i by omega] at this
      exact this
  have z2 := hm i (j - 1) _ (by omega) z1
  rw [(he (j - 1) (by omega)).2] at z2
  cases z2
theorem lea_it {F : Nat → Nat} {E : Nat → Nat → Prop} {h : Nat} (hh : h < 7) (inf : ∀ s i, s.testBit i = true → (F s).testBit i = true) (bnd : ∀ s, s < 2 ^ 7 → F s < 2 ^ 7) (cl : ∀ s, F s = s → clo E (fun v => s.testBit v = true)) (mn : ∀ s (T : Nat → Prop), clo E T → (∀ v, s.testBit v = true → T v) → ∀ v, (F s).testBit v = true → T v) (n : Nat) : Lea E h (itN F (6 + n) (2 ^ h)) := by
  have st := it_stable hh inf bnd
  rw [itN_add, itN_fix st]
  have hm : ∀ i v, (2 ^ h).testBit v = true → (itN F i (2 ^ h)).testBit v = true := by
    intro i v z
    induction i with
    | zero => exact z
    | succ i ih => rw [itN_s]; exact inf _ _ ih
  refine ⟨hm 6 h Nat.testBit_two_pow_self, cl _ st, fun T hT hc => ?_⟩
  have hT0 : ∀ i v, (itN F i (2 ^ h)).testBit v = true → T v := by
    intro i
    induction i with
    | zero =>
      intro v z
      have z : (2 ^ h).testBit v = true := z
      rw [Nat.testBit_two_pow] at z
      rw [← of_decide_eq_true z]; exact hT
    | succ i ih => intro v z; rw [itN_s] at z; exact mn _ T hc ih v z
  exact hT0 6
/-! the class's way to widen -/
def wid (en : Nat → Nat) (r w : Nat) : Nat → Nat
  | 0 => r
  | t + 1 => if en t &&& r ≠ 0 ∧ nd (en t) w = 0 then wid en r w t ||| en t else wid en r w t
theorem wid_bit {en : Nat → Nat} {r w v : Nat} : ∀ n, (wid en r w n).testBit v = true ↔ (r.testBit v = true ∨ ∃ t, t < n ∧ (en t &&& r ≠ 0 ∧ nd (en t) w = 0) ∧ (en t).testBit v = true)
  | 0 => by
    constructor
    · exact Or.inl
    · rintro (z | ⟨t, ht, -⟩)
      · exact z
      · exact absurd ht (Nat.not_lt_zero t)
  | n + 1 => by
    have ih := wid_bit (en := en) (r := r) (w := w) (v := v) n
    unfold wid
    by_cases q : en n &&& r ≠ 0 ∧ nd (en n) w = 0
    · rw [if_pos q, Nat.testBit_or, Bool.or_eq_true, ih]
      constructor
      · rintro ((z | ⟨t, h1, h2⟩) | z)
        · exact Or.inl z
        · exact Or.inr ⟨t, by omega, h2⟩
        · exact Or.inr ⟨n, by omega, q, z⟩
      · rintro (z | ⟨t, h1, h2, h3⟩)
        · exact Or.inl (Or.inl z)
        · by_cases e : t = n
          · subst e; exact Or.inr h3
          · exact Or.inl (Or.inr ⟨t, by omega, h2, h3⟩)
    · rw [if_neg q, ih]
      constructor
      · rintro (z | ⟨t, h1, h2⟩)
        · exact Or.inl z
        · exact Or.inr ⟨t, by omega, h2⟩
      · rintro (z | ⟨t, h1, h2, h3⟩)
        · exact Or.inl z
        · by_cases e : t = n
          · subst e; exact absurd h2 q
          · exact Or.inr ⟨t, by omega, h2, h3⟩
/-- one link apart -/
def eC (en : Nat → Nat) (w nt : Nat) (a b : Nat) : Prop := ∃ t, t < nt ∧ (en t).testBit a = true ∧ (en t).testBit b = true ∧ nd (en t) w = 0
theorem and_ne {a b i : Nat} (h1 : a.testBit i = true) (h2 : b.testBit i = true) : a &&& b ≠ 0 := by
  intro z
  have : (a &&& b).testBit i = true := by rw [Nat.testBit_and, h1, h2]; rfl
  rw [z, Nat.zero_testBit] at this
  cases this
theorem ne_and {a b : Nat} (h : a &&& b ≠ 0) : ∃ i, a.testBit i = true ∧ b.testBit i = true := by
  obtain ⟨i, hi⟩ := Nat.exists_testBit_of_ne_zero h
  rw [Nat.testBit_and, Bool.and_eq_true] at hi
  exact ⟨i, hi⟩
theorem wid_lt {en : Nat → Nat} {r w : Nat} (hr : r < 2 ^ 7) : ∀ n, (∀ t, t < n → en t < 2 ^ 7) → wid en r w n < 2 ^ 7
  | 0, _ => hr
  | n + 1, he => by
    have ih := wid_lt (w := w) hr n (fun t ht => he t (by omega))
    unfold wid
    split
    · exact Nat.or_lt_two_pow ih (he n (by omega))
    · exact ih
/-- whom the class finds from h -/
def reC (en : Nat → Nat) (w nt h : Nat) : Nat := itN (fun s => wid en s w nt) 6 (2 ^ h)
theorem reC_lea {en : Nat → Nat} {w nt h : Nat} (hh : h < 7) (he : ∀ t, t < nt → en t < 2 ^ 7) : Lea (eC en w nt) h (reC en w nt h) := by
  refine lea_it (n := 0) hh (fun s i z => (wid_bit nt).mpr (Or.inl z)) (fun s hs => wid_lt hs nt he) (fun s z a b ha e => ?_) (fun s T hc hT v z => ?_)
  · obtain ⟨t, h1, h2, h3, h4⟩ := e
    have : (wid en s w nt).testBit b = true := (wid_bit nt).mpr (Or.inr ⟨t, h1, ⟨and_ne h2 ha, h4⟩, h3⟩)
    have z : wid en s w nt = s := z
    rw [z] at this
    exact this
  · rcases (wid_bit nt).mp z with q | ⟨t, h1, ⟨h2, h3⟩, h4⟩
    · exact hT v q
    · obtain ⟨a, q1, q2⟩ := ne_and h2
      exact hc a v (hT a q2) ⟨t, h1, q1, h4, h3⟩
theorem reC_lt {en : Nat → Nat} {w nt h : Nat} (hh : h < 7) (he : ∀ t, t < nt → en t < 2 ^ 7) : reC en w nt h < 2 ^ 7 := by
  have : ∀ m s, s < 2 ^ 7 → itN (fun s => wid en s w nt) m s < 2 ^ 7 := by
    intro m
    induction m with
    | zero => exact fun s hs => hs
    | succ m ih => exact fun s hs => ih _ (wid_lt hs nt he)
  exact this 6 _ (Nat.pow_lt_pow_right (by omega) hh)
/-! the reference's rounds -/
def rnd (lk : Nat → Nat) : Nat → Nat → Nat
  | 0, s => s
  | k + 1, s => if (rnd lk k s).testBit k = true then rnd lk k s ||| lk k else rnd lk k s
theorem rnd_inf {lk : Nat → Nat} {s i : Nat} (h : s.testBit i = true) : ∀ k, (rnd lk k s).testBit i = true
  | 0 => h
  | k + 1 => by
    have ih := rnd_inf (lk := lk) h k
    unfold rnd
    split
    · rw [Nat.testBit_or, ih]; rfl
    · exact ih
theorem rnd_mono {lk : Nat → Nat} {s i : Nat} : ∀ k j, j ≤ k → (rnd lk j s).testBit i = true → (rnd lk k s).testBit i = true
  | 0, j, hj, z => by rw [show j = 0 by omega] at z; exact z
  | k + 1, j, hj, z => by
    by_cases e : j = k + 1
    · rw [e] at z; exact z
    · have ih := rnd_mono k j (by omega) z
      unfold rnd
      split
      · rw [Nat.testBit_or, ih]; rfl
      · exact ih
theorem rnd_lt {lk : Nat → Nat} {s : Nat} (hs : s < 2 ^ 7) : ∀ k, (∀ i, i < k → lk i < 2 ^ 7) → rnd lk k s < 2 ^ 7
  | 0, _ => hs
  | k + 1, hl => by
    have ih := rnd_lt hs k (fun i hi => hl i (by omega))
    unfold rnd
    split
    · exact Nat.or_lt_two_pow ih (hl k (by omega))
    · exact ih
def eM (lk : Nat → Nat) (a b : Nat) : Prop := a < 7 ∧ (lk a).testBit b = true
def reM (lk : Nat → Nat) (h : Nat) : Nat := itN (rnd lk 7) 7 (2 ^ h)
theorem reM_lea {lk : Nat → Nat} {h : Nat} (hh : h < 7) (hl : ∀ i, i < 7 → lk i < 2 ^ 7) : Lea (eM lk) h (reM lk h) := by
  refine lea_it (F := rnd lk 7) (n := 1) hh (fun s i z => rnd_inf z 7) (fun s hs => rnd_lt hs 7 hl) (fun s z a b ha e => ?_) (fun s T hc hT v z => ?_)
  · obtain ⟨h1, h2⟩ := e
    have q : (rnd lk (a + 1) s).testBit b = true := by
      unfold rnd
      rw [if_pos (rnd_inf ha a), Nat.testBit_or, h2, Bool.or_true]
    have q2 := rnd_mono 7 (a + 1) (by omega) q
    rw [z] at q2
    exact q2
  · have : ∀ k, k ≤ 7 → ∀ v, (rnd lk k s).testBit v = true → T v := by
      intro k
      induction k with
      | zero => exact fun _ v z => hT v z
      | succ k ih =>
        intro hk v z
        unfold rnd at z
        by_cases q : (rnd lk k s).testBit k = true
        · rw [if_pos q, Nat.testBit_or, Bool.or_eq_true] at z
          rcases z with z | z
          · exact ih (by omega) v z
          · exact hc k v (ih (by omega) k q) ⟨by omega, z⟩
        · rw [if_neg q] at z; exact ih (by omega) v z
    exact this 7 (Nat.le_refl 7) v z
theorem reM_lt {lk : Nat → Nat} {h : Nat} (hh : h < 7) (hl : ∀ i, i < 7 → lk i < 2 ^ 7) : reM lk h < 2 ^ 7 := by
  have : ∀ m s, s < 2 ^ 7 → itN (rnd lk 7) m s < 2 ^ 7 := by
    intro m
    induction m with
    | zero => exact fun s hs => hs
    | succ m ih => exact fun s hs => ih _ (rnd_lt hs 7 hl)
  exact this 7 _ (Nat.pow_lt_pow_right (by omega) hh)
/-! links of things: who keeps it, whose it is, which count -/
def lnkN (act : Nat → Bool) (A O : Nat → Nat) : Nat → Nat → Nat
  | 0, _ => 0
  | t + 1, h => if act t = true then (if h = A t then lnkN act A O t h ||| 2 ^ (O t) else if h = O t then lnkN act A O t h ||| 2 ^ (A t) else lnkN act A O t h) else lnkN act A O t h
theorem lnkN_bit {act : Nat → Bool} {A O : Nat → Nat} {h v : Nat} : ∀ n, (∀ t, t < n → act t = true → A t ≠ O t) → ((lnkN act A O n h).testBit v = true ↔ ∃ t, t < n ∧ act t = true ∧ ((h = A t ∧ v = O t) ∨ (h = O t ∧ v = A t)))
  | 0, _ => by
    constructor
    · intro z; have z : (0 : Nat).testBit v = true := z
      rw [Nat.zero_testBit] at z; cases z
    · rintro ⟨t, ht, -⟩; exact absurd ht (Nat.not_lt_zero t)
  | n + 1, hne => by
    have ih := lnkN_bit (h := h) (v := v) n (fun t ht => hne t (by omega))
    have up : (∃ t, t < n ∧ act t = true ∧ ((h = A t ∧ v = O t) ∨ (h = O t ∧ v = A t))) → ∃ t, t < n + 1 ∧ act t = true ∧ ((h = A t ∧ v = O t) ∨ (h = O t ∧ v = A t)) := fun ⟨t, h1, h2⟩ => ⟨t, by omega, h2⟩
    have dn : (∃ t, t < n + 1 ∧ act t = true ∧ ((h = A t ∧ v = O t) ∨ (h = O t ∧ v = A t))) → (∃ t, t < n ∧ act t = true ∧ ((h = A t ∧ v = O t) ∨ (h = O t ∧ v = A t))) ∨ (act n = true ∧ ((h = A n ∧ v = O n) ∨ (h = O n ∧ v = A n))) := by
      rintro ⟨t, h1, h2⟩
      by_cases e : t = n
      · subst e; exact Or.inr h2
      · exact Or.inl ⟨t, by omega, h2⟩
    unfold lnkN
    by_cases q : act n = true
    · have hn := hne n (by omega) q
      rw [if_pos q]
      by_cases q1 : h = A n
      · rw [if_pos q1, Nat.testBit_or, Bool.or_eq_true, ih, Nat.testBit_two_pow, decide_eq_true_eq]
        constructor
        · rintro (z | z)
          · exact up z
          · exact ⟨n, by omega, q, Or.inl ⟨q1, z.symm⟩⟩
        · intro z
          rcases dn z with z | ⟨-, (⟨z1, z2⟩ | ⟨z1, z2⟩)⟩
          · exact Or.inl z
          · exact Or.inr z2.symm
          · exact absurd (q1.symm.trans z1) hn
      · rw [if_neg q1]
        by_cases q2 : h = O n
        · rw [if_pos q2, Nat.testBit_or, Bool.or_eq_true, ih, Nat.testBit_two_pow, decide_eq_true_eq]
          constructor
          · rintro (z | z)
            · exact up z
            · exact ⟨n, by omega, q, Or.inr ⟨q2, z.symm⟩⟩
          · intro z
            rcases dn z with z | ⟨-, (⟨z1, z2⟩ | ⟨z1, z2⟩)⟩
            · exact Or.inl z
            · exact absurd z1 q1
            · exact Or.inr z2.symm
        · rw [if_neg q2, ih]
          refine ⟨up, fun z => ?_⟩
          rcases dn z with z | ⟨-, (⟨z1, -⟩ | ⟨z1, -⟩)⟩
          · exact z
          · exact absurd z1 q1
          · exact absurd z1 q2
    · rw [if_neg q, ih]
      refine ⟨up, fun z => ?_⟩
      rcases dn z with z | z
      · exact z
      · exact absurd z.1 q
theorem lnkN_lt {act : Nat → Bool} {A O : Nat → Nat} {h : Nat} : ∀ n, (∀ t, t < n → act t = true → A t < 7 ∧ O t < 7) → lnkN act A O n h < 2 ^ 7
  | 0, _ => by show 0 < 2 ^ 7; omega
  | n + 1, hb => by
    have ih := lnkN_lt (h := h) n (fun t ht => hb t (by omega))
    unfold lnkN
    by_cases q : act n = true
    · have b := hb n (by omega) q
      have p1 : 2 ^ (O n) < 2 ^ 7 := Nat.pow_lt_pow_right (by omega) b.2
      have p2 : 2 ^ (A n) < 2 ^ 7 := Nat.pow_lt_pow_right (by omega) b.1
      rw [if_pos q]
      split
      · exact Nat.or_lt_two_pow ih p1
      · split
        · exact Nat.or_lt_two_pow ih p2
        · exact ih
    · rw [if_neg q]; exact ih
/-- both alike -/
theorem re_eq {en : Nat → Nat} {act : Nat → Bool} {A O : Nat → Nat} {w nt h : Nat} (hh : h < 7) (hb : ∀ t, t < nt → A t < 7 ∧ O t < 7) (hne : ∀ t, t < nt → act t = true → A t ≠ O t) (he : ∀ t, t < nt → en t < 2 ^ 7) (hact : ∀ t, t < nt → act t = true → en t = 2 ^ (A t) ||| 2 ^ (O t) ∧ nd (en t) w = 0) (hno : ∀ t, t < nt → act t ≠ true → en t = 0 ∨ nd (en t) w ≠ 0) : reC en w nt h = reM (lnkN act A O nt) h := by
  refine (reC_lea hh he).uniq (reM_lea hh (fun i hi => lnkN_lt nt (fun t ht _ => hb t ht))) (fun a b => ?_) (fun a b => ?_)
  · rintro ⟨t, h1, h2, h3, h4⟩
    by_cases q : act t = true
    · rw [(hact t h1 q).1, Nat.testBit_or, Nat.testBit_two_pow, Nat.testBit_two_pow, Bool.or_eq_true, decide_eq_true_eq, decide_eq_true_eq] at h2 h3
      have hb1 := hb t h1
      rcases h2 with e | e <;> rcases h3 with e' | e'
      · exact Or.inl (e.symm.trans e')
      · exact Or.inr ⟨by omega, (lnkN_bit nt hne).mpr ⟨t, h1, q, Or.inl ⟨e.symm, e'.symm⟩⟩⟩
      · exact Or.inr ⟨by omega, (lnkN_bit nt hne).mpr ⟨t, h1, q, Or.inr ⟨e.symm, e'.symm⟩⟩⟩
      · exact Or.inl (e.symm.trans e')
    · rcases hno t h1 q with z | z
      · rw [z, Nat.zero_testBit] at h2; cases h2
      · exact absurd h4 z
  · rintro ⟨h1, h2⟩
    obtain ⟨t, q1, q2, q3⟩ := (lnkN_bit nt hne).mp h2
    obtain ⟨e1, e2⟩ := hact t q1 q2
    refine Or.inr ⟨t, q1, ?_, ?_, e2⟩
    · rw [e1, Nat.testBit_or, Nat.testBit_two_pow, Nat.testBit_two_pow, Bool.or_eq_true, decide_eq_true_eq, decide_eq_true_eq]
      rcases q3 with z | z
      · exact Or.inl z.1.symm
      · exact Or.inr z.1.symm
    · rw [e1, Nat.testBit_or, Nat.testBit_two_pow, Nat.testBit_two_pow, Bool.or_eq_true, decide_eq_true_eq, decide_eq_true_eq]
      rcases q3 with z | z
      · exact Or.inr z.2.symm
      · exact Or.inl z.2.symm
/-! parts, counted -/
def pcn (R : Nat → Nat) (w : Nat) : Nat → Nat × Nat
  | 0 => (w, 0)
  | m + 1 => if (pcn R w m).1.testBit m = true then (nd (pcn R w m).1 (R m), (pcn R w m).2 + 1) else pcn R w m
def msn (R : Nat → Nat) (o : Nat) : Nat → Nat × Nat
  | 0 => (o, 0)
  | m + 1 => if (msn R o m).1.testBit m = true then msn R o m else ((msn R o m).1 ||| R m, (msn R o m).2 + 1)
theorem pcn_sub {R : Nat → Nat} {w i : Nat} : ∀ m, (pcn R w m).1.testBit i = true → w.testBit i = true
  | 0, z => z
  | m + 1, z => by
    unfold pcn at z
    by_cases q : (pcn R w m).1.testBit m = true
    · rw [if_pos q] at z
      have z : (nd (pcn R w m).1 (R m)).testBit i = true := z
      rw [nd_bit, Bool.and_eq_true] at z
      exact pcn_sub m z.1
    · rw [if_neg q] at z; exact pcn_sub m z
theorem pcn_stop {R : Nat → Nat} {w n : Nat} (hw : w < 2 ^ n) : ∀ k, pcn R w (n + k) = pcn R w n
  | 0 => rfl
  | k + 1 => by
    have ih := pcn_stop (R := R) hw k
    have e : pcn R w (n + k + 1) = pcn R w (n + k) := if_neg (fun z => by have := bit_lt hw (pcn_sub _ z); omega)
    exact e.trans ih
theorem pcn_msn {R R' : Nat → Nat} {w o n : Nat} (hR : ∀ m, m < n → R m = R' m) (hw : ∀ i, i < n → w.testBit i = !o.testBit i) : ∀ m, m ≤ n → (pcn R w m).2 = (msn R' o m).2 ∧ ∀ i, i < n → (pcn R w m).1.testBit i = !(msn R' o m).1.testBit i
  | 0, _ => ⟨rfl, hw⟩
  | m + 1, hm => by
    obtain ⟨i1, i2⟩ := pcn_msn hR hw m (by omega)
    have e := i2 m (by omega)
    unfold pcn msn
    by_cases q : (msn R' o m).1.testBit m = true
    · rw [if_pos q, if_neg (by rw [e, q]; decide)]
      exact ⟨i1, i2⟩
    · have q' : (pcn R w m).1.testBit m = true := by
        rw [e]
        cases z : (msn R' o m).1.testBit m
        · rfl
        · exact absurd z q
      rw [if_neg q, if_pos q']
      refine ⟨by show _ + 1 = _ + 1; rw [i1], fun i hi => ?_⟩
      show (nd (pcn R w m).1 (R m)).testBit i = !((msn R' o m).1 ||| R' m).testBit i
      rw [nd_bit, Nat.testBit_or, i2 i hi, hR m (by omega)]
      cases (msn R' o m).1.testBit i <;> rfl
theorem pcn_le {R : Nat → Nat} {w : Nat} : ∀ m, (pcn R w m).2 ≤ m
  | 0 => Nat.le_refl 0
  | m + 1 => by
    have ih := pcn_le (R := R) (w := w) m
    unfold pcn
    split
    · show _ + 1 ≤ _; omega
    · omega
theorem pcn_lt {R : Nat → Nat} {w n : Nat} (hw : w < 2 ^ n) : ∀ m, (pcn R w m).1 < 2 ^ n
  | 0 => hw
  | m + 1 => by
    have ih := pcn_lt (R := R) hw m
    unfold pcn
    split
    · exact nd_lt ih
    · exact ih
theorem msn_lt {R : Nat → Nat} {o : Nat} (ho : o < 2 ^ 7) : ∀ m, (∀ i, i < m → R i < 2 ^ 7) → (msn R o m).1 < 2 ^ 7
  | 0, _ => ho
  | m + 1, hR => by
    have ih := msn_lt ho m (fun i hi => hR i (by omega))
    unfold msn
    split
    · exact ih
    · exact Nat.or_lt_two_pow ih (hR m (by omega))
theorem msn_le {R : Nat → Nat} {o : Nat} : ∀ m, (msn R o m).2 ≤ m
  | 0 => Nat.le_refl 0
  | m + 1 => by
    have ih := msn_le (R := R) (o := o) m
    unfold msn
    split
    · omega
    · show _ + 1 ≤ _; omega
theorem pcn_cong {R R' : Nat → Nat} {w : Nat} : ∀ m, (∀ i, i < m → R i = R' i) → pcn R w m = pcn R' w m
  | 0, _ => rfl
  | m + 1, h => by
    unfold pcn
    rw [pcn_cong m (fun i hi => h i (by omega)), h m (by omega)]
