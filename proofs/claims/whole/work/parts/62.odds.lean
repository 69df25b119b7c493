/-! ===== whole: weighted sums over what is stolen ===== -/
def updB (c : Nat → Bool) (k : Nat) (b : Bool) : Nat → Bool := fun j => if j = k then b else c j
theorem updB_s {c : Nat → Bool} {k : Nat} {b : Bool} : updB c k b k = b := if_pos rfl
theorem updB_n {c : Nat → Bool} {k j : Nat} {b : Bool} (h : j ≠ k) : updB c k b j = c j := if_neg h
def zS (w : Nat → Nat × Nat) (F : (Nat → Bool) → Nat) : Nat → (Nat → Bool) → Nat
  | 0, c => F c
  | n + 1, c => (w n).1 * zS w F n (updB c n true) + (w n).2 * zS w F n (updB c n false)
theorem zS_cong {w w' : Nat → Nat × Nat} {F : (Nat → Bool) → Nat} : ∀ n c, (∀ t, t < n → w t = w' t) → zS w F n c = zS w' F n c
  | 0, _, _ => rfl
  | n + 1, c, h => by
    unfold zS
    rw [zS_cong n _ (fun t ht => h t (by omega)), zS_cong n _ (fun t ht => h t (by omega)), h n (by omega)]
def pwS (w : Nat → Nat × Nat) : Nat → Nat
  | 0 => 1
  | n + 1 => pwS w n * ((w n).1 + (w n).2)
theorem zS_const {w : Nat → Nat × Nat} {F : (Nat → Bool) → Nat} {k : Nat} : ∀ n c0, (∀ c, (∀ t, n ≤ t → c t = c0 t) → (∀ t, t < n → (if c t = true then (w t).1 else (w t).2) ≠ 0) → F c = k) → zS w F n c0 = k * pwS w n
  | 0, c0, h => by
    show F c0 = k * 1
    rw [h c0 (fun _ _ => rfl) (fun t ht => absurd ht (Nat.not_lt_zero t)), Nat.mul_one]
  | n + 1, c0, h => by
    have part : ∀ b : Bool, (if b = true then (w n).1 else (w n).2) * zS w F n (updB c0 n b) = (if b = true then (w n).1 else (w n).2) * (k * pwS w n) := by
      intro b
      by_cases z : (if b = true then (w n).1 else (w n).2) = 0
      · rw [z, Nat.zero_mul, Nat.zero_mul]
      · rw [zS_const n (updB c0 n b) (fun c h1 h2 => h c (fun t ht => by rw [h1 t (by omega), updB_n (by omega)]) (fun t ht => by
          by_cases e : t = n
          · subst e; rw [h1 t (Nat.le_refl t), updB_s]; exact z
          · exact h2 t (by omega)))]
    have p1 := part true
    have p2 := part false
    simp only [if_true, Bool.false_eq_true, if_false] at p1 p2
    unfold zS pwS
    rw [p1, p2, Nat.mul_add, Nat.mul_add, Nat.mul_comm (w n).1 (k * pwS w n), Nat.mul_comm (w n).2 (k * pwS w n), Nat.mul_assoc, Nat.mul_assoc]
theorem zS_lin {w w1 w2 : Nat → Nat × Nat} {F : (Nat → Bool) → Nat} {t a b : Nat} (hw : w t = (a, b)) (h1 : w1 t = (1, 0)) (h2 : w2 t = (0, 1)) (e1 : ∀ i, i ≠ t → w1 i = w i) (e2 : ∀ i, i ≠ t → w2 i = w i) : ∀ n c, t < n → zS w F n c = a * zS w1 F n c + b * zS w2 F n c
  | 0, _, h => absurd h (Nat.not_lt_zero t)
  | n + 1, c, h => by
    by_cases e : t = n
    · subst e
      unfold zS
      rw [hw, h1, h2, zS_cong (w := w1) (w' := w) t _ (fun i hi => e1 i (by omega)), zS_cong (w := w1) (w' := w) t _ (fun i hi => e1 i (by omega)), zS_cong (w := w2) (w' := w) t _ (fun i hi => e2 i (by omega)), zS_cong (w := w2) (w' := w) t _ (fun i hi => e2 i (by omega))]
      simp only [Nat.one_mul, Nat.zero_mul, Nat.add_zero, Nat.zero_add]
    · have i1 := zS_lin (F := F) hw h1 h2 e1 e2 n (updB c n true) (by omega)
      have i2 := zS_lin (F := F) hw h1 h2 e1 e2 n (updB c n false) (by omega)
      unfold zS
      rw [e1 n (fun z => e z.symm), e2 n (fun z => e z.symm), i1, i2]
      simp only [Nat.mul_add]
      rw [Nat.mul_left_comm (w n).1 a, Nat.mul_left_comm (w n).1 b, Nat.mul_left_comm (w n).2 a, Nat.mul_left_comm (w n).2 b]
      omega
/-- F heeds only what has p -/
def heeds (p : Nat → Bool) (F : (Nat → Bool) → Nat) : Prop := ∀ c c', (∀ t, p t = true → c t = c' t) → F c = F c'
theorem zS_dep {p : Nat → Bool} {w : Nat → Nat × Nat} {F : (Nat → Bool) → Nat} (hF : heeds p F) : ∀ n c c', (∀ t, p t = true → c t = c' t) → zS w F n c = zS w F n c'
  | 0, c, c', h => hF c c' h
  | n + 1, c, c', h => by
    unfold zS
    have up : ∀ b t, p t = true → updB c n b t = updB c' n b t := fun b t ht => by
      by_cases e : t = n
      · subst e; rw [updB_s, updB_s]
      · rw [updB_n e, updB_n e]; exact h t ht
    rw [zS_dep hF n _ _ (up true), zS_dep hF n _ _ (up false)]
/-- the weights of those that are not heeded come out of the sum -/
def outS (p : Nat → Bool) (w : Nat → Nat × Nat) : Nat → Nat
  | 0 => 1
  | n + 1 => outS p w n * (if p n = true then 1 else (w n).1 + (w n).2)
theorem zS_out {p : Nat → Bool} {w w' : Nat → Nat × Nat} {F : (Nat → Bool) → Nat} (hF : heeds p F) : ∀ n c, (∀ t, t < n → p t = true → w' t = w t) → (∀ t, t < n → p t = false → w' t = (1, 0)) → zS w F n c = outS p w n * zS w' F n c
  | 0, c, _, _ => by show F c = 1 * F c; rw [Nat.one_mul]
  | n + 1, c, h1, h2 => by
    have ih := fun c => zS_out hF n c (fun t ht => h1 t (by omega)) (fun t ht => h2 t (by omega))
    unfold zS outS
    rw [ih, ih]
    cases q : p n
    · have e := zS_dep (w := w') hF n (updB c n false) (updB c n true) (fun t ht => by
        have : t ≠ n := fun z => by rw [z, q] at ht; cases ht
        rw [updB_n this, updB_n this])
      rw [h2 n (by omega) q, e]
      simp only [Bool.false_eq_true, if_false, Nat.one_mul, Nat.zero_mul, Nat.add_zero]
      rw [← Nat.add_mul, ← Nat.mul_assoc, Nat.mul_comm ((w n).1 + (w n).2)]
    · rw [h1 n (by omega) q]
      simp only [if_true, Nat.mul_one]
      rw [Nat.mul_left_comm, Nat.mul_left_comm (w n).2, ← Nat.mul_add]
theorem outS_pos {p : Nat → Bool} {w : Nat → Nat × Nat} : ∀ n, (∀ t, t < n → 0 < (w t).1 + (w t).2) → 0 < outS p w n
  | 0, _ => Nat.one_pos
  | n + 1, h => by
    unfold outS
    refine Nat.mul_pos (outS_pos n (fun t ht => h t (by omega))) ?_
    split
    · omega
    · exact h n (by omega)
/-! sums over sets -/
def sumN (f : Nat → Nat) : Nat → Nat
  | 0 => 0
  | n + 1 => sumN f n + f n
theorem sumN_cong {f g : Nat → Nat} : ∀ n, (∀ i, i < n → f i = g i) → sumN f n = sumN g n
  | 0, _ => rfl
  | n + 1, h => by
    unfold sumN
    rw [sumN_cong n (fun i hi => h i (by omega)), h n (by omega)]
theorem sumN_add {f : Nat → Nat} (a : Nat) : ∀ b, sumN f (a + b) = sumN f a + sumN (fun i => f (a + i)) b
  | 0 => rfl
  | b + 1 => by
    show sumN f (a + b) + f (a + b) = sumN f a + (sumN (fun i => f (a + i)) b + f (a + b))
    rw [sumN_add a b, Nat.add_assoc]
theorem sumN_mul {f : Nat → Nat} (k : Nat) : ∀ n, sumN (fun i => k * f i) n = k * sumN f n
  | 0 => rfl
  | n + 1 => by
    unfold sumN
    rw [sumN_mul k n, Nat.mul_add]
/-- the weight of a set -/
def pmS (w : Nat → Nat × Nat) (s : Nat) : Nat → Nat
  | 0 => 1
  | n + 1 => pmS w s n * (if s.testBit n = true then (w n).1 else (w n).2)
theorem pmS_cong {w : Nat → Nat × Nat} {s s' : Nat} : ∀ n, (∀ t, t < n → s.testBit t = s'.testBit t) → pmS w s n = pmS w s' n
  | 0, _ => rfl
  | n + 1, h => by
    unfold pmS
    rw [pmS_cong n (fun t ht => h t (by omega)), h n (by omega)]
def mixS (s : Nat) (n : Nat) (c : Nat → Bool) : Nat → Bool := fun t => if t < n then s.testBit t else c t
theorem bit_add {n i t : Nat} (hi : i < 2 ^ n) : (2 ^ n + i).testBit t = if t = n then true else if t < n then i.testBit t else false := by
  by_cases e : t = n
  · subst e
    rw [if_pos rfl, Nat.testBit_two_pow_add_eq, Nat.testBit_lt_two_pow hi]
    rfl
  · rw [if_neg e]
    by_cases e2 : t < n
    · rw [if_pos e2, Nat.testBit_two_pow_add_gt e2]
    · rw [if_neg e2]
      refine Nat.testBit_lt_two_pow (Nat.lt_of_lt_of_le (show 2 ^ n + i < 2 ^ (n + 1) by rw [Nat.pow_succ]; omega) (Nat.pow_le_pow_right (by omega) (by omega)))
theorem zS_sum {w : Nat → Nat × Nat} {F : (Nat → Bool) → Nat} : ∀ n c, zS w F n c = sumN (fun s => pmS w s n * F (mixS s n c)) (2 ^ n)
  | 0, c => by
    show F c = 0 + 1 * F (mixS 0 0 c)
    rw [Nat.one_mul, Nat.zero_add]
    congr 1
  | n + 1, c => by
    have ih := zS_sum (w := w) (F := F) n
    unfold zS
    rw [ih, ih, Nat.pow_succ, Nat.mul_two, sumN_add, Nat.add_comm, ← sumN_mul, ← sumN_mul]
    congr 1
    · refine sumN_cong _ (fun s hs => ?_)
      have b : s.testBit n = false := Nat.testBit_lt_two_pow hs
      have eP : pmS w s (n + 1) = pmS w s n * (w n).2 := by
        show pmS w s n * (if s.testBit n = true then (w n).1 else (w n).2) = _
        rw [b, if_neg (by decide)]
      have eM : mixS s (n + 1) c = mixS s n (updB c n false) := by
        funext t
        unfold mixS
        by_cases e : t = n
        · subst e; rw [if_pos (by omega), if_neg (by omega), updB_s, b]
        · by_cases e2 : t < n
          · rw [if_pos (by omega), if_pos e2]
          · rw [if_neg (by omega), if_neg e2, updB_n e]
      show (w n).2 * (pmS w s n * F (mixS s n (updB c n false))) = pmS w s (n + 1) * F (mixS s (n + 1) c)
      rw [eP, eM, Nat.mul_comm (pmS w s n) (w n).2, Nat.mul_assoc]
    · refine sumN_cong _ (fun s hs => ?_)
      have b : (2 ^ n + s).testBit n = true := by rw [bit_add hs, if_pos rfl]
      have eP : pmS w (2 ^ n + s) (n + 1) = pmS w s n * (w n).1 := by
        show pmS w (2 ^ n + s) n * (if (2 ^ n + s).testBit n = true then (w n).1 else (w n).2) = _
        rw [b, if_pos rfl, pmS_cong (s := 2 ^ n + s) (s' := s) n (fun t ht => by rw [bit_add hs, if_neg (by omega), if_pos ht])]
      have eM : mixS (2 ^ n + s) (n + 1) c = mixS s n (updB c n true) := by
        funext t
        unfold mixS
        by_cases e : t = n
        · subst e; rw [if_pos (by omega), if_neg (by omega), updB_s, b]
        · by_cases e2 : t < n
          · rw [if_pos (by omega), if_pos e2, bit_add hs, if_neg e, if_pos e2]
          · rw [if_neg (by omega), if_neg e2, updB_n e]
      show (w n).1 * (pmS w s n * F (mixS s n (updB c n true))) = pmS w (2 ^ n + s) (n + 1) * F (mixS (2 ^ n + s) (n + 1) c)
      rw [eP, eM, Nat.mul_comm (pmS w s n) (w n).1, Nat.mul_assoc]
/-! ===== one part at most ===== -/
theorem ctB_pos {p : Nat → Bool} : ∀ n k, k < n → p k = true → 1 ≤ ctB p n := by
  intro n k hk hp
  rw [ctB_rm n hk hp]
  omega
theorem ctB_two {p : Nat → Bool} {n a b : Nat} (ha : a < n) (hb : b < n) (hab : a ≠ b) (pa : p a = true) (pb : p b = true) : 2 ≤ ctB p n := by
  rw [ctB_rm n ha pa]
  have := ctB_pos (p := fun i => p i && !decide (i = a)) n b hb (by show (p b && !decide (b = a)) = true; rw [pb, decide_eq_false (fun z => hab z.symm)]; rfl)
  omega
theorem ctB_zero {p : Nat → Bool} : ∀ n, (∀ i, i < n → p i = false) → ctB p n = 0
  | 0, _ => rfl
  | n + 1, h => by
    unfold ctB
    rw [ctB_zero n (fun i hi => h i (by omega)), h n (by omega)]
    rfl
/-- the lowest bit -/
def lbN (s : Nat) : Nat := s &&& (128 - s)
theorem lbN_t : ∀ s : Fin 128, nI s.1 &&& (-(nI s.1)) = nI (lbN s.1) := by decide +kernel
theorem lbN_d : ∀ s : Fin 128, (s.1 = 0 ∧ lbN s.1 = 0) ∨ ∃ k : Fin 7, lbN s.1 = 2 ^ k.1 ∧ s.1.testBit k.1 = true ∧ ∀ j : Fin 7, j.1 < k.1 → s.1.testBit j.1 = false := by decide +kernel
theorem ptN_le1 {en : Nat → Nat} {w nt : Nat} (hw : w < 2 ^ 7) (he : ∀ t, t < nt → en t < 2 ^ 7) : ptN en w nt ≤ 1 ↔ ∀ T : Nat → Prop, (∀ v, (lbN w).testBit v = true → T v) → clo (eC en w nt) T → ∀ v, w.testBit v = true → T v := by
  have sy : ∀ c e, eC en w nt c e → eC en w nt e c := fun c e ⟨t, h1, h2, h3, h4⟩ => ⟨t, h1, h3, h2, h4⟩
  have b7 : ∀ c e, eC en w nt c e → c < 7 := fun c e ⟨t, h1, h2, h3, h4⟩ => bit_lt (he t h1) h2
  have hl : ∀ v, v < 7 → Lea (eC en w nt) v (reC en w nt v) := fun v hv => reC_lea hv he
  have hC := cls_lea sy b7 hl (fun v hv => reC_lt hv he)
  unfold ptN
  rw [(pcn_ct hw hC 7 (Nat.le_refl 7)).1]
  rcases lbN_d ⟨w, hw⟩ with ⟨h0, h1⟩ | ⟨⟨k, hk⟩, h1, h2, h3⟩
  · have h0 : w = 0 := h0
    subst h0
    refine ⟨fun _ T _ _ v hv => absurd hv (by rw [Nat.zero_testBit]; decide), fun _ => ?_⟩
    rw [ctB_zero 7 (fun i hi => by unfold isMin; rw [Nat.zero_testBit]; rfl)]
    omega
  · have h1 : lbN w = 2 ^ k := h1
    have h2 : w.testBit k = true := h2
    have h3 : ∀ j, j < k → w.testBit j = false := fun j hj => h3 ⟨j, by omega⟩ hj
    have mk : isMin (reC en w nt) w k = true := isMin_iff.mpr ⟨h2, fun u hu hw' _ => by rw [h3 u hu] at hw'; cases hw'⟩
    rw [h1]
    constructor
    · intro hct T hT hc v hv
      have hv7 := bit_lt hw hv
      by_cases q : (reC en w nt k).testBit v = true
      · exact (hl k hk).2.2 T (hT k Nat.testBit_two_pow_self) hc v q
      · obtain ⟨u, g1, ⟨g2, g3⟩, g4⟩ := least_of (p := fun u => w.testBit u = true ∧ (reC en w nt u).testBit v = true) v ⟨hv, hC.1 v hv7⟩
        have mu : isMin (reC en w nt) w u = true := isMin_iff.mpr ⟨g2, fun u' hu' a1 a2 => g4 u' hu' ⟨a1, hC.2.2 u' u v (by omega) (by omega) a2 g3⟩⟩
        have : 2 ≤ ctB (isMin (reC en w nt) w) 7 := ctB_two hk (show u < 7 by omega) (fun z => q (by rw [z]; exact g3)) mk mu
        omega
    · intro h
      have all : ∀ v, w.testBit v = true → (reC en w nt k).testBit v = true := h (fun v => (reC en w nt k).testBit v = true) (fun v hv => by
        rw [Nat.testBit_two_pow] at hv
        rw [← of_decide_eq_true hv]; exact (hl k hk).1) (hl k hk).2.1
      have := ctB_one (p := isMin (reC en w nt) w) (r := fun v => decide (v = k)) 7 (fun i j _ _ _ _ q1 q2 => (of_decide_eq_true q1).trans (of_decide_eq_true q2).symm)
      rw [ctB_zero (p := fun i => isMin (reC en w nt) w i && !decide (i = k)) 7 (fun i hi => by
        show (isMin (reC en w nt) w i && !decide (i = k)) = false
        cases z : isMin (reC en w nt) w i
        · rfl
        · have m := isMin_iff.mp z
          by_cases e : i = k
          · rw [decide_eq_true e]; rfl
          · have : k < i := by
              by_cases e2 : i < k
              · rw [h3 i e2] at m; exact absurd m.1 (by decide)
              · omega
            exact absurd (m.2 k this h2 (all i m.1)) id)] at this
      omega
/-! ===== halves and common divisors ===== -/
theorem gcd_odd {a e : Nat} (h : a % 2 = 1) : Nat.gcd a (2 ^ e) = 1 := by
  have c : Nat.Coprime a 2 := by
    show Nat.gcd a 2 = 1
    rw [Nat.gcd_comm, Nat.gcd_rec, h]
    exact Nat.gcd_one_left 2
  exact Nat.Coprime.pow_right e c
def halv : Nat → Nat → Nat → Nat × Nat
  | 0, a, b => (a, b)
  | m + 1, a, b => if a % 2 = 0 ∧ b % 2 = 0 then halv m (a / 2) (b / 2) else (a, b)
theorem halv_eq : ∀ m e a, e ≤ m → halv m a (2 ^ e) = (a / Nat.gcd a (2 ^ e), 2 ^ e / Nat.gcd a (2 ^ e))
  | m, 0, a, _ => by
    rw [Nat.pow_zero, Nat.gcd_one_right, Nat.div_one, Nat.div_one]
    match m with
    | 0 => rfl
    | m + 1 => exact if_neg (fun z => absurd z.2 (by decide))
  | 0, e + 1, a, h => absurd h (by omega)
  | m + 1, e + 1, a, h => by
    have p2 : 2 ^ (e + 1) / 2 = 2 ^ e := by rw [Nat.pow_succ]; exact Nat.mul_div_cancel _ (by omega)
    have p0 : 2 ^ (e + 1) % 2 = 0 := by rw [Nat.pow_succ]; exact Nat.mul_mod_left _ _
    show (if a % 2 = 0 ∧ 2 ^ (e + 1) % 2 = 0 then halv m (a / 2) (2 ^ (e + 1) / 2) else (a, 2 ^ (e + 1))) = _
    by_cases q : a % 2 = 0
    · rw [if_pos ⟨q, p0⟩, p2, halv_eq m e (a / 2) (by omega)]
      have ea : a = 2 * (a / 2) := by omega
      have eb : 2 ^ (e + 1) = 2 * 2 ^ e := by rw [Nat.pow_succ, Nat.mul_comm]
      have eg : Nat.gcd a (2 ^ (e + 1)) = 2 * Nat.gcd (a / 2) (2 ^ e) := by
        rw [eb, ← Nat.gcd_mul_left, ← ea]
      rw [eg]
      refine Prod.ext ?_ ?_
      · show a / 2 / _ = a / (2 * _)
        rw [Nat.div_div_eq_div_mul]
      · show 2 ^ e / _ = 2 ^ (e + 1) / (2 * _)
        rw [← p2, Nat.div_div_eq_div_mul]
    · rw [if_neg (fun z => q z.1), gcd_odd (by omega), Nat.div_one, Nat.div_one]
