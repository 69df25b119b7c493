/-! ===== one link more takes away one part at most ===== -/
def ctB (p : Nat → Bool) : Nat → Nat
  | 0 => 0
  | n + 1 => ctB p n + if p n = true then 1 else 0
theorem ctB_cong {p q : Nat → Bool} : ∀ n, (∀ i, i < n → p i = q i) → ctB p n = ctB q n
  | 0, _ => rfl
  | n + 1, h => by
    unfold ctB
    rw [ctB_cong n (fun i hi => h i (by omega)), h n (by omega)]
theorem ctB_rm {q : Nat → Bool} {k : Nat} : ∀ n, k < n → q k = true → ctB q n = ctB (fun i => q i && !decide (i = k)) n + 1
  | 0, h, _ => absurd h (Nat.not_lt_zero k)
  | n + 1, h, hq => by
    unfold ctB
    by_cases e : k = n
    · subst e
      have : ctB q k = ctB (fun i => q i && !decide (i = k)) k := ctB_cong k (fun i hi => by
        have : decide (i = k) = false := decide_eq_false (by omega)
        show q i = (q i && !decide (i = k))
        rw [this]; simp)
      rw [this, if_pos hq]
      simp
    · rw [ctB_rm n (by omega) hq]
      have : decide (n = k) = false := decide_eq_false (by omega)
      simp only [this, Bool.not_false, Bool.and_true]
      omega
theorem ctB_inj {N : Nat} {f : Nat → Nat} : ∀ n (p q : Nat → Bool), (∀ i, i < n → p i = true → f i < N ∧ q (f i) = true) → (∀ i j, i < n → j < n → p i = true → p j = true → f i = f j → i = j) → ctB p n ≤ ctB q N
  | 0, _, _, _, _ => Nat.zero_le _
  | n + 1, p, q, h1, h2 => by
    show ctB p n + (if p n = true then 1 else 0) ≤ ctB q N
    by_cases e : p n = true
    · rw [if_pos e]
      have a := h1 n (by omega) e
      rw [ctB_rm N a.1 a.2]
      have := ctB_inj n p (fun i => q i && !decide (i = f n)) (fun i hi hp => by
        have b := h1 i (by omega) hp
        refine ⟨b.1, ?_⟩
        show (q (f i) && !decide (f i = f n)) = true
        have : ¬ f i = f n := fun z => by have := h2 i n (by omega) (by omega) hp e z; omega
        rw [b.2, decide_eq_false this]; rfl) (fun i j hi hj => h2 i j (by omega) (by omega))
      omega
    · rw [if_neg e]
      exact ctB_inj n p q (fun i hi => h1 i (by omega)) (fun i j hi hj => h2 i j (by omega) (by omega))
theorem ctB_one {p r : Nat → Bool} : ∀ n, (∀ i j, i < n → j < n → p i = true → p j = true → r i = true → r j = true → i = j) → ctB p n ≤ ctB (fun i => p i && !r i) n + 1
  | 0, _ => Nat.zero_le _
  | n + 1, h => by
    by_cases e : p n = true ∧ r n = true
    · have : ctB p n = ctB (fun i => p i && !r i) n := ctB_cong n (fun i hi => by
        show p i = (p i && !r i)
        cases z1 : p i
        · rfl
        · cases z2 : r i
          · rfl
          · have := h i n (by omega) (by omega) z1 e.1 z2 e.2; omega)
      unfold ctB
      rw [this]
      split <;> omega
    · have ih := ctB_one n (fun i j hi hj => h i j (by omega) (by omega))
      unfold ctB
      by_cases z1 : p n = true
      · have z2 : r n = false := by
          cases z : r n
          · rfl
          · exact absurd ⟨z1, z⟩ e
        simp only [z1, z2, Bool.not_false, Bool.and_self, if_true]
        omega
      · cases z : p n
        · simp only [z, Bool.false_and, Bool.false_eq_true, if_false]; omega
        · exact absurd z z1
def isMin (R : Nat → Nat) (w : Nat) : Nat → Bool := fun v => w.testBit v && !(anyB (fun u => w.testBit u && (R u).testBit v) v)
theorem isMin_iff {R : Nat → Nat} {w v : Nat} : isMin R w v = true ↔ (w.testBit v = true ∧ ∀ u, u < v → w.testBit u = true → (R u).testBit v = true → False) := by
  unfold isMin
  rw [Bool.and_eq_true]
  refine and_congr_right (fun _ => ?_)
  cases z : anyB (fun u => w.testBit u && (R u).testBit v) v
  · refine ⟨fun _ u h1 h2 h3 => ?_, fun _ => rfl⟩
    have : anyB (fun u => w.testBit u && (R u).testBit v) v = true := anyB_iff.mpr ⟨u, h1, by show (_ && _) = true; rw [h2, h3]; rfl⟩
    rw [z] at this; cases this
  · refine ⟨fun h => absurd h (by decide), fun h => ?_⟩
    obtain ⟨u, h1, h2⟩ := anyB_iff.mp z
    have h2 : (w.testBit u && (R u).testBit v) = true := h2
    rw [Bool.and_eq_true] at h2
    exact absurd (h u h1 h2.1 h2.2) id
/-- classes: who reaches whom -/
def Cls (R : Nat → Nat) : Prop := (∀ a, a < 7 → (R a).testBit a = true) ∧ (∀ a b, a < 7 → b < 7 → (R a).testBit b = true → (R b).testBit a = true) ∧ (∀ a b c, a < 7 → b < 7 → (R a).testBit b = true → (R b).testBit c = true → (R a).testBit c = true)
theorem pcn_ct {R : Nat → Nat} {w : Nat} (hw : w < 2 ^ 7) (hC : Cls R) : ∀ m, m ≤ 7 → (pcn R w m).2 = ctB (isMin R w) m ∧ ∀ v, (pcn R w m).1.testBit v = true ↔ (w.testBit v = true ∧ ∀ u, u < m → w.testBit u = true → (R u).testBit v = true → False)
  | 0, _ => ⟨rfl, fun v => ⟨fun z => ⟨z, fun u hu => absurd hu (Nat.not_lt_zero u)⟩, fun z => z.1⟩⟩
  | m + 1, hm => by
    obtain ⟨i1, i2⟩ := pcn_ct hw hC m (by omega)
    have em : (pcn R w m).1.testBit m = true ↔ isMin R w m = true := by rw [i2, isMin_iff]
    unfold pcn ctB
    by_cases q : (pcn R w m).1.testBit m = true
    · rw [if_pos q, if_pos (em.mp q)]
      refine ⟨by show _ + 1 = _ + 1; rw [i1], fun v => ?_⟩
      show (nd (pcn R w m).1 (R m)).testBit v = true ↔ _
      rw [nd_bit, Bool.and_eq_true, i2]
      constructor
      · rintro ⟨⟨z1, z2⟩, z3⟩
        refine ⟨z1, fun u hu h1 h2 => ?_⟩
        by_cases e : u = m
        · subst e; rw [h2] at z3; cases z3
        · exact z2 u (by omega) h1 h2
      · rintro ⟨z1, z2⟩
        refine ⟨⟨z1, fun u hu => z2 u (by omega)⟩, ?_⟩
        cases z : (R m).testBit v
        · rfl
        · exact absurd (z2 m (by omega) ((i2 m).mp q).1 z) id
    · rw [if_neg q, if_neg (fun z => q (em.mpr z))]
      refine ⟨i1, fun v => ?_⟩
      rw [i2]
      constructor
      · rintro ⟨z1, z2⟩
        refine ⟨z1, fun u hu h1 h2 => ?_⟩
        by_cases e : u = m
        · subst e
          apply q
          refine (i2 u).mpr ⟨h1, fun u' hu' g1 g2 => ?_⟩
          exact z2 u' hu' g1 (hC.2.2 u' u v (by omega) (by omega) g2 h2)
        · exact z2 u (by omega) h1 h2
      · rintro ⟨z1, z2⟩
        exact ⟨z1, fun u hu => z2 u (by omega)⟩
theorem cls_lea {E : Nat → Nat → Prop} {R : Nat → Nat} (hs : ∀ a b, E a b → E b a) (h7 : ∀ a b, E a b → a < 7) (hl : ∀ a, a < 7 → Lea E a (R a)) (hb : ∀ a, a < 7 → R a < 2 ^ 7) : Cls R := by
  have tr : ∀ a b c, a < 7 → b < 7 → (R a).testBit b = true → (R b).testBit c = true → (R a).testBit c = true := fun a b c ha hb' z1 z2 => (hl b hb').2.2 (fun v => (R a).testBit v = true) z1 (hl a ha).2.1 c z2
  refine ⟨fun a ha => (hl a ha).1, fun a b ha hb' z => ?_, tr⟩
  have := (hl a ha).2.2 (fun v => v < 7 → (R v).testBit a = true) (fun _ => (hl a ha).1) (fun c e hc hE he => by
    have hc7 := h7 c e hE
    have h1 : (R c).testBit a = true := hc hc7
    have h2 : (R e).testBit c = true := (hl e he).2.1 e c (hl e he).1 (hs c e hE)
    exact tr e c a he hc7 h2 h1) b z
  exact this hb'
theorem least_of {p : Nat → Prop} : ∀ n, p n → ∃ m, m ≤ n ∧ p m ∧ ∀ k, k < m → ¬ p k := by
  intro n
  induction n using Nat.strongRecOn with
  | ind n ih =>
    intro hn
    by_cases q : ∃ k, k < n ∧ p k
    · obtain ⟨k, h1, h2⟩ := q
      obtain ⟨m, h3, h4, h5⟩ := ih k h1 h2
      exact ⟨m, by omega, h4, h5⟩
    · exact ⟨n, Nat.le_refl n, hn, fun k hk hp => q ⟨k, hk, hp⟩⟩
theorem parts_le {E E' : Nat → Nat → Prop} {R R' : Nat → Nat} {w a b : Nat} (hw : w < 2 ^ 7) (ha : a < 7) (hb : b < 7) (hC : Cls R) (hC' : Cls R') (hl : ∀ v, v < 7 → Lea E v (R v)) (hl' : ∀ v, v < 7 → Lea E' v (R' v)) (hR' : ∀ v, v < 7 → R' v < 2 ^ 7) (hR : ∀ v, v < 7 → R v < 2 ^ 7) (hE : ∀ c e, E' c e → E c e ∨ ((c = a ∨ c = b) ∧ (e = a ∨ e = b))) : (pcn R w 7).2 ≤ (pcn R' w 7).2 + 1 := by
  rw [(pcn_ct hw hC 7 (Nat.le_refl 7)).1, (pcn_ct hw hC' 7 (Nat.le_refl 7)).1]
  obtain ⟨r1, r2, r3⟩ := hC
  obtain ⟨s1, s2, s3⟩ := hC'
  -- who is one in the new net
  have key : ∀ v1 v2, v1 < 7 → (R' v1).testBit v2 = true → (R v1).testBit v2 = true ∨ ((R a).testBit v1 = true ∧ (R b).testBit v2 = true) ∨ ((R b).testBit v1 = true ∧ (R a).testBit v2 = true) := by
    intro v1 v2 h1 h2
    refine (hl' v1 h1).2.2 (fun v => (R v1).testBit v = true ∨ ((R a).testBit v1 = true ∧ (R b).testBit v = true) ∨ ((R b).testBit v1 = true ∧ (R a).testBit v = true)) (Or.inl (r1 v1 h1)) (fun c e hc hE1 => ?_) v2 h2
    rcases hE c e hE1 with z | ⟨z1, z2⟩
    · rcases hc with y | ⟨y1, y2⟩ | ⟨y1, y2⟩
      · exact Or.inl ((hl v1 h1).2.1 c e y z)
      · exact Or.inr (Or.inl ⟨y1, (hl b hb).2.1 c e y2 z⟩)
      · exact Or.inr (Or.inr ⟨y1, (hl a ha).2.1 c e y2 z⟩)
    · rcases z1 with rfl | rfl <;> rcases z2 with rfl | rfl
      · exact hc
      · rcases hc with y | ⟨y1, y2⟩ | ⟨y1, y2⟩
        · exact Or.inr (Or.inl ⟨r2 v1 _ h1 ha y, r1 _ hb⟩)
        · exact Or.inr (Or.inl ⟨y1, r1 _ hb⟩)
        · exact Or.inl (r2 _ v1 hb h1 y1)
      · rcases hc with y | ⟨y1, y2⟩ | ⟨y1, y2⟩
        · exact Or.inr (Or.inr ⟨r2 v1 _ h1 hb y, r1 _ ha⟩)
        · exact Or.inl (r2 _ v1 ha h1 y1)
        · exact Or.inr (Or.inr ⟨y1, r1 _ ha⟩)
      · exact hc
  have same : ∀ v1 v2, v1 < 7 → v2 < 7 → isMin R w v1 = true → isMin R w v2 = true → (R v1).testBit v2 = true → v1 = v2 := by
    intro v1 v2 h1 h2 m1 m2 z
    have n1 := isMin_iff.mp m1
    have n2 := isMin_iff.mp m2
    by_cases q : v1 < v2
    · exact absurd (n2.2 v1 q n1.1 z) id
    · by_cases q2 : v2 < v1
      · exact absurd (n1.2 v2 q2 n2.1 (r2 v1 v2 h1 h2 z)) id
      · omega
  have ex : ∀ v, ∃ u, v < 7 → w.testBit v = true → u < 7 ∧ isMin R' w u = true ∧ (R' u).testBit v = true := by
    intro v
    by_cases hv : v < 7 ∧ w.testBit v = true
    · obtain ⟨u, h1, ⟨h2, h3⟩, h4⟩ := least_of (p := fun u => w.testBit u = true ∧ (R' u).testBit v = true) v ⟨hv.2, s1 v hv.1⟩
      refine ⟨u, fun _ _ => ⟨by omega, isMin_iff.mpr ⟨h2, fun u' hu' g1 g2 => h4 u' hu' ⟨g1, s3 u' u v (by omega) (by omega) g2 h3⟩⟩, h3⟩⟩
    · exact ⟨0, fun z1 z2 => absurd ⟨z1, z2⟩ hv⟩
  obtain ⟨f, hf⟩ := Classical.axiomOfChoice ex
  have one := ctB_one (p := isMin R w) (r := fun v => (R v).testBit b) 7 (fun i j hi hj p1 p2 q1 q2 => same i j hi hj p1 p2 (r3 i b j hi hb q1 (r2 j b hj hb q2)))
  refine Nat.le_trans one (Nat.succ_le_succ (ctB_inj (f := f) 7 _ _ (fun i hi hp => ?_) (fun i j hi hj hp1 hp2 he => ?_)))
  · have hp : (isMin R w i && !(R i).testBit b) = true := hp
    rw [Bool.and_eq_true] at hp
    have z := hf i hi (isMin_iff.mp hp.1).1
    exact ⟨z.1, z.2.1⟩
  · have hp1 : (isMin R w i && !(R i).testBit b) = true := hp1
    have hp2 : (isMin R w j && !(R j).testBit b) = true := hp2
    rw [Bool.and_eq_true] at hp1 hp2
    have z1 := hf i hi (isMin_iff.mp hp1.1).1
    have z2 := hf j hj (isMin_iff.mp hp2.1).1
    rw [he] at z1
    have z3 : (R' i).testBit j = true := s3 i (f j) j hi z2.1 (s2 (f j) i z2.1 hi z1.2.2) z2.2.2
    have b1 : (R i).testBit b = false := by
      have := hp1.2
      cases z : (R i).testBit b
      · rfl
      · rw [z] at this; cases this
    have b2 : (R j).testBit b = false := by
      have := hp2.2
      cases z : (R j).testBit b
      · rfl
      · rw [z] at this; cases this
    rcases key i j hi z3 with y | ⟨y1, y2⟩ | ⟨y1, y2⟩
    · exact same i j hi hj hp1.1 hp2.1 y
    · rw [r2 b j hb hj y2] at b2; cases b2
    · rw [r2 b i hb hi y1] at b1; cases b1
theorem ptN_one {en en' : Nat → Nat} {w nt t a b : Nat} (hw : w < 2 ^ 7) (he : ∀ t, t < nt → en t < 2 ^ 7) (he' : ∀ t, t < nt → en' t < 2 ^ 7) (hs : ∀ i, i < nt → i ≠ t → en' i = en i) (ha : a < 7) (hb : b < 7) (ht : ∀ i, (en' t).testBit i = true → i = a ∨ i = b) : ptN en w nt ≤ ptN en' w nt + 1 := by
  have sy : ∀ (en : Nat → Nat) c e, eC en w nt c e → eC en w nt e c := fun en c e ⟨t, h1, h2, h3, h4⟩ => ⟨t, h1, h3, h2, h4⟩
  have b7 : ∀ (en : Nat → Nat), (∀ t, t < nt → en t < 2 ^ 7) → ∀ c e, eC en w nt c e → c < 7 := fun en he c e ⟨t, h1, h2, h3, h4⟩ => bit_lt (he t h1) h2
  refine parts_le (E := eC en w nt) (E' := eC en' w nt) (a := a) (b := b) hw ha hb (cls_lea (sy en) (b7 en he) (fun v hv => reC_lea hv he) (fun v hv => reC_lt hv he)) (cls_lea (sy en') (b7 en' he') (fun v hv => reC_lea hv he') (fun v hv => reC_lt hv he')) (fun v hv => reC_lea hv he) (fun v hv => reC_lea hv he') (fun v hv => reC_lt hv he') (fun v hv => reC_lt hv he) (fun c e hE => ?_)
  obtain ⟨t', h1, h2, h3, h4⟩ := hE
  by_cases q : t' = t
  · subst q
    exact Or.inr ⟨ht c h2, ht e h3⟩
  · rw [hs t' h1 q] at h2 h3 h4
    exact Or.inl ⟨t', h1, h2, h3, h4⟩
