/-! ===== the pictures of the two objects' cells, and what ties them ===== -/
abbrev vF : Type := Nat → Int32
/-- a State: at, worth, out, year -/
abbrev vS : Type := vF × vF × Int32 × Int32
/-- Told: houses, things; kind, owner, at, worth, want -/
abbrev vT : Type := (Int32 × Int32) × vF × vF × vF × vF × vF
/-- a Rack: missing, room, size, whats, values -/
abbrev vR : Type := Int32 × Int32 × Int32 × vF × vF
/-- the class: told, now; how many can be undone, which State is where, past States; kept ones, which are; wants; letters, length; years, home, lost, how many; racks -/
abbrev vX : Type := vT × vS × (Int32 × (Nat → Nat) × (Nat → vS)) × ((Nat → vS) × vF) × vF × (vF × Int32) × (vF × vF × vF × Int32) × (Nat → vR)
/-- the reference: row, undos, isKept; text, length; seen: how many, years, home, less; roomOf, sizes, sorts, values -/
abbrev vY : Type := (vF × Int32 × vF) × (vF × Int32) × (Int32 × vF × vF × vF) × (vF × vF × vF × vF)
def oTold (h : aH) (r : Nat) (t : vT) : Prop := hg h r = .inr (5, [.int t.1.1, .int t.1.2, .ref (r + 1), .ref (r + 2), .ref (r + 3), .ref (r + 4), .ref (r + 5)]) ∧ hg h (r + 1) = .inl (.int, 10, .inl t.2.1) ∧ hg h (r + 2) = .inl (.int, 10, .inl t.2.2.1) ∧ hg h (r + 3) = .inl (.int, 10, .inl t.2.2.2.1) ∧ hg h (r + 4) = .inl (.int, 10, .inl t.2.2.2.2.1) ∧ hg h (r + 5) = .inl (.int, 7, .inl t.2.2.2.2.2)
def oState (h : aH) (r : Nat) (s : vS) : Prop := hg h r = .inr (3, [.ref (r + 1), .ref (r + 2), .int s.2.2.1, .int s.2.2.2]) ∧ hg h (r + 1) = .inl (.int, 10, .inl s.1) ∧ hg h (r + 2) = .inl (.int, 10, .inl s.2.1)
def oRack (h : aH) (r : Nat) (s : vR) : Prop := hg h r = .inr (1, [.int s.1, .int s.2.1, .int s.2.2.1, .ref (r + 1), .ref (r + 2)]) ∧ hg h (r + 1) = .inl (.int, 12, .inl s.2.2.2.1) ∧ hg h (r + 2) = .inl (.int, 12, .inl s.2.2.2.2)
def oHt (h : aH) (n : Int32) : Prop := hg h 0 = .inr (6, [.ref 1, .ref 7, .ref 13, .ref 16, .ref 19, .int n, .ref 20, .ref 21, .ref 22, .ref 23, .ref 25, .ref 27, .ref 28, .ref 29, .ref 33])
def oText (h : aH) (lt : vF) (ln : Int32) : Prop := ∃ c t s e : Int32, hg h 23 = .inr (4, [.ref 24, .int ln, .int c, .int t, .int s, .int e]) ∧ hg h 24 = .inl (.char, 200, .inl lt)
def oNet (h : aH) : Prop := ∃ (i t : Int32) (f : vF), hg h 25 = .inr (0, [.int i, .int t, .ref 26]) ∧ hg h 26 = .inl (.int, 10, .inl f)
def oSights (h : aH) (s : vF × vF × vF × Int32) : Prop := hg h 29 = .inr (2, [.ref 30, .ref 31, .ref 32, .int s.2.2.2]) ∧ hg h 30 = .inl (.int, 6, .inl s.1) ∧ hg h 31 = .inl (.boolean, 6, .inl s.2.1) ∧ hg h 32 = .inl (.int, 6, .inl s.2.2.1)
def pastA (π : Nat → Nat) : Nat → Option Nat := fun i => if i < 8 then some (34 + 3 * π i) else none
def keptA : Nat → Option Nat := fun i => if i < 2 then some (58 + 3 * i) else none
def rackA : Nat → Option Nat := fun i => if i < 3 then some (64 + 3 * i) else none
/-- the class's cells hold x -/
def cX (h : aH) (x : vX) : Prop :=
  oHt h x.2.2.1.1 ∧ oTold h 1 x.1 ∧ (∃ t, oTold h 7 t) ∧ oState h 13 x.2.1 ∧ (∃ s, oState h 16 s) ∧
  (hg h 19 = .inl (.object "HookTies$State", 8, .inr (pastA x.2.2.1.2.1)) ∧ ∀ i, i < 8 → oState h (34 + 3 * x.2.2.1.2.1 i) (x.2.2.1.2.2 i)) ∧
  ((hg h 20 = .inl (.object "HookTies$State", 2, .inr keptA) ∧ ∀ i, i < 2 → oState h (58 + 3 * i) (x.2.2.2.1.1 i)) ∧ hg h 21 = .inl (.boolean, 2, .inl x.2.2.2.1.2)) ∧
  hg h 22 = .inl (.int, 7, .inl x.2.2.2.2.1) ∧ oText h x.2.2.2.2.2.1.1 x.2.2.2.2.2.1.2 ∧ oNet h ∧
  (∃ f g : vF, hg h 27 = .inl (.int, 2, .inl f) ∧ hg h 28 = .inl (.int, 2, .inl g)) ∧ oSights h x.2.2.2.2.2.2.1 ∧
  (hg h 33 = .inl (.object "HookTies$Rack", 3, .inr rackA) ∧ ∀ i, i < 3 → oRack h (64 + 3 * i) (x.2.2.2.2.2.2.2 i))
def lst (l : List Int32) : vF := fun j => l.getD j 0
/-- the words that the reference holds -/
def oWords (h : aH) : Prop := hg h 85 = .inl (.int, 7, .inl (lst [99, 111, 109, 109, 111, 110, 115])) ∧ hg h 86 = .inl (.int, 5, .inl (lst [104, 111, 117, 115, 101])) ∧ hg h 87 = .inl (.int, 3, .inl (lst [112, 97, 110])) ∧ hg h 88 = .inl (.int, 5, .inl (lst [115, 112, 111, 111, 110])) ∧ hg h 89 = .inl (.int, 4, .inl (lst [112, 105, 112, 101])) ∧ hg h 90 = .inl (.int, 4, .inl (lst [115, 104, 111, 101])) ∧ hg h 91 = .inl (.int, 3, .inl (lst [99, 97, 112])) ∧ hg h 92 = .inl (.int, 4, .inl (lst [119, 97, 110, 116]))
/-- the reference's own object: undos, length, seenMany; first, behind, readHouses, readThings, clauses, doing -/
def oMod (h : aH) (u ln sm a b c d e f : Int32) : Prop := hg h 73 = .inr (7, [.ref 74, .int u, .ref 75, .ref 76, .int ln, .int sm, .ref 77, .ref 78, .ref 79, .ref 80, .ref 81, .ref 82, .ref 83, .int a, .int b, .int c, .int d, .int e, .int f, .ref 84, .ref 85, .ref 86, .ref 87, .ref 88, .ref 89, .ref 90, .ref 91, .ref 92, .ref 93, .ref 94])
def cY (h : aH) (y : vY) : Prop :=
  (∃ a b c d e f : Int32, oMod h y.1.2.1 y.2.1.2 y.2.2.1.1 a b c d e f) ∧
  (hg h 74 = .inl (.int, 344, .inl y.1.1) ∧ hg h 75 = .inl (.boolean, 2, .inl y.1.2.2) ∧ hg h 76 = .inl (.int, 200, .inl y.2.1.1)) ∧
  (hg h 77 = .inl (.int, 6, .inl y.2.2.1.2.1) ∧ hg h 78 = .inl (.int, 6, .inl y.2.2.1.2.2.1) ∧ hg h 79 = .inl (.int, 6, .inl y.2.2.1.2.2.2)) ∧
  (hg h 80 = .inl (.int, 3, .inl y.2.2.2.1) ∧ hg h 81 = .inl (.int, 3, .inl y.2.2.2.2.1) ∧ hg h 82 = .inl (.int, 36, .inl y.2.2.2.2.2.1) ∧ hg h 83 = .inl (.int, 36, .inl y.2.2.2.2.2.2)) ∧
  (∃ n9 lk st : vF, hg h 84 = .inl (.int, 3, .inl n9) ∧ hg h 93 = .inl (.int, 7, .inl lk) ∧ hg h 94 = .inl (.int, 4, .inl st)) ∧ oWords h
/-- a part of the row is a State's picture, of nt things and nh houses: places, worths, who is out, the year -/
def stR (row : vF) (b nh nt : Nat) (s : vS) : Prop := (∀ t, t < nt → s.1 t = row (b + 12 + t) ∧ s.2.1 t = row (b + 2 + t) ∧ (s.1 t = -1 ∨ ∃ k, k < nh ∧ s.1 t = nI k) ∧ ∃ k, k < 100 ∧ s.2.1 t = nI k) ∧ s.2.2.1 = row b ∧ s.2.2.2 = row (b + 1) ∧ (∃ k, k < 2 ^ nh ∧ s.2.2.1 = nI k) ∧ (∃ k, k < 1000 ∧ s.2.2.2 = nI k) ∧ ∀ t k, t < nt → k < nh → s.1 t = nI k → hasB s.2.2.1 (nI k) = 0
/-- what ties the class's state to the reference's -/
def Rel (x : vX) (y : vY) : Prop := ∃ nh nt u ln sm : Nat, (nh ≤ 7 ∧ nt ≤ 10 ∧ u ≤ 8 ∧ ln ≤ 200 ∧ sm ≤ 6) ∧
  -- told
  (x.1.1.1 = nI nh ∧ x.1.1.2 = nI nt ∧ y.1.1 22 = nI nh ∧ y.1.1 23 = nI nt ∧ y.1.1 73 = nI nh ∧ y.1.1 74 = nI nt ∧ y.1.1 51 = 0 ∧ y.1.1 52 = 0 ∧
    (∀ t, t < nt → x.1.2.1 t = y.1.1 (24 + t) ∧ y.1.1 (75 + t) = y.1.1 (24 + t) ∧ (∃ k, k < 5 ∧ y.1.1 (24 + t) = nI k) ∧ x.1.2.2.1 t = y.1.1 (34 + t) ∧ y.1.1 (85 + t) = y.1.1 (34 + t) ∧ (∃ k, k < nh ∧ y.1.1 (34 + t) = nI k) ∧ x.1.2.2.2.1 t = y.1.1 (63 + t) ∧ (∃ k, k < nh ∧ y.1.1 (63 + t) = nI k) ∧ x.1.2.2.2.2.1 t = y.1.1 (53 + t) ∧ ∃ k, 1 ≤ k ∧ k < 100 ∧ y.1.1 (53 + t) = nI k) ∧
    (∀ k, k < nh → x.1.2.2.2.2.2 k = y.1.1 (95 + k) ∧ (y.1.1 (95 + k) = -1 ∨ ∃ t, t < nt ∧ y.1.1 (95 + k) = nI t)) ∧ (∀ k, nh ≤ k → k < 7 → x.1.2.2.2.2.2 k = -1)) ∧
  -- now, past, kept
  stR y.1.1 0 nh nt x.2.1 ∧
  (x.2.2.1.1 = nI u ∧ y.1.2.1 = nI u ∧ (∀ i, i < 8 → x.2.2.1.2.1 i < 8) ∧ (∀ i j, i < 8 → j < 8 → x.2.2.1.2.1 i = x.2.2.1.2.1 j → i = j) ∧ ∀ i, i < u → stR y.1.1 (102 + 22 * i) nh nt (x.2.2.1.2.2 i)) ∧
  (∀ k, k < 2 → x.2.2.2.1.2 k = y.1.2.2 k ∧ (y.1.2.2 k = 0 ∨ y.1.2.2 k = 1) ∧ (y.1.2.2 k = 1 → stR y.1.1 (278 + 22 * k) nh nt (x.2.2.2.1.1 k))) ∧
  -- wants
  (∀ k, k < nh → x.2.2.2.2.1 k = y.1.1 (44 + k) ∧ (y.1.1 (44 + k) = -1 ∨ ∃ t, t < nt ∧ y.1.1 (44 + k) = nI t)) ∧
  -- the text
  (x.2.2.2.2.2.1.2 = nI ln ∧ y.2.1.2 = nI ln ∧ ∀ i, i < ln → x.2.2.2.2.2.1.1 i = y.2.1.1 i ∧ ∃ k, k < 256 ∧ y.2.1.1 i = nI k) ∧
  -- what was seen
  (x.2.2.2.2.2.2.1.2.2.2 = nI sm ∧ y.2.2.1.1 = nI sm ∧ ∀ i, i < sm → x.2.2.2.2.2.2.1.1 i = y.2.2.1.2.1 i ∧ x.2.2.2.2.2.2.1.2.1 i = y.2.2.1.2.2.1 i ∧ (y.2.2.1.2.2.1 i = 0 ∨ y.2.2.1.2.2.1 i = 1) ∧ x.2.2.2.2.2.2.1.2.2.1 i = y.2.2.1.2.2.2 i ∧ (∃ k, 1 ≤ k ∧ k ≤ 20 ∧ y.2.2.1.2.1 i = nI k)) ∧
  -- hooks
  (∀ i, i < 3 → (x.2.2.2.2.2.2.2 i).1 = (if y.2.2.2.1 i < 0 then 1 else 0) ∧ ((y.2.2.2.1 i < 0 ∧ (x.2.2.2.2.2.2.2 i).2.2.1 = 0) ∨ ∃ rm sz : Nat, rm ≤ 12 ∧ sz ≤ rm ∧ y.2.2.2.1 i = nI rm ∧ (x.2.2.2.2.2.2.2 i).2.1 = nI rm ∧ (x.2.2.2.2.2.2.2 i).2.2.1 = nI sz ∧ y.2.2.2.2.1 i = nI sz ∧ ∀ j, j < sz → (x.2.2.2.2.2.2.2 i).2.2.2.1 j = y.2.2.2.2.2.1 (12 * i + j) ∧ (x.2.2.2.2.2.2.2 i).2.2.2.2 j = y.2.2.2.2.2.2 (12 * i + j)))
def NZ : Nat := 1430
/-- what holds between two calls -/
def Inv (h : aH) : Prop := ∃ (x : vX) (y : vY), cX h x ∧ cY h y ∧ Rel x y ∧ hn h = 95 ∧ hz h ≤ 5000
/-- a call of the class leaves the reference's cells, and the other way round -/
def frX (h h' : aH) : Prop := hn h' = hn h ∧ hz h' = hz h ∧ ∀ k, 73 ≤ k → hg h' k = hg h k
def frY (h h' : aH) : Prop := hn h' = hn h ∧ hz h' = hz h ∧ ∀ k, k < 73 → hg h' k = hg h k
theorem frX.rf {h : aH} : frX h h := ⟨rfl, rfl, fun _ _ => rfl⟩
theorem frY.rf {h : aH} : frY h h := ⟨rfl, rfl, fun _ _ => rfl⟩
theorem frX.tr {a b c : aH} (h1 : frX a b) (h2 : frX b c) : frX a c := ⟨h2.1.trans h1.1, h2.2.1.trans h1.2.1, fun k hk => (h2.2.2 k hk).trans (h1.2.2 k hk)⟩
theorem frY.tr {a b c : aH} (h1 : frY a b) (h2 : frY b c) : frY a c := ⟨h2.1.trans h1.1, h2.2.1.trans h1.2.1, fun k hk => (h2.2.2 k hk).trans (h1.2.2 k hk)⟩
theorem frX.put {h : aH} {k : Nat} {e : aE} (hk : k < 73) : frX h (hs h k e) := ⟨rfl, rfl, fun j hj => hg_hs_ne h e (by omega)⟩
theorem frY.put {h : aH} {k : Nat} {e : aE} (hk : 73 ≤ k) : frY h (hs h k e) := ⟨rfl, rfl, fun j hj => hg_hs_ne h e (by omega)⟩
theorem oState.kept {h h' : aH} {r : Nat} {s : vS} (ho : oState h r s) (hq : ∀ k, r ≤ k → k < r + 3 → hg h' k = hg h k) : oState h' r s := by
  obtain ⟨a, b, c⟩ := ho
  exact ⟨by rw [hq r (by omega) (by omega)]; exact a, by rw [hq _ (by omega) (by omega)]; exact b, by rw [hq _ (by omega) (by omega)]; exact c⟩
theorem oTold.kept {h h' : aH} {r : Nat} {t : vT} (ho : oTold h r t) (hq : ∀ k, r ≤ k → k < r + 6 → hg h' k = hg h k) : oTold h' r t := by
  obtain ⟨a, b, c, d, e, f⟩ := ho
  exact ⟨by rw [hq r (by omega) (by omega)]; exact a, by rw [hq _ (by omega) (by omega)]; exact b, by rw [hq _ (by omega) (by omega)]; exact c, by rw [hq _ (by omega) (by omega)]; exact d, by rw [hq _ (by omega) (by omega)]; exact e, by rw [hq _ (by omega) (by omega)]; exact f⟩
theorem oRack.kept {h h' : aH} {r : Nat} {s : vR} (ho : oRack h r s) (hq : ∀ k, r ≤ k → k < r + 3 → hg h' k = hg h k) : oRack h' r s := by
  obtain ⟨a, b, c⟩ := ho
  exact ⟨by rw [hq r (by omega) (by omega)]; exact a, by rw [hq _ (by omega) (by omega)]; exact b, by rw [hq _ (by omega) (by omega)]; exact c⟩
theorem cY.kept {h h' : aH} {y : vY} (hc : cY h y) (hf : frX h h') : cY h' y := by
  have q := hf.2.2
  obtain ⟨⟨a, b, c, d, e, f, h1⟩, ⟨h2, h3, h4⟩, ⟨h5, h6, h7⟩, ⟨h8, h9, h10, h11⟩, ⟨n9, lk, st, h12, h13, h14⟩, h15, h16, h17, h18, h19, h20, h21, h22⟩ := hc
  refine ⟨⟨a, b, c, d, e, f, ?_⟩, ⟨?_, ?_, ?_⟩, ⟨?_, ?_, ?_⟩, ⟨?_, ?_, ?_, ?_⟩, ⟨n9, lk, st, ?_, ?_, ?_⟩, ?_, ?_, ?_, ?_, ?_, ?_, ?_, ?_⟩
  · unfold oMod; rw [q _ (by omega)]; exact h1
  all_goals (rw [q _ (by omega)]; assumption)
theorem cX.kept {h h' : aH} {x : vX} (hc : cX h x) (hpi : ∀ i, i < 8 → x.2.2.1.2.1 i < 8) (hf : frY h h') : cX h' x := by
  have q := hf.2.2
  obtain ⟨h1, h2, ⟨t, h3⟩, h4, ⟨s, h5⟩, ⟨h6, h7⟩, ⟨⟨h8, h9⟩, h10⟩, h11, ⟨c1, c2, c3, c4, h12, h13⟩, ⟨i1, t1, f1, h14, h15⟩, ⟨f2, g2, h16, h17⟩, ⟨h18, h19, h20, h21⟩, h22, h23⟩ := hc
  refine ⟨?_, h2.kept (fun k _ _ => q k (by omega)), ⟨t, h3.kept (fun k _ _ => q k (by omega))⟩, h4.kept (fun k _ _ => q k (by omega)), ⟨s, h5.kept (fun k _ _ => q k (by omega))⟩, ⟨?_, fun i hi => (h7 i hi).kept (fun k _ _ => q k (by have := hpi i hi; omega))⟩, ⟨⟨?_, fun i hi => (h9 i hi).kept (fun k _ _ => q k (by omega))⟩, ?_⟩, ?_, ⟨c1, c2, c3, c4, ?_, ?_⟩, ⟨i1, t1, f1, ?_, ?_⟩, ⟨f2, g2, ?_, ?_⟩, ⟨?_, ?_, ?_, ?_⟩, ?_, fun i hi => (h23 i hi).kept (fun k _ _ => q k (by omega))⟩
  · unfold oHt; rw [q _ (by omega)]; exact h1
  all_goals (rw [q _ (by omega)]; assumption)
/-- a call answers alike, whatever holds before, and the tie holds behind it: a number of calls deep at most -/
def CallOK (Mx My np : Nat) : Prop := ∀ (X : aX) (d : Nat) (h : aH) (av : List Value), av.length = np → (∀ v ∈ av, ∃ a : Int32, v = .int a) → Inv h → ∃ (r : Int32) (h1 h2 : aH), aEv X (d + 40) Mx (.ref 0 :: av) h (some (.int r)) h1 ∧ aEv X (d + 40) My (.ref 73 :: av) h1 (some (.int r)) h2 ∧ Inv h2 ∧ ∃ u ln sm a b c d e f, oMod h1 u ln sm a b c d e f
/-- out of the two methods' own rows -/
theorem callOK_of {Mx My np : Nat} (k : ∀ (X : aX) (d : Nat) (h : aH) (av : List Value) (x : vX) (y : vY), av.length = np → (∀ v ∈ av, ∃ a : Int32, v = .int a) → cX h x → cY h y → Rel x y → ∃ (r : Int32) (h1 : aH) (x' : vX) (y' : vY), aEv X (d + 40) Mx (.ref 0 :: av) h (some (.int r)) h1 ∧ frX h h1 ∧ cX h1 x' ∧ Rel x' y' ∧ ∀ g, cY g y → ∃ g', aEv X (d + 40) My (.ref 73 :: av) g (some (.int r)) g' ∧ frY g g' ∧ cY g' y') : CallOK Mx My np := by
  intro X d h av h1 h2 ⟨x, y, hx, hy, hr, hn1, hz1⟩
  obtain ⟨r, g, x', y', e1, f1, cx, rl, kk⟩ := k X d h av x y h1 h2 hx hy hr
  obtain ⟨g2, e2, f2, cy⟩ := kk g (hy.kept f1)
  have hpi : ∀ i, i < 8 → x'.2.2.1.2.1 i < 8 := by
    obtain ⟨_, _, _, _, _, -, -, -, ⟨-, -, q, -⟩, -⟩ := rl
    exact q
  refine ⟨r, g, g2, e1, e2, ⟨x', y', cx.kept hpi f2, cy, rl, by rw [f2.1, f1.1]; exact hn1, by rw [f2.2.1, f1.2.1]; exact hz1⟩, ?_⟩
  obtain ⟨⟨a, b, c, d, e, f, q⟩, -⟩ := hy.kept f1
  exact ⟨_, _, _, a, b, c, d, e, f, q⟩
