/-! ===== AN ABSTRACT MACHINE. Cells have numbers in place of addresses; a value '.ref k' is the k-th cell that was made, '.float c' is the c-th constant (a static row, a String, the script); '.double _' marks a local of which nothing is said. ===== -/
abbrev aE : Type := (FieldType × Nat × ((Nat → Int32) ⊕ (Nat → Option Nat))) ⊕ (Nat × List Value)
abbrev aH : Type := Nat × Nat × (Nat → aE)
def aJ : aE := .inr (999, [])
def hn (h : aH) : Nat := h.1
def hz (h : aH) : Nat := h.2.1
def hg (h : aH) (k : Nat) : aE := h.2.2 k
def hs (h : aH) (k : Nat) (e : aE) : aH := (h.1, h.2.1, fun j => if j = k then e else h.2.2 j)
def hp (h : aH) (z : Nat) (e : aE) : aH := (h.1 + 1, h.2.1 + z, fun j => if j = h.1 then e else h.2.2 j)
theorem hg_hs (h : aH) (k : Nat) (e : aE) (j : Nat) : hg (hs h k e) j = if j = k then e else hg h j := rfl
theorem hg_hs_self (h : aH) (k : Nat) (e : aE) : hg (hs h k e) k = e := if_pos rfl
theorem hg_hs_ne (h : aH) {k j : Nat} (e : aE) (hj : j ≠ k) : hg (hs h k e) j = hg h j := if_neg hj
theorem hg_hp (h : aH) (z : Nat) (e : aE) (j : Nat) : hg (hp h z e) j = if j = hn h then e else hg h j := rfl
theorem hn_hs (h : aH) (k : Nat) (e : aE) : hn (hs h k e) = hn h := rfl
theorem hz_hs (h : aH) (k : Nat) (e : aE) : hz (hs h k e) = hz h := rfl
theorem hn_hp (h : aH) (z : Nat) (e : aE) : hn (hp h z e) = hn h + 1 := rfl
theorem hz_hp (h : aH) (z : Nat) (e : aE) : hz (hp h z e) = hz h + z := rfl
abbrev aG : Type := Nat × List Value × List Value × aH
abbrev aR : Type := Option Value × aH
abbrev aN : Type := aG ⊕ aR
/-- the script: how many ints, which -/
abbrev aX : Type := Nat × (Nat → Int32)
abbrev aCall : Type := Nat → List Value → aH → Option Value → aH → Prop
/-- the bytes of the String constants -/
def strB : List (List Int32) := [[99, 111, 109, 109, 111, 110, 115], [104, 111, 117, 115, 101], [119, 97, 110, 116], [112, 97, 110], [115, 112, 111, 111, 110], [112, 105, 112, 101], [115, 104, 111, 101], [99, 97, 112]]
/-- rows that nobody writes: 0 .. 2 the statics, 3 the script, 20 .. 27 the bytes of the Strings 10 .. 17 -/
def kA (X : aX) (c : UInt32) : Option (FieldType × Nat × (Nat → Int32)) :=
  if c = 0 then some (.int, 5, fun j => [1, 0, 2, 3, 2].getD j 0)
  else if c = 1 then some (.int, 5, fun j => [1, 0, 2, 0, 0].getD j 0)
  else if c = 2 then some (.int, 6, fun j => [-1, 0, 1, 1, 0, 4].getD j 0)
  else if c = 3 then some (.int, X.1, X.2)
  else if 20 ≤ c.toNat ∧ c.toNat < 28 then some (.byte, (strB.getD (c.toNat - 20) []).length, fun j => (strB.getD (c.toNat - 20) []).getD j 0)
  else none
def isS (c : UInt32) : Bool := decide (10 ≤ c.toNat ∧ c.toNat < 18)
def tyF : List (Nat → FieldType) := [tyX0, tyX1, tyX2, tyX3, tyX4, tyX5, tyX6, tyX7]
def fty (ci k : Nat) : FieldType := (tyF.getD ci (fun _ => .int)) k
def okf (t : FieldType) (v : Value) : Bool := match v with
  | .int a => (match t with
    | .int => true
    | .boolean => decide (a = 0 ∨ a = 1)
    | _ => false)
  | .ref _ => (match t with
    | .array _ => true
    | .object _ => true
    | _ => false)
  | _ => false
def jkV : Value := .double 0
def j2V : Value := .double 1
def isd : Value → Bool
  | .double x => x == 1
  | _ => false
def sto (L : List Value) (i : Nat) (v : Value) : Option (List Value) := match L[i]? with
  | some w => if isd w then none else some (L.set i v)
  | none => none
/-- the second half of a long that still stands -/
def sec2 (L : List Value) (i : Nat) (w : Value) : Bool := isd w && (match i with
  | 0 => false
  | j + 1 => (match L[j]? with
    | some (.long _) => true
    | _ => false))
def sto2 (L : List Value) (i : Nat) (v : Value) : Option (List Value) := match L[i]? with
  | some w => if sec2 L i w then none else if i + 1 < L.length then some ((L.set i v).set (i + 1) j2V) else none
  | none => none
def gt (pc : Nat) (L S : List Value) (h : aH) : Option aN := some (.inl (pc, L, S, h))
def jp (pc : Nat) (off : Int) (L S : List Value) (h : aH) : Option aN := match (pc : Int) + off with
  | .ofNat t => gt t L S h
  | .negSucc _ => none
def ldi (L : List Value) (i : Nat) (k : Int32 → Option aN) : Option aN := match L[i]? with
  | some (.int a) => k a
  | _ => none
def ldl (L : List Value) (i : Nat) (k : Int64 → Option aN) : Option aN := match L[i]? with
  | some (.long a) => k a
  | _ => none
def lda (L : List Value) (i : Nat) (k : Value → Option aN) : Option aN := match L[i]? with
  | some (.ref a) => k (.ref a)
  | some (.float a) => k (.float a)
  | _ => none
def sti (L S : List Value) (i : Nat) (k : List Value → List Value → Option aN) : Option aN := match S with
  | .int a :: S => (match sto L i (.int a) with
    | some L => k L S
    | none => none)
  | _ => none
def stl (L S : List Value) (i : Nat) (k : List Value → List Value → Option aN) : Option aN := match S with
  | .long a :: S => (match sto2 L i (.long a) with
    | some L => k L S
    | none => none)
  | _ => none
def sta (L S : List Value) (i : Nat) (k : List Value → List Value → Option aN) : Option aN := match S with
  | .ref a :: S => (match sto L i (.ref a) with
    | some L => k L S
    | none => none)
  | .float a :: S => (match sto L i (.float a) with
    | some L => k L S
    | none => none)
  | _ => none
def op2 (S : List Value) (k : Int32 → Int32 → List Value → Option aN) : Option aN := match S with
  | .int y :: .int x :: S => k x y S
  | _ => none
def op2l (S : List Value) (k : Int64 → Int64 → List Value → Option aN) : Option aN := match S with
  | .long y :: .long x :: S => k x y S
  | _ => none
def op1 (S : List Value) (k : Int32 → List Value → Option aN) : Option aN := match S with
  | .int x :: S => k x S
  | _ => none
def op1l (S : List Value) (k : Int64 → List Value → Option aN) : Option aN := match S with
  | .long x :: S => k x S
  | _ => none
def cat1 : Value → Bool
  | .int _ => true
  | .ref _ => true
  | .float _ => true
  | _ => false
def br (c : Prop) [Decidable c] (pc : Nat) (off : Int) (L S : List Value) (h : aH) : Option aN := match (pc : Int) + off with
  | .ofNat t => if c then gt t L S h else gt (pc + 3) L S h
  | .negSucc _ => none
def fF (k idx : Nat) : Option (Nat × Nat × Bool) := (lkF.find? (fun e => e.1 == k && e.2.1 == idx)).map (fun e => (e.2.2.1, e.2.2.2.1, e.2.2.2.2.1))
def fS (k idx : Nat) : Option Nat := (lkS.find? (fun e => e.1 == k && e.2.1 == idx)).map (fun e => e.2.2.1)
def fG (k idx : Nat) : Option Nat := (lkG.find? (fun e => e.1 == k && e.2.1 == idx)).map (fun e => e.2.2.1)
def fC (k idx : Nat) : Option Int32 := (lkC.find? (fun e => e.1 == k && e.2.1 == idx)).map (fun e => e.2.2.1)
def fC2 (k idx : Nat) : Option Int64 := (lkC2.find? (fun e => e.1 == k && e.2.1 == idx)).map (fun e => e.2.2.1)
def fN1 (k idx : Nat) : Option Nat := (lkN.find? (fun e => e.1 == k && e.2.1 == idx)).map (fun e => e.2.2.1)
def fT1 (k idx : Nat) : Option Nat := lkT.findIdx? (fun e => e.1 == k && e.2.1 == idx)
def fM (k idx : Nat) : Option (Nat × Nat × Bool) := (lkM.find? (fun e => e.1 == k && e.2.1 == idx)).map (fun e => (e.2.2.1, e.2.2.2.1, e.2.2.2.2.1))
/-- getfield -/
def gfd (e : aE) (ci k : Nat) (K : Value → Option aN) : Option aN := match e with
  | .inr (c, fs) => if c = ci then (match fs[k]? with
    | some v => K v
    | none => none) else none
  | .inl _ => none
def pfd (e : aE) (ci k : Nat) (v : Value) (K : aE → Option aN) : Option aN := match e with
  | .inr (c, fs) => if c = ci ∧ k < fs.length then K (.inr (c, fs.set k v)) else none
  | .inl _ => none
/-- a row's cell -/
def ald (e : aE) (t : FieldType) (i : Int32) (K : Int32 → Option aN) : Option aN := match e with
  | .inl (ty, n, .inl f) => if ty = t ∧ ¬ (i < 0 ∨ n ≤ i.toNatClampNeg) then K (f i.toNatClampNeg) else none
  | _ => none
def ast (e : aE) (t : FieldType) (i x : Int32) (K : aE → Option aN) : Option aN := match e with
  | .inl (ty, n, .inl f) => if ty = t ∧ ¬ (i < 0 ∨ n ≤ i.toNatClampNeg) then K (.inl (ty, n, .inl (upd f i.toNatClampNeg (vp_nar t x)))) else none
  | _ => none
def aald (e : aE) (i : Int32) (K : Value → Option aN) : Option aN := match e with
  | .inl (.object _, n, .inr g) => if ¬ (i < 0 ∨ n ≤ i.toNatClampNeg) then (match g i.toNatClampNeg with
    | some k => K (.ref k)
    | none => none) else none
  | _ => none
/-- aastore of an object of the row's own class -/
def aast (e ev : aE) (i : Int32) (v : Nat) (K : aE → Option aN) : Option aN := match e, ev with
  | .inl (.object C, n, .inr g), .inr (ci, _) => if C = cn ci ∧ ci < 8 ∧ ¬ (i < 0 ∨ n ≤ i.toNatClampNeg) then K (.inl (.object C, n, .inr (va_up g i.toNatClampNeg (some v)))) else none
  | _, _ => none
def alen (e : aE) (K : Int32 → Option aN) : Option aN := match e with
  | .inl (_, n, .inl _) => K (Int32.ofNat n)
  | _ => none
def dfV : FieldType → Value
  | .int => .int 0
  | .boolean => .int 0
  | _ => .null
def newF (ci : Nat) : List Value := (List.range (fN ci)).map (fun k => dfV (fty ci k))
def aty : ArrayType → Option FieldType
  | .int => some .int
  | .boolean => some .boolean
  | .char => some .char
  | _ => none
/-- what an instruction that is no call does -/
def stepF (X : aX) (M pc : Nat) (i : Instr) (L S : List Value) (h : aH) : Option aN := match i with
  | .iconst n => gt (pc + 1) L (.int (Int32.ofInt n) :: S) h
  | .bipush n => gt (pc + 2) L (.int (Int8.ofInt n).toInt32 :: S) h
  | .sipush n => gt (pc + 3) L (.int (Int16.ofInt n).toInt32 :: S) h
  | .lconst n => gt (pc + 1) L (.long (Int64.ofNat (n : Nat)) :: S) h
  | .ldc idx => (match fC (mK M) idx with
    | some v => gt (pc + 2) L (.int v :: S) h
    | none => (match fT1 (mK M) idx with
      | some q => gt (pc + 2) L (.float (UInt32.ofNat (10 + q)) :: S) h
      | none => none))
  | .ldc_w idx => (match fC (mK M) idx with
    | some v => gt (pc + 3) L (.int v :: S) h
    | none => none)
  | .ldc2_w idx => (match fC2 (mK M) idx with
    | some v => gt (pc + 3) L (.long v :: S) h
    | none => none)
  | .iload k => ldi L k (fun a => gt (pc + 2) L (.int a :: S) h)
  | .iload_n k => ldi L k (fun a => gt (pc + 1) L (.int a :: S) h)
  | .lload k => ldl L k (fun a => gt (pc + 2) L (.long a :: S) h)
  | .lload_n k => ldl L k (fun a => gt (pc + 1) L (.long a :: S) h)
  | .aload k => lda L k (fun a => gt (pc + 2) L (a :: S) h)
  | .aload_n k => lda L k (fun a => gt (pc + 1) L (a :: S) h)
  | .istore k => sti L S k (fun L S => gt (pc + 2) L S h)
  | .istore_n k => sti L S k (fun L S => gt (pc + 1) L S h)
  | .lstore k => stl L S k (fun L S => gt (pc + 2) L S h)
  | .lstore_n k => stl L S k (fun L S => gt (pc + 1) L S h)
  | .astore k => sta L S k (fun L S => gt (pc + 2) L S h)
  | .astore_n k => sta L S k (fun L S => gt (pc + 1) L S h)
  | .iinc k n => ldi L k (fun a => gt (pc + 3) (L.set k (.int (a + Int32.ofInt n))) S h)
  | .iadd => op2 S (fun x y S => gt (pc + 1) L (.int (x + y) :: S) h)
  | .isub => op2 S (fun x y S => gt (pc + 1) L (.int (x - y) :: S) h)
  | .imul => op2 S (fun x y S => gt (pc + 1) L (.int (x * y) :: S) h)
  | .iand => op2 S (fun x y S => gt (pc + 1) L (.int (x &&& y) :: S) h)
  | .ior => op2 S (fun x y S => gt (pc + 1) L (.int (x ||| y) :: S) h)
  | .ixor => op2 S (fun x y S => gt (pc + 1) L (.int (x ^^^ y) :: S) h)
  | .idiv => op2 S (fun x y S => if y = 0 then none else gt (pc + 1) L (.int (x / y) :: S) h)
  | .irem => op2 S (fun x y S => if y = 0 then none else gt (pc + 1) L (.int (x - x / y * y) :: S) h)
  | .ineg => op1 S (fun x S => gt (pc + 1) L (.int (-x) :: S) h)
  | .ishl => op2 S (fun x y S => gt (pc + 1) L (.int (x <<< (y &&& 31)) :: S) h)
  | .ishr => op2 S (fun x y S => gt (pc + 1) L (.int (x >>> (y &&& 31)) :: S) h)
  | .iushr => op2 S (fun x y S => gt (pc + 1) L (.int (x.toUInt32 >>> (y.toUInt32 &&& Int32.toUInt32 31)).toInt32 :: S) h)
  | .ladd => op2l S (fun x y S => gt (pc + 1) L (.long (x + y) :: S) h)
  | .lmul => op2l S (fun x y S => gt (pc + 1) L (.long (x * y) :: S) h)
  | .ldiv => op2l S (fun x y S => if y = 0 then none else gt (pc + 1) L (.long (x / y) :: S) h)
  | .lrem => op2l S (fun x y S => if y = 0 then none else gt (pc + 1) L (.long (x - x / y * y) :: S) h)
  | .lcmp => op2l S (fun x y S => gt (pc + 1) L (.int (lg_cmp x y) :: S) h)
  | .i2l => op1 S (fun x S => gt (pc + 1) L (.long x.toInt64 :: S) h)
  | .i2c => op1 S (fun x S => gt (pc + 1) L (.int (x.toUInt32 % 65536).toInt32 :: S) h)
  | .l2i => op1l S (fun x S => gt (pc + 1) L (.int x.toInt32 :: S) h)
  | .dup => (match S with
    | v :: S => if cat1 v then gt (pc + 1) L (v :: v :: S) h else none
    | _ => none)
  | .dup2 => (match S with
    | v :: w :: S => if cat1 v ∧ cat1 w then gt (pc + 1) L (v :: w :: v :: w :: S) h else none
    | _ => none)
  | .pop => (match S with
    | v :: S => if cat1 v then gt (pc + 1) L S h else none
    | _ => none)
  | .goto off => jp pc off L S h
  | .ifCond c off => op1 S (fun x S => match c with
    | .eq => br (x = 0) pc off L S h
    | .ne => br (¬ x = 0) pc off L S h
    | .lt => br (x < 0) pc off L S h
    | .ge => br (0 ≤ x) pc off L S h
    | .gt => br (0 < x) pc off L S h
    | .le => br (x ≤ 0) pc off L S h)
  | .if_icmp c off => op2 S (fun x y S => match c with
    | .eq => br (x = y) pc off L S h
    | .ne => br (¬ x = y) pc off L S h
    | .lt => br (x < y) pc off L S h
    | .ge => br (y ≤ x) pc off L S h
    | .gt => br (y < x) pc off L S h
    | .le => br (x ≤ y) pc off L S h)
  | .tableswitch dflt lo hi offs => op1 S (fun x S => if x.toInt < lo ∨ hi < x.toInt then jp pc dflt L S h else match offs[(x.toInt - lo).toNat]? with
    | some off => jp pc off L S h
    | none => none)
  | .getfield idx => (match S with
    | .ref k :: S => (match fF (mK M) idx with
      | some (ci, f, _) => gfd (hg h k) ci f (fun v => gt (pc + 3) L (v :: S) h)
      | none => none)
    | .float c :: S => (match fS (mK M) idx with
      | some f => if isS c then gt (pc + 3) L ((if f = 0 then .float (c + 10) else .int 0) :: S) h else none
      | none => none)
    | _ => none)
  | .putfield idx => (match S with
    | v :: .ref k :: S => (match fF (mK M) idx with
      | some (ci, f, nest) => if okf (fty ci f) v ∧ ((fT ci f).2.2.2 = false ∨ (nest = false ∧ mS M = 2 ∧ mK M = ci)) then pfd (hg h k) ci f v (fun e => gt (pc + 3) L S (hs h k e)) else none
      | none => none)
    | _ => none)
  | .getstatic idx => (match fG (mK M) idx with
    | some q => gt (pc + 3) L ((sgE q).2.2.2 :: S) h
    | none => none)
  | .iaload => (match S with
    | .int i :: .ref k :: S => ald (hg h k) .int i (fun v => gt (pc + 1) L (.int v :: S) h)
    | .int i :: .float c :: S => (match kA X c with
      | some (t, n, f) => if t = .int ∧ ¬ (i < 0 ∨ n ≤ i.toNatClampNeg) then gt (pc + 1) L (.int (f i.toNatClampNeg) :: S) h else none
      | none => none)
    | _ => none)
  | .baload => (match S with
    | .int i :: .ref k :: S => ald (hg h k) .boolean i (fun v => gt (pc + 1) L (.int v :: S) h)
    | .int i :: .float c :: S => (match kA X c with
      | some (t, n, f) => if t = .byte ∧ ¬ (i < 0 ∨ n ≤ i.toNatClampNeg) then gt (pc + 1) L (.int (f i.toNatClampNeg) :: S) h else none
      | none => none)
    | _ => none)
  | .caload => (match S with
    | .int i :: .ref k :: S => ald (hg h k) .char i (fun v => gt (pc + 1) L (.int v :: S) h)
    | _ => none)
  | .aaload => (match S with
    | .int i :: .ref k :: S => aald (hg h k) i (fun v => gt (pc + 1) L (v :: S) h)
    | _ => none)
  | .iastore => (match S with
    | .int x :: .int i :: .ref k :: S => ast (hg h k) .int i x (fun e => gt (pc + 1) L S (hs h k e))
    | _ => none)
  | .bastore => (match S with
    | .int x :: .int i :: .ref k :: S => ast (hg h k) .boolean i x (fun e => gt (pc + 1) L S (hs h k e))
    | _ => none)
  | .castore => (match S with
    | .int x :: .int i :: .ref k :: S => ast (hg h k) .char i x (fun e => gt (pc + 1) L S (hs h k e))
    | _ => none)
  | .aastore => (match S with
    | .ref v :: .int i :: .ref k :: S => aast (hg h k) (hg h v) i v (fun e => gt (pc + 1) L S (hs h k e))
    | _ => none)
  | .arraylength => (match S with
    | .ref k :: S => alen (hg h k) (fun v => gt (pc + 1) L (.int v :: S) h)
    | .float c :: S => (match kA X c with
      | some (_, n, _) => gt (pc + 1) L (.int (Int32.ofNat n) :: S) h
      | none => none)
    | _ => none)
  | .new idx => (match fN1 (mK M) idx with
    | some ci => gt (pc + 3) L (.ref (hn h) :: S) (hp h (fN ci) (.inr (ci, newF ci)))
    | none => none)
  | .newarray t => (match aty t with
    | some ty => op1 S (fun n S => if n < 0 ∨ 1000 < n.toNatClampNeg then none else gt (pc + 2) L (.ref (hn h) :: S) (hp h n.toNatClampNeg (.inl (ty, n.toNatClampNeg, .inl (fun _ => 0)))))
    | none => none)
  | .anewarray idx => (match fN1 (mK M) idx with
    | some ci => op1 S (fun n S => if n < 0 ∨ 1000 < n.toNatClampNeg ∨ ¬ (ci = 1 ∨ ci = 3) then none else gt (pc + 3) L (.ref (hn h) :: S) (hp h n.toNatClampNeg (.inl (.object (cn ci), n.toNatClampNeg, .inr (fun _ => none)))))
    | none => none)
  | .ireturn => (match S, mR M with
    | [.int v], some ty => if narrow ty (.int v) = .int v then some (.inr (some (.int v), h)) else none
    | _, _ => none)
  | .return_ => (match S, mR M with
    | [], none => some (.inr (none, h))
    | _, _ => none)
  | _ => none
/-- a receiver of class k -/
def rcv (h : aH) (k : Nat) : Value → Bool
  | .ref a => (match hg h a with
    | .inr (c, _) => decide (c = k ∧ c < 8)
    | .inl _ => false)
  | .float c => isS c && decide (k = 10)
  | _ => false
/-- arraycopy of ints -/
def acp (S : List Value) (h : aH) (K : List Value → aH → Option aN) : Option aN := match S with
  | .int n :: .int dp :: .ref b :: .int sp :: .ref a :: S => (match hg h a, hg h b with
    | .inl (.int, n0, .inl f), .inl (.int, n1, .inl g) => if ¬ sp < 0 ∧ ¬ dp < 0 ∧ ¬ n < 0 ∧ sp.toNatClampNeg + n.toNatClampNeg ≤ n0 ∧ dp.toNatClampNeg + n.toNatClampNeg ≤ n1 ∧ S.length ≤ 4 then K S (hs h b (.inl (.int, n1, .inl (va_cpy f g sp.toNatClampNeg dp.toNatClampNeg n.toNatClampNeg)))) else none
    | _, _ => none)
  | _ => none
/-- calls -/
def stepC (C : aCall) (M pc : Nat) (kd : Nat) (Mc : Nat) (L S : List Value) (h : aH) (nx : aN) : Prop :=
  if kd = 0 then mP Mc ≤ S.length ∧ (S.drop (mP Mc)).length ≤ 4 ∧ ∃ (r : Option Value) (h' : aH), C Mc (S.take (mP Mc)).reverse h r h' ∧ nx = .inl (pc + 3, L, r.toList ++ S.drop (mP Mc), h')
  else if kd = 1 then mP Mc ≤ S.length ∧ (match S.drop (mP Mc) with
    | v :: S' => rcv h (mK Mc) v = true ∧ S'.length ≤ 4 ∧ ∃ (r : Option Value) (h' : aH), C Mc (v :: (S.take (mP Mc)).reverse) h r h' ∧ nx = .inl (pc + 3, L, r.toList ++ S', h')
    | [] => False)
  else if kd = 2 then mP Mc ≤ S.length ∧ (match S.drop (mP Mc) with
    | .ref a :: S' => S'.length ≤ 4 ∧ ∃ (r : Option Value) (h' : aH), C Mc (.ref a :: (S.take (mP Mc)).reverse) h r h' ∧ nx = .inl (pc + 3, L, r.toList ++ S', h')
    | _ => False)
  else if kd = 3 then (match S with
    | .ref _ :: S' => S'.length ≤ 4 ∧ nx = .inl (pc + 3, L, S', h)
    | _ => False)
  else if kd = 4 then acp S h (fun S' h' => gt (pc + 3) L S' h') = some nx
  else if kd = 5 then op2 S (fun x y S' => if S'.length ≤ 4 then gt (pc + 3) L (.int (if x < y then y else x) :: S') h else none) = some nx
  else if kd = 6 then op2 S (fun x y S' => if S'.length ≤ 4 then gt (pc + 3) L (.int (if y < x then y else x) :: S') h else none) = some nx
  else False
def aST (C : aCall) (X : aX) (M pc : Nat) (i : Instr) (L S : List Value) (h : aH) (nx : aN) : Prop := match i with
  | .invokestatic idx => (match fM (mK M) idx with
    | some (kd, Mc, _) => ((kd = 0 ∨ kd = 4 ∨ kd = 5 ∨ kd = 6) ∧ stepC C M pc kd Mc L S h nx) ∧ nx.isLeft = true
    | none => False)
  | .invokevirtual idx => (match fM (mK M) idx with
    | some (kd, Mc, _) => (kd = 1 ∧ stepC C M pc kd Mc L S h nx) ∧ nx.isLeft = true
    | none => False)
  | .invokespecial idx => (match fM (mK M) idx with
    | some (kd, Mc, _) => ((kd = 2 ∨ kd = 3) ∧ stepC C M pc kd Mc L S h nx) ∧ nx.isLeft = true
    | none => False)
  | .ireturn => stepF X M pc .ireturn L S h = some nx
  | .return_ => stepF X M pc .return_ L S h = some nx
  | i => stepF X M pc i L S h = some nx ∧ nx.isLeft = true
/-- the lengths of instructions as the kit's rows have them -/
def iln (i : Instr) (n : Nat) : Nat := match i with
  | .tableswitch .. => n
  | .bipush _ | .iload _ | .lload _ | .aload _ | .istore _ | .lstore _ | .astore _ | .ldc _ | .newarray _ => 2
  | .sipush _ | .ldc_w _ | .ldc2_w _ | .iinc _ _ | .goto _ | .ifCond _ _ | .if_icmp _ _ | .getfield _ | .putfield _ | .getstatic _ | .new _ | .anewarray _ | .invokestatic _ | .invokevirtual _ | .invokespecial _ => 3
  | _ => 1
def aNx (P : Nat → List Value → List Value → aH → Prop) (res : aR) (nx : aN) : Prop := match nx with
  | .inl g => P g.1 g.2.1 g.2.2.1 g.2.2.2
  | .inr r => r = res
def aES (C : aCall) (X : aX) (M : Nat) (P : Nat → List Value → List Value → aH → Prop) (res : aR) (pc : Nat) (L S : List Value) (h : aH) : Prop := ∃ (i : Instr) (n : Nat) (nx : aN), decode (mC M) pc = .ok (i, n) ∧ n = iln i n ∧ aST C X M pc i L S h nx ∧ aNx P res nx
/-- from here the method comes to its end with res -/
def aRun (C : aCall) (X : aX) (M : Nat) (res : aR) (pc : Nat) (L S : List Value) (h : aH) : Prop := ∀ P : Nat → List Value → List Value → aH → Prop, (∀ pc L S h, aES C X M P res pc L S h → P pc L S h) → P pc L S h
theorem aNx_mono {P Q : Nat → List Value → List Value → aH → Prop} (hPQ : ∀ pc L S h, P pc L S h → Q pc L S h) {res : aR} {nx : aN} (h : aNx P res nx) : aNx Q res nx := by
  cases nx with
  | inl g => exact hPQ _ _ _ _ h
  | inr r => exact h
theorem aES_mono {C : aCall} {X : aX} {M : Nat} {P Q : Nat → List Value → List Value → aH → Prop} (hPQ : ∀ pc L S h, P pc L S h → Q pc L S h) {res : aR} {pc : Nat} {L S : List Value} {h : aH} (k : aES C X M P res pc L S h) : aES C X M Q res pc L S h := by
  obtain ⟨i, n, nx, h1, h2, h3, h4⟩ := k
  exact ⟨i, n, nx, h1, h2, h3, aNx_mono hPQ h4⟩
theorem aRun_in {C : aCall} {X : aX} {M : Nat} {res : aR} {pc : Nat} {L S : List Value} {h : aH} (k : aES C X M (aRun C X M res) res pc L S h) : aRun C X M res pc L S h :=
  fun P hP => hP pc L S h (aES_mono (fun _ _ _ _ q => q P hP) k)
theorem aRun_out {C : aCall} {X : aX} {M : Nat} {res : aR} {pc : Nat} {L S : List Value} {h : aH} (k : aRun C X M res pc L S h) : aES C X M (aRun C X M res) res pc L S h :=
  k (aES C X M (aRun C X M res) res) (fun _ _ _ _ q => aES_mono (fun _ _ _ _ z => aRun_in z) q)
theorem aRun_iff {C : aCall} {X : aX} {M : Nat} {res : aR} {pc n : Nat} {i : Instr} {L S : List Value} {h : aH} (hd : decode (mC M) pc = .ok (i, n)) (hn : n = iln i n) : aRun C X M res pc L S h ↔ ∃ nx, aST C X M pc i L S h nx ∧ aNx (aRun C X M res) res nx := by
  constructor
  · intro k
    obtain ⟨i2, n2, nx, h1, h2, h3, h4⟩ := aRun_out k
    have e := hd.symm.trans h1
    injection e with e
    injection e with e1 e2
    subst e1
    exact ⟨nx, h3, h4⟩
  · intro ⟨nx, h3, h4⟩
    exact aRun_in ⟨i, n, nx, hd, hn, h3, h4⟩
/-- arguments as locals -/
def lay : List Value → List Value
  | [] => []
  | .long v :: l => .long v :: j2V :: lay l
  | v :: l => v :: lay l
def okA : Value → Bool
  | .int _ => true
  | .long _ => true
  | .ref _ => true
  | .float _ => true
  | _ => false
def entL (n : Nat) (args : List Value) : List Value := lay args ++ List.replicate (n - (lay args).length) jkV
def aEv (X : aX) : Nat → aCall
  | 0 => fun _ _ _ _ _ => False
  | d + 1 => fun M args h r h' => (args.all okA = true ∧ (lay args).length ≤ mL M) ∧ aRun (aEv X d) X M (r, h') 0 (entL (mL M) args) [] h
