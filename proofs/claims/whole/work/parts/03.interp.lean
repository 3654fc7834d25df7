/-! A small machine over a heap of numbered cells: what the listed instructions do. Its runs are tied to the real machine's in part 05. -/
abbrev pv_C : Type := (Nat × vp_A) ⊕ (Nat × List Value)
abbrev pv_H : Type := List pv_C
abbrev pv_L : Type := List (Option Value)
abbrev pv_O : Type := Option Value × pv_H
/-- an instruction, its length, four numbers that its operands mean -/
abbrev pv_I : Type := Instr × Nat × Nat × Nat × Nat × Nat
abbrev pv_P : Type := List (Nat × pv_I)
/-- name, bytes, locals, answer, rows, rank -/
abbrev pv_M : Type := MethodName × ByteArray × Nat × Option FieldType × pv_P × (List Value → Nat)
/-- the script, and its length -/
abbrev pv_X : Type := (Nat → Int32) × Nat
abbrev pv_R : Type := (Nat × pv_L × List Value × pv_H) ⊕ (pv_O ⊕ (Nat × List Value × Nat × pv_L × List Value))
def pv_scr : Nat := 1048576
def pv_at (P : pv_P) (pc : Nat) : Option pv_I := match P with
  | [] => none
  | q :: l => if q.1 = pc then some q.2 else pv_at l pc
-- locals
def pv_ld (ls : pv_L) (i : Nat) : Option Value := match ls[i]? with
  | some (some v) => some v
  | _ => none
def pv_kill (ls : pv_L) (i : Nat) : pv_L := match i with
  | 0 => ls
  | j + 1 => match ls[j]? with
    | some (some (.long _)) => ls.set j none
    | some (some (.double _)) => ls.set j none
    | _ => ls
def pv_st1 (ls : pv_L) (i : Nat) (v : Value) : Option pv_L := if i < ls.length then some ((pv_kill ls i).set i (some v)) else none
def pv_st2 (ls : pv_L) (i : Nat) (v : Value) : Option pv_L := if i + 1 < ls.length then some (((pv_kill ls i).set i (some v)).set (i + 1) none) else none
def pv_sl : List Value → pv_L
  | [] => []
  | .long x :: l => some (.long x) :: none :: pv_sl l
  | .double x :: l => some (.double x) :: none :: pv_sl l
  | v :: l => some v :: pv_sl l
def pv_ent (n : Nat) (args : List Value) : pv_L := pv_sl args ++ List.replicate (n - (pv_sl args).length) none
-- cells
def pv_in (i : Int32) (n : Nat) : Bool := !(decide (i < 0)) && decide (i.toNatClampNeg < n)
def pv_f (h : pv_H) (a c j : Nat) : Option Value := match h[a]? with
  | some (.inr (c', fs)) => if c' = c then fs[j]? else none
  | _ => none
def pv_fI (h : pv_H) (a c j : Nat) : Option Int32 := match pv_f h a c j with
  | some (.int x) => some x
  | _ => none
def pv_fJ (h : pv_H) (a c j : Nat) : Option Int64 := match pv_f h a c j with
  | some (.long x) => some x
  | _ => none
def pv_fR (h : pv_H) (a c j : Nat) : Option Nat := match pv_f h a c j with
  | some (.ref x) => some x
  | _ => none
def pv_fp (h : pv_H) (a c j : Nat) (v : Value) : Option pv_H := match h[a]? with
  | some (.inr (c', fs)) => if c' = c ∧ j < fs.length then some (h.set a (.inr (c, fs.set j v))) else none
  | _ => none
/-- a value of a field's kind: 0 int, 1 long, 2 boolean, 3 a cell -/
def pv_fit (t : Nat) (v : Value) : Bool := match t, v with
  | 0, .int _ => true
  | 1, .long _ => true
  | 2, .int x => x == 0 || x == 1
  | 3, .ref _ => true
  | _, _ => false
def pv_aI (h : pv_H) (t a : Nat) (i : Int32) : Option Int32 := match h[a]? with
  | some (.inl (t', n, .inl f)) => if t' = t ∧ pv_in i n = true then some (f i.toNatClampNeg) else none
  | _ => none
def pv_aJ (h : pv_H) (a : Nat) (i : Int32) : Option Int64 := match h[a]? with
  | some (.inl (t', n, .inr (.inl f))) => if t' = 2 ∧ pv_in i n = true then some (f i.toNatClampNeg) else none
  | _ => none
def pv_aR (h : pv_H) (a : Nat) (i : Int32) : Option Nat := match h[a]? with
  | some (.inl (t', n, .inr (.inr (.inr (.inr f))))) => if (t' = 4 ∨ t' = 5) ∧ pv_in i n = true then f i.toNatClampNeg else none
  | _ => none
def pv_aX (X : pv_X) (h : pv_H) (a : Nat) (i : Int32) : Option Int32 := if a = pv_scr then (if pv_in i X.2 = true then some (X.1 i.toNatClampNeg) else none) else pv_aI h 1 a i
def pv_sI (h : pv_H) (a : Nat) (i x : Int32) : Option pv_H := match h[a]? with
  | some (.inl (t', n, .inl f)) => if t' = 1 ∧ pv_in i n = true then some (h.set a (.inl (1, n, .inl (upd f i.toNatClampNeg x)))) else none
  | _ => none
def pv_sC (h : pv_H) (a : Nat) (i x : Int32) : Option pv_H := match h[a]? with
  | some (.inl (t', n, .inl f)) => if t' = 0 ∧ pv_in i n = true then some (h.set a (.inl (0, n, .inl (upd f i.toNatClampNeg (vp_nar .char x))))) else none
  | _ => none
def pv_sZ (h : pv_H) (a : Nat) (i x : Int32) : Option pv_H := match h[a]? with
  | some (.inl (t', n, .inl f)) => if t' = 3 ∧ pv_in i n = true then some (h.set a (.inl (3, n, .inl (upd f i.toNatClampNeg (vp_nar .boolean x))))) else none
  | _ => none
def pv_sJ (h : pv_H) (a : Nat) (i : Int32) (x : Int64) : Option pv_H := match h[a]? with
  | some (.inl (t', n, .inr (.inl f))) => if t' = 2 ∧ pv_in i n = true then some (h.set a (.inl (2, n, .inr (.inl (vp_updL f i.toNatClampNeg x))))) else none
  | _ => none
/-- which objects an array of kind t holds -/
def pv_el (t : Nat) : Nat := if t = 4 then 4 else 7
def pv_sR (h : pv_H) (a : Nat) (i : Int32) (x : Nat) : Option pv_H := match h[a]?, h[x]? with
  | some (.inl (t', n, .inr (.inr (.inr (.inr f))))), some (.inr (c, _)) => if (t' = 4 ∨ t' = 5) ∧ pv_in i n = true ∧ c = pv_el t' then some (h.set a (.inl (t', n, .inr (.inr (.inr (.inr (va_up f i.toNatClampNeg (some x)))))))) else none
  | _, _ => none
def pv_len (X : pv_X) (h : pv_H) (a : Nat) : Option Int32 := if a = pv_scr then some (Int32.ofNat X.2) else match h[a]? with
  | some (.inl (t, n, _)) => if t < 6 then some (Int32.ofNat n) else none
  | _ => none
def pv_cp (h : pv_H) (a0 : Nat) (sp : Int32) (a1 : Nat) (dp n : Int32) : Option pv_H := match h[a0]?, h[a1]? with
  | some (.inl (t0, n0, .inl f)), some (.inl (t1, n1, .inl g)) =>
    if t0 = 1 ∧ t1 = 1 ∧ ¬ sp < 0 ∧ ¬ dp < 0 ∧ ¬ n < 0 ∧ sp.toNatClampNeg + n.toNatClampNeg ≤ n0 ∧ dp.toNatClampNeg + n.toNatClampNeg ≤ n1 then some (h.set a1 (.inl (1, n1, .inl (va_cpy f g sp.toNatClampNeg dp.toNatClampNeg n.toNatClampNeg)))) else none
  | _, _ => none
/-- a new array's contents by its kind -/
def pv_arr (t n : Nat) : Option pv_C := match t with
  | 0 => some (.inl (0, n, .inl (fun _ => 0)))
  | 1 => some (.inl (1, n, .inl (fun _ => 0)))
  | 2 => some (.inl (2, n, .inr (.inl (fun _ => 0))))
  | 3 => some (.inl (3, n, .inl (fun _ => 0)))
  | 4 => some (.inl (4, n, .inr (.inr (.inr (.inr (fun _ => none))))))
  | 5 => some (.inl (5, n, .inr (.inr (.inr (.inr (fun _ => none))))))
  | _ => none
def pv_na (h : pv_H) (t : Nat) (n : Int32) : Option pv_H := if ¬ n < 0 ∧ n.toNatClampNeg ≤ 1000000 ∧ h.length < pv_scr then (pv_arr t n.toNatClampNeg).map (fun c => h ++ [c]) else none
def pv_no (h : pv_H) (c : Nat) (fs : List Value) : Option pv_H := if h.length < pv_scr then some (h ++ [.inr (c, fs)]) else none
/-- where a switch goes -/
def pv_sw (pc : Nat) (d lo hi : Int) (offs : Array Int) (x : Int32) : Option Nat :=
  if x.toInt < lo ∨ hi < x.toInt then (if 0 ≤ (pc : Int) + d then some ((pc : Int) + d).toNat else none)
  else match offs[(x.toInt - lo).toNat]? with
    | some o => if 0 ≤ (pc : Int) + o then some ((pc : Int) + o).toNat else none
    | none => none
def pv_lw (pc : Nat) (d : Int) (ps : Array (Int × Int)) (x : Int32) : Option Nat :=
  if (ps.toList.zip (ps.toList.drop 1)).all (fun (a, next) => a.1 < next.1) = true ∧ 0 ≤ (pc : Int) + Op.lookupswitch.offset ps.toList d x.toInt then some ((pc : Int) + Op.lookupswitch.offset ps.toList d x.toInt).toNat else none
def pv_go (pc : Nat) (ls : pv_L) (st : List Value) (h : pv_H) : Option pv_R := some (.inl (pc, ls, st, h))
def pv_gL (pc : Nat) (ls : Option pv_L) (st : List Value) (h : pv_H) : Option pv_R := ls.map (fun l => .inl (pc, l, st, h))
def pv_gH (pc : Nat) (ls : pv_L) (st : List Value) (h : Option pv_H) : Option pv_R := h.map (fun h' => .inl (pc, ls, st, h'))
def pv_gI (pc : Nat) (ls : pv_L) (x : Option Int32) (st : List Value) (h : pv_H) : Option pv_R := x.map (fun v => .inl (pc, ls, .int v :: st, h))
def pv_gJ (pc : Nat) (ls : pv_L) (x : Option Int64) (st : List Value) (h : pv_H) : Option pv_R := x.map (fun v => .inl (pc, ls, .long v :: st, h))
def pv_gR (pc : Nat) (ls : pv_L) (x : Option Nat) (st : List Value) (h : pv_H) : Option pv_R := x.map (fun v => .inl (pc, ls, .ref v :: st, h))
def pv_if (c : Prop) [Decidable c] (tgt pc : Nat) (ls : pv_L) (st : List Value) (h : pv_H) : Option pv_R := if c then pv_go tgt ls st h else pv_go (pc + 3) ls st h
/-- a call: mid, how many of the stack it takes, the kind of the receiver's cell (99: none is asked) -/
def pv_inv (mid k ci pc : Nat) (ls : pv_L) (st : List Value) (h : pv_H) : Option pv_R :=
  if k ≤ st.length ∧ ((st.drop k).map fun v => v.category).sum ≤ 8 then
    (if ci = 99 then some (.inr (.inr (mid, (st.take k).reverse, pc + 3, ls, st.drop k)))
     else match (st.take k).reverse with
      | .ref b :: _ => (match h[b]? with
        | some (.inr (c, _)) => if c = ci then some (.inr (.inr (mid, (st.take k).reverse, pc + 3, ls, st.drop k))) else none
        | _ => none)
      | _ => none)
  else none
/-- what one instruction does: the next place, an answer, or a call -/
def pv_next (X : pv_X) (dft : Nat → List Value) (ret : Option FieldType) (e : pv_I) (pc : Nat) (ls : pv_L) (st : List Value) (h : pv_H) : Option pv_R :=
  match e with
  | (ins, len, i1, i2, i3, i4) =>
  match ins with
  | .iconst n => pv_go (pc + len) ls (.int (Int32.ofInt n) :: st) h
  | .bipush n => pv_go (pc + len) ls (.int (Int8.ofInt n).toInt32 :: st) h
  | .sipush n => pv_go (pc + len) ls (.int (Int16.ofInt n).toInt32 :: st) h
  | .lconst n => pv_go (pc + len) ls (.long (Int64.ofNat (n : Nat)) :: st) h
  | .ldc _ => if i2 = 0 then pv_go (pc + len) ls (.int (Int32.ofNat i1) :: st) h else pv_go (pc + len) ls (.ref (pv_scr + 1 + i1) :: st) h
  | .ldc_w _ => pv_go (pc + len) ls (.int (Int32.ofNat i1) :: st) h
  | .ldc2_w _ => pv_go (pc + len) ls (.long (Int64.ofNat i1) :: st) h
  | .iload_n k => (match pv_ld ls k with
    | some (.int x) => pv_go (pc + len) ls (.int x :: st) h
    | _ => none)
  | .iload k => (match pv_ld ls k with
    | some (.int x) => pv_go (pc + len) ls (.int x :: st) h
    | _ => none)
  | .istore_n k => (match st with
    | .int x :: t => pv_gL (pc + len) (pv_st1 ls k (.int x)) t h
    | _ => none)
  | .istore k => (match st with
    | .int x :: t => pv_gL (pc + len) (pv_st1 ls k (.int x)) t h
    | _ => none)
  | .lload_n k => (match pv_ld ls k with
    | some (.long x) => pv_go (pc + len) ls (.long x :: st) h
    | _ => none)
  | .lload k => (match pv_ld ls k with
    | some (.long x) => pv_go (pc + len) ls (.long x :: st) h
    | _ => none)
  | .lstore_n k => (match st with
    | .long x :: t => pv_gL (pc + len) (pv_st2 ls k (.long x)) t h
    | _ => none)
  | .lstore k => (match st with
    | .long x :: t => pv_gL (pc + len) (pv_st2 ls k (.long x)) t h
    | _ => none)
  | .aload_n k => (match pv_ld ls k with
    | some (.ref x) => pv_go (pc + len) ls (.ref x :: st) h
    | _ => none)
  | .aload k => (match pv_ld ls k with
    | some (.ref x) => pv_go (pc + len) ls (.ref x :: st) h
    | _ => none)
  | .astore_n k => (match st with
    | .ref x :: t => pv_gL (pc + len) (pv_st1 ls k (.ref x)) t h
    | _ => none)
  | .astore k => (match st with
    | .ref x :: t => pv_gL (pc + len) (pv_st1 ls k (.ref x)) t h
    | _ => none)
  | .iinc k n => (match pv_ld ls k with
    | some (.int x) => pv_gL (pc + len) (pv_st1 ls k (.int (x + Int32.ofInt n))) st h
    | _ => none)
  | .iadd => (match st with
    | .int y :: .int x :: t => pv_go (pc + len) ls (.int (x + y) :: t) h
    | _ => none)
  | .isub => (match st with
    | .int y :: .int x :: t => pv_go (pc + len) ls (.int (x - y) :: t) h
    | _ => none)
  | .imul => (match st with
    | .int y :: .int x :: t => pv_go (pc + len) ls (.int (x * y) :: t) h
    | _ => none)
  | .iand => (match st with
    | .int y :: .int x :: t => pv_go (pc + len) ls (.int (x &&& y) :: t) h
    | _ => none)
  | .ior => (match st with
    | .int y :: .int x :: t => pv_go (pc + len) ls (.int (x ||| y) :: t) h
    | _ => none)
  | .ixor => (match st with
    | .int y :: .int x :: t => pv_go (pc + len) ls (.int (x ^^^ y) :: t) h
    | _ => none)
  | .ishl => (match st with
    | .int y :: .int x :: t => pv_go (pc + len) ls (.int (x <<< (y &&& 31)) :: t) h
    | _ => none)
  | .ishr => (match st with
    | .int y :: .int x :: t => pv_go (pc + len) ls (.int (x >>> (y &&& 31)) :: t) h
    | _ => none)
  | .iushr => (match st with
    | .int y :: .int x :: t => pv_go (pc + len) ls (.int ((x.toUInt32 >>> (y.toUInt32 &&& Int32.toUInt32 31)).toInt32) :: t) h
    | _ => none)
  | .idiv => (match st with
    | .int y :: .int x :: t => if y = 0 then none else pv_go (pc + len) ls (.int (x / y) :: t) h
    | _ => none)
  | .irem => (match st with
    | .int y :: .int x :: t => if y = 0 then none else pv_go (pc + len) ls (.int (x - x / y * y) :: t) h
    | _ => none)
  | .ineg => (match st with
    | .int x :: t => pv_go (pc + len) ls (.int (-x) :: t) h
    | _ => none)
  | .ladd => (match st with
    | .long y :: .long x :: t => pv_go (pc + len) ls (.long (x + y) :: t) h
    | _ => none)
  | .lsub => (match st with
    | .long y :: .long x :: t => pv_go (pc + len) ls (.long (x - y) :: t) h
    | _ => none)
  | .lmul => (match st with
    | .long y :: .long x :: t => pv_go (pc + len) ls (.long (x * y) :: t) h
    | _ => none)
  | .land => (match st with
    | .long y :: .long x :: t => pv_go (pc + len) ls (.long (x &&& y) :: t) h
    | _ => none)
  | .lor => (match st with
    | .long y :: .long x :: t => pv_go (pc + len) ls (.long (x ||| y) :: t) h
    | _ => none)
  | .ldiv => (match st with
    | .long y :: .long x :: t => if y = 0 then none else pv_go (pc + len) ls (.long (x / y) :: t) h
    | _ => none)
  | .lrem => (match st with
    | .long y :: .long x :: t => if y = 0 then none else pv_go (pc + len) ls (.long (x - x / y * y) :: t) h
    | _ => none)
  | .lshl => (match st with
    | .int y :: .long x :: t => pv_go (pc + len) ls (.long (x <<< (y.toInt64 &&& 63)) :: t) h
    | _ => none)
  | .lshr => (match st with
    | .int y :: .long x :: t => pv_go (pc + len) ls (.long (x >>> (y.toInt64 &&& 63)) :: t) h
    | _ => none)
  | .lushr => (match st with
    | .int y :: .long x :: t => pv_go (pc + len) ls (.long ((x.toUInt64 >>> (y.toInt64.toUInt64 &&& Int64.toUInt64 63)).toInt64) :: t) h
    | _ => none)
  | .lcmp => (match st with
    | .long y :: .long x :: t => pv_go (pc + len) ls (.int (lg_cmp x y) :: t) h
    | _ => none)
  | .i2l => (match st with
    | .int x :: t => pv_go (pc + len) ls (.long x.toInt64 :: t) h
    | _ => none)
  | .l2i => (match st with
    | .long x :: t => pv_go (pc + len) ls (.int x.toInt32 :: t) h
    | _ => none)
  | .i2c => (match st with
    | .int x :: t => pv_go (pc + len) ls (.int (x.toUInt32 % 65536).toInt32 :: t) h
    | _ => none)
  | .dup => (match st with
    | .int x :: t => pv_go (pc + len) ls (.int x :: .int x :: t) h
    | .ref x :: t => pv_go (pc + len) ls (.ref x :: .ref x :: t) h
    | _ => none)
  | .dup2 => (match st with
    | .int y :: .int x :: t => pv_go (pc + len) ls (.int y :: .int x :: .int y :: .int x :: t) h
    | .int y :: .ref x :: t => pv_go (pc + len) ls (.int y :: .ref x :: .int y :: .ref x :: t) h
    | _ => none)
  | .pop => (match st with
    | .int _ :: t => pv_go (pc + len) ls t h
    | .ref _ :: t => pv_go (pc + len) ls t h
    | _ => none)
  | .getfield _ => (match st with
    | .ref a :: t => if i3 = 0 ∨ i3 = 2 then pv_gI (pc + len) ls (pv_fI h a i1 i2) t h else if i3 = 1 then pv_gJ (pc + len) ls (pv_fJ h a i1 i2) t h else pv_gR (pc + len) ls (pv_fR h a i1 i2) t h
    | _ => none)
  | .putfield _ => (match st with
    | v :: .ref a :: t => if pv_fit i3 v = true then pv_gH (pc + len) ls t (pv_fp h a i1 i2 v) else none
    | _ => none)
  | .iaload => (match st with
    | .int i :: .ref a :: t => pv_gI (pc + len) ls (pv_aX X h a i) t h
    | _ => none)
  | .caload => (match st with
    | .int i :: .ref a :: t => pv_gI (pc + len) ls (pv_aI h 0 a i) t h
    | _ => none)
  | .baload => (match st with
    | .int i :: .ref a :: t => pv_gI (pc + len) ls (pv_aI h 3 a i) t h
    | _ => none)
  | .laload => (match st with
    | .int i :: .ref a :: t => pv_gJ (pc + len) ls (pv_aJ h a i) t h
    | _ => none)
  | .aaload => (match st with
    | .int i :: .ref a :: t => pv_gR (pc + len) ls (pv_aR h a i) t h
    | _ => none)
  | .iastore => (match st with
    | .int x :: .int i :: .ref a :: t => pv_gH (pc + len) ls t (pv_sI h a i x)
    | _ => none)
  | .castore => (match st with
    | .int x :: .int i :: .ref a :: t => pv_gH (pc + len) ls t (pv_sC h a i x)
    | _ => none)
  | .bastore => (match st with
    | .int x :: .int i :: .ref a :: t => pv_gH (pc + len) ls t (pv_sZ h a i x)
    | _ => none)
  | .lastore => (match st with
    | .long x :: .int i :: .ref a :: t => pv_gH (pc + len) ls t (pv_sJ h a i x)
    | _ => none)
  | .aastore => (match st with
    | .ref x :: .int i :: .ref a :: t => pv_gH (pc + len) ls t (pv_sR h a i x)
    | _ => none)
  | .arraylength => (match st with
    | .ref a :: t => pv_gI (pc + len) ls (pv_len X h a) t h
    | _ => none)
  | .newarray _ => (match st with
    | .int n :: t => pv_gH (pc + len) ls (.ref h.length :: t) (if i1 < 4 then pv_na h i1 n else none)
    | _ => none)
  | .anewarray _ => (match st with
    | .int n :: t => pv_gH (pc + len) ls (.ref h.length :: t) (if i1 = 4 ∨ i1 = 5 then pv_na h i1 n else none)
    | _ => none)
  | .new _ => pv_gH (pc + len) ls (.ref h.length :: st) (pv_no h i1 (dft i1))
  | .goto _ => pv_go i1 ls st h
  | .ifCond .eq _ => (match st with
    | .int x :: t => pv_if (x = 0) i1 pc ls t h
    | _ => none)
  | .if_icmp .eq _ => (match st with
    | .int y :: .int x :: t => pv_if (x = y) i1 pc ls t h
    | _ => none)
  | .ifCond .ne _ => (match st with
    | .int x :: t => pv_if (¬ x = 0) i1 pc ls t h
    | _ => none)
  | .if_icmp .ne _ => (match st with
    | .int y :: .int x :: t => pv_if (¬ x = y) i1 pc ls t h
    | _ => none)
  | .ifCond .lt _ => (match st with
    | .int x :: t => pv_if (x < 0) i1 pc ls t h
    | _ => none)
  | .if_icmp .lt _ => (match st with
    | .int y :: .int x :: t => pv_if (x < y) i1 pc ls t h
    | _ => none)
  | .ifCond .ge _ => (match st with
    | .int x :: t => pv_if (0 ≤ x) i1 pc ls t h
    | _ => none)
  | .if_icmp .ge _ => (match st with
    | .int y :: .int x :: t => pv_if (y ≤ x) i1 pc ls t h
    | _ => none)
  | .ifCond .gt _ => (match st with
    | .int x :: t => pv_if (0 < x) i1 pc ls t h
    | _ => none)
  | .if_icmp .gt _ => (match st with
    | .int y :: .int x :: t => pv_if (y < x) i1 pc ls t h
    | _ => none)
  | .ifCond .le _ => (match st with
    | .int x :: t => pv_if (x ≤ 0) i1 pc ls t h
    | _ => none)
  | .if_icmp .le _ => (match st with
    | .int y :: .int x :: t => pv_if (x ≤ y) i1 pc ls t h
    | _ => none)
  | .tableswitch d lo hi offs => (match st with
    | .int x :: t => (pv_sw pc d lo hi offs x).map (fun q => .inl (q, ls, t, h))
    | _ => none)
  | .lookupswitch d ps => (match st with
    | .int x :: t => (pv_lw pc d ps x).map (fun q => .inl (q, ls, t, h))
    | _ => none)
  | .invokevirtual _ => pv_inv i1 i2 i3 pc ls st h
  | .invokestatic _ => if i4 = 9 then (match st with
      | .int n :: .int dp :: .ref a1 :: .int sp :: .ref a0 :: t => if (t.map fun v => v.category).sum ≤ 8 then pv_gH (pc + 3) ls t (pv_cp h a0 sp a1 dp n) else none
      | _ => none)
    else pv_inv i1 i2 99 pc ls st h
  | .invokespecial _ => if i4 = 8 then (match st with
      | .ref _ :: t => if (t.map fun v => v.category).sum ≤ 8 then pv_go (pc + 3) ls t h else none
      | _ => none)
    else pv_inv i1 i2 i3 pc ls st h
  | .ireturn => (match st with
    | [.int v] => (match ret with
      | some .int => some (.inr (.inl (some (.int v), h)))
      | some .boolean => if v = 0 ∨ v = 1 then some (.inr (.inl (some (.int v), h))) else none
      | _ => none)
    | _ => none)
  | .return_ => (match st with
    | [] => (match ret with
      | none => some (.inr (.inl (none, h)))
      | _ => none)
    | _ => none)
  | _ => none
section PVR
variable (tab : Nat → Option pv_M) (ext : Nat → List Value → pv_H → Option pv_O) (X : pv_X) (dft : Nat → List Value)
/-- n steps at most; r: how deep calls may go -/
def pv_run : Nat → Nat → Option FieldType → pv_P → Nat → pv_L → List Value → pv_H → Option pv_O
  | 0, _, _, _, _, _, _, _ => none
  | n + 1, r, ret, P, pc, ls, st, h =>
    match pv_at P pc with
    | none => none
    | some e => match pv_next X dft ret e pc ls st h with
      | none => none
      | some (.inl (pc', ls', st', h')) => pv_run n r ret P pc' ls' st' h'
      | some (.inr (.inl o)) => some o
      | some (.inr (.inr (mid, args, pc', ls', rest))) =>
        match (match tab mid with
          | some M => if M.2.2.2.2.2 args < r ∧ (pv_sl args).length ≤ M.2.2.1 then pv_run n (M.2.2.2.2.2 args) M.2.2.2.1 M.2.2.2.2.1 0 (pv_ent M.2.2.1 args) [] h else none
          | none => if 12 < r then ext mid args h else none) with
        | none => none
        | some (v, h') => pv_run n r ret P pc' ls' (v.toList ++ rest) h'
theorem pv_mono1 : ∀ (n r : Nat) (ret : Option FieldType) (P : pv_P) (pc : Nat) (ls : pv_L) (st : List Value) (h : pv_H) (o : pv_O), pv_run tab ext X dft n r ret P pc ls st h = some o → pv_run tab ext X dft (n + 1) r ret P pc ls st h = some o := by
  intro n
  induction n with
  | zero => intro r ret P pc ls st h o e; simp [pv_run] at e
  | succ n ih =>
    intro r ret P pc ls st h o e
    rw [pv_run] at e
    rw [pv_run]
    cases ha : pv_at P pc with
    | none => rw [ha] at e; cases e
    | some i =>
      rw [ha] at e
      dsimp only at e ⊢
      cases hn : pv_next X dft ret i pc ls st h with
      | none => rw [hn] at e; cases e
      | some R =>
        rw [hn] at e
        match R, e with
        | .inl (pc', ls', st', h'), e => exact ih _ _ _ _ _ _ _ _ e
        | .inr (.inl o'), e => exact e
        | .inr (.inr (mid, args, pc', ls', rest)), e =>
          dsimp only at e ⊢
          cases ht : tab mid with
          | none =>
            rw [ht] at e
            dsimp only at e ⊢
            cases hc : (if 12 < r then ext mid args h else none) with
            | none => rw [hc] at e; cases e
            | some q => rw [hc] at e; exact ih _ _ _ _ _ _ _ _ e
          | some M =>
            rw [ht] at e
            dsimp only at e ⊢
            by_cases hr : M.2.2.2.2.2 args < r ∧ (pv_sl args).length ≤ M.2.2.1
            · rw [if_pos hr] at e ⊢
              cases hc : pv_run tab ext X dft n (M.2.2.2.2.2 args) M.2.2.2.1 M.2.2.2.2.1 0 (pv_ent M.2.2.1 args) [] h with
              | none => rw [hc] at e; cases e
              | some q =>
                rw [hc] at e
                rw [ih _ _ _ _ _ _ _ _ hc]
                exact ih _ _ _ _ _ _ _ _ e
            · rw [if_neg hr] at e; cases e
theorem pv_mono {n m : Nat} (hm : n ≤ m) {r : Nat} {ret : Option FieldType} {P : pv_P} {pc : Nat} {ls : pv_L} {st : List Value} {h : pv_H} {o : pv_O} (e : pv_run tab ext X dft n r ret P pc ls st h = some o) : pv_run tab ext X dft m r ret P pc ls st h = some o := by
  obtain ⟨k, rfl⟩ := Nat.exists_eq_add_of_le hm
  induction k with
  | zero => exact e
  | succ k ih => exact pv_mono1 tab ext X dft _ _ _ _ _ _ _ _ _ (ih (by omega))
/-- what a run comes to, if it ends -/
noncomputable def pv_sem (r : Nat) (ret : Option FieldType) (P : pv_P) (pc : Nat) (ls : pv_L) (st : List Value) (h : pv_H) : Option pv_O :=
  @dite (Option pv_O) (∃ o, ∃ n, pv_run tab ext X dft n r ret P pc ls st h = some o) (Classical.propDecidable _) (fun c => some (Classical.choose c)) (fun _ => none)
theorem pv_sem_iff {r : Nat} {ret : Option FieldType} {P : pv_P} {pc : Nat} {ls : pv_L} {st : List Value} {h : pv_H} {o : pv_O} : pv_sem tab ext X dft r ret P pc ls st h = some o ↔ ∃ n, pv_run tab ext X dft n r ret P pc ls st h = some o := by
  unfold pv_sem
  by_cases c : ∃ o, ∃ n, pv_run tab ext X dft n r ret P pc ls st h = some o
  · rw [dif_pos c]
    obtain ⟨n, hn⟩ := Classical.choose_spec c
    constructor
    · intro e; cases e; exact ⟨n, hn⟩
    · rintro ⟨m, hm⟩
      have h1 := pv_mono tab ext X dft (Nat.le_max_left n m) hn
      have h2 := pv_mono tab ext X dft (Nat.le_max_right n m) hm
      rw [h1] at h2
      exact h2
  · rw [dif_neg c]
    constructor
    · intro e; cases e
    · rintro ⟨m, hm⟩; exact absurd ⟨o, m, hm⟩ c
noncomputable def pv_call (r mid : Nat) (args : List Value) (h : pv_H) : Option pv_O := match tab mid with
  | some M => if M.2.2.2.2.2 args < r ∧ (pv_sl args).length ≤ M.2.2.1 then pv_sem tab ext X dft (M.2.2.2.2.2 args) M.2.2.2.1 M.2.2.2.2.1 0 (pv_ent M.2.2.1 args) [] h else none
  | none => if 12 < r then ext mid args h else none
noncomputable def pv_cont (r : Nat) (ret : Option FieldType) (P : pv_P) (h : pv_H) : Option pv_R → Option pv_O
  | none => none
  | some (.inl (pc', ls', st', h')) => pv_sem tab ext X dft r ret P pc' ls' st' h'
  | some (.inr (.inl o)) => some o
  | some (.inr (.inr (mid, args, pc', ls', rest))) => (pv_call tab ext X dft r mid args h).bind (fun q => pv_sem tab ext X dft r ret P pc' ls' (q.1.toList ++ rest) q.2)
theorem pv_opt {α : Type} {x y : Option α} (h : ∀ o, x = some o ↔ y = some o) : x = y := by
  cases x with
  | some o => exact ((h o).mp rfl).symm
  | none => cases y with
    | none => rfl
    | some o => exact absurd ((h o).mpr rfl) (by simp)
theorem pv_sem_eq (r : Nat) (ret : Option FieldType) (P : pv_P) (pc : Nat) (ls : pv_L) (st : List Value) (h : pv_H) {e : pv_I} (he : pv_at P pc = some e) : pv_sem tab ext X dft r ret P pc ls st h = pv_cont tab ext X dft r ret P h (pv_next X dft ret e pc ls st h) := by
  apply pv_opt
  intro o
  rw [pv_sem_iff]
  have hrun : ∀ n, pv_run tab ext X dft (n + 1) r ret P pc ls st h = match pv_next X dft ret e pc ls st h with
      | none => none
      | some (.inl (pc', ls', st', h')) => pv_run tab ext X dft n r ret P pc' ls' st' h'
      | some (.inr (.inl o)) => some o
      | some (.inr (.inr (mid, args, pc', ls', rest))) =>
        match (match tab mid with
          | some M => if M.2.2.2.2.2 args < r ∧ (pv_sl args).length ≤ M.2.2.1 then pv_run tab ext X dft n (M.2.2.2.2.2 args) M.2.2.2.1 M.2.2.2.2.1 0 (pv_ent M.2.2.1 args) [] h else none
          | none => if 12 < r then ext mid args h else none) with
        | none => none
        | some (v, h') => pv_run tab ext X dft n r ret P pc' ls' (v.toList ++ rest) h' := by
    intro n
    rw [pv_run, he]
  have hex : (∃ n, pv_run tab ext X dft n r ret P pc ls st h = some o) ↔ ∃ n, pv_run tab ext X dft (n + 1) r ret P pc ls st h = some o := by
    constructor
    · rintro ⟨n, hn⟩; exact ⟨n, pv_mono1 tab ext X dft _ _ _ _ _ _ _ _ _ hn⟩
    · rintro ⟨n, hn⟩; exact ⟨n + 1, hn⟩
  rw [hex]
  cases hR : pv_next X dft ret e pc ls st h with
  | none =>
    simp only [hrun, hR, pv_cont]
    constructor
    · rintro ⟨_, q⟩; cases q
    · intro q; cases q
  | some R =>
    match R, hR with
    | .inl (pc', ls', st', h'), hR =>
      simp only [hrun, hR, pv_cont]
      exact (pv_sem_iff tab ext X dft).symm
    | .inr (.inl o'), hR =>
      simp only [hrun, hR, pv_cont]
      exact ⟨fun ⟨_, q⟩ => q, fun q => ⟨0, q⟩⟩
    | .inr (.inr (mid, args, pc', ls', rest)), hR =>
      simp only [hrun, hR, pv_cont, pv_call]
      cases ht : tab mid with
      | none =>
        dsimp only
        cases hc : (if 12 < r then ext mid args h else none) with
        | none => simp
        | some q =>
          dsimp only [Option.bind]
          exact (pv_sem_iff tab ext X dft).symm
      | some M =>
        dsimp only
        by_cases hr : M.2.2.2.2.2 args < r ∧ (pv_sl args).length ≤ M.2.2.1
        · simp only [if_pos hr]
          constructor
          · rintro ⟨n, hn⟩
            cases hc : pv_run tab ext X dft n (M.2.2.2.2.2 args) M.2.2.2.1 M.2.2.2.2.1 0 (pv_ent M.2.2.1 args) [] h with
            | none => rw [hc] at hn; cases hn
            | some q =>
              rw [hc] at hn
              rw [(pv_sem_iff tab ext X dft).mpr ⟨n, hc⟩]
              exact (pv_sem_iff tab ext X dft).mpr ⟨n, hn⟩
          · intro hb
            cases hc : pv_sem tab ext X dft (M.2.2.2.2.2 args) M.2.2.2.1 M.2.2.2.2.1 0 (pv_ent M.2.2.1 args) [] h with
            | none => rw [hc] at hb; cases hb
            | some q =>
              rw [hc] at hb
              obtain ⟨n, hn⟩ := (pv_sem_iff tab ext X dft).mp hc
              obtain ⟨m, hm⟩ := (pv_sem_iff tab ext X dft).mp hb
              refine ⟨max n m, ?_⟩
              rw [pv_mono tab ext X dft (Nat.le_max_left n m) hn]
              exact pv_mono tab ext X dft (Nat.le_max_right n m) hm
        · simp [if_neg hr]
end PVR
