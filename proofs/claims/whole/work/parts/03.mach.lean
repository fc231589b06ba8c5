/-! A small machine over whole numbers of cells ('handles'), which the class, the reference and the law run on. Soundness against the model: part 07. -/
/-- an instruction: its pc, what it is (locals by number, jumps by place), the next place, two numbers, a constant, more numbers -/
abbrev hk_In : Type := Nat × Instr × Nat × Nat × Nat × Int32 × List Nat
abbrev hk_Cd : Type := List (List hk_In)
abbrev hk_Ls : Type := List (Nat × Value)
/-- a cell: its sort, its length, what it holds -/
abbrev hk_Ce : Type := Nat × Nat × (Nat → Value)
/-- how many handles there are, and the cells -/
abbrev hk_Hp : Type := Nat × (Nat → hk_Ce)
abbrev hk_Q : Type := Option Value → hk_Hp → Prop
abbrev hk_X : Type := Nat → hk_Ls → List Value → hk_Hp → Nat → Nat → Prop
abbrev hk_C : Type := Nat → List Value → hk_Hp → hk_Q → Prop
def hk_nth {α : Type} : List α → Nat → Option α
  | [], _ => none
  | a :: _, 0 => some a
  | _ :: l, n + 1 => hk_nth l n
def hk_at (cd : hk_Cd) (ip : Nat) : Option hk_In := match hk_nth cd (ip / 16) with
  | none => none
  | some l => hk_nth l (ip % 16)
def hk_lk : hk_Ls → Nat → (Value → Prop) → Prop
  | [], _, _ => False
  | q :: l, i, K => bif Nat.beq q.1 i then K q.2 else hk_lk l i K
def hk_fl (p : Nat × Value → Bool) : hk_Ls → (hk_Ls → Prop) → Prop
  | [], K => K []
  | q :: l, K => bif p q then hk_fl p l (fun l' => K (q :: l')) else hk_fl p l K
def hk_p1 (i : Nat) (q : Nat × Value) : Bool := !(q.1 == i) && !(q.1 + 1 == i && q.2.category == 2)
def hk_p2 (i : Nat) (q : Nat × Value) : Bool := !(q.1 == i) && (!(q.1 == i + 1) && !(q.1 + 1 == i && q.2.category == 2))
/-- some of the locals, by their places -/
def hk_pk : List Nat → hk_Ls → (hk_Ls → Prop) → Prop
  | [], _, K => K []
  | i :: is, ls, K => match hk_nth ls i with
    | some q => hk_pk is ls (fun l => K (q :: l))
    | none => False
def hk_ent : Nat → List Value → (hk_Ls → Prop) → Prop
  | _, [], K => K []
  | i, v :: vs, K => bif Nat.beq v.category 2 then hk_ent (i + 2) vs (fun l => K ((i, v) :: l)) else hk_ent (i + 1) vs (fun l => K ((i, v) :: l))
def hk_pop : Nat → List Value → List Value → (List Value → List Value → Prop) → Prop
  | 0, st, as, K => K as st
  | _ + 1, [], _, _ => False
  | n + 1, v :: st, as, K => hk_pop n st (v :: as) K
def hk_cs : List Value → Nat
  | [] => 0
  | v :: l => v.category + hk_cs l
def hk_up (h : hk_Hp) (a : Nat) (c : hk_Ce) : hk_Hp := (h.1, fun b => bif Nat.beq b a then c else h.2 b)
def hk_nw (h : hk_Hp) (c : hk_Ce) : hk_Hp := (h.1 + 1, fun b => bif Nat.beq b h.1 then c else h.2 b)
/-- a value, looked at -/
def hk_v (v : Value) (K : Value → Prop) : Prop := match v with
  | .int x => K (.int x)
  | .long x => K (.long x)
  | .ref x => K (.ref x)
  | .null => K .null
  | _ => False
def hk_shl (x y : Int32) : Int32 := x <<< (y &&& 31)
def hk_shr (x y : Int32) : Int32 := x >>> (y &&& 31)
def hk_ush (x y : Int32) : Int32 := (x.toUInt32 >>> (y.toUInt32 &&& Int32.toUInt32 31)).toInt32
def hk_rem (x y : Int32) : Int32 := x - x / y * y
def hk_shlL (x : Int64) (y : Int32) : Int64 := x <<< (y.toInt64 &&& 63)
def hk_shrL (x : Int64) (y : Int32) : Int64 := x >>> (y.toInt64 &&& 63)
def hk_ushL (x : Int64) (y : Int32) : Int64 := (x.toUInt64 >>> (y.toInt64.toUInt64 &&& Int64.toUInt64 63)).toInt64
def hk_max (x y : Int32) : Int32 := if x < y then y else x
def hk_min (x y : Int32) : Int32 := if y < x then y else x
def hk_abs (x : Int32) : Int32 := if 0 ≤ x then x else 0 - x
def hk_i1 (f : Int32 → Value) (st : List Value) (K : List Value → Prop) : Prop := match st with
  | .int x :: r => K (f x :: r)
  | _ => False
def hk_i2 (f : Int32 → Int32 → Int32) (st : List Value) (K : List Value → Prop) : Prop := match st with
  | .int y :: .int x :: r => K (.int (f x y) :: r)
  | _ => False
def hk_l2 (f : Int64 → Int64 → Value) (st : List Value) (K : List Value → Prop) : Prop := match st with
  | .long y :: .long x :: r => K (f x y :: r)
  | _ => False
def hk_ls (f : Int64 → Int32 → Int64) (st : List Value) (K : List Value → Prop) : Prop := match st with
  | .int y :: .long x :: r => K (.long (f x y) :: r)
  | _ => False
def hk_dv (f : Int32 → Int32 → Int32) (st : List Value) (K : List Value → Prop) : Prop := match st with
  | .int y :: .int x :: r => ¬ y = 0 ∧ K (.int (f x y) :: r)
  | _ => False
def hk_m2 (f : Int32 → Int32 → Int32) (st : List Value) (K : List Value → Prop) : Prop := match st with
  | .int y :: .int x :: r => bif Nat.ble (hk_cs r) 8 then K (.int (f x y) :: r) else False
  | _ => False
def hk_m1 (f : Int32 → Int32) (st : List Value) (K : List Value → Prop) : Prop := match st with
  | .int x :: r => bif Nat.ble (hk_cs r) 8 then K (.int (f x) :: r) else False
  | _ => False
def hk_br (c : Prop) (A B : Prop) : Prop := (c → A) ∧ (¬ c → B)
def hk_ift (cd : ClassFile.Cond) (x y : Int32) (A B : Prop) : Prop := match cd with
  | .eq => hk_br (x = y) A B
  | .ne => hk_br (x = y) B A
  | .lt => hk_br (x < y) A B
  | .ge => hk_br (y ≤ x) A B
  | .gt => hk_br (y < x) A B
  | .le => hk_br (x ≤ y) A B
def hk_if1 (cd : ClassFile.Cond) (st : List Value) (A B : List Value → Prop) : Prop := match st with
  | .int x :: r => hk_ift cd x 0 (A r) (B r)
  | _ => False
def hk_if2 (cd : ClassFile.Cond) (st : List Value) (A B : List Value → Prop) : Prop := match st with
  | .int y :: .int x :: r => hk_ift cd x y (A r) (B r)
  | _ => False
def hk_nul (st : List Value) (A B : List Value → Prop) : Prop := match st with
  | .null :: r => A r
  | .ref _ :: r => B r
  | _ => False
def hk_sws (x : Int32) (K : Nat → Prop) : Int → List Nat → Prop
  | _, [] => True
  | v, t :: tl => (x.toInt = v → K t) ∧ hk_sws x K (v + 1) tl
def hk_sw (lo : Int) (d : Nat) (tl : List Nat) (st : List Value) (K : Nat → List Value → Prop) : Prop := match st with
  | .int x :: r => (x.toInt < lo ∨ lo + (tl.length - 1) < x.toInt → K d r) ∧ hk_sws x (fun t => K t r) lo tl
  | _ => False
/-- a field is read -/
def hk_gf (h : hk_Hp) (t k : Nat) (st : List Value) (K : List Value → Prop) : Prop := match st with
  | .ref a :: r => bif Nat.beq (h.2 a).1 t then hk_v ((h.2 a).2.2 k) (fun v => K (v :: r)) else False
  | _ => False
def hk_pfv (tc : Nat) (v : Value) (K : Prop) : Prop := match tc, v with
  | 0, .int _ => True ∧ K
  | 1, .int x => fits .boolean (.int x) = true ∧ K
  | 2, .long _ => True ∧ K
  | 3, .ref _ => True ∧ K
  | 3, .null => True ∧ K
  | _, _ => False
/-- a field is written -/
def hk_pf (h : hk_Hp) (t k tc : Nat) (st : List Value) (K : hk_Hp → List Value → Prop) : Prop := match st with
  | v :: .ref a :: r => bif Nat.beq (h.2 a).1 t && Nat.ble 38 a then hk_pfv tc v (K (hk_up h a (t, (h.2 a).2.1, va_up (h.2 a).2.2 k v)) r) else False
  | _ => False
def hk_ald (h : hk_Hp) (t : Nat) (st : List Value) (K : List Value → Prop) : Prop := match st with
  | .int i :: .ref a :: r => bif Nat.beq (h.2 a).1 t then vp_in i (h.2 a).2.1 ∧ hk_v ((h.2 a).2.2 i.toNatClampNeg) (fun v => K (v :: r)) else False
  | _ => False
def hk_ald2 (h : hk_Hp) (st : List Value) (K : List Value → Prop) : Prop := match st with
  | .int i :: .ref a :: r => bif Nat.ble 13 (h.2 a).1 && Nat.ble (h.2 a).1 16 && Nat.ble 38 a then vp_in i (h.2 a).2.1 ∧ hk_v ((h.2 a).2.2 i.toNatClampNeg) (fun v => K (v :: r)) else False
  | _ => False
def hk_astv (t : Nat) (v : Value) (K : Value → Prop) : Prop := match t, v with
  | 10, .int x => K (.int x)
  | 11, .long x => K (.long x)
  | 12, .int x => K (.int x.toInt8.toInt32)
  | _, _ => False
def hk_ast (h : hk_Hp) (t : Nat) (st : List Value) (K : hk_Hp → List Value → Prop) : Prop := match st with
  | v :: .int i :: .ref a :: r => bif Nat.beq (h.2 a).1 t && Nat.ble 38 a then vp_in i (h.2 a).2.1 ∧ hk_astv t v (fun v' => K (hk_up h a (t, (h.2 a).2.1, va_up (h.2 a).2.2 i.toNatClampNeg v')) r) else False
  | _ => False
/-- what the arrays of references hold -/
def hk_comp (t : Nat) : Nat := match t with
  | 13 => 2
  | 14 => 1
  | 15 => 4
  | 16 => 5
  | _ => 99
def hk_ast2 (h : hk_Hp) (st : List Value) (K : hk_Hp → List Value → Prop) : Prop := match st with
  | .ref x :: .int i :: .ref a :: r => bif Nat.ble 13 (h.2 a).1 && Nat.ble (h.2 a).1 16 && Nat.ble 38 a && Nat.beq (h.2 x).1 (hk_comp (h.2 a).1) && Nat.ble 38 x then vp_in i (h.2 a).2.1 ∧ K (hk_up h a ((h.2 a).1, (h.2 a).2.1, va_up (h.2 a).2.2 i.toNatClampNeg (.ref x))) r else False
  | .null :: .int i :: .ref a :: r => bif Nat.ble 13 (h.2 a).1 && Nat.ble (h.2 a).1 16 && Nat.ble 38 a then vp_in i (h.2 a).2.1 ∧ K (hk_up h a ((h.2 a).1, (h.2 a).2.1, va_up (h.2 a).2.2 i.toNatClampNeg .null)) r else False
  | _ => False
def hk_len (h : hk_Hp) (st : List Value) (K : List Value → Prop) : Prop := match st with
  | .ref a :: r => bif Nat.ble 10 (h.2 a).1 && Nat.ble (h.2 a).1 12 then K (.int (nI (h.2 a).2.1) :: r) else False
  | _ => False
def hk_zero (t : Nat) : Value := match t with
  | 10 => .int 0
  | 11 => .long 0
  | 12 => .int 0
  | _ => .null
def hk_nar (h : hk_Hp) (t C S k n : Nat) (st : List Value) (K : hk_Hp → List Value → Nat → Prop) : Prop := match st with
  | .int i :: r => (¬ i < 0 ∧ i.toNatClampNeg ≤ 1000 ∧ k + 1 ≤ C ∧ n + i.toNatClampNeg ≤ S) ∧ K (hk_nw h (t, i.toNatClampNeg, fun _ => hk_zero t)) (.ref h.1 :: r) (n + i.toNatClampNeg)
  | _ => False
def hk_sv (a : Nat) : Value := match a with
  | 0 => .ref 1
  | 1 => .ref 2
  | 2 => .int 1
  | _ => .float 0
def hk_ret (rt : Option FieldType) (st : List Value) (K : Option Value → Prop) : Prop := match rt, st with
  | some .int, [.int v] => K (some (.int v))
  | some ty, [.int v] => narrow ty (.int v) = .int v ∧ K (some (.int v))
  | _, _ => False
def hk_rv (r : Option Value) (st : List Value) (K : List Value → Prop) : Prop := match r with
  | none => K st
  | some v => K (v :: st)
def hk_alc (tl : List Nat) (C S k n : Nat) (K : Nat → Nat → Prop) : Prop := match tl with
  | [_, 0, 0] => K k n
  | [_, a, b] => (k + a ≤ C ∧ n + b ≤ S) ∧ K (k + a) (n + b)
  | _ => False
/-- the receiver is of the class -/
def hk_rc (h : hk_Hp) (as : List Value) (t : Nat) (K : Prop) : Prop := match as with
  | .ref a :: _ => bif Nat.beq (h.2 a).1 t then K else False
  | _ => False
def hk_rn (as : List Value) (K : Prop) : Prop := match as with
  | .ref a :: _ => bif Nat.ble 38 a then K else False
  | _ => False
def hk_cpy (h : hk_Hp) (st : List Value) (K : hk_Hp → List Value → Prop) : Prop := match st with
  | .int n :: .int dp :: .ref b :: .int sp :: .ref a :: r =>
    bif Nat.beq (h.2 a).1 10 && Nat.beq (h.2 b).1 10 && Nat.ble 38 a && Nat.ble 38 b && Nat.ble (hk_cs r) 8 then
      (¬ sp < 0 ∧ ¬ dp < 0 ∧ ¬ n < 0 ∧ sp.toNatClampNeg + n.toNatClampNeg ≤ (h.2 a).2.1 ∧ dp.toNatClampNeg + n.toNatClampNeg ≤ (h.2 b).2.1 ∧ ∀ j, ∃ x, (h.2 a).2.2 j = .int x) ∧
      K (hk_up h b (10, (h.2 b).2.1, va_cpy (h.2 a).2.2 (h.2 b).2.2 sp.toNatClampNeg dp.toNatClampNeg n.toNatClampNeg)) r
    else False
  | _ => False
def hk_lc : List Int64 := [0, 1, (-1), 9, 27, 96, 255, 411, 419, 5879, 10634, 99677, 122087, 400360, 456887, 459652, 7749089, 10408481, 10416091, 10504211, 12532058, 232608281, 234651388, 4294967295, 1747557746734]
def hk_step (rt : Option FieldType) (C S : Nat) (dft : Nat → Nat → Value) (cd : hk_Cd) (call : hk_C) (Q : hk_Q) (X : hk_X) (ip : Nat) (ls : hk_Ls) (st : List Value) (h : hk_Hp) (k n : Nat) : Prop :=
  match hk_at cd ip with
  | none => False
  | some (_, i, nx, a, b, c, tl) =>
    match i with
    | .aconst_null => X nx ls (.null :: st) h k n
    | .iconst _ => X nx ls (.int c :: st) h k n
    | .lconst _ => (match hk_nth hk_lc a with | some v => X nx ls (.long v :: st) h k n | none => False)
    | .ldc _ => X nx ls (.ref a :: st) h k n
    | .iload j => hk_lk ls j (fun v => match v with | .int x => X nx ls (.int x :: st) h k n | _ => False)
    | .lload j => hk_lk ls j (fun v => match v with | .long x => X nx ls (.long x :: st) h k n | _ => False)
    | .aload j => hk_lk ls j (fun v => match v with | .ref x => X nx ls (.ref x :: st) h k n | .null => X nx ls (.null :: st) h k n | _ => False)
    | .istore j => (match st with | .int x :: r => hk_fl (hk_p1 j) ls (fun l => X nx ((j, .int x) :: l) r h k n) | _ => False)
    | .lstore j => (match st with | .long x :: r => hk_fl (hk_p2 j) ls (fun l => X nx ((j, .long x) :: l) r h k n) | _ => False)
    | .astore j => (match st with | .ref x :: r => hk_fl (hk_p1 j) ls (fun l => X nx ((j, .ref x) :: l) r h k n) | .null :: r => hk_fl (hk_p1 j) ls (fun l => X nx ((j, .null) :: l) r h k n) | _ => False)
    | .iinc j _ => hk_lk ls j (fun v => match v with | .int x => hk_fl (hk_p1 j) ls (fun l => X nx ((j, .int (x + c)) :: l) st h k n) | _ => False)
    | .pop => (match st with | .int _ :: r => X nx ls r h k n | _ => False)
    | .dup => (match st with | .int x :: r => X nx ls (.int x :: .int x :: r) h k n | .ref x :: r => X nx ls (.ref x :: .ref x :: r) h k n | _ => False)
    | .iadd => hk_i2 HAdd.hAdd st (fun s => X nx ls s h k n)
    | .isub => hk_i2 HSub.hSub st (fun s => X nx ls s h k n)
    | .imul => hk_i2 HMul.hMul st (fun s => X nx ls s h k n)
    | .iand => hk_i2 HAnd.hAnd st (fun s => X nx ls s h k n)
    | .ior => hk_i2 HOr.hOr st (fun s => X nx ls s h k n)
    | .ixor => hk_i2 HXor.hXor st (fun s => X nx ls s h k n)
    | .ishl => hk_i2 hk_shl st (fun s => X nx ls s h k n)
    | .ishr => hk_i2 hk_shr st (fun s => X nx ls s h k n)
    | .iushr => hk_i2 hk_ush st (fun s => X nx ls s h k n)
    | .idiv => hk_dv HDiv.hDiv st (fun s => X nx ls s h k n)
    | .irem => hk_dv hk_rem st (fun s => X nx ls s h k n)
    | .ineg => hk_i1 (fun x => .int (-x)) st (fun s => X nx ls s h k n)
    | .i2l => hk_i1 (fun x => .long x.toInt64) st (fun s => X nx ls s h k n)
    | .i2b => hk_i1 (fun x => .int x.toInt8.toInt32) st (fun s => X nx ls s h k n)
    | .i2s => hk_i1 (fun x => .int x.toInt16.toInt32) st (fun s => X nx ls s h k n)
    | .i2c => hk_i1 (fun x => .int (x.toUInt32 % 65536).toInt32) st (fun s => X nx ls s h k n)
    | .l2i => (match st with | .long x :: r => X nx ls (.int x.toInt32 :: r) h k n | _ => False)
    | .ladd => hk_l2 (fun x y => .long (x + y)) st (fun s => X nx ls s h k n)
    | .lsub => hk_l2 (fun x y => .long (x - y)) st (fun s => X nx ls s h k n)
    | .lmul => hk_l2 (fun x y => .long (x * y)) st (fun s => X nx ls s h k n)
    | .land => hk_l2 (fun x y => .long (x &&& y)) st (fun s => X nx ls s h k n)
    | .lor => hk_l2 (fun x y => .long (x ||| y)) st (fun s => X nx ls s h k n)
    | .lcmp => hk_l2 (fun x y => .int (lg_cmp x y)) st (fun s => X nx ls s h k n)
    | .lshl => hk_ls hk_shlL st (fun s => X nx ls s h k n)
    | .lshr => hk_ls hk_shrL st (fun s => X nx ls s h k n)
    | .lushr => hk_ls hk_ushL st (fun s => X nx ls s h k n)
    | .fadd => hk_m2 hk_max st (fun s => X nx ls s h k n)
    | .fsub => hk_m2 hk_min st (fun s => X nx ls s h k n)
    | .fneg => hk_m1 hk_abs st (fun s => X nx ls s h k n)
    | .goto _ => bif Nat.ble a ip then (∃ is : List Nat, hk_pk is ls (fun l => X a l st h k n)) else X a ls st h k n
    | .ifCond d _ => hk_if1 d st (fun s => X a ls s h k n) (fun s => X nx ls s h k n)
    | .if_icmp d _ => hk_if2 d st (fun s => X a ls s h k n) (fun s => X nx ls s h k n)
    | .ifnull _ => hk_nul st (fun s => X a ls s h k n) (fun s => X nx ls s h k n)
    | .ifnonnull _ => hk_nul st (fun s => X nx ls s h k n) (fun s => X a ls s h k n)
    | .tableswitch _ lo _ _ => hk_sw lo a tl st (fun t s => X t ls s h k n)
    | .getstatic _ => X nx ls (hk_sv a :: st) h k n
    | .getfield _ => hk_gf h a b st (fun s => X nx ls s h k n)
    | .putfield _ => (match tl with | tc :: _ => hk_pf h a b tc st (fun h' s => X nx ls s h' k n) | _ => False)
    | .iaload => hk_ald h 10 st (fun s => X nx ls s h k n)
    | .laload => hk_ald h 11 st (fun s => X nx ls s h k n)
    | .baload => hk_ald h 12 st (fun s => X nx ls s h k n)
    | .aaload => hk_ald2 h st (fun s => X nx ls s h k n)
    | .iastore => hk_ast h 10 st (fun h' s => X nx ls s h' k n)
    | .lastore => hk_ast h 11 st (fun h' s => X nx ls s h' k n)
    | .bastore => hk_ast h 12 st (fun h' s => X nx ls s h' k n)
    | .aastore => hk_ast2 h st (fun h' s => X nx ls s h' k n)
    | .arraylength => hk_len h st (fun s => X nx ls s h k n)
    | .new _ => (k + 1 ≤ C ∧ n + b ≤ S) ∧ X nx ls (.ref h.1 :: st) (hk_nw h (a, b, dft a)) (k + 1) (n + b)
    | .newarray _ => hk_nar h a C S k n st (fun h' s n' => X nx ls s h' (k + 1) n')
    | .anewarray _ => hk_nar h a C S k n st (fun h' s n' => X nx ls s h' (k + 1) n')
    | .invokedynamic _ => (match st with | .ref x :: r => bif Nat.ble 38 x && Nat.ble (hk_cs r) 8 then X nx ls r h k n else False | _ => False)
    | .invokeinterface _ _ => hk_cpy h st (fun h' s => X nx ls s h' k n)
    | .invokevirtual _ => hk_pop (b + 1) st [] (fun as r => bif Nat.ble (hk_cs r) 8 then hk_rc h as (match tl with | t :: _ => t | _ => 99) (hk_alc tl C S k n (fun k' n' => call a as h (fun v h' => hk_rv v r (fun s => X nx ls s h' k' n')))) else False)
    | .invokestatic _ => hk_pop b st [] (fun as r => bif Nat.ble (hk_cs r) 8 then hk_alc tl C S k n (fun k' n' => call a as h (fun v h' => hk_rv v r (fun s => X nx ls s h' k' n'))) else False)
    | .invokespecial _ => hk_pop (b + 1) st [] (fun as r => bif Nat.ble (hk_cs r) 8 then hk_rn as (hk_alc tl C S k n (fun k' n' => call a as h (fun v h' => hk_rv v r (fun s => X nx ls s h' k' n')))) else False)
    | .ireturn => hk_ret rt st (fun v => Q v h)
    | .return_ => (match rt, st with | none, [] => Q none h | _, _ => False)
    | _ => False
/-- the least that is closed under the steps -/
def hk_wp (rt : Option FieldType) (C S : Nat) (dft : Nat → Nat → Value) (cd : hk_Cd) (call : hk_C) (Q : hk_Q) : hk_X := fun ip ls st h k n =>
  ∀ P : hk_X, (∀ ip ls st h k n, hk_step rt C S dft cd call Q P ip ls st h k n → P ip ls st h k n) → P ip ls st h k n
/-- so many steps, then the least -/
def hk_go (rt : Option FieldType) (C S : Nat) (dft : Nat → Nat → Value) (cd : hk_Cd) (call : hk_C) (Q : hk_Q) (f : Nat) : hk_X :=
  Nat.rec (hk_wp rt C S dft cd call Q) (fun _ X => hk_step rt C S dft cd call Q X) f
