/-! THE ABSTRACT RUN: cells by number (the k-th that was made stands at b0 + k), their kinds fixed in a list, what they hold in two functions; a method as a list of steps; a step says what must hold ahead of it, given what must hold behind it. -/
abbrev Shp : Type := (Nat × List Nat) ⊕ ((Nat × Nat) ⊕ (Nat × List Nat))
abbrev Mm : Type := (Nat → Nat → Int32) × (Nat → Nat → Int64)
abbrev Lz : Type := List (Option Value)
abbrev Sk : Type := List Value
abbrev Kn : Type := Lz → Sk → Mm → Prop
abbrev Qr : Type := Option Value → Mm → Prop
abbrev Cr : Type := Nat → List Value → Mm → Qr → Prop
abbrev Op : Type := List Shp → Cr → Qr → Lz → Sk → Mm → Kn → (Nat → Kn) → Prop
/-- one int of a cell anew -/
def mu (f : Nat → Nat → Int32) (k j : Nat) (v : Int32) : Nat → Nat → Int32 := fun a => if a = k then (fun b => if b = j then v else f k b) else f a
def mul (f : Nat → Nat → Int64) (k j : Nat) (v : Int64) : Nat → Nat → Int64 := fun a => if a = k then (fun b => if b = j then v else f k b) else f a
def fval (m : Mm) (k j : Nat) : Nat → Value
  | 0 => .int (m.1 k j)
  | 1 => .long (m.2 k j)
  | 2 => .null
  | d + 3 => .ref d
def rval (rs : List Nat) (i : Nat) : Value := match rs[i]? with
  | some (d + 3) => .ref d
  | _ => .null
def catsum : List Value → Nat
  | [] => 0
  | v :: r => v.category + catsum r
/-- the slot ahead isn't a long's first half -/
def prevok (ls : Lz) : Nat → Bool
  | 0 => true
  | i + 1 => match ls[i]? with
    | some (some (.long _)) => false
    | some (some (.double _)) => false
    | _ => true
/-- a run from the step at pc t (0: from the list's head on); back jumps go to P -/
def blk (sh : List Shp) (C : Cr) (Q : Qr) (P : Nat → Kn) : List (Nat × Op) → Nat → Lz → Sk → Mm → Prop
  | [], _, _, _, _ => False
  | (pc, op) :: r, t, ls, st, m => match Nat.beq t 0 || Nat.beq t pc with
    | false => blk sh C Q P r t ls st m
    | true => op sh C Q ls st m (fun ls st m => blk sh C Q P r 0 ls st m) (fun t' ls st m => match Nat.ble t' pc with
      | true => P t' ls st m
      | false => blk sh C Q P r t' ls st m)
def WP (sh : List Shp) (C : Cr) (Q : Qr) (code : List (Nat × Op)) (pc : Nat) (ls : Lz) (st : Sk) (m : Mm) : Prop :=
  ∀ P : Nat → Kn, (∀ pc ls st m, blk sh C Q P code pc ls st m → P pc ls st m) → P pc ls st m
def entA : List Value → Lz
  | [] => []
  | v :: r => match v.category with
    | 2 => some v :: none :: entA r
    | _ => some v :: entA r
def entL (n : Nat) (vs : List Value) : Lz := entA vs ++ List.replicate (n - (entA vs).length) none
/-- a call of method number y, d calls deep at most -/
def callT (codes : Nat → Nat × List (Nat × Op)) (sh : List Shp) : Nat → Cr
  | 0 => fun _ _ _ _ => False
  | d + 1 => fun y args m Q => Nat.ble (entA args).length (codes y).1 = true ∧ WP sh (callT codes sh d) Q (codes y).2 0 (entL (codes y).1 args) [] m
/-! the steps -/
def o_const (v : Int32) : Op := fun _ _ _ ls st m kn _ => kn ls (.int v :: st) m
def o_lconst (v : Int64) : Op := fun _ _ _ ls st m kn _ => kn ls (.long v :: st) m
def o_null : Op := fun _ _ _ ls st m kn _ => kn ls (.null :: st) m
def o_iload (i : Nat) : Op := fun _ _ _ ls st m kn _ => match ls[i]? with
  | some (some (.int x)) => kn ls (.int x :: st) m
  | _ => False
def o_lload (i : Nat) : Op := fun _ _ _ ls st m kn _ => match ls[i]? with
  | some (some (.long x)) => kn ls (.long x :: st) m
  | _ => False
def o_aload (i : Nat) : Op := fun _ _ _ ls st m kn _ => match ls[i]? with
  | some (some (.ref x)) => kn ls (.ref x :: st) m
  | some (some .null) => kn ls (.null :: st) m
  | _ => False
def o_istore (i : Nat) : Op := fun _ _ _ ls st m kn _ => match st with
  | .int x :: r => match prevok ls i with
    | true => kn (ls.set i (some (.int x))) r m
    | false => False
  | _ => False
def o_astore (i : Nat) : Op := fun _ _ _ ls st m kn _ => match st with
  | .ref x :: r => match prevok ls i with
    | true => kn (ls.set i (some (.ref x))) r m
    | false => False
  | .null :: r => match prevok ls i with
    | true => kn (ls.set i (some .null)) r m
    | false => False
  | _ => False
def o_lstore (i : Nat) : Op := fun _ _ _ ls st m kn _ => match st with
  | .long x :: r => match prevok ls i with
    | true => kn ((ls.set i (some (.long x))).set (i + 1) none) r m
    | false => False
  | _ => False
def o_iinc (i : Nat) (n : Int32) : Op := fun _ _ _ ls st m kn _ => match ls[i]? with
  | some (some (.int x)) => match prevok ls i with
    | true => kn (ls.set i (some (.int (x + n)))) st m
    | false => False
  | _ => False
/-- two ints to one -/
def o_ii (f : Int32 → Int32 → Int32) : Op := fun _ _ _ ls st m kn _ => match st with
  | .int y :: .int x :: r => kn ls (.int (f x y) :: r) m
  | _ => False
/-- two ints to one, the upper one not 0 -/
def o_iz (f : Int32 → Int32 → Int32) : Op := fun _ _ _ ls st m kn _ => match st with
  | .int y :: .int x :: r => ¬ y = 0 ∧ kn ls (.int (f x y) :: r) m
  | _ => False
def o_i1 (f : Int32 → Int32) : Op := fun _ _ _ ls st m kn _ => match st with
  | .int x :: r => kn ls (.int (f x) :: r) m
  | _ => False
def o_ll (f : Int64 → Int64 → Int64) : Op := fun _ _ _ ls st m kn _ => match st with
  | .long y :: .long x :: r => kn ls (.long (f x y) :: r) m
  | _ => False
def o_lz (f : Int64 → Int64 → Int64) : Op := fun _ _ _ ls st m kn _ => match st with
  | .long y :: .long x :: r => ¬ y = 0 ∧ kn ls (.long (f x y) :: r) m
  | _ => False
def o_i2l : Op := fun _ _ _ ls st m kn _ => match st with
  | .int x :: r => kn ls (.long x.toInt64 :: r) m
  | _ => False
def o_l2i : Op := fun _ _ _ ls st m kn _ => match st with
  | .long x :: r => kn ls (.int x.toInt32 :: r) m
  | _ => False
def o_lcmp : Op := fun _ _ _ ls st m kn _ => match st with
  | .long y :: .long x :: r => kn ls (.int (lg_cmp x y) :: r) m
  | _ => False
def o_dup : Op := fun _ _ _ ls st m kn _ => match st with
  | .int x :: r => kn ls (.int x :: .int x :: r) m
  | .ref x :: r => kn ls (.ref x :: .ref x :: r) m
  | _ => False
def o_pop : Op := fun _ _ _ ls st m kn _ => match st with
  | .int _ :: r => kn ls r m
  | .ref _ :: r => kn ls r m
  | _ => False
def o_goto (t : Nat) : Op := fun _ _ _ ls st m _ kt => kt t ls st m
/-- a branch on one int, on two -/
def o_if (f : Int32 → Prop) (t : Nat) : Op := fun _ _ _ ls st m kn kt => match st with
  | .int x :: r => (f x → kt t ls r m) ∧ (¬ f x → kn ls r m)
  | _ => False
def o_if2 (f : Int32 → Int32 → Prop) (t : Nat) : Op := fun _ _ _ ls st m kn kt => match st with
  | .int y :: .int x :: r => (f x y → kt t ls r m) ∧ (¬ f x y → kn ls r m)
  | _ => False
def o_ifnull (t : Nat) : Op := fun _ _ _ ls st m kn kt => match st with
  | .ref _ :: r => kn ls r m
  | .null :: r => kt t ls r m
  | _ => False
def o_ifnonnull (t : Nat) : Op := fun _ _ _ ls st m kn kt => match st with
  | .ref _ :: r => kt t ls r m
  | .null :: r => kn ls r m
  | _ => False
/-- a switch: pairs of number and target, the other target -/
def swt (x : Int32) (kt : Nat → Prop) (dflt : Nat) : List (Int × Nat) → Prop
  | [] => kt dflt
  | (a, t) :: r => (x.toInt = a → kt t) ∧ (¬ x.toInt = a → swt x kt dflt r)
def o_switch (dflt : Nat) (ps : List (Int × Nat)) : Op := fun _ _ _ ls st m _ kt => match st with
  | .int x :: r => swt x (fun t => kt t ls r m) dflt ps
  | _ => False
def o_getf (ci j : Nat) : Op := fun sh _ _ ls st m kn _ => match st with
  | .ref k :: r => match sh[k]? with
    | some (.inl (c, fds)) => match Nat.beq c ci with
      | true => match fds[j]? with
        | some d => kn ls (fval m k j d :: r) m
        | none => False
      | false => False
    | _ => False
  | _ => False
def o_puti (ci j : Nat) : Op := fun sh _ _ ls st m kn _ => match st with
  | .int v :: .ref k :: r => match sh[k]? with
    | some (.inl (c, fds)) => match Nat.beq c ci with
      | true => match fds[j]? with
        | some 0 => kn ls r (mu m.1 k j v, m.2)
        | _ => False
      | false => False
    | _ => False
  | _ => False
def o_putz (ci j : Nat) : Op := fun sh _ _ ls st m kn _ => match st with
  | .int v :: .ref k :: r => match sh[k]? with
    | some (.inl (c, fds)) => match Nat.beq c ci with
      | true => match fds[j]? with
        | some 0 => (v = 0 ∨ v = 1) ∧ kn ls r (mu m.1 k j v, m.2)
        | _ => False
      | false => False
    | _ => False
  | _ => False
def o_putl (ci j : Nat) : Op := fun sh _ _ ls st m kn _ => match st with
  | .long v :: .ref k :: r => match sh[k]? with
    | some (.inl (c, fds)) => match Nat.beq c ci with
      | true => match fds[j]? with
        | some 1 => kn ls r (m.1, mul m.2 k j v)
        | _ => False
      | false => False
    | _ => False
  | _ => False
/-- an array of ints (t 0), of truths (t 1): read, write -/
def o_ald (t : Nat) : Op := fun sh _ _ ls st m kn _ => match st with
  | .int i :: .ref a :: r => match sh[a]? with
    | some (.inr (.inl (t', n))) => match Nat.beq t' t with
      | true => vp_in i n ∧ kn ls (.int (m.1 a i.toNatClampNeg) :: r) m
      | false => False
    | _ => False
  | _ => False
def o_iast : Op := fun sh _ _ ls st m kn _ => match st with
  | .int x :: .int i :: .ref a :: r => match sh[a]? with
    | some (.inr (.inl (0, n))) => vp_in i n ∧ kn ls r (mu m.1 a i.toNatClampNeg x, m.2)
    | _ => False
  | _ => False
def o_zast : Op := fun sh _ _ ls st m kn _ => match st with
  | .int x :: .int i :: .ref a :: r => match sh[a]? with
    | some (.inr (.inl (1, n))) => (x = 0 ∨ x = 1) ∧ vp_in i n ∧ kn ls r (mu m.1 a i.toNatClampNeg x, m.2)
    | _ => False
  | _ => False
def o_aald : Op := fun sh _ _ ls st m kn _ => match st with
  | .int i :: .ref a :: r => match sh[a]? with
    | some (.inr (.inr (2, rs))) => vp_in i rs.length ∧ kn ls (rval rs i.toNatClampNeg :: r) m
    | some (.inr (.inr (3, rs))) => vp_in i rs.length ∧ kn ls (rval rs i.toNatClampNeg :: r) m
    | _ => False
  | _ => False
def o_alen : Op := fun sh _ _ ls st m kn _ => match st with
  | .ref a :: r => match sh[a]? with
    | some (.inr (.inl (t, n))) => match Nat.blt t 4 with
      | true => kn ls (.int (nI n) :: r) m
      | false => False
    | some (.inr (.inr (t, rs))) => match Nat.blt t 4 with
      | true => kn ls (.int (nI rs.length) :: r) m
      | false => False
    | _ => False
  | _ => False
def o_copy : Op := fun sh _ _ ls st m kn _ => match st with
  | .int n :: .int dp :: .ref b :: .int sp :: .ref a :: r => match sh[a]?, sh[b]? with
    | some (.inr (.inl (0, na))), some (.inr (.inl (0, nb))) => (catsum r ≤ 8 ∧ ¬ sp < 0 ∧ ¬ dp < 0 ∧ ¬ n < 0 ∧ sp.toNatClampNeg + n.toNatClampNeg ≤ na ∧ dp.toNatClampNeg + n.toNatClampNeg ≤ nb) ∧ kn ls r (fun q => if q = b then va_cpy (m.1 a) (m.1 b) sp.toNatClampNeg dp.toNatClampNeg n.toNatClampNeg else m.1 q, m.2)
    | _, _ => False
  | _ => False
/-- a call: method y, n arguments: with a receiver of a sort, a text that lies outside, none -/
def o_callV (y n ci : Nat) : Op := fun sh C _ ls st m kn _ => match st.drop n with
  | .ref k :: rest => match sh[k]? with
    | some (.inl (c, _)) => match Nat.beq c ci with
      | true => match Nat.ble (catsum rest) 8 with
        | true => C y (.ref k :: (st.take n).reverse) m (fun r m' => kn ls (r.toList ++ rest) m')
        | false => False
      | false => False
    | _ => False
  | _ => False
def o_callX (y n : Nat) : Op := fun _ C _ ls st m kn _ => match st.drop n with
  | .ref k :: rest => match Nat.beq k 1000 || Nat.beq k 1001 with
    | true => match Nat.ble (catsum rest) 8 with
      | true => C y (.ref k :: (st.take n).reverse) m (fun r m' => kn ls (r.toList ++ rest) m')
      | false => False
    | false => False
  | _ => False
def o_callS (y n : Nat) : Op := fun _ C _ ls st m kn _ => match Nat.ble n st.length && Nat.ble (catsum (st.drop n)) 8 with
  | true => C y (st.take n).reverse m (fun r m' => kn ls (r.toList ++ st.drop n) m')
  | false => False
def o_iret : Op := fun _ _ Q _ st m _ _ => match st with
  | [.int v] => Q (some (.int v)) m
  | _ => False
/-- an answer that is true or false, a letter, a byte -/
def o_zret (ty : FieldType) : Op := fun _ _ Q _ st m _ _ => match st with
  | [.int v] => narrow ty (.int v) = .int v ∧ Q (some (.int v)) m
  | _ => False
def o_lret : Op := fun _ _ Q _ st m _ _ => match st with
  | [.long v] => Q (some (.long v)) m
  | _ => False
def o_aret : Op := fun _ _ Q _ st m _ _ => match st with
  | [.ref v] => Q (some (.ref v)) m
  | [.null] => Q (some .null) m
  | _ => False
def o_ret : Op := fun _ _ Q _ st m _ _ => match st with
  | [] => Q none m
  | _ => False
/-! what lies outside: texts 1000, 1001, their bytes 1002, 1003, a row of numbers 1004, a handler 1005 -/
def o_bad : Op := fun _ _ _ _ _ _ _ _ => False
def o_pushr (k : Nat) : Op := fun _ _ _ ls st m kn _ => kn ls (.ref k :: st) m
def o_hand : Op := fun _ _ _ ls st m kn _ => kn ls (.null :: st) m ∧ kn ls (.ref 1005 :: st) m
def o_sval : Op := fun _ _ _ ls st m kn _ => match st with
  | .ref 1000 :: r => kn ls (.ref 1002 :: r) m
  | .ref 1001 :: r => kn ls (.ref 1003 :: r) m
  | _ => False
def o_scod : Op := fun _ _ _ ls st m kn _ => match st with
  | .ref 1000 :: r => kn ls (.int 0 :: r) m
  | .ref 1001 :: r => kn ls (.int 0 :: r) m
  | _ => False
def tx0 : String := "place  from   step   number left   all    furtherpasses pays   or     and    not    "
def tx1 : String := "();+-*<="
def by0 : List Int32 := [112, 108, 97, 99, 101, 32, 32, 102, 114, 111, 109, 32, 32, 32, 115, 116, 101, 112, 32, 32, 32, 110, 117, 109, 98, 101, 114, 32, 108, 101, 102, 116, 32, 32, 32, 97, 108, 108, 32, 32, 32, 32, 102, 117, 114, 116, 104, 101, 114, 112, 97, 115, 115, 101, 115, 32, 112, 97, 121, 115, 32, 32, 32, 111, 114, 32, 32, 32, 32, 32, 97, 110, 100, 32, 32, 32, 32, 110, 111, 116, 32, 32, 32, 32]
def by1 : List Int32 := [40, 41, 59, 43, 45, 42, 60, 61]
def kab : Nat → Int32
  | 0 => -1
  | 1 => 0
  | 2 => 0
  | 3 => 1
  | 4 => 2
  | _ => 0
def o_blen : Op := fun _ _ _ ls st m kn _ => match st with
  | .ref 1002 :: r => kn ls (.int 84 :: r) m
  | .ref 1003 :: r => kn ls (.int 8 :: r) m
  | _ => False
def o_bget : Op := fun _ _ _ ls st m kn _ => match st with
  | .int i :: .ref 1002 :: r => vp_in i 84 ∧ kn ls (.int (by0.getD i.toNatClampNeg 0) :: r) m
  | .int i :: .ref 1003 :: r => vp_in i 8 ∧ kn ls (.int (by1.getD i.toNatClampNeg 0) :: r) m
  | _ => False
def o_klen : Op := fun _ _ _ ls st m kn _ => match st with
  | .ref 1004 :: r => kn ls (.int 6 :: r) m
  | _ => False
def o_kget : Op := fun _ _ _ ls st m kn _ => match st with
  | .int i :: .ref 1004 :: r => vp_in i 6 ∧ kn ls (.int (kab i.toNatClampNeg) :: r) m
  | _ => False
/-! what is behind may be more, and the methods called may answer more -/
def Mono (op : Op) : Prop := ∀ (sh : List Shp) (C C' : Cr) (Q Q' : Qr) (ls : Lz) (st : Sk) (m : Mm) (kn kn' : Kn) (kt kt' : Nat → Kn),
  (∀ (y : Nat) (a : List Value) (m : Mm) (Q Q' : Qr), (∀ r m, Q r m → Q' r m) → C y a m Q → C' y a m Q') → (∀ r m, Q r m → Q' r m) → (∀ ls st m, kn ls st m → kn' ls st m) → (∀ t ls st m, kt t ls st m → kt' t ls st m) →
  op sh C Q ls st m kn kt → op sh C' Q' ls st m kn' kt'
