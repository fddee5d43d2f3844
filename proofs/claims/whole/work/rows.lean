section
/-! ===== A SMALL MACHINE: whole numbers, places, a layout L (what each place is) and a store (place, index -> number) ===== -/
/-- a value: an int, a long, a place, a row of a table of rows (place, index), a load (0: null, else place + 1), nothing -/
abbrev jv_V : Type := Int ⊕ Int ⊕ Nat ⊕ (Nat × Int) ⊕ Int ⊕ Unit
abbrev jv_I (i : Int) : jv_V := .inl i
abbrev jv_J (i : Int) : jv_V := .inr (.inl i)
abbrev jv_P (p : Nat) : jv_V := .inr (.inr (.inl p))
abbrev jv_R (p : Nat) (i : Int) : jv_V := .inr (.inr (.inr (.inl (p, i))))
abbrev jv_D (q : Int) : jv_V := .inr (.inr (.inr (.inr (.inl q))))
abbrev jv_U : jv_V := .inr (.inr (.inr (.inr (.inr ()))))
/-- a place: kind (0 int[], 1 long[], 2 int[][], 3 Load[], 4 a row of a kind 2, 5 the script, 10 + ci an object), length, references -/
abbrev jv_L : Type := List (Nat × Nat × List Nat)
abbrev jv_S : Type := Nat → Int → Int
/-- pc, instruction, length, resolved numbers, a constant -/
abbrev jv_E : Type := Nat × Instr × Nat × List Nat × Int
def jv_up (g : jv_S) (p : Nat) (i v : Int) : jv_S := fun q j => if q = p ∧ j = i then v else g q j
def jv_cl (g : jv_S) (p : Nat) : jv_S := fun q j => if q = p then 0 else g q j
def jv_cll (g : jv_S) (q0 : Int) : jv_S := fun q j => if q = 1000 ∧ 8 * q0 ≤ j ∧ j < 8 * q0 + 8 then 0 else g q j
def jv_cp (g : jv_S) (ps : Nat) (os : Int) (pd : Nat) (od n : Int) : jv_S := fun q j => if q = pd ∧ od ≤ j ∧ j < od + n then g ps (os + (j - od)) else g q j
def jv_w32 (z : Int) : Int := (Int32.ofInt z).toInt
def jv_w64 (z : Int) : Int := (Int64.ofInt z).toInt
def jv_r32 (z : Int) : Prop := -2147483648 ≤ z ∧ z ≤ 2147483647
def jv_r64 (z : Int) : Prop := -9223372036854775808 ≤ z ∧ z ≤ 9223372036854775807
def jv_and (a b : Int) : Int := (Int32.ofInt a &&& Int32.ofInt b).toInt
def jv_or (a b : Int) : Int := (Int32.ofInt a ||| Int32.ofInt b).toInt
def jv_xor (a b : Int) : Int := (Int32.ofInt a ^^^ Int32.ofInt b).toInt
def jv_shl (a b : Int) : Int := (Int32.ofInt a <<< (Int32.ofInt b &&& 31)).toInt
def jv_shr (a b : Int) : Int := (Int32.ofInt a >>> (Int32.ofInt b &&& 31)).toInt
def jv_ushr (a b : Int) : Int := ((Int32.ofInt a).toUInt32 >>> ((Int32.ofInt b).toUInt32 &&& Int32.toUInt32 31)).toInt32.toInt
def jv_i2b (a : Int) : Int := (Int32.ofInt a).toInt8.toInt32.toInt
def jv_i2s (a : Int) : Int := (Int32.ofInt a).toInt16.toInt32.toInt
def jv_cmp (a b : Int) : Int := if b < a then 1 else if a = b then 0 else -1
def jv_cat : List jv_V → Nat
  | [] => 0
  | (.inr (.inl _)) :: t => 2 + jv_cat t
  | _ :: t => 1 + jv_cat t
def jv_fl : List jv_V → List jv_V
  | [] => []
  | (.inr (.inl x)) :: t => (.inr (.inl x)) :: jv_U :: jv_fl t
  | x :: t => x :: jv_fl t
def jv_en (ml : Nat) (as : List jv_V) : List jv_V := jv_fl as ++ List.replicate (ml - (jv_fl as).length) jv_U
def jv_s1 (ls : List jv_V) (i : Nat) (v : jv_V) : List jv_V := ls.set i v
def jv_s2 (ls : List jv_V) (i : Nat) (v : jv_V) : List jv_V := (ls.set i v).set (i + 1) jv_U
def jv_pu (r : jv_V) (st : List jv_V) : List jv_V := match r with
  | .inr (.inr (.inr (.inr (.inr _)))) => st
  | v => v :: st
/-- a table's switch, its targets one by one from lo on, else d -/
def jv_sw {α : Type} (br : (c : Prop) → Decidable c → α → α → α) (x : Int) (k : Nat → α) (d : Nat) : Int → List Nat → α
  | _, [] => k d
  | lo, t :: ts => br (x = lo) inferInstance (k t) (jv_sw br x k d (lo + 1) ts)
/-- a lookup's switch: keys and targets -/
def jv_lw {α : Type} (br : (c : Prop) → Decidable c → α → α → α) (x : Int) (k : Nat → α) (d : Nat) : List (Int × Int) → List Nat → α
  | (key, _) :: ps, t :: ts => br (x = key) inferInstance (k t) (jv_lw br x k d ps ts)
  | _, _ => k d
def jv_rows (a n m : Nat) : jv_L := (List.range n).map (fun i => (4, m, [a, i]))
section
variable {α : Type} (ck : (c : Prop) → Decidable c → α → α) (br : (c : Prop) → Decidable c → α → α → α) (a32 a64 : Int → (Int → α) → α) (bad : α)
  (go : Nat → List jv_V → List jv_V → jv_L → jv_S → α) (ret : jv_V → jv_L → jv_S → α) (call : Nat → List jv_V → List jv_V → α)
def jv_ld (i n : Nat) (ty : Nat) (ls st : List jv_V) (L : jv_L) (g : jv_S) : α := match ls[i]?, ty with
  | some (.inl x), 0 => go n ls (.inl x :: st) L g
  | some (.inr (.inl x)), 1 => match ls[i + 1]? with
    | some (.inr (.inr (.inr (.inr (.inr _))))) => go n ls (.inr (.inl x) :: st) L g
    | _ => bad
  | some (.inr (.inr (.inl x))), 2 => go n ls (.inr (.inr (.inl x)) :: st) L g
  | some (.inr (.inr (.inr (.inl x)))), 2 => go n ls (.inr (.inr (.inr (.inl x))) :: st) L g
  | some (.inr (.inr (.inr (.inr (.inl x))))), 2 => go n ls (.inr (.inr (.inr (.inr (.inl x)))) :: st) L g
  | _, _ => bad
def jv_so (i n : Nat) (ty : Nat) (ls st : List jv_V) (L : jv_L) (g : jv_S) : α := match Nat.ble (i + (if ty = 1 then 2 else 1)) ls.length with
  | false => bad
  | true => match st, ty with
    | .inl x :: st, 0 => go n (jv_s1 ls i (.inl x)) st L g
    | .inr (.inl x) :: st, 1 => go n (jv_s2 ls i (.inr (.inl x))) st L g
    | .inr (.inr (.inl x)) :: st, 2 => go n (jv_s1 ls i (.inr (.inr (.inl x)))) st L g
    | .inr (.inr (.inr (.inl x))) :: st, 2 => go n (jv_s1 ls i (.inr (.inr (.inr (.inl x))))) st L g
    | .inr (.inr (.inr (.inr (.inl x)))) :: st, 2 => go n (jv_s1 ls i (.inr (.inr (.inr (.inr (.inl x)))))) st L g
    | _, _ => bad
def jv_b2 (cnd : Jvm.ClassFile.Cond) (a b : Int) (t f : α) : α := match cnd with
  | .eq => br (a = b) inferInstance t f
  | .ne => br (a = b) inferInstance f t
  | .lt => br (a < b) inferInstance t f
  | .ge => br (b ≤ a) inferInstance t f
  | .gt => br (b < a) inferInstance t f
  | .le => br (a ≤ b) inferInstance t f
def jv_gf (n : Nat) (kd k ty : Nat) (ls st : List jv_V) (L : jv_L) (g : jv_S) : α := match st with
  | .inr (.inr (.inl p)) :: st => match L[p]? with
    | some (kd', _, rs) => match Nat.beq kd kd' && !Nat.beq kd 11 with
      | true => match ty with
        | 2 => match rs[k]? with
          | some (q + 1) => go n ls (.inr (.inr (.inl (q + 1))) :: st) L g
          | _ => bad
        | _ => go n ls (.inl (g p (Int.ofNat k)) :: st) L g
      | false => bad
    | none => bad
  | .inr (.inr (.inr (.inr (.inl q)))) :: st => match kd, ty with
    | 11, 0 => ck (0 < q ∧ L[(q - 1).toNat]? = some (11, 8, [])) inferInstance (go n ls (.inl (g 1000 (8 * q + Int.ofNat k)) :: st) L g)
    | _, _ => bad
  | _ => bad
def jv_pf (n : Nat) (kd k ty : Nat) (ls st : List jv_V) (L : jv_L) (g : jv_S) : α := match st with
  | .inl x :: .inr (.inr (.inl p)) :: st => match L[p]? with
    | some (kd', _, _) => match Nat.beq kd kd' && !Nat.beq kd 11 with
      | true => match ty with
        | 0 => go n ls st L (jv_up g p (Int.ofNat k) x)
        | 1 => ck (x = 0 ∨ x = 1) inferInstance (go n ls st L (jv_up g p (Int.ofNat k) x))
        | _ => bad
      | false => bad
    | none => bad
  | .inl x :: .inr (.inr (.inr (.inr (.inl q)))) :: st => match kd, ty with
    | 11, 0 => ck (0 < q ∧ L[(q - 1).toNat]? = some (11, 8, [])) inferInstance (go n ls st L (jv_up g 1000 (8 * q + Int.ofNat k) x))
    | _, _ => bad
  | .inr (.inr (.inl v)) :: .inr (.inr (.inl p)) :: st => match L[p]? with
    | some (kd', len, rs) => match Nat.beq kd kd' && !Nat.beq kd 11 && Nat.blt k rs.length && Nat.ble 10 kd, ty with
      | true, 2 => match v with
        | 0 => bad
        | v + 1 => match Nat.blt (v + 1) L.length with
          | true => go n ls st (L.set p (kd', len, rs.set k (v + 1))) g
          | false => bad
      | _, _ => bad
    | none => bad
  | _ => bad
/-- the number of an element: its place and index -/
def jv_ix (x : jv_V) (i : Int) (L : jv_L) (f : Nat → Nat → Int → α) : α := match x with
  | .inr (.inr (.inl p)) => match L[p]? with
    | some (kd, n, _) => ck (0 ≤ i ∧ i < Int.ofNat n) inferInstance (f kd p i)
    | none => bad
  | .inr (.inr (.inr (.inl (p, j)))) => match L[p]? with
    | some (2, _, [m]) => ck (0 ≤ i ∧ i < Int.ofNat m) inferInstance (f 0 p (j * Int.ofNat m + i))
    | _ => bad
  | _ => bad
def jv_ar (n : Nat) (ld : Nat) (ls st : List jv_V) (L : jv_L) (g : jv_S) : α := match ld, st with
  | 0, .inl i :: x :: st => jv_ix ck bad x i L (fun kd p j => match kd with
    | 0 => go n ls (.inl (g p j) :: st) L g
    | 5 => go n ls (.inl (g p j) :: st) L g
    | _ => bad)
  | 1, .inl i :: x :: st => jv_ix ck bad x i L (fun kd p j => match kd with
    | 1 => go n ls (.inr (.inl (g p j)) :: st) L g
    | _ => bad)
  | 2, .inl i :: x :: st => jv_ix ck bad x i L (fun kd p j => match kd with
    | 2 => go n ls (.inr (.inr (.inr (.inl (p, j)))) :: st) L g
    | 3 => go n ls (.inr (.inr (.inr (.inr (.inl (g p j))))) :: st) L g
    | _ => bad)
  | 3, .inl v :: .inl i :: x :: st => jv_ix ck bad x i L (fun kd p j => match kd with
    | 0 => go n ls st L (jv_up g p j v)
    | _ => bad)
  | 4, .inr (.inl v) :: .inl i :: x :: st => jv_ix ck bad x i L (fun kd p j => match kd with
    | 1 => go n ls st L (jv_up g p j v)
    | _ => bad)
  | 5, .inr (.inr (.inr (.inr (.inl v)))) :: .inl i :: x :: st => jv_ix ck bad x i L (fun kd p j => match kd with
    | 3 => ck (0 < v ∧ L[(v - 1).toNat]? = some (11, 8, [])) inferInstance (go n ls st L (jv_up g p j v))
    | _ => bad)
  | _, _ => bad
def jv_sz (x : jv_V) (L : jv_L) (f : Nat → α) : α := match x with
  | .inr (.inr (.inl p)) => match L[p]? with
    | some (kd, n, _) => match Nat.ble kd 5 with
      | true => f n
      | false => bad
    | none => bad
  | .inr (.inr (.inr (.inl (p, _)))) => match L[p]? with
    | some (2, _, [m]) => f m
    | _ => bad
  | _ => bad
/-- an int array or row: place, first index, length -/
def jv_vw (x : jv_V) (L : jv_L) (f : Nat → Int → Nat → α) : α := match x with
  | .inr (.inr (.inl p)) => match L[p]? with
    | some (0, n, _) => f p 0 n
    | _ => bad
  | .inr (.inr (.inr (.inl (p, j)))) => match L[p]? with
    | some (2, _, [m]) => f p (j * Int.ofNat m) m
    | _ => bad
  | _ => bad
def jv_cy (n : Nat) (ls st : List jv_V) (L : jv_L) (g : jv_S) : α := match st with
  | .inl c :: .inl dp :: y :: .inl sp :: x :: st => jv_vw bad x L (fun ps os ns => jv_vw bad y L (fun pd od nd => match Nat.ble (jv_cat st) 8 with
    | true => ck (0 ≤ sp ∧ 0 ≤ dp ∧ 0 ≤ c ∧ sp + c ≤ Int.ofNat ns ∧ dp + c ≤ Int.ofNat nd) inferInstance (go n ls st L (jv_cp g ps (os + sp) pd (od + dp) c))
    | false => bad))
  | _ => bad
def jv_in (n : Nat) (r : List Nat) (ls st : List jv_V) (L : jv_L) (g : jv_S) : α := match r with
  | [1000] => jv_cy ck bad go n ls st L g
  | [1001] => match st with
    | .inr (.inr (.inl _)) :: st => match Nat.ble (jv_cat st) 8 with
      | true => go n ls st L g
      | false => bad
    | .inr (.inr (.inr (.inr (.inl q)))) :: st => match Nat.ble (jv_cat st) 8 with
      | true => ck (0 < q ∧ L[(q - 1).toNat]? = some (11, 8, [])) inferInstance (go n ls st L g)
      | false => bad
    | _ => bad
  | [1002] => match st with
    | .inl y :: .inl x :: st => match Nat.ble (jv_cat st) 8 with
      | true => go n ls (.inl (if x < y then y else x) :: st) L g
      | false => bad
    | _ => bad
  | [1003] => match st with
    | .inr (.inl x) :: st => match Nat.ble (jv_cat st) 8 with
      | true => ck (-9223372036854775807 ≤ x) inferInstance (go n ls (.inr (.inl (if 0 < x then x else - x)) :: st) L g)
      | false => bad
    | _ => bad
  | [1004] => match st with
    | .inr (.inl y) :: .inr (.inl x) :: st => match Nat.ble (jv_cat st) 8 with
      | true => go n ls (.inr (.inl (if y < x then x else y)) :: st) L g
      | false => bad
    | _ => bad
  | [k, c, rc] => match Nat.ble c st.length, Nat.ble (jv_cat (st.drop c)) 8 with
    | true, true => match rc, (st.take c).reverse with
      | 0, as => call k as (st.drop c)
      | rc + 1, .inr (.inr (.inl p)) :: as => match L[p]? with
        | some (kd, _, _) => match Nat.beq kd rc with
          | true => call k (.inr (.inr (.inl p)) :: as) (st.drop c)
          | false => bad
        | none => bad
      | 12, .inr (.inr (.inr (.inr (.inl q)))) :: as => ck (0 < q ∧ L[(q - 1).toNat]? = some (11, 8, [])) inferInstance (call k (.inr (.inr (.inr (.inr (.inl q)))) :: as) (st.drop c))
      | _, _ => bad
    | _, _ => bad
  | _ => bad
def jv_nw (n : Nat) (r : List Nat) (ls st : List jv_V) (L : jv_L) (g : jv_S) : α := match r with
  | [1, 8] => ck (L.length < 999) inferInstance (go n ls (.inr (.inr (.inr (.inr (.inl (Int.ofNat L.length + 1))))) :: st) (L ++ [(11, 8, [])]) (jv_cll g (Int.ofNat L.length + 1)))
  | [ci, ns] => match Nat.blt L.length 999 with
    | true => go n ls (.inr (.inr (.inl L.length)) :: st) (L ++ [(10 + ci, ns, List.replicate ns 0)]) (jv_cl g L.length)
    | false => bad
  | _ => bad
def jv_na (n kd : Nat) (ls st : List jv_V) (L : jv_L) (g : jv_S) : α := match st with
  | .inl c :: st => match Nat.blt L.length 999 with
    | true => ck (0 ≤ c ∧ c ≤ 100000) inferInstance (go n ls (.inr (.inr (.inl L.length)) :: st) (L ++ [(kd, c.toNat, [])]) (jv_cl g L.length))
    | false => bad
  | _ => bad
def jv_mn (n : Nat) (ls st : List jv_V) (L : jv_L) (g : jv_S) : α := match st with
  | .inl m :: .inl c :: st => match Nat.blt (L.length + c.toNat) 999 with
    | true => ck (0 ≤ c ∧ c ≤ 100 ∧ 0 ≤ m ∧ m ≤ 100) inferInstance (go n ls (.inr (.inr (.inl L.length)) :: st) (L ++ (2, c.toNat, [m.toNat]) :: jv_rows L.length c.toNat m.toNat) (jv_cl g L.length))
    | false => bad
  | _ => bad
/-- one instruction -/
def jv_st (e : jv_E) (ls st : List jv_V) (L : jv_L) (g : jv_S) : α := match e with
  | (pc, i, len, r, z) => match i with
    | .iconst _ | .bipush _ | .sipush _ | .ldc_w _ => go (pc + len) ls (.inl z :: st) L g
    | .lconst _ | .ldc2_w _ => go (pc + len) ls (.inr (.inl z) :: st) L g
    | .aconst_null => go (pc + len) ls (.inr (.inr (.inr (.inr (.inl 0)))) :: st) L g
    | .iload_n k => jv_ld bad go k.val (pc + len) 0 ls st L g
    | .iload k => jv_ld bad go k (pc + len) 0 ls st L g
    | .lload_n k => jv_ld bad go k.val (pc + len) 1 ls st L g
    | .lload k => jv_ld bad go k (pc + len) 1 ls st L g
    | .aload_n k => jv_ld bad go k.val (pc + len) 2 ls st L g
    | .aload k => jv_ld bad go k (pc + len) 2 ls st L g
    | .istore_n k => jv_so bad go k.val (pc + len) 0 ls st L g
    | .istore k => jv_so bad go k (pc + len) 0 ls st L g
    | .lstore_n k => jv_so bad go k.val (pc + len) 1 ls st L g
    | .lstore k => jv_so bad go k (pc + len) 1 ls st L g
    | .astore_n k => jv_so bad go k.val (pc + len) 2 ls st L g
    | .astore k => jv_so bad go k (pc + len) 2 ls st L g
    | .iinc k c => match ls[k]? with
      | some (.inl x) => a32 (x + c) (fun v => go (pc + len) (jv_s1 ls k (.inl v)) st L g)
      | _ => bad
    | .iadd => match st with
      | .inl b :: .inl a :: st => a32 (a + b) (fun v => go (pc + len) ls (.inl v :: st) L g)
      | _ => bad
    | .isub => match st with
      | .inl b :: .inl a :: st => a32 (a - b) (fun v => go (pc + len) ls (.inl v :: st) L g)
      | _ => bad
    | .imul => match st with
      | .inl b :: .inl a :: st => a32 (a * b) (fun v => go (pc + len) ls (.inl v :: st) L g)
      | _ => bad
    | .ineg => match st with
      | .inl a :: st => a32 (- a) (fun v => go (pc + len) ls (.inl v :: st) L g)
      | _ => bad
    | .idiv => match st with
      | .inl b :: .inl a :: st => ck (0 ≤ a ∧ 0 < b) inferInstance (go (pc + len) ls (.inl (a / b) :: st) L g)
      | _ => bad
    | .irem => match st with
      | .inl b :: .inl a :: st => ck (0 ≤ a ∧ 0 < b) inferInstance (go (pc + len) ls (.inl (a % b) :: st) L g)
      | _ => bad
    | .iand => match st with
      | .inl b :: .inl a :: st => go (pc + len) ls (.inl (jv_and a b) :: st) L g
      | _ => bad
    | .ior => match st with
      | .inl b :: .inl a :: st => go (pc + len) ls (.inl (jv_or a b) :: st) L g
      | _ => bad
    | .ixor => match st with
      | .inl b :: .inl a :: st => go (pc + len) ls (.inl (jv_xor a b) :: st) L g
      | _ => bad
    | .ishl => match st with
      | .inl b :: .inl a :: st => go (pc + len) ls (.inl (jv_shl a b) :: st) L g
      | _ => bad
    | .ishr => match st with
      | .inl b :: .inl a :: st => go (pc + len) ls (.inl (jv_shr a b) :: st) L g
      | _ => bad
    | .iushr => match st with
      | .inl b :: .inl a :: st => go (pc + len) ls (.inl (jv_ushr a b) :: st) L g
      | _ => bad
    | .i2b => match st with
      | .inl a :: st => go (pc + len) ls (.inl (jv_i2b a) :: st) L g
      | _ => bad
    | .i2s => match st with
      | .inl a :: st => go (pc + len) ls (.inl (jv_i2s a) :: st) L g
      | _ => bad
    | .i2l => match st with
      | .inl a :: st => go (pc + len) ls (.inr (.inl a) :: st) L g
      | _ => bad
    | .ladd => match st with
      | .inr (.inl b) :: .inr (.inl a) :: st => a64 (a + b) (fun v => go (pc + len) ls (.inr (.inl v) :: st) L g)
      | _ => bad
    | .lmul => match st with
      | .inr (.inl b) :: .inr (.inl a) :: st => a64 (a * b) (fun v => go (pc + len) ls (.inr (.inl v) :: st) L g)
      | _ => bad
    | .lneg => match st with
      | .inr (.inl a) :: st => a64 (- a) (fun v => go (pc + len) ls (.inr (.inl v) :: st) L g)
      | _ => bad
    | .ldiv => match st with
      | .inr (.inl b) :: .inr (.inl a) :: st => ck (0 ≤ a ∧ 0 < b) inferInstance (go (pc + len) ls (.inr (.inl (a / b)) :: st) L g)
      | _ => bad
    | .lrem => match st with
      | .inr (.inl b) :: .inr (.inl a) :: st => ck (0 ≤ a ∧ 0 < b) inferInstance (go (pc + len) ls (.inr (.inl (a % b)) :: st) L g)
      | _ => bad
    | .lcmp => match st with
      | .inr (.inl b) :: .inr (.inl a) :: st => go (pc + len) ls (.inl (jv_cmp a b) :: st) L g
      | _ => bad
    | .dup => match st with
      | .inr (.inl _) :: _ => bad
      | x :: st => go (pc + len) ls (x :: x :: st) L g
      | _ => bad
    | .dup2 => match st with
      | .inl i :: x :: st => match x with
        | .inr (.inl _) => bad
        | x => go (pc + len) ls (.inl i :: x :: .inl i :: x :: st) L g
      | _ => bad
    | .goto _ => match r with
      | [t] => go t ls st L g
      | _ => bad
    | .ifCond cnd _ => match st, r with
      | .inl a :: st, [t] => jv_b2 br cnd a 0 (go t ls st L g) (go (pc + len) ls st L g)
      | _, _ => bad
    | .if_icmp cnd _ => match st, r with
      | .inl b :: .inl a :: st, [t] => jv_b2 br cnd a b (go t ls st L g) (go (pc + len) ls st L g)
      | _, _ => bad
    | .ifnull _ => match st, r with
      | .inr (.inr (.inr (.inr (.inl q)))) :: st, [t] => br (q = 0) inferInstance (go t ls st L g) (go (pc + len) ls st L g)
      | _, _ => bad
    | .ifnonnull _ => match st, r with
      | .inr (.inr (.inr (.inr (.inl q)))) :: st, [t] => br (q = 0) inferInstance (go (pc + len) ls st L g) (go t ls st L g)
      | _, _ => bad
    | .tableswitch _ lo _ _ => match st, r with
      | .inl x :: st, d :: ts => jv_sw br x (fun t => go t ls st L g) d lo ts
      | _, _ => bad
    | .lookupswitch _ ps => match st, r with
      | .inl x :: st, d :: ts => jv_lw br x (fun t => go t ls st L g) d ps.toList ts
      | _, _ => bad
    | .getfield _ => match r with
      | [kd, k, ty] => jv_gf ck bad go (pc + len) kd k ty ls st L g
      | _ => bad
    | .putfield _ => match r with
      | [kd, k, ty] => jv_pf ck bad go (pc + len) kd k ty ls st L g
      | _ => bad
    | .iaload => jv_ar ck bad go (pc + len) 0 ls st L g
    | .laload => jv_ar ck bad go (pc + len) 1 ls st L g
    | .aaload => jv_ar ck bad go (pc + len) 2 ls st L g
    | .iastore => jv_ar ck bad go (pc + len) 3 ls st L g
    | .lastore => jv_ar ck bad go (pc + len) 4 ls st L g
    | .aastore => jv_ar ck bad go (pc + len) 5 ls st L g
    | .arraylength => match st with
      | x :: st => jv_sz bad x L (fun n => go (pc + len) ls (.inl (Int.ofNat n) :: st) L g)
      | _ => bad
    | .invokevirtual _ | .invokespecial _ | .invokestatic _ => jv_in ck bad go call (pc + len) r ls st L g
    | .new _ => jv_nw ck bad go (pc + len) r ls st L g
    | .newarray .int => jv_na ck bad go (pc + len) 0 ls st L g
    | .newarray .long => jv_na ck bad go (pc + len) 1 ls st L g
    | .anewarray _ => jv_na ck bad go (pc + len) 3 ls st L g
    | .multianewarray _ _ => jv_mn ck bad go (pc + len) ls st L g
    | .ireturn => match st, r with
      | [.inl x], [0] => ret (.inl x) L g
      | [.inl x], [1] => ck (x = 0 ∨ x = 1) inferInstance (ret (.inl x) L g)
      | _, _ => bad
    | .lreturn => match st with
      | [.inr (.inl x)] => ret (.inr (.inl x)) L g
      | _ => bad
    | .areturn => match st with
      | [.inr (.inr (.inr (.inr (.inl x))))] => ret (.inr (.inr (.inr (.inr (.inl x))))) L g
      | _ => bad
    | .return_ => match st with
      | [] => ret jv_U L g
      | _ => bad
    | _ => bad
end
end
section
/-! ===== the machine's step as data, its run, and what is to be shown of it ===== -/
abbrev jv_C : Type := (c : Prop) × Decidable c
abbrev jv_Go : Type := Nat × List jv_V × List jv_V × jv_L × jv_S
abbrev jv_N : Type := (List (jv_C × jv_Go) × jv_Go) ⊕ (Int × (Int → jv_Go)) ⊕ (Int × (Int → jv_Go)) ⊕ (jv_V × jv_L × jv_S) ⊕ (Nat × List jv_V × List jv_V)
abbrev jv_X : Type := Option (List jv_C × jv_N)
def jv_un (x : jv_X) : jv_Go := match x with
  | some ([], .inl ([], go)) => go
  | _ => (0, [], [], [], fun _ _ => 0)
def jv_ckR (c : Prop) (d : Decidable c) (x : jv_X) : jv_X := match x with
  | some (cs, n) => some (⟨c, d⟩ :: cs, n)
  | none => none
def jv_brR (c : Prop) (d : Decidable c) (a b : jv_X) : jv_X := match a, b with
  | some ([], .inl ([], ga)), some ([], .inl (l, gb)) => some ([], .inl ((⟨c, d⟩, ga) :: l, gb))
  | _, _ => none
def jv_aR32 (z : Int) (f : Int → jv_X) : jv_X := some ([], .inr (.inl (z, fun v => jv_un (f v))))
def jv_aR64 (z : Int) (f : Int → jv_X) : jv_X := some ([], .inr (.inr (.inl (z, fun v => jv_un (f v)))))
def jv_goR (pc : Nat) (ls st : List jv_V) (L : jv_L) (g : jv_S) : jv_X := some ([], .inl ([], (pc, ls, st, L, g)))
def jv_reR (r : jv_V) (L : jv_L) (g : jv_S) : jv_X := some ([], .inr (.inr (.inr (.inl (r, L, g)))))
def jv_caR (k : Nat) (as rest : List jv_V) : jv_X := some ([], .inr (.inr (.inr (.inr (k, as, rest)))))
def jv_sx (e : jv_E) (ls st : List jv_V) (L : jv_L) (g : jv_S) : jv_X := jv_st jv_ckR jv_brR jv_aR32 jv_aR64 none jv_goR jv_reR jv_caR e ls st L g
def jv_fi : List jv_E → Nat → Option jv_E
  | [], _ => none
  | e :: t, pc => match Nat.beq e.1 pc with
    | true => some e
    | false => jv_fi t pc
def jv_ok : List jv_C → Bool
  | [] => true
  | c :: t => @ite _ c.1 c.2 (jv_ok t) false
def jv_dl {α : Type} (f : jv_Go → α) : List (jv_C × jv_Go) → jv_Go → α
  | [], d => f d
  | (c, a) :: t, d => @ite _ c.1 c.2 (f a) (jv_dl f t d)
def jv_cks : List jv_C → Prop → Prop
  | [], p => p
  | c :: t, p => c.1 ∧ jv_cks t p
def jv_dlP (f : jv_Go → Prop) : List (jv_C × jv_Go) → jv_Go → Prop
  | [], d => f d
  | (c, a) :: t, d => (c.1 → f a) ∧ (¬ c.1 → jv_dlP f t d)
section
variable (T : Nat → List jv_E) (ML : Nat → Nat)
def jv_nx (E : Nat → Nat → List jv_V → List jv_V → jv_L → jv_S → Option (jv_V × jv_L × jv_S)) (k pc : Nat) (ls : List jv_V) (L : jv_L) (g : jv_S) (nx : jv_N) : Option (jv_V × jv_L × jv_S) := match nx with
  | .inl (l, d) => jv_dl (fun q => E k q.1 q.2.1 q.2.2.1 q.2.2.2.1 q.2.2.2.2) l d
  | .inr (.inl (z, f)) => E k (f (jv_w32 z)).1 (f (jv_w32 z)).2.1 (f (jv_w32 z)).2.2.1 (f (jv_w32 z)).2.2.2.1 (f (jv_w32 z)).2.2.2.2
  | .inr (.inr (.inl (z, f))) => E k (f (jv_w64 z)).1 (f (jv_w64 z)).2.1 (f (jv_w64 z)).2.2.1 (f (jv_w64 z)).2.2.2.1 (f (jv_w64 z)).2.2.2.2
  | .inr (.inr (.inr (.inl r))) => some r
  | .inr (.inr (.inr (.inr (k', as, rest)))) => match Nat.ble (jv_fl as).length (ML k') with
    | false => none
    | true => match E k' 0 (jv_en (ML k') as) [] L g with
      | none => none
      | some (r, L', g') => E k (pc + 3) ls (jv_pu r rest) L' g'
def jv_ex : Nat → Nat → Nat → List jv_V → List jv_V → jv_L → jv_S → Option (jv_V × jv_L × jv_S)
  | 0, _, _, _, _, _, _ => none
  | n + 1, k, pc, ls, st, L, g => match jv_fi (T k) pc with
    | none => none
    | some e => match jv_sx e ls st L g with
      | none => none
      | some (cs, nx) => match jv_ok cs with
        | false => none
        | true => jv_nx ML (jv_ex n) k pc ls L g nx
/-- from here the method k comes to its end, with Q -/
def jv_At (k pc : Nat) (ls st : List jv_V) (L : jv_L) (g : jv_S) (Q : jv_V → jv_L → jv_S → Prop) : Prop := ∃ (n : Nat) (r : jv_V) (L' : jv_L) (g' : jv_S), jv_ex T ML n k pc ls st L g = some (r, L', g') ∧ Q r L' g'
/-- the call of method k comes to its end, with Q -/
def jv_Ca (k : Nat) (as : List jv_V) (L : jv_L) (g : jv_S) (Q : jv_V → jv_L → jv_S → Prop) : Prop := jv_At T ML k 0 (jv_en (ML k) as) [] L g Q
abbrev jv_G : Type := List (Nat × (List jv_V → jv_L → jv_S → Prop) × (List jv_V → jv_S → jv_V))
def jv_gf1 : jv_G → Nat → Option ((List jv_V → jv_L → jv_S → Prop) × (List jv_V → jv_S → jv_V))
  | [], _ => none
  | e :: t, k => match Nat.beq e.1 k with
    | true => some e.2
    | false => jv_gf1 t k
/-- what is to be shown, from pc on up to the stops -/
def jv_wp (G : jv_G) (md stop : List Nat) (k : Nat) (tab : List jv_E) (Q : jv_V → jv_L → jv_S → Prop) : Nat → Nat → List jv_V → List jv_V → jv_L → jv_S → Prop
  | 0, pc, ls, st, L, g => jv_At T ML k pc ls st L g Q
  | n + 1, pc, ls, st, L, g => match jv_fi tab pc with
    | none => False
    | some e => match jv_sx e ls st L g with
      | none => False
      | some (cs, nx) => jv_cks cs (match nx with
          | .inl (l, d) => jv_dlP (fun q => match stop.contains q.1 with
            | true => jv_At T ML k q.1 q.2.1 q.2.2.1 q.2.2.2.1 q.2.2.2.2 Q
            | false => jv_wp G md stop k tab Q n q.1 q.2.1 q.2.2.1 q.2.2.2.1 q.2.2.2.2) l d
          | .inr (.inl (z, f)) => match md.contains pc with
            | true => (match stop.contains (f (jv_w32 z)).1 with
              | true => jv_At T ML k (f (jv_w32 z)).1 (f (jv_w32 z)).2.1 (f (jv_w32 z)).2.2.1 (f (jv_w32 z)).2.2.2.1 (f (jv_w32 z)).2.2.2.2 Q
              | false => jv_wp G md stop k tab Q n (f (jv_w32 z)).1 (f (jv_w32 z)).2.1 (f (jv_w32 z)).2.2.1 (f (jv_w32 z)).2.2.2.1 (f (jv_w32 z)).2.2.2.2)
            | false => jv_r32 z ∧ (match stop.contains (f (z)).1 with
              | true => jv_At T ML k (f (z)).1 (f (z)).2.1 (f (z)).2.2.1 (f (z)).2.2.2.1 (f (z)).2.2.2.2 Q
              | false => jv_wp G md stop k tab Q n (f (z)).1 (f (z)).2.1 (f (z)).2.2.1 (f (z)).2.2.2.1 (f (z)).2.2.2.2)
          | .inr (.inr (.inl (z, f))) => match md.contains pc with
            | true => (match stop.contains (f (jv_w64 z)).1 with
              | true => jv_At T ML k (f (jv_w64 z)).1 (f (jv_w64 z)).2.1 (f (jv_w64 z)).2.2.1 (f (jv_w64 z)).2.2.2.1 (f (jv_w64 z)).2.2.2.2 Q
              | false => jv_wp G md stop k tab Q n (f (jv_w64 z)).1 (f (jv_w64 z)).2.1 (f (jv_w64 z)).2.2.1 (f (jv_w64 z)).2.2.2.1 (f (jv_w64 z)).2.2.2.2)
            | false => jv_r64 z ∧ (match stop.contains (f (z)).1 with
              | true => jv_At T ML k (f (z)).1 (f (z)).2.1 (f (z)).2.2.1 (f (z)).2.2.2.1 (f (z)).2.2.2.2 Q
              | false => jv_wp G md stop k tab Q n (f (z)).1 (f (z)).2.1 (f (z)).2.2.1 (f (z)).2.2.2.1 (f (z)).2.2.2.2)
          | .inr (.inr (.inr (.inl (r, L', g')))) => Q r L' g'
          | .inr (.inr (.inr (.inr (k', as, rest)))) => match Nat.ble (jv_fl as).length (ML k') with
           | false => False
           | true => match jv_gf1 G k' with
            | some (pre, res) => pre as L g ∧ (match stop.contains (pc + 3) with
              | true => jv_At T ML k (pc + 3) ls (jv_pu (res as g) rest) L g Q
              | false => jv_wp G md stop k tab Q n (pc + 3) ls (jv_pu (res as g) rest) L g)
            | none => jv_Ca T ML k' as L g (fun r L' g' => jv_At T ML k (pc + 3) ls (jv_pu r rest) L' g' Q))
end
section
variable {T : Nat → List jv_E} {ML : Nat → Nat}
theorem jv_dl_some {α : Type} {f f' : jv_Go → Option α} {x : α} (h : ∀ q, f q = some x → f' q = some x) : ∀ (l : List (jv_C × jv_Go)) (d : jv_Go), jv_dl f l d = some x → jv_dl f' l d = some x
  | [], d, hd => h d hd
  | (c, a) :: t, d, hd => by
    obtain ⟨c, dc⟩ := c
    unfold jv_dl at hd ⊢
    by_cases hc : c
    · rw [if_pos hc] at hd ⊢
      exact h a hd
    · rw [if_neg hc] at hd ⊢
      exact jv_dl_some h t d hd
theorem jv_ex_mono : ∀ (n : Nat) (k pc : Nat) (ls st : List jv_V) (L : jv_L) (g : jv_S) (x : jv_V × jv_L × jv_S), jv_ex T ML n k pc ls st L g = some x → jv_ex T ML (n + 1) k pc ls st L g = some x := by
  intro n
  induction n with
  | zero => intro k pc ls st L g x h; cases h
  | succ n ih =>
    intro k pc ls st L g x h
    rw [jv_ex] at h ⊢
    cases he : jv_fi (T k) pc with
    | none => rw [he] at h; cases h
    | some e =>
      rw [he] at h
      dsimp only at h ⊢
      cases hs : jv_sx e ls st L g with
      | none => rw [hs] at h; cases h
      | some y =>
        obtain ⟨cs, nx⟩ := y
        rw [hs] at h
        dsimp only at h ⊢
        cases hk : jv_ok cs with
        | false => rw [hk] at h; cases h
        | true =>
          rw [hk] at h
          dsimp only at h ⊢
          rcases nx with ⟨l, d⟩ | ⟨z, f⟩ | ⟨z, f⟩ | r | ⟨k', as, rest⟩ <;> unfold jv_nx at h ⊢
          · exact jv_dl_some (fun q hq => ih _ _ _ _ _ _ _ hq) l d h
          · exact ih _ _ _ _ _ _ _ h
          · exact ih _ _ _ _ _ _ _ h
          · exact h
          · dsimp only at h ⊢
            cases hb : Nat.ble (jv_fl as).length (ML k') with
            | false => rw [hb] at h; cases h
            | true =>
              rw [hb] at h
              dsimp only at h ⊢
              cases hc : jv_ex T ML n k' 0 (jv_en (ML k') as) [] L g with
              | none => rw [hc] at h; cases h
              | some w =>
                obtain ⟨r, L', g'⟩ := w
                rw [hc] at h
                rw [ih _ _ _ _ _ _ _ hc]
                exact ih _ _ _ _ _ _ _ h
theorem jv_ex_le {n m : Nat} (hm : n ≤ m) {k pc : Nat} {ls st : List jv_V} {L : jv_L} {g : jv_S} {x : jv_V × jv_L × jv_S} (h : jv_ex T ML n k pc ls st L g = some x) : jv_ex T ML m k pc ls st L g = some x := by
  induction hm with
  | refl => exact h
  | step _ ih => exact jv_ex_mono _ _ _ _ _ _ _ _ ih
theorem jv_At.mono {k pc : Nat} {ls st : List jv_V} {L : jv_L} {g : jv_S} {Q Q' : jv_V → jv_L → jv_S → Prop} (h : jv_At T ML k pc ls st L g Q) (hq : ∀ r L' g', Q r L' g' → Q' r L' g') : jv_At T ML k pc ls st L g Q' := by
  obtain ⟨n, r, L', g', h1, h2⟩ := h
  exact ⟨n, r, L', g', h1, hq _ _ _ h2⟩
theorem jv_cks_ok : ∀ (cs : List jv_C) {p : Prop}, jv_cks cs p → jv_ok cs = true ∧ p
  | [], _, h => ⟨rfl, h⟩
  | c :: t, _, h => by
    obtain ⟨h1, h2⟩ := h
    obtain ⟨h3, h4⟩ := jv_cks_ok t h2
    refine ⟨?_, h4⟩
    unfold jv_ok
    rw [if_pos h1]
    exact h3
theorem jv_dlP_dl {α : Type} {F : jv_Go → Prop} {f : jv_Go → Option α} {x : Nat → jv_Go → Option α} {Qx : α → Prop} (h : ∀ q, F q → ∃ n y, x n q = some y ∧ Qx y) : ∀ (l : List (jv_C × jv_Go)) (d : jv_Go), jv_dlP F l d → ∃ n y, jv_dl (x n) l d = some y ∧ Qx y
  | [], d, hd => h d hd
  | (c, a) :: t, d, hd => by
    obtain ⟨c, dc⟩ := c
    obtain ⟨h1, h2⟩ := hd
    by_cases hc : c
    · obtain ⟨n, y, e1, e2⟩ := h a (h1 hc)
      refine ⟨n, y, ?_, e2⟩
      unfold jv_dl
      rw [if_pos hc]
      exact e1
    · obtain ⟨n, y, e1, e2⟩ := jv_dlP_dl (f := f) h t d (h2 hc)
      refine ⟨n, y, ?_, e2⟩
      unfold jv_dl
      rw [if_neg hc]
      exact e1
theorem jv_w32_eq {z : Int} (h : jv_r32 z) : jv_w32 z = z := by
  unfold jv_w32
  have h := h
  unfold jv_r32 at h
  rw [Int32.toInt_ofInt]
  rw [Int.bmod_eq_of_le] <;> (show _ ; simp [Int32.size] ; omega)
theorem jv_w64_eq {z : Int} (h : jv_r64 z) : jv_w64 z = z := by
  unfold jv_w64
  unfold jv_r64 at h
  rw [Int64.toInt_ofInt]
  rw [Int.bmod_eq_of_le] <;> (show _ ; simp [Int64.size] ; omega)
/-- what the pure calls of G answer is so -/
def jv_GOk (T : Nat → List jv_E) (ML : Nat → Nat) (G : jv_G) : Prop := ∀ (k : Nat) (pre : List jv_V → jv_L → jv_S → Prop) (res : List jv_V → jv_S → jv_V), jv_gf1 G k = some (pre, res) → ∀ (as : List jv_V) (L : jv_L) (g : jv_S), pre as L g → ∃ n, jv_ex T ML n k 0 (jv_en (ML k) as) [] L g = some (res as g, L, g)
theorem jv_of_wp {G : jv_G} (hG : jv_GOk T ML G) {md stop : List Nat} {k : Nat} {tab : List jv_E} (ht : T k = tab) {Q : jv_V → jv_L → jv_S → Prop} : ∀ (n pc : Nat) (ls st : List jv_V) (L : jv_L) (g : jv_S), jv_wp T ML G md stop k tab Q n pc ls st L g → jv_At T ML k pc ls st L g Q := by
  intro n
  induction n with
  | zero => intro pc ls st L g h; exact h
  | succ n ih =>
    intro pc ls st L g h
    rw [jv_wp] at h
    cases he : jv_fi tab pc with
    | none => rw [he] at h; exact h.elim
    | some e =>
      rw [he] at h
      dsimp only at h
      cases hs : jv_sx e ls st L g with
      | none => rw [hs] at h; exact h.elim
      | some y =>
        obtain ⟨cs, nx⟩ := y
        rw [hs] at h
        dsimp only at h
        obtain ⟨hok, h⟩ := jv_cks_ok cs h
        have key : (∃ (n : Nat) (y : jv_V × jv_L × jv_S), jv_nx ML (jv_ex T ML n) k pc ls L g nx = some y ∧ Q y.1 y.2.1 y.2.2) → jv_At T ML k pc ls st L g Q := by
          rintro ⟨n, ⟨r, L', g'⟩, e1, e2⟩
          refine ⟨n + 1, r, L', g', ?_, e2⟩
          rw [jv_ex, ht, he]
          dsimp only
          rw [hs]
          dsimp only
          rw [hok]
          exact e1
        have at_ : ∀ {pc : Nat} {ls st : List jv_V} {L : jv_L} {g : jv_S}, jv_At T ML k pc ls st L g Q → ∃ (n : Nat) (y : jv_V × jv_L × jv_S), jv_ex T ML n k pc ls st L g = some y ∧ Q y.1 y.2.1 y.2.2 := by
          rintro pc ls st L g ⟨n, r, L', g', e1, e2⟩
          exact ⟨n, (r, L', g'), e1, e2⟩
        apply key
        rcases nx with ⟨l, d⟩ | ⟨z, f⟩ | ⟨z, f⟩ | ⟨r, L', g'⟩ | ⟨k', as, rest⟩
        · refine jv_dlP_dl (F := _) (f := fun _ => none) (x := fun n q => jv_ex T ML n k q.1 q.2.1 q.2.2.1 q.2.2.2.1 q.2.2.2.2) (Qx := fun y => Q y.1 y.2.1 y.2.2) (fun q hq => ?_) l d h
          split at hq
          · exact at_ hq
          · exact at_ (ih _ _ _ _ _ hq)
        · unfold jv_nx
          dsimp only at h ⊢
          split at h
          · split at h
            · exact at_ h
            · exact at_ (ih _ _ _ _ _ h)
          · obtain ⟨hr, h⟩ := h
            rw [jv_w32_eq hr]
            split at h
            · exact at_ h
            · exact at_ (ih _ _ _ _ _ h)
        · unfold jv_nx
          dsimp only at h ⊢
          split at h
          · split at h
            · exact at_ h
            · exact at_ (ih _ _ _ _ _ h)
          · obtain ⟨hr, h⟩ := h
            rw [jv_w64_eq hr]
            split at h
            · exact at_ h
            · exact at_ (ih _ _ _ _ _ h)
        · exact ⟨0, (r, L', g'), rfl, h⟩
        · dsimp only at h
          cases hb : Nat.ble (jv_fl as).length (ML k') with
          | false => rw [hb] at h; exact h.elim
          | true =>
            rw [hb] at h
            dsimp only at h
            split at h
            · next pre res hg =>
              obtain ⟨hp, h⟩ := h
              obtain ⟨n1, e1⟩ := hG k' pre res hg as L g hp
              have h2 : jv_At T ML k (pc + 3) ls (jv_pu (res as g) rest) L g Q := by
                split at h
                · exact h
                · exact ih _ _ _ _ _ h
              obtain ⟨n2, y, e2, e3⟩ := at_ h2
              refine ⟨max n1 n2, y, ?_, e3⟩
              unfold jv_nx
              dsimp only
              rw [hb]
              dsimp only
              rw [jv_ex_le (Nat.le_max_left n1 n2) e1]
              exact jv_ex_le (Nat.le_max_right n1 n2) e2
            · obtain ⟨n1, r, L', g', e1, n2, r2, L2, g2, e2, e3⟩ := h
              refine ⟨max n1 n2, (r2, L2, g2), ?_, e3⟩
              unfold jv_nx
              dsimp only
              rw [hb]
              dsimp only
              rw [jv_ex_le (Nat.le_max_left n1 n2) e1]
              exact jv_ex_le (Nat.le_max_right n1 n2) e2
end
end
section
/-! ===== the methods as the small machine reads them (written by a program out of the claim's own listing) ===== -/
def jt_X_init_0 : List jv_E := [(0, .aload_n 0, 1, [], 0), (1, .invokespecial 3, 3, [1001], 0), (4, .aload_n 0, 1, [], 0), (5, .new 9, 3, [4, 3], 0), (8, .dup, 1, [], 0), (9, .invokespecial 11, 3, [1, 1, 15], 0), (12, .putfield 12, 3, [21, 0, 2], 0), (15, .aload_n 0, 1, [], 0), (16, .new 18, 3, [7, 6], 0), (19, .dup, 1, [], 0), (20, .invokespecial 20, 3, [2, 1, 18], 0), (23, .putfield 21, 3, [21, 1, 2], 0), (26, .aload_n 0, 1, [], 0), (27, .new 25, 3, [3, 9], 0), (30, .dup, 1, [], 0), (31, .invokespecial 27, 3, [3, 1, 14], 0), (34, .putfield 28, 3, [21, 2, 2], 0), (37, .aload_n 0, 1, [], 0), (38, .new 32, 3, [10, 6], 0), (41, .dup, 1, [], 0), (42, .aload_n 0, 1, [], 0), (43, .getfield 28, 3, [21, 2, 2], 0), (46, .invokespecial 34, 3, [4, 2, 21], 0), (49, .putfield 37, 3, [21, 3, 2], 0), (52, .aload_n 0, 1, [], 0), (53, .new 41, 3, [9, 11], 0), (56, .dup, 1, [], 0), (57, .aload_n 0, 1, [], 0), (58, .getfield 28, 3, [21, 2, 2], 0), (61, .aload_n 0, 1, [], 0), (62, .getfield 37, 3, [21, 3, 2], 0), (65, .invokespecial 43, 3, [5, 3, 20], 0), (68, .putfield 46, 3, [21, 4, 2], 0), (71, .aload_n 0, 1, [], 0), (72, .new 50, 3, [6, 8], 0), (75, .dup, 1, [], 0), (76, .aload_n 0, 1, [], 0), (77, .getfield 28, 3, [21, 2, 2], 0), (80, .aload_n 0, 1, [], 0), (81, .getfield 37, 3, [21, 3, 2], 0), (84, .aload_n 0, 1, [], 0), (85, .getfield 46, 3, [21, 4, 2], 0), (88, .invokespecial 52, 3, [6, 4, 17], 0), (91, .putfield 55, 3, [21, 5, 2], 0), (94, .aload_n 0, 1, [], 0), (95, .new 59, 3, [5, 13], 0), (98, .dup, 1, [], 0), (99, .aload_n 0, 1, [], 0), (100, .getfield 28, 3, [21, 2, 2], 0), (103, .aload_n 0, 1, [], 0), (104, .getfield 37, 3, [21, 3, 2], 0), (107, .invokespecial 61, 3, [7, 3, 16], 0), (110, .putfield 62, 3, [21, 6, 2], 0), (113, .aload_n 0, 1, [], 0), (114, .new 66, 3, [8, 7], 0), (117, .dup, 1, [], 0), (118, .aload_n 0, 1, [], 0), (119, .getfield 28, 3, [21, 2, 2], 0), (122, .aload_n 0, 1, [], 0), (123, .getfield 37, 3, [21, 3, 2], 0)]
def jt_X_init_1 : List jv_E := [(126, .invokespecial 68, 3, [8, 3, 19], 0), (129, .putfield 69, 3, [21, 7, 2], 0), (132, .aload_n 0, 1, [], 0), (133, .new 73, 3, [2, 9], 0), (136, .dup, 1, [], 0), (137, .aload_n 0, 1, [], 0), (138, .getfield 28, 3, [21, 2, 2], 0), (141, .aload_n 0, 1, [], 0), (142, .getfield 37, 3, [21, 3, 2], 0), (145, .aload_n 0, 1, [], 0), (146, .getfield 46, 3, [21, 4, 2], 0), (149, .invokespecial 75, 3, [9, 4, 13], 0), (152, .putfield 76, 3, [21, 8, 2], 0), (155, .aload_n 0, 1, [], 0), (156, .new 80, 3, [0, 8], 0), (159, .dup, 1, [], 0), (160, .aload_n 0, 1, [], 0), (161, .getfield 28, 3, [21, 2, 2], 0), (164, .aload_n 0, 1, [], 0), (165, .getfield 37, 3, [21, 3, 2], 0), (168, .aload_n 0, 1, [], 0), (169, .getfield 46, 3, [21, 4, 2], 0), (172, .invokespecial 82, 3, [10, 4, 11], 0), (175, .putfield 83, 3, [21, 9, 2], 0), (178, .return_, 1, [], 0)]
def jt_X_init : List jv_E := jt_X_init_0 ++ (jt_X_init_1)
abbrev kX_init : Nat := 0
def jt_Sh_init : List jv_E := [(0, .aload_n 0, 1, [], 0), (1, .invokespecial 1, 3, [1001], 0), (4, .aload_n 0, 1, [], 0), (5, .iconst 4, 1, [], 4), (6, .bipush 60, 2, [], 60), (8, .multianewarray 9 2, 4, [], 0), (12, .putfield 11, 3, [14, 0, 2], 0), (15, .aload_n 0, 1, [], 0), (16, .iconst 4, 1, [], 4), (17, .newarray .int, 2, [], 0), (19, .putfield 14, 3, [14, 1, 2], 0), (22, .aload_n 0, 1, [], 0), (23, .iconst 4, 1, [], 4), (24, .newarray .int, 2, [], 0), (26, .dup, 1, [], 0), (27, .iconst 0, 1, [], 0), (28, .iconst (-1), 1, [], (-1)), (29, .iastore, 1, [], 0), (30, .dup, 1, [], 0), (31, .iconst 1, 1, [], 1), (32, .iconst (-1), 1, [], (-1)), (33, .iastore, 1, [], 0), (34, .dup, 1, [], 0), (35, .iconst 2, 1, [], 2), (36, .iconst (-1), 1, [], (-1)), (37, .iastore, 1, [], 0), (38, .dup, 1, [], 0), (39, .iconst 3, 1, [], 3), (40, .iconst (-1), 1, [], (-1)), (41, .iastore, 1, [], 0), (42, .putfield 18, 3, [14, 2, 2], 0), (45, .return_, 1, [], 0)]
abbrev kSh_init : Nat := 1
def jt_Tx_init : List jv_E := [(0, .aload_n 0, 1, [], 0), (1, .invokespecial 3, 3, [1001], 0), (4, .aload_n 0, 1, [], 0), (5, .bipush 10, 2, [], 10), (7, .newarray .int, 2, [], 0), (9, .putfield 9, 3, [17, 0, 2], 0), (12, .aload_n 0, 1, [], 0), (13, .bipush 10, 2, [], 10), (15, .newarray .int, 2, [], 0), (17, .putfield 15, 3, [17, 1, 2], 0), (20, .aload_n 0, 1, [], 0), (21, .bipush 10, 2, [], 10), (23, .newarray .int, 2, [], 0), (25, .putfield 18, 3, [17, 2, 2], 0), (28, .return_, 1, [], 0)]
abbrev kTx_init : Nat := 2
def jt_N_init : List jv_E := [(0, .aload_n 0, 1, [], 0), (1, .invokespecial 3, 3, [1001], 0), (4, .aload_n 0, 1, [], 0), (5, .bipush 10, 2, [], 10), (7, .newarray .int, 2, [], 0), (9, .putfield 9, 3, [13, 2, 2], 0), (12, .aload_n 0, 1, [], 0), (13, .bipush 10, 2, [], 10), (15, .newarray .int, 2, [], 0), (17, .putfield 15, 3, [13, 3, 2], 0), (20, .aload_n 0, 1, [], 0), (21, .bipush 10, 2, [], 10), (23, .newarray .int, 2, [], 0), (25, .putfield 18, 3, [13, 4, 2], 0), (28, .aload_n 0, 1, [], 0), (29, .bipush 6, 2, [], 6), (31, .bipush 6, 2, [], 6), (33, .multianewarray 21 2, 4, [], 0), (37, .putfield 23, 3, [13, 5, 2], 0), (40, .aload_n 0, 1, [], 0), (41, .bipush 6, 2, [], 6), (43, .bipush 6, 2, [], 6), (45, .multianewarray 21 2, 4, [], 0), (49, .putfield 26, 3, [13, 6, 2], 0), (52, .aload_n 0, 1, [], 0), (53, .bipush 6, 2, [], 6), (55, .bipush 6, 2, [], 6), (57, .multianewarray 21 2, 4, [], 0), (61, .putfield 29, 3, [13, 7, 2], 0), (64, .aload_n 0, 1, [], 0), (65, .bipush 6, 2, [], 6), (67, .newarray .int, 2, [], 0), (69, .putfield 32, 3, [13, 8, 2], 0), (72, .return_, 1, [], 0)]
abbrev kN_init : Nat := 3
def jt_Wy_init : List jv_E := [(0, .aload_n 0, 1, [], 0), (1, .invokespecial 3, 3, [1001], 0), (4, .aload_n 0, 1, [], 0), (5, .bipush 10, 2, [], 10), (7, .newarray .int, 2, [], 0), (9, .putfield 9, 3, [20, 1, 2], 0), (12, .aload_n 0, 1, [], 0), (13, .bipush 6, 2, [], 6), (15, .bipush 6, 2, [], 6), (17, .multianewarray 15 2, 4, [], 0), (21, .putfield 17, 3, [20, 2, 2], 0), (24, .aload_n 0, 1, [], 0), (25, .bipush 10, 2, [], 10), (27, .bipush 6, 2, [], 6), (29, .multianewarray 15 2, 4, [], 0), (33, .putfield 20, 3, [20, 3, 2], 0), (36, .aload_n 0, 1, [], 0), (37, .aload_n 1, 1, [], 0), (38, .putfield 23, 3, [20, 0, 2], 0), (41, .return_, 1, [], 0)]
abbrev kWy_init : Nat := 4
def jt_Wa_init : List jv_E := [(0, .aload_n 0, 1, [], 0), (1, .invokespecial 3, 3, [1001], 0), (4, .aload_n 0, 1, [], 0), (5, .bipush 6, 2, [], 6), (7, .newarray .int, 2, [], 0), (9, .putfield 9, 3, [19, 2, 2], 0), (12, .aload_n 0, 1, [], 0), (13, .bipush 10, 2, [], 10), (15, .newarray .int, 2, [], 0), (17, .putfield 15, 3, [19, 3, 2], 0), (20, .aload_n 0, 1, [], 0), (21, .bipush 10, 2, [], 10), (23, .newarray .int, 2, [], 0), (25, .putfield 18, 3, [19, 4, 2], 0), (28, .aload_n 0, 1, [], 0), (29, .bipush 10, 2, [], 10), (31, .newarray .int, 2, [], 0), (33, .putfield 21, 3, [19, 5, 2], 0), (36, .aload_n 0, 1, [], 0), (37, .bipush 10, 2, [], 10), (39, .newarray .int, 2, [], 0), (41, .putfield 24, 3, [19, 6, 2], 0), (44, .aload_n 0, 1, [], 0), (45, .bipush 10, 2, [], 10), (47, .newarray .int, 2, [], 0), (49, .putfield 27, 3, [19, 7, 2], 0), (52, .aload_n 0, 1, [], 0), (53, .iconst (-1), 1, [], (-1)), (54, .putfield 30, 3, [19, 10, 0], 0), (57, .aload_n 0, 1, [], 0), (58, .aload_n 1, 1, [], 0), (59, .putfield 34, 3, [19, 0, 2], 0), (62, .aload_n 0, 1, [], 0), (63, .aload_n 2, 1, [], 0), (64, .putfield 38, 3, [19, 1, 2], 0), (67, .return_, 1, [], 0)]
abbrev kWa_init : Nat := 5
def jt_Sl_init : List jv_E := [(0, .aload_n 0, 1, [], 0), (1, .invokespecial 3, 3, [1001], 0), (4, .aload_n 0, 1, [], 0), (5, .bipush 10, 2, [], 10), (7, .bipush 6, 2, [], 6), (9, .multianewarray 9 2, 4, [], 0), (13, .putfield 11, 3, [16, 3, 2], 0), (16, .aload_n 0, 1, [], 0), (17, .bipush 10, 2, [], 10), (19, .newarray .int, 2, [], 0), (21, .putfield 16, 3, [16, 4, 2], 0), (24, .aload_n 0, 1, [], 0), (25, .iconst (-1), 1, [], (-1)), (26, .putfield 20, 3, [16, 7, 0], 0), (29, .aload_n 0, 1, [], 0), (30, .aload_n 1, 1, [], 0), (31, .putfield 24, 3, [16, 0, 2], 0), (34, .aload_n 0, 1, [], 0), (35, .aload_n 2, 1, [], 0), (36, .putfield 28, 3, [16, 1, 2], 0), (39, .aload_n 0, 1, [], 0), (40, .aload_n 3, 1, [], 0), (41, .putfield 32, 3, [16, 2, 2], 0), (44, .return_, 1, [], 0)]
abbrev kSl_init : Nat := 6
def jt_Sa_init : List jv_E := [(0, .aload_n 0, 1, [], 0), (1, .invokespecial 5, 3, [1001], 0), (4, .aload_n 0, 1, [], 0), (5, .sipush 489, 3, [], 489), (8, .newarray .int, 2, [], 0), (10, .putfield 11, 3, [15, 2, 2], 0), (13, .aload_n 0, 1, [], 0), (14, .sipush 489, 3, [], 489), (17, .newarray .int, 2, [], 0), (19, .putfield 15, 3, [15, 3, 2], 0), (22, .aload_n 0, 1, [], 0), (23, .sipush 489, 3, [], 489), (26, .newarray .int, 2, [], 0), (28, .putfield 18, 3, [15, 4, 2], 0), (31, .aload_n 0, 1, [], 0), (32, .bipush 6, 2, [], 6), (34, .newarray .int, 2, [], 0), (36, .putfield 21, 3, [15, 5, 2], 0), (39, .aload_n 0, 1, [], 0), (40, .bipush 6, 2, [], 6), (42, .newarray .int, 2, [], 0), (44, .putfield 24, 3, [15, 6, 2], 0), (47, .aload_n 0, 1, [], 0), (48, .iconst 4, 1, [], 4), (49, .newarray .int, 2, [], 0), (51, .putfield 27, 3, [15, 7, 2], 0), (54, .aload_n 0, 1, [], 0), (55, .iconst (-1), 1, [], (-1)), (56, .putfield 30, 3, [15, 12, 0], 0), (59, .aload_n 0, 1, [], 0), (60, .aload_n 1, 1, [], 0), (61, .putfield 34, 3, [15, 0, 2], 0), (64, .aload_n 0, 1, [], 0), (65, .aload_n 2, 1, [], 0), (66, .putfield 38, 3, [15, 1, 2], 0), (69, .return_, 1, [], 0)]
abbrev kSa_init : Nat := 7
def jt_Tr_init : List jv_E := [(0, .aload_n 0, 1, [], 0), (1, .invokespecial 3, 3, [1001], 0), (4, .aload_n 0, 1, [], 0), (5, .bipush 30, 2, [], 30), (7, .anewarray 9, 3, [], 0), (10, .putfield 11, 3, [18, 2, 2], 0), (13, .aload_n 0, 1, [], 0), (14, .bipush 10, 2, [], 10), (16, .iconst 2, 1, [], 2), (17, .multianewarray 17 2, 4, [], 0), (21, .putfield 19, 3, [18, 3, 2], 0), (24, .aload_n 0, 1, [], 0), (25, .bipush 10, 2, [], 10), (27, .newarray .int, 2, [], 0), (29, .putfield 22, 3, [18, 4, 2], 0), (32, .aload_n 0, 1, [], 0), (33, .aload_n 1, 1, [], 0), (34, .putfield 26, 3, [18, 0, 2], 0), (37, .aload_n 0, 1, [], 0), (38, .aload_n 2, 1, [], 0), (39, .putfield 30, 3, [18, 1, 2], 0), (42, .return_, 1, [], 0)]
abbrev kTr_init : Nat := 8
def jt_M_init : List jv_E := [(0, .aload_n 0, 1, [], 0), (1, .invokespecial 3, 3, [1001], 0), (4, .aload_n 0, 1, [], 0), (5, .bipush 100, 2, [], 100), (7, .newarray .int, 2, [], 0), (9, .putfield 9, 3, [12, 5, 2], 0), (12, .aload_n 0, 1, [], 0), (13, .iconst 2, 1, [], 2), (14, .newarray .int, 2, [], 0), (16, .putfield 15, 3, [12, 6, 2], 0), (19, .aload_n 0, 1, [], 0), (20, .iconst (-1), 1, [], (-1)), (21, .putfield 18, 3, [12, 8, 0], 0), (24, .aload_n 0, 1, [], 0), (25, .aload_n 1, 1, [], 0), (26, .putfield 22, 3, [12, 0, 2], 0), (29, .aload_n 0, 1, [], 0), (30, .aload_n 2, 1, [], 0), (31, .putfield 26, 3, [12, 1, 2], 0), (34, .aload_n 0, 1, [], 0), (35, .aload_n 3, 1, [], 0), (36, .putfield 30, 3, [12, 2, 2], 0), (39, .aload_n 0, 1, [], 0), (40, .new 34, 3, [10, 6], 0), (43, .dup, 1, [], 0), (44, .aload_n 1, 1, [], 0), (45, .invokespecial 36, 3, [4, 2, 21], 0), (48, .putfield 39, 3, [12, 3, 2], 0), (51, .aload_n 0, 1, [], 0), (52, .new 42, 3, [9, 11], 0), (55, .dup, 1, [], 0), (56, .aload_n 1, 1, [], 0), (57, .aload_n 0, 1, [], 0), (58, .getfield 39, 3, [12, 3, 2], 0), (61, .invokespecial 44, 3, [5, 3, 20], 0), (64, .putfield 47, 3, [12, 4, 2], 0), (67, .return_, 1, [], 0)]
abbrev kM_init : Nat := 9
def jt_B_init : List jv_E := [(0, .aload_n 0, 1, [], 0), (1, .invokespecial 3, 3, [1001], 0), (4, .aload_n 0, 1, [], 0), (5, .bipush 10, 2, [], 10), (7, .newarray .long, 2, [], 0), (9, .putfield 9, 3, [10, 3, 2], 0), (12, .aload_n 0, 1, [], 0), (13, .bipush 10, 2, [], 10), (15, .newarray .long, 2, [], 0), (17, .putfield 15, 3, [10, 4, 2], 0), (20, .aload_n 0, 1, [], 0), (21, .bipush 10, 2, [], 10), (23, .newarray .long, 2, [], 0), (25, .putfield 18, 3, [10, 5, 2], 0), (28, .aload_n 0, 1, [], 0), (29, .bipush 10, 2, [], 10), (31, .newarray .long, 2, [], 0), (33, .putfield 21, 3, [10, 6, 2], 0), (36, .aload_n 0, 1, [], 0), (37, .iconst (-1), 1, [], (-1)), (38, .putfield 24, 3, [10, 7, 0], 0), (41, .aload_n 0, 1, [], 0), (42, .aload_n 1, 1, [], 0), (43, .putfield 28, 3, [10, 0, 2], 0), (46, .aload_n 0, 1, [], 0), (47, .aload_n 2, 1, [], 0), (48, .putfield 32, 3, [10, 1, 2], 0), (51, .aload_n 0, 1, [], 0), (52, .aload_n 3, 1, [], 0), (53, .putfield 36, 3, [10, 2, 2], 0), (56, .return_, 1, [], 0)]
abbrev kB_init : Nat := 10
def jt_X_net_0 : List jv_E := [(0, .aload_n 0, 1, [], 0), (1, .iconst 0, 1, [], 0), (2, .putfield 87, 3, [21, 11, 0], 0), (5, .aload_n 0, 1, [], 0), (6, .getfield 12, 3, [21, 0, 2], 0), (9, .iload_n 1, 1, [], 0), (10, .invokevirtual 91, 3, [12, 2, 15], 0), (13, .ifCond .ne 5, 3, [18], 0), (16, .iconst (-1), 1, [], (-1)), (17, .ireturn, 1, [0], 0), (18, .aload_n 0, 1, [], 0), (19, .getfield 12, 3, [21, 0, 2], 0), (22, .iload_n 2, 1, [], 0), (23, .invokevirtual 95, 3, [13, 2, 15], 0), (26, .ifCond .ne 6, 3, [32], 0), (29, .bipush (-2), 2, [], (-2)), (31, .ireturn, 1, [0], 0), (32, .aload_n 0, 1, [], 0), (33, .getfield 12, 3, [21, 0, 2], 0), (36, .iload_n 1, 1, [], 0), (37, .iload_n 2, 1, [], 0), (38, .invokevirtual 98, 3, [14, 3, 15], 0), (41, .ifCond .eq 9, 3, [50], 0), (44, .aload_n 0, 1, [], 0), (45, .iconst 2, 1, [], 2), (46, .invokevirtual 102, 3, [16, 2, 22], 0), (49, .ireturn, 1, [0], 0), (50, .aload_n 0, 1, [], 0), (51, .getfield 12, 3, [21, 0, 2], 0), (54, .iload_n 1, 1, [], 0), (55, .invokevirtual 106, 3, [15, 2, 15], 0), (58, .ifCond .ne 9, 3, [67], 0), (61, .aload_n 0, 1, [], 0), (62, .iconst 1, 1, [], 1), (63, .invokevirtual 102, 3, [16, 2, 22], 0), (66, .ireturn, 1, [0], 0), (67, .iload 4, 2, [], 0), (69, .ifCond .ge 9, 3, [78], 0), (72, .aload_n 0, 1, [], 0), (73, .iconst 4, 1, [], 4), (74, .invokevirtual 102, 3, [16, 2, 22], 0), (77, .ireturn, 1, [0], 0), (78, .aload_n 0, 1, [], 0), (79, .getfield 12, 3, [21, 0, 2], 0), (82, .iload_n 1, 1, [], 0), (83, .iload_n 3, 1, [], 0), (84, .iload 4, 2, [], 0), (86, .invokevirtual 109, 3, [17, 4, 15], 0), (89, .ifCond .ne 9, 3, [98], 0), (92, .aload_n 0, 1, [], 0), (93, .iconst 3, 1, [], 3), (94, .invokevirtual 102, 3, [16, 2, 22], 0), (97, .ireturn, 1, [0], 0), (98, .aload_n 0, 1, [], 0), (99, .getfield 21, 3, [21, 1, 2], 0), (102, .aload_n 0, 1, [], 0), (103, .getfield 12, 3, [21, 0, 2], 0), (106, .getfield 113, 3, [14, 0, 2], 0), (109, .iload_n 1, 1, [], 0), (110, .aaload, 1, [], 0)]
def jt_X_net_1 : List jv_E := [(111, .iload_n 3, 1, [], 0), (112, .iload 4, 2, [], 0), (114, .invokevirtual 117, 3, [18, 4, 18], 0), (117, .istore 5, 2, [], 0), (119, .iload 5, 2, [], 0), (121, .bipush (-9), 2, [], (-9)), (123, .if_icmp .eq 9, 3, [132], 0), (126, .bipush (-100), 2, [], (-100)), (128, .iload 5, 2, [], 0), (130, .isub, 1, [], 0), (131, .ireturn, 1, [0], 0), (132, .aload_n 0, 1, [], 0), (133, .getfield 28, 3, [21, 2, 2], 0), (136, .aload_n 0, 1, [], 0), (137, .getfield 21, 3, [21, 1, 2], 0), (140, .invokevirtual 121, 3, [26, 2, 14], 0), (143, .aload_n 0, 1, [], 0), (144, .getfield 37, 3, [21, 3, 2], 0), (147, .invokevirtual 125, 3, [29, 1, 21], 0), (150, .aload_n 0, 1, [], 0), (151, .getfield 69, 3, [21, 7, 2], 0), (154, .invokevirtual 128, 3, [34, 1, 19], 0), (157, .aload_n 0, 1, [], 0), (158, .getfield 28, 3, [21, 2, 2], 0), (161, .getfield 131, 3, [13, 1, 0], 0), (164, .ireturn, 1, [0], 0)]
def jt_X_net : List jv_E := jt_X_net_0 ++ (jt_X_net_1)
abbrev kX_net : Nat := 11
def jt_Sh_isSheet : List jv_E := [(0, .iload_n 1, 1, [], 0), (1, .ifCond .lt 12, 3, [13], 0), (4, .iload_n 1, 1, [], 0), (5, .iconst 4, 1, [], 4), (6, .if_icmp .ge 7, 3, [13], 0), (9, .iconst 1, 1, [], 1), (10, .goto 4, 3, [14], 0), (13, .iconst 0, 1, [], 0), (14, .ireturn, 1, [1], 0)]
abbrev kSh_isSheet : Nat := 12
def jt_Sh_isSort : List jv_E := [(0, .iload_n 1, 1, [], 0), (1, .ifCond .lt 12, 3, [13], 0), (4, .iload_n 1, 1, [], 0), (5, .iconst 2, 1, [], 2), (6, .if_icmp .gt 7, 3, [13], 0), (9, .iconst 1, 1, [], 1), (10, .goto 4, 3, [14], 0), (13, .iconst 0, 1, [], 0), (14, .ireturn, 1, [1], 0)]
abbrev kSh_isSort : Nat := 13
def jt_Sh_isOfAnother : List jv_E := [(0, .aload_n 0, 1, [], 0), (1, .iload_n 1, 1, [], 0), (2, .invokevirtual 21, 3, [15, 2, 15], 0), (5, .ifCond .eq 17, 3, [22], 0), (8, .aload_n 0, 1, [], 0), (9, .getfield 14, 3, [14, 1, 2], 0), (12, .iload_n 1, 1, [], 0), (13, .iaload, 1, [], 0), (14, .iload_n 2, 1, [], 0), (15, .if_icmp .eq 7, 3, [22], 0), (18, .iconst 1, 1, [], 1), (19, .goto 4, 3, [23], 0), (22, .iconst 0, 1, [], 0), (23, .ireturn, 1, [1], 0)]
abbrev kSh_isOfAnother : Nat := 14
def jt_Sh_hasRow : List jv_E := [(0, .aload_n 0, 1, [], 0), (1, .getfield 18, 3, [14, 2, 2], 0), (4, .iload_n 1, 1, [], 0), (5, .iaload, 1, [], 0), (6, .iconst (-1), 1, [], (-1)), (7, .if_icmp .eq 7, 3, [14], 0), (10, .iconst 1, 1, [], 1), (11, .goto 4, 3, [15], 0), (14, .iconst 0, 1, [], 0), (15, .ireturn, 1, [1], 0)]
abbrev kSh_hasRow : Nat := 15
def jt_X_fail : List jv_E := [(0, .aload_n 0, 1, [], 0), (1, .iload_n 1, 1, [], 0), (2, .putfield 87, 3, [21, 11, 0], 0), (5, .bipush (-10), 2, [], (-10)), (7, .iload_n 1, 1, [], 0), (8, .isub, 1, [], 0), (9, .ireturn, 1, [0], 0)]
abbrev kX_fail : Nat := 16
def jt_Sh_hasCells : List jv_E := [(0, .iload_n 3, 1, [], 0), (1, .ifCond .lt 33, 3, [34], 0), (4, .iload_n 2, 1, [], 0), (5, .ifCond .lt 29, 3, [34], 0), (8, .iload_n 2, 1, [], 0), (9, .aload_n 0, 1, [], 0), (10, .getfield 18, 3, [14, 2, 2], 0), (13, .iload_n 1, 1, [], 0), (14, .iaload, 1, [], 0), (15, .if_icmp .gt 19, 3, [34], 0), (18, .iload_n 3, 1, [], 0), (19, .aload_n 0, 1, [], 0), (20, .getfield 18, 3, [14, 2, 2], 0), (23, .iload_n 1, 1, [], 0), (24, .iaload, 1, [], 0), (25, .iload_n 2, 1, [], 0), (26, .isub, 1, [], 0), (27, .if_icmp .gt 7, 3, [34], 0), (30, .iconst 1, 1, [], 1), (31, .goto 4, 3, [35], 0), (34, .iconst 0, 1, [], 0), (35, .ireturn, 1, [1], 0)]
abbrev kSh_hasCells : Nat := 17
def jt_Tx_firstFault : List jv_E := [(0, .aload_n 0, 1, [], 0), (1, .iconst 0, 1, [], 0), (2, .putfield 21, 3, [17, 5, 0], 0), (5, .aload_n 0, 1, [], 0), (6, .iconst 0, 1, [], 0), (7, .putfield 25, 3, [17, 3, 0], 0), (10, .aload_n 0, 1, [], 0), (11, .iconst 0, 1, [], 0), (12, .putfield 28, 3, [17, 4, 0], 0), (15, .iconst 0, 1, [], 0), (16, .istore 4, 2, [], 0), (18, .iload 4, 2, [], 0), (20, .iload_n 3, 1, [], 0), (21, .if_icmp .ge 25, 3, [46], 0), (24, .aload_n 0, 1, [], 0), (25, .aload_n 1, 1, [], 0), (26, .iload_n 2, 1, [], 0), (27, .iload 4, 2, [], 0), (29, .iadd, 1, [], 0), (30, .iaload, 1, [], 0), (31, .invokevirtual 31, 3, [19, 2, 18], 0), (34, .ifCond .ne 6, 3, [40], 0), (37, .iload 4, 2, [], 0), (39, .ireturn, 1, [0], 0), (40, .iinc 4 1, 3, [], 0), (43, .goto (-25), 3, [18], 0), (46, .aload_n 0, 1, [], 0), (47, .getfield 21, 3, [17, 5, 0], 0), (50, .bipush 6, 2, [], 6), (52, .if_icmp .eq 12, 3, [64], 0), (55, .aload_n 0, 1, [], 0), (56, .getfield 21, 3, [17, 5, 0], 0), (59, .bipush 8, 2, [], 8), (61, .if_icmp .ne 8, 3, [69], 0), (64, .bipush (-9), 2, [], (-9)), (66, .goto 4, 3, [70], 0), (69, .iload_n 3, 1, [], 0), (70, .ireturn, 1, [0], 0)]
abbrev kTx_firstFault : Nat := 18
def jt_Tx_takes_0 : List jv_E := [(0, .aload_n 0, 1, [], 0), (1, .getfield 21, 3, [17, 5, 0], 0), (4, .tableswitch 140 0 7 #[48, 65, 140, 74, 83, 100, 109, 131], 48, [144, 52, 69, 144, 78, 87, 104, 113, 135], 0), (52, .aload_n 0, 1, [], 0), (53, .iload_n 1, 1, [], 0), (54, .bipush 110, 2, [], 110), (56, .if_icmp .ne 7, 3, [63], 0), (59, .iconst 1, 1, [], 1), (60, .goto 4, 3, [64], 0), (63, .iconst 0, 1, [], 0), (64, .iconst 1, 1, [], 1), (65, .invokevirtual 35, 3, [20, 3, 18], 0), (68, .ireturn, 1, [1], 0), (69, .aload_n 0, 1, [], 0), (70, .iload_n 1, 1, [], 0), (71, .bipush 48, 2, [], 48), (73, .isub, 1, [], 0), (74, .invokevirtual 39, 3, [21, 2, 18], 0), (77, .ireturn, 1, [1], 0), (78, .aload_n 0, 1, [], 0), (79, .iload_n 1, 1, [], 0), (80, .bipush 48, 2, [], 48), (82, .isub, 1, [], 0), (83, .invokevirtual 42, 3, [22, 2, 18], 0), (86, .ireturn, 1, [1], 0), (87, .aload_n 0, 1, [], 0), (88, .iload_n 1, 1, [], 0), (89, .bipush 62, 2, [], 62), (91, .if_icmp .ne 7, 3, [98], 0), (94, .iconst 1, 1, [], 1), (95, .goto 4, 3, [99], 0), (98, .iconst 0, 1, [], 0), (99, .iconst 5, 1, [], 5), (100, .invokevirtual 35, 3, [20, 3, 18], 0), (103, .ireturn, 1, [1], 0), (104, .aload_n 0, 1, [], 0), (105, .iload_n 1, 1, [], 0), (106, .bipush 48, 2, [], 48), (108, .isub, 1, [], 0), (109, .invokevirtual 45, 3, [23, 2, 18], 0), (112, .ireturn, 1, [1], 0), (113, .iload_n 1, 1, [], 0), (114, .bipush 42, 2, [], 42), (116, .if_icmp .ne 13, 3, [129], 0), (119, .aload_n 0, 1, [], 0), (120, .iconst 1, 1, [], 1), (121, .bipush 7, 2, [], 7), (123, .invokevirtual 35, 3, [20, 3, 18], 0), (126, .goto 8, 3, [134], 0), (129, .aload_n 0, 1, [], 0), (130, .iload_n 1, 1, [], 0), (131, .invokevirtual 48, 3, [24, 2, 18], 0), (134, .ireturn, 1, [1], 0), (135, .aload_n 0, 1, [], 0), (136, .iload_n 1, 1, [], 0), (137, .bipush 48, 2, [], 48), (139, .isub, 1, [], 0), (140, .invokevirtual 51, 3, [25, 2, 18], 0), (143, .ireturn, 1, [1], 0), (144, .aload_n 0, 1, [], 0)]
def jt_Tx_takes_1 : List jv_E := [(145, .iload_n 1, 1, [], 0), (146, .invokevirtual 48, 3, [24, 2, 18], 0), (149, .ireturn, 1, [1], 0)]
def jt_Tx_takes : List jv_E := jt_Tx_takes_0 ++ (jt_Tx_takes_1)
abbrev kTx_takes : Nat := 19
def jt_Tx_goesOn : List jv_E := [(0, .iload_n 1, 1, [], 0), (1, .ifCond .eq 8, 3, [9], 0), (4, .aload_n 0, 1, [], 0), (5, .iload_n 2, 1, [], 0), (6, .putfield 21, 3, [17, 5, 0], 0), (9, .iload_n 1, 1, [], 0), (10, .ireturn, 1, [1], 0)]
abbrev kTx_goesOn : Nat := 20
def jt_Tx_takesNodes : List jv_E := [(0, .aload_n 0, 1, [], 0), (1, .iload_n 1, 1, [], 0), (2, .putfield 25, 3, [17, 3, 0], 0), (5, .aload_n 0, 1, [], 0), (6, .iload_n 1, 1, [], 0), (7, .iconst 2, 1, [], 2), (8, .if_icmp .lt 13, 3, [21], 0), (11, .iload_n 1, 1, [], 0), (12, .bipush 6, 2, [], 6), (14, .if_icmp .gt 7, 3, [21], 0), (17, .iconst 1, 1, [], 1), (18, .goto 4, 3, [22], 0), (21, .iconst 0, 1, [], 0), (22, .iconst 2, 1, [], 2), (23, .invokevirtual 35, 3, [20, 3, 18], 0), (26, .ireturn, 1, [1], 0)]
abbrev kTx_takesNodes : Nat := 21
def jt_Tx_takesFrom : List jv_E := [(0, .aload_n 0, 1, [], 0), (1, .getfield 9, 3, [17, 0, 2], 0), (4, .aload_n 0, 1, [], 0), (5, .getfield 28, 3, [17, 4, 0], 0), (8, .iload_n 1, 1, [], 0), (9, .iastore, 1, [], 0), (10, .aload_n 0, 1, [], 0), (11, .iload_n 1, 1, [], 0), (12, .ifCond .lt 15, 3, [27], 0), (15, .iload_n 1, 1, [], 0), (16, .aload_n 0, 1, [], 0), (17, .getfield 25, 3, [17, 3, 0], 0), (20, .if_icmp .ge 7, 3, [27], 0), (23, .iconst 1, 1, [], 1), (24, .goto 4, 3, [28], 0), (27, .iconst 0, 1, [], 0), (28, .iconst 4, 1, [], 4), (29, .invokevirtual 35, 3, [20, 3, 18], 0), (32, .ireturn, 1, [1], 0)]
abbrev kTx_takesFrom : Nat := 22
def jt_Tx_takesTo : List jv_E := [(0, .iload_n 1, 1, [], 0), (1, .ifCond .lt 24, 3, [25], 0), (4, .iload_n 1, 1, [], 0), (5, .aload_n 0, 1, [], 0), (6, .getfield 25, 3, [17, 3, 0], 0), (9, .if_icmp .ge 16, 3, [25], 0), (12, .iload_n 1, 1, [], 0), (13, .aload_n 0, 1, [], 0), (14, .getfield 9, 3, [17, 0, 2], 0), (17, .aload_n 0, 1, [], 0), (18, .getfield 28, 3, [17, 4, 0], 0), (21, .iaload, 1, [], 0), (22, .if_icmp .ne 5, 3, [27], 0), (25, .iconst 0, 1, [], 0), (26, .ireturn, 1, [1], 0), (27, .aload_n 0, 1, [], 0), (28, .getfield 15, 3, [17, 1, 2], 0), (31, .aload_n 0, 1, [], 0), (32, .getfield 28, 3, [17, 4, 0], 0), (35, .iload_n 1, 1, [], 0), (36, .iastore, 1, [], 0), (37, .aload_n 0, 1, [], 0), (38, .getfield 18, 3, [17, 2, 2], 0), (41, .aload_n 0, 1, [], 0), (42, .getfield 28, 3, [17, 4, 0], 0), (45, .iconst 1, 1, [], 1), (46, .iastore, 1, [], 0), (47, .aload_n 0, 1, [], 0), (48, .dup, 1, [], 0), (49, .getfield 28, 3, [17, 4, 0], 0), (52, .iconst 1, 1, [], 1), (53, .iadd, 1, [], 0), (54, .putfield 28, 3, [17, 4, 0], 0), (57, .aload_n 0, 1, [], 0), (58, .iconst 1, 1, [], 1), (59, .bipush 6, 2, [], 6), (61, .invokevirtual 35, 3, [20, 3, 18], 0), (64, .ireturn, 1, [1], 0)]
abbrev kTx_takesTo : Nat := 23
def jt_Tx_opensLane : List jv_E := [(0, .aload_n 0, 1, [], 0), (1, .iload_n 1, 1, [], 0), (2, .bipush 59, 2, [], 59), (4, .if_icmp .ne 16, 3, [20], 0), (7, .aload_n 0, 1, [], 0), (8, .getfield 28, 3, [17, 4, 0], 0), (11, .bipush 10, 2, [], 10), (13, .if_icmp .ge 7, 3, [20], 0), (16, .iconst 1, 1, [], 1), (17, .goto 4, 3, [21], 0), (20, .iconst 0, 1, [], 0), (21, .iconst 3, 1, [], 3), (22, .invokevirtual 35, 3, [20, 3, 18], 0), (25, .ireturn, 1, [1], 0)]
abbrev kTx_opensLane : Nat := 24
def jt_Tx_takesCells : List jv_E := [(0, .iload_n 1, 1, [], 0), (1, .iconst 1, 1, [], 1), (2, .if_icmp .lt 8, 3, [10], 0), (5, .iload_n 1, 1, [], 0), (6, .iconst 2, 1, [], 2), (7, .if_icmp .le 5, 3, [12], 0), (10, .iconst 0, 1, [], 0), (11, .ireturn, 1, [1], 0), (12, .aload_n 0, 1, [], 0), (13, .getfield 18, 3, [17, 2, 2], 0), (16, .aload_n 0, 1, [], 0), (17, .getfield 28, 3, [17, 4, 0], 0), (20, .iconst 1, 1, [], 1), (21, .isub, 1, [], 0), (22, .iload_n 1, 1, [], 0), (23, .iastore, 1, [], 0), (24, .aload_n 0, 1, [], 0), (25, .iconst 1, 1, [], 1), (26, .bipush 8, 2, [], 8), (28, .invokevirtual 35, 3, [20, 3, 18], 0), (31, .ireturn, 1, [1], 0)]
abbrev kTx_takesCells : Nat := 25
def jt_N_build : List jv_E := [(0, .aload_n 0, 1, [], 0), (1, .aload_n 1, 1, [], 0), (2, .getfield 46, 3, [17, 3, 0], 0), (5, .putfield 35, 3, [13, 0, 0], 0), (8, .aload_n 0, 1, [], 0), (9, .aload_n 1, 1, [], 0), (10, .getfield 49, 3, [17, 4, 0], 0), (13, .putfield 43, 3, [13, 1, 0], 0), (16, .aload_n 1, 1, [], 0), (17, .getfield 50, 3, [17, 0, 2], 0), (20, .iconst 0, 1, [], 0), (21, .aload_n 0, 1, [], 0), (22, .getfield 9, 3, [13, 2, 2], 0), (25, .iconst 0, 1, [], 0), (26, .aload_n 0, 1, [], 0), (27, .getfield 43, 3, [13, 1, 0], 0), (30, .invokestatic 51, 3, [1000], 0), (33, .aload_n 1, 1, [], 0), (34, .getfield 57, 3, [17, 1, 2], 0), (37, .iconst 0, 1, [], 0), (38, .aload_n 0, 1, [], 0), (39, .getfield 15, 3, [13, 3, 2], 0), (42, .iconst 0, 1, [], 0), (43, .aload_n 0, 1, [], 0), (44, .getfield 43, 3, [13, 1, 0], 0), (47, .invokestatic 51, 3, [1000], 0), (50, .aload_n 1, 1, [], 0), (51, .getfield 58, 3, [17, 2, 2], 0), (54, .iconst 0, 1, [], 0), (55, .aload_n 0, 1, [], 0), (56, .getfield 18, 3, [13, 4, 2], 0), (59, .iconst 0, 1, [], 0), (60, .aload_n 0, 1, [], 0), (61, .getfield 43, 3, [13, 1, 0], 0), (64, .invokestatic 51, 3, [1000], 0), (67, .iconst 0, 1, [], 0), (68, .istore_n 2, 1, [], 0), (69, .iload_n 2, 1, [], 0), (70, .aload_n 0, 1, [], 0), (71, .getfield 35, 3, [13, 0, 0], 0), (74, .if_icmp .ge 19, 3, [93], 0), (77, .aload_n 0, 1, [], 0), (78, .iload_n 2, 1, [], 0), (79, .invokevirtual 59, 3, [27, 2, 14], 0), (82, .aload_n 0, 1, [], 0), (83, .iload_n 2, 1, [], 0), (84, .invokevirtual 63, 3, [28, 2, 14], 0), (87, .iinc 2 1, 3, [], 0), (90, .goto (-21), 3, [69], 0), (93, .return_, 1, [], 0)]
abbrev kN_build : Nat := 26
def jt_N_measure_0 : List jv_E := [(0, .iconst 0, 1, [], 0), (1, .istore_n 2, 1, [], 0), (2, .iload_n 2, 1, [], 0), (3, .aload_n 0, 1, [], 0), (4, .getfield 35, 3, [13, 0, 0], 0), (7, .if_icmp .ge 28, 3, [35], 0), (10, .aload_n 0, 1, [], 0), (11, .getfield 23, 3, [13, 5, 2], 0), (14, .iload_n 2, 1, [], 0), (15, .aaload, 1, [], 0), (16, .iload_n 1, 1, [], 0), (17, .iload_n 2, 1, [], 0), (18, .iload_n 1, 1, [], 0), (19, .if_icmp .ne 7, 3, [26], 0), (22, .iconst 0, 1, [], 0), (23, .goto 5, 3, [28], 0), (26, .bipush (-9), 2, [], (-9)), (28, .iastore, 1, [], 0), (29, .iinc 2 1, 3, [], 0), (32, .goto (-30), 3, [2], 0), (35, .iconst 1, 1, [], 1), (36, .istore_n 2, 1, [], 0), (37, .iload_n 2, 1, [], 0), (38, .aload_n 0, 1, [], 0), (39, .getfield 35, 3, [13, 0, 0], 0), (42, .if_icmp .ge 76, 3, [118], 0), (45, .iconst 0, 1, [], 0), (46, .istore_n 3, 1, [], 0), (47, .iload_n 3, 1, [], 0), (48, .aload_n 0, 1, [], 0), (49, .getfield 43, 3, [13, 1, 0], 0), (52, .if_icmp .ge 60, 3, [112], 0), (55, .aload_n 0, 1, [], 0), (56, .getfield 23, 3, [13, 5, 2], 0), (59, .aload_n 0, 1, [], 0), (60, .getfield 15, 3, [13, 3, 2], 0), (63, .iload_n 3, 1, [], 0), (64, .iaload, 1, [], 0), (65, .aaload, 1, [], 0), (66, .iload_n 1, 1, [], 0), (67, .iaload, 1, [], 0), (68, .iload_n 2, 1, [], 0), (69, .iconst 1, 1, [], 1), (70, .isub, 1, [], 0), (71, .if_icmp .ne 35, 3, [106], 0), (74, .aload_n 0, 1, [], 0), (75, .getfield 23, 3, [13, 5, 2], 0), (78, .aload_n 0, 1, [], 0), (79, .getfield 9, 3, [13, 2, 2], 0), (82, .iload_n 3, 1, [], 0), (83, .iaload, 1, [], 0), (84, .aaload, 1, [], 0), (85, .iload_n 1, 1, [], 0), (86, .iaload, 1, [], 0), (87, .bipush (-9), 2, [], (-9)), (89, .if_icmp .ne 17, 3, [106], 0), (92, .aload_n 0, 1, [], 0), (93, .getfield 23, 3, [13, 5, 2], 0), (96, .aload_n 0, 1, [], 0), (97, .getfield 9, 3, [13, 2, 2], 0)]
def jt_N_measure_1 : List jv_E := [(100, .iload_n 3, 1, [], 0), (101, .iaload, 1, [], 0), (102, .aaload, 1, [], 0), (103, .iload_n 1, 1, [], 0), (104, .iload_n 2, 1, [], 0), (105, .iastore, 1, [], 0), (106, .iinc 3 1, 3, [], 0), (109, .goto (-62), 3, [47], 0), (112, .iinc 2 1, 3, [], 0), (115, .goto (-78), 3, [37], 0), (118, .return_, 1, [], 0)]
def jt_N_measure : List jv_E := jt_N_measure_0 ++ (jt_N_measure_1)
abbrev kN_measure : Nat := 27
def jt_N_collect_0 : List jv_E := [(0, .aload_n 0, 1, [], 0), (1, .getfield 32, 3, [13, 8, 2], 0), (4, .iload_n 1, 1, [], 0), (5, .iconst 0, 1, [], 0), (6, .iastore, 1, [], 0), (7, .iconst 0, 1, [], 0), (8, .istore_n 2, 1, [], 0), (9, .iload_n 2, 1, [], 0), (10, .aload_n 0, 1, [], 0), (11, .getfield 35, 3, [13, 0, 0], 0), (14, .if_icmp .ge 27, 3, [41], 0), (17, .aload_n 0, 1, [], 0), (18, .getfield 26, 3, [13, 6, 2], 0), (21, .iload_n 2, 1, [], 0), (22, .aaload, 1, [], 0), (23, .iload_n 1, 1, [], 0), (24, .iconst 0, 1, [], 0), (25, .iastore, 1, [], 0), (26, .aload_n 0, 1, [], 0), (27, .getfield 29, 3, [13, 7, 2], 0), (30, .iload_n 2, 1, [], 0), (31, .aaload, 1, [], 0), (32, .iload_n 1, 1, [], 0), (33, .iconst 0, 1, [], 0), (34, .iastore, 1, [], 0), (35, .iinc 2 1, 3, [], 0), (38, .goto (-29), 3, [9], 0), (41, .iconst 0, 1, [], 0), (42, .istore_n 2, 1, [], 0), (43, .iload_n 2, 1, [], 0), (44, .aload_n 0, 1, [], 0), (45, .getfield 43, 3, [13, 1, 0], 0), (48, .if_icmp .ge 118, 3, [166], 0), (51, .aload_n 0, 1, [], 0), (52, .getfield 9, 3, [13, 2, 2], 0), (55, .iload_n 2, 1, [], 0), (56, .iaload, 1, [], 0), (57, .istore_n 3, 1, [], 0), (58, .aload_n 0, 1, [], 0), (59, .getfield 15, 3, [13, 3, 2], 0), (62, .iload_n 2, 1, [], 0), (63, .iaload, 1, [], 0), (64, .iload_n 1, 1, [], 0), (65, .if_icmp .ne 15, 3, [80], 0), (68, .aload_n 0, 1, [], 0), (69, .getfield 32, 3, [13, 8, 2], 0), (72, .iload_n 1, 1, [], 0), (73, .dup2, 1, [], 0), (74, .iaload, 1, [], 0), (75, .iconst 1, 1, [], 1), (76, .iload_n 2, 1, [], 0), (77, .ishl, 1, [], 0), (78, .ior, 1, [], 0), (79, .iastore, 1, [], 0), (80, .iload_n 3, 1, [], 0), (81, .iload_n 1, 1, [], 0), (82, .if_icmp .eq 78, 3, [160], 0), (85, .aload_n 0, 1, [], 0), (86, .getfield 23, 3, [13, 5, 2], 0), (89, .aload_n 0, 1, [], 0)]
def jt_N_collect_1 : List jv_E := [(90, .getfield 15, 3, [13, 3, 2], 0), (93, .iload_n 2, 1, [], 0), (94, .iaload, 1, [], 0), (95, .aaload, 1, [], 0), (96, .iload_n 1, 1, [], 0), (97, .iaload, 1, [], 0), (98, .bipush (-9), 2, [], (-9)), (100, .if_icmp .ne 6, 3, [106], 0), (103, .goto 57, 3, [160], 0), (106, .aload_n 0, 1, [], 0), (107, .getfield 29, 3, [13, 7, 2], 0), (110, .iload_n 3, 1, [], 0), (111, .aaload, 1, [], 0), (112, .iload_n 1, 1, [], 0), (113, .dup2, 1, [], 0), (114, .iaload, 1, [], 0), (115, .iconst 1, 1, [], 1), (116, .iload_n 2, 1, [], 0), (117, .ishl, 1, [], 0), (118, .ior, 1, [], 0), (119, .iastore, 1, [], 0), (120, .aload_n 0, 1, [], 0), (121, .getfield 23, 3, [13, 5, 2], 0), (124, .aload_n 0, 1, [], 0), (125, .getfield 15, 3, [13, 3, 2], 0), (128, .iload_n 2, 1, [], 0), (129, .iaload, 1, [], 0), (130, .aaload, 1, [], 0), (131, .iload_n 1, 1, [], 0), (132, .iaload, 1, [], 0), (133, .aload_n 0, 1, [], 0), (134, .getfield 23, 3, [13, 5, 2], 0), (137, .iload_n 3, 1, [], 0), (138, .aaload, 1, [], 0), (139, .iload_n 1, 1, [], 0), (140, .iaload, 1, [], 0), (141, .iconst 1, 1, [], 1), (142, .isub, 1, [], 0), (143, .if_icmp .ne 17, 3, [160], 0), (146, .aload_n 0, 1, [], 0), (147, .getfield 26, 3, [13, 6, 2], 0), (150, .iload_n 3, 1, [], 0), (151, .aaload, 1, [], 0), (152, .iload_n 1, 1, [], 0), (153, .dup2, 1, [], 0), (154, .iaload, 1, [], 0), (155, .iconst 1, 1, [], 1), (156, .iload_n 2, 1, [], 0), (157, .ishl, 1, [], 0), (158, .ior, 1, [], 0), (159, .iastore, 1, [], 0), (160, .iinc 2 1, 3, [], 0), (163, .goto (-120), 3, [43], 0), (166, .return_, 1, [], 0)]
def jt_N_collect : List jv_E := jt_N_collect_0 ++ (jt_N_collect_1)
abbrev kN_collect : Nat := 28
def jt_Wy_unbarAll : List jv_E := [(0, .aload_n 0, 1, [], 0), (1, .getfield 9, 3, [20, 1, 2], 0), (4, .iconst 0, 1, [], 0), (5, .invokestatic 34, 3, [30, 2, 0], 0), (8, .aload_n 0, 1, [], 0), (9, .invokevirtual 31, 3, [31, 1, 21], 0), (12, .return_, 1, [], 0)]
abbrev kWy_unbarAll : Nat := 29
def jt_Ar_fill : List jv_E := [(0, .iconst 0, 1, [], 0), (1, .istore_n 2, 1, [], 0), (2, .aload_n 0, 1, [], 0), (3, .arraylength, 1, [], 0), (4, .istore_n 3, 1, [], 0), (5, .iload_n 2, 1, [], 0), (6, .iload_n 3, 1, [], 0), (7, .if_icmp .ge 13, 3, [20], 0), (10, .aload_n 0, 1, [], 0), (11, .iload_n 2, 1, [], 0), (12, .iload_n 1, 1, [], 0), (13, .iastore, 1, [], 0), (14, .iinc 2 1, 3, [], 0), (17, .goto (-12), 3, [5], 0), (20, .return_, 1, [], 0)]
abbrev kAr_fill : Nat := 30
def jt_Wy_layAll : List jv_E := [(0, .iconst 0, 1, [], 0), (1, .istore_n 1, 1, [], 0), (2, .iload_n 1, 1, [], 0), (3, .aload_n 0, 1, [], 0), (4, .getfield 23, 3, [20, 0, 2], 0), (7, .getfield 71, 3, [13, 0, 0], 0), (10, .if_icmp .ge 43, 3, [53], 0), (13, .iconst 0, 1, [], 0), (14, .istore_n 2, 1, [], 0), (15, .iload_n 2, 1, [], 0), (16, .aload_n 0, 1, [], 0), (17, .getfield 23, 3, [20, 0, 2], 0), (20, .getfield 71, 3, [13, 0, 0], 0), (23, .if_icmp .ge 24, 3, [47], 0), (26, .aload_n 0, 1, [], 0), (27, .getfield 17, 3, [20, 2, 2], 0), (30, .iload_n 1, 1, [], 0), (31, .aaload, 1, [], 0), (32, .iload_n 2, 1, [], 0), (33, .aload_n 0, 1, [], 0), (34, .iload_n 1, 1, [], 0), (35, .iload_n 2, 1, [], 0), (36, .iconst 0, 1, [], 0), (37, .invokevirtual 74, 3, [32, 4, 21], 0), (40, .iastore, 1, [], 0), (41, .iinc 2 1, 3, [], 0), (44, .goto (-29), 3, [15], 0), (47, .iinc 1 1, 3, [], 0), (50, .goto (-48), 3, [2], 0), (53, .iconst 0, 1, [], 0), (54, .istore_n 1, 1, [], 0), (55, .iload_n 1, 1, [], 0), (56, .aload_n 0, 1, [], 0), (57, .getfield 23, 3, [20, 0, 2], 0), (60, .getfield 60, 3, [13, 1, 0], 0), (63, .if_icmp .ge 14, 3, [77], 0), (66, .aload_n 0, 1, [], 0), (67, .iload_n 1, 1, [], 0), (68, .invokevirtual 54, 3, [33, 2, 21], 0), (71, .iinc 1 1, 3, [], 0), (74, .goto (-19), 3, [55], 0), (77, .aload_n 0, 1, [], 0), (78, .dup, 1, [], 0), (79, .getfield 57, 3, [20, 5, 0], 0), (82, .iconst 1, 1, [], 1), (83, .iadd, 1, [], 0), (84, .putfield 57, 3, [20, 5, 0], 0), (87, .return_, 1, [], 0)]
abbrev kWy_layAll : Nat := 31
def jt_Wy_ruled : List jv_E := [(0, .aload_n 0, 1, [], 0), (1, .getfield 27, 3, [20, 4, 0], 0), (4, .iconst 2, 1, [], 2), (5, .if_icmp .ne 17, 3, [22], 0), (8, .aload_n 0, 1, [], 0), (9, .getfield 23, 3, [20, 0, 2], 0), (12, .getfield 81, 3, [13, 7, 2], 0), (15, .iload_n 1, 1, [], 0), (16, .aaload, 1, [], 0), (17, .iload_n 2, 1, [], 0), (18, .iaload, 1, [], 0), (19, .goto 14, 3, [33], 0), (22, .aload_n 0, 1, [], 0), (23, .getfield 23, 3, [20, 0, 2], 0), (26, .getfield 84, 3, [13, 6, 2], 0), (29, .iload_n 1, 1, [], 0), (30, .aaload, 1, [], 0), (31, .iload_n 2, 1, [], 0), (32, .iaload, 1, [], 0), (33, .iload_n 3, 1, [], 0), (34, .iconst (-1), 1, [], (-1)), (35, .ixor, 1, [], 0), (36, .iand, 1, [], 0), (37, .istore 4, 2, [], 0), (39, .aload_n 0, 1, [], 0), (40, .getfield 27, 3, [20, 4, 0], 0), (43, .iconst 1, 1, [], 1), (44, .if_icmp .ne 12, 3, [56], 0), (47, .iload 4, 2, [], 0), (49, .iload 4, 2, [], 0), (51, .ineg, 1, [], 0), (52, .iand, 1, [], 0), (53, .goto 5, 3, [58], 0), (56, .iload 4, 2, [], 0), (58, .ireturn, 1, [0], 0)]
abbrev kWy_ruled : Nat := 32
def jt_Wy_layLane : List jv_E := [(0, .iconst 0, 1, [], 0), (1, .istore_n 2, 1, [], 0), (2, .iload_n 2, 1, [], 0), (3, .aload_n 0, 1, [], 0), (4, .getfield 23, 3, [20, 0, 2], 0), (7, .getfield 71, 3, [13, 0, 0], 0), (10, .if_icmp .ge 37, 3, [47], 0), (13, .aload_n 0, 1, [], 0), (14, .getfield 20, 3, [20, 3, 2], 0), (17, .iload_n 1, 1, [], 0), (18, .aaload, 1, [], 0), (19, .iload_n 2, 1, [], 0), (20, .aload_n 0, 1, [], 0), (21, .aload_n 0, 1, [], 0), (22, .getfield 23, 3, [20, 0, 2], 0), (25, .getfield 78, 3, [13, 3, 2], 0), (28, .iload_n 1, 1, [], 0), (29, .iaload, 1, [], 0), (30, .iload_n 2, 1, [], 0), (31, .aload_n 0, 1, [], 0), (32, .getfield 9, 3, [20, 1, 2], 0), (35, .iload_n 1, 1, [], 0), (36, .iaload, 1, [], 0), (37, .invokevirtual 74, 3, [32, 4, 21], 0), (40, .iastore, 1, [], 0), (41, .iinc 2 1, 3, [], 0), (44, .goto (-42), 3, [2], 0), (47, .return_, 1, [], 0)]
abbrev kWy_layLane : Nat := 33
def jt_Tr_clear : List jv_E := [(0, .aload_n 0, 1, [], 0), (1, .getfield 22, 3, [18, 4, 2], 0), (4, .iconst 0, 1, [], 0), (5, .invokestatic 34, 3, [30, 2, 0], 0), (8, .aload_n 0, 1, [], 0), (9, .iconst 0, 1, [], 0), (10, .putfield 40, 3, [18, 5, 0], 0), (13, .aload_n 0, 1, [], 0), (14, .iconst 0, 1, [], 0), (15, .putfield 44, 3, [18, 6, 0], 0), (18, .return_, 1, [], 0)]
abbrev kTr_clear : Nat := 34
def jt_X_ofLane : List jv_E := [(0, .aload_n 0, 1, [], 0), (1, .getfield 28, 3, [21, 2, 2], 0), (4, .iload_n 1, 1, [], 0), (5, .invokevirtual 134, 3, [36, 2, 14], 0), (8, .ifCond .ne 5, 3, [13], 0), (11, .iconst (-1), 1, [], (-1)), (12, .ireturn, 1, [0], 0), (13, .iload_n 2, 1, [], 0), (14, .tableswitch 70 0 3 #[30, 40, 50, 60], 30, [84, 44, 54, 64, 74], 0), (44, .aload_n 0, 1, [], 0), (45, .getfield 28, 3, [21, 2, 2], 0), (48, .getfield 137, 3, [13, 2, 2], 0), (51, .iload_n 1, 1, [], 0), (52, .iaload, 1, [], 0), (53, .ireturn, 1, [0], 0), (54, .aload_n 0, 1, [], 0), (55, .getfield 28, 3, [21, 2, 2], 0), (58, .getfield 141, 3, [13, 3, 2], 0), (61, .iload_n 1, 1, [], 0), (62, .iaload, 1, [], 0), (63, .ireturn, 1, [0], 0), (64, .aload_n 0, 1, [], 0), (65, .getfield 28, 3, [21, 2, 2], 0), (68, .getfield 144, 3, [13, 4, 2], 0), (71, .iload_n 1, 1, [], 0), (72, .iaload, 1, [], 0), (73, .ireturn, 1, [0], 0), (74, .aload_n 0, 1, [], 0), (75, .getfield 69, 3, [21, 7, 2], 0), (78, .getfield 147, 3, [18, 4, 2], 0), (81, .iload_n 1, 1, [], 0), (82, .iaload, 1, [], 0), (83, .ireturn, 1, [0], 0), (84, .aload_n 0, 1, [], 0), (85, .getfield 69, 3, [21, 7, 2], 0), (88, .iload_n 1, 1, [], 0), (89, .iload_n 2, 1, [], 0), (90, .bipush 10, 2, [], 10), (92, .isub, 1, [], 0), (93, .invokevirtual 150, 3, [37, 3, 19], 0), (96, .ireturn, 1, [0], 0)]
abbrev kX_ofLane : Nat := 35
def jt_N_isLane : List jv_E := [(0, .iload_n 1, 1, [], 0), (1, .ifCond .lt 15, 3, [16], 0), (4, .iload_n 1, 1, [], 0), (5, .aload_n 0, 1, [], 0), (6, .getfield 43, 3, [13, 1, 0], 0), (9, .if_icmp .ge 7, 3, [16], 0), (12, .iconst 1, 1, [], 1), (13, .goto 4, 3, [17], 0), (16, .iconst 0, 1, [], 0), (17, .ireturn, 1, [1], 0)]
abbrev kN_isLane : Nat := 36
def jt_Tr_standsIn : List jv_E := [(0, .iload_n 2, 1, [], 0), (1, .ifCond .lt 24, 3, [25], 0), (4, .iload_n 2, 1, [], 0), (5, .aload_n 0, 1, [], 0), (6, .getfield 22, 3, [18, 4, 2], 0), (9, .iload_n 1, 1, [], 0), (10, .iaload, 1, [], 0), (11, .if_icmp .ge 14, 3, [25], 0), (14, .aload_n 0, 1, [], 0), (15, .getfield 19, 3, [18, 3, 2], 0), (18, .iload_n 1, 1, [], 0), (19, .aaload, 1, [], 0), (20, .iload_n 2, 1, [], 0), (21, .iaload, 1, [], 0), (22, .goto 5, 3, [27], 0), (25, .bipush (-2), 2, [], (-2)), (27, .ireturn, 1, [0], 0)]
abbrev kTr_standsIn : Nat := 37
def jt_X_far : List jv_E := [(0, .aload_n 0, 1, [], 0), (1, .getfield 28, 3, [21, 2, 2], 0), (4, .iload_n 1, 1, [], 0), (5, .iload_n 2, 1, [], 0), (6, .invokevirtual 154, 3, [39, 3, 14], 0), (9, .ifCond .ne 5, 3, [14], 0), (12, .iconst (-1), 1, [], (-1)), (13, .ireturn, 1, [0], 0), (14, .aload_n 0, 1, [], 0), (15, .getfield 28, 3, [21, 2, 2], 0), (18, .getfield 157, 3, [13, 5, 2], 0), (21, .iload_n 1, 1, [], 0), (22, .aaload, 1, [], 0), (23, .iload_n 2, 1, [], 0), (24, .iaload, 1, [], 0), (25, .ireturn, 1, [0], 0)]
abbrev kX_far : Nat := 38
def jt_N_areNodes : List jv_E := [(0, .aload_n 0, 1, [], 0), (1, .iload_n 1, 1, [], 0), (2, .invokevirtual 39, 3, [40, 2, 14], 0), (5, .ifCond .eq 15, 3, [20], 0), (8, .aload_n 0, 1, [], 0), (9, .iload_n 2, 1, [], 0), (10, .invokevirtual 39, 3, [40, 2, 14], 0), (13, .ifCond .eq 7, 3, [20], 0), (16, .iconst 1, 1, [], 1), (17, .goto 4, 3, [21], 0), (20, .iconst 0, 1, [], 0), (21, .ireturn, 1, [1], 0)]
abbrev kN_areNodes : Nat := 39
def jt_N_isNode : List jv_E := [(0, .iload_n 1, 1, [], 0), (1, .ifCond .lt 15, 3, [16], 0), (4, .iload_n 1, 1, [], 0), (5, .aload_n 0, 1, [], 0), (6, .getfield 35, 3, [13, 0, 0], 0), (9, .if_icmp .ge 7, 3, [16], 0), (12, .iconst 1, 1, [], 1), (13, .goto 4, 3, [17], 0), (16, .iconst 0, 1, [], 0), (17, .ireturn, 1, [1], 0)]
abbrev kN_isNode : Nat := 40
def jt_X_rule : List jv_E := [(0, .iload_n 1, 1, [], 0), (1, .ifCond .lt 8, 3, [9], 0), (4, .iload_n 1, 1, [], 0), (5, .iconst 2, 1, [], 2), (6, .if_icmp .le 6, 3, [12], 0), (9, .bipush (-2), 2, [], (-2)), (11, .ireturn, 1, [0], 0), (12, .aload_n 0, 1, [], 0), (13, .getfield 37, 3, [21, 3, 2], 0), (16, .getfield 160, 3, [20, 4, 0], 0), (19, .istore_n 2, 1, [], 0), (20, .aload_n 0, 1, [], 0), (21, .getfield 37, 3, [21, 3, 2], 0), (24, .iload_n 1, 1, [], 0), (25, .invokevirtual 163, 3, [42, 2, 21], 0), (28, .iload_n 2, 1, [], 0), (29, .ireturn, 1, [0], 0)]
abbrev kX_rule : Nat := 41
def jt_Wy_ruleBy : List jv_E := [(0, .aload_n 0, 1, [], 0), (1, .iload_n 1, 1, [], 0), (2, .putfield 27, 3, [20, 4, 0], 0), (5, .aload_n 0, 1, [], 0), (6, .invokevirtual 31, 3, [31, 1, 21], 0), (9, .return_, 1, [], 0)]
abbrev kWy_ruleBy : Nat := 42
def jt_X_bar : List jv_E := [(0, .aload_n 0, 1, [], 0), (1, .getfield 28, 3, [21, 2, 2], 0), (4, .iload_n 1, 1, [], 0), (5, .invokevirtual 134, 3, [36, 2, 14], 0), (8, .ifCond .eq 14, 3, [22], 0), (11, .aload_n 0, 1, [], 0), (12, .getfield 28, 3, [21, 2, 2], 0), (15, .iload_n 2, 1, [], 0), (16, .invokevirtual 134, 3, [36, 2, 14], 0), (19, .ifCond .ne 5, 3, [24], 0), (22, .iconst (-1), 1, [], (-1)), (23, .ireturn, 1, [0], 0), (24, .iload_n 3, 1, [], 0), (25, .ifCond .lt 8, 3, [33], 0), (28, .iload_n 3, 1, [], 0), (29, .iconst 1, 1, [], 1), (30, .if_icmp .le 6, 3, [36], 0), (33, .bipush (-2), 2, [], (-2)), (35, .ireturn, 1, [0], 0), (36, .aload_n 0, 1, [], 0), (37, .getfield 28, 3, [21, 2, 2], 0), (40, .getfield 137, 3, [13, 2, 2], 0), (43, .iload_n 2, 1, [], 0), (44, .iaload, 1, [], 0), (45, .aload_n 0, 1, [], 0), (46, .getfield 28, 3, [21, 2, 2], 0), (49, .getfield 141, 3, [13, 3, 2], 0), (52, .iload_n 1, 1, [], 0), (53, .iaload, 1, [], 0), (54, .if_icmp .eq 6, 3, [60], 0), (57, .bipush (-3), 2, [], (-3)), (59, .ireturn, 1, [0], 0), (60, .aload_n 0, 1, [], 0), (61, .getfield 37, 3, [21, 3, 2], 0), (64, .iload_n 1, 1, [], 0), (65, .iload_n 2, 1, [], 0), (66, .invokevirtual 167, 3, [44, 3, 21], 0), (69, .ifCond .eq 7, 3, [76], 0), (72, .iconst 1, 1, [], 1), (73, .goto 4, 3, [77], 0), (76, .iconst 0, 1, [], 0), (77, .istore 4, 2, [], 0), (79, .aload_n 0, 1, [], 0), (80, .getfield 37, 3, [21, 3, 2], 0), (83, .iload_n 1, 1, [], 0), (84, .iload_n 2, 1, [], 0), (85, .iload_n 3, 1, [], 0), (86, .iconst 1, 1, [], 1), (87, .if_icmp .ne 7, 3, [94], 0), (90, .iconst 1, 1, [], 1), (91, .goto 4, 3, [95], 0), (94, .iconst 0, 1, [], 0), (95, .invokevirtual 170, 3, [46, 4, 21], 0), (98, .iload 4, 2, [], 0), (100, .ireturn, 1, [0], 0)]
abbrev kX_bar : Nat := 43
def jt_Wy_isBarred : List jv_E := [(0, .aload_n 0, 1, [], 0), (1, .getfield 9, 3, [20, 1, 2], 0), (4, .iload_n 1, 1, [], 0), (5, .iaload, 1, [], 0), (6, .iload_n 2, 1, [], 0), (7, .invokestatic 50, 3, [45, 2, 0], 0), (10, .ireturn, 1, [1], 0)]
abbrev kWy_isBarred : Nat := 44
def jt_X_has : List jv_E := [(0, .iload_n 0, 1, [], 0), (1, .iload_n 1, 1, [], 0), (2, .ishr, 1, [], 0), (3, .iconst 1, 1, [], 1), (4, .iand, 1, [], 0), (5, .iconst 1, 1, [], 1), (6, .if_icmp .ne 7, 3, [13], 0), (9, .iconst 1, 1, [], 1), (10, .goto 4, 3, [14], 0), (13, .iconst 0, 1, [], 0), (14, .ireturn, 1, [1], 0)]
abbrev kX_has : Nat := 45
def jt_Wy_setBarred : List jv_E := [(0, .iload_n 3, 1, [], 0), (1, .ifCond .eq 18, 3, [19], 0), (4, .aload_n 0, 1, [], 0), (5, .getfield 9, 3, [20, 1, 2], 0), (8, .iload_n 1, 1, [], 0), (9, .dup2, 1, [], 0), (10, .iaload, 1, [], 0), (11, .iconst 1, 1, [], 1), (12, .iload_n 2, 1, [], 0), (13, .ishl, 1, [], 0), (14, .ior, 1, [], 0), (15, .iastore, 1, [], 0), (16, .goto 17, 3, [33], 0), (19, .aload_n 0, 1, [], 0), (20, .getfield 9, 3, [20, 1, 2], 0), (23, .iload_n 1, 1, [], 0), (24, .dup2, 1, [], 0), (25, .iaload, 1, [], 0), (26, .iconst 1, 1, [], 1), (27, .iload_n 2, 1, [], 0), (28, .ishl, 1, [], 0), (29, .iconst (-1), 1, [], (-1)), (30, .ixor, 1, [], 0), (31, .iand, 1, [], 0), (32, .iastore, 1, [], 0), (33, .aload_n 0, 1, [], 0), (34, .iload_n 1, 1, [], 0), (35, .invokevirtual 54, 3, [33, 2, 21], 0), (38, .aload_n 0, 1, [], 0), (39, .dup, 1, [], 0), (40, .getfield 57, 3, [20, 5, 0], 0), (43, .iconst 1, 1, [], 1), (44, .iadd, 1, [], 0), (45, .putfield 57, 3, [20, 5, 0], 0), (48, .return_, 1, [], 0)]
abbrev kWy_setBarred : Nat := 46
def jt_X_may : List jv_E := [(0, .aload_n 0, 1, [], 0), (1, .getfield 28, 3, [21, 2, 2], 0), (4, .iload_n 1, 1, [], 0), (5, .invokevirtual 134, 3, [36, 2, 14], 0), (8, .ifCond .eq 14, 3, [22], 0), (11, .aload_n 0, 1, [], 0), (12, .getfield 28, 3, [21, 2, 2], 0), (15, .iload_n 2, 1, [], 0), (16, .invokevirtual 174, 3, [40, 2, 14], 0), (19, .ifCond .ne 5, 3, [24], 0), (22, .iconst (-1), 1, [], (-1)), (23, .ireturn, 1, [0], 0), (24, .aload_n 0, 1, [], 0), (25, .getfield 37, 3, [21, 3, 2], 0), (28, .getfield 177, 3, [20, 3, 2], 0), (31, .iload_n 1, 1, [], 0), (32, .aaload, 1, [], 0), (33, .iload_n 2, 1, [], 0), (34, .iaload, 1, [], 0), (35, .ireturn, 1, [0], 0)]
abbrev kX_may : Nat := 47
def jt_X_out : List jv_E := [(0, .aload_n 0, 1, [], 0), (1, .getfield 28, 3, [21, 2, 2], 0), (4, .iload_n 1, 1, [], 0), (5, .iload_n 2, 1, [], 0), (6, .invokevirtual 154, 3, [39, 3, 14], 0), (9, .ifCond .ne 5, 3, [14], 0), (12, .iconst (-1), 1, [], (-1)), (13, .ireturn, 1, [0], 0), (14, .aload_n 0, 1, [], 0), (15, .getfield 37, 3, [21, 3, 2], 0), (18, .getfield 180, 3, [20, 2, 2], 0), (21, .iload_n 1, 1, [], 0), (22, .aaload, 1, [], 0), (23, .iload_n 2, 1, [], 0), (24, .iaload, 1, [], 0), (25, .ireturn, 1, [0], 0)]
abbrev kX_out : Nat := 48
def jt_X_comes : List jv_E := [(0, .aload_n 0, 1, [], 0), (1, .getfield 28, 3, [21, 2, 2], 0), (4, .iload_n 1, 1, [], 0), (5, .iload_n 2, 1, [], 0), (6, .invokevirtual 154, 3, [39, 3, 14], 0), (9, .ifCond .ne 5, 3, [14], 0), (12, .iconst (-1), 1, [], (-1)), (13, .ireturn, 1, [0], 0), (14, .iload_n 1, 1, [], 0), (15, .iload_n 2, 1, [], 0), (16, .if_icmp .ne 6, 3, [22], 0), (19, .bipush (-2), 2, [], (-2)), (21, .ireturn, 1, [0], 0), (22, .aload_n 0, 1, [], 0), (23, .getfield 46, 3, [21, 4, 2], 0), (26, .iload_n 1, 1, [], 0), (27, .iload_n 2, 1, [], 0), (28, .invokevirtual 183, 3, [50, 3, 20], 0), (31, .ireturn, 1, [0], 0)]
abbrev kX_comes : Nat := 49
def jt_Wa_howItComes : List jv_E := [(0, .aload_n 0, 1, [], 0), (1, .aload_n 0, 1, [], 0), (2, .getfield 38, 3, [19, 1, 2], 0), (5, .getfield 82, 3, [20, 2, 2], 0), (8, .iload_n 1, 1, [], 0), (9, .aaload, 1, [], 0), (10, .iload_n 2, 1, [], 0), (11, .iaload, 1, [], 0), (12, .iload_n 2, 1, [], 0), (13, .invokevirtual 86, 3, [51, 3, 20], 0), (16, .istore_n 3, 1, [], 0), (17, .iload_n 3, 1, [], 0), (18, .aload_n 0, 1, [], 0), (19, .getfield 34, 3, [19, 0, 2], 0), (22, .getfield 97, 3, [13, 8, 2], 0), (25, .iload_n 2, 1, [], 0), (26, .iaload, 1, [], 0), (27, .iand, 1, [], 0), (28, .ifCond .ne 5, 3, [33], 0), (31, .iconst 0, 1, [], 0), (32, .ireturn, 1, [0], 0), (33, .aload_n 0, 1, [], 0), (34, .iload_n 3, 1, [], 0), (35, .iload_n 2, 1, [], 0), (36, .invokevirtual 94, 3, [52, 3, 20], 0), (39, .ifCond .eq 7, 3, [46], 0), (42, .iconst 2, 1, [], 2), (43, .goto 4, 3, [47], 0), (46, .iconst 1, 1, [], 1), (47, .ireturn, 1, [0], 0)]
abbrev kWa_howItComes : Nat := 50
def jt_Wa_reach : List jv_E := [(0, .iconst 0, 1, [], 0), (1, .istore_n 3, 1, [], 0), (2, .iload_n 3, 1, [], 0), (3, .aload_n 0, 1, [], 0), (4, .getfield 34, 3, [19, 0, 2], 0), (7, .getfield 75, 3, [13, 1, 0], 0), (10, .if_icmp .ge 26, 3, [36], 0), (13, .aload_n 0, 1, [], 0), (14, .getfield 24, 3, [19, 6, 2], 0), (17, .iload_n 3, 1, [], 0), (18, .aload_n 0, 1, [], 0), (19, .getfield 38, 3, [19, 1, 2], 0), (22, .getfield 100, 3, [20, 3, 2], 0), (25, .iload_n 3, 1, [], 0), (26, .aaload, 1, [], 0), (27, .iload_n 2, 1, [], 0), (28, .iaload, 1, [], 0), (29, .iastore, 1, [], 0), (30, .iinc 3 1, 3, [], 0), (33, .goto (-31), 3, [2], 0), (36, .iload_n 1, 1, [], 0), (37, .istore_n 3, 1, [], 0), (38, .iconst 0, 1, [], 0), (39, .istore 4, 2, [], 0), (41, .iload 4, 2, [], 0), (43, .aload_n 0, 1, [], 0), (44, .getfield 34, 3, [19, 0, 2], 0), (47, .getfield 75, 3, [13, 1, 0], 0), (50, .if_icmp .ge 60, 3, [110], 0), (53, .iload_n 3, 1, [], 0), (54, .istore 5, 2, [], 0), (56, .iconst 0, 1, [], 0), (57, .istore 6, 2, [], 0), (59, .iload 6, 2, [], 0), (61, .aload_n 0, 1, [], 0), (62, .getfield 34, 3, [19, 0, 2], 0), (65, .getfield 75, 3, [13, 1, 0], 0), (68, .if_icmp .ge 28, 3, [96], 0), (71, .iload_n 3, 1, [], 0), (72, .iload 6, 2, [], 0), (74, .invokestatic 90, 3, [45, 2, 0], 0), (77, .ifCond .eq 13, 3, [90], 0), (80, .iload_n 3, 1, [], 0), (81, .aload_n 0, 1, [], 0), (82, .getfield 24, 3, [19, 6, 2], 0), (85, .iload 6, 2, [], 0), (87, .iaload, 1, [], 0), (88, .ior, 1, [], 0), (89, .istore_n 3, 1, [], 0), (90, .iinc 6 1, 3, [], 0), (93, .goto (-34), 3, [59], 0), (96, .iload_n 3, 1, [], 0), (97, .iload 5, 2, [], 0), (99, .if_icmp .ne 5, 3, [104], 0), (102, .iload_n 3, 1, [], 0), (103, .ireturn, 1, [0], 0), (104, .iinc 4 1, 3, [], 0), (107, .goto (-66), 3, [41], 0), (110, .iload_n 3, 1, [], 0), (111, .ireturn, 1, [0], 0)]
abbrev kWa_reach : Nat := 51
def jt_Wa_endsWell : List jv_E := [(0, .iconst 0, 1, [], 0), (1, .istore_n 3, 1, [], 0), (2, .iload_n 3, 1, [], 0), (3, .aload_n 0, 1, [], 0), (4, .getfield 34, 3, [19, 0, 2], 0), (7, .getfield 75, 3, [13, 1, 0], 0), (10, .if_icmp .ge 41, 3, [51], 0), (13, .iload_n 1, 1, [], 0), (14, .iload_n 3, 1, [], 0), (15, .invokestatic 90, 3, [45, 2, 0], 0), (18, .ifCond .eq 27, 3, [45], 0), (21, .aload_n 0, 1, [], 0), (22, .getfield 34, 3, [19, 0, 2], 0), (25, .getfield 102, 3, [13, 3, 2], 0), (28, .iload_n 3, 1, [], 0), (29, .iaload, 1, [], 0), (30, .iload_n 2, 1, [], 0), (31, .if_icmp .eq 14, 3, [45], 0), (34, .aload_n 0, 1, [], 0), (35, .getfield 24, 3, [19, 6, 2], 0), (38, .iload_n 3, 1, [], 0), (39, .iaload, 1, [], 0), (40, .ifCond .ne 5, 3, [45], 0), (43, .iconst 0, 1, [], 0), (44, .ireturn, 1, [1], 0), (45, .iinc 3 1, 3, [], 0), (48, .goto (-46), 3, [2], 0), (51, .aload_n 0, 1, [], 0), (52, .getfield 24, 3, [19, 6, 2], 0), (55, .aload_n 0, 1, [], 0), (56, .getfield 34, 3, [19, 0, 2], 0), (59, .getfield 75, 3, [13, 1, 0], 0), (62, .iload_n 1, 1, [], 0), (63, .invokestatic 78, 3, [53, 3, 0], 0), (66, .ifCond .ne 7, 3, [73], 0), (69, .iconst 1, 1, [], 1), (70, .goto 4, 3, [74], 0), (73, .iconst 0, 1, [], 0), (74, .ireturn, 1, [1], 0)]
abbrev kWa_endsWell : Nat := 52
def jt_X_knot : List jv_E := [(0, .iload_n 2, 1, [], 0), (1, .istore_n 3, 1, [], 0), (2, .iconst 0, 1, [], 0), (3, .istore 4, 2, [], 0), (5, .iload 4, 2, [], 0), (7, .iload_n 1, 1, [], 0), (8, .if_icmp .ge 66, 3, [74], 0), (11, .iload_n 3, 1, [], 0), (12, .ifCond .eq 62, 3, [74], 0), (15, .iload_n 3, 1, [], 0), (16, .istore 5, 2, [], 0), (18, .iconst 0, 1, [], 0), (19, .istore 6, 2, [], 0), (21, .iload 6, 2, [], 0), (23, .iload_n 1, 1, [], 0), (24, .if_icmp .ge 36, 3, [60], 0), (27, .iload_n 3, 1, [], 0), (28, .iconst 1, 1, [], 1), (29, .iload 6, 2, [], 0), (31, .ishl, 1, [], 0), (32, .iand, 1, [], 0), (33, .ifCond .eq 21, 3, [54], 0), (36, .aload_n 0, 1, [], 0), (37, .iload 6, 2, [], 0), (39, .iaload, 1, [], 0), (40, .iload_n 3, 1, [], 0), (41, .iand, 1, [], 0), (42, .ifCond .ne 12, 3, [54], 0), (45, .iload_n 3, 1, [], 0), (46, .iconst 1, 1, [], 1), (47, .iload 6, 2, [], 0), (49, .ishl, 1, [], 0), (50, .iconst (-1), 1, [], (-1)), (51, .ixor, 1, [], 0), (52, .iand, 1, [], 0), (53, .istore_n 3, 1, [], 0), (54, .iinc 6 1, 3, [], 0), (57, .goto (-36), 3, [21], 0), (60, .iload_n 3, 1, [], 0), (61, .iload 5, 2, [], 0), (63, .if_icmp .ne 5, 3, [68], 0), (66, .iload_n 3, 1, [], 0), (67, .ireturn, 1, [0], 0), (68, .iinc 4 1, 3, [], 0), (71, .goto (-66), 3, [5], 0), (74, .iload_n 3, 1, [], 0), (75, .ireturn, 1, [0], 0)]
abbrev kX_knot : Nat := 53
def jt_X_carries : List jv_E := [(0, .aload_n 0, 1, [], 0), (1, .getfield 28, 3, [21, 2, 2], 0), (4, .iload_n 1, 1, [], 0), (5, .invokevirtual 134, 3, [36, 2, 14], 0), (8, .ifCond .ne 5, 3, [13], 0), (11, .iconst (-1), 1, [], (-1)), (12, .ireturn, 1, [0], 0), (13, .aload_n 0, 1, [], 0), (14, .getfield 46, 3, [21, 4, 2], 0), (17, .invokevirtual 186, 3, [55, 1, 20], 0), (20, .iconst 0, 1, [], 0), (21, .istore_n 2, 1, [], 0), (22, .iconst 0, 1, [], 0), (23, .istore_n 3, 1, [], 0), (24, .iload_n 3, 1, [], 0), (25, .aload_n 0, 1, [], 0), (26, .getfield 28, 3, [21, 2, 2], 0), (29, .getfield 189, 3, [13, 0, 0], 0), (32, .if_icmp .ge 31, 3, [63], 0), (35, .aload_n 0, 1, [], 0), (36, .getfield 46, 3, [21, 4, 2], 0), (39, .getfield 192, 3, [19, 2, 2], 0), (42, .iload_n 3, 1, [], 0), (43, .iaload, 1, [], 0), (44, .iload_n 1, 1, [], 0), (45, .invokestatic 195, 3, [45, 2, 0], 0), (48, .ifCond .eq 9, 3, [57], 0), (51, .iload_n 2, 1, [], 0), (52, .iconst 1, 1, [], 1), (53, .iload_n 3, 1, [], 0), (54, .ishl, 1, [], 0), (55, .ior, 1, [], 0), (56, .istore_n 2, 1, [], 0), (57, .iinc 3 1, 3, [], 0), (60, .goto (-36), 3, [24], 0), (63, .iload_n 2, 1, [], 0), (64, .ireturn, 1, [0], 0)]
abbrev kX_carries : Nat := 54
def jt_Wa_work : List jv_E := [(0, .aload_n 0, 1, [], 0), (1, .getfield 30, 3, [19, 10, 0], 0), (4, .aload_n 0, 1, [], 0), (5, .getfield 38, 3, [19, 1, 2], 0), (8, .getfield 42, 3, [20, 5, 0], 0), (11, .if_icmp .ne 4, 3, [15], 0), (14, .return_, 1, [], 0), (15, .aload_n 0, 1, [], 0), (16, .aload_n 0, 1, [], 0), (17, .getfield 38, 3, [19, 1, 2], 0), (20, .getfield 42, 3, [20, 5, 0], 0), (23, .putfield 30, 3, [19, 10, 0], 0), (26, .aload_n 0, 1, [], 0), (27, .getfield 15, 3, [19, 3, 2], 0), (30, .iconst 0, 1, [], 0), (31, .invokestatic 47, 3, [30, 2, 0], 0), (34, .aload_n 0, 1, [], 0), (35, .iconst 1, 1, [], 1), (36, .putfield 53, 3, [19, 8, 1], 0), (39, .iconst 0, 1, [], 0), (40, .istore_n 1, 1, [], 0), (41, .iload_n 1, 1, [], 0), (42, .aload_n 0, 1, [], 0), (43, .getfield 34, 3, [19, 0, 2], 0), (46, .getfield 57, 3, [13, 0, 0], 0), (49, .if_icmp .ge 22, 3, [71], 0), (52, .aload_n 0, 1, [], 0), (53, .iload_n 1, 1, [], 0), (54, .invokevirtual 62, 3, [56, 2, 20], 0), (57, .ifCond .ne 8, 3, [65], 0), (60, .aload_n 0, 1, [], 0), (61, .iconst 0, 1, [], 0), (62, .putfield 53, 3, [19, 8, 1], 0), (65, .iinc 1 1, 3, [], 0), (68, .goto (-27), 3, [41], 0), (71, .aload_n 0, 1, [], 0), (72, .invokevirtual 66, 3, [57, 1, 20], 0), (75, .aload_n 0, 1, [], 0), (76, .getfield 69, 3, [19, 9, 0], 0), (79, .ifCond .ne 7, 3, [86], 0), (82, .aload_n 0, 1, [], 0), (83, .invokevirtual 72, 3, [60, 1, 20], 0), (86, .return_, 1, [], 0)]
abbrev kWa_work : Nat := 55
def jt_Wa_survey_0 : List jv_E := [(0, .iconst 0, 1, [], 0), (1, .istore_n 2, 1, [], 0), (2, .iconst 1, 1, [], 1), (3, .istore_n 3, 1, [], 0), (4, .iconst 0, 1, [], 0), (5, .istore 4, 2, [], 0), (7, .iload 4, 2, [], 0), (9, .aload_n 0, 1, [], 0), (10, .getfield 34, 3, [19, 0, 2], 0), (13, .getfield 57, 3, [13, 0, 0], 0), (16, .if_icmp .ge 41, 3, [57], 0), (19, .aload_n 0, 1, [], 0), (20, .getfield 38, 3, [19, 1, 2], 0), (23, .getfield 82, 3, [20, 2, 2], 0), (26, .iload 4, 2, [], 0), (28, .aaload, 1, [], 0), (29, .iload_n 1, 1, [], 0), (30, .iaload, 1, [], 0), (31, .istore 5, 2, [], 0), (33, .iload 4, 2, [], 0), (35, .iload_n 1, 1, [], 0), (36, .if_icmp .eq 10, 3, [46], 0), (39, .iload 5, 2, [], 0), (41, .ifCond .ne 5, 3, [46], 0), (44, .iconst 0, 1, [], 0), (45, .istore_n 3, 1, [], 0), (46, .iload_n 2, 1, [], 0), (47, .iload 5, 2, [], 0), (49, .ior, 1, [], 0), (50, .istore_n 2, 1, [], 0), (51, .iinc 4 1, 3, [], 0), (54, .goto (-47), 3, [7], 0), (57, .aload_n 0, 1, [], 0), (58, .getfield 9, 3, [19, 2, 2], 0), (61, .iload_n 1, 1, [], 0), (62, .aload_n 0, 1, [], 0), (63, .iload_n 2, 1, [], 0), (64, .iload_n 1, 1, [], 0), (65, .invokevirtual 86, 3, [51, 3, 20], 0), (68, .iastore, 1, [], 0), (69, .iconst 0, 1, [], 0), (70, .istore 4, 2, [], 0), (72, .iload 4, 2, [], 0), (74, .aload_n 0, 1, [], 0), (75, .getfield 34, 3, [19, 0, 2], 0), (78, .getfield 75, 3, [13, 1, 0], 0), (81, .if_icmp .ge 40, 3, [121], 0), (84, .aload_n 0, 1, [], 0), (85, .getfield 9, 3, [19, 2, 2], 0), (88, .iload_n 1, 1, [], 0), (89, .iaload, 1, [], 0), (90, .iload 4, 2, [], 0), (92, .invokestatic 90, 3, [45, 2, 0], 0), (95, .ifCond .eq 20, 3, [115], 0), (98, .aload_n 0, 1, [], 0), (99, .getfield 15, 3, [19, 3, 2], 0), (102, .iload 4, 2, [], 0), (104, .dup2, 1, [], 0), (105, .iaload, 1, [], 0), (106, .aload_n 0, 1, [], 0)]
def jt_Wa_survey_1 : List jv_E := [(107, .getfield 24, 3, [19, 6, 2], 0), (110, .iload 4, 2, [], 0), (112, .iaload, 1, [], 0), (113, .ior, 1, [], 0), (114, .iastore, 1, [], 0), (115, .iinc 4 1, 3, [], 0), (118, .goto (-46), 3, [72], 0), (121, .iload_n 3, 1, [], 0), (122, .ifCond .eq 21, 3, [143], 0), (125, .aload_n 0, 1, [], 0), (126, .aload_n 0, 1, [], 0), (127, .getfield 9, 3, [19, 2, 2], 0), (130, .iload_n 1, 1, [], 0), (131, .iaload, 1, [], 0), (132, .iload_n 1, 1, [], 0), (133, .invokevirtual 94, 3, [52, 3, 20], 0), (136, .ifCond .eq 7, 3, [143], 0), (139, .iconst 1, 1, [], 1), (140, .goto 4, 3, [144], 0), (143, .iconst 0, 1, [], 0), (144, .ireturn, 1, [1], 0)]
def jt_Wa_survey : List jv_E := jt_Wa_survey_0 ++ (jt_Wa_survey_1)
abbrev kWa_survey : Nat := 56
def jt_Wa_findRing : List jv_E := [(0, .aload_n 0, 1, [], 0), (1, .iconst 0, 1, [], 0), (2, .putfield 69, 3, [19, 9, 0], 0), (5, .aload_n 0, 1, [], 0), (6, .getfield 15, 3, [19, 3, 2], 0), (9, .aload_n 0, 1, [], 0), (10, .getfield 34, 3, [19, 0, 2], 0), (13, .getfield 75, 3, [13, 1, 0], 0), (16, .iconst 1, 1, [], 1), (17, .aload_n 0, 1, [], 0), (18, .getfield 34, 3, [19, 0, 2], 0), (21, .getfield 75, 3, [13, 1, 0], 0), (24, .ishl, 1, [], 0), (25, .iconst 1, 1, [], 1), (26, .isub, 1, [], 0), (27, .invokestatic 78, 3, [53, 3, 0], 0), (30, .ifCond .ne 4, 3, [34], 0), (33, .return_, 1, [], 0), (34, .iconst 0, 1, [], 0), (35, .istore_n 1, 1, [], 0), (36, .iload_n 1, 1, [], 0), (37, .aload_n 0, 1, [], 0), (38, .getfield 34, 3, [19, 0, 2], 0), (41, .getfield 75, 3, [13, 1, 0], 0), (44, .if_icmp .ge 44, 3, [88], 0), (47, .aload_n 0, 1, [], 0), (48, .iload_n 1, 1, [], 0), (49, .invokevirtual 105, 3, [58, 2, 20], 0), (52, .istore_n 2, 1, [], 0), (53, .iload_n 2, 1, [], 0), (54, .ifCond .le 28, 3, [82], 0), (57, .aload_n 0, 1, [], 0), (58, .getfield 69, 3, [19, 9, 0], 0), (61, .ifCond .eq 11, 3, [72], 0), (64, .iload_n 2, 1, [], 0), (65, .aload_n 0, 1, [], 0), (66, .getfield 69, 3, [19, 9, 0], 0), (69, .if_icmp .ge 13, 3, [82], 0), (72, .aload_n 0, 1, [], 0), (73, .iload_n 2, 1, [], 0), (74, .putfield 69, 3, [19, 9, 0], 0), (77, .aload_n 0, 1, [], 0), (78, .iload_n 1, 1, [], 0), (79, .invokevirtual 109, 3, [59, 2, 20], 0), (82, .iinc 1 1, 3, [], 0), (85, .goto (-49), 3, [36], 0), (88, .return_, 1, [], 0)]
abbrev kWa_findRing : Nat := 57
def jt_Wa_measureRing_0 : List jv_E := [(0, .aload_n 0, 1, [], 0), (1, .getfield 27, 3, [19, 7, 2], 0), (4, .iconst 0, 1, [], 0), (5, .invokestatic 47, 3, [30, 2, 0], 0), (8, .iconst 1, 1, [], 1), (9, .iload_n 1, 1, [], 0), (10, .ishl, 1, [], 0), (11, .istore_n 2, 1, [], 0), (12, .iconst 1, 1, [], 1), (13, .aload_n 0, 1, [], 0), (14, .getfield 34, 3, [19, 0, 2], 0), (17, .getfield 75, 3, [13, 1, 0], 0), (20, .ishl, 1, [], 0), (21, .iconst 2, 1, [], 2), (22, .iload_n 1, 1, [], 0), (23, .ishl, 1, [], 0), (24, .isub, 1, [], 0), (25, .istore_n 3, 1, [], 0), (26, .iconst 1, 1, [], 1), (27, .istore 4, 2, [], 0), (29, .iload 4, 2, [], 0), (31, .aload_n 0, 1, [], 0), (32, .getfield 34, 3, [19, 0, 2], 0), (35, .getfield 75, 3, [13, 1, 0], 0), (38, .if_icmp .gt 102, 3, [140], 0), (41, .iload_n 2, 1, [], 0), (42, .ifCond .eq 98, 3, [140], 0), (45, .aload_n 0, 1, [], 0), (46, .getfield 15, 3, [19, 3, 2], 0), (49, .iload_n 1, 1, [], 0), (50, .iaload, 1, [], 0), (51, .iload_n 2, 1, [], 0), (52, .iand, 1, [], 0), (53, .ifCond .eq 6, 3, [59], 0), (56, .iload 4, 2, [], 0), (58, .ireturn, 1, [0], 0), (59, .iconst 0, 1, [], 0), (60, .istore 5, 2, [], 0), (62, .iload_n 1, 1, [], 0), (63, .iconst 1, 1, [], 1), (64, .iadd, 1, [], 0), (65, .istore 6, 2, [], 0), (67, .iload 6, 2, [], 0), (69, .aload_n 0, 1, [], 0), (70, .getfield 34, 3, [19, 0, 2], 0), (73, .getfield 75, 3, [13, 1, 0], 0), (76, .if_icmp .ge 48, 3, [124], 0), (79, .iload_n 3, 1, [], 0), (80, .iload 6, 2, [], 0), (82, .invokestatic 90, 3, [45, 2, 0], 0), (85, .ifCond .eq 33, 3, [118], 0), (88, .aload_n 0, 1, [], 0), (89, .getfield 15, 3, [19, 3, 2], 0), (92, .iload 6, 2, [], 0), (94, .iaload, 1, [], 0), (95, .iload_n 2, 1, [], 0), (96, .iand, 1, [], 0), (97, .ifCond .eq 21, 3, [118], 0), (100, .iload 5, 2, [], 0), (102, .iconst 1, 1, [], 1)]
def jt_Wa_measureRing_1 : List jv_E := [(103, .iload 6, 2, [], 0), (105, .ishl, 1, [], 0), (106, .ior, 1, [], 0), (107, .istore 5, 2, [], 0), (109, .aload_n 0, 1, [], 0), (110, .getfield 27, 3, [19, 7, 2], 0), (113, .iload 6, 2, [], 0), (115, .iload 4, 2, [], 0), (117, .iastore, 1, [], 0), (118, .iinc 6 1, 3, [], 0), (121, .goto (-54), 3, [67], 0), (124, .iload_n 3, 1, [], 0), (125, .iload 5, 2, [], 0), (127, .iconst (-1), 1, [], (-1)), (128, .ixor, 1, [], 0), (129, .iand, 1, [], 0), (130, .istore_n 3, 1, [], 0), (131, .iload 5, 2, [], 0), (133, .istore_n 2, 1, [], 0), (134, .iinc 4 1, 3, [], 0), (137, .goto (-108), 3, [29], 0), (140, .iconst 0, 1, [], 0), (141, .ireturn, 1, [0], 0)]
def jt_Wa_measureRing : List jv_E := jt_Wa_measureRing_0 ++ (jt_Wa_measureRing_1)
abbrev kWa_measureRing : Nat := 58
def jt_Wa_layRing : List jv_E := [(0, .iload_n 1, 1, [], 0), (1, .istore_n 2, 1, [], 0), (2, .aload_n 0, 1, [], 0), (3, .getfield 18, 3, [19, 4, 2], 0), (6, .iconst 0, 1, [], 0), (7, .iload_n 1, 1, [], 0), (8, .iastore, 1, [], 0), (9, .iconst 1, 1, [], 1), (10, .istore_n 3, 1, [], 0), (11, .iload_n 3, 1, [], 0), (12, .aload_n 0, 1, [], 0), (13, .getfield 69, 3, [19, 9, 0], 0), (16, .if_icmp .ge 75, 3, [91], 0), (19, .iload_n 1, 1, [], 0), (20, .iconst 1, 1, [], 1), (21, .iadd, 1, [], 0), (22, .istore 4, 2, [], 0), (24, .iload 4, 2, [], 0), (26, .aload_n 0, 1, [], 0), (27, .getfield 34, 3, [19, 0, 2], 0), (30, .getfield 75, 3, [13, 1, 0], 0), (33, .if_icmp .ge 45, 3, [78], 0), (36, .aload_n 0, 1, [], 0), (37, .getfield 15, 3, [19, 3, 2], 0), (40, .iload_n 2, 1, [], 0), (41, .iaload, 1, [], 0), (42, .iload 4, 2, [], 0), (44, .invokestatic 90, 3, [45, 2, 0], 0), (47, .ifCond .eq 25, 3, [72], 0), (50, .aload_n 0, 1, [], 0), (51, .getfield 27, 3, [19, 7, 2], 0), (54, .iload 4, 2, [], 0), (56, .iaload, 1, [], 0), (57, .aload_n 0, 1, [], 0), (58, .getfield 69, 3, [19, 9, 0], 0), (61, .iload_n 3, 1, [], 0), (62, .isub, 1, [], 0), (63, .if_icmp .ne 9, 3, [72], 0), (66, .iload 4, 2, [], 0), (68, .istore_n 2, 1, [], 0), (69, .goto 9, 3, [78], 0), (72, .iinc 4 1, 3, [], 0), (75, .goto (-51), 3, [24], 0), (78, .aload_n 0, 1, [], 0), (79, .getfield 18, 3, [19, 4, 2], 0), (82, .iload_n 3, 1, [], 0), (83, .iload_n 2, 1, [], 0), (84, .iastore, 1, [], 0), (85, .iinc 3 1, 3, [], 0), (88, .goto (-77), 3, [11], 0), (91, .return_, 1, [], 0)]
abbrev kWa_layRing : Nat := 59
def jt_Wa_findRanks : List jv_E := [(0, .aload_n 0, 1, [], 0), (1, .getfield 21, 3, [19, 5, 2], 0), (4, .iconst 0, 1, [], 0), (5, .invokestatic 47, 3, [30, 2, 0], 0), (8, .iconst 0, 1, [], 0), (9, .istore_n 1, 1, [], 0), (10, .iload_n 1, 1, [], 0), (11, .aload_n 0, 1, [], 0), (12, .getfield 34, 3, [19, 0, 2], 0), (15, .getfield 75, 3, [13, 1, 0], 0), (18, .if_icmp .ge 83, 3, [101], 0), (21, .iconst 0, 1, [], 0), (22, .istore_n 2, 1, [], 0), (23, .iload_n 2, 1, [], 0), (24, .aload_n 0, 1, [], 0), (25, .getfield 34, 3, [19, 0, 2], 0), (28, .getfield 75, 3, [13, 1, 0], 0), (31, .if_icmp .ge 64, 3, [95], 0), (34, .iconst 0, 1, [], 0), (35, .istore_n 3, 1, [], 0), (36, .iload_n 3, 1, [], 0), (37, .aload_n 0, 1, [], 0), (38, .getfield 34, 3, [19, 0, 2], 0), (41, .getfield 75, 3, [13, 1, 0], 0), (44, .if_icmp .ge 45, 3, [89], 0), (47, .aload_n 0, 1, [], 0), (48, .getfield 15, 3, [19, 3, 2], 0), (51, .iload_n 2, 1, [], 0), (52, .iaload, 1, [], 0), (53, .iload_n 3, 1, [], 0), (54, .invokestatic 90, 3, [45, 2, 0], 0), (57, .ifCond .eq 26, 3, [83], 0), (60, .aload_n 0, 1, [], 0), (61, .getfield 21, 3, [19, 5, 2], 0), (64, .iload_n 2, 1, [], 0), (65, .aload_n 0, 1, [], 0), (66, .getfield 21, 3, [19, 5, 2], 0), (69, .iload_n 2, 1, [], 0), (70, .iaload, 1, [], 0), (71, .aload_n 0, 1, [], 0), (72, .getfield 21, 3, [19, 5, 2], 0), (75, .iload_n 3, 1, [], 0), (76, .iaload, 1, [], 0), (77, .iconst 1, 1, [], 1), (78, .iadd, 1, [], 0), (79, .invokestatic 113, 3, [1002], 0), (82, .iastore, 1, [], 0), (83, .iinc 3 1, 3, [], 0), (86, .goto (-50), 3, [36], 0), (89, .iinc 2 1, 3, [], 0), (92, .goto (-69), 3, [23], 0), (95, .iinc 1 1, 3, [], 0), (98, .goto (-88), 3, [10], 0), (101, .return_, 1, [], 0)]
abbrev kWa_findRanks : Nat := 60
def jt_X_waits : List jv_E := [(0, .aload_n 0, 1, [], 0), (1, .getfield 28, 3, [21, 2, 2], 0), (4, .iload_n 1, 1, [], 0), (5, .invokevirtual 134, 3, [36, 2, 14], 0), (8, .ifCond .ne 5, 3, [13], 0), (11, .iconst (-1), 1, [], (-1)), (12, .ireturn, 1, [0], 0), (13, .aload_n 0, 1, [], 0), (14, .getfield 46, 3, [21, 4, 2], 0), (17, .invokevirtual 186, 3, [55, 1, 20], 0), (20, .aload_n 0, 1, [], 0), (21, .getfield 46, 3, [21, 4, 2], 0), (24, .getfield 198, 3, [19, 3, 2], 0), (27, .iload_n 1, 1, [], 0), (28, .iaload, 1, [], 0), (29, .ireturn, 1, [0], 0)]
abbrev kX_waits : Nat := 61
def jt_X_ring : List jv_E := [(0, .iload_n 1, 1, [], 0), (1, .iconst (-1), 1, [], (-1)), (2, .if_icmp .lt 9, 3, [11], 0), (5, .iload_n 1, 1, [], 0), (6, .bipush 10, 2, [], 10), (8, .if_icmp .lt 5, 3, [13], 0), (11, .iconst (-1), 1, [], (-1)), (12, .ireturn, 1, [0], 0), (13, .aload_n 0, 1, [], 0), (14, .getfield 28, 3, [21, 2, 2], 0), (17, .getfield 131, 3, [13, 1, 0], 0), (20, .ifCond .ne 6, 3, [26], 0), (23, .bipush (-3), 2, [], (-3)), (25, .ireturn, 1, [0], 0), (26, .aload_n 0, 1, [], 0), (27, .getfield 46, 3, [21, 4, 2], 0), (30, .invokevirtual 186, 3, [55, 1, 20], 0), (33, .iload_n 1, 1, [], 0), (34, .iconst (-1), 1, [], (-1)), (35, .if_icmp .ne 11, 3, [46], 0), (38, .aload_n 0, 1, [], 0), (39, .getfield 46, 3, [21, 4, 2], 0), (42, .getfield 201, 3, [19, 9, 0], 0), (45, .ireturn, 1, [0], 0), (46, .iload_n 1, 1, [], 0), (47, .aload_n 0, 1, [], 0), (48, .getfield 46, 3, [21, 4, 2], 0), (51, .getfield 201, 3, [19, 9, 0], 0), (54, .if_icmp .ge 15, 3, [69], 0), (57, .aload_n 0, 1, [], 0), (58, .getfield 46, 3, [21, 4, 2], 0), (61, .getfield 204, 3, [19, 4, 2], 0), (64, .iload_n 1, 1, [], 0), (65, .iaload, 1, [], 0), (66, .goto 5, 3, [71], 0), (69, .bipush (-9), 2, [], (-9)), (71, .ireturn, 1, [0], 0)]
abbrev kX_ring : Nat := 62
def jt_X_rank : List jv_E := [(0, .aload_n 0, 1, [], 0), (1, .getfield 28, 3, [21, 2, 2], 0), (4, .iload_n 1, 1, [], 0), (5, .invokevirtual 134, 3, [36, 2, 14], 0), (8, .ifCond .ne 5, 3, [13], 0), (11, .iconst (-1), 1, [], (-1)), (12, .ireturn, 1, [0], 0), (13, .aload_n 0, 1, [], 0), (14, .getfield 46, 3, [21, 4, 2], 0), (17, .invokevirtual 186, 3, [55, 1, 20], 0), (20, .aload_n 0, 1, [], 0), (21, .getfield 46, 3, [21, 4, 2], 0), (24, .getfield 201, 3, [19, 9, 0], 0), (27, .ifCond .le 6, 3, [33], 0), (30, .bipush (-3), 2, [], (-3)), (32, .ireturn, 1, [0], 0), (33, .aload_n 0, 1, [], 0), (34, .getfield 46, 3, [21, 4, 2], 0), (37, .getfield 207, 3, [19, 5, 2], 0), (40, .iload_n 1, 1, [], 0), (41, .iaload, 1, [], 0), (42, .ireturn, 1, [0], 0)]
abbrev kX_rank : Nat := 63
def jt_X_still : List jv_E := [(0, .iload_n 1, 1, [], 0), (1, .ifCond .lt 8, 3, [9], 0), (4, .iload_n 1, 1, [], 0), (5, .iconst 1, 1, [], 1), (6, .if_icmp .le 6, 3, [12], 0), (9, .bipush (-2), 2, [], (-2)), (11, .ireturn, 1, [0], 0), (12, .aload_n 0, 1, [], 0), (13, .getfield 28, 3, [21, 2, 2], 0), (16, .getfield 131, 3, [13, 1, 0], 0), (19, .ifCond .ne 6, 3, [25], 0), (22, .bipush (-3), 2, [], (-3)), (24, .ireturn, 1, [0], 0), (25, .aload_n 0, 1, [], 0), (26, .getfield 55, 3, [21, 5, 2], 0), (29, .invokevirtual 210, 3, [65, 1, 17], 0), (32, .iload_n 1, 1, [], 0), (33, .ifCond .ne 13, 3, [46], 0), (36, .aload_n 0, 1, [], 0), (37, .getfield 55, 3, [21, 5, 2], 0), (40, .getfield 211, 3, [16, 5, 0], 0), (43, .goto 10, 3, [53], 0), (46, .aload_n 0, 1, [], 0), (47, .getfield 55, 3, [21, 5, 2], 0), (50, .getfield 214, 3, [16, 6, 0], 0), (53, .ireturn, 1, [0], 0)]
abbrev kX_still : Nat := 64
def jt_Sl_work : List jv_E := [(0, .aload_n 0, 1, [], 0), (1, .getfield 20, 3, [16, 7, 0], 0), (4, .aload_n 0, 1, [], 0), (5, .getfield 28, 3, [16, 1, 2], 0), (8, .getfield 36, 3, [20, 5, 0], 0), (11, .if_icmp .ne 4, 3, [15], 0), (14, .return_, 1, [], 0), (15, .aload_n 0, 1, [], 0), (16, .aload_n 0, 1, [], 0), (17, .getfield 28, 3, [16, 1, 2], 0), (20, .getfield 36, 3, [20, 5, 0], 0), (23, .putfield 20, 3, [16, 7, 0], 0), (26, .aload_n 0, 1, [], 0), (27, .getfield 32, 3, [16, 2, 2], 0), (30, .invokevirtual 41, 3, [55, 1, 20], 0), (33, .iconst 0, 1, [], 0), (34, .istore_n 1, 1, [], 0), (35, .iload_n 1, 1, [], 0), (36, .aload_n 0, 1, [], 0), (37, .getfield 24, 3, [16, 0, 2], 0), (40, .getfield 46, 3, [13, 1, 0], 0), (43, .if_icmp .ge 14, 3, [57], 0), (46, .aload_n 0, 1, [], 0), (47, .iload_n 1, 1, [], 0), (48, .invokevirtual 51, 3, [66, 2, 17], 0), (51, .iinc 1 1, 3, [], 0), (54, .goto (-19), 3, [35], 0), (57, .aload_n 0, 1, [], 0), (58, .invokevirtual 55, 3, [67, 1, 17], 0), (61, .aload_n 0, 1, [], 0), (62, .invokevirtual 58, 3, [69, 1, 17], 0), (65, .return_, 1, [], 0)]
abbrev kSl_work : Nat := 65
def jt_Sl_findNeeds : List jv_E := [(0, .aload_n 0, 1, [], 0), (1, .getfield 16, 3, [16, 4, 2], 0), (4, .iload_n 1, 1, [], 0), (5, .iconst 0, 1, [], 0), (6, .iastore, 1, [], 0), (7, .iconst 0, 1, [], 0), (8, .istore_n 2, 1, [], 0), (9, .iload_n 2, 1, [], 0), (10, .aload_n 0, 1, [], 0), (11, .getfield 24, 3, [16, 0, 2], 0), (14, .getfield 61, 3, [13, 0, 0], 0), (17, .if_icmp .ge 72, 3, [89], 0), (20, .aload_n 0, 1, [], 0), (21, .getfield 32, 3, [16, 2, 2], 0), (24, .getfield 64, 3, [19, 2, 2], 0), (27, .iload_n 2, 1, [], 0), (28, .iaload, 1, [], 0), (29, .iload_n 1, 1, [], 0), (30, .invokestatic 67, 3, [45, 2, 0], 0), (33, .ifCond .eq 50, 3, [83], 0), (36, .aload_n 0, 1, [], 0), (37, .getfield 24, 3, [16, 0, 2], 0), (40, .getfield 71, 3, [13, 3, 2], 0), (43, .iload_n 1, 1, [], 0), (44, .iaload, 1, [], 0), (45, .iload_n 2, 1, [], 0), (46, .if_icmp .eq 37, 3, [83], 0), (49, .aload_n 0, 1, [], 0), (50, .getfield 11, 3, [16, 3, 2], 0), (53, .iload_n 1, 1, [], 0), (54, .aaload, 1, [], 0), (55, .aload_n 0, 1, [], 0), (56, .getfield 16, 3, [16, 4, 2], 0), (59, .iload_n 1, 1, [], 0), (60, .iaload, 1, [], 0), (61, .aload_n 0, 1, [], 0), (62, .getfield 28, 3, [16, 1, 2], 0), (65, .getfield 74, 3, [20, 3, 2], 0), (68, .iload_n 1, 1, [], 0), (69, .aaload, 1, [], 0), (70, .iload_n 2, 1, [], 0), (71, .iaload, 1, [], 0), (72, .iastore, 1, [], 0), (73, .aload_n 0, 1, [], 0), (74, .getfield 16, 3, [16, 4, 2], 0), (77, .iload_n 1, 1, [], 0), (78, .dup2, 1, [], 0), (79, .iaload, 1, [], 0), (80, .iconst 1, 1, [], 1), (81, .iadd, 1, [], 0), (82, .iastore, 1, [], 0), (83, .iinc 2 1, 3, [], 0), (86, .goto (-77), 3, [9], 0), (89, .return_, 1, [], 0)]
abbrev kSl_findNeeds : Nat := 66
def jt_Sl_findAll : List jv_E := [(0, .aload_n 0, 1, [], 0), (1, .iconst 1, 1, [], 1), (2, .aload_n 0, 1, [], 0), (3, .getfield 24, 3, [16, 0, 2], 0), (6, .getfield 46, 3, [13, 1, 0], 0), (9, .ishl, 1, [], 0), (10, .iconst 1, 1, [], 1), (11, .isub, 1, [], 0), (12, .putfield 77, 3, [16, 5, 0], 0), (15, .iconst 0, 1, [], 0), (16, .istore_n 1, 1, [], 0), (17, .iload_n 1, 1, [], 0), (18, .aload_n 0, 1, [], 0), (19, .getfield 24, 3, [16, 0, 2], 0), (22, .getfield 46, 3, [13, 1, 0], 0), (25, .if_icmp .ge 79, 3, [104], 0), (28, .aload_n 0, 1, [], 0), (29, .getfield 77, 3, [16, 5, 0], 0), (32, .istore_n 2, 1, [], 0), (33, .iconst 0, 1, [], 0), (34, .istore_n 3, 1, [], 0), (35, .iload_n 3, 1, [], 0), (36, .aload_n 0, 1, [], 0), (37, .getfield 24, 3, [16, 0, 2], 0), (40, .getfield 46, 3, [13, 1, 0], 0), (43, .if_icmp .ge 46, 3, [89], 0), (46, .aload_n 0, 1, [], 0), (47, .getfield 77, 3, [16, 5, 0], 0), (50, .iload_n 3, 1, [], 0), (51, .invokestatic 67, 3, [45, 2, 0], 0), (54, .ifCond .eq 29, 3, [83], 0), (57, .aload_n 0, 1, [], 0), (58, .iload_n 3, 1, [], 0), (59, .aload_n 0, 1, [], 0), (60, .getfield 77, 3, [16, 5, 0], 0), (63, .invokevirtual 80, 3, [68, 3, 17], 0), (66, .ifCond .ne 17, 3, [83], 0), (69, .aload_n 0, 1, [], 0), (70, .dup, 1, [], 0), (71, .getfield 77, 3, [16, 5, 0], 0), (74, .iconst 1, 1, [], 1), (75, .iload_n 3, 1, [], 0), (76, .ishl, 1, [], 0), (77, .iconst (-1), 1, [], (-1)), (78, .ixor, 1, [], 0), (79, .iand, 1, [], 0), (80, .putfield 77, 3, [16, 5, 0], 0), (83, .iinc 3 1, 3, [], 0), (86, .goto (-51), 3, [35], 0), (89, .aload_n 0, 1, [], 0), (90, .getfield 77, 3, [16, 5, 0], 0), (93, .iload_n 2, 1, [], 0), (94, .if_icmp .ne 4, 3, [98], 0), (97, .return_, 1, [], 0), (98, .iinc 1 1, 3, [], 0), (101, .goto (-84), 3, [17], 0), (104, .return_, 1, [], 0)]
abbrev kSl_findAll : Nat := 67
def jt_Sl_canStand : List jv_E := [(0, .iconst 0, 1, [], 0), (1, .istore_n 3, 1, [], 0), (2, .iload_n 3, 1, [], 0), (3, .aload_n 0, 1, [], 0), (4, .getfield 16, 3, [16, 4, 2], 0), (7, .iload_n 1, 1, [], 0), (8, .iaload, 1, [], 0), (9, .if_icmp .ge 26, 3, [35], 0), (12, .aload_n 0, 1, [], 0), (13, .getfield 11, 3, [16, 3, 2], 0), (16, .iload_n 1, 1, [], 0), (17, .aaload, 1, [], 0), (18, .iload_n 3, 1, [], 0), (19, .iaload, 1, [], 0), (20, .iload_n 2, 1, [], 0), (21, .iconst (-1), 1, [], (-1)), (22, .ixor, 1, [], 0), (23, .iand, 1, [], 0), (24, .ifCond .ne 5, 3, [29], 0), (27, .iconst 1, 1, [], 1), (28, .ireturn, 1, [1], 0), (29, .iinc 3 1, 3, [], 0), (32, .goto (-30), 3, [2], 0), (35, .iconst 0, 1, [], 0), (36, .ireturn, 1, [1], 0)]
abbrev kSl_canStand : Nat := 68
def jt_Sl_findLeast : List jv_E := [(0, .aload_n 0, 1, [], 0), (1, .aload_n 0, 1, [], 0), (2, .getfield 77, 3, [16, 5, 0], 0), (5, .putfield 83, 3, [16, 6, 0], 0), (8, .aload_n 0, 1, [], 0), (9, .getfield 77, 3, [16, 5, 0], 0), (12, .invokestatic 86, 3, [70, 1, 0], 0), (15, .istore_n 1, 1, [], 0), (16, .iconst 1, 1, [], 1), (17, .istore_n 2, 1, [], 0), (18, .iload_n 2, 1, [], 0), (19, .aload_n 0, 1, [], 0), (20, .getfield 77, 3, [16, 5, 0], 0), (23, .if_icmp .ge 45, 3, [68], 0), (26, .iload_n 2, 1, [], 0), (27, .invokestatic 86, 3, [70, 1, 0], 0), (30, .istore_n 3, 1, [], 0), (31, .iload_n 3, 1, [], 0), (32, .iload_n 1, 1, [], 0), (33, .if_icmp .ge 29, 3, [62], 0), (36, .iload_n 2, 1, [], 0), (37, .aload_n 0, 1, [], 0), (38, .getfield 77, 3, [16, 5, 0], 0), (41, .iconst (-1), 1, [], (-1)), (42, .ixor, 1, [], 0), (43, .iand, 1, [], 0), (44, .ifCond .ne 18, 3, [62], 0), (47, .aload_n 0, 1, [], 0), (48, .iload_n 2, 1, [], 0), (49, .invokevirtual 92, 3, [71, 2, 17], 0), (52, .ifCond .eq 10, 3, [62], 0), (55, .aload_n 0, 1, [], 0), (56, .iload_n 2, 1, [], 0), (57, .putfield 83, 3, [16, 6, 0], 0), (60, .iload_n 3, 1, [], 0), (61, .istore_n 1, 1, [], 0), (62, .iinc 2 1, 3, [], 0), (65, .goto (-47), 3, [18], 0), (68, .return_, 1, [], 0)]
abbrev kSl_findLeast : Nat := 69
def jt_In_bitCount : List jv_E := [(0, .iload_n 0, 1, [], 0), (1, .iload_n 0, 1, [], 0), (2, .iconst 1, 1, [], 1), (3, .iushr, 1, [], 0), (4, .ldc_w 265, 3, [], 1431655765), (7, .iand, 1, [], 0), (8, .isub, 1, [], 0), (9, .istore_n 0, 1, [], 0), (10, .iload_n 0, 1, [], 0), (11, .ldc_w 266, 3, [], 858993459), (14, .iand, 1, [], 0), (15, .iload_n 0, 1, [], 0), (16, .iconst 2, 1, [], 2), (17, .iushr, 1, [], 0), (18, .ldc_w 266, 3, [], 858993459), (21, .iand, 1, [], 0), (22, .iadd, 1, [], 0), (23, .istore_n 0, 1, [], 0), (24, .iload_n 0, 1, [], 0), (25, .iload_n 0, 1, [], 0), (26, .iconst 4, 1, [], 4), (27, .iushr, 1, [], 0), (28, .iadd, 1, [], 0), (29, .ldc_w 267, 3, [], 252645135), (32, .iand, 1, [], 0), (33, .istore_n 0, 1, [], 0), (34, .iload_n 0, 1, [], 0), (35, .iload_n 0, 1, [], 0), (36, .bipush 8, 2, [], 8), (38, .iushr, 1, [], 0), (39, .iadd, 1, [], 0), (40, .istore_n 0, 1, [], 0), (41, .iload_n 0, 1, [], 0), (42, .iload_n 0, 1, [], 0), (43, .bipush 16, 2, [], 16), (45, .iushr, 1, [], 0), (46, .iadd, 1, [], 0), (47, .istore_n 0, 1, [], 0), (48, .iload_n 0, 1, [], 0), (49, .bipush 63, 2, [], 63), (51, .iand, 1, [], 0), (52, .ireturn, 1, [0], 0)]
abbrev kIn_bitCount : Nat := 70
def jt_Sl_stands : List jv_E := [(0, .iconst 0, 1, [], 0), (1, .istore_n 2, 1, [], 0), (2, .iload_n 2, 1, [], 0), (3, .aload_n 0, 1, [], 0), (4, .getfield 24, 3, [16, 0, 2], 0), (7, .getfield 46, 3, [13, 1, 0], 0), (10, .if_icmp .ge 28, 3, [38], 0), (13, .iload_n 1, 1, [], 0), (14, .iload_n 2, 1, [], 0), (15, .invokestatic 67, 3, [45, 2, 0], 0), (18, .ifCond .eq 14, 3, [32], 0), (21, .aload_n 0, 1, [], 0), (22, .iload_n 2, 1, [], 0), (23, .iload_n 1, 1, [], 0), (24, .invokevirtual 80, 3, [68, 3, 17], 0), (27, .ifCond .ne 5, 3, [32], 0), (30, .iconst 0, 1, [], 0), (31, .ireturn, 1, [1], 0), (32, .iinc 2 1, 3, [], 0), (35, .goto (-33), 3, [2], 0), (38, .iconst 1, 1, [], 1), (39, .ireturn, 1, [1], 0)]
abbrev kSl_stands : Nat := 71
def jt_X_states : List jv_E := [(0, .iload_n 1, 1, [], 0), (1, .ifCond .lt 8, 3, [9], 0), (4, .iload_n 1, 1, [], 0), (5, .iconst 2, 1, [], 2), (6, .if_icmp .le 6, 3, [12], 0), (9, .bipush (-2), 2, [], (-2)), (11, .ireturn, 1, [0], 0), (12, .aload_n 0, 1, [], 0), (13, .getfield 62, 3, [21, 6, 2], 0), (16, .invokevirtual 217, 3, [73, 1, 16], 0), (19, .ifCond .ne 6, 3, [25], 0), (22, .bipush (-3), 2, [], (-3)), (24, .ireturn, 1, [0], 0), (25, .aload_n 0, 1, [], 0), (26, .getfield 62, 3, [21, 6, 2], 0), (29, .invokevirtual 221, 3, [74, 1, 16], 0), (32, .iload_n 1, 1, [], 0), (33, .ifCond .ne 11, 3, [44], 0), (36, .aload_n 0, 1, [], 0), (37, .getfield 62, 3, [21, 6, 2], 0), (40, .getfield 222, 3, [15, 9, 0], 0), (43, .ireturn, 1, [0], 0), (44, .iload_n 1, 1, [], 0), (45, .iconst 1, 1, [], 1), (46, .if_icmp .ne 13, 3, [59], 0), (49, .aload_n 0, 1, [], 0), (50, .getfield 62, 3, [21, 6, 2], 0), (53, .getfield 225, 3, [15, 10, 0], 0), (56, .goto 10, 3, [66], 0), (59, .aload_n 0, 1, [], 0), (60, .getfield 62, 3, [21, 6, 2], 0), (63, .getfield 228, 3, [15, 11, 0], 0), (66, .ireturn, 1, [0], 0)]
abbrev kX_states : Nat := 72
def jt_Sa_fit : List jv_E := [(0, .aload_n 0, 1, [], 0), (1, .getfield 34, 3, [15, 0, 2], 0), (4, .getfield 42, 3, [13, 1, 0], 0), (7, .ifCond .eq 26, 3, [33], 0), (10, .aload_n 0, 1, [], 0), (11, .getfield 34, 3, [15, 0, 2], 0), (14, .getfield 42, 3, [13, 1, 0], 0), (17, .bipush 6, 2, [], 6), (19, .if_icmp .gt 14, 3, [33], 0), (22, .aload_n 0, 1, [], 0), (23, .getfield 34, 3, [15, 0, 2], 0), (26, .getfield 47, 3, [13, 0, 0], 0), (29, .iconst 4, 1, [], 4), (30, .if_icmp .le 5, 3, [35], 0), (33, .iconst 0, 1, [], 0), (34, .ireturn, 1, [1], 0), (35, .iconst 0, 1, [], 0), (36, .istore_n 1, 1, [], 0), (37, .iload_n 1, 1, [], 0), (38, .aload_n 0, 1, [], 0), (39, .getfield 34, 3, [15, 0, 2], 0), (42, .getfield 42, 3, [13, 1, 0], 0), (45, .if_icmp .ge 24, 3, [69], 0), (48, .aload_n 0, 1, [], 0), (49, .getfield 34, 3, [15, 0, 2], 0), (52, .getfield 50, 3, [13, 4, 2], 0), (55, .iload_n 1, 1, [], 0), (56, .iaload, 1, [], 0), (57, .iconst 1, 1, [], 1), (58, .if_icmp .eq 5, 3, [63], 0), (61, .iconst 0, 1, [], 0), (62, .ireturn, 1, [1], 0), (63, .iinc 1 1, 3, [], 0), (66, .goto (-29), 3, [37], 0), (69, .iconst 1, 1, [], 1), (70, .ireturn, 1, [1], 0)]
abbrev kSa_fit : Nat := 73
def jt_Sa_work : List jv_E := [(0, .aload_n 0, 1, [], 0), (1, .getfield 30, 3, [15, 12, 0], 0), (4, .aload_n 0, 1, [], 0), (5, .getfield 38, 3, [15, 1, 2], 0), (8, .getfield 53, 3, [20, 5, 0], 0), (11, .if_icmp .ne 4, 3, [15], 0), (14, .return_, 1, [], 0), (15, .aload_n 0, 1, [], 0), (16, .aload_n 0, 1, [], 0), (17, .getfield 38, 3, [15, 1, 2], 0), (20, .getfield 53, 3, [20, 5, 0], 0), (23, .putfield 30, 3, [15, 12, 0], 0), (26, .aload_n 0, 1, [], 0), (27, .invokevirtual 58, 3, [75, 1, 16], 0), (30, .aload_n 0, 1, [], 0), (31, .iconst 0, 1, [], 0), (32, .invokevirtual 61, 3, [76, 2, 16], 0), (35, .iconst 0, 1, [], 0), (36, .istore_n 1, 1, [], 0), (37, .iload_n 1, 1, [], 0), (38, .sipush 15625, 3, [], 15625), (41, .if_icmp .ge 50, 3, [91], 0), (44, .aload_n 0, 1, [], 0), (45, .getfield 65, 3, [15, 8, 1], 0), (48, .ifCond .eq 43, 3, [91], 0), (51, .aload_n 0, 1, [], 0), (52, .getfield 18, 3, [15, 4, 2], 0), (55, .iconst 0, 1, [], 0), (56, .aload_n 0, 1, [], 0), (57, .getfield 15, 3, [15, 3, 2], 0), (60, .iconst 0, 1, [], 0), (61, .sipush 489, 3, [], 489), (64, .invokestatic 69, 3, [1000], 0), (67, .aload_n 0, 1, [], 0), (68, .getfield 18, 3, [15, 4, 2], 0), (71, .iconst 0, 1, [], 0), (72, .invokestatic 75, 3, [30, 2, 0], 0), (75, .aload_n 0, 1, [], 0), (76, .iconst 0, 1, [], 0), (77, .putfield 65, 3, [15, 8, 1], 0), (80, .aload_n 0, 1, [], 0), (81, .iload_n 1, 1, [], 0), (82, .invokevirtual 81, 3, [77, 2, 16], 0), (85, .iinc 1 1, 3, [], 0), (88, .goto (-51), 3, [37], 0), (91, .return_, 1, [], 0)]
abbrev kSa_work : Nat := 74
def jt_Sa_prepare_0 : List jv_E := [(0, .aload_n 0, 1, [], 0), (1, .getfield 11, 3, [15, 2, 2], 0), (4, .iconst 0, 1, [], 0), (5, .invokestatic 75, 3, [30, 2, 0], 0), (8, .aload_n 0, 1, [], 0), (9, .getfield 18, 3, [15, 4, 2], 0), (12, .iconst 0, 1, [], 0), (13, .invokestatic 75, 3, [30, 2, 0], 0), (16, .aload_n 0, 1, [], 0), (17, .iconst 0, 1, [], 0), (18, .putfield 84, 3, [15, 9, 0], 0), (21, .aload_n 0, 1, [], 0), (22, .iconst 0, 1, [], 0), (23, .putfield 87, 3, [15, 10, 0], 0), (26, .aload_n 0, 1, [], 0), (27, .bipush (-9), 2, [], (-9)), (29, .putfield 90, 3, [15, 11, 0], 0), (32, .iconst 1, 1, [], 1), (33, .istore_n 1, 1, [], 0), (34, .iconst 0, 1, [], 0), (35, .istore_n 2, 1, [], 0), (36, .iload_n 2, 1, [], 0), (37, .aload_n 0, 1, [], 0), (38, .getfield 34, 3, [15, 0, 2], 0), (41, .getfield 42, 3, [13, 1, 0], 0), (44, .if_icmp .ge 28, 3, [72], 0), (47, .aload_n 0, 1, [], 0), (48, .getfield 21, 3, [15, 5, 2], 0), (51, .iload_n 2, 1, [], 0), (52, .iload_n 1, 1, [], 0), (53, .iastore, 1, [], 0), (54, .iload_n 1, 1, [], 0), (55, .aload_n 0, 1, [], 0), (56, .getfield 34, 3, [15, 0, 2], 0), (59, .getfield 47, 3, [13, 0, 0], 0), (62, .iconst 1, 1, [], 1), (63, .iadd, 1, [], 0), (64, .imul, 1, [], 0), (65, .istore_n 1, 1, [], 0), (66, .iinc 2 1, 3, [], 0), (69, .goto (-33), 3, [36], 0), (72, .iconst 0, 1, [], 0), (73, .istore_n 2, 1, [], 0), (74, .iload_n 2, 1, [], 0), (75, .aload_n 0, 1, [], 0), (76, .getfield 34, 3, [15, 0, 2], 0), (79, .getfield 47, 3, [13, 0, 0], 0), (82, .if_icmp .ge 55, 3, [137], 0), (85, .aload_n 0, 1, [], 0), (86, .getfield 27, 3, [15, 7, 2], 0), (89, .iload_n 2, 1, [], 0), (90, .iconst 0, 1, [], 0), (91, .iastore, 1, [], 0), (92, .iconst 0, 1, [], 0), (93, .istore_n 3, 1, [], 0), (94, .iload_n 3, 1, [], 0), (95, .aload_n 0, 1, [], 0), (96, .getfield 34, 3, [15, 0, 2], 0), (99, .getfield 47, 3, [13, 0, 0], 0), (102, .if_icmp .ge 29, 3, [131], 0)]
def jt_Sa_prepare_1 : List jv_E := [(105, .aload_n 0, 1, [], 0), (106, .getfield 27, 3, [15, 7, 2], 0), (109, .iload_n 2, 1, [], 0), (110, .dup2, 1, [], 0), (111, .iaload, 1, [], 0), (112, .aload_n 0, 1, [], 0), (113, .getfield 38, 3, [15, 1, 2], 0), (116, .getfield 93, 3, [20, 2, 2], 0), (119, .iload_n 3, 1, [], 0), (120, .aaload, 1, [], 0), (121, .iload_n 2, 1, [], 0), (122, .iaload, 1, [], 0), (123, .ior, 1, [], 0), (124, .iastore, 1, [], 0), (125, .iinc 3 1, 3, [], 0), (128, .goto (-34), 3, [94], 0), (131, .iinc 2 1, 3, [], 0), (134, .goto (-60), 3, [74], 0), (137, .return_, 1, [], 0)]
def jt_Sa_prepare : List jv_E := jt_Sa_prepare_0 ++ (jt_Sa_prepare_1)
abbrev kSa_prepare : Nat := 75
def jt_Sa_reach : List jv_E := [(0, .iload_n 1, 1, [], 0), (1, .iconst 5, 1, [], 5), (2, .ishr, 1, [], 0), (3, .istore_n 2, 1, [], 0), (4, .iconst 1, 1, [], 1), (5, .iload_n 1, 1, [], 0), (6, .bipush 31, 2, [], 31), (8, .iand, 1, [], 0), (9, .ishl, 1, [], 0), (10, .istore_n 3, 1, [], 0), (11, .aload_n 0, 1, [], 0), (12, .getfield 11, 3, [15, 2, 2], 0), (15, .iload_n 2, 1, [], 0), (16, .iaload, 1, [], 0), (17, .iload_n 3, 1, [], 0), (18, .iand, 1, [], 0), (19, .ifCond .eq 4, 3, [23], 0), (22, .return_, 1, [], 0), (23, .aload_n 0, 1, [], 0), (24, .getfield 11, 3, [15, 2, 2], 0), (27, .iload_n 2, 1, [], 0), (28, .dup2, 1, [], 0), (29, .iaload, 1, [], 0), (30, .iload_n 3, 1, [], 0), (31, .ior, 1, [], 0), (32, .iastore, 1, [], 0), (33, .aload_n 0, 1, [], 0), (34, .getfield 18, 3, [15, 4, 2], 0), (37, .iload_n 2, 1, [], 0), (38, .dup2, 1, [], 0), (39, .iaload, 1, [], 0), (40, .iload_n 3, 1, [], 0), (41, .ior, 1, [], 0), (42, .iastore, 1, [], 0), (43, .aload_n 0, 1, [], 0), (44, .iconst 1, 1, [], 1), (45, .putfield 65, 3, [15, 8, 1], 0), (48, .return_, 1, [], 0)]
abbrev kSa_reach : Nat := 76
def jt_Sa_visitAll : List jv_E := [(0, .iconst 0, 1, [], 0), (1, .istore_n 2, 1, [], 0), (2, .iload_n 2, 1, [], 0), (3, .sipush 489, 3, [], 489), (6, .if_icmp .ge 43, 3, [49], 0), (9, .aload_n 0, 1, [], 0), (10, .getfield 15, 3, [15, 3, 2], 0), (13, .iload_n 2, 1, [], 0), (14, .iaload, 1, [], 0), (15, .istore_n 3, 1, [], 0), (16, .iload_n 3, 1, [], 0), (17, .ifCond .eq 26, 3, [43], 0), (20, .aload_n 0, 1, [], 0), (21, .iload_n 2, 1, [], 0), (22, .bipush 32, 2, [], 32), (24, .imul, 1, [], 0), (25, .iload_n 3, 1, [], 0), (26, .invokestatic 97, 3, [78, 1, 0], 0), (29, .iadd, 1, [], 0), (30, .iload_n 1, 1, [], 0), (31, .invokevirtual 103, 3, [79, 3, 16], 0), (34, .iload_n 3, 1, [], 0), (35, .iload_n 3, 1, [], 0), (36, .iconst 1, 1, [], 1), (37, .isub, 1, [], 0), (38, .iand, 1, [], 0), (39, .istore_n 3, 1, [], 0), (40, .goto (-24), 3, [16], 0), (43, .iinc 2 1, 3, [], 0), (46, .goto (-44), 3, [2], 0), (49, .return_, 1, [], 0)]
abbrev kSa_visitAll : Nat := 77
def jt_In_numberOfTrailingZeros : List jv_E := [(0, .iload_n 0, 1, [], 0), (1, .iconst (-1), 1, [], (-1)), (2, .ixor, 1, [], 0), (3, .iload_n 0, 1, [], 0), (4, .iconst 1, 1, [], 1), (5, .isub, 1, [], 0), (6, .iand, 1, [], 0), (7, .istore_n 0, 1, [], 0), (8, .iload_n 0, 1, [], 0), (9, .ifCond .gt 8, 3, [17], 0), (12, .iload_n 0, 1, [], 0), (13, .bipush 32, 2, [], 32), (15, .iand, 1, [], 0), (16, .ireturn, 1, [0], 0), (17, .iconst 1, 1, [], 1), (18, .istore_n 1, 1, [], 0), (19, .iload_n 0, 1, [], 0), (20, .ldc_w 264, 3, [], 65536), (23, .if_icmp .le 11, 3, [34], 0), (26, .iinc 1 16, 3, [], 0), (29, .iload_n 0, 1, [], 0), (30, .bipush 16, 2, [], 16), (32, .iushr, 1, [], 0), (33, .istore_n 0, 1, [], 0), (34, .iload_n 0, 1, [], 0), (35, .sipush 256, 3, [], 256), (38, .if_icmp .le 11, 3, [49], 0), (41, .iinc 1 8, 3, [], 0), (44, .iload_n 0, 1, [], 0), (45, .bipush 8, 2, [], 8), (47, .iushr, 1, [], 0), (48, .istore_n 0, 1, [], 0), (49, .iload_n 0, 1, [], 0), (50, .bipush 16, 2, [], 16), (52, .if_icmp .le 10, 3, [62], 0), (55, .iinc 1 4, 3, [], 0), (58, .iload_n 0, 1, [], 0), (59, .iconst 4, 1, [], 4), (60, .iushr, 1, [], 0), (61, .istore_n 0, 1, [], 0), (62, .iload_n 0, 1, [], 0), (63, .iconst 4, 1, [], 4), (64, .if_icmp .le 10, 3, [74], 0), (67, .iinc 1 2, 3, [], 0), (70, .iload_n 0, 1, [], 0), (71, .iconst 2, 1, [], 2), (72, .iushr, 1, [], 0), (73, .istore_n 0, 1, [], 0), (74, .iload_n 1, 1, [], 0), (75, .iload_n 0, 1, [], 0), (76, .iconst 1, 1, [], 1), (77, .iushr, 1, [], 0), (78, .iadd, 1, [], 0), (79, .ireturn, 1, [0], 0)]
abbrev kIn_numberOfTrailingZeros : Nat := 78
def jt_Sa_visit_0 : List jv_E := [(0, .iload_n 1, 1, [], 0), (1, .istore_n 3, 1, [], 0), (2, .iconst 0, 1, [], 0), (3, .istore 4, 2, [], 0), (5, .iconst 0, 1, [], 0), (6, .istore 5, 2, [], 0), (8, .iload 5, 2, [], 0), (10, .aload_n 0, 1, [], 0), (11, .getfield 34, 3, [15, 0, 2], 0), (14, .getfield 42, 3, [13, 1, 0], 0), (17, .if_icmp .ge 58, 3, [75], 0), (20, .aload_n 0, 1, [], 0), (21, .getfield 24, 3, [15, 6, 2], 0), (24, .iload 5, 2, [], 0), (26, .iload_n 3, 1, [], 0), (27, .aload_n 0, 1, [], 0), (28, .getfield 34, 3, [15, 0, 2], 0), (31, .getfield 47, 3, [13, 0, 0], 0), (34, .iconst 1, 1, [], 1), (35, .iadd, 1, [], 0), (36, .irem, 1, [], 0), (37, .iastore, 1, [], 0), (38, .iload_n 3, 1, [], 0), (39, .aload_n 0, 1, [], 0), (40, .getfield 34, 3, [15, 0, 2], 0), (43, .getfield 47, 3, [13, 0, 0], 0), (46, .iconst 1, 1, [], 1), (47, .iadd, 1, [], 0), (48, .idiv, 1, [], 0), (49, .istore_n 3, 1, [], 0), (50, .aload_n 0, 1, [], 0), (51, .getfield 24, 3, [15, 6, 2], 0), (54, .iload 5, 2, [], 0), (56, .iaload, 1, [], 0), (57, .ifCond .ne 12, 3, [69], 0), (60, .iload 4, 2, [], 0), (62, .iconst 1, 1, [], 1), (63, .iload 5, 2, [], 0), (65, .ishl, 1, [], 0), (66, .ior, 1, [], 0), (67, .istore 4, 2, [], 0), (69, .iinc 5 1, 3, [], 0), (72, .goto (-64), 3, [8], 0), (75, .aload_n 0, 1, [], 0), (76, .dup, 1, [], 0), (77, .getfield 84, 3, [15, 9, 0], 0), (80, .iconst 1, 1, [], 1), (81, .iadd, 1, [], 0), (82, .putfield 84, 3, [15, 9, 0], 0), (85, .aload_n 0, 1, [], 0), (86, .invokevirtual 107, 3, [80, 1, 16], 0), (89, .ifCond .eq 27, 3, [116], 0), (92, .aload_n 0, 1, [], 0), (93, .dup, 1, [], 0), (94, .getfield 87, 3, [15, 10, 0], 0), (97, .iconst 1, 1, [], 1), (98, .iadd, 1, [], 0), (99, .putfield 87, 3, [15, 10, 0], 0), (102, .aload_n 0, 1, [], 0), (103, .getfield 90, 3, [15, 11, 0], 0)]
def jt_Sa_visit_1 : List jv_E := [(106, .bipush (-9), 2, [], (-9)), (108, .if_icmp .ne 8, 3, [116], 0), (111, .aload_n 0, 1, [], 0), (112, .iload_n 2, 1, [], 0), (113, .putfield 90, 3, [15, 11, 0], 0), (116, .iconst 0, 1, [], 0), (117, .istore 5, 2, [], 0), (119, .iload 5, 2, [], 0), (121, .aload_n 0, 1, [], 0), (122, .getfield 34, 3, [15, 0, 2], 0), (125, .getfield 42, 3, [13, 1, 0], 0), (128, .if_icmp .ge 38, 3, [166], 0), (131, .aload_n 0, 1, [], 0), (132, .getfield 24, 3, [15, 6, 2], 0), (135, .iload 5, 2, [], 0), (137, .iaload, 1, [], 0), (138, .ifCond .ne 13, 3, [151], 0), (141, .aload_n 0, 1, [], 0), (142, .iload_n 1, 1, [], 0), (143, .iload 5, 2, [], 0), (145, .invokevirtual 111, 3, [81, 3, 16], 0), (148, .goto 12, 3, [160], 0), (151, .aload_n 0, 1, [], 0), (152, .iload_n 1, 1, [], 0), (153, .iload 5, 2, [], 0), (155, .iload 4, 2, [], 0), (157, .invokevirtual 114, 3, [82, 4, 16], 0), (160, .iinc 5 1, 3, [], 0), (163, .goto (-44), 3, [119], 0), (166, .return_, 1, [], 0)]
def jt_Sa_visit : List jv_E := jt_Sa_visit_0 ++ (jt_Sa_visit_1)
abbrev kSa_visit : Nat := 79
def jt_Sa_isDead_0 : List jv_E := [(0, .iconst 0, 1, [], 0), (1, .istore_n 1, 1, [], 0), (2, .iconst 0, 1, [], 0), (3, .istore_n 2, 1, [], 0), (4, .iload_n 2, 1, [], 0), (5, .aload_n 0, 1, [], 0), (6, .getfield 34, 3, [15, 0, 2], 0), (9, .getfield 42, 3, [13, 1, 0], 0), (12, .if_icmp .ge 44, 3, [56], 0), (15, .aload_n 0, 1, [], 0), (16, .getfield 24, 3, [15, 6, 2], 0), (19, .iload_n 2, 1, [], 0), (20, .iaload, 1, [], 0), (21, .ifCond .eq 29, 3, [50], 0), (24, .aload_n 0, 1, [], 0), (25, .getfield 24, 3, [15, 6, 2], 0), (28, .iload_n 2, 1, [], 0), (29, .iaload, 1, [], 0), (30, .iconst 1, 1, [], 1), (31, .isub, 1, [], 0), (32, .aload_n 0, 1, [], 0), (33, .getfield 34, 3, [15, 0, 2], 0), (36, .getfield 118, 3, [13, 3, 2], 0), (39, .iload_n 2, 1, [], 0), (40, .iaload, 1, [], 0), (41, .if_icmp .eq 9, 3, [50], 0), (44, .iload_n 1, 1, [], 0), (45, .iconst 1, 1, [], 1), (46, .iload_n 2, 1, [], 0), (47, .ishl, 1, [], 0), (48, .ior, 1, [], 0), (49, .istore_n 1, 1, [], 0), (50, .iinc 2 1, 3, [], 0), (53, .goto (-49), 3, [4], 0), (56, .iconst 0, 1, [], 0), (57, .istore_n 2, 1, [], 0), (58, .iload_n 2, 1, [], 0), (59, .aload_n 0, 1, [], 0), (60, .getfield 34, 3, [15, 0, 2], 0), (63, .getfield 42, 3, [13, 1, 0], 0), (66, .if_icmp .ge 88, 3, [154], 0), (69, .iload_n 1, 1, [], 0), (70, .ifCond .eq 84, 3, [154], 0), (73, .iload_n 1, 1, [], 0), (74, .istore_n 3, 1, [], 0), (75, .iconst 0, 1, [], 0), (76, .istore 4, 2, [], 0), (78, .iload 4, 2, [], 0), (80, .aload_n 0, 1, [], 0), (81, .getfield 34, 3, [15, 0, 2], 0), (84, .getfield 42, 3, [13, 1, 0], 0), (87, .if_icmp .ge 54, 3, [141], 0), (90, .iload_n 1, 1, [], 0), (91, .iload 4, 2, [], 0), (93, .invokestatic 121, 3, [45, 2, 0], 0), (96, .ifCond .eq 39, 3, [135], 0), (99, .aload_n 0, 1, [], 0), (100, .getfield 38, 3, [15, 1, 2], 0), (103, .getfield 125, 3, [20, 3, 2], 0), (106, .iload 4, 2, [], 0)]
def jt_Sa_isDead_1 : List jv_E := [(108, .aaload, 1, [], 0), (109, .aload_n 0, 1, [], 0), (110, .getfield 24, 3, [15, 6, 2], 0), (113, .iload 4, 2, [], 0), (115, .iaload, 1, [], 0), (116, .iconst 1, 1, [], 1), (117, .isub, 1, [], 0), (118, .iaload, 1, [], 0), (119, .iload_n 1, 1, [], 0), (120, .iconst (-1), 1, [], (-1)), (121, .ixor, 1, [], 0), (122, .iand, 1, [], 0), (123, .ifCond .eq 12, 3, [135], 0), (126, .iload_n 1, 1, [], 0), (127, .iconst 1, 1, [], 1), (128, .iload 4, 2, [], 0), (130, .ishl, 1, [], 0), (131, .iconst (-1), 1, [], (-1)), (132, .ixor, 1, [], 0), (133, .iand, 1, [], 0), (134, .istore_n 1, 1, [], 0), (135, .iinc 4 1, 3, [], 0), (138, .goto (-60), 3, [78], 0), (141, .iload_n 1, 1, [], 0), (142, .iload_n 3, 1, [], 0), (143, .if_icmp .ne 5, 3, [148], 0), (146, .iconst 1, 1, [], 1), (147, .ireturn, 1, [1], 0), (148, .iinc 2 1, 3, [], 0), (151, .goto (-93), 3, [58], 0), (154, .iload_n 1, 1, [], 0), (155, .ifCond .eq 7, 3, [162], 0), (158, .iconst 1, 1, [], 1), (159, .goto 4, 3, [163], 0), (162, .iconst 0, 1, [], 0), (163, .ireturn, 1, [1], 0)]
def jt_Sa_isDead : List jv_E := jt_Sa_isDead_0 ++ (jt_Sa_isDead_1)
abbrev kSa_isDead : Nat := 80
def jt_Sa_setOut : List jv_E := [(0, .iconst 0, 1, [], 0), (1, .istore_n 3, 1, [], 0), (2, .iload_n 3, 1, [], 0), (3, .aload_n 0, 1, [], 0), (4, .getfield 34, 3, [15, 0, 2], 0), (7, .getfield 47, 3, [13, 0, 0], 0), (10, .if_icmp .ge 38, 3, [48], 0), (13, .aload_n 0, 1, [], 0), (14, .getfield 27, 3, [15, 7, 2], 0), (17, .iload_n 3, 1, [], 0), (18, .iaload, 1, [], 0), (19, .iload_n 2, 1, [], 0), (20, .invokestatic 121, 3, [45, 2, 0], 0), (23, .ifCond .eq 19, 3, [42], 0), (26, .aload_n 0, 1, [], 0), (27, .iload_n 1, 1, [], 0), (28, .iload_n 3, 1, [], 0), (29, .iconst 1, 1, [], 1), (30, .iadd, 1, [], 0), (31, .aload_n 0, 1, [], 0), (32, .getfield 21, 3, [15, 5, 2], 0), (35, .iload_n 2, 1, [], 0), (36, .iaload, 1, [], 0), (37, .imul, 1, [], 0), (38, .iadd, 1, [], 0), (39, .invokevirtual 61, 3, [76, 2, 16], 0), (42, .iinc 3 1, 3, [], 0), (45, .goto (-43), 3, [2], 0), (48, .return_, 1, [], 0)]
abbrev kSa_setOut : Nat := 81
def jt_Sa_goOn_0 : List jv_E := [(0, .iload_n 1, 1, [], 0), (1, .aload_n 0, 1, [], 0), (2, .getfield 24, 3, [15, 6, 2], 0), (5, .iload_n 2, 1, [], 0), (6, .iaload, 1, [], 0), (7, .aload_n 0, 1, [], 0), (8, .getfield 21, 3, [15, 5, 2], 0), (11, .iload_n 2, 1, [], 0), (12, .iaload, 1, [], 0), (13, .imul, 1, [], 0), (14, .isub, 1, [], 0), (15, .istore 4, 2, [], 0), (17, .aload_n 0, 1, [], 0), (18, .getfield 34, 3, [15, 0, 2], 0), (21, .getfield 118, 3, [13, 3, 2], 0), (24, .iload_n 2, 1, [], 0), (25, .iaload, 1, [], 0), (26, .aload_n 0, 1, [], 0), (27, .getfield 24, 3, [15, 6, 2], 0), (30, .iload_n 2, 1, [], 0), (31, .iaload, 1, [], 0), (32, .iconst 1, 1, [], 1), (33, .isub, 1, [], 0), (34, .if_icmp .ne 10, 3, [44], 0), (37, .aload_n 0, 1, [], 0), (38, .iload 4, 2, [], 0), (40, .invokevirtual 61, 3, [76, 2, 16], 0), (43, .return_, 1, [], 0), (44, .aload_n 0, 1, [], 0), (45, .getfield 38, 3, [15, 1, 2], 0), (48, .getfield 125, 3, [20, 3, 2], 0), (51, .iload_n 2, 1, [], 0), (52, .aaload, 1, [], 0), (53, .aload_n 0, 1, [], 0), (54, .getfield 24, 3, [15, 6, 2], 0), (57, .iload_n 2, 1, [], 0), (58, .iaload, 1, [], 0), (59, .iconst 1, 1, [], 1), (60, .isub, 1, [], 0), (61, .iaload, 1, [], 0), (62, .iload_n 3, 1, [], 0), (63, .iand, 1, [], 0), (64, .istore 5, 2, [], 0), (66, .iconst 0, 1, [], 0), (67, .istore 6, 2, [], 0), (69, .iload 6, 2, [], 0), (71, .aload_n 0, 1, [], 0), (72, .getfield 34, 3, [15, 0, 2], 0), (75, .getfield 42, 3, [13, 1, 0], 0), (78, .if_icmp .ge 40, 3, [118], 0), (81, .iload 5, 2, [], 0), (83, .iload 6, 2, [], 0), (85, .invokestatic 121, 3, [45, 2, 0], 0), (88, .ifCond .eq 24, 3, [112], 0), (91, .aload_n 0, 1, [], 0), (92, .iload 4, 2, [], 0), (94, .aload_n 0, 1, [], 0), (95, .getfield 24, 3, [15, 6, 2], 0), (98, .iload_n 2, 1, [], 0), (99, .iaload, 1, [], 0)]
def jt_Sa_goOn_1 : List jv_E := [(100, .aload_n 0, 1, [], 0), (101, .getfield 21, 3, [15, 5, 2], 0), (104, .iload 6, 2, [], 0), (106, .iaload, 1, [], 0), (107, .imul, 1, [], 0), (108, .iadd, 1, [], 0), (109, .invokevirtual 61, 3, [76, 2, 16], 0), (112, .iinc 6 1, 3, [], 0), (115, .goto (-46), 3, [69], 0), (118, .return_, 1, [], 0)]
def jt_Sa_goOn : List jv_E := jt_Sa_goOn_0 ++ (jt_Sa_goOn_1)
abbrev kSa_goOn : Nat := 82
def jt_X_send : List jv_E := [(0, .aload_n 0, 1, [], 0), (1, .getfield 28, 3, [21, 2, 2], 0), (4, .iload_n 2, 1, [], 0), (5, .iload_n 3, 1, [], 0), (6, .invokevirtual 154, 3, [39, 3, 14], 0), (9, .ifCond .ne 5, 3, [14], 0), (12, .iconst (-1), 1, [], (-1)), (13, .ireturn, 1, [0], 0), (14, .iload_n 1, 1, [], 0), (15, .invokestatic 231, 3, [84, 1, 0], 0), (18, .ifCond .eq 8, 3, [26], 0), (21, .iload_n 2, 1, [], 0), (22, .iload_n 3, 1, [], 0), (23, .if_icmp .ne 6, 3, [29], 0), (26, .bipush (-2), 2, [], (-2)), (28, .ireturn, 1, [0], 0), (29, .aload_n 0, 1, [], 0), (30, .getfield 69, 3, [21, 7, 2], 0), (33, .iload_n 1, 1, [], 0), (34, .aload_n 0, 1, [], 0), (35, .getfield 37, 3, [21, 3, 2], 0), (38, .getfield 180, 3, [20, 2, 2], 0), (41, .iload_n 2, 1, [], 0), (42, .aaload, 1, [], 0), (43, .iload_n 3, 1, [], 0), (44, .iaload, 1, [], 0), (45, .invokevirtual 234, 3, [85, 3, 19], 0), (48, .istore 4, 2, [], 0), (50, .iload 4, 2, [], 0), (52, .bipush (-9), 2, [], (-9)), (54, .if_icmp .ne 6, 3, [60], 0), (57, .bipush (-3), 2, [], (-3)), (59, .ireturn, 1, [0], 0), (60, .aload_n 0, 1, [], 0), (61, .getfield 69, 3, [21, 7, 2], 0), (64, .getfield 237, 3, [18, 5, 0], 0), (67, .bipush 30, 2, [], 30), (69, .if_icmp .lt 6, 3, [75], 0), (72, .bipush (-4), 2, [], (-4)), (74, .ireturn, 1, [0], 0), (75, .aload_n 0, 1, [], 0), (76, .getfield 69, 3, [21, 7, 2], 0), (79, .iload_n 1, 1, [], 0), (80, .iload_n 2, 1, [], 0), (81, .iload_n 3, 1, [], 0), (82, .iload 4, 2, [], 0), (84, .invokevirtual 238, 3, [87, 5, 19], 0), (87, .ireturn, 1, [0], 0)]
abbrev kX_send : Nat := 83
def jt_X_isKind : List jv_E := [(0, .iload_n 0, 1, [], 0), (1, .ifCond .lt 12, 3, [13], 0), (4, .iload_n 0, 1, [], 0), (5, .iconst 2, 1, [], 2), (6, .if_icmp .gt 7, 3, [13], 0), (9, .iconst 1, 1, [], 1), (10, .goto 4, 3, [14], 0), (13, .iconst 0, 1, [], 0), (14, .ireturn, 1, [1], 0)]
abbrev kX_isKind : Nat := 84
def jt_Tr_choose : List jv_E := [(0, .iconst 0, 1, [], 0), (1, .istore_n 3, 1, [], 0), (2, .iload_n 3, 1, [], 0), (3, .aload_n 0, 1, [], 0), (4, .getfield 26, 3, [18, 0, 2], 0), (7, .getfield 47, 3, [13, 1, 0], 0), (10, .if_icmp .ge 38, 3, [48], 0), (13, .iload_n 2, 1, [], 0), (14, .iload_n 3, 1, [], 0), (15, .invokestatic 55, 3, [45, 2, 0], 0), (18, .ifCond .ne 6, 3, [24], 0), (21, .goto 21, 3, [42], 0), (24, .aload_n 0, 1, [], 0), (25, .iload_n 3, 1, [], 0), (26, .invokevirtual 59, 3, [86, 2, 19], 0), (29, .ifCond .eq 5, 3, [34], 0), (32, .iload_n 3, 1, [], 0), (33, .ireturn, 1, [0], 0), (34, .iload_n 1, 1, [], 0), (35, .iconst 2, 1, [], 2), (36, .if_icmp .ne 6, 3, [42], 0), (39, .bipush (-9), 2, [], (-9)), (41, .ireturn, 1, [0], 0), (42, .iinc 3 1, 3, [], 0), (45, .goto (-43), 3, [2], 0), (48, .bipush (-9), 2, [], (-9)), (50, .ireturn, 1, [0], 0)]
abbrev kTr_choose : Nat := 85
def jt_Tr_hasRoom : List jv_E := [(0, .aload_n 0, 1, [], 0), (1, .getfield 22, 3, [18, 4, 2], 0), (4, .iload_n 1, 1, [], 0), (5, .iaload, 1, [], 0), (6, .aload_n 0, 1, [], 0), (7, .getfield 26, 3, [18, 0, 2], 0), (10, .getfield 52, 3, [13, 4, 2], 0), (13, .iload_n 1, 1, [], 0), (14, .iaload, 1, [], 0), (15, .if_icmp .ge 7, 3, [22], 0), (18, .iconst 1, 1, [], 1), (19, .goto 4, 3, [23], 0), (22, .iconst 0, 1, [], 0), (23, .ireturn, 1, [1], 0)]
abbrev kTr_hasRoom : Nat := 86
def jt_Tr_setOut : List jv_E := [(0, .new 9, 3, [1, 8], 0), (3, .dup, 1, [], 0), (4, .aload_n 0, 1, [], 0), (5, .getfield 40, 3, [18, 5, 0], 0), (8, .iload_n 1, 1, [], 0), (9, .iload_n 2, 1, [], 0), (10, .iload_n 3, 1, [], 0), (11, .invokespecial 63, 3, [88, 5, 12], 0), (14, .astore 5, 2, [], 0), (16, .aload_n 0, 1, [], 0), (17, .getfield 11, 3, [18, 2, 2], 0), (20, .aload_n 0, 1, [], 0), (21, .getfield 40, 3, [18, 5, 0], 0), (24, .aload 5, 2, [], 0), (26, .aastore, 1, [], 0), (27, .aload_n 0, 1, [], 0), (28, .dup, 1, [], 0), (29, .getfield 40, 3, [18, 5, 0], 0), (32, .iconst 1, 1, [], 1), (33, .iadd, 1, [], 0), (34, .putfield 40, 3, [18, 5, 0], 0), (37, .aload_n 0, 1, [], 0), (38, .aload 5, 2, [], 0), (40, .iload 4, 2, [], 0), (42, .invokevirtual 66, 3, [89, 3, 19], 0), (45, .aload 5, 2, [], 0), (47, .getfield 70, 3, [11, 0, 0], 0), (50, .ireturn, 1, [0], 0)]
abbrev kTr_setOut : Nat := 87
def jt_Ld_init : List jv_E := [(0, .aload_n 0, 1, [], 0), (1, .invokespecial 3, 3, [1001], 0), (4, .aload_n 0, 1, [], 0), (5, .bipush (-9), 2, [], (-9)), (7, .putfield 9, 3, [11, 4, 0], 0), (10, .aload_n 0, 1, [], 0), (11, .bipush (-9), 2, [], (-9)), (13, .putfield 15, 3, [11, 6, 0], 0), (16, .aload_n 0, 1, [], 0), (17, .bipush (-9), 2, [], (-9)), (19, .putfield 18, 3, [11, 7, 0], 0), (22, .aload_n 0, 1, [], 0), (23, .iload_n 1, 1, [], 0), (24, .putfield 21, 3, [11, 0, 0], 0), (27, .aload_n 0, 1, [], 0), (28, .iload_n 2, 1, [], 0), (29, .putfield 24, 3, [11, 1, 0], 0), (32, .aload_n 0, 1, [], 0), (33, .iload_n 3, 1, [], 0), (34, .putfield 27, 3, [11, 2, 0], 0), (37, .aload_n 0, 1, [], 0), (38, .iload 4, 2, [], 0), (40, .putfield 30, 3, [11, 3, 0], 0), (43, .return_, 1, [], 0)]
abbrev kLd_init : Nat := 88
def jt_Tr_enter : List jv_E := [(0, .aload_n 0, 1, [], 0), (1, .getfield 19, 3, [18, 3, 2], 0), (4, .iload_n 2, 1, [], 0), (5, .aaload, 1, [], 0), (6, .aload_n 0, 1, [], 0), (7, .getfield 22, 3, [18, 4, 2], 0), (10, .iload_n 2, 1, [], 0), (11, .iaload, 1, [], 0), (12, .aload_n 1, 1, [], 0), (13, .getfield 70, 3, [11, 0, 0], 0), (16, .iastore, 1, [], 0), (17, .aload_n 0, 1, [], 0), (18, .getfield 22, 3, [18, 4, 2], 0), (21, .iload_n 2, 1, [], 0), (22, .dup2, 1, [], 0), (23, .iaload, 1, [], 0), (24, .iconst 1, 1, [], 1), (25, .iadd, 1, [], 0), (26, .iastore, 1, [], 0), (27, .aload_n 1, 1, [], 0), (28, .iload_n 2, 1, [], 0), (29, .putfield 73, 3, [11, 4, 0], 0), (32, .aload_n 1, 1, [], 0), (33, .dup, 1, [], 0), (34, .getfield 76, 3, [11, 5, 0], 0), (37, .iconst 1, 1, [], 1), (38, .iadd, 1, [], 0), (39, .putfield 76, 3, [11, 5, 0], 0), (42, .return_, 1, [], 0)]
abbrev kTr_enter : Nat := 89
def jt_X_ticks : List jv_E := [(0, .iload_n 1, 1, [], 0), (1, .ifCond .lt 9, 3, [10], 0), (4, .iload_n 1, 1, [], 0), (5, .bipush 50, 2, [], 50), (7, .if_icmp .le 6, 3, [13], 0), (10, .bipush (-2), 2, [], (-2)), (12, .ireturn, 1, [0], 0), (13, .aload_n 0, 1, [], 0), (14, .getfield 28, 3, [21, 2, 2], 0), (17, .getfield 131, 3, [13, 1, 0], 0), (20, .ifCond .ne 6, 3, [26], 0), (23, .bipush (-3), 2, [], (-3)), (25, .ireturn, 1, [0], 0), (26, .iconst 0, 1, [], 0), (27, .istore_n 2, 1, [], 0), (28, .iconst 0, 1, [], 0), (29, .istore_n 3, 1, [], 0), (30, .iload_n 3, 1, [], 0), (31, .iload_n 1, 1, [], 0), (32, .if_icmp .ge 19, 3, [51], 0), (35, .iload_n 2, 1, [], 0), (36, .aload_n 0, 1, [], 0), (37, .getfield 69, 3, [21, 7, 2], 0), (40, .invokevirtual 242, 3, [91, 1, 19], 0), (43, .iadd, 1, [], 0), (44, .istore_n 2, 1, [], 0), (45, .iinc 3 1, 3, [], 0), (48, .goto (-18), 3, [30], 0), (51, .iload_n 2, 1, [], 0), (52, .ireturn, 1, [0], 0)]
abbrev kX_ticks : Nat := 90
def jt_Tr_tickOnce : List jv_E := [(0, .aload_n 0, 1, [], 0), (1, .iconst 1, 1, [], 1), (2, .iconst 0, 1, [], 0), (3, .invokevirtual 79, 3, [92, 3, 19], 0), (6, .istore_n 1, 1, [], 0), (7, .aload_n 0, 1, [], 0), (8, .iconst 0, 1, [], 0), (9, .iload_n 1, 1, [], 0), (10, .invokevirtual 79, 3, [92, 3, 19], 0), (13, .istore_n 1, 1, [], 0), (14, .aload_n 0, 1, [], 0), (15, .dup, 1, [], 0), (16, .getfield 44, 3, [18, 6, 0], 0), (19, .iconst 1, 1, [], 1), (20, .iadd, 1, [], 0), (21, .putfield 44, 3, [18, 6, 0], 0), (24, .iload_n 1, 1, [], 0), (25, .invokestatic 83, 3, [70, 1, 0], 0), (28, .ireturn, 1, [0], 0)]
abbrev kTr_tickOnce : Nat := 91
def jt_Tr_moveFirsts : List jv_E := [(0, .iload_n 2, 1, [], 0), (1, .istore_n 3, 1, [], 0), (2, .iconst 0, 1, [], 0), (3, .istore 4, 2, [], 0), (5, .iload 4, 2, [], 0), (7, .aload_n 0, 1, [], 0), (8, .getfield 26, 3, [18, 0, 2], 0), (11, .getfield 47, 3, [13, 1, 0], 0), (14, .if_icmp .ge 97, 3, [111], 0), (17, .aload_n 0, 1, [], 0), (18, .aload_n 0, 1, [], 0), (19, .iload 4, 2, [], 0), (21, .iconst 0, 1, [], 0), (22, .invokevirtual 89, 3, [37, 3, 19], 0), (25, .invokevirtual 93, 3, [93, 2, 19], 0), (28, .astore 5, 2, [], 0), (30, .aload 5, 2, [], 0), (32, .ifnull 73, 3, [105], 0), (35, .iload_n 3, 1, [], 0), (36, .iload 4, 2, [], 0), (38, .invokestatic 55, 3, [45, 2, 0], 0), (41, .ifCond .ne 64, 3, [105], 0), (44, .aload 5, 2, [], 0), (46, .getfield 97, 3, [11, 7, 0], 0), (49, .aload_n 0, 1, [], 0), (50, .getfield 44, 3, [18, 6, 0], 0), (53, .if_icmp .ne 6, 3, [59], 0), (56, .goto 49, 3, [105], 0), (59, .iload_n 1, 1, [], 0), (60, .aload 5, 2, [], 0), (62, .getfield 100, 3, [11, 1, 0], 0), (65, .iconst 1, 1, [], 1), (66, .if_icmp .lt 7, 3, [73], 0), (69, .iconst 1, 1, [], 1), (70, .goto 4, 3, [74], 0), (73, .iconst 0, 1, [], 0), (74, .if_icmp .ne 7, 3, [81], 0), (77, .iconst 1, 1, [], 1), (78, .goto 4, 3, [82], 0), (81, .iconst 0, 1, [], 0), (82, .istore 6, 2, [], 0), (84, .iload 6, 2, [], 0), (86, .ifCond .eq 19, 3, [105], 0), (89, .aload_n 0, 1, [], 0), (90, .aload 5, 2, [], 0), (92, .invokevirtual 103, 3, [94, 2, 19], 0), (95, .ifCond .eq 10, 3, [105], 0), (98, .iload_n 3, 1, [], 0), (99, .iconst 1, 1, [], 1), (100, .iload 4, 2, [], 0), (102, .ishl, 1, [], 0), (103, .ior, 1, [], 0), (104, .istore_n 3, 1, [], 0), (105, .iinc 4 1, 3, [], 0), (108, .goto (-103), 3, [5], 0), (111, .iload_n 3, 1, [], 0), (112, .ireturn, 1, [0], 0)]
abbrev kTr_moveFirsts : Nat := 92
def jt_Tr_numbered : List jv_E := [(0, .iload_n 1, 1, [], 0), (1, .ifCond .lt 20, 3, [21], 0), (4, .iload_n 1, 1, [], 0), (5, .aload_n 0, 1, [], 0), (6, .getfield 40, 3, [18, 5, 0], 0), (9, .if_icmp .ge 12, 3, [21], 0), (12, .aload_n 0, 1, [], 0), (13, .getfield 11, 3, [18, 2, 2], 0), (16, .iload_n 1, 1, [], 0), (17, .aaload, 1, [], 0), (18, .goto 4, 3, [22], 0), (21, .aconst_null, 1, [], 0), (22, .areturn, 1, [], 0)]
abbrev kTr_numbered : Nat := 93
def jt_Tr_moves_0 : List jv_E := [(0, .aload_n 1, 1, [], 0), (1, .getfield 73, 3, [11, 4, 0], 0), (4, .istore_n 2, 1, [], 0), (5, .aload_n 0, 1, [], 0), (6, .getfield 26, 3, [18, 0, 2], 0), (9, .getfield 107, 3, [13, 3, 2], 0), (12, .iload_n 2, 1, [], 0), (13, .iaload, 1, [], 0), (14, .aload_n 1, 1, [], 0), (15, .getfield 110, 3, [11, 3, 0], 0), (18, .if_icmp .ne 7, 3, [25], 0), (21, .iconst 1, 1, [], 1), (22, .goto 4, 3, [26], 0), (25, .iconst 0, 1, [], 0), (26, .istore_n 3, 1, [], 0), (27, .iload_n 3, 1, [], 0), (28, .ifCond .eq 8, 3, [36], 0), (31, .bipush (-9), 2, [], (-9)), (33, .goto 25, 3, [58], 0), (36, .aload_n 0, 1, [], 0), (37, .aload_n 1, 1, [], 0), (38, .getfield 100, 3, [11, 1, 0], 0), (41, .aload_n 0, 1, [], 0), (42, .getfield 30, 3, [18, 1, 2], 0), (45, .getfield 113, 3, [20, 3, 2], 0), (48, .iload_n 2, 1, [], 0), (49, .aaload, 1, [], 0), (50, .aload_n 1, 1, [], 0), (51, .getfield 110, 3, [11, 3, 0], 0), (54, .iaload, 1, [], 0), (55, .invokevirtual 118, 3, [85, 3, 19], 0), (58, .istore 4, 2, [], 0), (60, .iload_n 3, 1, [], 0), (61, .ifCond .ne 12, 3, [73], 0), (64, .iload 4, 2, [], 0), (66, .bipush (-9), 2, [], (-9)), (68, .if_icmp .ne 5, 3, [73], 0), (71, .iconst 0, 1, [], 0), (72, .ireturn, 1, [1], 0), (73, .aload_n 0, 1, [], 0), (74, .getfield 22, 3, [18, 4, 2], 0), (77, .iload_n 2, 1, [], 0), (78, .dup2, 1, [], 0), (79, .iaload, 1, [], 0), (80, .iconst 1, 1, [], 1), (81, .isub, 1, [], 0), (82, .iastore, 1, [], 0), (83, .iconst 0, 1, [], 0), (84, .istore 5, 2, [], 0), (86, .iload 5, 2, [], 0), (88, .aload_n 0, 1, [], 0), (89, .getfield 22, 3, [18, 4, 2], 0), (92, .iload_n 2, 1, [], 0), (93, .iaload, 1, [], 0), (94, .if_icmp .ge 29, 3, [123], 0), (97, .aload_n 0, 1, [], 0), (98, .getfield 19, 3, [18, 3, 2], 0), (101, .iload_n 2, 1, [], 0), (102, .aaload, 1, [], 0), (103, .iload 5, 2, [], 0)]
def jt_Tr_moves_1 : List jv_E := [(105, .aload_n 0, 1, [], 0), (106, .getfield 19, 3, [18, 3, 2], 0), (109, .iload_n 2, 1, [], 0), (110, .aaload, 1, [], 0), (111, .iload 5, 2, [], 0), (113, .iconst 1, 1, [], 1), (114, .iadd, 1, [], 0), (115, .iaload, 1, [], 0), (116, .iastore, 1, [], 0), (117, .iinc 5 1, 3, [], 0), (120, .goto (-34), 3, [86], 0), (123, .aload_n 1, 1, [], 0), (124, .aload_n 0, 1, [], 0), (125, .getfield 44, 3, [18, 6, 0], 0), (128, .putfield 97, 3, [11, 7, 0], 0), (131, .iload_n 3, 1, [], 0), (132, .ifCond .eq 20, 3, [152], 0), (135, .aload_n 1, 1, [], 0), (136, .bipush (-9), 2, [], (-9)), (138, .putfield 73, 3, [11, 4, 0], 0), (141, .aload_n 1, 1, [], 0), (142, .aload_n 0, 1, [], 0), (143, .getfield 44, 3, [18, 6, 0], 0), (146, .putfield 121, 3, [11, 6, 0], 0), (149, .goto 10, 3, [159], 0), (152, .aload_n 0, 1, [], 0), (153, .aload_n 1, 1, [], 0), (154, .iload 4, 2, [], 0), (156, .invokevirtual 66, 3, [89, 3, 19], 0), (159, .iconst 1, 1, [], 1), (160, .ireturn, 1, [1], 0)]
def jt_Tr_moves : List jv_E := jt_Tr_moves_0 ++ (jt_Tr_moves_1)
abbrev kTr_moves : Nat := 94
def jt_X_ofLoad : List jv_E := [(0, .aload_n 0, 1, [], 0), (1, .getfield 69, 3, [21, 7, 2], 0), (4, .iload_n 1, 1, [], 0), (5, .invokevirtual 246, 3, [93, 2, 19], 0), (8, .astore_n 3, 1, [], 0), (9, .aload_n 3, 1, [], 0), (10, .ifnonnull 5, 3, [15], 0), (13, .iconst (-1), 1, [], (-1)), (14, .ireturn, 1, [0], 0), (15, .iload_n 2, 1, [], 0), (16, .tableswitch 70 0 5 #[40, 45, 50, 55, 60, 65], 40, [86, 56, 61, 66, 71, 76, 81], 0), (56, .aload_n 3, 1, [], 0), (57, .getfield 250, 3, [11, 1, 0], 0), (60, .ireturn, 1, [0], 0), (61, .aload_n 3, 1, [], 0), (62, .getfield 255, 3, [11, 2, 0], 0), (65, .ireturn, 1, [0], 0), (66, .aload_n 3, 1, [], 0), (67, .getfield 258, 3, [11, 3, 0], 0), (70, .ireturn, 1, [0], 0), (71, .aload_n 3, 1, [], 0), (72, .getfield 261, 3, [11, 4, 0], 0), (75, .ireturn, 1, [0], 0), (76, .aload_n 3, 1, [], 0), (77, .getfield 264, 3, [11, 5, 0], 0), (80, .ireturn, 1, [0], 0), (81, .aload_n 3, 1, [], 0), (82, .getfield 267, 3, [11, 6, 0], 0), (85, .ireturn, 1, [0], 0), (86, .bipush (-2), 2, [], (-2)), (88, .ireturn, 1, [0], 0)]
abbrev kX_ofLoad : Nat := 95
def jt_X_frozen : List jv_E := [(0, .aload_n 0, 1, [], 0), (1, .getfield 69, 3, [21, 7, 2], 0), (4, .invokevirtual 270, 3, [97, 1, 19], 0), (7, .ireturn, 1, [0], 0)]
abbrev kX_frozen : Nat := 96
def jt_Tr_frozenSet_0 : List jv_E := [(0, .iconst 0, 1, [], 0), (1, .istore_n 1, 1, [], 0), (2, .iconst 0, 1, [], 0), (3, .istore_n 2, 1, [], 0), (4, .iload_n 2, 1, [], 0), (5, .aload_n 0, 1, [], 0), (6, .getfield 26, 3, [18, 0, 2], 0), (9, .getfield 47, 3, [13, 1, 0], 0), (12, .if_icmp .ge 40, 3, [52], 0), (15, .iconst 0, 1, [], 0), (16, .istore_n 3, 1, [], 0), (17, .iload_n 3, 1, [], 0), (18, .aload_n 0, 1, [], 0), (19, .getfield 22, 3, [18, 4, 2], 0), (22, .iload_n 2, 1, [], 0), (23, .iaload, 1, [], 0), (24, .if_icmp .ge 22, 3, [46], 0), (27, .iload_n 1, 1, [], 0), (28, .iconst 1, 1, [], 1), (29, .aload_n 0, 1, [], 0), (30, .getfield 19, 3, [18, 3, 2], 0), (33, .iload_n 2, 1, [], 0), (34, .aaload, 1, [], 0), (35, .iload_n 3, 1, [], 0), (36, .iaload, 1, [], 0), (37, .ishl, 1, [], 0), (38, .ior, 1, [], 0), (39, .istore_n 1, 1, [], 0), (40, .iinc 3 1, 3, [], 0), (43, .goto (-26), 3, [17], 0), (46, .iinc 2 1, 3, [], 0), (49, .goto (-45), 3, [4], 0), (52, .iconst 0, 1, [], 0), (53, .istore_n 2, 1, [], 0), (54, .iload_n 2, 1, [], 0), (55, .bipush 30, 2, [], 30), (57, .if_icmp .gt 47, 3, [104], 0), (60, .iload_n 1, 1, [], 0), (61, .istore_n 3, 1, [], 0), (62, .iconst 0, 1, [], 0), (63, .istore 4, 2, [], 0), (65, .iload 4, 2, [], 0), (67, .aload_n 0, 1, [], 0), (68, .getfield 26, 3, [18, 0, 2], 0), (71, .getfield 47, 3, [13, 1, 0], 0), (74, .if_icmp .ge 17, 3, [91], 0), (77, .aload_n 0, 1, [], 0), (78, .iload 4, 2, [], 0), (80, .iload_n 1, 1, [], 0), (81, .invokevirtual 124, 3, [98, 3, 19], 0), (84, .istore_n 1, 1, [], 0), (85, .iinc 4 1, 3, [], 0), (88, .goto (-23), 3, [65], 0), (91, .iload_n 1, 1, [], 0), (92, .iload_n 3, 1, [], 0), (93, .if_icmp .ne 5, 3, [98], 0), (96, .iload_n 1, 1, [], 0), (97, .ireturn, 1, [0], 0), (98, .iinc 2 1, 3, [], 0), (101, .goto (-47), 3, [54], 0)]
def jt_Tr_frozenSet_1 : List jv_E := [(104, .iload_n 1, 1, [], 0), (105, .ireturn, 1, [0], 0)]
def jt_Tr_frozenSet : List jv_E := jt_Tr_frozenSet_0 ++ (jt_Tr_frozenSet_1)
abbrev kTr_frozenSet : Nat := 97
def jt_Tr_thaw : List jv_E := [(0, .aload_n 0, 1, [], 0), (1, .aload_n 0, 1, [], 0), (2, .iload_n 1, 1, [], 0), (3, .iconst 0, 1, [], 0), (4, .invokevirtual 89, 3, [37, 3, 19], 0), (7, .invokevirtual 93, 3, [93, 2, 19], 0), (10, .astore_n 3, 1, [], 0), (11, .aload_n 3, 1, [], 0), (12, .ifnull 23, 3, [35], 0), (15, .iload_n 2, 1, [], 0), (16, .aload_n 3, 1, [], 0), (17, .getfield 70, 3, [11, 0, 0], 0), (20, .invokestatic 55, 3, [45, 2, 0], 0), (23, .ifCond .eq 14, 3, [37], 0), (26, .aload_n 0, 1, [], 0), (27, .aload_n 3, 1, [], 0), (28, .iload_n 2, 1, [], 0), (29, .invokevirtual 127, 3, [99, 3, 19], 0), (32, .ifCond .eq 5, 3, [37], 0), (35, .iload_n 2, 1, [], 0), (36, .ireturn, 1, [0], 0), (37, .iload_n 2, 1, [], 0), (38, .istore 4, 2, [], 0), (40, .iconst 0, 1, [], 0), (41, .istore 5, 2, [], 0), (43, .iload 5, 2, [], 0), (45, .aload_n 0, 1, [], 0), (46, .getfield 22, 3, [18, 4, 2], 0), (49, .iload_n 1, 1, [], 0), (50, .iaload, 1, [], 0), (51, .if_icmp .ge 27, 3, [78], 0), (54, .iload 4, 2, [], 0), (56, .iconst 1, 1, [], 1), (57, .aload_n 0, 1, [], 0), (58, .getfield 19, 3, [18, 3, 2], 0), (61, .iload_n 1, 1, [], 0), (62, .aaload, 1, [], 0), (63, .iload 5, 2, [], 0), (65, .iaload, 1, [], 0), (66, .ishl, 1, [], 0), (67, .iconst (-1), 1, [], (-1)), (68, .ixor, 1, [], 0), (69, .iand, 1, [], 0), (70, .istore 4, 2, [], 0), (72, .iinc 5 1, 3, [], 0), (75, .goto (-32), 3, [43], 0), (78, .iload 4, 2, [], 0), (80, .ireturn, 1, [0], 0)]
abbrev kTr_thaw : Nat := 98
def jt_Tr_isHeld : List jv_E := [(0, .aload_n 0, 1, [], 0), (1, .getfield 26, 3, [18, 0, 2], 0), (4, .getfield 107, 3, [13, 3, 2], 0), (7, .aload_n 1, 1, [], 0), (8, .getfield 73, 3, [11, 4, 0], 0), (11, .iaload, 1, [], 0), (12, .aload_n 1, 1, [], 0), (13, .getfield 110, 3, [11, 3, 0], 0), (16, .if_icmp .ne 5, 3, [21], 0), (19, .iconst 0, 1, [], 0), (20, .ireturn, 1, [1], 0), (21, .aload_n 0, 1, [], 0), (22, .getfield 30, 3, [18, 1, 2], 0), (25, .getfield 113, 3, [20, 3, 2], 0), (28, .aload_n 1, 1, [], 0), (29, .getfield 73, 3, [11, 4, 0], 0), (32, .aaload, 1, [], 0), (33, .aload_n 1, 1, [], 0), (34, .getfield 110, 3, [11, 3, 0], 0), (37, .iaload, 1, [], 0), (38, .istore_n 3, 1, [], 0), (39, .aload_n 1, 1, [], 0), (40, .getfield 100, 3, [11, 1, 0], 0), (43, .iconst 2, 1, [], 2), (44, .if_icmp .ne 8, 3, [52], 0), (47, .iload_n 3, 1, [], 0), (48, .invokestatic 131, 3, [100, 1, 0], 0), (51, .istore_n 3, 1, [], 0), (52, .iconst 0, 1, [], 0), (53, .istore 4, 2, [], 0), (55, .iload 4, 2, [], 0), (57, .aload_n 0, 1, [], 0), (58, .getfield 26, 3, [18, 0, 2], 0), (61, .getfield 47, 3, [13, 1, 0], 0), (64, .if_icmp .ge 45, 3, [109], 0), (67, .iload_n 3, 1, [], 0), (68, .iload 4, 2, [], 0), (70, .invokestatic 55, 3, [45, 2, 0], 0), (73, .ifCond .eq 30, 3, [103], 0), (76, .aload_n 0, 1, [], 0), (77, .iload 4, 2, [], 0), (79, .invokevirtual 59, 3, [86, 2, 19], 0), (82, .ifCond .ne 19, 3, [101], 0), (85, .iload_n 2, 1, [], 0), (86, .aload_n 0, 1, [], 0), (87, .getfield 19, 3, [18, 3, 2], 0), (90, .iload 4, 2, [], 0), (92, .aaload, 1, [], 0), (93, .iconst 0, 1, [], 0), (94, .iaload, 1, [], 0), (95, .invokestatic 55, 3, [45, 2, 0], 0), (98, .ifCond .ne 5, 3, [103], 0), (101, .iconst 0, 1, [], 0), (102, .ireturn, 1, [1], 0), (103, .iinc 4 1, 3, [], 0), (106, .goto (-51), 3, [55], 0), (109, .iconst 1, 1, [], 1), (110, .ireturn, 1, [1], 0)]
abbrev kTr_isHeld : Nat := 99
def jt_In_lowestOneBit : List jv_E := [(0, .iload_n 0, 1, [], 0), (1, .iload_n 0, 1, [], 0), (2, .ineg, 1, [], 0), (3, .iand, 1, [], 0), (4, .ireturn, 1, [0], 0)]
abbrev kIn_lowestOneBit : Nat := 100
def jt_X_mend : List jv_E := [(0, .iload_n 1, 1, [], 0), (1, .iconst (-1), 1, [], (-1)), (2, .if_icmp .lt 8, 3, [10], 0), (5, .iload_n 1, 1, [], 0), (6, .iconst 1, 1, [], 1), (7, .if_icmp .le 5, 3, [12], 0), (10, .iconst (-1), 1, [], (-1)), (11, .ireturn, 1, [0], 0), (12, .aload_n 0, 1, [], 0), (13, .getfield 28, 3, [21, 2, 2], 0), (16, .getfield 131, 3, [13, 1, 0], 0), (19, .ifCond .ne 6, 3, [25], 0), (22, .bipush (-3), 2, [], (-3)), (24, .ireturn, 1, [0], 0), (25, .aload_n 0, 1, [], 0), (26, .getfield 76, 3, [21, 8, 2], 0), (29, .invokevirtual 273, 3, [102, 1, 13], 0), (32, .iload_n 1, 1, [], 0), (33, .iconst (-1), 1, [], (-1)), (34, .if_icmp .ne 11, 3, [45], 0), (37, .aload_n 0, 1, [], 0), (38, .getfield 76, 3, [21, 8, 2], 0), (41, .getfield 274, 3, [12, 7, 0], 0), (44, .ireturn, 1, [0], 0), (45, .iload_n 1, 1, [], 0), (46, .aload_n 0, 1, [], 0), (47, .getfield 76, 3, [21, 8, 2], 0), (50, .getfield 274, 3, [12, 7, 0], 0), (53, .if_icmp .ge 15, 3, [68], 0), (56, .aload_n 0, 1, [], 0), (57, .getfield 76, 3, [21, 8, 2], 0), (60, .getfield 275, 3, [12, 6, 2], 0), (63, .iload_n 1, 1, [], 0), (64, .iaload, 1, [], 0), (65, .goto 5, 3, [70], 0), (68, .bipush (-9), 2, [], (-9)), (70, .ireturn, 1, [0], 0)]
abbrev kX_mend : Nat := 101
def jt_M_work : List jv_E := [(0, .aload_n 0, 1, [], 0), (1, .getfield 18, 3, [12, 8, 0], 0), (4, .aload_n 0, 1, [], 0), (5, .getfield 26, 3, [12, 1, 2], 0), (8, .getfield 50, 3, [20, 5, 0], 0), (11, .if_icmp .ne 4, 3, [15], 0), (14, .return_, 1, [], 0), (15, .aload_n 0, 1, [], 0), (16, .aload_n 0, 1, [], 0), (17, .getfield 26, 3, [12, 1, 2], 0), (20, .getfield 50, 3, [20, 5, 0], 0), (23, .putfield 18, 3, [12, 8, 0], 0), (26, .aload_n 0, 1, [], 0), (27, .getfield 30, 3, [12, 2, 2], 0), (30, .invokevirtual 53, 3, [55, 1, 20], 0), (33, .aload_n 0, 1, [], 0), (34, .getfield 39, 3, [12, 3, 2], 0), (37, .aload_n 0, 1, [], 0), (38, .getfield 26, 3, [12, 1, 2], 0), (41, .invokevirtual 56, 3, [103, 2, 21], 0), (44, .aload_n 0, 1, [], 0), (45, .invokevirtual 60, 3, [104, 1, 13], 0), (48, .istore_n 1, 1, [], 0), (49, .aload_n 0, 1, [], 0), (50, .aload_n 0, 1, [], 0), (51, .getfield 30, 3, [12, 2, 2], 0), (54, .getfield 64, 3, [19, 8, 1], 0), (57, .ifCond .eq 17, 3, [74], 0), (60, .aload_n 0, 1, [], 0), (61, .getfield 30, 3, [12, 2, 2], 0), (64, .getfield 68, 3, [19, 9, 0], 0), (67, .ifCond .ne 7, 3, [74], 0), (70, .iconst 0, 1, [], 0), (71, .goto 5, 3, [76], 0), (74, .bipush (-9), 2, [], (-9)), (76, .putfield 71, 3, [12, 7, 0], 0), (79, .iconst 1, 1, [], 1), (80, .istore_n 2, 1, [], 0), (81, .iload_n 2, 1, [], 0), (82, .iconst 2, 1, [], 2), (83, .if_icmp .gt 32, 3, [115], 0), (86, .aload_n 0, 1, [], 0), (87, .getfield 71, 3, [12, 7, 0], 0), (90, .bipush (-9), 2, [], (-9)), (92, .if_icmp .ne 23, 3, [115], 0), (95, .aload_n 0, 1, [], 0), (96, .iload_n 2, 1, [], 0), (97, .iload_n 1, 1, [], 0), (98, .invokevirtual 74, 3, [105, 3, 13], 0), (101, .ifCond .eq 8, 3, [109], 0), (104, .aload_n 0, 1, [], 0), (105, .iload_n 2, 1, [], 0), (106, .putfield 71, 3, [12, 7, 0], 0), (109, .iinc 2 1, 3, [], 0), (112, .goto (-31), 3, [81], 0), (115, .return_, 1, [], 0)]
abbrev kM_work : Nat := 102
def jt_Wy_takeFrom : List jv_E := [(0, .aload_n 1, 1, [], 0), (1, .getfield 9, 3, [20, 1, 2], 0), (4, .iconst 0, 1, [], 0), (5, .aload_n 0, 1, [], 0), (6, .getfield 9, 3, [20, 1, 2], 0), (9, .iconst 0, 1, [], 0), (10, .bipush 10, 2, [], 10), (12, .invokestatic 40, 3, [1000], 0), (15, .aload_n 0, 1, [], 0), (16, .aload_n 1, 1, [], 0), (17, .getfield 27, 3, [20, 4, 0], 0), (20, .invokevirtual 46, 3, [42, 2, 21], 0), (23, .return_, 1, [], 0)]
abbrev kWy_takeFrom : Nat := 103
def jt_M_gather : List jv_E := [(0, .iconst 0, 1, [], 0), (1, .istore_n 1, 1, [], 0), (2, .iconst 0, 1, [], 0), (3, .istore_n 2, 1, [], 0), (4, .iload_n 2, 1, [], 0), (5, .aload_n 0, 1, [], 0), (6, .getfield 22, 3, [12, 0, 2], 0), (9, .getfield 78, 3, [13, 1, 0], 0), (12, .if_icmp .ge 59, 3, [71], 0), (15, .iconst 0, 1, [], 0), (16, .istore_n 3, 1, [], 0), (17, .iload_n 3, 1, [], 0), (18, .aload_n 0, 1, [], 0), (19, .getfield 22, 3, [12, 0, 2], 0), (22, .getfield 78, 3, [13, 1, 0], 0), (25, .if_icmp .ge 40, 3, [65], 0), (28, .aload_n 0, 1, [], 0), (29, .getfield 30, 3, [12, 2, 2], 0), (32, .getfield 83, 3, [19, 3, 2], 0), (35, .iload_n 2, 1, [], 0), (36, .iaload, 1, [], 0), (37, .iload_n 3, 1, [], 0), (38, .invokestatic 86, 3, [45, 2, 0], 0), (41, .ifCond .eq 18, 3, [59], 0), (44, .aload_n 0, 1, [], 0), (45, .getfield 9, 3, [12, 5, 2], 0), (48, .iload_n 1, 1, [], 0), (49, .bipush 10, 2, [], 10), (51, .iload_n 2, 1, [], 0), (52, .imul, 1, [], 0), (53, .iload_n 3, 1, [], 0), (54, .iadd, 1, [], 0), (55, .iastore, 1, [], 0), (56, .iinc 1 1, 3, [], 0), (59, .iinc 3 1, 3, [], 0), (62, .goto (-45), 3, [17], 0), (65, .iinc 2 1, 3, [], 0), (68, .goto (-64), 3, [4], 0), (71, .iload_n 1, 1, [], 0), (72, .ireturn, 1, [0], 0)]
abbrev kM_gather : Nat := 104
def jt_M_isFound_0 : List jv_E := [(0, .iconst 0, 1, [], 0), (1, .istore_n 3, 1, [], 0), (2, .iload_n 3, 1, [], 0), (3, .iload_n 2, 1, [], 0), (4, .if_icmp .ge 106, 3, [110], 0), (7, .aload_n 0, 1, [], 0), (8, .iload_n 3, 1, [], 0), (9, .iconst 1, 1, [], 1), (10, .invokevirtual 89, 3, [106, 3, 13], 0), (13, .iload_n 1, 1, [], 0), (14, .iconst 1, 1, [], 1), (15, .if_icmp .ne 9, 3, [24], 0), (18, .iload_n 3, 1, [], 0), (19, .iconst 1, 1, [], 1), (20, .iadd, 1, [], 0), (21, .goto 4, 3, [25], 0), (24, .iload_n 2, 1, [], 0), (25, .istore 4, 2, [], 0), (27, .iload_n 3, 1, [], 0), (28, .iload_n 1, 1, [], 0), (29, .iadd, 1, [], 0), (30, .iconst 1, 1, [], 1), (31, .isub, 1, [], 0), (32, .istore 5, 2, [], 0), (34, .iload 5, 2, [], 0), (36, .iload 4, 2, [], 0), (38, .if_icmp .ge 60, 3, [98], 0), (41, .aload_n 0, 1, [], 0), (42, .iload 5, 2, [], 0), (44, .iconst 1, 1, [], 1), (45, .invokevirtual 89, 3, [106, 3, 13], 0), (48, .aload_n 0, 1, [], 0), (49, .getfield 47, 3, [12, 4, 2], 0), (52, .invokevirtual 93, 3, [107, 1, 20], 0), (55, .ifCond .eq 30, 3, [85], 0), (58, .aload_n 0, 1, [], 0), (59, .getfield 15, 3, [12, 6, 2], 0), (62, .iconst 0, 1, [], 0), (63, .aload_n 0, 1, [], 0), (64, .getfield 9, 3, [12, 5, 2], 0), (67, .iload_n 3, 1, [], 0), (68, .iaload, 1, [], 0), (69, .iastore, 1, [], 0), (70, .aload_n 0, 1, [], 0), (71, .getfield 15, 3, [12, 6, 2], 0), (74, .iconst 1, 1, [], 1), (75, .aload_n 0, 1, [], 0), (76, .getfield 9, 3, [12, 5, 2], 0), (79, .iload 5, 2, [], 0), (81, .iaload, 1, [], 0), (82, .iastore, 1, [], 0), (83, .iconst 1, 1, [], 1), (84, .ireturn, 1, [1], 0), (85, .aload_n 0, 1, [], 0), (86, .iload 5, 2, [], 0), (88, .iconst 0, 1, [], 0), (89, .invokevirtual 89, 3, [106, 3, 13], 0), (92, .iinc 5 1, 3, [], 0), (95, .goto (-61), 3, [34], 0), (98, .aload_n 0, 1, [], 0)]
def jt_M_isFound_1 : List jv_E := [(99, .iload_n 3, 1, [], 0), (100, .iconst 0, 1, [], 0), (101, .invokevirtual 89, 3, [106, 3, 13], 0), (104, .iinc 3 1, 3, [], 0), (107, .goto (-105), 3, [2], 0), (110, .iconst 0, 1, [], 0), (111, .ireturn, 1, [1], 0)]
def jt_M_isFound : List jv_E := jt_M_isFound_0 ++ (jt_M_isFound_1)
abbrev kM_isFound : Nat := 105
def jt_M_setTried : List jv_E := [(0, .aload_n 0, 1, [], 0), (1, .getfield 39, 3, [12, 3, 2], 0), (4, .aload_n 0, 1, [], 0), (5, .getfield 9, 3, [12, 5, 2], 0), (8, .iload_n 1, 1, [], 0), (9, .iaload, 1, [], 0), (10, .bipush 10, 2, [], 10), (12, .idiv, 1, [], 0), (13, .aload_n 0, 1, [], 0), (14, .getfield 9, 3, [12, 5, 2], 0), (17, .iload_n 1, 1, [], 0), (18, .iaload, 1, [], 0), (19, .bipush 10, 2, [], 10), (21, .irem, 1, [], 0), (22, .iload_n 2, 1, [], 0), (23, .invokevirtual 97, 3, [46, 4, 21], 0), (26, .return_, 1, [], 0)]
abbrev kM_setTried : Nat := 106
def jt_Wa_isSound : List jv_E := [(0, .aload_n 0, 1, [], 0), (1, .getfield 15, 3, [19, 3, 2], 0), (4, .iconst 0, 1, [], 0), (5, .invokestatic 47, 3, [30, 2, 0], 0), (8, .iconst 0, 1, [], 0), (9, .istore_n 1, 1, [], 0), (10, .iload_n 1, 1, [], 0), (11, .aload_n 0, 1, [], 0), (12, .getfield 34, 3, [19, 0, 2], 0), (15, .getfield 57, 3, [13, 0, 0], 0), (18, .if_icmp .ge 19, 3, [37], 0), (21, .aload_n 0, 1, [], 0), (22, .iload_n 1, 1, [], 0), (23, .invokevirtual 62, 3, [56, 2, 20], 0), (26, .ifCond .ne 5, 3, [31], 0), (29, .iconst 0, 1, [], 0), (30, .ireturn, 1, [1], 0), (31, .iinc 1 1, 3, [], 0), (34, .goto (-24), 3, [10], 0), (37, .aload_n 0, 1, [], 0), (38, .getfield 15, 3, [19, 3, 2], 0), (41, .aload_n 0, 1, [], 0), (42, .getfield 34, 3, [19, 0, 2], 0), (45, .getfield 75, 3, [13, 1, 0], 0), (48, .iconst 1, 1, [], 1), (49, .aload_n 0, 1, [], 0), (50, .getfield 34, 3, [19, 0, 2], 0), (53, .getfield 75, 3, [13, 1, 0], 0), (56, .ishl, 1, [], 0), (57, .iconst 1, 1, [], 1), (58, .isub, 1, [], 0), (59, .invokestatic 78, 3, [53, 3, 0], 0), (62, .ifCond .ne 7, 3, [69], 0), (65, .iconst 1, 1, [], 1), (66, .goto 4, 3, [70], 0), (69, .iconst 0, 1, [], 0), (70, .ireturn, 1, [1], 0)]
abbrev kWa_isSound : Nat := 107
def jt_X_bears : List jv_E := [(0, .aload_n 0, 1, [], 0), (1, .getfield 28, 3, [21, 2, 2], 0), (4, .iload_n 1, 1, [], 0), (5, .invokevirtual 134, 3, [36, 2, 14], 0), (8, .ifCond .ne 7, 3, [15], 0), (11, .ldc2_w 278, 3, [], (-9223372036854775808)), (14, .lreturn, 1, [], 0), (15, .iload_n 2, 1, [], 0), (16, .ifCond .lt 8, 3, [24], 0), (19, .iload_n 2, 1, [], 0), (20, .iconst 1, 1, [], 1), (21, .if_icmp .le 7, 3, [28], 0), (24, .ldc2_w 278, 3, [], (-9223372036854775808)), (27, .lreturn, 1, [], 0), (28, .aload_n 0, 1, [], 0), (29, .getfield 46, 3, [21, 4, 2], 0), (32, .invokevirtual 186, 3, [55, 1, 20], 0), (35, .aload_n 0, 1, [], 0), (36, .getfield 46, 3, [21, 4, 2], 0), (39, .getfield 280, 3, [19, 8, 1], 0), (42, .ifCond .ne 7, 3, [49], 0), (45, .ldc2_w 278, 3, [], (-9223372036854775808)), (48, .lreturn, 1, [], 0), (49, .aload_n 0, 1, [], 0), (50, .getfield 83, 3, [21, 9, 2], 0), (53, .invokevirtual 284, 3, [109, 1, 11], 0), (56, .iload_n 2, 1, [], 0), (57, .ifCond .ne 15, 3, [72], 0), (60, .aload_n 0, 1, [], 0), (61, .getfield 83, 3, [21, 9, 2], 0), (64, .getfield 285, 3, [10, 3, 2], 0), (67, .iload_n 1, 1, [], 0), (68, .laload, 1, [], 0), (69, .goto 12, 3, [81], 0), (72, .aload_n 0, 1, [], 0), (73, .getfield 83, 3, [21, 9, 2], 0), (76, .getfield 289, 3, [10, 4, 2], 0), (79, .iload_n 1, 1, [], 0), (80, .laload, 1, [], 0), (81, .lreturn, 1, [], 0)]
abbrev kX_bears : Nat := 108
def jt_B_work : List jv_E := [(0, .aload_n 0, 1, [], 0), (1, .getfield 24, 3, [10, 7, 0], 0), (4, .aload_n 0, 1, [], 0), (5, .getfield 32, 3, [10, 1, 2], 0), (8, .getfield 40, 3, [20, 5, 0], 0), (11, .if_icmp .ne 4, 3, [15], 0), (14, .return_, 1, [], 0), (15, .aload_n 0, 1, [], 0), (16, .aload_n 0, 1, [], 0), (17, .getfield 32, 3, [10, 1, 2], 0), (20, .getfield 40, 3, [20, 5, 0], 0), (23, .putfield 24, 3, [10, 7, 0], 0), (26, .aload_n 0, 1, [], 0), (27, .getfield 9, 3, [10, 3, 2], 0), (30, .lconst 0, 1, [], 0), (31, .invokestatic 45, 3, [110, 2, 0], 0), (34, .aload_n 0, 1, [], 0), (35, .getfield 15, 3, [10, 4, 2], 0), (38, .lconst 1, 1, [], 1), (39, .invokestatic 45, 3, [110, 2, 0], 0), (42, .iconst 0, 1, [], 0), (43, .istore_n 1, 1, [], 0), (44, .iload_n 1, 1, [], 0), (45, .aload_n 0, 1, [], 0), (46, .getfield 28, 3, [10, 0, 2], 0), (49, .getfield 51, 3, [13, 0, 0], 0), (52, .if_icmp .ge 57, 3, [109], 0), (55, .aload_n 0, 1, [], 0), (56, .iload_n 1, 1, [], 0), (57, .invokevirtual 56, 3, [111, 2, 11], 0), (60, .iconst 0, 1, [], 0), (61, .istore_n 2, 1, [], 0), (62, .iload_n 2, 1, [], 0), (63, .aload_n 0, 1, [], 0), (64, .getfield 28, 3, [10, 0, 2], 0), (67, .getfield 60, 3, [13, 1, 0], 0), (70, .if_icmp .ge 33, 3, [103], 0), (73, .aload_n 0, 1, [], 0), (74, .getfield 9, 3, [10, 3, 2], 0), (77, .aload_n 0, 1, [], 0), (78, .getfield 15, 3, [10, 4, 2], 0), (81, .iload_n 2, 1, [], 0), (82, .aload_n 0, 1, [], 0), (83, .getfield 18, 3, [10, 5, 2], 0), (86, .iload_n 2, 1, [], 0), (87, .laload, 1, [], 0), (88, .aload_n 0, 1, [], 0), (89, .getfield 21, 3, [10, 6, 2], 0), (92, .iload_n 2, 1, [], 0), (93, .laload, 1, [], 0), (94, .invokestatic 63, 3, [113, 5, 0], 0), (97, .iinc 2 1, 3, [], 0), (100, .goto (-38), 3, [62], 0), (103, .iinc 1 1, 3, [], 0), (106, .goto (-62), 3, [44], 0), (109, .return_, 1, [], 0)]
abbrev kB_work : Nat := 109
def jt_Ar_fillJ : List jv_E := [(0, .iconst 0, 1, [], 0), (1, .istore_n 3, 1, [], 0), (2, .aload_n 0, 1, [], 0), (3, .arraylength, 1, [], 0), (4, .istore 4, 2, [], 0), (6, .iload_n 3, 1, [], 0), (7, .iload 4, 2, [], 0), (9, .if_icmp .ge 13, 3, [22], 0), (12, .aload_n 0, 1, [], 0), (13, .iload_n 3, 1, [], 0), (14, .lload_n 1, 1, [], 0), (15, .lastore, 1, [], 0), (16, .iinc 3 1, 3, [], 0), (19, .goto (-13), 3, [6], 0), (22, .return_, 1, [], 0)]
abbrev kAr_fillJ : Nat := 110
def jt_B_pour_0 : List jv_E := [(0, .aload_n 0, 1, [], 0), (1, .getfield 18, 3, [10, 5, 2], 0), (4, .lconst 0, 1, [], 0), (5, .invokestatic 45, 3, [110, 2, 0], 0), (8, .aload_n 0, 1, [], 0), (9, .getfield 21, 3, [10, 6, 2], 0), (12, .lconst 1, 1, [], 1), (13, .invokestatic 45, 3, [110, 2, 0], 0), (16, .iconst 0, 1, [], 0), (17, .istore_n 2, 1, [], 0), (18, .iload_n 2, 1, [], 0), (19, .aload_n 0, 1, [], 0), (20, .getfield 28, 3, [10, 0, 2], 0), (23, .getfield 51, 3, [13, 0, 0], 0), (26, .if_icmp .ge 26, 3, [52], 0), (29, .aload_n 0, 1, [], 0), (30, .aload_n 0, 1, [], 0), (31, .getfield 32, 3, [10, 1, 2], 0), (34, .getfield 67, 3, [20, 2, 2], 0), (37, .iload_n 2, 1, [], 0), (38, .aaload, 1, [], 0), (39, .iload_n 1, 1, [], 0), (40, .iaload, 1, [], 0), (41, .lconst 1, 1, [], 1), (42, .lconst 1, 1, [], 1), (43, .invokevirtual 71, 3, [112, 4, 11], 0), (46, .iinc 2 1, 3, [], 0), (49, .goto (-31), 3, [18], 0), (52, .aload_n 0, 1, [], 0), (53, .getfield 36, 3, [10, 2, 2], 0), (56, .getfield 75, 3, [19, 2, 2], 0), (59, .iload_n 1, 1, [], 0), (60, .iaload, 1, [], 0), (61, .istore_n 2, 1, [], 0), (62, .iconst 0, 1, [], 0), (63, .istore_n 3, 1, [], 0), (64, .iload_n 3, 1, [], 0), (65, .aload_n 0, 1, [], 0), (66, .getfield 28, 3, [10, 0, 2], 0), (69, .getfield 60, 3, [13, 1, 0], 0), (72, .if_icmp .ge 93, 3, [165], 0), (75, .iload_n 2, 1, [], 0), (76, .ifCond .eq 89, 3, [165], 0), (79, .iload_n 2, 1, [], 0), (80, .aload_n 0, 1, [], 0), (81, .iload_n 2, 1, [], 0), (82, .iload_n 1, 1, [], 0), (83, .invokevirtual 81, 3, [115, 3, 11], 0), (86, .iconst (-1), 1, [], (-1)), (87, .ixor, 1, [], 0), (88, .iand, 1, [], 0), (89, .istore 4, 2, [], 0), (91, .iconst 0, 1, [], 0), (92, .istore 5, 2, [], 0), (94, .iload 5, 2, [], 0), (96, .aload_n 0, 1, [], 0), (97, .getfield 28, 3, [10, 0, 2], 0), (100, .getfield 60, 3, [13, 1, 0], 0), (103, .if_icmp .ge 49, 3, [152], 0), (106, .iload 4, 2, [], 0)]
def jt_B_pour_1 : List jv_E := [(108, .iload 5, 2, [], 0), (110, .invokestatic 85, 3, [45, 2, 0], 0), (113, .ifCond .eq 33, 3, [146], 0), (116, .aload_n 0, 1, [], 0), (117, .aload_n 0, 1, [], 0), (118, .getfield 32, 3, [10, 1, 2], 0), (121, .getfield 89, 3, [20, 3, 2], 0), (124, .iload 5, 2, [], 0), (126, .aaload, 1, [], 0), (127, .iload_n 1, 1, [], 0), (128, .iaload, 1, [], 0), (129, .aload_n 0, 1, [], 0), (130, .getfield 18, 3, [10, 5, 2], 0), (133, .iload 5, 2, [], 0), (135, .laload, 1, [], 0), (136, .aload_n 0, 1, [], 0), (137, .getfield 21, 3, [10, 6, 2], 0), (140, .iload 5, 2, [], 0), (142, .laload, 1, [], 0), (143, .invokevirtual 71, 3, [112, 4, 11], 0), (146, .iinc 5 1, 3, [], 0), (149, .goto (-55), 3, [94], 0), (152, .iload_n 2, 1, [], 0), (153, .iload 4, 2, [], 0), (155, .iconst (-1), 1, [], (-1)), (156, .ixor, 1, [], 0), (157, .iand, 1, [], 0), (158, .istore_n 2, 1, [], 0), (159, .iinc 3 1, 3, [], 0), (162, .goto (-98), 3, [64], 0), (165, .return_, 1, [], 0)]
def jt_B_pour : List jv_E := jt_B_pour_0 ++ (jt_B_pour_1)
abbrev kB_pour : Nat := 111
def jt_B_spread : List jv_E := [(0, .iload_n 1, 1, [], 0), (1, .invokestatic 92, 3, [70, 1, 0], 0), (4, .istore 6, 2, [], 0), (6, .iconst 0, 1, [], 0), (7, .istore 7, 2, [], 0), (9, .iload 7, 2, [], 0), (11, .aload_n 0, 1, [], 0), (12, .getfield 28, 3, [10, 0, 2], 0), (15, .getfield 60, 3, [13, 1, 0], 0), (18, .if_icmp .ge 38, 3, [56], 0), (21, .iload_n 1, 1, [], 0), (22, .iload 7, 2, [], 0), (24, .invokestatic 85, 3, [45, 2, 0], 0), (27, .ifCond .eq 23, 3, [50], 0), (30, .aload_n 0, 1, [], 0), (31, .getfield 18, 3, [10, 5, 2], 0), (34, .aload_n 0, 1, [], 0), (35, .getfield 21, 3, [10, 6, 2], 0), (38, .iload 7, 2, [], 0), (40, .lload_n 2, 1, [], 0), (41, .lload 4, 2, [], 0), (43, .iload 6, 2, [], 0), (45, .i2l, 1, [], 0), (46, .lmul, 1, [], 0), (47, .invokestatic 63, 3, [113, 5, 0], 0), (50, .iinc 7 1, 3, [], 0), (53, .goto (-44), 3, [9], 0), (56, .return_, 1, [], 0)]
abbrev kB_spread : Nat := 112
def jt_B_add : List jv_E := [(0, .aload_n 1, 1, [], 0), (1, .iload_n 2, 1, [], 0), (2, .laload, 1, [], 0), (3, .lload 5, 2, [], 0), (5, .invokestatic 98, 3, [114, 2, 0], 0), (8, .lstore 7, 2, [], 0), (10, .aload_n 0, 1, [], 0), (11, .iload_n 2, 1, [], 0), (12, .laload, 1, [], 0), (13, .lload 5, 2, [], 0), (15, .lload 7, 2, [], 0), (17, .ldiv, 1, [], 0), (18, .lmul, 1, [], 0), (19, .lload_n 3, 1, [], 0), (20, .aload_n 1, 1, [], 0), (21, .iload_n 2, 1, [], 0), (22, .laload, 1, [], 0), (23, .lload 7, 2, [], 0), (25, .ldiv, 1, [], 0), (26, .lmul, 1, [], 0), (27, .ladd, 1, [], 0), (28, .lstore 9, 2, [], 0), (30, .aload_n 1, 1, [], 0), (31, .iload_n 2, 1, [], 0), (32, .laload, 1, [], 0), (33, .lload 7, 2, [], 0), (35, .ldiv, 1, [], 0), (36, .lload 5, 2, [], 0), (38, .lmul, 1, [], 0), (39, .lstore 11, 2, [], 0), (41, .lload 11, 2, [], 0), (43, .lload 9, 2, [], 0), (45, .invokestatic 98, 3, [114, 2, 0], 0), (48, .lstore 13, 2, [], 0), (50, .aload_n 0, 1, [], 0), (51, .iload_n 2, 1, [], 0), (52, .lload 9, 2, [], 0), (54, .lload 13, 2, [], 0), (56, .ldiv, 1, [], 0), (57, .lastore, 1, [], 0), (58, .aload_n 1, 1, [], 0), (59, .iload_n 2, 1, [], 0), (60, .lload 11, 2, [], 0), (62, .lload 13, 2, [], 0), (64, .ldiv, 1, [], 0), (65, .lastore, 1, [], 0), (66, .return_, 1, [], 0)]
abbrev kB_add : Nat := 113
def jt_B_commonDivisor : List jv_E := [(0, .lload_n 0, 1, [], 0), (1, .invokestatic 102, 3, [1003], 0), (4, .lstore 4, 2, [], 0), (6, .lload_n 2, 1, [], 0), (7, .invokestatic 102, 3, [1003], 0), (10, .lstore 6, 2, [], 0), (12, .iconst 0, 1, [], 0), (13, .istore 8, 2, [], 0), (15, .iload 8, 2, [], 0), (17, .sipush 128, 3, [], 128), (20, .if_icmp .ge 31, 3, [51], 0), (23, .lload 6, 2, [], 0), (25, .lconst 0, 1, [], 0), (26, .lcmp, 1, [], 0), (27, .ifCond .le 24, 3, [51], 0), (30, .lload 4, 2, [], 0), (32, .lload 6, 2, [], 0), (34, .lrem, 1, [], 0), (35, .lstore 9, 2, [], 0), (37, .lload 6, 2, [], 0), (39, .lstore 4, 2, [], 0), (41, .lload 9, 2, [], 0), (43, .lstore 6, 2, [], 0), (45, .iinc 8 1, 3, [], 0), (48, .goto (-33), 3, [15], 0), (51, .lload 4, 2, [], 0), (53, .lconst 1, 1, [], 1), (54, .invokestatic 108, 3, [1004], 0), (57, .lreturn, 1, [], 0)]
abbrev kB_commonDivisor : Nat := 114
def jt_B_ledToFrom : List jv_E := [(0, .iconst 0, 1, [], 0), (1, .istore_n 3, 1, [], 0), (2, .iconst 0, 1, [], 0), (3, .istore 4, 2, [], 0), (5, .iload 4, 2, [], 0), (7, .aload_n 0, 1, [], 0), (8, .getfield 28, 3, [10, 0, 2], 0), (11, .getfield 60, 3, [13, 1, 0], 0), (14, .if_icmp .ge 33, 3, [47], 0), (17, .iload_n 1, 1, [], 0), (18, .iload 4, 2, [], 0), (20, .invokestatic 85, 3, [45, 2, 0], 0), (23, .ifCond .eq 18, 3, [41], 0), (26, .iload_n 3, 1, [], 0), (27, .aload_n 0, 1, [], 0), (28, .getfield 32, 3, [10, 1, 2], 0), (31, .getfield 89, 3, [20, 3, 2], 0), (34, .iload 4, 2, [], 0), (36, .aaload, 1, [], 0), (37, .iload_n 2, 1, [], 0), (38, .iaload, 1, [], 0), (39, .ior, 1, [], 0), (40, .istore_n 3, 1, [], 0), (41, .iinc 4 1, 3, [], 0), (44, .goto (-39), 3, [5], 0), (47, .iload_n 3, 1, [], 0), (48, .ireturn, 1, [0], 0)]
abbrev kB_ledToFrom : Nat := 115
def jt_X_busiest : List jv_E := [(0, .aload_n 0, 1, [], 0), (1, .getfield 28, 3, [21, 2, 2], 0), (4, .getfield 131, 3, [13, 1, 0], 0), (7, .ifCond .ne 6, 3, [13], 0), (10, .bipush (-3), 2, [], (-3)), (12, .ireturn, 1, [0], 0), (13, .aload_n 0, 1, [], 0), (14, .getfield 46, 3, [21, 4, 2], 0), (17, .invokevirtual 186, 3, [55, 1, 20], 0), (20, .aload_n 0, 1, [], 0), (21, .getfield 46, 3, [21, 4, 2], 0), (24, .getfield 280, 3, [19, 8, 1], 0), (27, .ifCond .ne 6, 3, [33], 0), (30, .bipush (-3), 2, [], (-3)), (32, .ireturn, 1, [0], 0), (33, .aload_n 0, 1, [], 0), (34, .getfield 83, 3, [21, 9, 2], 0), (37, .invokevirtual 284, 3, [109, 1, 11], 0), (40, .aload_n 0, 1, [], 0), (41, .getfield 83, 3, [21, 9, 2], 0), (44, .invokevirtual 292, 3, [117, 1, 11], 0), (47, .ireturn, 1, [0], 0)]
abbrev kX_busiest : Nat := 116
def jt_B_greatest : List jv_E := [(0, .iconst 0, 1, [], 0), (1, .istore_n 1, 1, [], 0), (2, .iconst 1, 1, [], 1), (3, .istore_n 2, 1, [], 0), (4, .iload_n 2, 1, [], 0), (5, .aload_n 0, 1, [], 0), (6, .getfield 28, 3, [10, 0, 2], 0), (9, .getfield 60, 3, [13, 1, 0], 0), (12, .if_icmp .ge 69, 3, [81], 0), (15, .aload_n 0, 1, [], 0), (16, .getfield 15, 3, [10, 4, 2], 0), (19, .iload_n 2, 1, [], 0), (20, .laload, 1, [], 0), (21, .aload_n 0, 1, [], 0), (22, .getfield 15, 3, [10, 4, 2], 0), (25, .iload_n 1, 1, [], 0), (26, .laload, 1, [], 0), (27, .invokestatic 98, 3, [114, 2, 0], 0), (30, .lstore_n 3, 1, [], 0), (31, .aload_n 0, 1, [], 0), (32, .getfield 9, 3, [10, 3, 2], 0), (35, .iload_n 2, 1, [], 0), (36, .laload, 1, [], 0), (37, .aload_n 0, 1, [], 0), (38, .getfield 15, 3, [10, 4, 2], 0), (41, .iload_n 1, 1, [], 0), (42, .laload, 1, [], 0), (43, .lload_n 3, 1, [], 0), (44, .ldiv, 1, [], 0), (45, .lmul, 1, [], 0), (46, .lstore 5, 2, [], 0), (48, .aload_n 0, 1, [], 0), (49, .getfield 9, 3, [10, 3, 2], 0), (52, .iload_n 1, 1, [], 0), (53, .laload, 1, [], 0), (54, .aload_n 0, 1, [], 0), (55, .getfield 15, 3, [10, 4, 2], 0), (58, .iload_n 2, 1, [], 0), (59, .laload, 1, [], 0), (60, .lload_n 3, 1, [], 0), (61, .ldiv, 1, [], 0), (62, .lmul, 1, [], 0), (63, .lstore 7, 2, [], 0), (65, .lload 5, 2, [], 0), (67, .lload 7, 2, [], 0), (69, .lcmp, 1, [], 0), (70, .ifCond .le 5, 3, [75], 0), (73, .iload_n 2, 1, [], 0), (74, .istore_n 1, 1, [], 0), (75, .iinc 2 1, 3, [], 0), (78, .goto (-74), 3, [4], 0), (81, .iload_n 1, 1, [], 0), (82, .ireturn, 1, [0], 0)]
abbrev kB_greatest : Nat := 117
def jt_X_sheet : List jv_E := [(0, .aload_n 0, 1, [], 0), (1, .iconst 0, 1, [], 0), (2, .putfield 87, 3, [21, 11, 0], 0), (5, .aload_n 0, 1, [], 0), (6, .getfield 12, 3, [21, 0, 2], 0), (9, .iload_n 1, 1, [], 0), (10, .invokevirtual 91, 3, [12, 2, 15], 0), (13, .ifCond .ne 5, 3, [18], 0), (16, .iconst (-1), 1, [], (-1)), (17, .ireturn, 1, [0], 0), (18, .aload_n 0, 1, [], 0), (19, .getfield 12, 3, [21, 0, 2], 0), (22, .iload_n 2, 1, [], 0), (23, .invokevirtual 95, 3, [13, 2, 15], 0), (26, .ifCond .eq 9, 3, [35], 0), (29, .iload_n 3, 1, [], 0), (30, .bipush 60, 2, [], 60), (32, .if_icmp .le 6, 3, [38], 0), (35, .bipush (-2), 2, [], (-2)), (37, .ireturn, 1, [0], 0), (38, .iload_n 3, 1, [], 0), (39, .ifCond .ge 9, 3, [48], 0), (42, .aload_n 0, 1, [], 0), (43, .iconst 4, 1, [], 4), (44, .invokevirtual 102, 3, [16, 2, 22], 0), (47, .ireturn, 1, [0], 0), (48, .aload_n 0, 1, [], 0), (49, .getfield 12, 3, [21, 0, 2], 0), (52, .iload_n 1, 1, [], 0), (53, .iload_n 2, 1, [], 0), (54, .iload_n 3, 1, [], 0), (55, .invokevirtual 295, 3, [119, 4, 15], 0), (58, .iconst 1, 1, [], 1), (59, .ireturn, 1, [0], 0)]
abbrev kX_sheet : Nat := 118
def jt_Sh_renew : List jv_E := [(0, .aload_n 0, 1, [], 0), (1, .getfield 11, 3, [14, 0, 2], 0), (4, .iload_n 1, 1, [], 0), (5, .aaload, 1, [], 0), (6, .iconst 0, 1, [], 0), (7, .invokestatic 25, 3, [30, 2, 0], 0), (10, .aload_n 0, 1, [], 0), (11, .getfield 14, 3, [14, 1, 2], 0), (14, .iload_n 1, 1, [], 0), (15, .iload_n 2, 1, [], 0), (16, .iastore, 1, [], 0), (17, .aload_n 0, 1, [], 0), (18, .getfield 18, 3, [14, 2, 2], 0), (21, .iload_n 1, 1, [], 0), (22, .iload_n 3, 1, [], 0), (23, .iastore, 1, [], 0), (24, .return_, 1, [], 0)]
abbrev kSh_renew : Nat := 119
def jt_X_lose : List jv_E := [(0, .aload_n 0, 1, [], 0), (1, .getfield 12, 3, [21, 0, 2], 0), (4, .iload_n 1, 1, [], 0), (5, .invokevirtual 91, 3, [12, 2, 15], 0), (8, .ifCond .ne 5, 3, [13], 0), (11, .iconst (-1), 1, [], (-1)), (12, .ireturn, 1, [0], 0), (13, .aload_n 0, 1, [], 0), (14, .getfield 12, 3, [21, 0, 2], 0), (17, .iload_n 1, 1, [], 0), (18, .invokevirtual 299, 3, [121, 2, 15], 0), (21, .ifCond .eq 7, 3, [28], 0), (24, .iconst 1, 1, [], 1), (25, .goto 4, 3, [29], 0), (28, .iconst 0, 1, [], 0), (29, .ireturn, 1, [0], 0)]
abbrev kX_lose : Nat := 120
def jt_Sh_drop : List jv_E := [(0, .aload_n 0, 1, [], 0), (1, .iload_n 1, 1, [], 0), (2, .invokevirtual 21, 3, [15, 2, 15], 0), (5, .istore_n 2, 1, [], 0), (6, .aload_n 0, 1, [], 0), (7, .getfield 18, 3, [14, 2, 2], 0), (10, .iload_n 1, 1, [], 0), (11, .iconst (-1), 1, [], (-1)), (12, .iastore, 1, [], 0), (13, .iload_n 2, 1, [], 0), (14, .ireturn, 1, [1], 0)]
abbrev kSh_drop : Nat := 121
def jt_X_put : List jv_E := [(0, .aload_n 0, 1, [], 0), (1, .iconst 0, 1, [], 0), (2, .putfield 87, 3, [21, 11, 0], 0), (5, .aload_n 0, 1, [], 0), (6, .getfield 12, 3, [21, 0, 2], 0), (9, .iload_n 1, 1, [], 0), (10, .invokevirtual 91, 3, [12, 2, 15], 0), (13, .ifCond .ne 5, 3, [18], 0), (16, .iconst (-1), 1, [], (-1)), (17, .ireturn, 1, [0], 0), (18, .aload_n 0, 1, [], 0), (19, .getfield 12, 3, [21, 0, 2], 0), (22, .iload_n 1, 1, [], 0), (23, .invokevirtual 106, 3, [15, 2, 15], 0), (26, .ifCond .ne 9, 3, [35], 0), (29, .aload_n 0, 1, [], 0), (30, .iconst 1, 1, [], 1), (31, .invokevirtual 102, 3, [16, 2, 22], 0), (34, .ireturn, 1, [0], 0), (35, .aload_n 0, 1, [], 0), (36, .getfield 12, 3, [21, 0, 2], 0), (39, .iload_n 1, 1, [], 0), (40, .iload_n 2, 1, [], 0), (41, .invokevirtual 302, 3, [123, 3, 15], 0), (44, .ifCond .ne 9, 3, [53], 0), (47, .aload_n 0, 1, [], 0), (48, .iconst 3, 1, [], 3), (49, .invokevirtual 102, 3, [16, 2, 22], 0), (52, .ireturn, 1, [0], 0), (53, .aload_n 0, 1, [], 0), (54, .getfield 12, 3, [21, 0, 2], 0), (57, .getfield 113, 3, [14, 0, 2], 0), (60, .iload_n 1, 1, [], 0), (61, .aaload, 1, [], 0), (62, .iload_n 2, 1, [], 0), (63, .aload_n 0, 1, [], 0), (64, .getfield 12, 3, [21, 0, 2], 0), (67, .iload_n 1, 1, [], 0), (68, .iload_n 3, 1, [], 0), (69, .invokevirtual 305, 3, [124, 3, 15], 0), (72, .iastore, 1, [], 0), (73, .iconst 1, 1, [], 1), (74, .ireturn, 1, [0], 0)]
abbrev kX_put : Nat := 122
def jt_Sh_hasCell : List jv_E := [(0, .iload_n 2, 1, [], 0), (1, .ifCond .lt 17, 3, [18], 0), (4, .iload_n 2, 1, [], 0), (5, .aload_n 0, 1, [], 0), (6, .getfield 18, 3, [14, 2, 2], 0), (9, .iload_n 1, 1, [], 0), (10, .iaload, 1, [], 0), (11, .if_icmp .ge 7, 3, [18], 0), (14, .iconst 1, 1, [], 1), (15, .goto 4, 3, [19], 0), (18, .iconst 0, 1, [], 0), (19, .ireturn, 1, [1], 0)]
abbrev kSh_hasCell : Nat := 123
def jt_Sh_cut : List jv_E := [(0, .aload_n 0, 1, [], 0), (1, .getfield 14, 3, [14, 1, 2], 0), (4, .iload_n 1, 1, [], 0), (5, .iaload, 1, [], 0), (6, .ifCond .ne 6, 3, [12], 0), (9, .iload_n 2, 1, [], 0), (10, .i2b, 1, [], 0), (11, .ireturn, 1, [0], 0), (12, .aload_n 0, 1, [], 0), (13, .getfield 14, 3, [14, 1, 2], 0), (16, .iload_n 1, 1, [], 0), (17, .iaload, 1, [], 0), (18, .iconst 1, 1, [], 1), (19, .if_icmp .ne 8, 3, [27], 0), (22, .iload_n 2, 1, [], 0), (23, .i2s, 1, [], 0), (24, .goto 4, 3, [28], 0), (27, .iload_n 2, 1, [], 0), (28, .ireturn, 1, [0], 0)]
abbrev kSh_cut : Nat := 124
def jt_X_cell : List jv_E := [(0, .aload_n 0, 1, [], 0), (1, .iconst 0, 1, [], 0), (2, .putfield 87, 3, [21, 11, 0], 0), (5, .aload_n 0, 1, [], 0), (6, .getfield 12, 3, [21, 0, 2], 0), (9, .iload_n 1, 1, [], 0), (10, .invokevirtual 91, 3, [12, 2, 15], 0), (13, .ifCond .ne 7, 3, [20], 0), (16, .ldc2_w 278, 3, [], (-9223372036854775808)), (19, .lreturn, 1, [], 0), (20, .aload_n 0, 1, [], 0), (21, .getfield 12, 3, [21, 0, 2], 0), (24, .iload_n 3, 1, [], 0), (25, .invokevirtual 95, 3, [13, 2, 15], 0), (28, .ifCond .ne 7, 3, [35], 0), (31, .ldc2_w 278, 3, [], (-9223372036854775808)), (34, .lreturn, 1, [], 0), (35, .aload_n 0, 1, [], 0), (36, .getfield 12, 3, [21, 0, 2], 0), (39, .iload_n 1, 1, [], 0), (40, .iload_n 3, 1, [], 0), (41, .invokevirtual 98, 3, [14, 3, 15], 0), (44, .ifCond .eq 9, 3, [53], 0), (47, .aload_n 0, 1, [], 0), (48, .iconst 2, 1, [], 2), (49, .invokevirtual 308, 3, [126, 2, 22], 0), (52, .lreturn, 1, [], 0), (53, .aload_n 0, 1, [], 0), (54, .getfield 12, 3, [21, 0, 2], 0), (57, .iload_n 1, 1, [], 0), (58, .invokevirtual 106, 3, [15, 2, 15], 0), (61, .ifCond .ne 9, 3, [70], 0), (64, .aload_n 0, 1, [], 0), (65, .iconst 1, 1, [], 1), (66, .invokevirtual 308, 3, [126, 2, 22], 0), (69, .lreturn, 1, [], 0), (70, .aload_n 0, 1, [], 0), (71, .getfield 12, 3, [21, 0, 2], 0), (74, .iload_n 1, 1, [], 0), (75, .iload_n 2, 1, [], 0), (76, .invokevirtual 302, 3, [123, 3, 15], 0), (79, .ifCond .ne 9, 3, [88], 0), (82, .aload_n 0, 1, [], 0), (83, .iconst 3, 1, [], 3), (84, .invokevirtual 308, 3, [126, 2, 22], 0), (87, .lreturn, 1, [], 0), (88, .aload_n 0, 1, [], 0), (89, .getfield 12, 3, [21, 0, 2], 0), (92, .getfield 113, 3, [14, 0, 2], 0), (95, .iload_n 1, 1, [], 0), (96, .aaload, 1, [], 0), (97, .iload_n 2, 1, [], 0), (98, .iaload, 1, [], 0), (99, .i2l, 1, [], 0), (100, .lreturn, 1, [], 0)]
abbrev kX_cell : Nat := 125
def jt_X_lost : List jv_E := [(0, .aload_n 0, 1, [], 0), (1, .iload_n 1, 1, [], 0), (2, .putfield 87, 3, [21, 11, 0], 0), (5, .ldc2_w 278, 3, [], (-9223372036854775808)), (8, .lreturn, 1, [], 0)]
abbrev kX_lost : Nat := 126
def jt_X_copy_0 : List jv_E := [(0, .aload_n 0, 1, [], 0), (1, .iconst 0, 1, [], 0), (2, .putfield 87, 3, [21, 11, 0], 0), (5, .aload_n 0, 1, [], 0), (6, .getfield 12, 3, [21, 0, 2], 0), (9, .iload_n 1, 1, [], 0), (10, .invokevirtual 91, 3, [12, 2, 15], 0), (13, .ifCond .eq 14, 3, [27], 0), (16, .aload_n 0, 1, [], 0), (17, .getfield 12, 3, [21, 0, 2], 0), (20, .iload_n 3, 1, [], 0), (21, .invokevirtual 91, 3, [12, 2, 15], 0), (24, .ifCond .ne 5, 3, [29], 0), (27, .iconst (-1), 1, [], (-1)), (28, .ireturn, 1, [0], 0), (29, .aload_n 0, 1, [], 0), (30, .getfield 12, 3, [21, 0, 2], 0), (33, .iload_n 1, 1, [], 0), (34, .invokevirtual 106, 3, [15, 2, 15], 0), (37, .ifCond .eq 14, 3, [51], 0), (40, .aload_n 0, 1, [], 0), (41, .getfield 12, 3, [21, 0, 2], 0), (44, .iload_n 3, 1, [], 0), (45, .invokevirtual 106, 3, [15, 2, 15], 0), (48, .ifCond .ne 9, 3, [57], 0), (51, .aload_n 0, 1, [], 0), (52, .iconst 1, 1, [], 1), (53, .invokevirtual 102, 3, [16, 2, 22], 0), (56, .ireturn, 1, [0], 0), (57, .aload_n 0, 1, [], 0), (58, .getfield 12, 3, [21, 0, 2], 0), (61, .getfield 312, 3, [14, 1, 2], 0), (64, .iload_n 1, 1, [], 0), (65, .iaload, 1, [], 0), (66, .aload_n 0, 1, [], 0), (67, .getfield 12, 3, [21, 0, 2], 0), (70, .getfield 312, 3, [14, 1, 2], 0), (73, .iload_n 3, 1, [], 0), (74, .iaload, 1, [], 0), (75, .if_icmp .eq 9, 3, [84], 0), (78, .aload_n 0, 1, [], 0), (79, .iconst 2, 1, [], 2), (80, .invokevirtual 102, 3, [16, 2, 22], 0), (83, .ireturn, 1, [0], 0), (84, .aload_n 0, 1, [], 0), (85, .getfield 12, 3, [21, 0, 2], 0), (88, .iload_n 1, 1, [], 0), (89, .iload_n 2, 1, [], 0), (90, .iload 5, 2, [], 0), (92, .invokevirtual 109, 3, [17, 4, 15], 0), (95, .ifCond .eq 18, 3, [113], 0), (98, .aload_n 0, 1, [], 0), (99, .getfield 12, 3, [21, 0, 2], 0), (102, .iload_n 3, 1, [], 0), (103, .iload 4, 2, [], 0), (105, .iload 5, 2, [], 0), (107, .invokevirtual 109, 3, [17, 4, 15], 0), (110, .ifCond .ne 9, 3, [119], 0), (113, .aload_n 0, 1, [], 0), (114, .iconst 3, 1, [], 3)]
def jt_X_copy_1 : List jv_E := [(115, .invokevirtual 102, 3, [16, 2, 22], 0), (118, .ireturn, 1, [0], 0), (119, .aload_n 0, 1, [], 0), (120, .getfield 12, 3, [21, 0, 2], 0), (123, .getfield 113, 3, [14, 0, 2], 0), (126, .iload_n 1, 1, [], 0), (127, .aaload, 1, [], 0), (128, .iload_n 2, 1, [], 0), (129, .aload_n 0, 1, [], 0), (130, .getfield 12, 3, [21, 0, 2], 0), (133, .getfield 113, 3, [14, 0, 2], 0), (136, .iload_n 3, 1, [], 0), (137, .aaload, 1, [], 0), (138, .iload 4, 2, [], 0), (140, .iload 5, 2, [], 0), (142, .invokestatic 315, 3, [1000], 0), (145, .iload 5, 2, [], 0), (147, .ireturn, 1, [0], 0)]
def jt_X_copy : List jv_E := jt_X_copy_0 ++ (jt_X_copy_1)
abbrev kX_copy : Nat := 127
def jt_X_tell : List jv_E := [(0, .aload_n 0, 1, [], 0), (1, .getfield 69, 3, [21, 7, 2], 0), (4, .iload_n 1, 1, [], 0), (5, .invokevirtual 246, 3, [93, 2, 19], 0), (8, .astore_n 2, 1, [], 0), (9, .aload_n 2, 1, [], 0), (10, .ifnonnull 5, 3, [15], 0), (13, .iconst (-1), 1, [], (-1)), (14, .ireturn, 1, [0], 0), (15, .aload_n 2, 1, [], 0), (16, .getfield 250, 3, [11, 1, 0], 0), (19, .iconst 2, 1, [], 2), (20, .if_icmp .ne 9, 3, [29], 0), (23, .aload_n 0, 1, [], 0), (24, .aload_n 2, 1, [], 0), (25, .invokevirtual 321, 3, [129, 2, 22], 0), (28, .ireturn, 1, [0], 0), (29, .aload_n 2, 1, [], 0), (30, .getfield 250, 3, [11, 1, 0], 0), (33, .iconst 1, 1, [], 1), (34, .if_icmp .ne 11, 3, [45], 0), (37, .aload_n 0, 1, [], 0), (38, .aload_n 2, 1, [], 0), (39, .invokevirtual 325, 3, [131, 2, 22], 0), (42, .goto 8, 3, [50], 0), (45, .aload_n 0, 1, [], 0), (46, .aload_n 2, 1, [], 0), (47, .invokevirtual 328, 3, [132, 2, 22], 0), (50, .ireturn, 1, [0], 0)]
abbrev kX_tell : Nat := 128
def jt_X_sealedTelling : List jv_E := [(0, .aload_n 0, 1, [], 0), (1, .iconst 3, 1, [], 3), (2, .invokevirtual 349, 3, [130, 2, 22], 0), (5, .aload_n 0, 1, [], 0), (6, .aload_n 1, 1, [], 0), (7, .invokevirtual 325, 3, [131, 2, 22], 0), (10, .istore_n 2, 1, [], 0), (11, .iload_n 2, 1, [], 0), (12, .aload_n 0, 1, [], 0), (13, .aload_n 1, 1, [], 0), (14, .invokevirtual 328, 3, [132, 2, 22], 0), (17, .iadd, 1, [], 0), (18, .ireturn, 1, [0], 0)]
abbrev kX_sealedTelling : Nat := 129
def jt_X_leave : List jv_E := [(0, .aload_n 0, 1, [], 0), (1, .bipush 31, 2, [], 31), (3, .aload_n 0, 1, [], 0), (4, .getfield 337, 3, [21, 10, 0], 0), (7, .imul, 1, [], 0), (8, .iload_n 1, 1, [], 0), (9, .iadd, 1, [], 0), (10, .putfield 337, 3, [21, 10, 0], 0), (13, .return_, 1, [], 0)]
abbrev kX_leave : Nat := 130
def jt_X_hastyTelling : List jv_E := [(0, .aload_n 0, 1, [], 0), (1, .iconst 2, 1, [], 2), (2, .invokevirtual 349, 3, [130, 2, 22], 0), (5, .aload_n 0, 1, [], 0), (6, .aload_n 1, 1, [], 0), (7, .invokevirtual 328, 3, [132, 2, 22], 0), (10, .bipush 100, 2, [], 100), (12, .iadd, 1, [], 0), (13, .ireturn, 1, [0], 0)]
abbrev kX_hastyTelling : Nat := 131
def jt_X_plainTelling : List jv_E := [(0, .aload_n 0, 1, [], 0), (1, .iconst 1, 1, [], 1), (2, .invokevirtual 349, 3, [130, 2, 22], 0), (5, .bipush 10, 2, [], 10), (7, .aload_n 1, 1, [], 0), (8, .getfield 255, 3, [11, 2, 0], 0), (11, .imul, 1, [], 0), (12, .aload_n 1, 1, [], 0), (13, .getfield 258, 3, [11, 3, 0], 0), (16, .iadd, 1, [], 0), (17, .ireturn, 1, [0], 0)]
abbrev kX_plainTelling : Nat := 132
def jt_X_stamp : List jv_E := [(0, .aload_n 0, 1, [], 0), (1, .getfield 69, 3, [21, 7, 2], 0), (4, .iload_n 1, 1, [], 0), (5, .invokevirtual 246, 3, [93, 2, 19], 0), (8, .astore_n 2, 1, [], 0), (9, .aload_n 2, 1, [], 0), (10, .ifnonnull 5, 3, [15], 0), (13, .iconst (-1), 1, [], (-1)), (14, .ireturn, 1, [0], 0), (15, .aload_n 2, 1, [], 0), (16, .getfield 250, 3, [11, 1, 0], 0), (19, .iconst 2, 1, [], 2), (20, .if_icmp .ne 10, 3, [30], 0), (23, .aload_n 0, 1, [], 0), (24, .invokevirtual 331, 3, [134, 1, 22], 0), (27, .goto 8, 3, [35], 0), (30, .aload_n 0, 1, [], 0), (31, .aload_n 2, 1, [], 0), (32, .invokevirtual 334, 3, [135, 2, 22], 0), (35, .ireturn, 1, [0], 0)]
abbrev kX_stamp : Nat := 133
def jt_X_ownStamp : List jv_E := [(0, .aload_n 0, 1, [], 0), (1, .iconst 5, 1, [], 5), (2, .invokevirtual 349, 3, [130, 2, 22], 0), (5, .bipush 90, 2, [], 90), (7, .ireturn, 1, [0], 0)]
abbrev kX_ownStamp : Nat := 134
def jt_X_lentStamp : List jv_E := [(0, .aload_n 0, 1, [], 0), (1, .iconst 4, 1, [], 4), (2, .invokevirtual 349, 3, [130, 2, 22], 0), (5, .aload_n 1, 1, [], 0), (6, .getfield 352, 3, [11, 0, 0], 0), (9, .ireturn, 1, [0], 0)]
abbrev kX_lentStamp : Nat := 135
def jt_X_as : List jv_E := [(0, .aload_n 0, 1, [], 0), (1, .iconst 0, 1, [], 0), (2, .putfield 87, 3, [21, 11, 0], 0), (5, .aload_n 0, 1, [], 0), (6, .getfield 69, 3, [21, 7, 2], 0), (9, .iload_n 1, 1, [], 0), (10, .invokevirtual 246, 3, [93, 2, 19], 0), (13, .astore_n 3, 1, [], 0), (14, .aload_n 3, 1, [], 0), (15, .ifnonnull 5, 3, [20], 0), (18, .iconst (-1), 1, [], (-1)), (19, .ireturn, 1, [0], 0), (20, .iload_n 2, 1, [], 0), (21, .invokestatic 231, 3, [84, 1, 0], 0), (24, .ifCond .ne 6, 3, [30], 0), (27, .bipush (-2), 2, [], (-2)), (29, .ireturn, 1, [0], 0), (30, .aload_n 3, 1, [], 0), (31, .getfield 250, 3, [11, 1, 0], 0), (34, .iload_n 2, 1, [], 0), (35, .if_icmp .ge 11, 3, [46], 0), (38, .aload_n 0, 1, [], 0), (39, .iconst 2, 1, [], 2), (40, .invokevirtual 102, 3, [16, 2, 22], 0), (43, .goto 4, 3, [47], 0), (46, .iconst 1, 1, [], 1), (47, .ireturn, 1, [0], 0)]
abbrev kX_as : Nat := 136
def jt_X_trace : List jv_E := [(0, .aload_n 0, 1, [], 0), (1, .getfield 337, 3, [21, 10, 0], 0), (4, .ireturn, 1, [0], 0)]
abbrev kX_trace : Nat := 137
def jt_X_fault : List jv_E := [(0, .aload_n 0, 1, [], 0), (1, .getfield 87, 3, [21, 11, 0], 0), (4, .ireturn, 1, [0], 0)]
abbrev kX_fault : Nat := 138
def jt_X_many : List jv_E := [(0, .iload_n 1, 1, [], 0), (1, .tableswitch 87 0 5 #[39, 47, 55, 63, 71, 79], 39, [88, 40, 48, 56, 64, 72, 80], 0), (40, .aload_n 0, 1, [], 0), (41, .getfield 28, 3, [21, 2, 2], 0), (44, .getfield 189, 3, [13, 0, 0], 0), (47, .ireturn, 1, [0], 0), (48, .aload_n 0, 1, [], 0), (49, .getfield 28, 3, [21, 2, 2], 0), (52, .getfield 131, 3, [13, 1, 0], 0), (55, .ireturn, 1, [0], 0), (56, .aload_n 0, 1, [], 0), (57, .getfield 69, 3, [21, 7, 2], 0), (60, .getfield 237, 3, [18, 5, 0], 0), (63, .ireturn, 1, [0], 0), (64, .aload_n 0, 1, [], 0), (65, .getfield 69, 3, [21, 7, 2], 0), (68, .invokevirtual 340, 3, [140, 1, 19], 0), (71, .ireturn, 1, [0], 0), (72, .aload_n 0, 1, [], 0), (73, .getfield 37, 3, [21, 3, 2], 0), (76, .invokevirtual 343, 3, [141, 1, 21], 0), (79, .ireturn, 1, [0], 0), (80, .aload_n 0, 1, [], 0), (81, .getfield 69, 3, [21, 7, 2], 0), (84, .getfield 346, 3, [18, 6, 0], 0), (87, .ireturn, 1, [0], 0), (88, .bipush (-2), 2, [], (-2)), (90, .ireturn, 1, [0], 0)]
abbrev kX_many : Nat := 139
def jt_Tr_countInLanes : List jv_E := [(0, .iconst 0, 1, [], 0), (1, .istore_n 1, 1, [], 0), (2, .iconst 0, 1, [], 0), (3, .istore_n 2, 1, [], 0), (4, .iload_n 2, 1, [], 0), (5, .aload_n 0, 1, [], 0), (6, .getfield 26, 3, [18, 0, 2], 0), (9, .getfield 47, 3, [13, 1, 0], 0), (12, .if_icmp .ge 18, 3, [30], 0), (15, .iload_n 1, 1, [], 0), (16, .aload_n 0, 1, [], 0), (17, .getfield 22, 3, [18, 4, 2], 0), (20, .iload_n 2, 1, [], 0), (21, .iaload, 1, [], 0), (22, .iadd, 1, [], 0), (23, .istore_n 1, 1, [], 0), (24, .iinc 2 1, 3, [], 0), (27, .goto (-23), 3, [4], 0), (30, .iload_n 1, 1, [], 0), (31, .ireturn, 1, [0], 0)]
abbrev kTr_countInLanes : Nat := 140
def jt_Wy_countBarred : List jv_E := [(0, .iconst 0, 1, [], 0), (1, .istore_n 1, 1, [], 0), (2, .iconst 0, 1, [], 0), (3, .istore_n 2, 1, [], 0), (4, .iload_n 2, 1, [], 0), (5, .aload_n 0, 1, [], 0), (6, .getfield 23, 3, [20, 0, 2], 0), (9, .getfield 60, 3, [13, 1, 0], 0), (12, .if_icmp .ge 21, 3, [33], 0), (15, .iload_n 1, 1, [], 0), (16, .aload_n 0, 1, [], 0), (17, .getfield 9, 3, [20, 1, 2], 0), (20, .iload_n 2, 1, [], 0), (21, .iaload, 1, [], 0), (22, .invokestatic 65, 3, [70, 1, 0], 0), (25, .iadd, 1, [], 0), (26, .istore_n 1, 1, [], 0), (27, .iinc 2 1, 3, [], 0), (30, .goto (-26), 3, [4], 0), (33, .iload_n 1, 1, [], 0), (34, .ireturn, 1, [0], 0)]
abbrev kWy_countBarred : Nat := 141
def jt_Y_init_0 : List jv_E := [(0, .aload_n 0, 1, [], 0), (1, .invokespecial 1, 3, [1001], 0), (4, .aload_n 0, 1, [], 0), (5, .iconst 4, 1, [], 4), (6, .newarray .int, 2, [], 0), (8, .dup, 1, [], 0), (9, .iconst 0, 1, [], 0), (10, .bipush (-9), 2, [], (-9)), (12, .iastore, 1, [], 0), (13, .dup, 1, [], 0), (14, .iconst 1, 1, [], 1), (15, .bipush (-9), 2, [], (-9)), (17, .iastore, 1, [], 0), (18, .dup, 1, [], 0), (19, .iconst 2, 1, [], 2), (20, .bipush (-9), 2, [], (-9)), (22, .iastore, 1, [], 0), (23, .dup, 1, [], 0), (24, .iconst 3, 1, [], 3), (25, .bipush (-9), 2, [], (-9)), (27, .iastore, 1, [], 0), (28, .putfield 9, 3, [22, 2, 2], 0), (31, .aload_n 0, 1, [], 0), (32, .iconst 4, 1, [], 4), (33, .newarray .int, 2, [], 0), (35, .putfield 13, 3, [22, 3, 2], 0), (38, .aload_n 0, 1, [], 0), (39, .sipush 240, 3, [], 240), (42, .newarray .int, 2, [], 0), (44, .putfield 16, 3, [22, 4, 2], 0), (47, .aload_n 0, 1, [], 0), (48, .bipush 10, 2, [], 10), (50, .newarray .int, 2, [], 0), (52, .putfield 19, 3, [22, 7, 2], 0), (55, .aload_n 0, 1, [], 0), (56, .bipush 10, 2, [], 10), (58, .newarray .int, 2, [], 0), (60, .putfield 22, 3, [22, 8, 2], 0), (63, .aload_n 0, 1, [], 0), (64, .bipush 10, 2, [], 10), (66, .newarray .int, 2, [], 0), (68, .putfield 25, 3, [22, 9, 2], 0), (71, .aload_n 0, 1, [], 0), (72, .bipush 10, 2, [], 10), (74, .newarray .int, 2, [], 0), (76, .putfield 28, 3, [22, 10, 2], 0), (79, .aload_n 0, 1, [], 0), (80, .bipush 36, 2, [], 36), (82, .newarray .int, 2, [], 0), (84, .putfield 31, 3, [22, 11, 2], 0), (87, .aload_n 0, 1, [], 0), (88, .bipush 10, 2, [], 10), (90, .newarray .int, 2, [], 0), (92, .putfield 34, 3, [22, 15, 2], 0), (95, .aload_n 0, 1, [], 0), (96, .bipush 10, 2, [], 10), (98, .newarray .int, 2, [], 0), (100, .putfield 37, 3, [22, 16, 2], 0), (103, .aload_n 0, 1, [], 0), (104, .bipush 10, 2, [], 10)]
def jt_Y_init_1 : List jv_E := [(106, .newarray .int, 2, [], 0), (108, .putfield 40, 3, [22, 17, 2], 0), (111, .aload_n 0, 1, [], 0), (112, .bipush 10, 2, [], 10), (114, .newarray .int, 2, [], 0), (116, .putfield 43, 3, [22, 18, 2], 0), (119, .aload_n 0, 1, [], 0), (120, .bipush 10, 2, [], 10), (122, .newarray .int, 2, [], 0), (124, .putfield 46, 3, [22, 19, 2], 0), (127, .aload_n 0, 1, [], 0), (128, .bipush 10, 2, [], 10), (130, .newarray .int, 2, [], 0), (132, .putfield 49, 3, [22, 20, 2], 0), (135, .aload_n 0, 1, [], 0), (136, .bipush 10, 2, [], 10), (138, .newarray .int, 2, [], 0), (140, .putfield 52, 3, [22, 22, 2], 0), (143, .aload_n 0, 1, [], 0), (144, .sipush 15625, 3, [], 15625), (147, .newarray .int, 2, [], 0), (149, .putfield 55, 3, [22, 23, 2], 0), (152, .aload_n 0, 1, [], 0), (153, .sipush 15625, 3, [], 15625), (156, .newarray .int, 2, [], 0), (158, .putfield 58, 3, [22, 24, 2], 0), (161, .aload_n 0, 1, [], 0), (162, .bipush 6, 2, [], 6), (164, .newarray .int, 2, [], 0), (166, .putfield 61, 3, [22, 26, 2], 0), (169, .aload_n 0, 1, [], 0), (170, .bipush 30, 2, [], 30), (172, .newarray .int, 2, [], 0), (174, .putfield 64, 3, [22, 28, 2], 0), (177, .aload_n 0, 1, [], 0), (178, .bipush 30, 2, [], 30), (180, .newarray .int, 2, [], 0), (182, .putfield 67, 3, [22, 29, 2], 0), (185, .aload_n 0, 1, [], 0), (186, .bipush 30, 2, [], 30), (188, .newarray .int, 2, [], 0), (190, .putfield 70, 3, [22, 30, 2], 0), (193, .aload_n 0, 1, [], 0), (194, .bipush 30, 2, [], 30), (196, .newarray .int, 2, [], 0), (198, .putfield 73, 3, [22, 31, 2], 0), (201, .aload_n 0, 1, [], 0), (202, .bipush 30, 2, [], 30), (204, .newarray .int, 2, [], 0), (206, .putfield 76, 3, [22, 32, 2], 0), (209, .aload_n 0, 1, [], 0), (210, .bipush 30, 2, [], 30), (212, .newarray .int, 2, [], 0), (214, .putfield 79, 3, [22, 33, 2], 0), (217, .aload_n 0, 1, [], 0), (218, .bipush 30, 2, [], 30), (220, .newarray .int, 2, [], 0), (222, .putfield 82, 3, [22, 34, 2], 0), (225, .aload_n 0, 1, [], 0), (226, .bipush 10, 2, [], 10)]
def jt_Y_init_2 : List jv_E := [(228, .newarray .int, 2, [], 0), (230, .putfield 85, 3, [22, 35, 2], 0), (233, .aload_n 0, 1, [], 0), (234, .bipush 20, 2, [], 20), (236, .newarray .int, 2, [], 0), (238, .putfield 88, 3, [22, 36, 2], 0), (241, .aload_n 0, 1, [], 0), (242, .bipush 10, 2, [], 10), (244, .newarray .int, 2, [], 0), (246, .putfield 91, 3, [22, 37, 2], 0), (249, .aload_n 0, 1, [], 0), (250, .bipush 100, 2, [], 100), (252, .newarray .int, 2, [], 0), (254, .putfield 94, 3, [22, 39, 2], 0), (257, .aload_n 0, 1, [], 0), (258, .bipush 100, 2, [], 100), (260, .newarray .int, 2, [], 0), (262, .putfield 97, 3, [22, 40, 2], 0), (265, .aload_n 0, 1, [], 0), (266, .bipush 11, 2, [], 11), (268, .newarray .long, 2, [], 0), (270, .putfield 100, 3, [22, 44, 2], 0), (273, .aload_n 0, 1, [], 0), (274, .bipush 11, 2, [], 11), (276, .newarray .long, 2, [], 0), (278, .putfield 104, 3, [22, 45, 2], 0), (281, .aload_n 0, 1, [], 0), (282, .bipush 11, 2, [], 11), (284, .newarray .long, 2, [], 0), (286, .putfield 107, 3, [22, 46, 2], 0), (289, .aload_n 0, 1, [], 0), (290, .bipush 11, 2, [], 11), (292, .newarray .long, 2, [], 0), (294, .putfield 110, 3, [22, 47, 2], 0), (297, .aload_n 0, 1, [], 0), (298, .bipush 11, 2, [], 11), (300, .newarray .long, 2, [], 0), (302, .putfield 113, 3, [22, 48, 2], 0), (305, .aload_n 0, 1, [], 0), (306, .bipush 11, 2, [], 11), (308, .newarray .long, 2, [], 0), (310, .putfield 116, 3, [22, 49, 2], 0), (313, .return_, 1, [], 0)]
def jt_Y_init : List jv_E := jt_Y_init_0 ++ (jt_Y_init_1 ++ (jt_Y_init_2))
abbrev kY_init : Nat := 142
def jt_Y_net_0 : List jv_E := [(0, .aload_n 0, 1, [], 0), (1, .iconst 0, 1, [], 0), (2, .putfield 119, 3, [22, 0, 0], 0), (5, .iload_n 1, 1, [], 0), (6, .invokestatic 139, 3, [144, 1, 0], 0), (9, .ifCond .ne 5, 3, [14], 0), (12, .iconst (-1), 1, [], (-1)), (13, .ireturn, 1, [0], 0), (14, .iload_n 2, 1, [], 0), (15, .invokestatic 143, 3, [146, 1, 0], 0), (18, .ifCond .ne 6, 3, [24], 0), (21, .bipush (-2), 2, [], (-2)), (23, .ireturn, 1, [0], 0), (24, .aload_n 0, 1, [], 0), (25, .getfield 9, 3, [22, 2, 2], 0), (28, .iload_n 1, 1, [], 0), (29, .iaload, 1, [], 0), (30, .bipush (-9), 2, [], (-9)), (32, .if_icmp .eq 19, 3, [51], 0), (35, .aload_n 0, 1, [], 0), (36, .getfield 9, 3, [22, 2, 2], 0), (39, .iload_n 1, 1, [], 0), (40, .iaload, 1, [], 0), (41, .iload_n 2, 1, [], 0), (42, .if_icmp .eq 9, 3, [51], 0), (45, .aload_n 0, 1, [], 0), (46, .iconst 2, 1, [], 2), (47, .invokevirtual 146, 3, [147, 2, 23], 0), (50, .ireturn, 1, [0], 0), (51, .aload_n 0, 1, [], 0), (52, .getfield 9, 3, [22, 2, 2], 0), (55, .iload_n 1, 1, [], 0), (56, .iaload, 1, [], 0), (57, .bipush (-9), 2, [], (-9)), (59, .if_icmp .ne 9, 3, [68], 0), (62, .aload_n 0, 1, [], 0), (63, .iconst 1, 1, [], 1), (64, .invokevirtual 146, 3, [147, 2, 23], 0), (67, .ireturn, 1, [0], 0), (68, .iload 4, 2, [], 0), (70, .ifCond .ge 9, 3, [79], 0), (73, .aload_n 0, 1, [], 0), (74, .iconst 4, 1, [], 4), (75, .invokevirtual 146, 3, [147, 2, 23], 0), (78, .ireturn, 1, [0], 0), (79, .iload_n 3, 1, [], 0), (80, .ifCond .lt 26, 3, [106], 0), (83, .iload_n 3, 1, [], 0), (84, .aload_n 0, 1, [], 0), (85, .getfield 13, 3, [22, 3, 2], 0), (88, .iload_n 1, 1, [], 0), (89, .iaload, 1, [], 0), (90, .if_icmp .gt 16, 3, [106], 0), (93, .iload 4, 2, [], 0), (95, .aload_n 0, 1, [], 0), (96, .getfield 13, 3, [22, 3, 2], 0), (99, .iload_n 1, 1, [], 0), (100, .iaload, 1, [], 0), (101, .iload_n 3, 1, [], 0), (102, .isub, 1, [], 0)]
def jt_Y_net_1 : List jv_E := [(103, .if_icmp .le 9, 3, [112], 0), (106, .aload_n 0, 1, [], 0), (107, .iconst 3, 1, [], 3), (108, .invokevirtual 146, 3, [147, 2, 23], 0), (111, .ireturn, 1, [0], 0), (112, .aload_n 0, 1, [], 0), (113, .bipush 60, 2, [], 60), (115, .iload_n 1, 1, [], 0), (116, .imul, 1, [], 0), (117, .iload_n 3, 1, [], 0), (118, .iadd, 1, [], 0), (119, .iload 4, 2, [], 0), (121, .invokevirtual 150, 3, [148, 3, 23], 0), (124, .istore 5, 2, [], 0), (126, .iload 5, 2, [], 0), (128, .bipush (-9), 2, [], (-9)), (130, .if_icmp .eq 9, 3, [139], 0), (133, .bipush (-100), 2, [], (-100)), (135, .iload 5, 2, [], 0), (137, .isub, 1, [], 0), (138, .ireturn, 1, [0], 0), (139, .aload_n 0, 1, [], 0), (140, .aload_n 0, 1, [], 0), (141, .getfield 154, 3, [22, 13, 0], 0), (144, .putfield 133, 3, [22, 5, 0], 0), (147, .aload_n 0, 1, [], 0), (148, .aload_n 0, 1, [], 0), (149, .getfield 157, 3, [22, 14, 0], 0), (152, .putfield 136, 3, [22, 6, 0], 0), (155, .iconst 0, 1, [], 0), (156, .istore 6, 2, [], 0), (158, .iload 6, 2, [], 0), (160, .aload_n 0, 1, [], 0), (161, .getfield 136, 3, [22, 6, 0], 0), (164, .if_icmp .ge 67, 3, [231], 0), (167, .aload_n 0, 1, [], 0), (168, .getfield 19, 3, [22, 7, 2], 0), (171, .iload 6, 2, [], 0), (173, .aload_n 0, 1, [], 0), (174, .getfield 34, 3, [22, 15, 2], 0), (177, .iload 6, 2, [], 0), (179, .iaload, 1, [], 0), (180, .iastore, 1, [], 0), (181, .aload_n 0, 1, [], 0), (182, .getfield 22, 3, [22, 8, 2], 0), (185, .iload 6, 2, [], 0), (187, .aload_n 0, 1, [], 0), (188, .getfield 37, 3, [22, 16, 2], 0), (191, .iload 6, 2, [], 0), (193, .iaload, 1, [], 0), (194, .iastore, 1, [], 0), (195, .aload_n 0, 1, [], 0), (196, .getfield 25, 3, [22, 9, 2], 0), (199, .iload 6, 2, [], 0), (201, .aload_n 0, 1, [], 0), (202, .getfield 40, 3, [22, 17, 2], 0), (205, .iload 6, 2, [], 0), (207, .iaload, 1, [], 0), (208, .iastore, 1, [], 0), (209, .aload_n 0, 1, [], 0)]
def jt_Y_net_2 : List jv_E := [(210, .getfield 28, 3, [22, 10, 2], 0), (213, .iload 6, 2, [], 0), (215, .iconst 0, 1, [], 0), (216, .iastore, 1, [], 0), (217, .aload_n 0, 1, [], 0), (218, .getfield 85, 3, [22, 35, 2], 0), (221, .iload 6, 2, [], 0), (223, .iconst 0, 1, [], 0), (224, .iastore, 1, [], 0), (225, .iinc 6 1, 3, [], 0), (228, .goto (-70), 3, [158], 0), (231, .aload_n 0, 1, [], 0), (232, .invokevirtual 160, 3, [150, 1, 23], 0), (235, .aload_n 0, 1, [], 0), (236, .iconst 0, 1, [], 0), (237, .putfield 163, 3, [22, 27, 0], 0), (240, .aload_n 0, 1, [], 0), (241, .iconst 0, 1, [], 0), (242, .putfield 166, 3, [22, 38, 0], 0), (245, .aload_n 0, 1, [], 0), (246, .getfield 136, 3, [22, 6, 0], 0), (249, .ireturn, 1, [0], 0)]
def jt_Y_net : List jv_E := jt_Y_net_0 ++ (jt_Y_net_1 ++ (jt_Y_net_2))
abbrev kY_net : Nat := 143
def jt_Y_isSheet : List jv_E := [(0, .iload_n 0, 1, [], 0), (1, .iconst 0, 1, [], 0), (2, .iconst 3, 1, [], 3), (3, .invokestatic 129, 3, [145, 3, 0], 0), (6, .ireturn, 1, [1], 0)]
abbrev kY_isSheet : Nat := 144
def jt_Y_within : List jv_E := [(0, .iload_n 0, 1, [], 0), (1, .iload_n 1, 1, [], 0), (2, .if_icmp .lt 12, 3, [14], 0), (5, .iload_n 0, 1, [], 0), (6, .iload_n 2, 1, [], 0), (7, .if_icmp .gt 7, 3, [14], 0), (10, .iconst 1, 1, [], 1), (11, .goto 4, 3, [15], 0), (14, .iconst 0, 1, [], 0), (15, .ireturn, 1, [1], 0)]
abbrev kY_within : Nat := 145
def jt_Y_isSort : List jv_E := [(0, .iload_n 0, 1, [], 0), (1, .iconst 0, 1, [], 0), (2, .iconst 2, 1, [], 2), (3, .invokestatic 129, 3, [145, 3, 0], 0), (6, .ireturn, 1, [1], 0)]
abbrev kY_isSort : Nat := 146
def jt_Y_fails : List jv_E := [(0, .aload_n 0, 1, [], 0), (1, .iload_n 1, 1, [], 0), (2, .putfield 119, 3, [22, 0, 0], 0), (5, .bipush (-10), 2, [], (-10)), (7, .iload_n 1, 1, [], 0), (8, .isub, 1, [], 0), (9, .ireturn, 1, [0], 0)]
abbrev kY_fails : Nat := 147
def jt_Y_readNet_0 : List jv_E := [(0, .iload_n 1, 1, [], 0), (1, .iload_n 2, 1, [], 0), (2, .iadd, 1, [], 0), (3, .istore_n 3, 1, [], 0), (4, .iload_n 1, 1, [], 0), (5, .istore 4, 2, [], 0), (7, .aload_n 0, 1, [], 0), (8, .iconst 0, 1, [], 0), (9, .putfield 157, 3, [22, 14, 0], 0), (12, .iload 4, 2, [], 0), (14, .iload_n 3, 1, [], 0), (15, .if_icmp .eq 15, 3, [30], 0), (18, .aload_n 0, 1, [], 0), (19, .getfield 16, 3, [22, 4, 2], 0), (22, .iload 4, 2, [], 0), (24, .iaload, 1, [], 0), (25, .bipush 110, 2, [], 110), (27, .if_icmp .eq 5, 3, [32], 0), (30, .iconst 0, 1, [], 0), (31, .ireturn, 1, [0], 0), (32, .iinc 4 1, 3, [], 0), (35, .aload_n 0, 1, [], 0), (36, .aload_n 0, 1, [], 0), (37, .iload 4, 2, [], 0), (39, .iload_n 3, 1, [], 0), (40, .invokevirtual 169, 3, [149, 3, 23], 0), (43, .putfield 154, 3, [22, 13, 0], 0), (46, .aload_n 0, 1, [], 0), (47, .getfield 154, 3, [22, 13, 0], 0), (50, .iconst 2, 1, [], 2), (51, .bipush 6, 2, [], 6), (53, .invokestatic 129, 3, [145, 3, 0], 0), (56, .ifCond .ne 8, 3, [64], 0), (59, .iload 4, 2, [], 0), (61, .iload_n 1, 1, [], 0), (62, .isub, 1, [], 0), (63, .ireturn, 1, [0], 0), (64, .iinc 4 1, 3, [], 0), (67, .iload 4, 2, [], 0), (69, .iload_n 3, 1, [], 0), (70, .if_icmp .ge 226, 3, [296], 0), (73, .aload_n 0, 1, [], 0), (74, .getfield 16, 3, [22, 4, 2], 0), (77, .iload 4, 2, [], 0), (79, .iaload, 1, [], 0), (80, .bipush 59, 2, [], 59), (82, .if_icmp .ne 12, 3, [94], 0), (85, .aload_n 0, 1, [], 0), (86, .getfield 157, 3, [22, 14, 0], 0), (89, .bipush 10, 2, [], 10), (91, .if_icmp .ne 8, 3, [99], 0), (94, .iload 4, 2, [], 0), (96, .iload_n 1, 1, [], 0), (97, .isub, 1, [], 0), (98, .ireturn, 1, [0], 0), (99, .iinc 4 1, 3, [], 0), (102, .aload_n 0, 1, [], 0), (103, .iload 4, 2, [], 0), (105, .iload_n 3, 1, [], 0), (106, .invokevirtual 169, 3, [149, 3, 23], 0)]
def jt_Y_readNet_1 : List jv_E := [(109, .istore 5, 2, [], 0), (111, .iload 5, 2, [], 0), (113, .iconst 0, 1, [], 0), (114, .aload_n 0, 1, [], 0), (115, .getfield 154, 3, [22, 13, 0], 0), (118, .iconst 1, 1, [], 1), (119, .isub, 1, [], 0), (120, .invokestatic 129, 3, [145, 3, 0], 0), (123, .ifCond .ne 8, 3, [131], 0), (126, .iload 4, 2, [], 0), (128, .iload_n 1, 1, [], 0), (129, .isub, 1, [], 0), (130, .ireturn, 1, [0], 0), (131, .iinc 4 1, 3, [], 0), (134, .iload 4, 2, [], 0), (136, .iload_n 3, 1, [], 0), (137, .if_icmp .eq 15, 3, [152], 0), (140, .aload_n 0, 1, [], 0), (141, .getfield 16, 3, [22, 4, 2], 0), (144, .iload 4, 2, [], 0), (146, .iaload, 1, [], 0), (147, .bipush 62, 2, [], 62), (149, .if_icmp .eq 8, 3, [157], 0), (152, .iload 4, 2, [], 0), (154, .iload_n 1, 1, [], 0), (155, .isub, 1, [], 0), (156, .ireturn, 1, [0], 0), (157, .iinc 4 1, 3, [], 0), (160, .aload_n 0, 1, [], 0), (161, .iload 4, 2, [], 0), (163, .iload_n 3, 1, [], 0), (164, .invokevirtual 169, 3, [149, 3, 23], 0), (167, .istore 6, 2, [], 0), (169, .iload 6, 2, [], 0), (171, .iconst 0, 1, [], 0), (172, .aload_n 0, 1, [], 0), (173, .getfield 154, 3, [22, 13, 0], 0), (176, .iconst 1, 1, [], 1), (177, .isub, 1, [], 0), (178, .invokestatic 129, 3, [145, 3, 0], 0), (181, .ifCond .eq 10, 3, [191], 0), (184, .iload 6, 2, [], 0), (186, .iload 5, 2, [], 0), (188, .if_icmp .ne 8, 3, [196], 0), (191, .iload 4, 2, [], 0), (193, .iload_n 1, 1, [], 0), (194, .isub, 1, [], 0), (195, .ireturn, 1, [0], 0), (196, .iinc 4 1, 3, [], 0), (199, .iconst 1, 1, [], 1), (200, .istore 7, 2, [], 0), (202, .iload 4, 2, [], 0), (204, .iload_n 3, 1, [], 0), (205, .if_icmp .ge 45, 3, [250], 0), (208, .aload_n 0, 1, [], 0), (209, .getfield 16, 3, [22, 4, 2], 0), (212, .iload 4, 2, [], 0), (214, .iaload, 1, [], 0), (215, .bipush 42, 2, [], 42), (217, .if_icmp .ne 33, 3, [250], 0)]
def jt_Y_readNet_2 : List jv_E := [(220, .iinc 4 1, 3, [], 0), (223, .aload_n 0, 1, [], 0), (224, .iload 4, 2, [], 0), (226, .iload_n 3, 1, [], 0), (227, .invokevirtual 169, 3, [149, 3, 23], 0), (230, .istore 7, 2, [], 0), (232, .iload 7, 2, [], 0), (234, .iconst 1, 1, [], 1), (235, .iconst 2, 1, [], 2), (236, .invokestatic 129, 3, [145, 3, 0], 0), (239, .ifCond .ne 8, 3, [247], 0), (242, .iload 4, 2, [], 0), (244, .iload_n 1, 1, [], 0), (245, .isub, 1, [], 0), (246, .ireturn, 1, [0], 0), (247, .iinc 4 1, 3, [], 0), (250, .aload_n 0, 1, [], 0), (251, .getfield 34, 3, [22, 15, 2], 0), (254, .aload_n 0, 1, [], 0), (255, .getfield 157, 3, [22, 14, 0], 0), (258, .iload 5, 2, [], 0), (260, .iastore, 1, [], 0), (261, .aload_n 0, 1, [], 0), (262, .getfield 37, 3, [22, 16, 2], 0), (265, .aload_n 0, 1, [], 0), (266, .getfield 157, 3, [22, 14, 0], 0), (269, .iload 6, 2, [], 0), (271, .iastore, 1, [], 0), (272, .aload_n 0, 1, [], 0), (273, .getfield 40, 3, [22, 17, 2], 0), (276, .aload_n 0, 1, [], 0), (277, .getfield 157, 3, [22, 14, 0], 0), (280, .iload 7, 2, [], 0), (282, .iastore, 1, [], 0), (283, .aload_n 0, 1, [], 0), (284, .dup, 1, [], 0), (285, .getfield 157, 3, [22, 14, 0], 0), (288, .iconst 1, 1, [], 1), (289, .iadd, 1, [], 0), (290, .putfield 157, 3, [22, 14, 0], 0), (293, .goto (-226), 3, [67], 0), (296, .aload_n 0, 1, [], 0), (297, .getfield 157, 3, [22, 14, 0], 0), (300, .ifCond .ne 7, 3, [307], 0), (303, .iload_n 2, 1, [], 0), (304, .goto 5, 3, [309], 0), (307, .bipush (-9), 2, [], (-9)), (309, .ireturn, 1, [0], 0)]
def jt_Y_readNet : List jv_E := jt_Y_readNet_0 ++ (jt_Y_readNet_1 ++ (jt_Y_readNet_2))
abbrev kY_readNet : Nat := 148
def jt_Y_digitAt : List jv_E := [(0, .iload_n 1, 1, [], 0), (1, .iload_n 2, 1, [], 0), (2, .if_icmp .ge 31, 3, [33], 0), (5, .aload_n 0, 1, [], 0), (6, .getfield 16, 3, [22, 4, 2], 0), (9, .iload_n 1, 1, [], 0), (10, .iaload, 1, [], 0), (11, .bipush 48, 2, [], 48), (13, .bipush 57, 2, [], 57), (15, .invokestatic 129, 3, [145, 3, 0], 0), (18, .ifCond .eq 15, 3, [33], 0), (21, .aload_n 0, 1, [], 0), (22, .getfield 16, 3, [22, 4, 2], 0), (25, .iload_n 1, 1, [], 0), (26, .iaload, 1, [], 0), (27, .bipush 48, 2, [], 48), (29, .isub, 1, [], 0), (30, .goto 5, 3, [35], 0), (33, .bipush (-9), 2, [], (-9)), (35, .ireturn, 1, [0], 0)]
abbrev kY_digitAt : Nat := 149
def jt_Y_layFar_0 : List jv_E := [(0, .iconst 0, 1, [], 0), (1, .istore_n 1, 1, [], 0), (2, .iload_n 1, 1, [], 0), (3, .bipush 36, 2, [], 36), (5, .if_icmp .ge 32, 3, [37], 0), (8, .aload_n 0, 1, [], 0), (9, .getfield 31, 3, [22, 11, 2], 0), (12, .iload_n 1, 1, [], 0), (13, .iload_n 1, 1, [], 0), (14, .bipush 6, 2, [], 6), (16, .idiv, 1, [], 0), (17, .iload_n 1, 1, [], 0), (18, .bipush 6, 2, [], 6), (20, .irem, 1, [], 0), (21, .if_icmp .ne 7, 3, [28], 0), (24, .iconst 0, 1, [], 0), (25, .goto 5, 3, [30], 0), (28, .bipush (-9), 2, [], (-9)), (30, .iastore, 1, [], 0), (31, .iinc 1 1, 3, [], 0), (34, .goto (-32), 3, [2], 0), (37, .iconst 0, 1, [], 0), (38, .istore_n 1, 1, [], 0), (39, .iload_n 1, 1, [], 0), (40, .bipush 6, 2, [], 6), (42, .if_icmp .ge 120, 3, [162], 0), (45, .iconst 0, 1, [], 0), (46, .istore_n 2, 1, [], 0), (47, .iload_n 2, 1, [], 0), (48, .aload_n 0, 1, [], 0), (49, .getfield 136, 3, [22, 6, 0], 0), (52, .if_icmp .ge 104, 3, [156], 0), (55, .iconst 0, 1, [], 0), (56, .istore_n 3, 1, [], 0), (57, .iload_n 3, 1, [], 0), (58, .aload_n 0, 1, [], 0), (59, .getfield 133, 3, [22, 5, 0], 0), (62, .if_icmp .ge 88, 3, [150], 0), (65, .aload_n 0, 1, [], 0), (66, .getfield 31, 3, [22, 11, 2], 0), (69, .bipush 6, 2, [], 6), (71, .aload_n 0, 1, [], 0), (72, .getfield 22, 3, [22, 8, 2], 0), (75, .iload_n 2, 1, [], 0), (76, .iaload, 1, [], 0), (77, .imul, 1, [], 0), (78, .iload_n 3, 1, [], 0), (79, .iadd, 1, [], 0), (80, .iaload, 1, [], 0), (81, .istore 4, 2, [], 0), (83, .aload_n 0, 1, [], 0), (84, .getfield 31, 3, [22, 11, 2], 0), (87, .bipush 6, 2, [], 6), (89, .aload_n 0, 1, [], 0), (90, .getfield 19, 3, [22, 7, 2], 0), (93, .iload_n 2, 1, [], 0), (94, .iaload, 1, [], 0), (95, .imul, 1, [], 0), (96, .iload_n 3, 1, [], 0), (97, .iadd, 1, [], 0)]
def jt_Y_layFar_1 : List jv_E := [(98, .iaload, 1, [], 0), (99, .istore 5, 2, [], 0), (101, .iload 4, 2, [], 0), (103, .bipush (-9), 2, [], (-9)), (105, .if_icmp .eq 39, 3, [144], 0), (108, .iload 5, 2, [], 0), (110, .bipush (-9), 2, [], (-9)), (112, .if_icmp .eq 12, 3, [124], 0), (115, .iload 4, 2, [], 0), (117, .iconst 1, 1, [], 1), (118, .iadd, 1, [], 0), (119, .iload 5, 2, [], 0), (121, .if_icmp .ge 23, 3, [144], 0), (124, .aload_n 0, 1, [], 0), (125, .getfield 31, 3, [22, 11, 2], 0), (128, .bipush 6, 2, [], 6), (130, .aload_n 0, 1, [], 0), (131, .getfield 19, 3, [22, 7, 2], 0), (134, .iload_n 2, 1, [], 0), (135, .iaload, 1, [], 0), (136, .imul, 1, [], 0), (137, .iload_n 3, 1, [], 0), (138, .iadd, 1, [], 0), (139, .iload 4, 2, [], 0), (141, .iconst 1, 1, [], 1), (142, .iadd, 1, [], 0), (143, .iastore, 1, [], 0), (144, .iinc 3 1, 3, [], 0), (147, .goto (-90), 3, [57], 0), (150, .iinc 2 1, 3, [], 0), (153, .goto (-106), 3, [47], 0), (156, .iinc 1 1, 3, [], 0), (159, .goto (-120), 3, [39], 0), (162, .return_, 1, [], 0)]
def jt_Y_layFar : List jv_E := jt_Y_layFar_0 ++ (jt_Y_layFar_1)
abbrev kY_layFar : Nat := 150
def jt_Y_ofLane : List jv_E := [(0, .aload_n 0, 1, [], 0), (1, .iload_n 1, 1, [], 0), (2, .invokevirtual 172, 3, [152, 2, 23], 0), (5, .ifCond .ne 5, 3, [10], 0), (8, .iconst (-1), 1, [], (-1)), (9, .ireturn, 1, [0], 0), (10, .iload_n 2, 1, [], 0), (11, .tableswitch 57 0 3 #[29, 36, 43, 50], 29, [68, 40, 47, 54, 61], 0), (40, .aload_n 0, 1, [], 0), (41, .getfield 19, 3, [22, 7, 2], 0), (44, .iload_n 1, 1, [], 0), (45, .iaload, 1, [], 0), (46, .ireturn, 1, [0], 0), (47, .aload_n 0, 1, [], 0), (48, .getfield 22, 3, [22, 8, 2], 0), (51, .iload_n 1, 1, [], 0), (52, .iaload, 1, [], 0), (53, .ireturn, 1, [0], 0), (54, .aload_n 0, 1, [], 0), (55, .getfield 25, 3, [22, 9, 2], 0), (58, .iload_n 1, 1, [], 0), (59, .iaload, 1, [], 0), (60, .ireturn, 1, [0], 0), (61, .aload_n 0, 1, [], 0), (62, .getfield 85, 3, [22, 35, 2], 0), (65, .iload_n 1, 1, [], 0), (66, .iaload, 1, [], 0), (67, .ireturn, 1, [0], 0), (68, .iload_n 2, 1, [], 0), (69, .bipush 10, 2, [], 10), (71, .bipush 9, 2, [], 9), (73, .aload_n 0, 1, [], 0), (74, .getfield 85, 3, [22, 35, 2], 0), (77, .iload_n 1, 1, [], 0), (78, .iaload, 1, [], 0), (79, .iadd, 1, [], 0), (80, .invokestatic 129, 3, [145, 3, 0], 0), (83, .ifCond .eq 19, 3, [102], 0), (86, .aload_n 0, 1, [], 0), (87, .getfield 88, 3, [22, 36, 2], 0), (90, .iconst 2, 1, [], 2), (91, .iload_n 1, 1, [], 0), (92, .imul, 1, [], 0), (93, .iload_n 2, 1, [], 0), (94, .iadd, 1, [], 0), (95, .bipush 10, 2, [], 10), (97, .isub, 1, [], 0), (98, .iaload, 1, [], 0), (99, .goto 5, 3, [104], 0), (102, .bipush (-2), 2, [], (-2)), (104, .ireturn, 1, [0], 0)]
abbrev kY_ofLane : Nat := 151
def jt_Y_isLane : List jv_E := [(0, .iload_n 1, 1, [], 0), (1, .ifCond .lt 15, 3, [16], 0), (4, .iload_n 1, 1, [], 0), (5, .aload_n 0, 1, [], 0), (6, .getfield 136, 3, [22, 6, 0], 0), (9, .if_icmp .ge 7, 3, [16], 0), (12, .iconst 1, 1, [], 1), (13, .goto 4, 3, [17], 0), (16, .iconst 0, 1, [], 0), (17, .ireturn, 1, [1], 0)]
abbrev kY_isLane : Nat := 152
def jt_Y_far : List jv_E := [(0, .aload_n 0, 1, [], 0), (1, .iload_n 1, 1, [], 0), (2, .invokevirtual 175, 3, [154, 2, 23], 0), (5, .ifCond .eq 25, 3, [30], 0), (8, .aload_n 0, 1, [], 0), (9, .iload_n 2, 1, [], 0), (10, .invokevirtual 175, 3, [154, 2, 23], 0), (13, .ifCond .eq 17, 3, [30], 0), (16, .aload_n 0, 1, [], 0), (17, .getfield 31, 3, [22, 11, 2], 0), (20, .bipush 6, 2, [], 6), (22, .iload_n 1, 1, [], 0), (23, .imul, 1, [], 0), (24, .iload_n 2, 1, [], 0), (25, .iadd, 1, [], 0), (26, .iaload, 1, [], 0), (27, .goto 4, 3, [31], 0), (30, .iconst (-1), 1, [], (-1)), (31, .ireturn, 1, [0], 0)]
abbrev kY_far : Nat := 153
def jt_Y_isNode : List jv_E := [(0, .iload_n 1, 1, [], 0), (1, .ifCond .lt 15, 3, [16], 0), (4, .iload_n 1, 1, [], 0), (5, .aload_n 0, 1, [], 0), (6, .getfield 133, 3, [22, 5, 0], 0), (9, .if_icmp .ge 7, 3, [16], 0), (12, .iconst 1, 1, [], 1), (13, .goto 4, 3, [17], 0), (16, .iconst 0, 1, [], 0), (17, .ireturn, 1, [1], 0)]
abbrev kY_isNode : Nat := 154
def jt_Y_rule : List jv_E := [(0, .iload_n 1, 1, [], 0), (1, .iconst 0, 1, [], 0), (2, .iconst 2, 1, [], 2), (3, .invokestatic 129, 3, [145, 3, 0], 0), (6, .ifCond .ne 6, 3, [12], 0), (9, .bipush (-2), 2, [], (-2)), (11, .ireturn, 1, [0], 0), (12, .aload_n 0, 1, [], 0), (13, .getfield 178, 3, [22, 12, 0], 0), (16, .istore_n 2, 1, [], 0), (17, .aload_n 0, 1, [], 0), (18, .iload_n 1, 1, [], 0), (19, .putfield 178, 3, [22, 12, 0], 0), (22, .iload_n 2, 1, [], 0), (23, .ireturn, 1, [0], 0)]
abbrev kY_rule : Nat := 155
def jt_Y_bar_0 : List jv_E := [(0, .aload_n 0, 1, [], 0), (1, .iload_n 1, 1, [], 0), (2, .invokevirtual 172, 3, [152, 2, 23], 0), (5, .ifCond .eq 11, 3, [16], 0), (8, .aload_n 0, 1, [], 0), (9, .iload_n 2, 1, [], 0), (10, .invokevirtual 172, 3, [152, 2, 23], 0), (13, .ifCond .ne 5, 3, [18], 0), (16, .iconst (-1), 1, [], (-1)), (17, .ireturn, 1, [0], 0), (18, .iload_n 3, 1, [], 0), (19, .iconst 0, 1, [], 0), (20, .iconst 1, 1, [], 1), (21, .invokestatic 129, 3, [145, 3, 0], 0), (24, .ifCond .ne 6, 3, [30], 0), (27, .bipush (-2), 2, [], (-2)), (29, .ireturn, 1, [0], 0), (30, .aload_n 0, 1, [], 0), (31, .getfield 19, 3, [22, 7, 2], 0), (34, .iload_n 2, 1, [], 0), (35, .iaload, 1, [], 0), (36, .aload_n 0, 1, [], 0), (37, .getfield 22, 3, [22, 8, 2], 0), (40, .iload_n 1, 1, [], 0), (41, .iaload, 1, [], 0), (42, .if_icmp .eq 6, 3, [48], 0), (45, .bipush (-3), 2, [], (-3)), (47, .ireturn, 1, [0], 0), (48, .aload_n 0, 1, [], 0), (49, .getfield 28, 3, [22, 10, 2], 0), (52, .iload_n 1, 1, [], 0), (53, .iaload, 1, [], 0), (54, .iload_n 2, 1, [], 0), (55, .ishr, 1, [], 0), (56, .iconst 1, 1, [], 1), (57, .iand, 1, [], 0), (58, .istore 4, 2, [], 0), (60, .aload_n 0, 1, [], 0), (61, .getfield 28, 3, [22, 10, 2], 0), (64, .iload_n 1, 1, [], 0), (65, .iload_n 3, 1, [], 0), (66, .iconst 1, 1, [], 1), (67, .if_icmp .ne 16, 3, [83], 0), (70, .aload_n 0, 1, [], 0), (71, .getfield 28, 3, [22, 10, 2], 0), (74, .iload_n 1, 1, [], 0), (75, .iaload, 1, [], 0), (76, .iconst 1, 1, [], 1), (77, .iload_n 2, 1, [], 0), (78, .ishl, 1, [], 0), (79, .ior, 1, [], 0), (80, .goto 15, 3, [95], 0), (83, .aload_n 0, 1, [], 0), (84, .getfield 28, 3, [22, 10, 2], 0), (87, .iload_n 1, 1, [], 0), (88, .iaload, 1, [], 0), (89, .iconst 1, 1, [], 1), (90, .iload_n 2, 1, [], 0), (91, .ishl, 1, [], 0), (92, .iconst (-1), 1, [], (-1))]
def jt_Y_bar_1 : List jv_E := [(93, .ixor, 1, [], 0), (94, .iand, 1, [], 0), (95, .iastore, 1, [], 0), (96, .iload 4, 2, [], 0), (98, .ireturn, 1, [0], 0)]
def jt_Y_bar : List jv_E := jt_Y_bar_0 ++ (jt_Y_bar_1)
abbrev kY_bar : Nat := 156
def jt_Y_may : List jv_E := [(0, .aload_n 0, 1, [], 0), (1, .iload_n 1, 1, [], 0), (2, .invokevirtual 172, 3, [152, 2, 23], 0), (5, .ifCond .eq 20, 3, [25], 0), (8, .aload_n 0, 1, [], 0), (9, .iload_n 2, 1, [], 0), (10, .invokevirtual 175, 3, [154, 2, 23], 0), (13, .ifCond .eq 12, 3, [25], 0), (16, .aload_n 0, 1, [], 0), (17, .iload_n 1, 1, [], 0), (18, .iload_n 2, 1, [], 0), (19, .invokevirtual 181, 3, [158, 3, 23], 0), (22, .goto 4, 3, [26], 0), (25, .iconst (-1), 1, [], (-1)), (26, .ireturn, 1, [0], 0)]
abbrev kY_may : Nat := 157
def jt_Y_takes_0 : List jv_E := [(0, .iload_n 1, 1, [], 0), (1, .bipush 10, 2, [], 10), (3, .if_icmp .ge 12, 3, [15], 0), (6, .aload_n 0, 1, [], 0), (7, .getfield 22, 3, [22, 8, 2], 0), (10, .iload_n 1, 1, [], 0), (11, .iaload, 1, [], 0), (12, .goto 7, 3, [19], 0), (15, .iload_n 1, 1, [], 0), (16, .bipush 10, 2, [], 10), (18, .isub, 1, [], 0), (19, .istore_n 3, 1, [], 0), (20, .iload_n 3, 1, [], 0), (21, .iload_n 2, 1, [], 0), (22, .if_icmp .ne 5, 3, [27], 0), (25, .iconst 0, 1, [], 0), (26, .ireturn, 1, [0], 0), (27, .iconst 0, 1, [], 0), (28, .istore 4, 2, [], 0), (30, .iconst 0, 1, [], 0), (31, .istore 5, 2, [], 0), (33, .iload 5, 2, [], 0), (35, .aload_n 0, 1, [], 0), (36, .getfield 136, 3, [22, 6, 0], 0), (39, .if_icmp .ge 120, 3, [159], 0), (42, .aload_n 0, 1, [], 0), (43, .getfield 19, 3, [22, 7, 2], 0), (46, .iload 5, 2, [], 0), (48, .iaload, 1, [], 0), (49, .iload_n 3, 1, [], 0), (50, .if_icmp .ne 103, 3, [153], 0), (53, .iload_n 1, 1, [], 0), (54, .bipush 10, 2, [], 10), (56, .if_icmp .ge 20, 3, [76], 0), (59, .aload_n 0, 1, [], 0), (60, .getfield 28, 3, [22, 10, 2], 0), (63, .iload_n 1, 1, [], 0), (64, .iaload, 1, [], 0), (65, .iload 5, 2, [], 0), (67, .invokestatic 125, 3, [159, 2, 0], 0), (70, .ifCond .eq 6, 3, [76], 0), (73, .goto 80, 3, [153], 0), (76, .aload_n 0, 1, [], 0), (77, .getfield 31, 3, [22, 11, 2], 0), (80, .bipush 6, 2, [], 6), (82, .aload_n 0, 1, [], 0), (83, .getfield 22, 3, [22, 8, 2], 0), (86, .iload 5, 2, [], 0), (88, .iaload, 1, [], 0), (89, .imul, 1, [], 0), (90, .iload_n 2, 1, [], 0), (91, .iadd, 1, [], 0), (92, .iaload, 1, [], 0), (93, .istore 6, 2, [], 0), (95, .iload 6, 2, [], 0), (97, .bipush (-9), 2, [], (-9)), (99, .if_icmp .eq 54, 3, [153], 0), (102, .aload_n 0, 1, [], 0), (103, .getfield 178, 3, [22, 12, 0], 0), (106, .iconst 2, 1, [], 2)]
def jt_Y_takes_1 : List jv_E := [(107, .if_icmp .ge 21, 3, [128], 0), (110, .iload 6, 2, [], 0), (112, .iconst 1, 1, [], 1), (113, .iadd, 1, [], 0), (114, .aload_n 0, 1, [], 0), (115, .getfield 31, 3, [22, 11, 2], 0), (118, .bipush 6, 2, [], 6), (120, .iload_n 3, 1, [], 0), (121, .imul, 1, [], 0), (122, .iload_n 2, 1, [], 0), (123, .iadd, 1, [], 0), (124, .iaload, 1, [], 0), (125, .if_icmp .ne 28, 3, [153], 0), (128, .aload_n 0, 1, [], 0), (129, .getfield 178, 3, [22, 12, 0], 0), (132, .iconst 1, 1, [], 1), (133, .if_icmp .ne 11, 3, [144], 0), (136, .iload 4, 2, [], 0), (138, .ifCond .eq 6, 3, [144], 0), (141, .goto 12, 3, [153], 0), (144, .iload 4, 2, [], 0), (146, .iconst 1, 1, [], 1), (147, .iload 5, 2, [], 0), (149, .ishl, 1, [], 0), (150, .ior, 1, [], 0), (151, .istore 4, 2, [], 0), (153, .iinc 5 1, 3, [], 0), (156, .goto (-123), 3, [33], 0), (159, .iload 4, 2, [], 0), (161, .ireturn, 1, [0], 0)]
def jt_Y_takes : List jv_E := jt_Y_takes_0 ++ (jt_Y_takes_1)
abbrev kY_takes : Nat := 158
def jt_Y_has : List jv_E := [(0, .iload_n 0, 1, [], 0), (1, .iload_n 1, 1, [], 0), (2, .ishr, 1, [], 0), (3, .iconst 1, 1, [], 1), (4, .iand, 1, [], 0), (5, .iconst 1, 1, [], 1), (6, .if_icmp .ne 7, 3, [13], 0), (9, .iconst 1, 1, [], 1), (10, .goto 4, 3, [14], 0), (13, .iconst 0, 1, [], 0), (14, .ireturn, 1, [1], 0)]
abbrev kY_has : Nat := 159
def jt_Y_out : List jv_E := [(0, .aload_n 0, 1, [], 0), (1, .iload_n 1, 1, [], 0), (2, .invokevirtual 175, 3, [154, 2, 23], 0), (5, .ifCond .eq 23, 3, [28], 0), (8, .aload_n 0, 1, [], 0), (9, .iload_n 2, 1, [], 0), (10, .invokevirtual 175, 3, [154, 2, 23], 0), (13, .ifCond .eq 15, 3, [28], 0), (16, .aload_n 0, 1, [], 0), (17, .bipush 10, 2, [], 10), (19, .iload_n 1, 1, [], 0), (20, .iadd, 1, [], 0), (21, .iload_n 2, 1, [], 0), (22, .invokevirtual 181, 3, [158, 3, 23], 0), (25, .goto 4, 3, [29], 0), (28, .iconst (-1), 1, [], (-1)), (29, .ireturn, 1, [0], 0)]
abbrev kY_out : Nat := 160
def jt_Y_comes : List jv_E := [(0, .aload_n 0, 1, [], 0), (1, .iload_n 1, 1, [], 0), (2, .invokevirtual 175, 3, [154, 2, 23], 0), (5, .ifCond .eq 11, 3, [16], 0), (8, .aload_n 0, 1, [], 0), (9, .iload_n 2, 1, [], 0), (10, .invokevirtual 175, 3, [154, 2, 23], 0), (13, .ifCond .ne 5, 3, [18], 0), (16, .iconst (-1), 1, [], (-1)), (17, .ireturn, 1, [0], 0), (18, .iload_n 1, 1, [], 0), (19, .iload_n 2, 1, [], 0), (20, .if_icmp .ne 8, 3, [28], 0), (23, .bipush (-2), 2, [], (-2)), (25, .goto 9, 3, [34], 0), (28, .aload_n 0, 1, [], 0), (29, .iload_n 1, 1, [], 0), (30, .iload_n 2, 1, [], 0), (31, .invokevirtual 190, 3, [162, 3, 23], 0), (34, .ireturn, 1, [0], 0)]
abbrev kY_comes : Nat := 161
def jt_Y_comesBy_0 : List jv_E := [(0, .aload_n 0, 1, [], 0), (1, .iload_n 1, 1, [], 0), (2, .iload_n 2, 1, [], 0), (3, .invokevirtual 184, 3, [163, 3, 23], 0), (6, .istore_n 3, 1, [], 0), (7, .iconst 0, 1, [], 0), (8, .istore 4, 2, [], 0), (10, .iload_n 3, 1, [], 0), (11, .ifCond .ne 7, 3, [18], 0), (14, .iconst 1, 1, [], 1), (15, .goto 4, 3, [19], 0), (18, .iconst 0, 1, [], 0), (19, .istore 5, 2, [], 0), (21, .iconst 0, 1, [], 0), (22, .istore 6, 2, [], 0), (24, .iload 6, 2, [], 0), (26, .aload_n 0, 1, [], 0), (27, .getfield 136, 3, [22, 6, 0], 0), (30, .if_icmp .ge 73, 3, [103], 0), (33, .iload_n 3, 1, [], 0), (34, .iload 6, 2, [], 0), (36, .invokestatic 125, 3, [159, 2, 0], 0), (39, .ifCond .ne 6, 3, [45], 0), (42, .goto 55, 3, [97], 0), (45, .iload 4, 2, [], 0), (47, .aload_n 0, 1, [], 0), (48, .getfield 22, 3, [22, 8, 2], 0), (51, .iload 6, 2, [], 0), (53, .iaload, 1, [], 0), (54, .iload_n 2, 1, [], 0), (55, .if_icmp .ne 7, 3, [62], 0), (58, .iconst 1, 1, [], 1), (59, .goto 4, 3, [63], 0), (62, .iconst 0, 1, [], 0), (63, .ior, 1, [], 0), (64, .istore 4, 2, [], 0), (66, .iload 5, 2, [], 0), (68, .aload_n 0, 1, [], 0), (69, .getfield 22, 3, [22, 8, 2], 0), (72, .iload 6, 2, [], 0), (74, .iaload, 1, [], 0), (75, .iload_n 2, 1, [], 0), (76, .if_icmp .eq 17, 3, [93], 0), (79, .aload_n 0, 1, [], 0), (80, .iload 6, 2, [], 0), (82, .iload_n 2, 1, [], 0), (83, .invokevirtual 181, 3, [158, 3, 23], 0), (86, .ifCond .ne 7, 3, [93], 0), (89, .iconst 1, 1, [], 1), (90, .goto 4, 3, [94], 0), (93, .iconst 0, 1, [], 0), (94, .ior, 1, [], 0), (95, .istore 5, 2, [], 0), (97, .iinc 6 1, 3, [], 0), (100, .goto (-76), 3, [24], 0), (103, .iload 4, 2, [], 0), (105, .ifCond .ne 7, 3, [112], 0), (108, .iconst 0, 1, [], 0), (109, .goto 22, 3, [131], 0), (112, .iload 5, 2, [], 0)]
def jt_Y_comesBy_1 : List jv_E := [(114, .ifCond .ne 12, 3, [126], 0), (117, .aload_n 0, 1, [], 0), (118, .iload_n 3, 1, [], 0), (119, .iload_n 2, 1, [], 0), (120, .invokevirtual 187, 3, [164, 3, 23], 0), (123, .ifCond .eq 7, 3, [130], 0), (126, .iconst 1, 1, [], 1), (127, .goto 4, 3, [131], 0), (130, .iconst 2, 1, [], 2), (131, .ireturn, 1, [0], 0)]
def jt_Y_comesBy : List jv_E := jt_Y_comesBy_0 ++ (jt_Y_comesBy_1)
abbrev kY_comesBy : Nat := 162
def jt_Y_comesInto : List jv_E := [(0, .aload_n 0, 1, [], 0), (1, .bipush 10, 2, [], 10), (3, .iload_n 1, 1, [], 0), (4, .iadd, 1, [], 0), (5, .iload_n 2, 1, [], 0), (6, .invokevirtual 181, 3, [158, 3, 23], 0), (9, .istore_n 3, 1, [], 0), (10, .iconst 0, 1, [], 0), (11, .istore 4, 2, [], 0), (13, .iload_n 3, 1, [], 0), (14, .iload 4, 2, [], 0), (16, .if_icmp .eq 51, 3, [67], 0), (19, .iload_n 3, 1, [], 0), (20, .istore 4, 2, [], 0), (22, .iconst 0, 1, [], 0), (23, .istore 5, 2, [], 0), (25, .iload 5, 2, [], 0), (27, .aload_n 0, 1, [], 0), (28, .getfield 136, 3, [22, 6, 0], 0), (31, .if_icmp .ge 33, 3, [64], 0), (34, .iload_n 3, 1, [], 0), (35, .iload 4, 2, [], 0), (37, .iload 5, 2, [], 0), (39, .invokestatic 125, 3, [159, 2, 0], 0), (42, .ifCond .eq 13, 3, [55], 0), (45, .aload_n 0, 1, [], 0), (46, .iload 5, 2, [], 0), (48, .iload_n 2, 1, [], 0), (49, .invokevirtual 181, 3, [158, 3, 23], 0), (52, .goto 4, 3, [56], 0), (55, .iconst 0, 1, [], 0), (56, .ior, 1, [], 0), (57, .istore_n 3, 1, [], 0), (58, .iinc 5 1, 3, [], 0), (61, .goto (-36), 3, [25], 0), (64, .goto (-51), 3, [13], 0), (67, .iload_n 3, 1, [], 0), (68, .ireturn, 1, [0], 0)]
abbrev kY_comesInto : Nat := 163
def jt_Y_goesRound : List jv_E := [(0, .iload_n 1, 1, [], 0), (1, .istore_n 3, 1, [], 0), (2, .iconst 1, 1, [], 1), (3, .istore 4, 2, [], 0), (5, .iload 4, 2, [], 0), (7, .ifCond .eq 60, 3, [67], 0), (10, .iconst 0, 1, [], 0), (11, .istore 4, 2, [], 0), (13, .iconst 0, 1, [], 0), (14, .istore 5, 2, [], 0), (16, .iload 5, 2, [], 0), (18, .aload_n 0, 1, [], 0), (19, .getfield 136, 3, [22, 6, 0], 0), (22, .if_icmp .ge 42, 3, [64], 0), (25, .iload_n 3, 1, [], 0), (26, .iload 5, 2, [], 0), (28, .invokestatic 125, 3, [159, 2, 0], 0), (31, .ifCond .eq 27, 3, [58], 0), (34, .aload_n 0, 1, [], 0), (35, .iload 5, 2, [], 0), (37, .iload_n 2, 1, [], 0), (38, .invokevirtual 181, 3, [158, 3, 23], 0), (41, .iload_n 3, 1, [], 0), (42, .iand, 1, [], 0), (43, .ifCond .ne 15, 3, [58], 0), (46, .iload_n 3, 1, [], 0), (47, .iconst 1, 1, [], 1), (48, .iload 5, 2, [], 0), (50, .ishl, 1, [], 0), (51, .iconst (-1), 1, [], (-1)), (52, .ixor, 1, [], 0), (53, .iand, 1, [], 0), (54, .istore_n 3, 1, [], 0), (55, .iconst 1, 1, [], 1), (56, .istore 4, 2, [], 0), (58, .iinc 5 1, 3, [], 0), (61, .goto (-45), 3, [16], 0), (64, .goto (-59), 3, [5], 0), (67, .iload_n 3, 1, [], 0), (68, .ifCond .eq 7, 3, [75], 0), (71, .iconst 1, 1, [], 1), (72, .goto 4, 3, [76], 0), (75, .iconst 0, 1, [], 0), (76, .ireturn, 1, [1], 0)]
abbrev kY_goesRound : Nat := 164
def jt_Y_carries : List jv_E := [(0, .aload_n 0, 1, [], 0), (1, .iload_n 1, 1, [], 0), (2, .invokevirtual 172, 3, [152, 2, 23], 0), (5, .ifCond .ne 5, 3, [10], 0), (8, .iconst (-1), 1, [], (-1)), (9, .ireturn, 1, [0], 0), (10, .aload_n 0, 1, [], 0), (11, .invokevirtual 193, 3, [166, 1, 23], 0), (14, .aload_n 0, 1, [], 0), (15, .getfield 43, 3, [22, 18, 2], 0), (18, .iload_n 1, 1, [], 0), (19, .iaload, 1, [], 0), (20, .ireturn, 1, [0], 0)]
abbrev kY_carries : Nat := 165
def jt_Y_layCarried_0 : List jv_E := [(0, .iconst 0, 1, [], 0), (1, .istore_n 1, 1, [], 0), (2, .iload_n 1, 1, [], 0), (3, .aload_n 0, 1, [], 0), (4, .getfield 136, 3, [22, 6, 0], 0), (7, .if_icmp .ge 16, 3, [23], 0), (10, .aload_n 0, 1, [], 0), (11, .getfield 43, 3, [22, 18, 2], 0), (14, .iload_n 1, 1, [], 0), (15, .iconst 0, 1, [], 0), (16, .iastore, 1, [], 0), (17, .iinc 1 1, 3, [], 0), (20, .goto (-18), 3, [2], 0), (23, .iconst 0, 1, [], 0), (24, .istore_n 1, 1, [], 0), (25, .iload_n 1, 1, [], 0), (26, .aload_n 0, 1, [], 0), (27, .getfield 133, 3, [22, 5, 0], 0), (30, .if_icmp .ge 85, 3, [115], 0), (33, .iconst 0, 1, [], 0), (34, .istore_n 2, 1, [], 0), (35, .iload_n 2, 1, [], 0), (36, .aload_n 0, 1, [], 0), (37, .getfield 133, 3, [22, 5, 0], 0), (40, .if_icmp .ge 69, 3, [109], 0), (43, .iload_n 2, 1, [], 0), (44, .iload_n 1, 1, [], 0), (45, .if_icmp .ne 7, 3, [52], 0), (48, .iconst 0, 1, [], 0), (49, .goto 9, 3, [58], 0), (52, .aload_n 0, 1, [], 0), (53, .iload_n 2, 1, [], 0), (54, .iload_n 1, 1, [], 0), (55, .invokevirtual 184, 3, [163, 3, 23], 0), (58, .istore_n 3, 1, [], 0), (59, .iconst 0, 1, [], 0), (60, .istore 4, 2, [], 0), (62, .iload 4, 2, [], 0), (64, .aload_n 0, 1, [], 0), (65, .getfield 136, 3, [22, 6, 0], 0), (68, .if_icmp .ge 35, 3, [103], 0), (71, .aload_n 0, 1, [], 0), (72, .getfield 43, 3, [22, 18, 2], 0), (75, .iload 4, 2, [], 0), (77, .dup2, 1, [], 0), (78, .iaload, 1, [], 0), (79, .iload_n 3, 1, [], 0), (80, .iload 4, 2, [], 0), (82, .invokestatic 125, 3, [159, 2, 0], 0), (85, .ifCond .eq 9, 3, [94], 0), (88, .iconst 1, 1, [], 1), (89, .iload_n 1, 1, [], 0), (90, .ishl, 1, [], 0), (91, .goto 4, 3, [95], 0), (94, .iconst 0, 1, [], 0), (95, .ior, 1, [], 0), (96, .iastore, 1, [], 0), (97, .iinc 4 1, 3, [], 0), (100, .goto (-38), 3, [62], 0), (103, .iinc 2 1, 3, [], 0)]
def jt_Y_layCarried_1 : List jv_E := [(106, .goto (-71), 3, [35], 0), (109, .iinc 1 1, 3, [], 0), (112, .goto (-87), 3, [25], 0), (115, .return_, 1, [], 0)]
def jt_Y_layCarried : List jv_E := jt_Y_layCarried_0 ++ (jt_Y_layCarried_1)
abbrev kY_layCarried : Nat := 166
def jt_Y_waits : List jv_E := [(0, .aload_n 0, 1, [], 0), (1, .iload_n 1, 1, [], 0), (2, .invokevirtual 172, 3, [152, 2, 23], 0), (5, .ifCond .ne 5, 3, [10], 0), (8, .iconst (-1), 1, [], (-1)), (9, .ireturn, 1, [0], 0), (10, .aload_n 0, 1, [], 0), (11, .invokevirtual 196, 3, [168, 1, 23], 0), (14, .aload_n 0, 1, [], 0), (15, .getfield 46, 3, [22, 19, 2], 0), (18, .iload_n 1, 1, [], 0), (19, .iaload, 1, [], 0), (20, .ireturn, 1, [0], 0)]
abbrev kY_waits : Nat := 167
def jt_Y_layWaiting : List jv_E := [(0, .aload_n 0, 1, [], 0), (1, .invokevirtual 193, 3, [166, 1, 23], 0), (4, .iconst 0, 1, [], 0), (5, .istore_n 1, 1, [], 0), (6, .iload_n 1, 1, [], 0), (7, .aload_n 0, 1, [], 0), (8, .getfield 136, 3, [22, 6, 0], 0), (11, .if_icmp .ge 64, 3, [75], 0), (14, .aload_n 0, 1, [], 0), (15, .getfield 46, 3, [22, 19, 2], 0), (18, .iload_n 1, 1, [], 0), (19, .iconst 0, 1, [], 0), (20, .iastore, 1, [], 0), (21, .iconst 0, 1, [], 0), (22, .istore_n 2, 1, [], 0), (23, .iload_n 2, 1, [], 0), (24, .aload_n 0, 1, [], 0), (25, .getfield 133, 3, [22, 5, 0], 0), (28, .if_icmp .ge 41, 3, [69], 0), (31, .aload_n 0, 1, [], 0), (32, .getfield 46, 3, [22, 19, 2], 0), (35, .iload_n 1, 1, [], 0), (36, .dup2, 1, [], 0), (37, .iaload, 1, [], 0), (38, .aload_n 0, 1, [], 0), (39, .getfield 43, 3, [22, 18, 2], 0), (42, .iload_n 1, 1, [], 0), (43, .iaload, 1, [], 0), (44, .iload_n 2, 1, [], 0), (45, .invokestatic 125, 3, [159, 2, 0], 0), (48, .ifCond .eq 12, 3, [60], 0), (51, .aload_n 0, 1, [], 0), (52, .iload_n 1, 1, [], 0), (53, .iload_n 2, 1, [], 0), (54, .invokevirtual 181, 3, [158, 3, 23], 0), (57, .goto 4, 3, [61], 0), (60, .iconst 0, 1, [], 0), (61, .ior, 1, [], 0), (62, .iastore, 1, [], 0), (63, .iinc 2 1, 3, [], 0), (66, .goto (-43), 3, [23], 0), (69, .iinc 1 1, 3, [], 0), (72, .goto (-66), 3, [6], 0), (75, .return_, 1, [], 0)]
abbrev kY_layWaiting : Nat := 168
def jt_Y_ring : List jv_E := [(0, .iload_n 1, 1, [], 0), (1, .iconst (-1), 1, [], (-1)), (2, .bipush 9, 2, [], 9), (4, .invokestatic 129, 3, [145, 3, 0], 0), (7, .ifCond .ne 5, 3, [12], 0), (10, .iconst (-1), 1, [], (-1)), (11, .ireturn, 1, [0], 0), (12, .aload_n 0, 1, [], 0), (13, .getfield 136, 3, [22, 6, 0], 0), (16, .ifCond .ne 6, 3, [22], 0), (19, .bipush (-3), 2, [], (-3)), (21, .ireturn, 1, [0], 0), (22, .aload_n 0, 1, [], 0), (23, .iconst 0, 1, [], 0), (24, .putfield 202, 3, [22, 21, 0], 0), (27, .aload_n 0, 1, [], 0), (28, .invokevirtual 205, 3, [170, 1, 23], 0), (31, .ifCond .eq 32, 3, [63], 0), (34, .aload_n 0, 1, [], 0), (35, .iconst 2, 1, [], 2), (36, .putfield 202, 3, [22, 21, 0], 0), (39, .aload_n 0, 1, [], 0), (40, .aload_n 0, 1, [], 0), (41, .getfield 202, 3, [22, 21, 0], 0), (44, .invokevirtual 209, 3, [171, 2, 23], 0), (47, .ifCond .ne 16, 3, [63], 0), (50, .aload_n 0, 1, [], 0), (51, .dup, 1, [], 0), (52, .getfield 202, 3, [22, 21, 0], 0), (55, .iconst 1, 1, [], 1), (56, .iadd, 1, [], 0), (57, .putfield 202, 3, [22, 21, 0], 0), (60, .goto (-21), 3, [39], 0), (63, .iload_n 1, 1, [], 0), (64, .iconst (-1), 1, [], (-1)), (65, .if_icmp .ne 10, 3, [75], 0), (68, .aload_n 0, 1, [], 0), (69, .getfield 202, 3, [22, 21, 0], 0), (72, .goto 22, 3, [94], 0), (75, .iload_n 1, 1, [], 0), (76, .aload_n 0, 1, [], 0), (77, .getfield 202, 3, [22, 21, 0], 0), (80, .if_icmp .ge 12, 3, [92], 0), (83, .aload_n 0, 1, [], 0), (84, .getfield 49, 3, [22, 20, 2], 0), (87, .iload_n 1, 1, [], 0), (88, .iaload, 1, [], 0), (89, .goto 5, 3, [94], 0), (92, .bipush (-9), 2, [], (-9)), (94, .ireturn, 1, [0], 0)]
abbrev kY_ring : Nat := 169
def jt_Y_hasRing : List jv_E := [(0, .aload_n 0, 1, [], 0), (1, .invokevirtual 196, 3, [168, 1, 23], 0), (4, .iconst 1, 1, [], 1), (5, .aload_n 0, 1, [], 0), (6, .getfield 136, 3, [22, 6, 0], 0), (9, .ishl, 1, [], 0), (10, .iconst 1, 1, [], 1), (11, .isub, 1, [], 0), (12, .istore_n 1, 1, [], 0), (13, .iconst 1, 1, [], 1), (14, .istore_n 2, 1, [], 0), (15, .iload_n 2, 1, [], 0), (16, .ifCond .eq 53, 3, [69], 0), (19, .iconst 0, 1, [], 0), (20, .istore_n 2, 1, [], 0), (21, .iconst 0, 1, [], 0), (22, .istore_n 3, 1, [], 0), (23, .iload_n 3, 1, [], 0), (24, .aload_n 0, 1, [], 0), (25, .getfield 136, 3, [22, 6, 0], 0), (28, .if_icmp .ge 38, 3, [66], 0), (31, .iload_n 1, 1, [], 0), (32, .iload_n 3, 1, [], 0), (33, .invokestatic 125, 3, [159, 2, 0], 0), (36, .ifCond .eq 24, 3, [60], 0), (39, .aload_n 0, 1, [], 0), (40, .getfield 46, 3, [22, 19, 2], 0), (43, .iload_n 3, 1, [], 0), (44, .iaload, 1, [], 0), (45, .iload_n 1, 1, [], 0), (46, .iand, 1, [], 0), (47, .ifCond .ne 13, 3, [60], 0), (50, .iload_n 1, 1, [], 0), (51, .iconst 1, 1, [], 1), (52, .iload_n 3, 1, [], 0), (53, .ishl, 1, [], 0), (54, .iconst (-1), 1, [], (-1)), (55, .ixor, 1, [], 0), (56, .iand, 1, [], 0), (57, .istore_n 1, 1, [], 0), (58, .iconst 1, 1, [], 1), (59, .istore_n 2, 1, [], 0), (60, .iinc 3 1, 3, [], 0), (63, .goto (-40), 3, [23], 0), (66, .goto (-51), 3, [15], 0), (69, .iload_n 1, 1, [], 0), (70, .ifCond .eq 7, 3, [77], 0), (73, .iconst 1, 1, [], 1), (74, .goto 4, 3, [78], 0), (77, .iconst 0, 1, [], 0), (78, .ireturn, 1, [1], 0)]
abbrev kY_hasRing : Nat := 170
def jt_Y_findRing_0 : List jv_E := [(0, .iconst 0, 1, [], 0), (1, .istore_n 2, 1, [], 0), (2, .aload_n 0, 1, [], 0), (3, .getfield 49, 3, [22, 20, 2], 0), (6, .iconst 0, 1, [], 0), (7, .iconst (-1), 1, [], (-1)), (8, .iastore, 1, [], 0), (9, .iload_n 2, 1, [], 0), (10, .ifCond .lt 123, 3, [133], 0), (13, .aload_n 0, 1, [], 0), (14, .getfield 49, 3, [22, 20, 2], 0), (17, .iload_n 2, 1, [], 0), (18, .dup2, 1, [], 0), (19, .iaload, 1, [], 0), (20, .iconst 1, 1, [], 1), (21, .iadd, 1, [], 0), (22, .iastore, 1, [], 0), (23, .aload_n 0, 1, [], 0), (24, .getfield 49, 3, [22, 20, 2], 0), (27, .iload_n 2, 1, [], 0), (28, .iaload, 1, [], 0), (29, .istore_n 3, 1, [], 0), (30, .iload_n 3, 1, [], 0), (31, .aload_n 0, 1, [], 0), (32, .getfield 136, 3, [22, 6, 0], 0), (35, .if_icmp .lt 9, 3, [44], 0), (38, .iinc 2 (-1), 3, [], 0), (41, .goto (-32), 3, [9], 0), (44, .iload_n 2, 1, [], 0), (45, .ifCond .le 45, 3, [90], 0), (48, .iload_n 3, 1, [], 0), (49, .aload_n 0, 1, [], 0), (50, .getfield 49, 3, [22, 20, 2], 0), (53, .iconst 0, 1, [], 0), (54, .iaload, 1, [], 0), (55, .if_icmp .lt (-46), 3, [9], 0), (58, .aload_n 0, 1, [], 0), (59, .iload_n 2, 1, [], 0), (60, .iload_n 3, 1, [], 0), (61, .invokevirtual 199, 3, [172, 3, 23], 0), (64, .ifCond .ne (-55), 3, [9], 0), (67, .aload_n 0, 1, [], 0), (68, .getfield 46, 3, [22, 19, 2], 0), (71, .aload_n 0, 1, [], 0), (72, .getfield 49, 3, [22, 20, 2], 0), (75, .iload_n 2, 1, [], 0), (76, .iconst 1, 1, [], 1), (77, .isub, 1, [], 0), (78, .iaload, 1, [], 0), (79, .iaload, 1, [], 0), (80, .iload_n 3, 1, [], 0), (81, .invokestatic 125, 3, [159, 2, 0], 0), (84, .ifCond .ne 6, 3, [90], 0), (87, .goto (-78), 3, [9], 0), (90, .iload_n 2, 1, [], 0), (91, .iload_n 1, 1, [], 0), (92, .iconst 1, 1, [], 1), (93, .isub, 1, [], 0), (94, .if_icmp .ge 16, 3, [110], 0), (97, .iinc 2 1, 3, [], 0)]
def jt_Y_findRing_1 : List jv_E := [(100, .aload_n 0, 1, [], 0), (101, .getfield 49, 3, [22, 20, 2], 0), (104, .iload_n 2, 1, [], 0), (105, .iconst (-1), 1, [], (-1)), (106, .iastore, 1, [], 0), (107, .goto 23, 3, [130], 0), (110, .aload_n 0, 1, [], 0), (111, .getfield 46, 3, [22, 19, 2], 0), (114, .iload_n 3, 1, [], 0), (115, .iaload, 1, [], 0), (116, .aload_n 0, 1, [], 0), (117, .getfield 49, 3, [22, 20, 2], 0), (120, .iconst 0, 1, [], 0), (121, .iaload, 1, [], 0), (122, .invokestatic 125, 3, [159, 2, 0], 0), (125, .ifCond .eq 5, 3, [130], 0), (128, .iconst 1, 1, [], 1), (129, .ireturn, 1, [1], 0), (130, .goto (-121), 3, [9], 0), (133, .iconst 0, 1, [], 0), (134, .ireturn, 1, [1], 0)]
def jt_Y_findRing : List jv_E := jt_Y_findRing_0 ++ (jt_Y_findRing_1)
abbrev kY_findRing : Nat := 171
def jt_Y_isAhead : List jv_E := [(0, .iconst 0, 1, [], 0), (1, .istore_n 3, 1, [], 0), (2, .iload_n 3, 1, [], 0), (3, .iload_n 1, 1, [], 0), (4, .if_icmp .ge 21, 3, [25], 0), (7, .aload_n 0, 1, [], 0), (8, .getfield 49, 3, [22, 20, 2], 0), (11, .iload_n 3, 1, [], 0), (12, .iaload, 1, [], 0), (13, .iload_n 2, 1, [], 0), (14, .if_icmp .ne 5, 3, [19], 0), (17, .iconst 1, 1, [], 1), (18, .ireturn, 1, [1], 0), (19, .iinc 3 1, 3, [], 0), (22, .goto (-20), 3, [2], 0), (25, .iconst 0, 1, [], 0), (26, .ireturn, 1, [1], 0)]
abbrev kY_isAhead : Nat := 172
def jt_Y_rank_0 : List jv_E := [(0, .aload_n 0, 1, [], 0), (1, .iload_n 1, 1, [], 0), (2, .invokevirtual 172, 3, [152, 2, 23], 0), (5, .ifCond .ne 5, 3, [10], 0), (8, .iconst (-1), 1, [], (-1)), (9, .ireturn, 1, [0], 0), (10, .aload_n 0, 1, [], 0), (11, .invokevirtual 205, 3, [170, 1, 23], 0), (14, .ifCond .eq 6, 3, [20], 0), (17, .bipush (-3), 2, [], (-3)), (19, .ireturn, 1, [0], 0), (20, .iconst 0, 1, [], 0), (21, .istore_n 2, 1, [], 0), (22, .iload_n 2, 1, [], 0), (23, .aload_n 0, 1, [], 0), (24, .getfield 136, 3, [22, 6, 0], 0), (27, .if_icmp .ge 16, 3, [43], 0), (30, .aload_n 0, 1, [], 0), (31, .getfield 52, 3, [22, 22, 2], 0), (34, .iload_n 2, 1, [], 0), (35, .iconst 0, 1, [], 0), (36, .iastore, 1, [], 0), (37, .iinc 2 1, 3, [], 0), (40, .goto (-18), 3, [22], 0), (43, .iconst 0, 1, [], 0), (44, .istore_n 2, 1, [], 0), (45, .iload_n 2, 1, [], 0), (46, .aload_n 0, 1, [], 0), (47, .getfield 136, 3, [22, 6, 0], 0), (50, .if_icmp .ge 90, 3, [140], 0), (53, .iconst 0, 1, [], 0), (54, .istore_n 3, 1, [], 0), (55, .iload_n 3, 1, [], 0), (56, .aload_n 0, 1, [], 0), (57, .getfield 136, 3, [22, 6, 0], 0), (60, .if_icmp .ge 74, 3, [134], 0), (63, .iconst 0, 1, [], 0), (64, .istore 4, 2, [], 0), (66, .iload 4, 2, [], 0), (68, .aload_n 0, 1, [], 0), (69, .getfield 136, 3, [22, 6, 0], 0), (72, .if_icmp .ge 56, 3, [128], 0), (75, .aload_n 0, 1, [], 0), (76, .getfield 46, 3, [22, 19, 2], 0), (79, .iload_n 3, 1, [], 0), (80, .iaload, 1, [], 0), (81, .iload 4, 2, [], 0), (83, .invokestatic 125, 3, [159, 2, 0], 0), (86, .ifCond .eq 36, 3, [122], 0), (89, .aload_n 0, 1, [], 0), (90, .getfield 52, 3, [22, 22, 2], 0), (93, .iload 4, 2, [], 0), (95, .iaload, 1, [], 0), (96, .iconst 1, 1, [], 1), (97, .iadd, 1, [], 0), (98, .aload_n 0, 1, [], 0), (99, .getfield 52, 3, [22, 22, 2], 0), (102, .iload_n 3, 1, [], 0), (103, .iaload, 1, [], 0), (104, .if_icmp .le 18, 3, [122], 0)]
def jt_Y_rank_1 : List jv_E := [(107, .aload_n 0, 1, [], 0), (108, .getfield 52, 3, [22, 22, 2], 0), (111, .iload_n 3, 1, [], 0), (112, .aload_n 0, 1, [], 0), (113, .getfield 52, 3, [22, 22, 2], 0), (116, .iload 4, 2, [], 0), (118, .iaload, 1, [], 0), (119, .iconst 1, 1, [], 1), (120, .iadd, 1, [], 0), (121, .iastore, 1, [], 0), (122, .iinc 4 1, 3, [], 0), (125, .goto (-59), 3, [66], 0), (128, .iinc 3 1, 3, [], 0), (131, .goto (-76), 3, [55], 0), (134, .iinc 2 1, 3, [], 0), (137, .goto (-92), 3, [45], 0), (140, .aload_n 0, 1, [], 0), (141, .getfield 52, 3, [22, 22, 2], 0), (144, .iload_n 1, 1, [], 0), (145, .iaload, 1, [], 0), (146, .ireturn, 1, [0], 0)]
def jt_Y_rank : List jv_E := jt_Y_rank_0 ++ (jt_Y_rank_1)
abbrev kY_rank : Nat := 173
def jt_Y_still : List jv_E := [(0, .iload_n 1, 1, [], 0), (1, .iconst 0, 1, [], 0), (2, .iconst 1, 1, [], 1), (3, .invokestatic 129, 3, [145, 3, 0], 0), (6, .ifCond .ne 6, 3, [12], 0), (9, .bipush (-2), 2, [], (-2)), (11, .ireturn, 1, [0], 0), (12, .aload_n 0, 1, [], 0), (13, .getfield 136, 3, [22, 6, 0], 0), (16, .ifCond .ne 6, 3, [22], 0), (19, .bipush (-3), 2, [], (-3)), (21, .ireturn, 1, [0], 0), (22, .aload_n 0, 1, [], 0), (23, .invokevirtual 193, 3, [166, 1, 23], 0), (26, .iload_n 1, 1, [], 0), (27, .ifCond .ne 8, 3, [35], 0), (30, .aload_n 0, 1, [], 0), (31, .invokevirtual 215, 3, [175, 1, 23], 0), (34, .ireturn, 1, [0], 0), (35, .iconst 0, 1, [], 0), (36, .istore_n 2, 1, [], 0), (37, .iconst 1, 1, [], 1), (38, .istore_n 3, 1, [], 0), (39, .iload_n 3, 1, [], 0), (40, .iconst 1, 1, [], 1), (41, .aload_n 0, 1, [], 0), (42, .getfield 136, 3, [22, 6, 0], 0), (45, .ishl, 1, [], 0), (46, .if_icmp .ge 34, 3, [80], 0), (49, .iload_n 2, 1, [], 0), (50, .ifCond .eq 14, 3, [64], 0), (53, .iload_n 3, 1, [], 0), (54, .invokestatic 219, 3, [177, 1, 0], 0), (57, .iload_n 2, 1, [], 0), (58, .invokestatic 219, 3, [177, 1, 0], 0), (61, .if_icmp .ge 13, 3, [74], 0), (64, .aload_n 0, 1, [], 0), (65, .iload_n 3, 1, [], 0), (66, .invokevirtual 222, 3, [178, 2, 23], 0), (69, .ifCond .eq 5, 3, [74], 0), (72, .iload_n 3, 1, [], 0), (73, .istore_n 2, 1, [], 0), (74, .iinc 3 1, 3, [], 0), (77, .goto (-38), 3, [39], 0), (80, .iload_n 2, 1, [], 0), (81, .ireturn, 1, [0], 0)]
abbrev kY_still : Nat := 174
def jt_Y_allStill : List jv_E := [(0, .iconst 1, 1, [], 1), (1, .aload_n 0, 1, [], 0), (2, .getfield 136, 3, [22, 6, 0], 0), (5, .ishl, 1, [], 0), (6, .iconst 1, 1, [], 1), (7, .isub, 1, [], 0), (8, .istore_n 1, 1, [], 0), (9, .iconst 1, 1, [], 1), (10, .istore_n 2, 1, [], 0), (11, .iload_n 2, 1, [], 0), (12, .ifCond .eq 51, 3, [63], 0), (15, .iconst 0, 1, [], 0), (16, .istore_n 2, 1, [], 0), (17, .iconst 0, 1, [], 0), (18, .istore_n 3, 1, [], 0), (19, .iload_n 3, 1, [], 0), (20, .aload_n 0, 1, [], 0), (21, .getfield 136, 3, [22, 6, 0], 0), (24, .if_icmp .ge 36, 3, [60], 0), (27, .iload_n 1, 1, [], 0), (28, .iload_n 3, 1, [], 0), (29, .invokestatic 125, 3, [159, 2, 0], 0), (32, .ifCond .eq 22, 3, [54], 0), (35, .aload_n 0, 1, [], 0), (36, .iload_n 3, 1, [], 0), (37, .iload_n 1, 1, [], 0), (38, .invokevirtual 212, 3, [176, 3, 23], 0), (41, .ifCond .ne 13, 3, [54], 0), (44, .iload_n 1, 1, [], 0), (45, .iconst 1, 1, [], 1), (46, .iload_n 3, 1, [], 0), (47, .ishl, 1, [], 0), (48, .iconst (-1), 1, [], (-1)), (49, .ixor, 1, [], 0), (50, .iand, 1, [], 0), (51, .istore_n 1, 1, [], 0), (52, .iconst 1, 1, [], 1), (53, .istore_n 2, 1, [], 0), (54, .iinc 3 1, 3, [], 0), (57, .goto (-38), 3, [19], 0), (60, .goto (-49), 3, [11], 0), (63, .iload_n 1, 1, [], 0), (64, .ireturn, 1, [0], 0)]
abbrev kY_allStill : Nat := 175
def jt_Y_standsStill : List jv_E := [(0, .iconst 0, 1, [], 0), (1, .istore_n 3, 1, [], 0), (2, .iload_n 3, 1, [], 0), (3, .aload_n 0, 1, [], 0), (4, .getfield 133, 3, [22, 5, 0], 0), (7, .if_icmp .ge 47, 3, [54], 0), (10, .aload_n 0, 1, [], 0), (11, .getfield 43, 3, [22, 18, 2], 0), (14, .iload_n 1, 1, [], 0), (15, .iaload, 1, [], 0), (16, .iload_n 3, 1, [], 0), (17, .invokestatic 125, 3, [159, 2, 0], 0), (20, .ifCond .eq 28, 3, [48], 0), (23, .aload_n 0, 1, [], 0), (24, .getfield 22, 3, [22, 8, 2], 0), (27, .iload_n 1, 1, [], 0), (28, .iaload, 1, [], 0), (29, .iload_n 3, 1, [], 0), (30, .if_icmp .eq 18, 3, [48], 0), (33, .aload_n 0, 1, [], 0), (34, .iload_n 1, 1, [], 0), (35, .iload_n 3, 1, [], 0), (36, .invokevirtual 181, 3, [158, 3, 23], 0), (39, .iload_n 2, 1, [], 0), (40, .iconst (-1), 1, [], (-1)), (41, .ixor, 1, [], 0), (42, .iand, 1, [], 0), (43, .ifCond .ne 5, 3, [48], 0), (46, .iconst 1, 1, [], 1), (47, .ireturn, 1, [1], 0), (48, .iinc 3 1, 3, [], 0), (51, .goto (-49), 3, [2], 0), (54, .iconst 0, 1, [], 0), (55, .ireturn, 1, [1], 0)]
abbrev kY_standsStill : Nat := 176
def jt_Y_bitsOf : List jv_E := [(0, .iconst 0, 1, [], 0), (1, .istore_n 1, 1, [], 0), (2, .iconst 0, 1, [], 0), (3, .istore_n 2, 1, [], 0), (4, .iload_n 2, 1, [], 0), (5, .bipush 30, 2, [], 30), (7, .if_icmp .ge 17, 3, [24], 0), (10, .iload_n 1, 1, [], 0), (11, .iload_n 0, 1, [], 0), (12, .iload_n 2, 1, [], 0), (13, .ishr, 1, [], 0), (14, .iconst 1, 1, [], 1), (15, .iand, 1, [], 0), (16, .iadd, 1, [], 0), (17, .istore_n 1, 1, [], 0), (18, .iinc 2 1, 3, [], 0), (21, .goto (-17), 3, [4], 0), (24, .iload_n 1, 1, [], 0), (25, .ireturn, 1, [0], 0)]
abbrev kY_bitsOf : Nat := 177
def jt_Y_isStill : List jv_E := [(0, .iconst 0, 1, [], 0), (1, .istore_n 2, 1, [], 0), (2, .iload_n 2, 1, [], 0), (3, .aload_n 0, 1, [], 0), (4, .getfield 136, 3, [22, 6, 0], 0), (7, .if_icmp .ge 28, 3, [35], 0), (10, .iload_n 1, 1, [], 0), (11, .iload_n 2, 1, [], 0), (12, .invokestatic 125, 3, [159, 2, 0], 0), (15, .ifCond .eq 14, 3, [29], 0), (18, .aload_n 0, 1, [], 0), (19, .iload_n 2, 1, [], 0), (20, .iload_n 1, 1, [], 0), (21, .invokevirtual 212, 3, [176, 3, 23], 0), (24, .ifCond .ne 5, 3, [29], 0), (27, .iconst 0, 1, [], 0), (28, .ireturn, 1, [1], 0), (29, .iinc 2 1, 3, [], 0), (32, .goto (-30), 3, [2], 0), (35, .iconst 1, 1, [], 1), (36, .ireturn, 1, [1], 0)]
abbrev kY_isStill : Nat := 178
def jt_Y_states_0 : List jv_E := [(0, .iload_n 1, 1, [], 0), (1, .iconst 0, 1, [], 0), (2, .iconst 2, 1, [], 2), (3, .invokestatic 129, 3, [145, 3, 0], 0), (6, .ifCond .ne 6, 3, [12], 0), (9, .bipush (-2), 2, [], (-2)), (11, .ireturn, 1, [0], 0), (12, .aload_n 0, 1, [], 0), (13, .invokevirtual 243, 3, [180, 1, 23], 0), (16, .ifCond .ne 6, 3, [22], 0), (19, .bipush (-3), 2, [], (-3)), (21, .ireturn, 1, [0], 0), (22, .iconst 0, 1, [], 0), (23, .istore_n 2, 1, [], 0), (24, .iload_n 2, 1, [], 0), (25, .sipush 15625, 3, [], 15625), (28, .if_icmp .ge 17, 3, [45], 0), (31, .aload_n 0, 1, [], 0), (32, .getfield 55, 3, [22, 23, 2], 0), (35, .iload_n 2, 1, [], 0), (36, .bipush (-9), 2, [], (-9)), (38, .iastore, 1, [], 0), (39, .iinc 2 1, 3, [], 0), (42, .goto (-18), 3, [24], 0), (45, .aload_n 0, 1, [], 0), (46, .iconst 0, 1, [], 0), (47, .putfield 225, 3, [22, 25, 0], 0), (50, .aload_n 0, 1, [], 0), (51, .iconst 0, 1, [], 0), (52, .iconst 0, 1, [], 0), (53, .invokevirtual 231, 3, [181, 3, 23], 0), (56, .iconst 0, 1, [], 0), (57, .istore_n 2, 1, [], 0), (58, .iload_n 2, 1, [], 0), (59, .aload_n 0, 1, [], 0), (60, .getfield 225, 3, [22, 25, 0], 0), (63, .if_icmp .ge 19, 3, [82], 0), (66, .aload_n 0, 1, [], 0), (67, .aload_n 0, 1, [], 0), (68, .getfield 58, 3, [22, 24, 2], 0), (71, .iload_n 2, 1, [], 0), (72, .iaload, 1, [], 0), (73, .invokevirtual 246, 3, [182, 2, 23], 0), (76, .iinc 2 1, 3, [], 0), (79, .goto (-21), 3, [58], 0), (82, .iconst 0, 1, [], 0), (83, .istore_n 2, 1, [], 0), (84, .bipush (-9), 2, [], (-9)), (86, .istore_n 3, 1, [], 0), (87, .iconst 0, 1, [], 0), (88, .istore 4, 2, [], 0), (90, .iload 4, 2, [], 0), (92, .aload_n 0, 1, [], 0), (93, .getfield 225, 3, [22, 25, 0], 0), (96, .if_icmp .ge 49, 3, [145], 0), (99, .aload_n 0, 1, [], 0), (100, .aload_n 0, 1, [], 0), (101, .getfield 58, 3, [22, 24, 2], 0), (104, .iload 4, 2, [], 0), (106, .iaload, 1, [], 0)]
def jt_Y_states_1 : List jv_E := [(107, .invokevirtual 249, 3, [186, 2, 23], 0), (110, .ifCond .eq 29, 3, [139], 0), (113, .iinc 2 1, 3, [], 0), (116, .iload_n 3, 1, [], 0), (117, .bipush (-9), 2, [], (-9)), (119, .if_icmp .ne 18, 3, [137], 0), (122, .aload_n 0, 1, [], 0), (123, .getfield 55, 3, [22, 23, 2], 0), (126, .aload_n 0, 1, [], 0), (127, .getfield 58, 3, [22, 24, 2], 0), (130, .iload 4, 2, [], 0), (132, .iaload, 1, [], 0), (133, .iaload, 1, [], 0), (134, .goto 4, 3, [138], 0), (137, .iload_n 3, 1, [], 0), (138, .istore_n 3, 1, [], 0), (139, .iinc 4 1, 3, [], 0), (142, .goto (-52), 3, [90], 0), (145, .iload_n 1, 1, [], 0), (146, .ifCond .ne 10, 3, [156], 0), (149, .aload_n 0, 1, [], 0), (150, .getfield 225, 3, [22, 25, 0], 0), (153, .goto 13, 3, [166], 0), (156, .iload_n 1, 1, [], 0), (157, .iconst 1, 1, [], 1), (158, .if_icmp .ne 7, 3, [165], 0), (161, .iload_n 2, 1, [], 0), (162, .goto 4, 3, [166], 0), (165, .iload_n 3, 1, [], 0), (166, .ireturn, 1, [0], 0)]
def jt_Y_states : List jv_E := jt_Y_states_0 ++ (jt_Y_states_1)
abbrev kY_states : Nat := 179
def jt_Y_isSmall : List jv_E := [(0, .aload_n 0, 1, [], 0), (1, .getfield 136, 3, [22, 6, 0], 0), (4, .ifCond .le 24, 3, [28], 0), (7, .aload_n 0, 1, [], 0), (8, .getfield 133, 3, [22, 5, 0], 0), (11, .iconst 4, 1, [], 4), (12, .if_icmp .gt 16, 3, [28], 0), (15, .aload_n 0, 1, [], 0), (16, .getfield 136, 3, [22, 6, 0], 0), (19, .bipush 6, 2, [], 6), (21, .if_icmp .gt 7, 3, [28], 0), (24, .iconst 1, 1, [], 1), (25, .goto 4, 3, [29], 0), (28, .iconst 0, 1, [], 0), (29, .istore_n 1, 1, [], 0), (30, .iconst 0, 1, [], 0), (31, .istore_n 2, 1, [], 0), (32, .iload_n 2, 1, [], 0), (33, .aload_n 0, 1, [], 0), (34, .getfield 136, 3, [22, 6, 0], 0), (37, .if_icmp .ge 27, 3, [64], 0), (40, .iload_n 1, 1, [], 0), (41, .aload_n 0, 1, [], 0), (42, .getfield 25, 3, [22, 9, 2], 0), (45, .iload_n 2, 1, [], 0), (46, .iaload, 1, [], 0), (47, .iconst 1, 1, [], 1), (48, .if_icmp .ne 7, 3, [55], 0), (51, .iconst 1, 1, [], 1), (52, .goto 4, 3, [56], 0), (55, .iconst 0, 1, [], 0), (56, .iand, 1, [], 0), (57, .istore_n 1, 1, [], 0), (58, .iinc 2 1, 3, [], 0), (61, .goto (-29), 3, [32], 0), (64, .iload_n 1, 1, [], 0), (65, .ireturn, 1, [1], 0)]
abbrev kY_isSmall : Nat := 180
def jt_Y_enter : List jv_E := [(0, .aload_n 0, 1, [], 0), (1, .getfield 55, 3, [22, 23, 2], 0), (4, .iload_n 1, 1, [], 0), (5, .iaload, 1, [], 0), (6, .bipush (-9), 2, [], (-9)), (8, .if_icmp .ne 30, 3, [38], 0), (11, .aload_n 0, 1, [], 0), (12, .getfield 55, 3, [22, 23, 2], 0), (15, .iload_n 1, 1, [], 0), (16, .iload_n 2, 1, [], 0), (17, .iastore, 1, [], 0), (18, .aload_n 0, 1, [], 0), (19, .getfield 58, 3, [22, 24, 2], 0), (22, .aload_n 0, 1, [], 0), (23, .getfield 225, 3, [22, 25, 0], 0), (26, .iload_n 1, 1, [], 0), (27, .iastore, 1, [], 0), (28, .aload_n 0, 1, [], 0), (29, .dup, 1, [], 0), (30, .getfield 225, 3, [22, 25, 0], 0), (33, .iconst 1, 1, [], 1), (34, .iadd, 1, [], 0), (35, .putfield 225, 3, [22, 25, 0], 0), (38, .return_, 1, [], 0)]
abbrev kY_enter : Nat := 181
def jt_Y_stepFrom_0 : List jv_E := [(0, .aload_n 0, 1, [], 0), (1, .getfield 55, 3, [22, 23, 2], 0), (4, .iload_n 1, 1, [], 0), (5, .iaload, 1, [], 0), (6, .iconst 1, 1, [], 1), (7, .iadd, 1, [], 0), (8, .istore_n 2, 1, [], 0), (9, .aload_n 0, 1, [], 0), (10, .iload_n 1, 1, [], 0), (11, .invokevirtual 235, 3, [183, 2, 23], 0), (14, .iconst 0, 1, [], 0), (15, .istore_n 3, 1, [], 0), (16, .iload_n 3, 1, [], 0), (17, .aload_n 0, 1, [], 0), (18, .getfield 133, 3, [22, 5, 0], 0), (21, .if_icmp .ge 45, 3, [66], 0), (24, .iconst 0, 1, [], 0), (25, .istore 4, 2, [], 0), (27, .iload 4, 2, [], 0), (29, .aload_n 0, 1, [], 0), (30, .getfield 133, 3, [22, 5, 0], 0), (33, .if_icmp .ge 27, 3, [60], 0), (36, .aload_n 0, 1, [], 0), (37, .iload_n 1, 1, [], 0), (38, .aload_n 0, 1, [], 0), (39, .bipush 10, 2, [], 10), (41, .iload_n 3, 1, [], 0), (42, .iadd, 1, [], 0), (43, .iload 4, 2, [], 0), (45, .invokevirtual 181, 3, [158, 3, 23], 0), (48, .iload 4, 2, [], 0), (50, .iload_n 2, 1, [], 0), (51, .invokevirtual 239, 3, [184, 5, 23], 0), (54, .iinc 4 1, 3, [], 0), (57, .goto (-30), 3, [27], 0), (60, .iinc 3 1, 3, [], 0), (63, .goto (-47), 3, [16], 0), (66, .iconst 0, 1, [], 0), (67, .istore_n 3, 1, [], 0), (68, .iload_n 3, 1, [], 0), (69, .aload_n 0, 1, [], 0), (70, .getfield 136, 3, [22, 6, 0], 0), (73, .if_icmp .ge 75, 3, [148], 0), (76, .aload_n 0, 1, [], 0), (77, .getfield 61, 3, [22, 26, 2], 0), (80, .iload_n 3, 1, [], 0), (81, .iaload, 1, [], 0), (82, .istore 4, 2, [], 0), (84, .iload 4, 2, [], 0), (86, .ifCond .ge 6, 3, [92], 0), (89, .goto 53, 3, [142], 0), (92, .iload_n 1, 1, [], 0), (93, .iload 4, 2, [], 0), (95, .iconst 1, 1, [], 1), (96, .iadd, 1, [], 0), (97, .iload_n 3, 1, [], 0), (98, .invokestatic 228, 3, [185, 1, 0], 0), (101, .imul, 1, [], 0), (102, .isub, 1, [], 0), (103, .istore 5, 2, [], 0)]
def jt_Y_stepFrom_1 : List jv_E := [(105, .aload_n 0, 1, [], 0), (106, .getfield 22, 3, [22, 8, 2], 0), (109, .iload_n 3, 1, [], 0), (110, .iaload, 1, [], 0), (111, .iload 4, 2, [], 0), (113, .if_icmp .ne 13, 3, [126], 0), (116, .aload_n 0, 1, [], 0), (117, .iload 5, 2, [], 0), (119, .iload_n 2, 1, [], 0), (120, .invokevirtual 231, 3, [181, 3, 23], 0), (123, .goto 19, 3, [142], 0), (126, .aload_n 0, 1, [], 0), (127, .iload 5, 2, [], 0), (129, .aload_n 0, 1, [], 0), (130, .iload_n 3, 1, [], 0), (131, .iload 4, 2, [], 0), (133, .invokevirtual 181, 3, [158, 3, 23], 0), (136, .iload 4, 2, [], 0), (138, .iload_n 2, 1, [], 0), (139, .invokevirtual 239, 3, [184, 5, 23], 0), (142, .iinc 3 1, 3, [], 0), (145, .goto (-77), 3, [68], 0), (148, .return_, 1, [], 0)]
def jt_Y_stepFrom : List jv_E := jt_Y_stepFrom_0 ++ (jt_Y_stepFrom_1)
abbrev kY_stepFrom : Nat := 182
def jt_Y_layContent : List jv_E := [(0, .iload_n 1, 1, [], 0), (1, .istore_n 2, 1, [], 0), (2, .iconst 0, 1, [], 0), (3, .istore_n 3, 1, [], 0), (4, .iload_n 3, 1, [], 0), (5, .bipush 6, 2, [], 6), (7, .if_icmp .ge 24, 3, [31], 0), (10, .aload_n 0, 1, [], 0), (11, .getfield 61, 3, [22, 26, 2], 0), (14, .iload_n 3, 1, [], 0), (15, .iload_n 2, 1, [], 0), (16, .iconst 5, 1, [], 5), (17, .irem, 1, [], 0), (18, .iconst 1, 1, [], 1), (19, .isub, 1, [], 0), (20, .iastore, 1, [], 0), (21, .iload_n 2, 1, [], 0), (22, .iconst 5, 1, [], 5), (23, .idiv, 1, [], 0), (24, .istore_n 2, 1, [], 0), (25, .iinc 3 1, 3, [], 0), (28, .goto (-24), 3, [4], 0), (31, .return_, 1, [], 0)]
abbrev kY_layContent : Nat := 183
def jt_Y_goOn : List jv_E := [(0, .iconst 0, 1, [], 0), (1, .istore 5, 2, [], 0), (3, .iload 5, 2, [], 0), (5, .aload_n 0, 1, [], 0), (6, .getfield 136, 3, [22, 6, 0], 0), (9, .if_icmp .ge 45, 3, [54], 0), (12, .iload_n 2, 1, [], 0), (13, .iload 5, 2, [], 0), (15, .invokestatic 125, 3, [159, 2, 0], 0), (18, .ifCond .eq 30, 3, [48], 0), (21, .aload_n 0, 1, [], 0), (22, .getfield 61, 3, [22, 26, 2], 0), (25, .iload 5, 2, [], 0), (27, .iaload, 1, [], 0), (28, .ifCond .ge 20, 3, [48], 0), (31, .aload_n 0, 1, [], 0), (32, .iload_n 1, 1, [], 0), (33, .iload_n 3, 1, [], 0), (34, .iconst 1, 1, [], 1), (35, .iadd, 1, [], 0), (36, .iload 5, 2, [], 0), (38, .invokestatic 228, 3, [185, 1, 0], 0), (41, .imul, 1, [], 0), (42, .iadd, 1, [], 0), (43, .iload 4, 2, [], 0), (45, .invokevirtual 231, 3, [181, 3, 23], 0), (48, .iinc 5 1, 3, [], 0), (51, .goto (-48), 3, [3], 0), (54, .return_, 1, [], 0)]
abbrev kY_goOn : Nat := 184
def jt_Y_fives : List jv_E := [(0, .iconst 1, 1, [], 1), (1, .istore_n 1, 1, [], 0), (2, .iconst 0, 1, [], 0), (3, .istore_n 2, 1, [], 0), (4, .iload_n 2, 1, [], 0), (5, .iload_n 0, 1, [], 0), (6, .if_icmp .ge 13, 3, [19], 0), (9, .iload_n 1, 1, [], 0), (10, .iconst 5, 1, [], 5), (11, .imul, 1, [], 0), (12, .istore_n 1, 1, [], 0), (13, .iinc 2 1, 3, [], 0), (16, .goto (-12), 3, [4], 0), (19, .iload_n 1, 1, [], 0), (20, .ireturn, 1, [0], 0)]
abbrev kY_fives : Nat := 185
def jt_Y_isDead_0 : List jv_E := [(0, .aload_n 0, 1, [], 0), (1, .iload_n 1, 1, [], 0), (2, .invokevirtual 235, 3, [183, 2, 23], 0), (5, .iconst 0, 1, [], 0), (6, .istore_n 2, 1, [], 0), (7, .iconst 0, 1, [], 0), (8, .istore_n 3, 1, [], 0), (9, .iload_n 3, 1, [], 0), (10, .aload_n 0, 1, [], 0), (11, .getfield 136, 3, [22, 6, 0], 0), (14, .if_icmp .ge 43, 3, [57], 0), (17, .iload_n 2, 1, [], 0), (18, .aload_n 0, 1, [], 0), (19, .getfield 61, 3, [22, 26, 2], 0), (22, .iload_n 3, 1, [], 0), (23, .iaload, 1, [], 0), (24, .ifCond .lt 24, 3, [48], 0), (27, .aload_n 0, 1, [], 0), (28, .getfield 22, 3, [22, 8, 2], 0), (31, .iload_n 3, 1, [], 0), (32, .iaload, 1, [], 0), (33, .aload_n 0, 1, [], 0), (34, .getfield 61, 3, [22, 26, 2], 0), (37, .iload_n 3, 1, [], 0), (38, .iaload, 1, [], 0), (39, .if_icmp .eq 9, 3, [48], 0), (42, .iconst 1, 1, [], 1), (43, .iload_n 3, 1, [], 0), (44, .ishl, 1, [], 0), (45, .goto 4, 3, [49], 0), (48, .iconst 0, 1, [], 0), (49, .ior, 1, [], 0), (50, .istore_n 2, 1, [], 0), (51, .iinc 3 1, 3, [], 0), (54, .goto (-45), 3, [9], 0), (57, .iconst 1, 1, [], 1), (58, .istore_n 3, 1, [], 0), (59, .iload_n 3, 1, [], 0), (60, .ifCond .eq 66, 3, [126], 0), (63, .iconst 0, 1, [], 0), (64, .istore_n 3, 1, [], 0), (65, .iconst 0, 1, [], 0), (66, .istore 4, 2, [], 0), (68, .iload 4, 2, [], 0), (70, .aload_n 0, 1, [], 0), (71, .getfield 136, 3, [22, 6, 0], 0), (74, .if_icmp .ge 49, 3, [123], 0), (77, .iload_n 2, 1, [], 0), (78, .iload 4, 2, [], 0), (80, .invokestatic 125, 3, [159, 2, 0], 0), (83, .ifCond .eq 34, 3, [117], 0), (86, .aload_n 0, 1, [], 0), (87, .iload 4, 2, [], 0), (89, .aload_n 0, 1, [], 0), (90, .getfield 61, 3, [22, 26, 2], 0), (93, .iload 4, 2, [], 0), (95, .iaload, 1, [], 0), (96, .invokevirtual 181, 3, [158, 3, 23], 0), (99, .iload_n 2, 1, [], 0), (100, .iconst (-1), 1, [], (-1))]
def jt_Y_isDead_1 : List jv_E := [(101, .ixor, 1, [], 0), (102, .iand, 1, [], 0), (103, .ifCond .eq 14, 3, [117], 0), (106, .iload_n 2, 1, [], 0), (107, .iconst 1, 1, [], 1), (108, .iload 4, 2, [], 0), (110, .ishl, 1, [], 0), (111, .iconst (-1), 1, [], (-1)), (112, .ixor, 1, [], 0), (113, .iand, 1, [], 0), (114, .istore_n 2, 1, [], 0), (115, .iconst 1, 1, [], 1), (116, .istore_n 3, 1, [], 0), (117, .iinc 4 1, 3, [], 0), (120, .goto (-52), 3, [68], 0), (123, .goto (-64), 3, [59], 0), (126, .iload_n 2, 1, [], 0), (127, .ifCond .eq 7, 3, [134], 0), (130, .iconst 1, 1, [], 1), (131, .goto 4, 3, [135], 0), (134, .iconst 0, 1, [], 0), (135, .ireturn, 1, [1], 0)]
def jt_Y_isDead : List jv_E := jt_Y_isDead_0 ++ (jt_Y_isDead_1)
abbrev kY_isDead : Nat := 186
def jt_Y_send_0 : List jv_E := [(0, .aload_n 0, 1, [], 0), (1, .iload_n 2, 1, [], 0), (2, .invokevirtual 175, 3, [154, 2, 23], 0), (5, .ifCond .eq 11, 3, [16], 0), (8, .aload_n 0, 1, [], 0), (9, .iload_n 3, 1, [], 0), (10, .invokevirtual 175, 3, [154, 2, 23], 0), (13, .ifCond .ne 5, 3, [18], 0), (16, .iconst (-1), 1, [], (-1)), (17, .ireturn, 1, [0], 0), (18, .iload_n 1, 1, [], 0), (19, .iconst 0, 1, [], 0), (20, .iconst 2, 1, [], 2), (21, .invokestatic 129, 3, [145, 3, 0], 0), (24, .ifCond .eq 8, 3, [32], 0), (27, .iload_n 2, 1, [], 0), (28, .iload_n 3, 1, [], 0), (29, .if_icmp .ne 6, 3, [35], 0), (32, .bipush (-2), 2, [], (-2)), (34, .ireturn, 1, [0], 0), (35, .aload_n 0, 1, [], 0), (36, .iload_n 1, 1, [], 0), (37, .aload_n 0, 1, [], 0), (38, .bipush 10, 2, [], 10), (40, .iload_n 2, 1, [], 0), (41, .iadd, 1, [], 0), (42, .iload_n 3, 1, [], 0), (43, .invokevirtual 181, 3, [158, 3, 23], 0), (46, .invokevirtual 252, 3, [188, 3, 23], 0), (49, .istore 4, 2, [], 0), (51, .iload 4, 2, [], 0), (53, .bipush (-9), 2, [], (-9)), (55, .if_icmp .ne 6, 3, [61], 0), (58, .bipush (-3), 2, [], (-3)), (60, .ireturn, 1, [0], 0), (61, .aload_n 0, 1, [], 0), (62, .getfield 163, 3, [22, 27, 0], 0), (65, .bipush 30, 2, [], 30), (67, .if_icmp .ne 6, 3, [73], 0), (70, .bipush (-4), 2, [], (-4)), (72, .ireturn, 1, [0], 0), (73, .aload_n 0, 1, [], 0), (74, .getfield 64, 3, [22, 28, 2], 0), (77, .aload_n 0, 1, [], 0), (78, .getfield 163, 3, [22, 27, 0], 0), (81, .iload_n 1, 1, [], 0), (82, .iastore, 1, [], 0), (83, .aload_n 0, 1, [], 0), (84, .getfield 67, 3, [22, 29, 2], 0), (87, .aload_n 0, 1, [], 0), (88, .getfield 163, 3, [22, 27, 0], 0), (91, .iload_n 2, 1, [], 0), (92, .iastore, 1, [], 0), (93, .aload_n 0, 1, [], 0), (94, .getfield 70, 3, [22, 30, 2], 0), (97, .aload_n 0, 1, [], 0), (98, .getfield 163, 3, [22, 27, 0], 0), (101, .iload_n 3, 1, [], 0), (102, .iastore, 1, [], 0), (103, .aload_n 0, 1, [], 0)]
def jt_Y_send_1 : List jv_E := [(104, .getfield 76, 3, [22, 32, 2], 0), (107, .aload_n 0, 1, [], 0), (108, .getfield 163, 3, [22, 27, 0], 0), (111, .iconst 0, 1, [], 0), (112, .iastore, 1, [], 0), (113, .aload_n 0, 1, [], 0), (114, .getfield 79, 3, [22, 33, 2], 0), (117, .aload_n 0, 1, [], 0), (118, .getfield 163, 3, [22, 27, 0], 0), (121, .bipush (-9), 2, [], (-9)), (123, .iastore, 1, [], 0), (124, .aload_n 0, 1, [], 0), (125, .getfield 82, 3, [22, 34, 2], 0), (128, .aload_n 0, 1, [], 0), (129, .getfield 163, 3, [22, 27, 0], 0), (132, .iconst 0, 1, [], 0), (133, .iastore, 1, [], 0), (134, .aload_n 0, 1, [], 0), (135, .aload_n 0, 1, [], 0), (136, .getfield 163, 3, [22, 27, 0], 0), (139, .iload 4, 2, [], 0), (141, .invokevirtual 255, 3, [189, 3, 23], 0), (144, .aload_n 0, 1, [], 0), (145, .dup, 1, [], 0), (146, .getfield 163, 3, [22, 27, 0], 0), (149, .iconst 1, 1, [], 1), (150, .iadd, 1, [], 0), (151, .putfield 163, 3, [22, 27, 0], 0), (154, .aload_n 0, 1, [], 0), (155, .getfield 163, 3, [22, 27, 0], 0), (158, .iconst 1, 1, [], 1), (159, .isub, 1, [], 0), (160, .ireturn, 1, [0], 0)]
def jt_Y_send : List jv_E := jt_Y_send_0 ++ (jt_Y_send_1)
abbrev kY_send : Nat := 187
def jt_Y_laneFor : List jv_E := [(0, .iconst 0, 1, [], 0), (1, .istore_n 3, 1, [], 0), (2, .iload_n 3, 1, [], 0), (3, .aload_n 0, 1, [], 0), (4, .getfield 136, 3, [22, 6, 0], 0), (7, .if_icmp .ge 45, 3, [52], 0), (10, .iload_n 2, 1, [], 0), (11, .iload_n 3, 1, [], 0), (12, .invokestatic 125, 3, [159, 2, 0], 0), (15, .ifCond .ne 6, 3, [21], 0), (18, .goto 28, 3, [46], 0), (21, .aload_n 0, 1, [], 0), (22, .getfield 85, 3, [22, 35, 2], 0), (25, .iload_n 3, 1, [], 0), (26, .iaload, 1, [], 0), (27, .aload_n 0, 1, [], 0), (28, .getfield 25, 3, [22, 9, 2], 0), (31, .iload_n 3, 1, [], 0), (32, .iaload, 1, [], 0), (33, .if_icmp .ge 5, 3, [38], 0), (36, .iload_n 3, 1, [], 0), (37, .ireturn, 1, [0], 0), (38, .iload_n 1, 1, [], 0), (39, .iconst 2, 1, [], 2), (40, .if_icmp .ne 6, 3, [46], 0), (43, .bipush (-9), 2, [], (-9)), (45, .ireturn, 1, [0], 0), (46, .iinc 3 1, 3, [], 0), (49, .goto (-47), 3, [2], 0), (52, .bipush (-9), 2, [], (-9)), (54, .ireturn, 1, [0], 0)]
abbrev kY_laneFor : Nat := 188
def jt_Y_comesIn : List jv_E := [(0, .aload_n 0, 1, [], 0), (1, .getfield 88, 3, [22, 36, 2], 0), (4, .iconst 2, 1, [], 2), (5, .iload_n 2, 1, [], 0), (6, .imul, 1, [], 0), (7, .aload_n 0, 1, [], 0), (8, .getfield 85, 3, [22, 35, 2], 0), (11, .iload_n 2, 1, [], 0), (12, .iaload, 1, [], 0), (13, .iadd, 1, [], 0), (14, .iload_n 1, 1, [], 0), (15, .iastore, 1, [], 0), (16, .aload_n 0, 1, [], 0), (17, .getfield 85, 3, [22, 35, 2], 0), (20, .iload_n 2, 1, [], 0), (21, .dup2, 1, [], 0), (22, .iaload, 1, [], 0), (23, .iconst 1, 1, [], 1), (24, .iadd, 1, [], 0), (25, .iastore, 1, [], 0), (26, .aload_n 0, 1, [], 0), (27, .getfield 73, 3, [22, 31, 2], 0), (30, .iload_n 1, 1, [], 0), (31, .iload_n 2, 1, [], 0), (32, .iastore, 1, [], 0), (33, .aload_n 0, 1, [], 0), (34, .getfield 76, 3, [22, 32, 2], 0), (37, .iload_n 1, 1, [], 0), (38, .dup2, 1, [], 0), (39, .iaload, 1, [], 0), (40, .iconst 1, 1, [], 1), (41, .iadd, 1, [], 0), (42, .iastore, 1, [], 0), (43, .return_, 1, [], 0)]
abbrev kY_comesIn : Nat := 189
def jt_Y_ticks_0 : List jv_E := [(0, .iload_n 1, 1, [], 0), (1, .iconst 0, 1, [], 0), (2, .bipush 50, 2, [], 50), (4, .invokestatic 129, 3, [145, 3, 0], 0), (7, .ifCond .ne 6, 3, [13], 0), (10, .bipush (-2), 2, [], (-2)), (12, .ireturn, 1, [0], 0), (13, .aload_n 0, 1, [], 0), (14, .getfield 136, 3, [22, 6, 0], 0), (17, .ifCond .ne 6, 3, [23], 0), (20, .bipush (-3), 2, [], (-3)), (22, .ireturn, 1, [0], 0), (23, .iconst 0, 1, [], 0), (24, .istore_n 2, 1, [], 0), (25, .iconst 0, 1, [], 0), (26, .istore_n 3, 1, [], 0), (27, .iload_n 3, 1, [], 0), (28, .iload_n 1, 1, [], 0), (29, .if_icmp .ge 87, 3, [116], 0), (32, .iconst 0, 1, [], 0), (33, .istore 4, 2, [], 0), (35, .iload 4, 2, [], 0), (37, .aload_n 0, 1, [], 0), (38, .getfield 136, 3, [22, 6, 0], 0), (41, .if_icmp .ge 17, 3, [58], 0), (44, .aload_n 0, 1, [], 0), (45, .getfield 91, 3, [22, 37, 2], 0), (48, .iload 4, 2, [], 0), (50, .iconst 0, 1, [], 0), (51, .iastore, 1, [], 0), (52, .iinc 4 1, 3, [], 0), (55, .goto (-20), 3, [35], 0), (58, .iconst 0, 1, [], 0), (59, .istore 4, 2, [], 0), (61, .iload 4, 2, [], 0), (63, .aload_n 0, 1, [], 0), (64, .getfield 163, 3, [22, 27, 0], 0), (67, .if_icmp .ge 17, 3, [84], 0), (70, .aload_n 0, 1, [], 0), (71, .getfield 82, 3, [22, 34, 2], 0), (74, .iload 4, 2, [], 0), (76, .iconst 0, 1, [], 0), (77, .iastore, 1, [], 0), (78, .iinc 4 1, 3, [], 0), (81, .goto (-20), 3, [61], 0), (84, .iload_n 2, 1, [], 0), (85, .aload_n 0, 1, [], 0), (86, .iconst 1, 1, [], 1), (87, .invokevirtual 264, 3, [191, 2, 23], 0), (90, .iadd, 1, [], 0), (91, .istore_n 2, 1, [], 0), (92, .iload_n 2, 1, [], 0), (93, .aload_n 0, 1, [], 0), (94, .iconst 0, 1, [], 0), (95, .invokevirtual 264, 3, [191, 2, 23], 0), (98, .iadd, 1, [], 0), (99, .istore_n 2, 1, [], 0), (100, .aload_n 0, 1, [], 0), (101, .dup, 1, [], 0), (102, .getfield 166, 3, [22, 38, 0], 0)]
def jt_Y_ticks_1 : List jv_E := [(105, .iconst 1, 1, [], 1), (106, .iadd, 1, [], 0), (107, .putfield 166, 3, [22, 38, 0], 0), (110, .iinc 3 1, 3, [], 0), (113, .goto (-86), 3, [27], 0), (116, .iload_n 2, 1, [], 0), (117, .ireturn, 1, [0], 0)]
def jt_Y_ticks : List jv_E := jt_Y_ticks_0 ++ (jt_Y_ticks_1)
abbrev kY_ticks : Nat := 190
def jt_Y_pass : List jv_E := [(0, .iconst 0, 1, [], 0), (1, .istore_n 2, 1, [], 0), (2, .iconst 0, 1, [], 0), (3, .istore_n 3, 1, [], 0), (4, .iload_n 3, 1, [], 0), (5, .aload_n 0, 1, [], 0), (6, .getfield 136, 3, [22, 6, 0], 0), (9, .if_icmp .ge 78, 3, [87], 0), (12, .aload_n 0, 1, [], 0), (13, .getfield 85, 3, [22, 35, 2], 0), (16, .iload_n 3, 1, [], 0), (17, .iaload, 1, [], 0), (18, .ifCond .eq 63, 3, [81], 0), (21, .aload_n 0, 1, [], 0), (22, .getfield 91, 3, [22, 37, 2], 0), (25, .iload_n 3, 1, [], 0), (26, .iaload, 1, [], 0), (27, .iconst 1, 1, [], 1), (28, .if_icmp .ne 6, 3, [34], 0), (31, .goto 50, 3, [81], 0), (34, .aload_n 0, 1, [], 0), (35, .getfield 88, 3, [22, 36, 2], 0), (38, .iconst 2, 1, [], 2), (39, .iload_n 3, 1, [], 0), (40, .imul, 1, [], 0), (41, .iaload, 1, [], 0), (42, .istore 4, 2, [], 0), (44, .aload_n 0, 1, [], 0), (45, .getfield 64, 3, [22, 28, 2], 0), (48, .iload 4, 2, [], 0), (50, .iaload, 1, [], 0), (51, .ifCond .le 7, 3, [58], 0), (54, .iconst 1, 1, [], 1), (55, .goto 4, 3, [59], 0), (58, .iconst 0, 1, [], 0), (59, .iload_n 1, 1, [], 0), (60, .if_icmp .ne 21, 3, [81], 0), (63, .aload_n 0, 1, [], 0), (64, .getfield 82, 3, [22, 34, 2], 0), (67, .iload 4, 2, [], 0), (69, .iaload, 1, [], 0), (70, .ifCond .ne 11, 3, [81], 0), (73, .iload_n 2, 1, [], 0), (74, .aload_n 0, 1, [], 0), (75, .iload_n 3, 1, [], 0), (76, .invokevirtual 261, 3, [192, 2, 23], 0), (79, .iadd, 1, [], 0), (80, .istore_n 2, 1, [], 0), (81, .iinc 3 1, 3, [], 0), (84, .goto (-80), 3, [4], 0), (87, .iload_n 2, 1, [], 0), (88, .ireturn, 1, [0], 0)]
abbrev kY_pass : Nat := 191
def jt_Y_goFrom_0 : List jv_E := [(0, .aload_n 0, 1, [], 0), (1, .getfield 88, 3, [22, 36, 2], 0), (4, .iconst 2, 1, [], 2), (5, .iload_n 1, 1, [], 0), (6, .imul, 1, [], 0), (7, .iaload, 1, [], 0), (8, .istore_n 2, 1, [], 0), (9, .aload_n 0, 1, [], 0), (10, .getfield 22, 3, [22, 8, 2], 0), (13, .iload_n 1, 1, [], 0), (14, .iaload, 1, [], 0), (15, .aload_n 0, 1, [], 0), (16, .getfield 70, 3, [22, 30, 2], 0), (19, .iload_n 2, 1, [], 0), (20, .iaload, 1, [], 0), (21, .if_icmp .ne 28, 3, [49], 0), (24, .aload_n 0, 1, [], 0), (25, .iload_n 1, 1, [], 0), (26, .invokevirtual 258, 3, [193, 2, 23], 0), (29, .aload_n 0, 1, [], 0), (30, .getfield 73, 3, [22, 31, 2], 0), (33, .iload_n 2, 1, [], 0), (34, .bipush (-9), 2, [], (-9)), (36, .iastore, 1, [], 0), (37, .aload_n 0, 1, [], 0), (38, .getfield 79, 3, [22, 33, 2], 0), (41, .iload_n 2, 1, [], 0), (42, .aload_n 0, 1, [], 0), (43, .getfield 166, 3, [22, 38, 0], 0), (46, .iastore, 1, [], 0), (47, .iconst 1, 1, [], 1), (48, .ireturn, 1, [0], 0), (49, .aload_n 0, 1, [], 0), (50, .aload_n 0, 1, [], 0), (51, .getfield 64, 3, [22, 28, 2], 0), (54, .iload_n 2, 1, [], 0), (55, .iaload, 1, [], 0), (56, .aload_n 0, 1, [], 0), (57, .iload_n 1, 1, [], 0), (58, .aload_n 0, 1, [], 0), (59, .getfield 70, 3, [22, 30, 2], 0), (62, .iload_n 2, 1, [], 0), (63, .iaload, 1, [], 0), (64, .invokevirtual 181, 3, [158, 3, 23], 0), (67, .invokevirtual 252, 3, [188, 3, 23], 0), (70, .istore_n 3, 1, [], 0), (71, .iload_n 3, 1, [], 0), (72, .bipush (-9), 2, [], (-9)), (74, .if_icmp .ne 5, 3, [79], 0), (77, .iconst 0, 1, [], 0), (78, .ireturn, 1, [0], 0), (79, .aload_n 0, 1, [], 0), (80, .iload_n 1, 1, [], 0), (81, .invokevirtual 258, 3, [193, 2, 23], 0), (84, .aload_n 0, 1, [], 0), (85, .iload_n 2, 1, [], 0), (86, .iload_n 3, 1, [], 0), (87, .invokevirtual 255, 3, [189, 3, 23], 0), (90, .aload_n 0, 1, [], 0), (91, .getfield 82, 3, [22, 34, 2], 0)]
def jt_Y_goFrom_1 : List jv_E := [(94, .iload_n 2, 1, [], 0), (95, .iconst 1, 1, [], 1), (96, .iastore, 1, [], 0), (97, .iconst 1, 1, [], 1), (98, .ireturn, 1, [0], 0)]
def jt_Y_goFrom : List jv_E := jt_Y_goFrom_0 ++ (jt_Y_goFrom_1)
abbrev kY_goFrom : Nat := 192
def jt_Y_leaves : List jv_E := [(0, .aload_n 0, 1, [], 0), (1, .getfield 88, 3, [22, 36, 2], 0), (4, .iconst 2, 1, [], 2), (5, .iload_n 1, 1, [], 0), (6, .imul, 1, [], 0), (7, .aload_n 0, 1, [], 0), (8, .getfield 88, 3, [22, 36, 2], 0), (11, .iconst 2, 1, [], 2), (12, .iload_n 1, 1, [], 0), (13, .imul, 1, [], 0), (14, .iconst 1, 1, [], 1), (15, .iadd, 1, [], 0), (16, .iaload, 1, [], 0), (17, .iastore, 1, [], 0), (18, .aload_n 0, 1, [], 0), (19, .getfield 85, 3, [22, 35, 2], 0), (22, .iload_n 1, 1, [], 0), (23, .dup2, 1, [], 0), (24, .iaload, 1, [], 0), (25, .iconst 1, 1, [], 1), (26, .isub, 1, [], 0), (27, .iastore, 1, [], 0), (28, .aload_n 0, 1, [], 0), (29, .getfield 91, 3, [22, 37, 2], 0), (32, .iload_n 1, 1, [], 0), (33, .iconst 1, 1, [], 1), (34, .iastore, 1, [], 0), (35, .return_, 1, [], 0)]
abbrev kY_leaves : Nat := 193
def jt_Y_ofLoad : List jv_E := [(0, .aload_n 0, 1, [], 0), (1, .iload_n 1, 1, [], 0), (2, .invokevirtual 268, 3, [195, 2, 23], 0), (5, .ifCond .ne 5, 3, [10], 0), (8, .iconst (-1), 1, [], (-1)), (9, .ireturn, 1, [0], 0), (10, .iload_n 2, 1, [], 0), (11, .tableswitch 79 0 5 #[37, 44, 51, 58, 65, 72], 37, [90, 48, 55, 62, 69, 76, 83], 0), (48, .aload_n 0, 1, [], 0), (49, .getfield 64, 3, [22, 28, 2], 0), (52, .iload_n 1, 1, [], 0), (53, .iaload, 1, [], 0), (54, .ireturn, 1, [0], 0), (55, .aload_n 0, 1, [], 0), (56, .getfield 67, 3, [22, 29, 2], 0), (59, .iload_n 1, 1, [], 0), (60, .iaload, 1, [], 0), (61, .ireturn, 1, [0], 0), (62, .aload_n 0, 1, [], 0), (63, .getfield 70, 3, [22, 30, 2], 0), (66, .iload_n 1, 1, [], 0), (67, .iaload, 1, [], 0), (68, .ireturn, 1, [0], 0), (69, .aload_n 0, 1, [], 0), (70, .getfield 73, 3, [22, 31, 2], 0), (73, .iload_n 1, 1, [], 0), (74, .iaload, 1, [], 0), (75, .ireturn, 1, [0], 0), (76, .aload_n 0, 1, [], 0), (77, .getfield 76, 3, [22, 32, 2], 0), (80, .iload_n 1, 1, [], 0), (81, .iaload, 1, [], 0), (82, .ireturn, 1, [0], 0), (83, .aload_n 0, 1, [], 0), (84, .getfield 79, 3, [22, 33, 2], 0), (87, .iload_n 1, 1, [], 0), (88, .iaload, 1, [], 0), (89, .ireturn, 1, [0], 0), (90, .bipush (-2), 2, [], (-2)), (92, .ireturn, 1, [0], 0)]
abbrev kY_ofLoad : Nat := 194
def jt_Y_isLoad : List jv_E := [(0, .iload_n 1, 1, [], 0), (1, .ifCond .lt 15, 3, [16], 0), (4, .iload_n 1, 1, [], 0), (5, .aload_n 0, 1, [], 0), (6, .getfield 163, 3, [22, 27, 0], 0), (9, .if_icmp .ge 7, 3, [16], 0), (12, .iconst 1, 1, [], 1), (13, .goto 4, 3, [17], 0), (16, .iconst 0, 1, [], 0), (17, .ireturn, 1, [1], 0)]
abbrev kY_isLoad : Nat := 195
def jt_Y_frozen_0 : List jv_E := [(0, .iconst 0, 1, [], 0), (1, .istore_n 1, 1, [], 0), (2, .iconst 0, 1, [], 0), (3, .istore_n 2, 1, [], 0), (4, .iload_n 2, 1, [], 0), (5, .aload_n 0, 1, [], 0), (6, .getfield 163, 3, [22, 27, 0], 0), (9, .if_icmp .ge 30, 3, [39], 0), (12, .iload_n 1, 1, [], 0), (13, .aload_n 0, 1, [], 0), (14, .getfield 73, 3, [22, 31, 2], 0), (17, .iload_n 2, 1, [], 0), (18, .iaload, 1, [], 0), (19, .bipush (-9), 2, [], (-9)), (21, .if_icmp .ne 7, 3, [28], 0), (24, .iconst 0, 1, [], 0), (25, .goto 6, 3, [31], 0), (28, .iconst 1, 1, [], 1), (29, .iload_n 2, 1, [], 0), (30, .ishl, 1, [], 0), (31, .ior, 1, [], 0), (32, .istore_n 1, 1, [], 0), (33, .iinc 2 1, 3, [], 0), (36, .goto (-32), 3, [4], 0), (39, .iconst 1, 1, [], 1), (40, .istore_n 2, 1, [], 0), (41, .iload_n 2, 1, [], 0), (42, .ifCond .eq 110, 3, [152], 0), (45, .iconst 0, 1, [], 0), (46, .istore_n 2, 1, [], 0), (47, .iconst 0, 1, [], 0), (48, .istore_n 3, 1, [], 0), (49, .iload_n 3, 1, [], 0), (50, .aload_n 0, 1, [], 0), (51, .getfield 136, 3, [22, 6, 0], 0), (54, .if_icmp .ge 95, 3, [149], 0), (57, .iconst 0, 1, [], 0), (58, .istore 4, 2, [], 0), (60, .iload 4, 2, [], 0), (62, .aload_n 0, 1, [], 0), (63, .getfield 85, 3, [22, 35, 2], 0), (66, .iload_n 3, 1, [], 0), (67, .iaload, 1, [], 0), (68, .if_icmp .ge 75, 3, [143], 0), (71, .aload_n 0, 1, [], 0), (72, .getfield 88, 3, [22, 36, 2], 0), (75, .iconst 2, 1, [], 2), (76, .iload_n 3, 1, [], 0), (77, .imul, 1, [], 0), (78, .iload 4, 2, [], 0), (80, .iadd, 1, [], 0), (81, .iaload, 1, [], 0), (82, .istore 5, 2, [], 0), (84, .iload 4, 2, [], 0), (86, .ifCond .ne 12, 3, [98], 0), (89, .aload_n 0, 1, [], 0), (90, .iload_n 3, 1, [], 0), (91, .iload_n 1, 1, [], 0), (92, .invokevirtual 271, 3, [197, 3, 23], 0), (95, .goto 15, 3, [110], 0)]
def jt_Y_frozen_1 : List jv_E := [(98, .iload_n 1, 1, [], 0), (99, .aload_n 0, 1, [], 0), (100, .getfield 88, 3, [22, 36, 2], 0), (103, .iconst 2, 1, [], 2), (104, .iload_n 3, 1, [], 0), (105, .imul, 1, [], 0), (106, .iaload, 1, [], 0), (107, .invokestatic 125, 3, [159, 2, 0], 0), (110, .istore 6, 2, [], 0), (112, .iload_n 1, 1, [], 0), (113, .iload 5, 2, [], 0), (115, .invokestatic 125, 3, [159, 2, 0], 0), (118, .ifCond .eq 19, 3, [137], 0), (121, .iload 6, 2, [], 0), (123, .ifCond .ne 14, 3, [137], 0), (126, .iload_n 1, 1, [], 0), (127, .iconst 1, 1, [], 1), (128, .iload 5, 2, [], 0), (130, .ishl, 1, [], 0), (131, .iconst (-1), 1, [], (-1)), (132, .ixor, 1, [], 0), (133, .iand, 1, [], 0), (134, .istore_n 1, 1, [], 0), (135, .iconst 1, 1, [], 1), (136, .istore_n 2, 1, [], 0), (137, .iinc 4 1, 3, [], 0), (140, .goto (-80), 3, [60], 0), (143, .iinc 3 1, 3, [], 0), (146, .goto (-97), 3, [49], 0), (149, .goto (-108), 3, [41], 0), (152, .iload_n 1, 1, [], 0), (153, .ireturn, 1, [0], 0)]
def jt_Y_frozen : List jv_E := jt_Y_frozen_0 ++ (jt_Y_frozen_1)
abbrev kY_frozen : Nat := 196
def jt_Y_isHeld_0 : List jv_E := [(0, .aload_n 0, 1, [], 0), (1, .getfield 88, 3, [22, 36, 2], 0), (4, .iconst 2, 1, [], 2), (5, .iload_n 1, 1, [], 0), (6, .imul, 1, [], 0), (7, .iaload, 1, [], 0), (8, .istore_n 3, 1, [], 0), (9, .aload_n 0, 1, [], 0), (10, .getfield 22, 3, [22, 8, 2], 0), (13, .iload_n 1, 1, [], 0), (14, .iaload, 1, [], 0), (15, .aload_n 0, 1, [], 0), (16, .getfield 70, 3, [22, 30, 2], 0), (19, .iload_n 3, 1, [], 0), (20, .iaload, 1, [], 0), (21, .if_icmp .ne 5, 3, [26], 0), (24, .iconst 0, 1, [], 0), (25, .ireturn, 1, [1], 0), (26, .aload_n 0, 1, [], 0), (27, .iload_n 1, 1, [], 0), (28, .aload_n 0, 1, [], 0), (29, .getfield 70, 3, [22, 30, 2], 0), (32, .iload_n 3, 1, [], 0), (33, .iaload, 1, [], 0), (34, .invokevirtual 181, 3, [158, 3, 23], 0), (37, .istore 4, 2, [], 0), (39, .iconst 0, 1, [], 0), (40, .istore 5, 2, [], 0), (42, .iload 5, 2, [], 0), (44, .aload_n 0, 1, [], 0), (45, .getfield 136, 3, [22, 6, 0], 0), (48, .if_icmp .ge 69, 3, [117], 0), (51, .iload 4, 2, [], 0), (53, .iload 5, 2, [], 0), (55, .invokestatic 125, 3, [159, 2, 0], 0), (58, .ifCond .ne 6, 3, [64], 0), (61, .goto 50, 3, [111], 0), (64, .aload_n 0, 1, [], 0), (65, .getfield 85, 3, [22, 35, 2], 0), (68, .iload 5, 2, [], 0), (70, .iaload, 1, [], 0), (71, .aload_n 0, 1, [], 0), (72, .getfield 25, 3, [22, 9, 2], 0), (75, .iload 5, 2, [], 0), (77, .iaload, 1, [], 0), (78, .if_icmp .lt 19, 3, [97], 0), (81, .iload_n 2, 1, [], 0), (82, .aload_n 0, 1, [], 0), (83, .getfield 88, 3, [22, 36, 2], 0), (86, .iconst 2, 1, [], 2), (87, .iload 5, 2, [], 0), (89, .imul, 1, [], 0), (90, .iaload, 1, [], 0), (91, .invokestatic 125, 3, [159, 2, 0], 0), (94, .ifCond .ne 5, 3, [99], 0), (97, .iconst 0, 1, [], 0), (98, .ireturn, 1, [1], 0), (99, .aload_n 0, 1, [], 0), (100, .getfield 64, 3, [22, 28, 2], 0), (103, .iload_n 3, 1, [], 0)]
def jt_Y_isHeld_1 : List jv_E := [(104, .iaload, 1, [], 0), (105, .iconst 2, 1, [], 2), (106, .if_icmp .ne 5, 3, [111], 0), (109, .iconst 1, 1, [], 1), (110, .ireturn, 1, [1], 0), (111, .iinc 5 1, 3, [], 0), (114, .goto (-72), 3, [42], 0), (117, .iconst 1, 1, [], 1), (118, .ireturn, 1, [1], 0)]
def jt_Y_isHeld : List jv_E := jt_Y_isHeld_0 ++ (jt_Y_isHeld_1)
abbrev kY_isHeld : Nat := 197
def jt_Y_mend : List jv_E := [(0, .iload_n 1, 1, [], 0), (1, .iconst (-1), 1, [], (-1)), (2, .iconst 1, 1, [], 1), (3, .invokestatic 129, 3, [145, 3, 0], 0), (6, .ifCond .ne 5, 3, [11], 0), (9, .iconst (-1), 1, [], (-1)), (10, .ireturn, 1, [0], 0), (11, .aload_n 0, 1, [], 0), (12, .getfield 136, 3, [22, 6, 0], 0), (15, .ifCond .ne 6, 3, [21], 0), (18, .bipush (-3), 2, [], (-3)), (20, .ireturn, 1, [0], 0), (21, .aload_n 0, 1, [], 0), (22, .invokevirtual 295, 3, [199, 1, 23], 0), (25, .istore_n 2, 1, [], 0), (26, .iload_n 1, 1, [], 0), (27, .iconst (-1), 1, [], (-1)), (28, .if_icmp .ne 5, 3, [33], 0), (31, .iload_n 2, 1, [], 0), (32, .ireturn, 1, [0], 0), (33, .iload_n 1, 1, [], 0), (34, .ifCond .ne 10, 3, [44], 0), (37, .aload_n 0, 1, [], 0), (38, .getfield 289, 3, [22, 42, 0], 0), (41, .goto 7, 3, [48], 0), (44, .aload_n 0, 1, [], 0), (45, .getfield 292, 3, [22, 43, 0], 0), (48, .istore_n 3, 1, [], 0), (49, .iload_n 2, 1, [], 0), (50, .bipush (-9), 2, [], (-9)), (52, .if_icmp .eq 8, 3, [60], 0), (55, .iload_n 1, 1, [], 0), (56, .iload_n 2, 1, [], 0), (57, .if_icmp .lt 8, 3, [65], 0), (60, .bipush (-9), 2, [], (-9)), (62, .goto 19, 3, [81], 0), (65, .bipush 10, 2, [], 10), (67, .aload_n 0, 1, [], 0), (68, .getfield 94, 3, [22, 39, 2], 0), (71, .iload_n 3, 1, [], 0), (72, .iaload, 1, [], 0), (73, .imul, 1, [], 0), (74, .aload_n 0, 1, [], 0), (75, .getfield 97, 3, [22, 40, 2], 0), (78, .iload_n 3, 1, [], 0), (79, .iaload, 1, [], 0), (80, .iadd, 1, [], 0), (81, .ireturn, 1, [0], 0)]
abbrev kY_mend : Nat := 198
def jt_Y_findMends_0 : List jv_E := [(0, .aload_n 0, 1, [], 0), (1, .invokevirtual 280, 3, [200, 1, 23], 0), (4, .ifCond .eq 5, 3, [9], 0), (7, .iconst 0, 1, [], 0), (8, .ireturn, 1, [0], 0), (9, .aload_n 0, 1, [], 0), (10, .invokevirtual 283, 3, [202, 1, 23], 0), (13, .bipush (-9), 2, [], (-9)), (15, .istore_n 1, 1, [], 0), (16, .iconst 0, 1, [], 0), (17, .istore_n 2, 1, [], 0), (18, .iload_n 2, 1, [], 0), (19, .aload_n 0, 1, [], 0), (20, .getfield 277, 3, [22, 41, 0], 0), (23, .if_icmp .ge 39, 3, [62], 0), (26, .iload_n 1, 1, [], 0), (27, .bipush (-9), 2, [], (-9)), (29, .if_icmp .ne 33, 3, [62], 0), (32, .aload_n 0, 1, [], 0), (33, .iload_n 2, 1, [], 0), (34, .invokevirtual 286, 3, [203, 2, 23], 0), (37, .aload_n 0, 1, [], 0), (38, .invokevirtual 280, 3, [200, 1, 23], 0), (41, .ifCond .eq 10, 3, [51], 0), (44, .iconst 1, 1, [], 1), (45, .istore_n 1, 1, [], 0), (46, .aload_n 0, 1, [], 0), (47, .iload_n 2, 1, [], 0), (48, .putfield 289, 3, [22, 42, 0], 0), (51, .aload_n 0, 1, [], 0), (52, .iload_n 2, 1, [], 0), (53, .invokevirtual 286, 3, [203, 2, 23], 0), (56, .iinc 2 1, 3, [], 0), (59, .goto (-41), 3, [18], 0), (62, .iconst 0, 1, [], 0), (63, .istore_n 2, 1, [], 0), (64, .iload_n 2, 1, [], 0), (65, .aload_n 0, 1, [], 0), (66, .getfield 277, 3, [22, 41, 0], 0), (69, .if_icmp .ge 78, 3, [147], 0), (72, .iload_n 1, 1, [], 0), (73, .bipush (-9), 2, [], (-9)), (75, .if_icmp .ne 72, 3, [147], 0), (78, .aload_n 0, 1, [], 0), (79, .iload_n 2, 1, [], 0), (80, .invokevirtual 286, 3, [203, 2, 23], 0), (83, .iload_n 2, 1, [], 0), (84, .iconst 1, 1, [], 1), (85, .iadd, 1, [], 0), (86, .istore_n 3, 1, [], 0), (87, .iload_n 3, 1, [], 0), (88, .aload_n 0, 1, [], 0), (89, .getfield 277, 3, [22, 41, 0], 0), (92, .if_icmp .ge 44, 3, [136], 0), (95, .iload_n 1, 1, [], 0), (96, .bipush (-9), 2, [], (-9)), (98, .if_icmp .ne 38, 3, [136], 0), (101, .aload_n 0, 1, [], 0), (102, .iload_n 3, 1, [], 0), (103, .invokevirtual 286, 3, [203, 2, 23], 0)]
def jt_Y_findMends_1 : List jv_E := [(106, .aload_n 0, 1, [], 0), (107, .invokevirtual 280, 3, [200, 1, 23], 0), (110, .ifCond .eq 15, 3, [125], 0), (113, .iconst 2, 1, [], 2), (114, .istore_n 1, 1, [], 0), (115, .aload_n 0, 1, [], 0), (116, .iload_n 2, 1, [], 0), (117, .putfield 289, 3, [22, 42, 0], 0), (120, .aload_n 0, 1, [], 0), (121, .iload_n 3, 1, [], 0), (122, .putfield 292, 3, [22, 43, 0], 0), (125, .aload_n 0, 1, [], 0), (126, .iload_n 3, 1, [], 0), (127, .invokevirtual 286, 3, [203, 2, 23], 0), (130, .iinc 3 1, 3, [], 0), (133, .goto (-46), 3, [87], 0), (136, .aload_n 0, 1, [], 0), (137, .iload_n 2, 1, [], 0), (138, .invokevirtual 286, 3, [203, 2, 23], 0), (141, .iinc 2 1, 3, [], 0), (144, .goto (-80), 3, [64], 0), (147, .iload_n 1, 1, [], 0), (148, .ireturn, 1, [0], 0)]
def jt_Y_findMends : List jv_E := jt_Y_findMends_0 ++ (jt_Y_findMends_1)
abbrev kY_findMends : Nat := 199
def jt_Y_isMended : List jv_E := [(0, .aload_n 0, 1, [], 0), (1, .invokevirtual 205, 3, [170, 1, 23], 0), (4, .ifCond .ne 14, 3, [18], 0), (7, .aload_n 0, 1, [], 0), (8, .invokevirtual 274, 3, [201, 1, 23], 0), (11, .ifCond .eq 7, 3, [18], 0), (14, .iconst 1, 1, [], 1), (15, .goto 4, 3, [19], 0), (18, .iconst 0, 1, [], 0), (19, .ireturn, 1, [1], 0)]
abbrev kY_isMended : Nat := 200
def jt_Y_allCome : List jv_E := [(0, .iconst 0, 1, [], 0), (1, .istore_n 1, 1, [], 0), (2, .iload_n 1, 1, [], 0), (3, .aload_n 0, 1, [], 0), (4, .getfield 133, 3, [22, 5, 0], 0), (7, .if_icmp .ge 42, 3, [49], 0), (10, .iconst 0, 1, [], 0), (11, .istore_n 2, 1, [], 0), (12, .iload_n 2, 1, [], 0), (13, .aload_n 0, 1, [], 0), (14, .getfield 133, 3, [22, 5, 0], 0), (17, .if_icmp .ge 26, 3, [43], 0), (20, .iload_n 1, 1, [], 0), (21, .iload_n 2, 1, [], 0), (22, .if_icmp .eq 15, 3, [37], 0), (25, .aload_n 0, 1, [], 0), (26, .iload_n 1, 1, [], 0), (27, .iload_n 2, 1, [], 0), (28, .invokevirtual 190, 3, [162, 3, 23], 0), (31, .iconst 2, 1, [], 2), (32, .if_icmp .eq 5, 3, [37], 0), (35, .iconst 0, 1, [], 0), (36, .ireturn, 1, [1], 0), (37, .iinc 2 1, 3, [], 0), (40, .goto (-28), 3, [12], 0), (43, .iinc 1 1, 3, [], 0), (46, .goto (-44), 3, [2], 0), (49, .iconst 1, 1, [], 1), (50, .ireturn, 1, [1], 0)]
abbrev kY_allCome : Nat := 201
def jt_Y_layTurns : List jv_E := [(0, .aload_n 0, 1, [], 0), (1, .invokevirtual 196, 3, [168, 1, 23], 0), (4, .aload_n 0, 1, [], 0), (5, .iconst 0, 1, [], 0), (6, .putfield 277, 3, [22, 41, 0], 0), (9, .iconst 0, 1, [], 0), (10, .istore_n 1, 1, [], 0), (11, .iload_n 1, 1, [], 0), (12, .aload_n 0, 1, [], 0), (13, .getfield 136, 3, [22, 6, 0], 0), (16, .if_icmp .ge 68, 3, [84], 0), (19, .iconst 0, 1, [], 0), (20, .istore_n 2, 1, [], 0), (21, .iload_n 2, 1, [], 0), (22, .aload_n 0, 1, [], 0), (23, .getfield 136, 3, [22, 6, 0], 0), (26, .if_icmp .ge 52, 3, [78], 0), (29, .aload_n 0, 1, [], 0), (30, .getfield 46, 3, [22, 19, 2], 0), (33, .iload_n 1, 1, [], 0), (34, .iaload, 1, [], 0), (35, .iload_n 2, 1, [], 0), (36, .invokestatic 125, 3, [159, 2, 0], 0), (39, .ifCond .eq 33, 3, [72], 0), (42, .aload_n 0, 1, [], 0), (43, .getfield 94, 3, [22, 39, 2], 0), (46, .aload_n 0, 1, [], 0), (47, .getfield 277, 3, [22, 41, 0], 0), (50, .iload_n 1, 1, [], 0), (51, .iastore, 1, [], 0), (52, .aload_n 0, 1, [], 0), (53, .getfield 97, 3, [22, 40, 2], 0), (56, .aload_n 0, 1, [], 0), (57, .getfield 277, 3, [22, 41, 0], 0), (60, .iload_n 2, 1, [], 0), (61, .iastore, 1, [], 0), (62, .aload_n 0, 1, [], 0), (63, .dup, 1, [], 0), (64, .getfield 277, 3, [22, 41, 0], 0), (67, .iconst 1, 1, [], 1), (68, .iadd, 1, [], 0), (69, .putfield 277, 3, [22, 41, 0], 0), (72, .iinc 2 1, 3, [], 0), (75, .goto (-54), 3, [21], 0), (78, .iinc 1 1, 3, [], 0), (81, .goto (-70), 3, [11], 0), (84, .return_, 1, [], 0)]
abbrev kY_layTurns : Nat := 202
def jt_Y_barTurn : List jv_E := [(0, .aload_n 0, 1, [], 0), (1, .getfield 28, 3, [22, 10, 2], 0), (4, .aload_n 0, 1, [], 0), (5, .getfield 94, 3, [22, 39, 2], 0), (8, .iload_n 1, 1, [], 0), (9, .iaload, 1, [], 0), (10, .dup2, 1, [], 0), (11, .iaload, 1, [], 0), (12, .iconst 1, 1, [], 1), (13, .aload_n 0, 1, [], 0), (14, .getfield 97, 3, [22, 40, 2], 0), (17, .iload_n 1, 1, [], 0), (18, .iaload, 1, [], 0), (19, .ishl, 1, [], 0), (20, .ixor, 1, [], 0), (21, .iastore, 1, [], 0), (22, .return_, 1, [], 0)]
abbrev kY_barTurn : Nat := 203
def jt_Y_bears : List jv_E := [(0, .aload_n 0, 1, [], 0), (1, .iload_n 1, 1, [], 0), (2, .invokevirtual 172, 3, [152, 2, 23], 0), (5, .ifCond .eq 19, 3, [24], 0), (8, .iload_n 2, 1, [], 0), (9, .iconst 0, 1, [], 0), (10, .iconst 1, 1, [], 1), (11, .invokestatic 129, 3, [145, 3, 0], 0), (14, .ifCond .eq 10, 3, [24], 0), (17, .aload_n 0, 1, [], 0), (18, .invokevirtual 274, 3, [201, 1, 23], 0), (21, .ifCond .ne 7, 3, [28], 0), (24, .ldc2_w 123, 3, [], (-9223372036854775808)), (27, .lreturn, 1, [], 0), (28, .aload_n 0, 1, [], 0), (29, .invokevirtual 317, 3, [205, 1, 23], 0), (32, .iload_n 2, 1, [], 0), (33, .ifCond .ne 12, 3, [45], 0), (36, .aload_n 0, 1, [], 0), (37, .getfield 113, 3, [22, 48, 2], 0), (40, .iload_n 1, 1, [], 0), (41, .laload, 1, [], 0), (42, .goto 9, 3, [51], 0), (45, .aload_n 0, 1, [], 0), (46, .getfield 116, 3, [22, 49, 2], 0), (49, .iload_n 1, 1, [], 0), (50, .laload, 1, [], 0), (51, .lreturn, 1, [], 0)]
abbrev kY_bears : Nat := 204
def jt_Y_layBears_0 : List jv_E := [(0, .aload_n 0, 1, [], 0), (1, .aload_n 0, 1, [], 0), (2, .getfield 113, 3, [22, 48, 2], 0), (5, .aload_n 0, 1, [], 0), (6, .getfield 116, 3, [22, 49, 2], 0), (9, .invokevirtual 306, 3, [206, 3, 23], 0), (12, .iconst 0, 1, [], 0), (13, .istore_n 1, 1, [], 0), (14, .iload_n 1, 1, [], 0), (15, .aload_n 0, 1, [], 0), (16, .getfield 133, 3, [22, 5, 0], 0), (19, .if_icmp .ge 133, 3, [152], 0), (22, .iconst 0, 1, [], 0), (23, .istore_n 2, 1, [], 0), (24, .iload_n 2, 1, [], 0), (25, .aload_n 0, 1, [], 0), (26, .getfield 133, 3, [22, 5, 0], 0), (29, .if_icmp .ge 117, 3, [146], 0), (32, .iload_n 1, 1, [], 0), (33, .iload_n 2, 1, [], 0), (34, .if_icmp .ne 6, 3, [40], 0), (37, .goto 103, 3, [140], 0), (40, .aload_n 0, 1, [], 0), (41, .aload_n 0, 1, [], 0), (42, .getfield 107, 3, [22, 46, 2], 0), (45, .aload_n 0, 1, [], 0), (46, .getfield 110, 3, [22, 47, 2], 0), (49, .invokevirtual 306, 3, [206, 3, 23], 0), (52, .aload_n 0, 1, [], 0), (53, .aload_n 0, 1, [], 0), (54, .bipush 10, 2, [], 10), (56, .iload_n 1, 1, [], 0), (57, .iadd, 1, [], 0), (58, .iload_n 2, 1, [], 0), (59, .invokevirtual 181, 3, [158, 3, 23], 0), (62, .lconst 1, 1, [], 1), (63, .lconst 1, 1, [], 1), (64, .invokevirtual 310, 3, [207, 4, 23], 0), (67, .iconst 0, 1, [], 0), (68, .istore_n 3, 1, [], 0), (69, .iload_n 3, 1, [], 0), (70, .bipush 10, 2, [], 10), (72, .if_icmp .ge 68, 3, [140], 0), (75, .aload_n 0, 1, [], 0), (76, .invokevirtual 314, 3, [210, 1, 23], 0), (79, .iconst 0, 1, [], 0), (80, .istore 4, 2, [], 0), (82, .iload 4, 2, [], 0), (84, .aload_n 0, 1, [], 0), (85, .getfield 136, 3, [22, 6, 0], 0), (88, .if_icmp .ge 46, 3, [134], 0), (91, .aload_n 0, 1, [], 0), (92, .getfield 100, 3, [22, 44, 2], 0), (95, .iload 4, 2, [], 0), (97, .laload, 1, [], 0), (98, .lconst 0, 1, [], 0), (99, .lcmp, 1, [], 0), (100, .ifCond .le 28, 3, [128], 0), (103, .aload_n 0, 1, [], 0), (104, .aload_n 0, 1, [], 0)]
def jt_Y_layBears_1 : List jv_E := [(105, .iload 4, 2, [], 0), (107, .iload_n 2, 1, [], 0), (108, .invokevirtual 181, 3, [158, 3, 23], 0), (111, .aload_n 0, 1, [], 0), (112, .getfield 100, 3, [22, 44, 2], 0), (115, .iload 4, 2, [], 0), (117, .laload, 1, [], 0), (118, .aload_n 0, 1, [], 0), (119, .getfield 104, 3, [22, 45, 2], 0), (122, .iload 4, 2, [], 0), (124, .laload, 1, [], 0), (125, .invokevirtual 310, 3, [207, 4, 23], 0), (128, .iinc 4 1, 3, [], 0), (131, .goto (-49), 3, [82], 0), (134, .iinc 3 1, 3, [], 0), (137, .goto (-68), 3, [69], 0), (140, .iinc 2 1, 3, [], 0), (143, .goto (-119), 3, [24], 0), (146, .iinc 1 1, 3, [], 0), (149, .goto (-135), 3, [14], 0), (152, .return_, 1, [], 0)]
def jt_Y_layBears : List jv_E := jt_Y_layBears_0 ++ (jt_Y_layBears_1)
abbrev kY_layBears : Nat := 205
def jt_Y_clear : List jv_E := [(0, .iconst 0, 1, [], 0), (1, .istore_n 3, 1, [], 0), (2, .iload_n 3, 1, [], 0), (3, .bipush 11, 2, [], 11), (5, .if_icmp .ge 17, 3, [22], 0), (8, .aload_n 1, 1, [], 0), (9, .iload_n 3, 1, [], 0), (10, .lconst 0, 1, [], 0), (11, .lastore, 1, [], 0), (12, .aload_n 2, 1, [], 0), (13, .iload_n 3, 1, [], 0), (14, .lconst 1, 1, [], 1), (15, .lastore, 1, [], 0), (16, .iinc 3 1, 3, [], 0), (19, .goto (-17), 3, [2], 0), (22, .return_, 1, [], 0)]
abbrev kY_clear : Nat := 206
def jt_Y_part : List jv_E := [(0, .iload_n 1, 1, [], 0), (1, .invokestatic 219, 3, [177, 1, 0], 0), (4, .istore 6, 2, [], 0), (6, .iconst 0, 1, [], 0), (7, .istore 7, 2, [], 0), (9, .iload 7, 2, [], 0), (11, .aload_n 0, 1, [], 0), (12, .getfield 136, 3, [22, 6, 0], 0), (15, .if_icmp .ge 58, 3, [73], 0), (18, .iload_n 1, 1, [], 0), (19, .iload 7, 2, [], 0), (21, .invokestatic 125, 3, [159, 2, 0], 0), (24, .ifCond .eq 43, 3, [67], 0), (27, .aload_n 0, 1, [], 0), (28, .getfield 107, 3, [22, 46, 2], 0), (31, .aload_n 0, 1, [], 0), (32, .getfield 110, 3, [22, 47, 2], 0), (35, .iload 7, 2, [], 0), (37, .lload_n 2, 1, [], 0), (38, .lload 4, 2, [], 0), (40, .iload 6, 2, [], 0), (42, .i2l, 1, [], 0), (43, .lmul, 1, [], 0), (44, .invokestatic 302, 3, [208, 5, 0], 0), (47, .aload_n 0, 1, [], 0), (48, .getfield 113, 3, [22, 48, 2], 0), (51, .aload_n 0, 1, [], 0), (52, .getfield 116, 3, [22, 49, 2], 0), (55, .iload 7, 2, [], 0), (57, .lload_n 2, 1, [], 0), (58, .lload 4, 2, [], 0), (60, .iload 6, 2, [], 0), (62, .i2l, 1, [], 0), (63, .lmul, 1, [], 0), (64, .invokestatic 302, 3, [208, 5, 0], 0), (67, .iinc 7 1, 3, [], 0), (70, .goto (-61), 3, [9], 0), (73, .return_, 1, [], 0)]
abbrev kY_part : Nat := 207
def jt_Y_add : List jv_E := [(0, .aload_n 1, 1, [], 0), (1, .iload_n 2, 1, [], 0), (2, .laload, 1, [], 0), (3, .lload 5, 2, [], 0), (5, .invokestatic 298, 3, [209, 2, 0], 0), (8, .lstore 7, 2, [], 0), (10, .aload_n 0, 1, [], 0), (11, .iload_n 2, 1, [], 0), (12, .laload, 1, [], 0), (13, .lload 5, 2, [], 0), (15, .lload 7, 2, [], 0), (17, .ldiv, 1, [], 0), (18, .lmul, 1, [], 0), (19, .lload_n 3, 1, [], 0), (20, .aload_n 1, 1, [], 0), (21, .iload_n 2, 1, [], 0), (22, .laload, 1, [], 0), (23, .lload 7, 2, [], 0), (25, .ldiv, 1, [], 0), (26, .lmul, 1, [], 0), (27, .ladd, 1, [], 0), (28, .lstore 9, 2, [], 0), (30, .aload_n 1, 1, [], 0), (31, .iload_n 2, 1, [], 0), (32, .laload, 1, [], 0), (33, .lload 7, 2, [], 0), (35, .ldiv, 1, [], 0), (36, .lload 5, 2, [], 0), (38, .lmul, 1, [], 0), (39, .lstore 11, 2, [], 0), (41, .lload 9, 2, [], 0), (43, .lload 11, 2, [], 0), (45, .invokestatic 298, 3, [209, 2, 0], 0), (48, .lstore 13, 2, [], 0), (50, .aload_n 0, 1, [], 0), (51, .iload_n 2, 1, [], 0), (52, .lload 9, 2, [], 0), (54, .lload 13, 2, [], 0), (56, .ldiv, 1, [], 0), (57, .lastore, 1, [], 0), (58, .aload_n 1, 1, [], 0), (59, .iload_n 2, 1, [], 0), (60, .lload 11, 2, [], 0), (62, .lload 13, 2, [], 0), (64, .ldiv, 1, [], 0), (65, .lastore, 1, [], 0), (66, .return_, 1, [], 0)]
abbrev kY_add : Nat := 208
def jt_Y_common : List jv_E := [(0, .lload_n 0, 1, [], 0), (1, .lstore 4, 2, [], 0), (3, .lload_n 2, 1, [], 0), (4, .lstore 6, 2, [], 0), (6, .lload 6, 2, [], 0), (8, .lconst 0, 1, [], 0), (9, .lcmp, 1, [], 0), (10, .ifCond .eq 21, 3, [31], 0), (13, .lload 4, 2, [], 0), (15, .lload 6, 2, [], 0), (17, .lrem, 1, [], 0), (18, .lstore 8, 2, [], 0), (20, .lload 6, 2, [], 0), (22, .lstore 4, 2, [], 0), (24, .lload 8, 2, [], 0), (26, .lstore 6, 2, [], 0), (28, .goto (-22), 3, [6], 0), (31, .lload 4, 2, [], 0), (33, .lreturn, 1, [], 0)]
abbrev kY_common : Nat := 209
def jt_Y_takeNext : List jv_E := [(0, .iconst 0, 1, [], 0), (1, .istore_n 1, 1, [], 0), (2, .iload_n 1, 1, [], 0), (3, .aload_n 0, 1, [], 0), (4, .getfield 136, 3, [22, 6, 0], 0), (7, .if_icmp .ge 33, 3, [40], 0), (10, .aload_n 0, 1, [], 0), (11, .getfield 100, 3, [22, 44, 2], 0), (14, .iload_n 1, 1, [], 0), (15, .aload_n 0, 1, [], 0), (16, .getfield 107, 3, [22, 46, 2], 0), (19, .iload_n 1, 1, [], 0), (20, .laload, 1, [], 0), (21, .lastore, 1, [], 0), (22, .aload_n 0, 1, [], 0), (23, .getfield 104, 3, [22, 45, 2], 0), (26, .iload_n 1, 1, [], 0), (27, .aload_n 0, 1, [], 0), (28, .getfield 110, 3, [22, 47, 2], 0), (31, .iload_n 1, 1, [], 0), (32, .laload, 1, [], 0), (33, .lastore, 1, [], 0), (34, .iinc 1 1, 3, [], 0), (37, .goto (-35), 3, [2], 0), (40, .aload_n 0, 1, [], 0), (41, .aload_n 0, 1, [], 0), (42, .getfield 107, 3, [22, 46, 2], 0), (45, .aload_n 0, 1, [], 0), (46, .getfield 110, 3, [22, 47, 2], 0), (49, .invokevirtual 306, 3, [206, 3, 23], 0), (52, .return_, 1, [], 0)]
abbrev kY_takeNext : Nat := 210
def jt_Y_busiest : List jv_E := [(0, .aload_n 0, 1, [], 0), (1, .getfield 136, 3, [22, 6, 0], 0), (4, .ifCond .eq 10, 3, [14], 0), (7, .aload_n 0, 1, [], 0), (8, .invokevirtual 274, 3, [201, 1, 23], 0), (11, .ifCond .ne 6, 3, [17], 0), (14, .bipush (-3), 2, [], (-3)), (16, .ireturn, 1, [0], 0), (17, .aload_n 0, 1, [], 0), (18, .invokevirtual 317, 3, [205, 1, 23], 0), (21, .iconst 0, 1, [], 0), (22, .istore_n 1, 1, [], 0), (23, .iconst 1, 1, [], 1), (24, .istore_n 2, 1, [], 0), (25, .iload_n 2, 1, [], 0), (26, .aload_n 0, 1, [], 0), (27, .getfield 136, 3, [22, 6, 0], 0), (30, .if_icmp .ge 41, 3, [71], 0), (33, .aload_n 0, 1, [], 0), (34, .getfield 113, 3, [22, 48, 2], 0), (37, .iload_n 2, 1, [], 0), (38, .laload, 1, [], 0), (39, .aload_n 0, 1, [], 0), (40, .getfield 116, 3, [22, 49, 2], 0), (43, .iload_n 1, 1, [], 0), (44, .laload, 1, [], 0), (45, .lmul, 1, [], 0), (46, .aload_n 0, 1, [], 0), (47, .getfield 113, 3, [22, 48, 2], 0), (50, .iload_n 1, 1, [], 0), (51, .laload, 1, [], 0), (52, .aload_n 0, 1, [], 0), (53, .getfield 116, 3, [22, 49, 2], 0), (56, .iload_n 2, 1, [], 0), (57, .laload, 1, [], 0), (58, .lmul, 1, [], 0), (59, .lcmp, 1, [], 0), (60, .ifCond .le 5, 3, [65], 0), (63, .iload_n 2, 1, [], 0), (64, .istore_n 1, 1, [], 0), (65, .iinc 2 1, 3, [], 0), (68, .goto (-43), 3, [25], 0), (71, .iload_n 1, 1, [], 0), (72, .ireturn, 1, [0], 0)]
abbrev kY_busiest : Nat := 211
def jt_Y_sheet : List jv_E := [(0, .aload_n 0, 1, [], 0), (1, .iconst 0, 1, [], 0), (2, .putfield 119, 3, [22, 0, 0], 0), (5, .iload_n 1, 1, [], 0), (6, .invokestatic 139, 3, [144, 1, 0], 0), (9, .ifCond .ne 5, 3, [14], 0), (12, .iconst (-1), 1, [], (-1)), (13, .ireturn, 1, [0], 0), (14, .iload_n 2, 1, [], 0), (15, .invokestatic 143, 3, [146, 1, 0], 0), (18, .ifCond .eq 9, 3, [27], 0), (21, .iload_n 3, 1, [], 0), (22, .bipush 60, 2, [], 60), (24, .if_icmp .le 6, 3, [30], 0), (27, .bipush (-2), 2, [], (-2)), (29, .ireturn, 1, [0], 0), (30, .iload_n 3, 1, [], 0), (31, .ifCond .ge 9, 3, [40], 0), (34, .aload_n 0, 1, [], 0), (35, .iconst 4, 1, [], 4), (36, .invokevirtual 146, 3, [147, 2, 23], 0), (39, .ireturn, 1, [0], 0), (40, .aload_n 0, 1, [], 0), (41, .getfield 9, 3, [22, 2, 2], 0), (44, .iload_n 1, 1, [], 0), (45, .iload_n 2, 1, [], 0), (46, .iastore, 1, [], 0), (47, .aload_n 0, 1, [], 0), (48, .getfield 13, 3, [22, 3, 2], 0), (51, .iload_n 1, 1, [], 0), (52, .iload_n 3, 1, [], 0), (53, .iastore, 1, [], 0), (54, .iconst 0, 1, [], 0), (55, .istore 4, 2, [], 0), (57, .iload 4, 2, [], 0), (59, .bipush 60, 2, [], 60), (61, .if_icmp .ge 22, 3, [83], 0), (64, .aload_n 0, 1, [], 0), (65, .getfield 16, 3, [22, 4, 2], 0), (68, .bipush 60, 2, [], 60), (70, .iload_n 1, 1, [], 0), (71, .imul, 1, [], 0), (72, .iload 4, 2, [], 0), (74, .iadd, 1, [], 0), (75, .iconst 0, 1, [], 0), (76, .iastore, 1, [], 0), (77, .iinc 4 1, 3, [], 0), (80, .goto (-23), 3, [57], 0), (83, .iconst 1, 1, [], 1), (84, .ireturn, 1, [0], 0)]
abbrev kY_sheet : Nat := 212
def jt_Y_lose : List jv_E := [(0, .iload_n 1, 1, [], 0), (1, .invokestatic 139, 3, [144, 1, 0], 0), (4, .ifCond .ne 5, 3, [9], 0), (7, .iconst (-1), 1, [], (-1)), (8, .ireturn, 1, [0], 0), (9, .aload_n 0, 1, [], 0), (10, .getfield 9, 3, [22, 2, 2], 0), (13, .iload_n 1, 1, [], 0), (14, .iaload, 1, [], 0), (15, .bipush (-9), 2, [], (-9)), (17, .if_icmp .ne 7, 3, [24], 0), (20, .iconst 0, 1, [], 0), (21, .goto 4, 3, [25], 0), (24, .iconst 1, 1, [], 1), (25, .istore_n 2, 1, [], 0), (26, .aload_n 0, 1, [], 0), (27, .getfield 9, 3, [22, 2, 2], 0), (30, .iload_n 1, 1, [], 0), (31, .bipush (-9), 2, [], (-9)), (33, .iastore, 1, [], 0), (34, .iload_n 2, 1, [], 0), (35, .ireturn, 1, [0], 0)]
abbrev kY_lose : Nat := 213
def jt_Y_put : List jv_E := [(0, .aload_n 0, 1, [], 0), (1, .iconst 0, 1, [], 0), (2, .putfield 119, 3, [22, 0, 0], 0), (5, .iload_n 1, 1, [], 0), (6, .invokestatic 139, 3, [144, 1, 0], 0), (9, .ifCond .ne 5, 3, [14], 0), (12, .iconst (-1), 1, [], (-1)), (13, .ireturn, 1, [0], 0), (14, .aload_n 0, 1, [], 0), (15, .getfield 9, 3, [22, 2, 2], 0), (18, .iload_n 1, 1, [], 0), (19, .iaload, 1, [], 0), (20, .bipush (-9), 2, [], (-9)), (22, .if_icmp .ne 9, 3, [31], 0), (25, .aload_n 0, 1, [], 0), (26, .iconst 1, 1, [], 1), (27, .invokevirtual 146, 3, [147, 2, 23], 0), (30, .ireturn, 1, [0], 0), (31, .iload_n 2, 1, [], 0), (32, .iconst 0, 1, [], 0), (33, .aload_n 0, 1, [], 0), (34, .getfield 13, 3, [22, 3, 2], 0), (37, .iload_n 1, 1, [], 0), (38, .iaload, 1, [], 0), (39, .iconst 1, 1, [], 1), (40, .isub, 1, [], 0), (41, .invokestatic 129, 3, [145, 3, 0], 0), (44, .ifCond .ne 9, 3, [53], 0), (47, .aload_n 0, 1, [], 0), (48, .iconst 3, 1, [], 3), (49, .invokevirtual 146, 3, [147, 2, 23], 0), (52, .ireturn, 1, [0], 0), (53, .aload_n 0, 1, [], 0), (54, .getfield 16, 3, [22, 4, 2], 0), (57, .bipush 60, 2, [], 60), (59, .iload_n 1, 1, [], 0), (60, .imul, 1, [], 0), (61, .iload_n 2, 1, [], 0), (62, .iadd, 1, [], 0), (63, .aload_n 0, 1, [], 0), (64, .getfield 9, 3, [22, 2, 2], 0), (67, .iload_n 1, 1, [], 0), (68, .iaload, 1, [], 0), (69, .ifCond .ne 8, 3, [77], 0), (72, .iload_n 3, 1, [], 0), (73, .i2b, 1, [], 0), (74, .goto 19, 3, [93], 0), (77, .aload_n 0, 1, [], 0), (78, .getfield 9, 3, [22, 2, 2], 0), (81, .iload_n 1, 1, [], 0), (82, .iaload, 1, [], 0), (83, .iconst 1, 1, [], 1), (84, .if_icmp .ne 8, 3, [92], 0), (87, .iload_n 3, 1, [], 0), (88, .i2s, 1, [], 0), (89, .goto 4, 3, [93], 0), (92, .iload_n 3, 1, [], 0), (93, .iastore, 1, [], 0), (94, .iconst 1, 1, [], 1), (95, .ireturn, 1, [0], 0)]
abbrev kY_put : Nat := 214
def jt_Y_cell_0 : List jv_E := [(0, .aload_n 0, 1, [], 0), (1, .iconst 0, 1, [], 0), (2, .putfield 119, 3, [22, 0, 0], 0), (5, .iload_n 1, 1, [], 0), (6, .invokestatic 139, 3, [144, 1, 0], 0), (9, .ifCond .eq 10, 3, [19], 0), (12, .iload_n 3, 1, [], 0), (13, .invokestatic 143, 3, [146, 1, 0], 0), (16, .ifCond .ne 7, 3, [23], 0), (19, .ldc2_w 123, 3, [], (-9223372036854775808)), (22, .lreturn, 1, [], 0), (23, .aload_n 0, 1, [], 0), (24, .getfield 9, 3, [22, 2, 2], 0), (27, .iload_n 1, 1, [], 0), (28, .iaload, 1, [], 0), (29, .bipush (-9), 2, [], (-9)), (31, .if_icmp .eq 19, 3, [50], 0), (34, .aload_n 0, 1, [], 0), (35, .getfield 9, 3, [22, 2, 2], 0), (38, .iload_n 1, 1, [], 0), (39, .iaload, 1, [], 0), (40, .iload_n 3, 1, [], 0), (41, .if_icmp .eq 9, 3, [50], 0), (44, .aload_n 0, 1, [], 0), (45, .iconst 2, 1, [], 2), (46, .invokevirtual 320, 3, [216, 2, 23], 0), (49, .lreturn, 1, [], 0), (50, .aload_n 0, 1, [], 0), (51, .getfield 9, 3, [22, 2, 2], 0), (54, .iload_n 1, 1, [], 0), (55, .iaload, 1, [], 0), (56, .bipush (-9), 2, [], (-9)), (58, .if_icmp .ne 9, 3, [67], 0), (61, .aload_n 0, 1, [], 0), (62, .iconst 1, 1, [], 1), (63, .invokevirtual 320, 3, [216, 2, 23], 0), (66, .lreturn, 1, [], 0), (67, .iload_n 2, 1, [], 0), (68, .iconst 0, 1, [], 0), (69, .aload_n 0, 1, [], 0), (70, .getfield 13, 3, [22, 3, 2], 0), (73, .iload_n 1, 1, [], 0), (74, .iaload, 1, [], 0), (75, .iconst 1, 1, [], 1), (76, .isub, 1, [], 0), (77, .invokestatic 129, 3, [145, 3, 0], 0), (80, .ifCond .ne 9, 3, [89], 0), (83, .aload_n 0, 1, [], 0), (84, .iconst 3, 1, [], 3), (85, .invokevirtual 320, 3, [216, 2, 23], 0), (88, .lreturn, 1, [], 0), (89, .aload_n 0, 1, [], 0), (90, .getfield 16, 3, [22, 4, 2], 0), (93, .bipush 60, 2, [], 60), (95, .iload_n 1, 1, [], 0), (96, .imul, 1, [], 0), (97, .iload_n 2, 1, [], 0), (98, .iadd, 1, [], 0), (99, .iaload, 1, [], 0), (100, .i2l, 1, [], 0)]
def jt_Y_cell_1 : List jv_E := [(101, .lreturn, 1, [], 0)]
def jt_Y_cell : List jv_E := jt_Y_cell_0 ++ (jt_Y_cell_1)
abbrev kY_cell : Nat := 215
def jt_Y_lost : List jv_E := [(0, .aload_n 0, 1, [], 0), (1, .iload_n 1, 1, [], 0), (2, .putfield 119, 3, [22, 0, 0], 0), (5, .ldc2_w 123, 3, [], (-9223372036854775808)), (8, .lreturn, 1, [], 0)]
abbrev kY_lost : Nat := 216
def jt_Y_copy_0 : List jv_E := [(0, .aload_n 0, 1, [], 0), (1, .iconst 0, 1, [], 0), (2, .putfield 119, 3, [22, 0, 0], 0), (5, .iload_n 1, 1, [], 0), (6, .invokestatic 139, 3, [144, 1, 0], 0), (9, .ifCond .eq 10, 3, [19], 0), (12, .iload_n 3, 1, [], 0), (13, .invokestatic 139, 3, [144, 1, 0], 0), (16, .ifCond .ne 5, 3, [21], 0), (19, .iconst (-1), 1, [], (-1)), (20, .ireturn, 1, [0], 0), (21, .aload_n 0, 1, [], 0), (22, .getfield 9, 3, [22, 2, 2], 0), (25, .iload_n 1, 1, [], 0), (26, .iaload, 1, [], 0), (27, .bipush (-9), 2, [], (-9)), (29, .if_icmp .eq 14, 3, [43], 0), (32, .aload_n 0, 1, [], 0), (33, .getfield 9, 3, [22, 2, 2], 0), (36, .iload_n 3, 1, [], 0), (37, .iaload, 1, [], 0), (38, .bipush (-9), 2, [], (-9)), (40, .if_icmp .ne 9, 3, [49], 0), (43, .aload_n 0, 1, [], 0), (44, .iconst 1, 1, [], 1), (45, .invokevirtual 146, 3, [147, 2, 23], 0), (48, .ireturn, 1, [0], 0), (49, .aload_n 0, 1, [], 0), (50, .getfield 9, 3, [22, 2, 2], 0), (53, .iload_n 1, 1, [], 0), (54, .iaload, 1, [], 0), (55, .aload_n 0, 1, [], 0), (56, .getfield 9, 3, [22, 2, 2], 0), (59, .iload_n 3, 1, [], 0), (60, .iaload, 1, [], 0), (61, .if_icmp .eq 9, 3, [70], 0), (64, .aload_n 0, 1, [], 0), (65, .iconst 2, 1, [], 2), (66, .invokevirtual 146, 3, [147, 2, 23], 0), (69, .ireturn, 1, [0], 0), (70, .iload_n 2, 1, [], 0), (71, .ifCond .lt 38, 3, [109], 0), (74, .iload 4, 2, [], 0), (76, .ifCond .lt 33, 3, [109], 0), (79, .iload 5, 2, [], 0), (81, .ifCond .lt 28, 3, [109], 0), (84, .iload_n 2, 1, [], 0), (85, .aload_n 0, 1, [], 0), (86, .getfield 13, 3, [22, 3, 2], 0), (89, .iload_n 1, 1, [], 0), (90, .iaload, 1, [], 0), (91, .if_icmp .gt 18, 3, [109], 0), (94, .iload 4, 2, [], 0), (96, .aload_n 0, 1, [], 0), (97, .getfield 13, 3, [22, 3, 2], 0), (100, .iload_n 3, 1, [], 0), (101, .iaload, 1, [], 0), (102, .if_icmp .gt 7, 3, [109], 0), (105, .iconst 1, 1, [], 1), (106, .goto 4, 3, [110], 0)]
def jt_Y_copy_1 : List jv_E := [(109, .iconst 0, 1, [], 0), (110, .istore 6, 2, [], 0), (112, .iload 6, 2, [], 0), (114, .ifCond .eq 30, 3, [144], 0), (117, .iload 5, 2, [], 0), (119, .aload_n 0, 1, [], 0), (120, .getfield 13, 3, [22, 3, 2], 0), (123, .iload_n 1, 1, [], 0), (124, .iaload, 1, [], 0), (125, .iload_n 2, 1, [], 0), (126, .isub, 1, [], 0), (127, .if_icmp .gt 17, 3, [144], 0), (130, .iload 5, 2, [], 0), (132, .aload_n 0, 1, [], 0), (133, .getfield 13, 3, [22, 3, 2], 0), (136, .iload_n 3, 1, [], 0), (137, .iaload, 1, [], 0), (138, .iload 4, 2, [], 0), (140, .isub, 1, [], 0), (141, .if_icmp .le 9, 3, [150], 0), (144, .aload_n 0, 1, [], 0), (145, .iconst 3, 1, [], 3), (146, .invokevirtual 146, 3, [147, 2, 23], 0), (149, .ireturn, 1, [0], 0), (150, .iload_n 2, 1, [], 0), (151, .iload 4, 2, [], 0), (153, .if_icmp .ge 7, 3, [160], 0), (156, .iconst 1, 1, [], 1), (157, .goto 4, 3, [161], 0), (160, .iconst 0, 1, [], 0), (161, .istore 7, 2, [], 0), (163, .iconst 0, 1, [], 0), (164, .istore 8, 2, [], 0), (166, .iload 8, 2, [], 0), (168, .iload 5, 2, [], 0), (170, .if_icmp .ge 57, 3, [227], 0), (173, .iload 7, 2, [], 0), (175, .ifCond .eq 13, 3, [188], 0), (178, .iload 5, 2, [], 0), (180, .iconst 1, 1, [], 1), (181, .isub, 1, [], 0), (182, .iload 8, 2, [], 0), (184, .isub, 1, [], 0), (185, .goto 5, 3, [190], 0), (188, .iload 8, 2, [], 0), (190, .istore 9, 2, [], 0), (192, .aload_n 0, 1, [], 0), (193, .getfield 16, 3, [22, 4, 2], 0), (196, .bipush 60, 2, [], 60), (198, .iload_n 3, 1, [], 0), (199, .imul, 1, [], 0), (200, .iload 4, 2, [], 0), (202, .iadd, 1, [], 0), (203, .iload 9, 2, [], 0), (205, .iadd, 1, [], 0), (206, .aload_n 0, 1, [], 0), (207, .getfield 16, 3, [22, 4, 2], 0), (210, .bipush 60, 2, [], 60), (212, .iload_n 1, 1, [], 0), (213, .imul, 1, [], 0)]
def jt_Y_copy_2 : List jv_E := [(214, .iload_n 2, 1, [], 0), (215, .iadd, 1, [], 0), (216, .iload 9, 2, [], 0), (218, .iadd, 1, [], 0), (219, .iaload, 1, [], 0), (220, .iastore, 1, [], 0), (221, .iinc 8 1, 3, [], 0), (224, .goto (-58), 3, [166], 0), (227, .iload 5, 2, [], 0), (229, .ireturn, 1, [0], 0)]
def jt_Y_copy : List jv_E := jt_Y_copy_0 ++ (jt_Y_copy_1 ++ (jt_Y_copy_2))
abbrev kY_copy : Nat := 217
def jt_Y_tell : List jv_E := [(0, .aload_n 0, 1, [], 0), (1, .iload_n 1, 1, [], 0), (2, .invokevirtual 268, 3, [195, 2, 23], 0), (5, .ifCond .ne 5, 3, [10], 0), (8, .iconst (-1), 1, [], (-1)), (9, .ireturn, 1, [0], 0), (10, .bipush 10, 2, [], 10), (12, .aload_n 0, 1, [], 0), (13, .getfield 67, 3, [22, 29, 2], 0), (16, .iload_n 1, 1, [], 0), (17, .iaload, 1, [], 0), (18, .imul, 1, [], 0), (19, .aload_n 0, 1, [], 0), (20, .getfield 70, 3, [22, 30, 2], 0), (23, .iload_n 1, 1, [], 0), (24, .iaload, 1, [], 0), (25, .iadd, 1, [], 0), (26, .istore_n 2, 1, [], 0), (27, .aload_n 0, 1, [], 0), (28, .getfield 64, 3, [22, 28, 2], 0), (31, .iload_n 1, 1, [], 0), (32, .iaload, 1, [], 0), (33, .lookupswitch 69 #[(1, 27), (2, 42)], 27, [102, 60, 75], 0), (60, .aload_n 0, 1, [], 0), (61, .iconst 2, 1, [], 2), (62, .invokevirtual 327, 3, [219, 2, 23], 0), (65, .aload_n 0, 1, [], 0), (66, .iconst 1, 1, [], 1), (67, .invokevirtual 327, 3, [219, 2, 23], 0), (70, .iload_n 2, 1, [], 0), (71, .bipush 100, 2, [], 100), (73, .iadd, 1, [], 0), (74, .ireturn, 1, [0], 0), (75, .aload_n 0, 1, [], 0), (76, .iconst 3, 1, [], 3), (77, .invokevirtual 327, 3, [219, 2, 23], 0), (80, .aload_n 0, 1, [], 0), (81, .iconst 2, 1, [], 2), (82, .invokevirtual 327, 3, [219, 2, 23], 0), (85, .aload_n 0, 1, [], 0), (86, .iconst 1, 1, [], 1), (87, .invokevirtual 327, 3, [219, 2, 23], 0), (90, .aload_n 0, 1, [], 0), (91, .iconst 1, 1, [], 1), (92, .invokevirtual 327, 3, [219, 2, 23], 0), (95, .iconst 2, 1, [], 2), (96, .iload_n 2, 1, [], 0), (97, .imul, 1, [], 0), (98, .bipush 100, 2, [], 100), (100, .iadd, 1, [], 0), (101, .ireturn, 1, [0], 0), (102, .aload_n 0, 1, [], 0), (103, .iconst 1, 1, [], 1), (104, .invokevirtual 327, 3, [219, 2, 23], 0), (107, .iload_n 2, 1, [], 0), (108, .ireturn, 1, [0], 0)]
abbrev kY_tell : Nat := 218
def jt_Y_begins : List jv_E := [(0, .aload_n 0, 1, [], 0), (1, .bipush 31, 2, [], 31), (3, .aload_n 0, 1, [], 0), (4, .getfield 324, 3, [22, 1, 0], 0), (7, .imul, 1, [], 0), (8, .iload_n 1, 1, [], 0), (9, .iadd, 1, [], 0), (10, .putfield 324, 3, [22, 1, 0], 0), (13, .return_, 1, [], 0)]
abbrev kY_begins : Nat := 219
def jt_Y_stamp : List jv_E := [(0, .aload_n 0, 1, [], 0), (1, .iload_n 1, 1, [], 0), (2, .invokevirtual 268, 3, [195, 2, 23], 0), (5, .ifCond .ne 5, 3, [10], 0), (8, .iconst (-1), 1, [], (-1)), (9, .ireturn, 1, [0], 0), (10, .aload_n 0, 1, [], 0), (11, .aload_n 0, 1, [], 0), (12, .getfield 64, 3, [22, 28, 2], 0), (15, .iload_n 1, 1, [], 0), (16, .iaload, 1, [], 0), (17, .iconst 2, 1, [], 2), (18, .if_icmp .ne 7, 3, [25], 0), (21, .iconst 5, 1, [], 5), (22, .goto 4, 3, [26], 0), (25, .iconst 4, 1, [], 4), (26, .invokevirtual 327, 3, [219, 2, 23], 0), (29, .aload_n 0, 1, [], 0), (30, .getfield 64, 3, [22, 28, 2], 0), (33, .iload_n 1, 1, [], 0), (34, .iaload, 1, [], 0), (35, .iconst 2, 1, [], 2), (36, .if_icmp .ne 8, 3, [44], 0), (39, .bipush 90, 2, [], 90), (41, .goto 4, 3, [45], 0), (44, .iload_n 1, 1, [], 0), (45, .ireturn, 1, [0], 0)]
abbrev kY_stamp : Nat := 220
def jt_Y_as : List jv_E := [(0, .aload_n 0, 1, [], 0), (1, .iconst 0, 1, [], 0), (2, .putfield 119, 3, [22, 0, 0], 0), (5, .aload_n 0, 1, [], 0), (6, .iload_n 1, 1, [], 0), (7, .invokevirtual 268, 3, [195, 2, 23], 0), (10, .ifCond .ne 5, 3, [15], 0), (13, .iconst (-1), 1, [], (-1)), (14, .ireturn, 1, [0], 0), (15, .iload_n 2, 1, [], 0), (16, .iconst 0, 1, [], 0), (17, .iconst 2, 1, [], 2), (18, .invokestatic 129, 3, [145, 3, 0], 0), (21, .ifCond .ne 6, 3, [27], 0), (24, .bipush (-2), 2, [], (-2)), (26, .ireturn, 1, [0], 0), (27, .aload_n 0, 1, [], 0), (28, .getfield 64, 3, [22, 28, 2], 0), (31, .iload_n 1, 1, [], 0), (32, .iaload, 1, [], 0), (33, .iload_n 2, 1, [], 0), (34, .if_icmp .lt 7, 3, [41], 0), (37, .iconst 1, 1, [], 1), (38, .goto 8, 3, [46], 0), (41, .aload_n 0, 1, [], 0), (42, .iconst 2, 1, [], 2), (43, .invokevirtual 146, 3, [147, 2, 23], 0), (46, .ireturn, 1, [0], 0)]
abbrev kY_as : Nat := 221
def jt_Y_trace : List jv_E := [(0, .aload_n 0, 1, [], 0), (1, .getfield 324, 3, [22, 1, 0], 0), (4, .ireturn, 1, [0], 0)]
abbrev kY_trace : Nat := 222
def jt_Y_fault : List jv_E := [(0, .aload_n 0, 1, [], 0), (1, .getfield 119, 3, [22, 0, 0], 0), (4, .ireturn, 1, [0], 0)]
abbrev kY_fault : Nat := 223
def jt_Y_many : List jv_E := [(0, .iconst 0, 1, [], 0), (1, .istore_n 2, 1, [], 0), (2, .iconst 0, 1, [], 0), (3, .istore_n 3, 1, [], 0), (4, .iload_n 3, 1, [], 0), (5, .aload_n 0, 1, [], 0), (6, .getfield 136, 3, [22, 6, 0], 0), (9, .if_icmp .ge 18, 3, [27], 0), (12, .iload_n 2, 1, [], 0), (13, .aload_n 0, 1, [], 0), (14, .getfield 85, 3, [22, 35, 2], 0), (17, .iload_n 3, 1, [], 0), (18, .iaload, 1, [], 0), (19, .iadd, 1, [], 0), (20, .istore_n 2, 1, [], 0), (21, .iinc 3 1, 3, [], 0), (24, .goto (-20), 3, [4], 0), (27, .iconst 0, 1, [], 0), (28, .istore_n 3, 1, [], 0), (29, .iconst 0, 1, [], 0), (30, .istore 4, 2, [], 0), (32, .iload 4, 2, [], 0), (34, .aload_n 0, 1, [], 0), (35, .getfield 136, 3, [22, 6, 0], 0), (38, .if_icmp .ge 22, 3, [60], 0), (41, .iload_n 3, 1, [], 0), (42, .aload_n 0, 1, [], 0), (43, .getfield 28, 3, [22, 10, 2], 0), (46, .iload 4, 2, [], 0), (48, .iaload, 1, [], 0), (49, .invokestatic 219, 3, [177, 1, 0], 0), (52, .iadd, 1, [], 0), (53, .istore_n 3, 1, [], 0), (54, .iinc 4 1, 3, [], 0), (57, .goto (-25), 3, [32], 0), (60, .iload_n 1, 1, [], 0), (61, .tableswitch 63 0 5 #[39, 44, 49, 54, 56, 58], 39, [124, 100, 105, 110, 115, 117, 119], 0), (100, .aload_n 0, 1, [], 0), (101, .getfield 133, 3, [22, 5, 0], 0), (104, .ireturn, 1, [0], 0), (105, .aload_n 0, 1, [], 0), (106, .getfield 136, 3, [22, 6, 0], 0), (109, .ireturn, 1, [0], 0), (110, .aload_n 0, 1, [], 0), (111, .getfield 163, 3, [22, 27, 0], 0), (114, .ireturn, 1, [0], 0), (115, .iload_n 2, 1, [], 0), (116, .ireturn, 1, [0], 0), (117, .iload_n 3, 1, [], 0), (118, .ireturn, 1, [0], 0), (119, .aload_n 0, 1, [], 0), (120, .getfield 166, 3, [22, 38, 0], 0), (123, .ireturn, 1, [0], 0), (124, .bipush (-2), 2, [], (-2)), (126, .ireturn, 1, [0], 0)]
abbrev kY_many : Nat := 224
def jt_Law_law_0 : List jv_E := [(0, .new 7, 3, [11, 12], 0), (3, .dup, 1, [], 0), (4, .invokespecial 9, 3, [0, 1, 22], 0), (7, .astore_n 1, 1, [], 0), (8, .new 10, 3, [12, 50], 0), (11, .dup, 1, [], 0), (12, .invokespecial 12, 3, [142, 1, 23], 0), (15, .astore_n 2, 1, [], 0), (16, .iconst 0, 1, [], 0), (17, .istore_n 3, 1, [], 0), (18, .iload_n 3, 1, [], 0), (19, .aload_n 0, 1, [], 0), (20, .arraylength, 1, [], 0), (21, .bipush 6, 2, [], 6), (23, .isub, 1, [], 0), (24, .if_icmp .gt 1106, 3, [1130], 0), (27, .aload_n 0, 1, [], 0), (28, .iload_n 3, 1, [], 0), (29, .iaload, 1, [], 0), (30, .bipush 31, 2, [], 31), (32, .iand, 1, [], 0), (33, .tableswitch 1091 0 31 #[143, 196, 229, 262, 285, 328, 361, 394, 427, 450, 473, 496, 519, 542, 565, 608, 631, 664, 677, 700, 734, 747, 790, 813, 856, 900, 963, 986, 1009, 1042, 1055, 1068], 143, [1124, 176, 229, 262, 295, 318, 361, 394, 427, 460, 483, 506, 529, 552, 575, 598, 641, 664, 697, 710, 733, 767, 780, 823, 846, 889, 933, 996, 1019, 1042, 1075, 1088, 1101], 0), (176, .aload_n 1, 1, [], 0), (177, .aload_n 0, 1, [], 0), (178, .iload_n 3, 1, [], 0), (179, .iconst 1, 1, [], 1), (180, .iadd, 1, [], 0), (181, .iaload, 1, [], 0), (182, .aload_n 0, 1, [], 0), (183, .iload_n 3, 1, [], 0), (184, .iconst 2, 1, [], 2), (185, .iadd, 1, [], 0), (186, .iaload, 1, [], 0), (187, .aload_n 0, 1, [], 0), (188, .iload_n 3, 1, [], 0), (189, .iconst 3, 1, [], 3), (190, .iadd, 1, [], 0), (191, .iaload, 1, [], 0), (192, .aload_n 0, 1, [], 0), (193, .iload_n 3, 1, [], 0), (194, .iconst 4, 1, [], 4), (195, .iadd, 1, [], 0), (196, .iaload, 1, [], 0), (197, .invokevirtual 13, 3, [11, 5, 22], 0), (200, .aload_n 2, 1, [], 0), (201, .aload_n 0, 1, [], 0), (202, .iload_n 3, 1, [], 0), (203, .iconst 1, 1, [], 1), (204, .iadd, 1, [], 0), (205, .iaload, 1, [], 0), (206, .aload_n 0, 1, [], 0), (207, .iload_n 3, 1, [], 0), (208, .iconst 2, 1, [], 2), (209, .iadd, 1, [], 0), (210, .iaload, 1, [], 0), (211, .aload_n 0, 1, [], 0), (212, .iload_n 3, 1, [], 0), (213, .iconst 3, 1, [], 3), (214, .iadd, 1, [], 0), (215, .iaload, 1, [], 0)]
def jt_Law_law_1 : List jv_E := [(216, .aload_n 0, 1, [], 0), (217, .iload_n 3, 1, [], 0), (218, .iconst 4, 1, [], 4), (219, .iadd, 1, [], 0), (220, .iaload, 1, [], 0), (221, .invokevirtual 17, 3, [143, 5, 23], 0), (224, .if_icmp .eq 900, 3, [1124], 0), (227, .iconst 0, 1, [], 0), (228, .ireturn, 1, [1], 0), (229, .aload_n 1, 1, [], 0), (230, .aload_n 0, 1, [], 0), (231, .iload_n 3, 1, [], 0), (232, .iconst 1, 1, [], 1), (233, .iadd, 1, [], 0), (234, .iaload, 1, [], 0), (235, .aload_n 0, 1, [], 0), (236, .iload_n 3, 1, [], 0), (237, .iconst 2, 1, [], 2), (238, .iadd, 1, [], 0), (239, .iaload, 1, [], 0), (240, .invokevirtual 18, 3, [35, 3, 22], 0), (243, .aload_n 2, 1, [], 0), (244, .aload_n 0, 1, [], 0), (245, .iload_n 3, 1, [], 0), (246, .iconst 1, 1, [], 1), (247, .iadd, 1, [], 0), (248, .iaload, 1, [], 0), (249, .aload_n 0, 1, [], 0), (250, .iload_n 3, 1, [], 0), (251, .iconst 2, 1, [], 2), (252, .iadd, 1, [], 0), (253, .iaload, 1, [], 0), (254, .invokevirtual 22, 3, [151, 3, 23], 0), (257, .if_icmp .eq 867, 3, [1124], 0), (260, .iconst 0, 1, [], 0), (261, .ireturn, 1, [1], 0), (262, .aload_n 1, 1, [], 0), (263, .aload_n 0, 1, [], 0), (264, .iload_n 3, 1, [], 0), (265, .iconst 1, 1, [], 1), (266, .iadd, 1, [], 0), (267, .iaload, 1, [], 0), (268, .aload_n 0, 1, [], 0), (269, .iload_n 3, 1, [], 0), (270, .iconst 2, 1, [], 2), (271, .iadd, 1, [], 0), (272, .iaload, 1, [], 0), (273, .invokevirtual 23, 3, [38, 3, 22], 0), (276, .aload_n 2, 1, [], 0), (277, .aload_n 0, 1, [], 0), (278, .iload_n 3, 1, [], 0), (279, .iconst 1, 1, [], 1), (280, .iadd, 1, [], 0), (281, .iaload, 1, [], 0), (282, .aload_n 0, 1, [], 0), (283, .iload_n 3, 1, [], 0), (284, .iconst 2, 1, [], 2), (285, .iadd, 1, [], 0), (286, .iaload, 1, [], 0), (287, .invokevirtual 26, 3, [153, 3, 23], 0)]
def jt_Law_law_2 : List jv_E := [(290, .if_icmp .eq 834, 3, [1124], 0), (293, .iconst 0, 1, [], 0), (294, .ireturn, 1, [1], 0), (295, .aload_n 1, 1, [], 0), (296, .aload_n 0, 1, [], 0), (297, .iload_n 3, 1, [], 0), (298, .iconst 1, 1, [], 1), (299, .iadd, 1, [], 0), (300, .iaload, 1, [], 0), (301, .invokevirtual 27, 3, [41, 2, 22], 0), (304, .aload_n 2, 1, [], 0), (305, .aload_n 0, 1, [], 0), (306, .iload_n 3, 1, [], 0), (307, .iconst 1, 1, [], 1), (308, .iadd, 1, [], 0), (309, .iaload, 1, [], 0), (310, .invokevirtual 31, 3, [155, 2, 23], 0), (313, .if_icmp .eq 811, 3, [1124], 0), (316, .iconst 0, 1, [], 0), (317, .ireturn, 1, [1], 0), (318, .aload_n 1, 1, [], 0), (319, .aload_n 0, 1, [], 0), (320, .iload_n 3, 1, [], 0), (321, .iconst 1, 1, [], 1), (322, .iadd, 1, [], 0), (323, .iaload, 1, [], 0), (324, .aload_n 0, 1, [], 0), (325, .iload_n 3, 1, [], 0), (326, .iconst 2, 1, [], 2), (327, .iadd, 1, [], 0), (328, .iaload, 1, [], 0), (329, .aload_n 0, 1, [], 0), (330, .iload_n 3, 1, [], 0), (331, .iconst 3, 1, [], 3), (332, .iadd, 1, [], 0), (333, .iaload, 1, [], 0), (334, .invokevirtual 32, 3, [43, 4, 22], 0), (337, .aload_n 2, 1, [], 0), (338, .aload_n 0, 1, [], 0), (339, .iload_n 3, 1, [], 0), (340, .iconst 1, 1, [], 1), (341, .iadd, 1, [], 0), (342, .iaload, 1, [], 0), (343, .aload_n 0, 1, [], 0), (344, .iload_n 3, 1, [], 0), (345, .iconst 2, 1, [], 2), (346, .iadd, 1, [], 0), (347, .iaload, 1, [], 0), (348, .aload_n 0, 1, [], 0), (349, .iload_n 3, 1, [], 0), (350, .iconst 3, 1, [], 3), (351, .iadd, 1, [], 0), (352, .iaload, 1, [], 0), (353, .invokevirtual 36, 3, [156, 4, 23], 0), (356, .if_icmp .eq 768, 3, [1124], 0), (359, .iconst 0, 1, [], 0), (360, .ireturn, 1, [1], 0), (361, .aload_n 1, 1, [], 0), (362, .aload_n 0, 1, [], 0), (363, .iload_n 3, 1, [], 0)]
def jt_Law_law_3 : List jv_E := [(364, .iconst 1, 1, [], 1), (365, .iadd, 1, [], 0), (366, .iaload, 1, [], 0), (367, .aload_n 0, 1, [], 0), (368, .iload_n 3, 1, [], 0), (369, .iconst 2, 1, [], 2), (370, .iadd, 1, [], 0), (371, .iaload, 1, [], 0), (372, .invokevirtual 37, 3, [47, 3, 22], 0), (375, .aload_n 2, 1, [], 0), (376, .aload_n 0, 1, [], 0), (377, .iload_n 3, 1, [], 0), (378, .iconst 1, 1, [], 1), (379, .iadd, 1, [], 0), (380, .iaload, 1, [], 0), (381, .aload_n 0, 1, [], 0), (382, .iload_n 3, 1, [], 0), (383, .iconst 2, 1, [], 2), (384, .iadd, 1, [], 0), (385, .iaload, 1, [], 0), (386, .invokevirtual 40, 3, [157, 3, 23], 0), (389, .if_icmp .eq 735, 3, [1124], 0), (392, .iconst 0, 1, [], 0), (393, .ireturn, 1, [1], 0), (394, .aload_n 1, 1, [], 0), (395, .aload_n 0, 1, [], 0), (396, .iload_n 3, 1, [], 0), (397, .iconst 1, 1, [], 1), (398, .iadd, 1, [], 0), (399, .iaload, 1, [], 0), (400, .aload_n 0, 1, [], 0), (401, .iload_n 3, 1, [], 0), (402, .iconst 2, 1, [], 2), (403, .iadd, 1, [], 0), (404, .iaload, 1, [], 0), (405, .invokevirtual 41, 3, [48, 3, 22], 0), (408, .aload_n 2, 1, [], 0), (409, .aload_n 0, 1, [], 0), (410, .iload_n 3, 1, [], 0), (411, .iconst 1, 1, [], 1), (412, .iadd, 1, [], 0), (413, .iaload, 1, [], 0), (414, .aload_n 0, 1, [], 0), (415, .iload_n 3, 1, [], 0), (416, .iconst 2, 1, [], 2), (417, .iadd, 1, [], 0), (418, .iaload, 1, [], 0), (419, .invokevirtual 44, 3, [160, 3, 23], 0), (422, .if_icmp .eq 702, 3, [1124], 0), (425, .iconst 0, 1, [], 0), (426, .ireturn, 1, [1], 0), (427, .aload_n 1, 1, [], 0), (428, .aload_n 0, 1, [], 0), (429, .iload_n 3, 1, [], 0), (430, .iconst 1, 1, [], 1), (431, .iadd, 1, [], 0), (432, .iaload, 1, [], 0), (433, .aload_n 0, 1, [], 0), (434, .iload_n 3, 1, [], 0), (435, .iconst 2, 1, [], 2)]
def jt_Law_law_4 : List jv_E := [(436, .iadd, 1, [], 0), (437, .iaload, 1, [], 0), (438, .invokevirtual 45, 3, [49, 3, 22], 0), (441, .aload_n 2, 1, [], 0), (442, .aload_n 0, 1, [], 0), (443, .iload_n 3, 1, [], 0), (444, .iconst 1, 1, [], 1), (445, .iadd, 1, [], 0), (446, .iaload, 1, [], 0), (447, .aload_n 0, 1, [], 0), (448, .iload_n 3, 1, [], 0), (449, .iconst 2, 1, [], 2), (450, .iadd, 1, [], 0), (451, .iaload, 1, [], 0), (452, .invokevirtual 48, 3, [161, 3, 23], 0), (455, .if_icmp .eq 669, 3, [1124], 0), (458, .iconst 0, 1, [], 0), (459, .ireturn, 1, [1], 0), (460, .aload_n 1, 1, [], 0), (461, .aload_n 0, 1, [], 0), (462, .iload_n 3, 1, [], 0), (463, .iconst 1, 1, [], 1), (464, .iadd, 1, [], 0), (465, .iaload, 1, [], 0), (466, .invokevirtual 49, 3, [54, 2, 22], 0), (469, .aload_n 2, 1, [], 0), (470, .aload_n 0, 1, [], 0), (471, .iload_n 3, 1, [], 0), (472, .iconst 1, 1, [], 1), (473, .iadd, 1, [], 0), (474, .iaload, 1, [], 0), (475, .invokevirtual 52, 3, [165, 2, 23], 0), (478, .if_icmp .eq 646, 3, [1124], 0), (481, .iconst 0, 1, [], 0), (482, .ireturn, 1, [1], 0), (483, .aload_n 1, 1, [], 0), (484, .aload_n 0, 1, [], 0), (485, .iload_n 3, 1, [], 0), (486, .iconst 1, 1, [], 1), (487, .iadd, 1, [], 0), (488, .iaload, 1, [], 0), (489, .invokevirtual 53, 3, [61, 2, 22], 0), (492, .aload_n 2, 1, [], 0), (493, .aload_n 0, 1, [], 0), (494, .iload_n 3, 1, [], 0), (495, .iconst 1, 1, [], 1), (496, .iadd, 1, [], 0), (497, .iaload, 1, [], 0), (498, .invokevirtual 56, 3, [167, 2, 23], 0), (501, .if_icmp .eq 623, 3, [1124], 0), (504, .iconst 0, 1, [], 0), (505, .ireturn, 1, [1], 0), (506, .aload_n 1, 1, [], 0), (507, .aload_n 0, 1, [], 0), (508, .iload_n 3, 1, [], 0), (509, .iconst 1, 1, [], 1), (510, .iadd, 1, [], 0), (511, .iaload, 1, [], 0), (512, .invokevirtual 57, 3, [62, 2, 22], 0), (515, .aload_n 2, 1, [], 0)]
def jt_Law_law_5 : List jv_E := [(516, .aload_n 0, 1, [], 0), (517, .iload_n 3, 1, [], 0), (518, .iconst 1, 1, [], 1), (519, .iadd, 1, [], 0), (520, .iaload, 1, [], 0), (521, .invokevirtual 60, 3, [169, 2, 23], 0), (524, .if_icmp .eq 600, 3, [1124], 0), (527, .iconst 0, 1, [], 0), (528, .ireturn, 1, [1], 0), (529, .aload_n 1, 1, [], 0), (530, .aload_n 0, 1, [], 0), (531, .iload_n 3, 1, [], 0), (532, .iconst 1, 1, [], 1), (533, .iadd, 1, [], 0), (534, .iaload, 1, [], 0), (535, .invokevirtual 61, 3, [63, 2, 22], 0), (538, .aload_n 2, 1, [], 0), (539, .aload_n 0, 1, [], 0), (540, .iload_n 3, 1, [], 0), (541, .iconst 1, 1, [], 1), (542, .iadd, 1, [], 0), (543, .iaload, 1, [], 0), (544, .invokevirtual 64, 3, [173, 2, 23], 0), (547, .if_icmp .eq 577, 3, [1124], 0), (550, .iconst 0, 1, [], 0), (551, .ireturn, 1, [1], 0), (552, .aload_n 1, 1, [], 0), (553, .aload_n 0, 1, [], 0), (554, .iload_n 3, 1, [], 0), (555, .iconst 1, 1, [], 1), (556, .iadd, 1, [], 0), (557, .iaload, 1, [], 0), (558, .invokevirtual 65, 3, [64, 2, 22], 0), (561, .aload_n 2, 1, [], 0), (562, .aload_n 0, 1, [], 0), (563, .iload_n 3, 1, [], 0), (564, .iconst 1, 1, [], 1), (565, .iadd, 1, [], 0), (566, .iaload, 1, [], 0), (567, .invokevirtual 68, 3, [174, 2, 23], 0), (570, .if_icmp .eq 554, 3, [1124], 0), (573, .iconst 0, 1, [], 0), (574, .ireturn, 1, [1], 0), (575, .aload_n 1, 1, [], 0), (576, .aload_n 0, 1, [], 0), (577, .iload_n 3, 1, [], 0), (578, .iconst 1, 1, [], 1), (579, .iadd, 1, [], 0), (580, .iaload, 1, [], 0), (581, .invokevirtual 69, 3, [72, 2, 22], 0), (584, .aload_n 2, 1, [], 0), (585, .aload_n 0, 1, [], 0), (586, .iload_n 3, 1, [], 0), (587, .iconst 1, 1, [], 1), (588, .iadd, 1, [], 0), (589, .iaload, 1, [], 0), (590, .invokevirtual 72, 3, [179, 2, 23], 0), (593, .if_icmp .eq 531, 3, [1124], 0), (596, .iconst 0, 1, [], 0), (597, .ireturn, 1, [1], 0)]
def jt_Law_law_6 : List jv_E := [(598, .aload_n 1, 1, [], 0), (599, .aload_n 0, 1, [], 0), (600, .iload_n 3, 1, [], 0), (601, .iconst 1, 1, [], 1), (602, .iadd, 1, [], 0), (603, .iaload, 1, [], 0), (604, .aload_n 0, 1, [], 0), (605, .iload_n 3, 1, [], 0), (606, .iconst 2, 1, [], 2), (607, .iadd, 1, [], 0), (608, .iaload, 1, [], 0), (609, .aload_n 0, 1, [], 0), (610, .iload_n 3, 1, [], 0), (611, .iconst 3, 1, [], 3), (612, .iadd, 1, [], 0), (613, .iaload, 1, [], 0), (614, .invokevirtual 73, 3, [83, 4, 22], 0), (617, .aload_n 2, 1, [], 0), (618, .aload_n 0, 1, [], 0), (619, .iload_n 3, 1, [], 0), (620, .iconst 1, 1, [], 1), (621, .iadd, 1, [], 0), (622, .iaload, 1, [], 0), (623, .aload_n 0, 1, [], 0), (624, .iload_n 3, 1, [], 0), (625, .iconst 2, 1, [], 2), (626, .iadd, 1, [], 0), (627, .iaload, 1, [], 0), (628, .aload_n 0, 1, [], 0), (629, .iload_n 3, 1, [], 0), (630, .iconst 3, 1, [], 3), (631, .iadd, 1, [], 0), (632, .iaload, 1, [], 0), (633, .invokevirtual 76, 3, [187, 4, 23], 0), (636, .if_icmp .eq 488, 3, [1124], 0), (639, .iconst 0, 1, [], 0), (640, .ireturn, 1, [1], 0), (641, .aload_n 1, 1, [], 0), (642, .aload_n 0, 1, [], 0), (643, .iload_n 3, 1, [], 0), (644, .iconst 1, 1, [], 1), (645, .iadd, 1, [], 0), (646, .iaload, 1, [], 0), (647, .invokevirtual 77, 3, [90, 2, 22], 0), (650, .aload_n 2, 1, [], 0), (651, .aload_n 0, 1, [], 0), (652, .iload_n 3, 1, [], 0), (653, .iconst 1, 1, [], 1), (654, .iadd, 1, [], 0), (655, .iaload, 1, [], 0), (656, .invokevirtual 80, 3, [190, 2, 23], 0), (659, .if_icmp .eq 465, 3, [1124], 0), (662, .iconst 0, 1, [], 0), (663, .ireturn, 1, [1], 0), (664, .aload_n 1, 1, [], 0), (665, .aload_n 0, 1, [], 0), (666, .iload_n 3, 1, [], 0), (667, .iconst 1, 1, [], 1), (668, .iadd, 1, [], 0), (669, .iaload, 1, [], 0)]
def jt_Law_law_7 : List jv_E := [(670, .aload_n 0, 1, [], 0), (671, .iload_n 3, 1, [], 0), (672, .iconst 2, 1, [], 2), (673, .iadd, 1, [], 0), (674, .iaload, 1, [], 0), (675, .invokevirtual 81, 3, [95, 3, 22], 0), (678, .aload_n 2, 1, [], 0), (679, .aload_n 0, 1, [], 0), (680, .iload_n 3, 1, [], 0), (681, .iconst 1, 1, [], 1), (682, .iadd, 1, [], 0), (683, .iaload, 1, [], 0), (684, .aload_n 0, 1, [], 0), (685, .iload_n 3, 1, [], 0), (686, .iconst 2, 1, [], 2), (687, .iadd, 1, [], 0), (688, .iaload, 1, [], 0), (689, .invokevirtual 84, 3, [194, 3, 23], 0), (692, .if_icmp .eq 432, 3, [1124], 0), (695, .iconst 0, 1, [], 0), (696, .ireturn, 1, [1], 0), (697, .aload_n 1, 1, [], 0), (698, .invokevirtual 85, 3, [96, 1, 22], 0), (701, .aload_n 2, 1, [], 0), (702, .invokevirtual 89, 3, [196, 1, 23], 0), (705, .if_icmp .eq 419, 3, [1124], 0), (708, .iconst 0, 1, [], 0), (709, .ireturn, 1, [1], 0), (710, .aload_n 1, 1, [], 0), (711, .aload_n 0, 1, [], 0), (712, .iload_n 3, 1, [], 0), (713, .iconst 1, 1, [], 1), (714, .iadd, 1, [], 0), (715, .iaload, 1, [], 0), (716, .invokevirtual 90, 3, [101, 2, 22], 0), (719, .aload_n 2, 1, [], 0), (720, .aload_n 0, 1, [], 0), (721, .iload_n 3, 1, [], 0), (722, .iconst 1, 1, [], 1), (723, .iadd, 1, [], 0), (724, .iaload, 1, [], 0), (725, .invokevirtual 93, 3, [198, 2, 23], 0), (728, .if_icmp .eq 396, 3, [1124], 0), (731, .iconst 0, 1, [], 0), (732, .ireturn, 1, [1], 0), (733, .aload_n 1, 1, [], 0), (734, .aload_n 0, 1, [], 0), (735, .iload_n 3, 1, [], 0), (736, .iconst 1, 1, [], 1), (737, .iadd, 1, [], 0), (738, .iaload, 1, [], 0), (739, .aload_n 0, 1, [], 0), (740, .iload_n 3, 1, [], 0), (741, .iconst 2, 1, [], 2), (742, .iadd, 1, [], 0), (743, .iaload, 1, [], 0), (744, .invokevirtual 94, 3, [108, 3, 22], 0), (747, .aload_n 2, 1, [], 0), (748, .aload_n 0, 1, [], 0), (749, .iload_n 3, 1, [], 0)]
def jt_Law_law_8 : List jv_E := [(750, .iconst 1, 1, [], 1), (751, .iadd, 1, [], 0), (752, .iaload, 1, [], 0), (753, .aload_n 0, 1, [], 0), (754, .iload_n 3, 1, [], 0), (755, .iconst 2, 1, [], 2), (756, .iadd, 1, [], 0), (757, .iaload, 1, [], 0), (758, .invokevirtual 98, 3, [204, 3, 23], 0), (761, .lcmp, 1, [], 0), (762, .ifCond .eq 362, 3, [1124], 0), (765, .iconst 0, 1, [], 0), (766, .ireturn, 1, [1], 0), (767, .aload_n 1, 1, [], 0), (768, .invokevirtual 99, 3, [116, 1, 22], 0), (771, .aload_n 2, 1, [], 0), (772, .invokevirtual 102, 3, [211, 1, 23], 0), (775, .if_icmp .eq 349, 3, [1124], 0), (778, .iconst 0, 1, [], 0), (779, .ireturn, 1, [1], 0), (780, .aload_n 1, 1, [], 0), (781, .aload_n 0, 1, [], 0), (782, .iload_n 3, 1, [], 0), (783, .iconst 1, 1, [], 1), (784, .iadd, 1, [], 0), (785, .iaload, 1, [], 0), (786, .aload_n 0, 1, [], 0), (787, .iload_n 3, 1, [], 0), (788, .iconst 2, 1, [], 2), (789, .iadd, 1, [], 0), (790, .iaload, 1, [], 0), (791, .aload_n 0, 1, [], 0), (792, .iload_n 3, 1, [], 0), (793, .iconst 3, 1, [], 3), (794, .iadd, 1, [], 0), (795, .iaload, 1, [], 0), (796, .invokevirtual 103, 3, [118, 4, 22], 0), (799, .aload_n 2, 1, [], 0), (800, .aload_n 0, 1, [], 0), (801, .iload_n 3, 1, [], 0), (802, .iconst 1, 1, [], 1), (803, .iadd, 1, [], 0), (804, .iaload, 1, [], 0), (805, .aload_n 0, 1, [], 0), (806, .iload_n 3, 1, [], 0), (807, .iconst 2, 1, [], 2), (808, .iadd, 1, [], 0), (809, .iaload, 1, [], 0), (810, .aload_n 0, 1, [], 0), (811, .iload_n 3, 1, [], 0), (812, .iconst 3, 1, [], 3), (813, .iadd, 1, [], 0), (814, .iaload, 1, [], 0), (815, .invokevirtual 106, 3, [212, 4, 23], 0), (818, .if_icmp .eq 306, 3, [1124], 0), (821, .iconst 0, 1, [], 0), (822, .ireturn, 1, [1], 0), (823, .aload_n 1, 1, [], 0), (824, .aload_n 0, 1, [], 0), (825, .iload_n 3, 1, [], 0)]
def jt_Law_law_9 : List jv_E := [(826, .iconst 1, 1, [], 1), (827, .iadd, 1, [], 0), (828, .iaload, 1, [], 0), (829, .invokevirtual 107, 3, [120, 2, 22], 0), (832, .aload_n 2, 1, [], 0), (833, .aload_n 0, 1, [], 0), (834, .iload_n 3, 1, [], 0), (835, .iconst 1, 1, [], 1), (836, .iadd, 1, [], 0), (837, .iaload, 1, [], 0), (838, .invokevirtual 110, 3, [213, 2, 23], 0), (841, .if_icmp .eq 283, 3, [1124], 0), (844, .iconst 0, 1, [], 0), (845, .ireturn, 1, [1], 0), (846, .aload_n 1, 1, [], 0), (847, .aload_n 0, 1, [], 0), (848, .iload_n 3, 1, [], 0), (849, .iconst 1, 1, [], 1), (850, .iadd, 1, [], 0), (851, .iaload, 1, [], 0), (852, .aload_n 0, 1, [], 0), (853, .iload_n 3, 1, [], 0), (854, .iconst 2, 1, [], 2), (855, .iadd, 1, [], 0), (856, .iaload, 1, [], 0), (857, .aload_n 0, 1, [], 0), (858, .iload_n 3, 1, [], 0), (859, .iconst 3, 1, [], 3), (860, .iadd, 1, [], 0), (861, .iaload, 1, [], 0), (862, .invokevirtual 111, 3, [122, 4, 22], 0), (865, .aload_n 2, 1, [], 0), (866, .aload_n 0, 1, [], 0), (867, .iload_n 3, 1, [], 0), (868, .iconst 1, 1, [], 1), (869, .iadd, 1, [], 0), (870, .iaload, 1, [], 0), (871, .aload_n 0, 1, [], 0), (872, .iload_n 3, 1, [], 0), (873, .iconst 2, 1, [], 2), (874, .iadd, 1, [], 0), (875, .iaload, 1, [], 0), (876, .aload_n 0, 1, [], 0), (877, .iload_n 3, 1, [], 0), (878, .iconst 3, 1, [], 3), (879, .iadd, 1, [], 0), (880, .iaload, 1, [], 0), (881, .invokevirtual 114, 3, [214, 4, 23], 0), (884, .if_icmp .eq 240, 3, [1124], 0), (887, .iconst 0, 1, [], 0), (888, .ireturn, 1, [1], 0), (889, .aload_n 1, 1, [], 0), (890, .aload_n 0, 1, [], 0), (891, .iload_n 3, 1, [], 0), (892, .iconst 1, 1, [], 1), (893, .iadd, 1, [], 0), (894, .iaload, 1, [], 0), (895, .aload_n 0, 1, [], 0), (896, .iload_n 3, 1, [], 0), (897, .iconst 2, 1, [], 2)]
def jt_Law_law_10 : List jv_E := [(898, .iadd, 1, [], 0), (899, .iaload, 1, [], 0), (900, .aload_n 0, 1, [], 0), (901, .iload_n 3, 1, [], 0), (902, .iconst 3, 1, [], 3), (903, .iadd, 1, [], 0), (904, .iaload, 1, [], 0), (905, .invokevirtual 115, 3, [125, 4, 22], 0), (908, .aload_n 2, 1, [], 0), (909, .aload_n 0, 1, [], 0), (910, .iload_n 3, 1, [], 0), (911, .iconst 1, 1, [], 1), (912, .iadd, 1, [], 0), (913, .iaload, 1, [], 0), (914, .aload_n 0, 1, [], 0), (915, .iload_n 3, 1, [], 0), (916, .iconst 2, 1, [], 2), (917, .iadd, 1, [], 0), (918, .iaload, 1, [], 0), (919, .aload_n 0, 1, [], 0), (920, .iload_n 3, 1, [], 0), (921, .iconst 3, 1, [], 3), (922, .iadd, 1, [], 0), (923, .iaload, 1, [], 0), (924, .invokevirtual 119, 3, [215, 4, 23], 0), (927, .lcmp, 1, [], 0), (928, .ifCond .eq 196, 3, [1124], 0), (931, .iconst 0, 1, [], 0), (932, .ireturn, 1, [1], 0), (933, .aload_n 1, 1, [], 0), (934, .aload_n 0, 1, [], 0), (935, .iload_n 3, 1, [], 0), (936, .iconst 1, 1, [], 1), (937, .iadd, 1, [], 0), (938, .iaload, 1, [], 0), (939, .aload_n 0, 1, [], 0), (940, .iload_n 3, 1, [], 0), (941, .iconst 2, 1, [], 2), (942, .iadd, 1, [], 0), (943, .iaload, 1, [], 0), (944, .aload_n 0, 1, [], 0), (945, .iload_n 3, 1, [], 0), (946, .iconst 3, 1, [], 3), (947, .iadd, 1, [], 0), (948, .iaload, 1, [], 0), (949, .aload_n 0, 1, [], 0), (950, .iload_n 3, 1, [], 0), (951, .iconst 4, 1, [], 4), (952, .iadd, 1, [], 0), (953, .iaload, 1, [], 0), (954, .aload_n 0, 1, [], 0), (955, .iload_n 3, 1, [], 0), (956, .iconst 5, 1, [], 5), (957, .iadd, 1, [], 0), (958, .iaload, 1, [], 0), (959, .invokevirtual 120, 3, [127, 6, 22], 0), (962, .aload_n 2, 1, [], 0), (963, .aload_n 0, 1, [], 0), (964, .iload_n 3, 1, [], 0), (965, .iconst 1, 1, [], 1)]
def jt_Law_law_11 : List jv_E := [(966, .iadd, 1, [], 0), (967, .iaload, 1, [], 0), (968, .aload_n 0, 1, [], 0), (969, .iload_n 3, 1, [], 0), (970, .iconst 2, 1, [], 2), (971, .iadd, 1, [], 0), (972, .iaload, 1, [], 0), (973, .aload_n 0, 1, [], 0), (974, .iload_n 3, 1, [], 0), (975, .iconst 3, 1, [], 3), (976, .iadd, 1, [], 0), (977, .iaload, 1, [], 0), (978, .aload_n 0, 1, [], 0), (979, .iload_n 3, 1, [], 0), (980, .iconst 4, 1, [], 4), (981, .iadd, 1, [], 0), (982, .iaload, 1, [], 0), (983, .aload_n 0, 1, [], 0), (984, .iload_n 3, 1, [], 0), (985, .iconst 5, 1, [], 5), (986, .iadd, 1, [], 0), (987, .iaload, 1, [], 0), (988, .invokevirtual 124, 3, [217, 6, 23], 0), (991, .if_icmp .eq 133, 3, [1124], 0), (994, .iconst 0, 1, [], 0), (995, .ireturn, 1, [1], 0), (996, .aload_n 1, 1, [], 0), (997, .aload_n 0, 1, [], 0), (998, .iload_n 3, 1, [], 0), (999, .iconst 1, 1, [], 1), (1000, .iadd, 1, [], 0), (1001, .iaload, 1, [], 0), (1002, .invokevirtual 125, 3, [128, 2, 22], 0), (1005, .aload_n 2, 1, [], 0), (1006, .aload_n 0, 1, [], 0), (1007, .iload_n 3, 1, [], 0), (1008, .iconst 1, 1, [], 1), (1009, .iadd, 1, [], 0), (1010, .iaload, 1, [], 0), (1011, .invokevirtual 128, 3, [218, 2, 23], 0), (1014, .if_icmp .eq 110, 3, [1124], 0), (1017, .iconst 0, 1, [], 0), (1018, .ireturn, 1, [1], 0), (1019, .aload_n 1, 1, [], 0), (1020, .aload_n 0, 1, [], 0), (1021, .iload_n 3, 1, [], 0), (1022, .iconst 1, 1, [], 1), (1023, .iadd, 1, [], 0), (1024, .iaload, 1, [], 0), (1025, .invokevirtual 129, 3, [133, 2, 22], 0), (1028, .aload_n 2, 1, [], 0), (1029, .aload_n 0, 1, [], 0), (1030, .iload_n 3, 1, [], 0), (1031, .iconst 1, 1, [], 1), (1032, .iadd, 1, [], 0), (1033, .iaload, 1, [], 0), (1034, .invokevirtual 132, 3, [220, 2, 23], 0), (1037, .if_icmp .eq 87, 3, [1124], 0), (1040, .iconst 0, 1, [], 0), (1041, .ireturn, 1, [1], 0)]
def jt_Law_law_12 : List jv_E := [(1042, .aload_n 1, 1, [], 0), (1043, .aload_n 0, 1, [], 0), (1044, .iload_n 3, 1, [], 0), (1045, .iconst 1, 1, [], 1), (1046, .iadd, 1, [], 0), (1047, .iaload, 1, [], 0), (1048, .aload_n 0, 1, [], 0), (1049, .iload_n 3, 1, [], 0), (1050, .iconst 2, 1, [], 2), (1051, .iadd, 1, [], 0), (1052, .iaload, 1, [], 0), (1053, .invokevirtual 133, 3, [136, 3, 22], 0), (1056, .aload_n 2, 1, [], 0), (1057, .aload_n 0, 1, [], 0), (1058, .iload_n 3, 1, [], 0), (1059, .iconst 1, 1, [], 1), (1060, .iadd, 1, [], 0), (1061, .iaload, 1, [], 0), (1062, .aload_n 0, 1, [], 0), (1063, .iload_n 3, 1, [], 0), (1064, .iconst 2, 1, [], 2), (1065, .iadd, 1, [], 0), (1066, .iaload, 1, [], 0), (1067, .invokevirtual 136, 3, [221, 3, 23], 0), (1070, .if_icmp .eq 54, 3, [1124], 0), (1073, .iconst 0, 1, [], 0), (1074, .ireturn, 1, [1], 0), (1075, .aload_n 1, 1, [], 0), (1076, .invokevirtual 137, 3, [137, 1, 22], 0), (1079, .aload_n 2, 1, [], 0), (1080, .invokevirtual 140, 3, [222, 1, 23], 0), (1083, .if_icmp .eq 41, 3, [1124], 0), (1086, .iconst 0, 1, [], 0), (1087, .ireturn, 1, [1], 0), (1088, .aload_n 1, 1, [], 0), (1089, .invokevirtual 141, 3, [138, 1, 22], 0), (1092, .aload_n 2, 1, [], 0), (1093, .invokevirtual 144, 3, [223, 1, 23], 0), (1096, .if_icmp .eq 28, 3, [1124], 0), (1099, .iconst 0, 1, [], 0), (1100, .ireturn, 1, [1], 0), (1101, .aload_n 1, 1, [], 0), (1102, .aload_n 0, 1, [], 0), (1103, .iload_n 3, 1, [], 0), (1104, .iconst 1, 1, [], 1), (1105, .iadd, 1, [], 0), (1106, .iaload, 1, [], 0), (1107, .invokevirtual 145, 3, [139, 2, 22], 0), (1110, .aload_n 2, 1, [], 0), (1111, .aload_n 0, 1, [], 0), (1112, .iload_n 3, 1, [], 0), (1113, .iconst 1, 1, [], 1), (1114, .iadd, 1, [], 0), (1115, .iaload, 1, [], 0), (1116, .invokevirtual 148, 3, [224, 2, 23], 0), (1119, .if_icmp .eq 5, 3, [1124], 0), (1122, .iconst 0, 1, [], 0), (1123, .ireturn, 1, [1], 0), (1124, .iinc 3 6, 3, [], 0), (1127, .goto (-1109), 3, [18], 0)]
def jt_Law_law_13 : List jv_E := [(1130, .iconst 1, 1, [], 1), (1131, .ireturn, 1, [1], 0)]
def jt_Law_law : List jv_E := jt_Law_law_0 ++ (jt_Law_law_1 ++ (jt_Law_law_2 ++ (jt_Law_law_3 ++ (jt_Law_law_4 ++ (jt_Law_law_5 ++ (jt_Law_law_6 ++ (jt_Law_law_7 ++ (jt_Law_law_8 ++ (jt_Law_law_9 ++ (jt_Law_law_10 ++ (jt_Law_law_11 ++ (jt_Law_law_12 ++ (jt_Law_law_13)))))))))))))
abbrev kLaw_law : Nat := 225
def jv_Ta : List (List jv_E × Nat) := [(jt_X_init, 1), (jt_Sh_init, 1), (jt_Tx_init, 1), (jt_N_init, 1), (jt_Wy_init, 2), (jt_Wa_init, 3), (jt_Sl_init, 4), (jt_Sa_init, 3), (jt_Tr_init, 3), (jt_M_init, 4), (jt_B_init, 4), (jt_X_net, 6), (jt_Sh_isSheet, 2), (jt_Sh_isSort, 2), (jt_Sh_isOfAnother, 3), (jt_Sh_hasRow, 2), (jt_X_fail, 2), (jt_Sh_hasCells, 4), (jt_Tx_firstFault, 5), (jt_Tx_takes, 2), (jt_Tx_goesOn, 3), (jt_Tx_takesNodes, 2), (jt_Tx_takesFrom, 2), (jt_Tx_takesTo, 2), (jt_Tx_opensLane, 2), (jt_Tx_takesCells, 2), (jt_N_build, 3), (jt_N_measure, 4), (jt_N_collect, 4), (jt_Wy_unbarAll, 1), (jt_Ar_fill, 4), (jt_Wy_layAll, 3), (jt_Wy_ruled, 5), (jt_Wy_layLane, 3), (jt_Tr_clear, 1), (jt_X_ofLane, 3), (jt_N_isLane, 2), (jt_Tr_standsIn, 3), (jt_X_far, 3), (jt_N_areNodes, 3), (jt_N_isNode, 2), (jt_X_rule, 3), (jt_Wy_ruleBy, 2), (jt_X_bar, 5), (jt_Wy_isBarred, 3), (jt_X_has, 2), (jt_Wy_setBarred, 4), (jt_X_may, 3), (jt_X_out, 3), (jt_X_comes, 3), (jt_Wa_howItComes, 4), (jt_Wa_reach, 7), (jt_Wa_endsWell, 4), (jt_X_knot, 7), (jt_X_carries, 4), (jt_Wa_work, 2), (jt_Wa_survey, 6), (jt_Wa_findRing, 3), (jt_Wa_measureRing, 7), (jt_Wa_layRing, 5), (jt_Wa_findRanks, 4), (jt_X_waits, 2), (jt_X_ring, 2), (jt_X_rank, 2), (jt_X_still, 2), (jt_Sl_work, 2), (jt_Sl_findNeeds, 3), (jt_Sl_findAll, 4), (jt_Sl_canStand, 4), (jt_Sl_findLeast, 4), (jt_In_bitCount, 1), (jt_Sl_stands, 3), (jt_X_states, 2), (jt_Sa_fit, 2), (jt_Sa_work, 2), (jt_Sa_prepare, 4), (jt_Sa_reach, 4), (jt_Sa_visitAll, 4), (jt_In_numberOfTrailingZeros, 2), (jt_Sa_visit, 6), (jt_Sa_isDead, 5), (jt_Sa_setOut, 4), (jt_Sa_goOn, 7), (jt_X_send, 5), (jt_X_isKind, 1), (jt_Tr_choose, 4), (jt_Tr_hasRoom, 2), (jt_Tr_setOut, 6), (jt_Ld_init, 5), (jt_Tr_enter, 3), (jt_X_ticks, 4), (jt_Tr_tickOnce, 2), (jt_Tr_moveFirsts, 7), (jt_Tr_numbered, 2), (jt_Tr_moves, 6), (jt_X_ofLoad, 4), (jt_X_frozen, 1), (jt_Tr_frozenSet, 5), (jt_Tr_thaw, 6), (jt_Tr_isHeld, 5), (jt_In_lowestOneBit, 1), (jt_X_mend, 2), (jt_M_work, 3), (jt_Wy_takeFrom, 2), (jt_M_gather, 4), (jt_M_isFound, 6), (jt_M_setTried, 3), (jt_Wa_isSound, 2), (jt_X_bears, 3), (jt_B_work, 3), (jt_Ar_fillJ, 5), (jt_B_pour, 6), (jt_B_spread, 8), (jt_B_add, 15), (jt_B_commonDivisor, 11), (jt_B_ledToFrom, 5), (jt_X_busiest, 1), (jt_B_greatest, 9), (jt_X_sheet, 4), (jt_Sh_renew, 4), (jt_X_lose, 2), (jt_Sh_drop, 3), (jt_X_put, 4), (jt_Sh_hasCell, 3), (jt_Sh_cut, 3), (jt_X_cell, 4), (jt_X_lost, 2), (jt_X_copy, 6), (jt_X_tell, 3), (jt_X_sealedTelling, 3), (jt_X_leave, 2), (jt_X_hastyTelling, 2), (jt_X_plainTelling, 2), (jt_X_stamp, 3), (jt_X_ownStamp, 1), (jt_X_lentStamp, 2), (jt_X_as, 4), (jt_X_trace, 1), (jt_X_fault, 1), (jt_X_many, 2), (jt_Tr_countInLanes, 3), (jt_Wy_countBarred, 3), (jt_Y_init, 1), (jt_Y_net, 7), (jt_Y_isSheet, 1), (jt_Y_within, 3), (jt_Y_isSort, 1), (jt_Y_fails, 2), (jt_Y_readNet, 8), (jt_Y_digitAt, 3), (jt_Y_layFar, 6), (jt_Y_ofLane, 3), (jt_Y_isLane, 2), (jt_Y_far, 3), (jt_Y_isNode, 2), (jt_Y_rule, 3), (jt_Y_bar, 5), (jt_Y_may, 3), (jt_Y_takes, 7), (jt_Y_has, 2), (jt_Y_out, 3), (jt_Y_comes, 3), (jt_Y_comesBy, 7), (jt_Y_comesInto, 6), (jt_Y_goesRound, 6), (jt_Y_carries, 2), (jt_Y_layCarried, 5), (jt_Y_waits, 2), (jt_Y_layWaiting, 3), (jt_Y_ring, 2), (jt_Y_hasRing, 4), (jt_Y_findRing, 4), (jt_Y_isAhead, 4), (jt_Y_rank, 5), (jt_Y_still, 4), (jt_Y_allStill, 4), (jt_Y_standsStill, 4), (jt_Y_bitsOf, 3), (jt_Y_isStill, 3), (jt_Y_states, 5), (jt_Y_isSmall, 3), (jt_Y_enter, 3), (jt_Y_stepFrom, 6), (jt_Y_layContent, 4), (jt_Y_goOn, 6), (jt_Y_fives, 3), (jt_Y_isDead, 5), (jt_Y_send, 5), (jt_Y_laneFor, 4), (jt_Y_comesIn, 3), (jt_Y_ticks, 5), (jt_Y_pass, 5), (jt_Y_goFrom, 4), (jt_Y_leaves, 2), (jt_Y_ofLoad, 3), (jt_Y_isLoad, 2), (jt_Y_frozen, 7), (jt_Y_isHeld, 6), (jt_Y_mend, 4), (jt_Y_findMends, 4), (jt_Y_isMended, 1), (jt_Y_allCome, 3), (jt_Y_layTurns, 3), (jt_Y_barTurn, 2), (jt_Y_bears, 3), (jt_Y_layBears, 5), (jt_Y_clear, 4), (jt_Y_part, 8), (jt_Y_add, 15), (jt_Y_common, 10), (jt_Y_takeNext, 2), (jt_Y_busiest, 3), (jt_Y_sheet, 5), (jt_Y_lose, 3), (jt_Y_put, 4), (jt_Y_cell, 4), (jt_Y_lost, 2), (jt_Y_copy, 10), (jt_Y_tell, 3), (jt_Y_begins, 2), (jt_Y_stamp, 2), (jt_Y_as, 3), (jt_Y_trace, 1), (jt_Y_fault, 1), (jt_Y_many, 5), (jt_Law_law, 4)]
def jv_T (k : Nat) : List jv_E := (jv_Ta.getD k ([], 0)).1
def jv_ml (k : Nat) : Nat := (jv_Ta.getD k ([], 0)).2
/-- what each place is, behind both constructors: the script (n ints), the class's objects and rows, the reference's, l loads -/
def LLt : jv_L := [(21, 12, [2, 10, 14, 40, 60, 67, 80, 87, 101, 131, 0, 0]), (14, 3, [3, 8, 9]), (2, 4, [60]), (4, 60, [3, 0]), (4, 60, [3, 1]), (4, 60, [3, 2]), (4, 60, [3, 3]), (0, 4, []), (0, 4, []), (17, 6, [11, 12, 13, 0, 0, 0]), (0, 10, []), (0, 10, []), (0, 10, []), (13, 9, [0, 0, 15, 16, 17, 18, 25, 32, 39]), (0, 10, []), (0, 10, []), (0, 10, []), (2, 6, [6]), (4, 6, [18, 0]), (4, 6, [18, 1]), (4, 6, [18, 2]), (4, 6, [18, 3]), (4, 6, [18, 4]), (4, 6, [18, 5]), (2, 6, [6]), (4, 6, [25, 0]), (4, 6, [25, 1]), (4, 6, [25, 2]), (4, 6, [25, 3]), (4, 6, [25, 4]), (4, 6, [25, 5]), (2, 6, [6]), (4, 6, [32, 0]), (4, 6, [32, 1]), (4, 6, [32, 2]), (4, 6, [32, 3]), (4, 6, [32, 4]), (4, 6, [32, 5]), (0, 6, []), (20, 6, [14, 41, 42, 49, 0, 0]), (0, 10, []), (2, 6, [6]), (4, 6, [42, 0]), (4, 6, [42, 1]), (4, 6, [42, 2]), (4, 6, [42, 3]), (4, 6, [42, 4]), (4, 6, [42, 5]), (2, 10, [6]), (4, 6, [49, 0]), (4, 6, [49, 1]), (4, 6, [49, 2]), (4, 6, [49, 3]), (4, 6, [49, 4]), (4, 6, [49, 5]), (4, 6, [49, 6]), (4, 6, [49, 7]), (4, 6, [49, 8]), (4, 6, [49, 9]), (19, 11, [14, 40, 61, 62, 63, 64, 65, 66, 0, 0, 0]), (0, 6, []), (0, 10, []), (0, 10, []), (0, 10, []), (0, 10, []), (0, 10, []), (16, 8, [14, 40, 60, 68, 79, 0, 0, 0]), (2, 10, [6]), (4, 6, [68, 0]), (4, 6, [68, 1]), (4, 6, [68, 2]), (4, 6, [68, 3]), (4, 6, [68, 4]), (4, 6, [68, 5]), (4, 6, [68, 6]), (4, 6, [68, 7]), (4, 6, [68, 8]), (4, 6, [68, 9]), (0, 10, []), (15, 13, [14, 40, 81, 82, 83, 84, 85, 86, 0, 0, 0, 0, 0]), (0, 489, []), (0, 489, []), (0, 489, []), (0, 6, []), (0, 6, []), (0, 4, []), (18, 7, [14, 40, 88, 89, 100, 0, 0]), (3, 30, []), (2, 10, [2]), (4, 2, [89, 0]), (4, 2, [89, 1]), (4, 2, [89, 2]), (4, 2, [89, 3]), (4, 2, [89, 4]), (4, 2, [89, 5]), (4, 2, [89, 6]), (4, 2, [89, 7]), (4, 2, [89, 8]), (4, 2, [89, 9]), (0, 10, []), (12, 9, [14, 40, 60, 104, 124, 102, 103, 0, 0]), (0, 100, []), (0, 2, []), (20, 6, [14, 105, 106, 113, 0, 0]), (0, 10, []), (2, 6, [6]), (4, 6, [106, 0]), (4, 6, [106, 1]), (4, 6, [106, 2]), (4, 6, [106, 3]), (4, 6, [106, 4]), (4, 6, [106, 5]), (2, 10, [6]), (4, 6, [113, 0]), (4, 6, [113, 1]), (4, 6, [113, 2]), (4, 6, [113, 3]), (4, 6, [113, 4]), (4, 6, [113, 5]), (4, 6, [113, 6]), (4, 6, [113, 7]), (4, 6, [113, 8]), (4, 6, [113, 9]), (19, 11, [14, 104, 125, 126, 127, 128, 129, 130, 0, 0, 0]), (0, 6, []), (0, 10, []), (0, 10, []), (0, 10, []), (0, 10, []), (0, 10, []), (10, 8, [14, 40, 60, 132, 133, 134, 135, 0]), (1, 10, []), (1, 10, []), (1, 10, []), (1, 10, []), (22, 50, [0, 0, 137, 138, 139, 0, 0, 140, 141, 142, 143, 144, 0, 0, 0, 145, 146, 147, 148, 149, 150, 0, 151, 152, 153, 0, 154, 0, 155, 156, 157, 158, 159, 160, 161, 162, 163, 164, 0, 165, 166, 0, 0, 0, 167, 168, 169, 170, 171, 172]), (0, 4, []), (0, 4, []), (0, 240, []), (0, 10, []), (0, 10, []), (0, 10, []), (0, 10, []), (0, 36, []), (0, 10, []), (0, 10, []), (0, 10, []), (0, 10, []), (0, 10, []), (0, 10, []), (0, 10, []), (0, 15625, []), (0, 15625, []), (0, 6, []), (0, 30, []), (0, 30, []), (0, 30, []), (0, 30, []), (0, 30, []), (0, 30, []), (0, 30, []), (0, 10, []), (0, 20, []), (0, 10, []), (0, 100, []), (0, 100, []), (1, 11, []), (1, 11, []), (1, 11, []), (1, 11, []), (1, 11, []), (1, 11, [])]
def LL (n l : Nat) : jv_L := (5, n, []) :: (LLt ++ List.replicate l (11, 8, []))
theorem jg_nil : jv_GOk jv_T jv_ml [] := fun _ _ _ h => by cases h
end
section
-- ===== PART A: goes FIRST, ahead of the names: the tables' words, and 'selects' of the private methods out of them =====
/-- a private method of a class that the tables say can be made, by its rows of tables_1 -/
def lw_okq (q : MethodName × Nat) : Prop := (q.1.cls ≠ "java/lang/invoke/MethodHandle" ∧ q.1.cls ≠ "java/lang/invoke/VarHandle") ∧ Cond.instantiable q.1.cls q.2 ∈ tables_1 ∧ Cond.privateMethod q.1 ∈ tables_1 ∧ Cond.instanceMethod q.1 ∈ tables_1
theorem lw_p0 : lw_okq (⟨"LaneWaits", "fail", "(I)I"⟩, 12) := ⟨⟨by decide +kernel, by decide +kernel⟩, List.mem_of_getElem? (i := 19) (by decide +kernel), List.mem_of_getElem? (i := 482) (by decide +kernel), List.mem_of_getElem? (i := 483) (by decide +kernel)⟩
theorem lw_p1 : lw_okq (⟨"LaneWaits$Text", "takes", "(I)Z"⟩, 6) := ⟨⟨by decide +kernel, by decide +kernel⟩, List.mem_of_getElem? (i := 48) (by decide +kernel), List.mem_of_getElem? (i := 495) (by decide +kernel), List.mem_of_getElem? (i := 496) (by decide +kernel)⟩
theorem lw_p2 : lw_okq (⟨"LaneWaits$Text", "goesOn", "(ZI)Z"⟩, 6) := ⟨⟨by decide +kernel, by decide +kernel⟩, List.mem_of_getElem? (i := 48) (by decide +kernel), List.mem_of_getElem? (i := 499) (by decide +kernel), List.mem_of_getElem? (i := 500) (by decide +kernel)⟩
theorem lw_p3 : lw_okq (⟨"LaneWaits$Text", "takesNodes", "(I)Z"⟩, 6) := ⟨⟨by decide +kernel, by decide +kernel⟩, List.mem_of_getElem? (i := 48) (by decide +kernel), List.mem_of_getElem? (i := 503) (by decide +kernel), List.mem_of_getElem? (i := 504) (by decide +kernel)⟩
theorem lw_p4 : lw_okq (⟨"LaneWaits$Text", "takesFrom", "(I)Z"⟩, 6) := ⟨⟨by decide +kernel, by decide +kernel⟩, List.mem_of_getElem? (i := 48) (by decide +kernel), List.mem_of_getElem? (i := 507) (by decide +kernel), List.mem_of_getElem? (i := 508) (by decide +kernel)⟩
theorem lw_p5 : lw_okq (⟨"LaneWaits$Text", "takesTo", "(I)Z"⟩, 6) := ⟨⟨by decide +kernel, by decide +kernel⟩, List.mem_of_getElem? (i := 48) (by decide +kernel), List.mem_of_getElem? (i := 511) (by decide +kernel), List.mem_of_getElem? (i := 512) (by decide +kernel)⟩
theorem lw_p6 : lw_okq (⟨"LaneWaits$Text", "opensLane", "(I)Z"⟩, 6) := ⟨⟨by decide +kernel, by decide +kernel⟩, List.mem_of_getElem? (i := 48) (by decide +kernel), List.mem_of_getElem? (i := 515) (by decide +kernel), List.mem_of_getElem? (i := 516) (by decide +kernel)⟩
theorem lw_p7 : lw_okq (⟨"LaneWaits$Text", "takesCells", "(I)Z"⟩, 6) := ⟨⟨by decide +kernel, by decide +kernel⟩, List.mem_of_getElem? (i := 48) (by decide +kernel), List.mem_of_getElem? (i := 519) (by decide +kernel), List.mem_of_getElem? (i := 520) (by decide +kernel)⟩
theorem lw_p8 : lw_okq (⟨"LaneWaits$Net", "measure", "(I)V"⟩, 9) := ⟨⟨by decide +kernel, by decide +kernel⟩, List.mem_of_getElem? (i := 78) (by decide +kernel), List.mem_of_getElem? (i := 530) (by decide +kernel), List.mem_of_getElem? (i := 531) (by decide +kernel)⟩
theorem lw_p9 : lw_okq (⟨"LaneWaits$Net", "collect", "(I)V"⟩, 9) := ⟨⟨by decide +kernel, by decide +kernel⟩, List.mem_of_getElem? (i := 78) (by decide +kernel), List.mem_of_getElem? (i := 534) (by decide +kernel), List.mem_of_getElem? (i := 535) (by decide +kernel)⟩
theorem lw_p10 : lw_okq (⟨"LaneWaits$Ways", "layAll", "()V"⟩, 6) := ⟨⟨by decide +kernel, by decide +kernel⟩, List.mem_of_getElem? (i := 141) (by decide +kernel), List.mem_of_getElem? (i := 545) (by decide +kernel), List.mem_of_getElem? (i := 546) (by decide +kernel)⟩
theorem lw_p11 : lw_okq (⟨"LaneWaits$Ways", "ruled", "(III)I"⟩, 6) := ⟨⟨by decide +kernel, by decide +kernel⟩, List.mem_of_getElem? (i := 141) (by decide +kernel), List.mem_of_getElem? (i := 549) (by decide +kernel), List.mem_of_getElem? (i := 550) (by decide +kernel)⟩
theorem lw_p12 : lw_okq (⟨"LaneWaits$Ways", "layLane", "(I)V"⟩, 6) := ⟨⟨by decide +kernel, by decide +kernel⟩, List.mem_of_getElem? (i := 141) (by decide +kernel), List.mem_of_getElem? (i := 553) (by decide +kernel), List.mem_of_getElem? (i := 554) (by decide +kernel)⟩
theorem lw_p13 : lw_okq (⟨"LaneWaits$Waits", "reach", "(II)I"⟩, 11) := ⟨⟨by decide +kernel, by decide +kernel⟩, List.mem_of_getElem? (i := 183) (by decide +kernel), List.mem_of_getElem? (i := 626) (by decide +kernel), List.mem_of_getElem? (i := 627) (by decide +kernel)⟩
theorem lw_p14 : lw_okq (⟨"LaneWaits$Waits", "endsWell", "(II)Z"⟩, 11) := ⟨⟨by decide +kernel, by decide +kernel⟩, List.mem_of_getElem? (i := 183) (by decide +kernel), List.mem_of_getElem? (i := 631) (by decide +kernel), List.mem_of_getElem? (i := 632) (by decide +kernel)⟩
theorem lw_p15 : lw_okq (⟨"LaneWaits$Waits", "survey", "(I)Z"⟩, 11) := ⟨⟨by decide +kernel, by decide +kernel⟩, List.mem_of_getElem? (i := 183) (by decide +kernel), List.mem_of_getElem? (i := 647) (by decide +kernel), List.mem_of_getElem? (i := 648) (by decide +kernel)⟩
def lw_privs_1 : List (MethodName × Nat) := [(⟨"LaneWaits", "fail", "(I)I"⟩, 12), (⟨"LaneWaits$Text", "takes", "(I)Z"⟩, 6), (⟨"LaneWaits$Text", "goesOn", "(ZI)Z"⟩, 6), (⟨"LaneWaits$Text", "takesNodes", "(I)Z"⟩, 6), (⟨"LaneWaits$Text", "takesFrom", "(I)Z"⟩, 6), (⟨"LaneWaits$Text", "takesTo", "(I)Z"⟩, 6), (⟨"LaneWaits$Text", "opensLane", "(I)Z"⟩, 6), (⟨"LaneWaits$Text", "takesCells", "(I)Z"⟩, 6), (⟨"LaneWaits$Net", "measure", "(I)V"⟩, 9), (⟨"LaneWaits$Net", "collect", "(I)V"⟩, 9), (⟨"LaneWaits$Ways", "layAll", "()V"⟩, 6), (⟨"LaneWaits$Ways", "ruled", "(III)I"⟩, 6), (⟨"LaneWaits$Ways", "layLane", "(I)V"⟩, 6), (⟨"LaneWaits$Waits", "reach", "(II)I"⟩, 11), (⟨"LaneWaits$Waits", "endsWell", "(II)Z"⟩, 11), (⟨"LaneWaits$Waits", "survey", "(I)Z"⟩, 11)]
theorem lw_r1 : ∀ q ∈ lw_privs_1, lw_okq q := List.forall_mem_cons.mpr ⟨lw_p0, List.forall_mem_cons.mpr ⟨lw_p1, List.forall_mem_cons.mpr ⟨lw_p2, List.forall_mem_cons.mpr ⟨lw_p3, List.forall_mem_cons.mpr ⟨lw_p4, List.forall_mem_cons.mpr ⟨lw_p5, List.forall_mem_cons.mpr ⟨lw_p6, List.forall_mem_cons.mpr ⟨lw_p7, List.forall_mem_cons.mpr ⟨lw_p8, List.forall_mem_cons.mpr ⟨lw_p9, List.forall_mem_cons.mpr ⟨lw_p10, List.forall_mem_cons.mpr ⟨lw_p11, List.forall_mem_cons.mpr ⟨lw_p12, List.forall_mem_cons.mpr ⟨lw_p13, List.forall_mem_cons.mpr ⟨lw_p14, List.forall_mem_cons.mpr ⟨lw_p15, fun _ h => absurd h List.not_mem_nil⟩⟩⟩⟩⟩⟩⟩⟩⟩⟩⟩⟩⟩⟩⟩⟩
theorem lw_p16 : lw_okq (⟨"LaneWaits$Waits", "findRing", "()V"⟩, 11) := ⟨⟨by decide +kernel, by decide +kernel⟩, List.mem_of_getElem? (i := 183) (by decide +kernel), List.mem_of_getElem? (i := 651) (by decide +kernel), List.mem_of_getElem? (i := 652) (by decide +kernel)⟩
theorem lw_p17 : lw_okq (⟨"LaneWaits$Waits", "measureRing", "(I)I"⟩, 11) := ⟨⟨by decide +kernel, by decide +kernel⟩, List.mem_of_getElem? (i := 183) (by decide +kernel), List.mem_of_getElem? (i := 655) (by decide +kernel), List.mem_of_getElem? (i := 656) (by decide +kernel)⟩
theorem lw_p18 : lw_okq (⟨"LaneWaits$Waits", "layRing", "(I)V"⟩, 11) := ⟨⟨by decide +kernel, by decide +kernel⟩, List.mem_of_getElem? (i := 183) (by decide +kernel), List.mem_of_getElem? (i := 659) (by decide +kernel), List.mem_of_getElem? (i := 660) (by decide +kernel)⟩
theorem lw_p19 : lw_okq (⟨"LaneWaits$Waits", "findRanks", "()V"⟩, 11) := ⟨⟨by decide +kernel, by decide +kernel⟩, List.mem_of_getElem? (i := 183) (by decide +kernel), List.mem_of_getElem? (i := 663) (by decide +kernel), List.mem_of_getElem? (i := 664) (by decide +kernel)⟩
theorem lw_p20 : lw_okq (⟨"LaneWaits$Stills", "findNeeds", "(I)V"⟩, 8) := ⟨⟨by decide +kernel, by decide +kernel⟩, List.mem_of_getElem? (i := 234) (by decide +kernel), List.mem_of_getElem? (i := 692) (by decide +kernel), List.mem_of_getElem? (i := 693) (by decide +kernel)⟩
theorem lw_p21 : lw_okq (⟨"LaneWaits$Stills", "findAll", "()V"⟩, 8) := ⟨⟨by decide +kernel, by decide +kernel⟩, List.mem_of_getElem? (i := 234) (by decide +kernel), List.mem_of_getElem? (i := 697) (by decide +kernel), List.mem_of_getElem? (i := 698) (by decide +kernel)⟩
theorem lw_p22 : lw_okq (⟨"LaneWaits$Stills", "canStand", "(II)Z"⟩, 8) := ⟨⟨by decide +kernel, by decide +kernel⟩, List.mem_of_getElem? (i := 234) (by decide +kernel), List.mem_of_getElem? (i := 701) (by decide +kernel), List.mem_of_getElem? (i := 702) (by decide +kernel)⟩
theorem lw_p23 : lw_okq (⟨"LaneWaits$Stills", "findLeast", "()V"⟩, 8) := ⟨⟨by decide +kernel, by decide +kernel⟩, List.mem_of_getElem? (i := 234) (by decide +kernel), List.mem_of_getElem? (i := 705) (by decide +kernel), List.mem_of_getElem? (i := 706) (by decide +kernel)⟩
theorem lw_p24 : lw_okq (⟨"LaneWaits$Stills", "stands", "(I)Z"⟩, 8) := ⟨⟨by decide +kernel, by decide +kernel⟩, List.mem_of_getElem? (i := 234) (by decide +kernel), List.mem_of_getElem? (i := 715) (by decide +kernel), List.mem_of_getElem? (i := 716) (by decide +kernel)⟩
theorem lw_p25 : lw_okq (⟨"LaneWaits$States", "prepare", "()V"⟩, 13) := ⟨⟨by decide +kernel, by decide +kernel⟩, List.mem_of_getElem? (i := 268) (by decide +kernel), List.mem_of_getElem? (i := 731) (by decide +kernel), List.mem_of_getElem? (i := 732) (by decide +kernel)⟩
theorem lw_p26 : lw_okq (⟨"LaneWaits$States", "reach", "(I)V"⟩, 13) := ⟨⟨by decide +kernel, by decide +kernel⟩, List.mem_of_getElem? (i := 268) (by decide +kernel), List.mem_of_getElem? (i := 736) (by decide +kernel), List.mem_of_getElem? (i := 737) (by decide +kernel)⟩
theorem lw_p27 : lw_okq (⟨"LaneWaits$States", "visitAll", "(I)V"⟩, 13) := ⟨⟨by decide +kernel, by decide +kernel⟩, List.mem_of_getElem? (i := 268) (by decide +kernel), List.mem_of_getElem? (i := 741) (by decide +kernel), List.mem_of_getElem? (i := 742) (by decide +kernel)⟩
theorem lw_p28 : lw_okq (⟨"LaneWaits$States", "visit", "(II)V"⟩, 13) := ⟨⟨by decide +kernel, by decide +kernel⟩, List.mem_of_getElem? (i := 268) (by decide +kernel), List.mem_of_getElem? (i := 749) (by decide +kernel), List.mem_of_getElem? (i := 750) (by decide +kernel)⟩
theorem lw_p29 : lw_okq (⟨"LaneWaits$States", "isDead", "()Z"⟩, 13) := ⟨⟨by decide +kernel, by decide +kernel⟩, List.mem_of_getElem? (i := 268) (by decide +kernel), List.mem_of_getElem? (i := 753) (by decide +kernel), List.mem_of_getElem? (i := 754) (by decide +kernel)⟩
theorem lw_p30 : lw_okq (⟨"LaneWaits$States", "setOut", "(II)V"⟩, 13) := ⟨⟨by decide +kernel, by decide +kernel⟩, List.mem_of_getElem? (i := 268) (by decide +kernel), List.mem_of_getElem? (i := 758) (by decide +kernel), List.mem_of_getElem? (i := 759) (by decide +kernel)⟩
theorem lw_p31 : lw_okq (⟨"LaneWaits$States", "goOn", "(III)V"⟩, 13) := ⟨⟨by decide +kernel, by decide +kernel⟩, List.mem_of_getElem? (i := 268) (by decide +kernel), List.mem_of_getElem? (i := 762) (by decide +kernel), List.mem_of_getElem? (i := 763) (by decide +kernel)⟩
def lw_privs_2 : List (MethodName × Nat) := [(⟨"LaneWaits$Waits", "findRing", "()V"⟩, 11), (⟨"LaneWaits$Waits", "measureRing", "(I)I"⟩, 11), (⟨"LaneWaits$Waits", "layRing", "(I)V"⟩, 11), (⟨"LaneWaits$Waits", "findRanks", "()V"⟩, 11), (⟨"LaneWaits$Stills", "findNeeds", "(I)V"⟩, 8), (⟨"LaneWaits$Stills", "findAll", "()V"⟩, 8), (⟨"LaneWaits$Stills", "canStand", "(II)Z"⟩, 8), (⟨"LaneWaits$Stills", "findLeast", "()V"⟩, 8), (⟨"LaneWaits$Stills", "stands", "(I)Z"⟩, 8), (⟨"LaneWaits$States", "prepare", "()V"⟩, 13), (⟨"LaneWaits$States", "reach", "(I)V"⟩, 13), (⟨"LaneWaits$States", "visitAll", "(I)V"⟩, 13), (⟨"LaneWaits$States", "visit", "(II)V"⟩, 13), (⟨"LaneWaits$States", "isDead", "()Z"⟩, 13), (⟨"LaneWaits$States", "setOut", "(II)V"⟩, 13), (⟨"LaneWaits$States", "goOn", "(III)V"⟩, 13)]
theorem lw_r2 : ∀ q ∈ lw_privs_2, lw_okq q := List.forall_mem_cons.mpr ⟨lw_p16, List.forall_mem_cons.mpr ⟨lw_p17, List.forall_mem_cons.mpr ⟨lw_p18, List.forall_mem_cons.mpr ⟨lw_p19, List.forall_mem_cons.mpr ⟨lw_p20, List.forall_mem_cons.mpr ⟨lw_p21, List.forall_mem_cons.mpr ⟨lw_p22, List.forall_mem_cons.mpr ⟨lw_p23, List.forall_mem_cons.mpr ⟨lw_p24, List.forall_mem_cons.mpr ⟨lw_p25, List.forall_mem_cons.mpr ⟨lw_p26, List.forall_mem_cons.mpr ⟨lw_p27, List.forall_mem_cons.mpr ⟨lw_p28, List.forall_mem_cons.mpr ⟨lw_p29, List.forall_mem_cons.mpr ⟨lw_p30, List.forall_mem_cons.mpr ⟨lw_p31, fun _ h => absurd h List.not_mem_nil⟩⟩⟩⟩⟩⟩⟩⟩⟩⟩⟩⟩⟩⟩⟩⟩
theorem lw_p32 : lw_okq (⟨"LaneWaits$Traffic", "hasRoom", "(I)Z"⟩, 7) := ⟨⟨by decide +kernel, by decide +kernel⟩, List.mem_of_getElem? (i := 317) (by decide +kernel), List.mem_of_getElem? (i := 778) (by decide +kernel), List.mem_of_getElem? (i := 779) (by decide +kernel)⟩
theorem lw_p33 : lw_okq (⟨"LaneWaits$Traffic", "enter", "(LLaneWaits$Load;I)V"⟩, 7) := ⟨⟨by decide +kernel, by decide +kernel⟩, List.mem_of_getElem? (i := 317) (by decide +kernel), List.mem_of_getElem? (i := 829) (by decide +kernel), List.mem_of_getElem? (i := 830) (by decide +kernel)⟩
theorem lw_p34 : lw_okq (⟨"LaneWaits$Traffic", "moveFirsts", "(ZI)I"⟩, 7) := ⟨⟨by decide +kernel, by decide +kernel⟩, List.mem_of_getElem? (i := 317) (by decide +kernel), List.mem_of_getElem? (i := 841) (by decide +kernel), List.mem_of_getElem? (i := 842) (by decide +kernel)⟩
theorem lw_p35 : lw_okq (⟨"LaneWaits$Traffic", "moves", "(LLaneWaits$Load;)Z"⟩, 7) := ⟨⟨by decide +kernel, by decide +kernel⟩, List.mem_of_getElem? (i := 317) (by decide +kernel), List.mem_of_getElem? (i := 850) (by decide +kernel), List.mem_of_getElem? (i := 851) (by decide +kernel)⟩
theorem lw_p36 : lw_okq (⟨"LaneWaits$Traffic", "thaw", "(II)I"⟩, 7) := ⟨⟨by decide +kernel, by decide +kernel⟩, List.mem_of_getElem? (i := 317) (by decide +kernel), List.mem_of_getElem? (i := 869) (by decide +kernel), List.mem_of_getElem? (i := 870) (by decide +kernel)⟩
theorem lw_p37 : lw_okq (⟨"LaneWaits$Traffic", "isHeld", "(LLaneWaits$Load;I)Z"⟩, 7) := ⟨⟨by decide +kernel, by decide +kernel⟩, List.mem_of_getElem? (i := 317) (by decide +kernel), List.mem_of_getElem? (i := 873) (by decide +kernel), List.mem_of_getElem? (i := 874) (by decide +kernel)⟩
theorem lw_p38 : lw_okq (⟨"LaneWaits$Mends", "gather", "()I"⟩, 9) := ⟨⟨by decide +kernel, by decide +kernel⟩, List.mem_of_getElem? (i := 351) (by decide +kernel), List.mem_of_getElem? (i := 895) (by decide +kernel), List.mem_of_getElem? (i := 896) (by decide +kernel)⟩
theorem lw_p39 : lw_okq (⟨"LaneWaits$Mends", "isFound", "(II)Z"⟩, 9) := ⟨⟨by decide +kernel, by decide +kernel⟩, List.mem_of_getElem? (i := 351) (by decide +kernel), List.mem_of_getElem? (i := 900) (by decide +kernel), List.mem_of_getElem? (i := 901) (by decide +kernel)⟩
theorem lw_p40 : lw_okq (⟨"LaneWaits$Mends", "setTried", "(IZ)V"⟩, 9) := ⟨⟨by decide +kernel, by decide +kernel⟩, List.mem_of_getElem? (i := 351) (by decide +kernel), List.mem_of_getElem? (i := 904) (by decide +kernel), List.mem_of_getElem? (i := 905) (by decide +kernel)⟩
theorem lw_p41 : lw_okq (⟨"LaneWaits$Bears", "pour", "(I)V"⟩, 8) := ⟨⟨by decide +kernel, by decide +kernel⟩, List.mem_of_getElem? (i := 391) (by decide +kernel), List.mem_of_getElem? (i := 925) (by decide +kernel), List.mem_of_getElem? (i := 926) (by decide +kernel)⟩
theorem lw_p42 : lw_okq (⟨"LaneWaits$Bears", "spread", "(IJJ)V"⟩, 8) := ⟨⟨by decide +kernel, by decide +kernel⟩, List.mem_of_getElem? (i := 391) (by decide +kernel), List.mem_of_getElem? (i := 929) (by decide +kernel), List.mem_of_getElem? (i := 930) (by decide +kernel)⟩
theorem lw_p43 : lw_okq (⟨"LaneWaits$Bears", "ledToFrom", "(II)I"⟩, 8) := ⟨⟨by decide +kernel, by decide +kernel⟩, List.mem_of_getElem? (i := 391) (by decide +kernel), List.mem_of_getElem? (i := 947) (by decide +kernel), List.mem_of_getElem? (i := 948) (by decide +kernel)⟩
theorem lw_p44 : lw_okq (⟨"LaneWaits", "lost", "(I)J"⟩, 12) := ⟨⟨by decide +kernel, by decide +kernel⟩, List.mem_of_getElem? (i := 19) (by decide +kernel), List.mem_of_getElem? (i := 992) (by decide +kernel), List.mem_of_getElem? (i := 993) (by decide +kernel)⟩
theorem lw_p45 : lw_okq (⟨"LaneWaits", "sealedTelling", "(LLaneWaits$Load;)I"⟩, 12) := ⟨⟨by decide +kernel, by decide +kernel⟩, List.mem_of_getElem? (i := 19) (by decide +kernel), List.mem_of_getElem? (i := 1005) (by decide +kernel), List.mem_of_getElem? (i := 1006) (by decide +kernel)⟩
theorem lw_p46 : lw_okq (⟨"LaneWaits", "leave", "(I)V"⟩, 12) := ⟨⟨by decide +kernel, by decide +kernel⟩, List.mem_of_getElem? (i := 19) (by decide +kernel), List.mem_of_getElem? (i := 1009) (by decide +kernel), List.mem_of_getElem? (i := 1010) (by decide +kernel)⟩
theorem lw_p47 : lw_okq (⟨"LaneWaits", "hastyTelling", "(LLaneWaits$Load;)I"⟩, 12) := ⟨⟨by decide +kernel, by decide +kernel⟩, List.mem_of_getElem? (i := 19) (by decide +kernel), List.mem_of_getElem? (i := 1013) (by decide +kernel), List.mem_of_getElem? (i := 1014) (by decide +kernel)⟩
def lw_privs_3 : List (MethodName × Nat) := [(⟨"LaneWaits$Traffic", "hasRoom", "(I)Z"⟩, 7), (⟨"LaneWaits$Traffic", "enter", "(LLaneWaits$Load;I)V"⟩, 7), (⟨"LaneWaits$Traffic", "moveFirsts", "(ZI)I"⟩, 7), (⟨"LaneWaits$Traffic", "moves", "(LLaneWaits$Load;)Z"⟩, 7), (⟨"LaneWaits$Traffic", "thaw", "(II)I"⟩, 7), (⟨"LaneWaits$Traffic", "isHeld", "(LLaneWaits$Load;I)Z"⟩, 7), (⟨"LaneWaits$Mends", "gather", "()I"⟩, 9), (⟨"LaneWaits$Mends", "isFound", "(II)Z"⟩, 9), (⟨"LaneWaits$Mends", "setTried", "(IZ)V"⟩, 9), (⟨"LaneWaits$Bears", "pour", "(I)V"⟩, 8), (⟨"LaneWaits$Bears", "spread", "(IJJ)V"⟩, 8), (⟨"LaneWaits$Bears", "ledToFrom", "(II)I"⟩, 8), (⟨"LaneWaits", "lost", "(I)J"⟩, 12), (⟨"LaneWaits", "sealedTelling", "(LLaneWaits$Load;)I"⟩, 12), (⟨"LaneWaits", "leave", "(I)V"⟩, 12), (⟨"LaneWaits", "hastyTelling", "(LLaneWaits$Load;)I"⟩, 12)]
theorem lw_r3 : ∀ q ∈ lw_privs_3, lw_okq q := List.forall_mem_cons.mpr ⟨lw_p32, List.forall_mem_cons.mpr ⟨lw_p33, List.forall_mem_cons.mpr ⟨lw_p34, List.forall_mem_cons.mpr ⟨lw_p35, List.forall_mem_cons.mpr ⟨lw_p36, List.forall_mem_cons.mpr ⟨lw_p37, List.forall_mem_cons.mpr ⟨lw_p38, List.forall_mem_cons.mpr ⟨lw_p39, List.forall_mem_cons.mpr ⟨lw_p40, List.forall_mem_cons.mpr ⟨lw_p41, List.forall_mem_cons.mpr ⟨lw_p42, List.forall_mem_cons.mpr ⟨lw_p43, List.forall_mem_cons.mpr ⟨lw_p44, List.forall_mem_cons.mpr ⟨lw_p45, List.forall_mem_cons.mpr ⟨lw_p46, List.forall_mem_cons.mpr ⟨lw_p47, fun _ h => absurd h List.not_mem_nil⟩⟩⟩⟩⟩⟩⟩⟩⟩⟩⟩⟩⟩⟩⟩⟩
theorem lw_p48 : lw_okq (⟨"LaneWaits", "plainTelling", "(LLaneWaits$Load;)I"⟩, 12) := ⟨⟨by decide +kernel, by decide +kernel⟩, List.mem_of_getElem? (i := 19) (by decide +kernel), List.mem_of_getElem? (i := 1017) (by decide +kernel), List.mem_of_getElem? (i := 1018) (by decide +kernel)⟩
theorem lw_p49 : lw_okq (⟨"LaneWaits", "ownStamp", "()I"⟩, 12) := ⟨⟨by decide +kernel, by decide +kernel⟩, List.mem_of_getElem? (i := 19) (by decide +kernel), List.mem_of_getElem? (i := 1025) (by decide +kernel), List.mem_of_getElem? (i := 1026) (by decide +kernel)⟩
theorem lw_p50 : lw_okq (⟨"LaneWaits", "lentStamp", "(LLaneWaits$Load;)I"⟩, 12) := ⟨⟨by decide +kernel, by decide +kernel⟩, List.mem_of_getElem? (i := 19) (by decide +kernel), List.mem_of_getElem? (i := 1029) (by decide +kernel), List.mem_of_getElem? (i := 1030) (by decide +kernel)⟩
theorem lw_p51 : lw_okq (⟨"LaneWaitsModel", "fails", "(I)I"⟩, 50) := ⟨⟨by decide +kernel, by decide +kernel⟩, List.mem_of_getElem? (i := 1058) (by decide +kernel), List.mem_of_getElem? (i := 1228) (by decide +kernel), List.mem_of_getElem? (i := 1229) (by decide +kernel)⟩
theorem lw_p52 : lw_okq (⟨"LaneWaitsModel", "readNet", "(II)I"⟩, 50) := ⟨⟨by decide +kernel, by decide +kernel⟩, List.mem_of_getElem? (i := 1058) (by decide +kernel), List.mem_of_getElem? (i := 1232) (by decide +kernel), List.mem_of_getElem? (i := 1233) (by decide +kernel)⟩
theorem lw_p53 : lw_okq (⟨"LaneWaitsModel", "digitAt", "(II)I"⟩, 50) := ⟨⟨by decide +kernel, by decide +kernel⟩, List.mem_of_getElem? (i := 1058) (by decide +kernel), List.mem_of_getElem? (i := 1236) (by decide +kernel), List.mem_of_getElem? (i := 1237) (by decide +kernel)⟩
theorem lw_p54 : lw_okq (⟨"LaneWaitsModel", "layFar", "()V"⟩, 50) := ⟨⟨by decide +kernel, by decide +kernel⟩, List.mem_of_getElem? (i := 1058) (by decide +kernel), List.mem_of_getElem? (i := 1240) (by decide +kernel), List.mem_of_getElem? (i := 1241) (by decide +kernel)⟩
theorem lw_p55 : lw_okq (⟨"LaneWaitsModel", "isLane", "(I)Z"⟩, 50) := ⟨⟨by decide +kernel, by decide +kernel⟩, List.mem_of_getElem? (i := 1058) (by decide +kernel), List.mem_of_getElem? (i := 1248) (by decide +kernel), List.mem_of_getElem? (i := 1249) (by decide +kernel)⟩
theorem lw_p56 : lw_okq (⟨"LaneWaitsModel", "isNode", "(I)Z"⟩, 50) := ⟨⟨by decide +kernel, by decide +kernel⟩, List.mem_of_getElem? (i := 1058) (by decide +kernel), List.mem_of_getElem? (i := 1256) (by decide +kernel), List.mem_of_getElem? (i := 1257) (by decide +kernel)⟩
theorem lw_p57 : lw_okq (⟨"LaneWaitsModel", "takes", "(II)I"⟩, 50) := ⟨⟨by decide +kernel, by decide +kernel⟩, List.mem_of_getElem? (i := 1058) (by decide +kernel), List.mem_of_getElem? (i := 1272) (by decide +kernel), List.mem_of_getElem? (i := 1273) (by decide +kernel)⟩
theorem lw_p58 : lw_okq (⟨"LaneWaitsModel", "comesBy", "(II)I"⟩, 50) := ⟨⟨by decide +kernel, by decide +kernel⟩, List.mem_of_getElem? (i := 1058) (by decide +kernel), List.mem_of_getElem? (i := 1287) (by decide +kernel), List.mem_of_getElem? (i := 1288) (by decide +kernel)⟩
theorem lw_p59 : lw_okq (⟨"LaneWaitsModel", "comesInto", "(II)I"⟩, 50) := ⟨⟨by decide +kernel, by decide +kernel⟩, List.mem_of_getElem? (i := 1058) (by decide +kernel), List.mem_of_getElem? (i := 1291) (by decide +kernel), List.mem_of_getElem? (i := 1292) (by decide +kernel)⟩
theorem lw_p60 : lw_okq (⟨"LaneWaitsModel", "goesRound", "(II)Z"⟩, 50) := ⟨⟨by decide +kernel, by decide +kernel⟩, List.mem_of_getElem? (i := 1058) (by decide +kernel), List.mem_of_getElem? (i := 1295) (by decide +kernel), List.mem_of_getElem? (i := 1296) (by decide +kernel)⟩
theorem lw_p61 : lw_okq (⟨"LaneWaitsModel", "layCarried", "()V"⟩, 50) := ⟨⟨by decide +kernel, by decide +kernel⟩, List.mem_of_getElem? (i := 1058) (by decide +kernel), List.mem_of_getElem? (i := 1303) (by decide +kernel), List.mem_of_getElem? (i := 1304) (by decide +kernel)⟩
theorem lw_p62 : lw_okq (⟨"LaneWaitsModel", "layWaiting", "()V"⟩, 50) := ⟨⟨by decide +kernel, by decide +kernel⟩, List.mem_of_getElem? (i := 1058) (by decide +kernel), List.mem_of_getElem? (i := 1311) (by decide +kernel), List.mem_of_getElem? (i := 1312) (by decide +kernel)⟩
theorem lw_p63 : lw_okq (⟨"LaneWaitsModel", "hasRing", "()Z"⟩, 50) := ⟨⟨by decide +kernel, by decide +kernel⟩, List.mem_of_getElem? (i := 1058) (by decide +kernel), List.mem_of_getElem? (i := 1319) (by decide +kernel), List.mem_of_getElem? (i := 1320) (by decide +kernel)⟩
def lw_privs_4 : List (MethodName × Nat) := [(⟨"LaneWaits", "plainTelling", "(LLaneWaits$Load;)I"⟩, 12), (⟨"LaneWaits", "ownStamp", "()I"⟩, 12), (⟨"LaneWaits", "lentStamp", "(LLaneWaits$Load;)I"⟩, 12), (⟨"LaneWaitsModel", "fails", "(I)I"⟩, 50), (⟨"LaneWaitsModel", "readNet", "(II)I"⟩, 50), (⟨"LaneWaitsModel", "digitAt", "(II)I"⟩, 50), (⟨"LaneWaitsModel", "layFar", "()V"⟩, 50), (⟨"LaneWaitsModel", "isLane", "(I)Z"⟩, 50), (⟨"LaneWaitsModel", "isNode", "(I)Z"⟩, 50), (⟨"LaneWaitsModel", "takes", "(II)I"⟩, 50), (⟨"LaneWaitsModel", "comesBy", "(II)I"⟩, 50), (⟨"LaneWaitsModel", "comesInto", "(II)I"⟩, 50), (⟨"LaneWaitsModel", "goesRound", "(II)Z"⟩, 50), (⟨"LaneWaitsModel", "layCarried", "()V"⟩, 50), (⟨"LaneWaitsModel", "layWaiting", "()V"⟩, 50), (⟨"LaneWaitsModel", "hasRing", "()Z"⟩, 50)]
theorem lw_r4 : ∀ q ∈ lw_privs_4, lw_okq q := List.forall_mem_cons.mpr ⟨lw_p48, List.forall_mem_cons.mpr ⟨lw_p49, List.forall_mem_cons.mpr ⟨lw_p50, List.forall_mem_cons.mpr ⟨lw_p51, List.forall_mem_cons.mpr ⟨lw_p52, List.forall_mem_cons.mpr ⟨lw_p53, List.forall_mem_cons.mpr ⟨lw_p54, List.forall_mem_cons.mpr ⟨lw_p55, List.forall_mem_cons.mpr ⟨lw_p56, List.forall_mem_cons.mpr ⟨lw_p57, List.forall_mem_cons.mpr ⟨lw_p58, List.forall_mem_cons.mpr ⟨lw_p59, List.forall_mem_cons.mpr ⟨lw_p60, List.forall_mem_cons.mpr ⟨lw_p61, List.forall_mem_cons.mpr ⟨lw_p62, List.forall_mem_cons.mpr ⟨lw_p63, fun _ h => absurd h List.not_mem_nil⟩⟩⟩⟩⟩⟩⟩⟩⟩⟩⟩⟩⟩⟩⟩⟩
theorem lw_p64 : lw_okq (⟨"LaneWaitsModel", "findRing", "(I)Z"⟩, 50) := ⟨⟨by decide +kernel, by decide +kernel⟩, List.mem_of_getElem? (i := 1058) (by decide +kernel), List.mem_of_getElem? (i := 1323) (by decide +kernel), List.mem_of_getElem? (i := 1324) (by decide +kernel)⟩
theorem lw_p65 : lw_okq (⟨"LaneWaitsModel", "isAhead", "(II)Z"⟩, 50) := ⟨⟨by decide +kernel, by decide +kernel⟩, List.mem_of_getElem? (i := 1058) (by decide +kernel), List.mem_of_getElem? (i := 1327) (by decide +kernel), List.mem_of_getElem? (i := 1328) (by decide +kernel)⟩
theorem lw_p66 : lw_okq (⟨"LaneWaitsModel", "allStill", "()I"⟩, 50) := ⟨⟨by decide +kernel, by decide +kernel⟩, List.mem_of_getElem? (i := 1058) (by decide +kernel), List.mem_of_getElem? (i := 1339) (by decide +kernel), List.mem_of_getElem? (i := 1340) (by decide +kernel)⟩
theorem lw_p67 : lw_okq (⟨"LaneWaitsModel", "standsStill", "(II)Z"⟩, 50) := ⟨⟨by decide +kernel, by decide +kernel⟩, List.mem_of_getElem? (i := 1058) (by decide +kernel), List.mem_of_getElem? (i := 1343) (by decide +kernel), List.mem_of_getElem? (i := 1344) (by decide +kernel)⟩
theorem lw_p68 : lw_okq (⟨"LaneWaitsModel", "isStill", "(I)Z"⟩, 50) := ⟨⟨by decide +kernel, by decide +kernel⟩, List.mem_of_getElem? (i := 1058) (by decide +kernel), List.mem_of_getElem? (i := 1350) (by decide +kernel), List.mem_of_getElem? (i := 1351) (by decide +kernel)⟩
theorem lw_p69 : lw_okq (⟨"LaneWaitsModel", "isSmall", "()Z"⟩, 50) := ⟨⟨by decide +kernel, by decide +kernel⟩, List.mem_of_getElem? (i := 1058) (by decide +kernel), List.mem_of_getElem? (i := 1358) (by decide +kernel), List.mem_of_getElem? (i := 1359) (by decide +kernel)⟩
theorem lw_p70 : lw_okq (⟨"LaneWaitsModel", "enter", "(II)V"⟩, 50) := ⟨⟨by decide +kernel, by decide +kernel⟩, List.mem_of_getElem? (i := 1058) (by decide +kernel), List.mem_of_getElem? (i := 1362) (by decide +kernel), List.mem_of_getElem? (i := 1363) (by decide +kernel)⟩
theorem lw_p71 : lw_okq (⟨"LaneWaitsModel", "stepFrom", "(I)V"⟩, 50) := ⟨⟨by decide +kernel, by decide +kernel⟩, List.mem_of_getElem? (i := 1058) (by decide +kernel), List.mem_of_getElem? (i := 1366) (by decide +kernel), List.mem_of_getElem? (i := 1367) (by decide +kernel)⟩
theorem lw_p72 : lw_okq (⟨"LaneWaitsModel", "layContent", "(I)V"⟩, 50) := ⟨⟨by decide +kernel, by decide +kernel⟩, List.mem_of_getElem? (i := 1058) (by decide +kernel), List.mem_of_getElem? (i := 1370) (by decide +kernel), List.mem_of_getElem? (i := 1371) (by decide +kernel)⟩
theorem lw_p73 : lw_okq (⟨"LaneWaitsModel", "goOn", "(IIII)V"⟩, 50) := ⟨⟨by decide +kernel, by decide +kernel⟩, List.mem_of_getElem? (i := 1058) (by decide +kernel), List.mem_of_getElem? (i := 1374) (by decide +kernel), List.mem_of_getElem? (i := 1375) (by decide +kernel)⟩
theorem lw_p74 : lw_okq (⟨"LaneWaitsModel", "isDead", "(I)Z"⟩, 50) := ⟨⟨by decide +kernel, by decide +kernel⟩, List.mem_of_getElem? (i := 1058) (by decide +kernel), List.mem_of_getElem? (i := 1381) (by decide +kernel), List.mem_of_getElem? (i := 1382) (by decide +kernel)⟩
theorem lw_p75 : lw_okq (⟨"LaneWaitsModel", "laneFor", "(II)I"⟩, 50) := ⟨⟨by decide +kernel, by decide +kernel⟩, List.mem_of_getElem? (i := 1058) (by decide +kernel), List.mem_of_getElem? (i := 1389) (by decide +kernel), List.mem_of_getElem? (i := 1390) (by decide +kernel)⟩
theorem lw_p76 : lw_okq (⟨"LaneWaitsModel", "comesIn", "(II)V"⟩, 50) := ⟨⟨by decide +kernel, by decide +kernel⟩, List.mem_of_getElem? (i := 1058) (by decide +kernel), List.mem_of_getElem? (i := 1393) (by decide +kernel), List.mem_of_getElem? (i := 1394) (by decide +kernel)⟩
theorem lw_p77 : lw_okq (⟨"LaneWaitsModel", "pass", "(Z)I"⟩, 50) := ⟨⟨by decide +kernel, by decide +kernel⟩, List.mem_of_getElem? (i := 1058) (by decide +kernel), List.mem_of_getElem? (i := 1401) (by decide +kernel), List.mem_of_getElem? (i := 1402) (by decide +kernel)⟩
theorem lw_p78 : lw_okq (⟨"LaneWaitsModel", "goFrom", "(I)I"⟩, 50) := ⟨⟨by decide +kernel, by decide +kernel⟩, List.mem_of_getElem? (i := 1058) (by decide +kernel), List.mem_of_getElem? (i := 1405) (by decide +kernel), List.mem_of_getElem? (i := 1406) (by decide +kernel)⟩
theorem lw_p79 : lw_okq (⟨"LaneWaitsModel", "leaves", "(I)V"⟩, 50) := ⟨⟨by decide +kernel, by decide +kernel⟩, List.mem_of_getElem? (i := 1058) (by decide +kernel), List.mem_of_getElem? (i := 1409) (by decide +kernel), List.mem_of_getElem? (i := 1410) (by decide +kernel)⟩
def lw_privs_5 : List (MethodName × Nat) := [(⟨"LaneWaitsModel", "findRing", "(I)Z"⟩, 50), (⟨"LaneWaitsModel", "isAhead", "(II)Z"⟩, 50), (⟨"LaneWaitsModel", "allStill", "()I"⟩, 50), (⟨"LaneWaitsModel", "standsStill", "(II)Z"⟩, 50), (⟨"LaneWaitsModel", "isStill", "(I)Z"⟩, 50), (⟨"LaneWaitsModel", "isSmall", "()Z"⟩, 50), (⟨"LaneWaitsModel", "enter", "(II)V"⟩, 50), (⟨"LaneWaitsModel", "stepFrom", "(I)V"⟩, 50), (⟨"LaneWaitsModel", "layContent", "(I)V"⟩, 50), (⟨"LaneWaitsModel", "goOn", "(IIII)V"⟩, 50), (⟨"LaneWaitsModel", "isDead", "(I)Z"⟩, 50), (⟨"LaneWaitsModel", "laneFor", "(II)I"⟩, 50), (⟨"LaneWaitsModel", "comesIn", "(II)V"⟩, 50), (⟨"LaneWaitsModel", "pass", "(Z)I"⟩, 50), (⟨"LaneWaitsModel", "goFrom", "(I)I"⟩, 50), (⟨"LaneWaitsModel", "leaves", "(I)V"⟩, 50)]
theorem lw_r5 : ∀ q ∈ lw_privs_5, lw_okq q := List.forall_mem_cons.mpr ⟨lw_p64, List.forall_mem_cons.mpr ⟨lw_p65, List.forall_mem_cons.mpr ⟨lw_p66, List.forall_mem_cons.mpr ⟨lw_p67, List.forall_mem_cons.mpr ⟨lw_p68, List.forall_mem_cons.mpr ⟨lw_p69, List.forall_mem_cons.mpr ⟨lw_p70, List.forall_mem_cons.mpr ⟨lw_p71, List.forall_mem_cons.mpr ⟨lw_p72, List.forall_mem_cons.mpr ⟨lw_p73, List.forall_mem_cons.mpr ⟨lw_p74, List.forall_mem_cons.mpr ⟨lw_p75, List.forall_mem_cons.mpr ⟨lw_p76, List.forall_mem_cons.mpr ⟨lw_p77, List.forall_mem_cons.mpr ⟨lw_p78, List.forall_mem_cons.mpr ⟨lw_p79, fun _ h => absurd h List.not_mem_nil⟩⟩⟩⟩⟩⟩⟩⟩⟩⟩⟩⟩⟩⟩⟩⟩
theorem lw_p80 : lw_okq (⟨"LaneWaitsModel", "isLoad", "(I)Z"⟩, 50) := ⟨⟨by decide +kernel, by decide +kernel⟩, List.mem_of_getElem? (i := 1058) (by decide +kernel), List.mem_of_getElem? (i := 1417) (by decide +kernel), List.mem_of_getElem? (i := 1418) (by decide +kernel)⟩
theorem lw_p81 : lw_okq (⟨"LaneWaitsModel", "isHeld", "(II)Z"⟩, 50) := ⟨⟨by decide +kernel, by decide +kernel⟩, List.mem_of_getElem? (i := 1058) (by decide +kernel), List.mem_of_getElem? (i := 1425) (by decide +kernel), List.mem_of_getElem? (i := 1426) (by decide +kernel)⟩
theorem lw_p82 : lw_okq (⟨"LaneWaitsModel", "findMends", "()I"⟩, 50) := ⟨⟨by decide +kernel, by decide +kernel⟩, List.mem_of_getElem? (i := 1058) (by decide +kernel), List.mem_of_getElem? (i := 1433) (by decide +kernel), List.mem_of_getElem? (i := 1434) (by decide +kernel)⟩
theorem lw_p83 : lw_okq (⟨"LaneWaitsModel", "isMended", "()Z"⟩, 50) := ⟨⟨by decide +kernel, by decide +kernel⟩, List.mem_of_getElem? (i := 1058) (by decide +kernel), List.mem_of_getElem? (i := 1437) (by decide +kernel), List.mem_of_getElem? (i := 1438) (by decide +kernel)⟩
theorem lw_p84 : lw_okq (⟨"LaneWaitsModel", "allCome", "()Z"⟩, 50) := ⟨⟨by decide +kernel, by decide +kernel⟩, List.mem_of_getElem? (i := 1058) (by decide +kernel), List.mem_of_getElem? (i := 1441) (by decide +kernel), List.mem_of_getElem? (i := 1442) (by decide +kernel)⟩
theorem lw_p85 : lw_okq (⟨"LaneWaitsModel", "layTurns", "()V"⟩, 50) := ⟨⟨by decide +kernel, by decide +kernel⟩, List.mem_of_getElem? (i := 1058) (by decide +kernel), List.mem_of_getElem? (i := 1445) (by decide +kernel), List.mem_of_getElem? (i := 1446) (by decide +kernel)⟩
theorem lw_p86 : lw_okq (⟨"LaneWaitsModel", "barTurn", "(I)V"⟩, 50) := ⟨⟨by decide +kernel, by decide +kernel⟩, List.mem_of_getElem? (i := 1058) (by decide +kernel), List.mem_of_getElem? (i := 1449) (by decide +kernel), List.mem_of_getElem? (i := 1450) (by decide +kernel)⟩
theorem lw_p87 : lw_okq (⟨"LaneWaitsModel", "layBears", "()V"⟩, 50) := ⟨⟨by decide +kernel, by decide +kernel⟩, List.mem_of_getElem? (i := 1058) (by decide +kernel), List.mem_of_getElem? (i := 1458) (by decide +kernel), List.mem_of_getElem? (i := 1459) (by decide +kernel)⟩
theorem lw_p88 : lw_okq (⟨"LaneWaitsModel", "clear", "([J[J)V"⟩, 50) := ⟨⟨by decide +kernel, by decide +kernel⟩, List.mem_of_getElem? (i := 1058) (by decide +kernel), List.mem_of_getElem? (i := 1462) (by decide +kernel), List.mem_of_getElem? (i := 1463) (by decide +kernel)⟩
theorem lw_p89 : lw_okq (⟨"LaneWaitsModel", "part", "(IJJ)V"⟩, 50) := ⟨⟨by decide +kernel, by decide +kernel⟩, List.mem_of_getElem? (i := 1058) (by decide +kernel), List.mem_of_getElem? (i := 1466) (by decide +kernel), List.mem_of_getElem? (i := 1467) (by decide +kernel)⟩
theorem lw_p90 : lw_okq (⟨"LaneWaitsModel", "takeNext", "()V"⟩, 50) := ⟨⟨by decide +kernel, by decide +kernel⟩, List.mem_of_getElem? (i := 1058) (by decide +kernel), List.mem_of_getElem? (i := 1476) (by decide +kernel), List.mem_of_getElem? (i := 1477) (by decide +kernel)⟩
theorem lw_p91 : lw_okq (⟨"LaneWaitsModel", "lost", "(I)J"⟩, 50) := ⟨⟨by decide +kernel, by decide +kernel⟩, List.mem_of_getElem? (i := 1058) (by decide +kernel), List.mem_of_getElem? (i := 1500) (by decide +kernel), List.mem_of_getElem? (i := 1501) (by decide +kernel)⟩
theorem lw_p92 : lw_okq (⟨"LaneWaitsModel", "begins", "(I)V"⟩, 50) := ⟨⟨by decide +kernel, by decide +kernel⟩, List.mem_of_getElem? (i := 1058) (by decide +kernel), List.mem_of_getElem? (i := 1512) (by decide +kernel), List.mem_of_getElem? (i := 1513) (by decide +kernel)⟩
def lw_privs_6 : List (MethodName × Nat) := [(⟨"LaneWaitsModel", "isLoad", "(I)Z"⟩, 50), (⟨"LaneWaitsModel", "isHeld", "(II)Z"⟩, 50), (⟨"LaneWaitsModel", "findMends", "()I"⟩, 50), (⟨"LaneWaitsModel", "isMended", "()Z"⟩, 50), (⟨"LaneWaitsModel", "allCome", "()Z"⟩, 50), (⟨"LaneWaitsModel", "layTurns", "()V"⟩, 50), (⟨"LaneWaitsModel", "barTurn", "(I)V"⟩, 50), (⟨"LaneWaitsModel", "layBears", "()V"⟩, 50), (⟨"LaneWaitsModel", "clear", "([J[J)V"⟩, 50), (⟨"LaneWaitsModel", "part", "(IJJ)V"⟩, 50), (⟨"LaneWaitsModel", "takeNext", "()V"⟩, 50), (⟨"LaneWaitsModel", "lost", "(I)J"⟩, 50), (⟨"LaneWaitsModel", "begins", "(I)V"⟩, 50)]
theorem lw_r6 : ∀ q ∈ lw_privs_6, lw_okq q := List.forall_mem_cons.mpr ⟨lw_p80, List.forall_mem_cons.mpr ⟨lw_p81, List.forall_mem_cons.mpr ⟨lw_p82, List.forall_mem_cons.mpr ⟨lw_p83, List.forall_mem_cons.mpr ⟨lw_p84, List.forall_mem_cons.mpr ⟨lw_p85, List.forall_mem_cons.mpr ⟨lw_p86, List.forall_mem_cons.mpr ⟨lw_p87, List.forall_mem_cons.mpr ⟨lw_p88, List.forall_mem_cons.mpr ⟨lw_p89, List.forall_mem_cons.mpr ⟨lw_p90, List.forall_mem_cons.mpr ⟨lw_p91, List.forall_mem_cons.mpr ⟨lw_p92, fun _ h => absurd h List.not_mem_nil⟩⟩⟩⟩⟩⟩⟩⟩⟩⟩⟩⟩⟩
def lw_privs : List (MethodName × Nat) := lw_privs_1 ++ (lw_privs_2 ++ (lw_privs_3 ++ (lw_privs_4 ++ (lw_privs_5 ++ (lw_privs_6)))))
def lw_tbl : List Cond := k2_sels lw_privs ++ tables_1
theorem lw_privs_ok : ∀ q ∈ lw_privs, lw_okq q := by
  show ∀ q ∈ lw_privs_1 ++ (lw_privs_2 ++ (lw_privs_3 ++ (lw_privs_4 ++ (lw_privs_5 ++ (lw_privs_6))))), lw_okq q
  exact List.forall_mem_append.mpr ⟨lw_r1, List.forall_mem_append.mpr ⟨lw_r2, List.forall_mem_append.mpr ⟨lw_r3, List.forall_mem_append.mpr ⟨lw_r4, List.forall_mem_append.mpr ⟨lw_r5, lw_r6⟩⟩⟩⟩⟩
end
section
def RX0 : String := "LaneWaits$Bears"
def TX0 : u_T := fun k => match k with
  | 0 => ("LaneWaits$Bears", "net", "LLaneWaits$Net;", true)
  | 1 => ("LaneWaits$Bears", "ways", "LLaneWaits$Ways;", true)
  | 2 => ("LaneWaits$Bears", "waiting", "LLaneWaits$Waits;", true)
  | 3 => ("LaneWaits$Bears", "upper", "[J", true)
  | 4 => ("LaneWaits$Bears", "lower", "[J", true)
  | 5 => ("LaneWaits$Bears", "partUpper", "[J", true)
  | 6 => ("LaneWaits$Bears", "partLower", "[J", true)
  | _ => ("LaneWaits$Bears", "workedAt", "I", false)
def tyX0 : Nat → FieldType := fun k => match k with
  | 0 => .object "LaneWaits$Net"
  | 1 => .object "LaneWaits$Ways"
  | 2 => .object "LaneWaits$Waits"
  | 3 => .array .long
  | 4 => .array .long
  | 5 => .array .long
  | 6 => .array .long
  | _ => .int
abbrev wsX00 : List Cond := u_ws RX0 TX0 8
theorem nmX0 : ∀ a, a < 8 → ∀ b, b < 8 → a ≠ b → (TX0 a).2.1 ≠ (TX0 b).2.1 := by decide +kernel
theorem tyX0_ok : ∀ k, k < 8 → parseFieldDescriptor (TX0 k).2.2.1 = some (tyX0 k) := by decide +kernel
abbrev cX0_init : ByteArray := prog_2_method_1_code
def yX0_init : MethodName := ⟨RX0, "<init>", "(LLaneWaits$Net;LLaneWaits$Ways;LLaneWaits$Waits;)V"⟩
abbrev cX0_work : ByteArray := prog_2_method_2_code
def yX0_work : MethodName := ⟨RX0, "work", "()V"⟩
abbrev cX0_pour : ByteArray := prog_2_method_3_code
def yX0_pour : MethodName := ⟨RX0, "pour", "(I)V"⟩
abbrev cX0_ledToFrom : ByteArray := prog_2_method_4_code
def yX0_ledToFrom : MethodName := ⟨RX0, "ledToFrom", "(II)I"⟩
abbrev cX0_spread : ByteArray := prog_2_method_5_code
def yX0_spread : MethodName := ⟨RX0, "spread", "(IJJ)V"⟩
abbrev cX0_add : ByteArray := prog_2_method_6_code
def yX0_add : MethodName := ⟨RX0, "add", "([J[JIJJ)V"⟩
abbrev cX0_commonDivisor : ByteArray := prog_2_method_7_code
def yX0_commonDivisor : MethodName := ⟨RX0, "commonDivisor", "(JJ)J"⟩
abbrev cX0_greatest : ByteArray := prog_2_method_8_code
def yX0_greatest : MethodName := ⟨RX0, "greatest", "()I"⟩
def RX1 : String := "LaneWaits$Load"
def TX1 : u_T := fun k => match k with
  | 0 => ("LaneWaits$Load", "number", "I", true)
  | 1 => ("LaneWaits$Load", "kind", "I", true)
  | 2 => ("LaneWaits$Load", "first", "I", true)
  | 3 => ("LaneWaits$Load", "aim", "I", true)
  | 4 => ("LaneWaits$Load", "lane", "I", false)
  | 5 => ("LaneWaits$Load", "lanesTaken", "I", false)
  | 6 => ("LaneWaits$Load", "homeTick", "I", false)
  | _ => ("LaneWaits$Load", "movedTick", "I", false)
def tyX1 : Nat → FieldType := fun k => match k with
  | 0 => .int
  | 1 => .int
  | 2 => .int
  | 3 => .int
  | 4 => .int
  | 5 => .int
  | 6 => .int
  | _ => .int
abbrev wsX10 : List Cond := u_ws RX1 TX1 8
theorem nmX1 : ∀ a, a < 8 → ∀ b, b < 8 → a ≠ b → (TX1 a).2.1 ≠ (TX1 b).2.1 := by decide +kernel
theorem tyX1_ok : ∀ k, k < 8 → parseFieldDescriptor (TX1 k).2.2.1 = some (tyX1 k) := by decide +kernel
abbrev cX1_init : ByteArray := prog_3_method_1_code
def yX1_init : MethodName := ⟨RX1, "<init>", "(IIII)V"⟩
def RX2 : String := "LaneWaits$Mends"
def TX2 : u_T := fun k => match k with
  | 0 => ("LaneWaits$Mends", "net", "LLaneWaits$Net;", true)
  | 1 => ("LaneWaits$Mends", "ways", "LLaneWaits$Ways;", true)
  | 2 => ("LaneWaits$Mends", "waiting", "LLaneWaits$Waits;", true)
  | 3 => ("LaneWaits$Mends", "triedWays", "LLaneWaits$Ways;", true)
  | 4 => ("LaneWaits$Mends", "tried", "LLaneWaits$Waits;", true)
  | 5 => ("LaneWaits$Mends", "candidates", "[I", true)
  | 6 => ("LaneWaits$Mends", "turns", "[I", true)
  | 7 => ("LaneWaits$Mends", "count", "I", false)
  | _ => ("LaneWaits$Mends", "workedAt", "I", false)
def tyX2 : Nat → FieldType := fun k => match k with
  | 0 => .object "LaneWaits$Net"
  | 1 => .object "LaneWaits$Ways"
  | 2 => .object "LaneWaits$Waits"
  | 3 => .object "LaneWaits$Ways"
  | 4 => .object "LaneWaits$Waits"
  | 5 => .array .int
  | 6 => .array .int
  | 7 => .int
  | _ => .int
abbrev wsX20 : List Cond := u_ws RX2 TX2 9
theorem nmX2 : ∀ a, a < 9 → ∀ b, b < 9 → a ≠ b → (TX2 a).2.1 ≠ (TX2 b).2.1 := by decide +kernel
theorem tyX2_ok : ∀ k, k < 9 → parseFieldDescriptor (TX2 k).2.2.1 = some (tyX2 k) := by decide +kernel
abbrev cX2_init : ByteArray := prog_4_method_1_code
def yX2_init : MethodName := ⟨RX2, "<init>", "(LLaneWaits$Net;LLaneWaits$Ways;LLaneWaits$Waits;)V"⟩
abbrev cX2_work : ByteArray := prog_4_method_2_code
def yX2_work : MethodName := ⟨RX2, "work", "()V"⟩
abbrev cX2_gather : ByteArray := prog_4_method_3_code
def yX2_gather : MethodName := ⟨RX2, "gather", "()I"⟩
abbrev cX2_isFound : ByteArray := prog_4_method_4_code
def yX2_isFound : MethodName := ⟨RX2, "isFound", "(II)Z"⟩
abbrev cX2_setTried : ByteArray := prog_4_method_5_code
def yX2_setTried : MethodName := ⟨RX2, "setTried", "(IZ)V"⟩
def RX3 : String := "LaneWaits$Net"
def TX3 : u_T := fun k => match k with
  | 0 => ("LaneWaits$Net", "nodes", "I", false)
  | 1 => ("LaneWaits$Net", "lanes", "I", false)
  | 2 => ("LaneWaits$Net", "from", "[I", true)
  | 3 => ("LaneWaits$Net", "to", "[I", true)
  | 4 => ("LaneWaits$Net", "cells", "[I", true)
  | 5 => ("LaneWaits$Net", "far", "[[I", true)
  | 6 => ("LaneWaits$Net", "nearer", "[[I", true)
  | 7 => ("LaneWaits$Net", "leading", "[[I", true)
  | _ => ("LaneWaits$Net", "into", "[I", true)
def tyX3 : Nat → FieldType := fun k => match k with
  | 0 => .int
  | 1 => .int
  | 2 => .array .int
  | 3 => .array .int
  | 4 => .array .int
  | 5 => .array (.array .int)
  | 6 => .array (.array .int)
  | 7 => .array (.array .int)
  | _ => .array .int
abbrev wsX30 : List Cond := u_ws RX3 TX3 9
theorem nmX3 : ∀ a, a < 9 → ∀ b, b < 9 → a ≠ b → (TX3 a).2.1 ≠ (TX3 b).2.1 := by decide +kernel
theorem tyX3_ok : ∀ k, k < 9 → parseFieldDescriptor (TX3 k).2.2.1 = some (tyX3 k) := by decide +kernel
abbrev cX3_init : ByteArray := prog_5_method_1_code
def yX3_init : MethodName := ⟨RX3, "<init>", "()V"⟩
abbrev cX3_isNode : ByteArray := prog_5_method_2_code
def yX3_isNode : MethodName := ⟨RX3, "isNode", "(I)Z"⟩
abbrev cX3_areNodes : ByteArray := prog_5_method_3_code
def yX3_areNodes : MethodName := ⟨RX3, "areNodes", "(II)Z"⟩
abbrev cX3_isLane : ByteArray := prog_5_method_4_code
def yX3_isLane : MethodName := ⟨RX3, "isLane", "(I)Z"⟩
abbrev cX3_build : ByteArray := prog_5_method_5_code
def yX3_build : MethodName := ⟨RX3, "build", "(LLaneWaits$Text;)V"⟩
abbrev cX3_measure : ByteArray := prog_5_method_6_code
def yX3_measure : MethodName := ⟨RX3, "measure", "(I)V"⟩
abbrev cX3_collect : ByteArray := prog_5_method_7_code
def yX3_collect : MethodName := ⟨RX3, "collect", "(I)V"⟩
def RX4 : String := "LaneWaits$Sheets"
def TX4 : u_T := fun k => match k with
  | 0 => ("LaneWaits$Sheets", "rows", "[[I", true)
  | 1 => ("LaneWaits$Sheets", "sorts", "[I", true)
  | _ => ("LaneWaits$Sheets", "sizes", "[I", true)
def tyX4 : Nat → FieldType := fun k => match k with
  | 0 => .array (.array .int)
  | 1 => .array .int
  | _ => .array .int
abbrev wsX40 : List Cond := u_ws RX4 TX4 3
theorem nmX4 : ∀ a, a < 3 → ∀ b, b < 3 → a ≠ b → (TX4 a).2.1 ≠ (TX4 b).2.1 := by decide +kernel
theorem tyX4_ok : ∀ k, k < 3 → parseFieldDescriptor (TX4 k).2.2.1 = some (tyX4 k) := by decide +kernel
abbrev cX4_init : ByteArray := prog_6_method_1_code
def yX4_init : MethodName := ⟨RX4, "<init>", "()V"⟩
abbrev cX4_isSheet : ByteArray := prog_6_method_2_code
def yX4_isSheet : MethodName := ⟨RX4, "isSheet", "(I)Z"⟩
abbrev cX4_isSort : ByteArray := prog_6_method_3_code
def yX4_isSort : MethodName := ⟨RX4, "isSort", "(I)Z"⟩
abbrev cX4_hasRow : ByteArray := prog_6_method_4_code
def yX4_hasRow : MethodName := ⟨RX4, "hasRow", "(I)Z"⟩
abbrev cX4_isOfAnother : ByteArray := prog_6_method_5_code
def yX4_isOfAnother : MethodName := ⟨RX4, "isOfAnother", "(II)Z"⟩
abbrev cX4_hasCell : ByteArray := prog_6_method_6_code
def yX4_hasCell : MethodName := ⟨RX4, "hasCell", "(II)Z"⟩
abbrev cX4_hasCells : ByteArray := prog_6_method_7_code
def yX4_hasCells : MethodName := ⟨RX4, "hasCells", "(III)Z"⟩
abbrev cX4_renew : ByteArray := prog_6_method_8_code
def yX4_renew : MethodName := ⟨RX4, "renew", "(III)V"⟩
abbrev cX4_drop : ByteArray := prog_6_method_9_code
def yX4_drop : MethodName := ⟨RX4, "drop", "(I)Z"⟩
abbrev cX4_cut : ByteArray := prog_6_method_10_code
def yX4_cut : MethodName := ⟨RX4, "cut", "(II)I"⟩
def RX5 : String := "LaneWaits$States"
def TX5 : u_T := fun k => match k with
  | 0 => ("LaneWaits$States", "net", "LLaneWaits$Net;", true)
  | 1 => ("LaneWaits$States", "ways", "LLaneWaits$Ways;", true)
  | 2 => ("LaneWaits$States", "seen", "[I", true)
  | 3 => ("LaneWaits$States", "now", "[I", true)
  | 4 => ("LaneWaits$States", "later", "[I", true)
  | 5 => ("LaneWaits$States", "weight", "[I", true)
  | 6 => ("LaneWaits$States", "digit", "[I", true)
  | 7 => ("LaneWaits$States", "entering", "[I", true)
  | 8 => ("LaneWaits$States", "found", "Z", false)
  | 9 => ("LaneWaits$States", "count", "I", false)
  | 10 => ("LaneWaits$States", "dead", "I", false)
  | 11 => ("LaneWaits$States", "steps", "I", false)
  | _ => ("LaneWaits$States", "workedAt", "I", false)
def tyX5 : Nat → FieldType := fun k => match k with
  | 0 => .object "LaneWaits$Net"
  | 1 => .object "LaneWaits$Ways"
  | 2 => .array .int
  | 3 => .array .int
  | 4 => .array .int
  | 5 => .array .int
  | 6 => .array .int
  | 7 => .array .int
  | 8 => .boolean
  | 9 => .int
  | 10 => .int
  | 11 => .int
  | _ => .int
abbrev wsX50 : List Cond := u_ws RX5 TX5 13
theorem nmX5 : ∀ a, a < 13 → ∀ b, b < 13 → a ≠ b → (TX5 a).2.1 ≠ (TX5 b).2.1 := by decide +kernel
theorem tyX5_ok : ∀ k, k < 13 → parseFieldDescriptor (TX5 k).2.2.1 = some (tyX5 k) := by decide +kernel
abbrev cX5_init : ByteArray := prog_7_method_1_code
def yX5_init : MethodName := ⟨RX5, "<init>", "(LLaneWaits$Net;LLaneWaits$Ways;)V"⟩
abbrev cX5_fit : ByteArray := prog_7_method_2_code
def yX5_fit : MethodName := ⟨RX5, "fit", "()Z"⟩
abbrev cX5_work : ByteArray := prog_7_method_3_code
def yX5_work : MethodName := ⟨RX5, "work", "()V"⟩
abbrev cX5_prepare : ByteArray := prog_7_method_4_code
def yX5_prepare : MethodName := ⟨RX5, "prepare", "()V"⟩
abbrev cX5_reach : ByteArray := prog_7_method_5_code
def yX5_reach : MethodName := ⟨RX5, "reach", "(I)V"⟩
abbrev cX5_visitAll : ByteArray := prog_7_method_6_code
def yX5_visitAll : MethodName := ⟨RX5, "visitAll", "(I)V"⟩
abbrev cX5_visit : ByteArray := prog_7_method_7_code
def yX5_visit : MethodName := ⟨RX5, "visit", "(II)V"⟩
abbrev cX5_isDead : ByteArray := prog_7_method_8_code
def yX5_isDead : MethodName := ⟨RX5, "isDead", "()Z"⟩
abbrev cX5_setOut : ByteArray := prog_7_method_9_code
def yX5_setOut : MethodName := ⟨RX5, "setOut", "(II)V"⟩
abbrev cX5_goOn : ByteArray := prog_7_method_10_code
def yX5_goOn : MethodName := ⟨RX5, "goOn", "(III)V"⟩
def RX6 : String := "LaneWaits$Stills"
def TX6 : u_T := fun k => match k with
  | 0 => ("LaneWaits$Stills", "net", "LLaneWaits$Net;", true)
  | 1 => ("LaneWaits$Stills", "ways", "LLaneWaits$Ways;", true)
  | 2 => ("LaneWaits$Stills", "waiting", "LLaneWaits$Waits;", true)
  | 3 => ("LaneWaits$Stills", "needs", "[[I", true)
  | 4 => ("LaneWaits$Stills", "needCount", "[I", true)
  | 5 => ("LaneWaits$Stills", "allOfThem", "I", false)
  | 6 => ("LaneWaits$Stills", "least", "I", false)
  | _ => ("LaneWaits$Stills", "workedAt", "I", false)
def tyX6 : Nat → FieldType := fun k => match k with
  | 0 => .object "LaneWaits$Net"
  | 1 => .object "LaneWaits$Ways"
  | 2 => .object "LaneWaits$Waits"
  | 3 => .array (.array .int)
  | 4 => .array .int
  | 5 => .int
  | 6 => .int
  | _ => .int
abbrev wsX60 : List Cond := u_ws RX6 TX6 8
theorem nmX6 : ∀ a, a < 8 → ∀ b, b < 8 → a ≠ b → (TX6 a).2.1 ≠ (TX6 b).2.1 := by decide +kernel
theorem tyX6_ok : ∀ k, k < 8 → parseFieldDescriptor (TX6 k).2.2.1 = some (tyX6 k) := by decide +kernel
abbrev cX6_init : ByteArray := prog_8_method_1_code
def yX6_init : MethodName := ⟨RX6, "<init>", "(LLaneWaits$Net;LLaneWaits$Ways;LLaneWaits$Waits;)V"⟩
abbrev cX6_work : ByteArray := prog_8_method_2_code
def yX6_work : MethodName := ⟨RX6, "work", "()V"⟩
abbrev cX6_findNeeds : ByteArray := prog_8_method_3_code
def yX6_findNeeds : MethodName := ⟨RX6, "findNeeds", "(I)V"⟩
abbrev cX6_canStand : ByteArray := prog_8_method_4_code
def yX6_canStand : MethodName := ⟨RX6, "canStand", "(II)Z"⟩
abbrev cX6_findAll : ByteArray := prog_8_method_5_code
def yX6_findAll : MethodName := ⟨RX6, "findAll", "()V"⟩
abbrev cX6_findLeast : ByteArray := prog_8_method_6_code
def yX6_findLeast : MethodName := ⟨RX6, "findLeast", "()V"⟩
abbrev cX6_stands : ByteArray := prog_8_method_7_code
def yX6_stands : MethodName := ⟨RX6, "stands", "(I)Z"⟩
def RX7 : String := "LaneWaits$Text"
def TX7 : u_T := fun k => match k with
  | 0 => ("LaneWaits$Text", "from", "[I", true)
  | 1 => ("LaneWaits$Text", "to", "[I", true)
  | 2 => ("LaneWaits$Text", "cells", "[I", true)
  | 3 => ("LaneWaits$Text", "nodes", "I", false)
  | 4 => ("LaneWaits$Text", "lanes", "I", false)
  | _ => ("LaneWaits$Text", "step", "I", false)
def tyX7 : Nat → FieldType := fun k => match k with
  | 0 => .array .int
  | 1 => .array .int
  | 2 => .array .int
  | 3 => .int
  | 4 => .int
  | _ => .int
abbrev wsX70 : List Cond := u_ws RX7 TX7 6
theorem nmX7 : ∀ a, a < 6 → ∀ b, b < 6 → a ≠ b → (TX7 a).2.1 ≠ (TX7 b).2.1 := by decide +kernel
theorem tyX7_ok : ∀ k, k < 6 → parseFieldDescriptor (TX7 k).2.2.1 = some (tyX7 k) := by decide +kernel
abbrev cX7_init : ByteArray := prog_9_method_1_code
def yX7_init : MethodName := ⟨RX7, "<init>", "()V"⟩
abbrev cX7_firstFault : ByteArray := prog_9_method_2_code
def yX7_firstFault : MethodName := ⟨RX7, "firstFault", "([III)I"⟩
abbrev cX7_takes : ByteArray := prog_9_method_3_code
def yX7_takes : MethodName := ⟨RX7, "takes", "(I)Z"⟩
abbrev cX7_goesOn : ByteArray := prog_9_method_4_code
def yX7_goesOn : MethodName := ⟨RX7, "goesOn", "(ZI)Z"⟩
abbrev cX7_opensLane : ByteArray := prog_9_method_5_code
def yX7_opensLane : MethodName := ⟨RX7, "opensLane", "(I)Z"⟩
abbrev cX7_takesNodes : ByteArray := prog_9_method_6_code
def yX7_takesNodes : MethodName := ⟨RX7, "takesNodes", "(I)Z"⟩
abbrev cX7_takesFrom : ByteArray := prog_9_method_7_code
def yX7_takesFrom : MethodName := ⟨RX7, "takesFrom", "(I)Z"⟩
abbrev cX7_takesTo : ByteArray := prog_9_method_8_code
def yX7_takesTo : MethodName := ⟨RX7, "takesTo", "(I)Z"⟩
abbrev cX7_takesCells : ByteArray := prog_9_method_9_code
def yX7_takesCells : MethodName := ⟨RX7, "takesCells", "(I)Z"⟩
def RX8 : String := "LaneWaits$Traffic"
def TX8 : u_T := fun k => match k with
  | 0 => ("LaneWaits$Traffic", "net", "LLaneWaits$Net;", true)
  | 1 => ("LaneWaits$Traffic", "ways", "LLaneWaits$Ways;", true)
  | 2 => ("LaneWaits$Traffic", "loads", "[LLaneWaits$Load;", true)
  | 3 => ("LaneWaits$Traffic", "places", "[[I", true)
  | 4 => ("LaneWaits$Traffic", "standing", "[I", true)
  | 5 => ("LaneWaits$Traffic", "count", "I", false)
  | _ => ("LaneWaits$Traffic", "tick", "I", false)
def tyX8 : Nat → FieldType := fun k => match k with
  | 0 => .object "LaneWaits$Net"
  | 1 => .object "LaneWaits$Ways"
  | 2 => .array (.object "LaneWaits$Load")
  | 3 => .array (.array .int)
  | 4 => .array .int
  | 5 => .int
  | _ => .int
abbrev wsX80 : List Cond := u_ws RX8 TX8 7
theorem nmX8 : ∀ a, a < 7 → ∀ b, b < 7 → a ≠ b → (TX8 a).2.1 ≠ (TX8 b).2.1 := by decide +kernel
theorem tyX8_ok : ∀ k, k < 7 → parseFieldDescriptor (TX8 k).2.2.1 = some (tyX8 k) := by decide +kernel
abbrev cX8_init : ByteArray := prog_10_method_1_code
def yX8_init : MethodName := ⟨RX8, "<init>", "(LLaneWaits$Net;LLaneWaits$Ways;)V"⟩
abbrev cX8_clear : ByteArray := prog_10_method_2_code
def yX8_clear : MethodName := ⟨RX8, "clear", "()V"⟩
abbrev cX8_numbered : ByteArray := prog_10_method_3_code
def yX8_numbered : MethodName := ⟨RX8, "numbered", "(I)LLaneWaits$Load;"⟩
abbrev cX8_standsIn : ByteArray := prog_10_method_4_code
def yX8_standsIn : MethodName := ⟨RX8, "standsIn", "(II)I"⟩
abbrev cX8_countInLanes : ByteArray := prog_10_method_5_code
def yX8_countInLanes : MethodName := ⟨RX8, "countInLanes", "()I"⟩
abbrev cX8_hasRoom : ByteArray := prog_10_method_6_code
def yX8_hasRoom : MethodName := ⟨RX8, "hasRoom", "(I)Z"⟩
abbrev cX8_choose : ByteArray := prog_10_method_7_code
def yX8_choose : MethodName := ⟨RX8, "choose", "(II)I"⟩
abbrev cX8_setOut : ByteArray := prog_10_method_8_code
def yX8_setOut : MethodName := ⟨RX8, "setOut", "(IIII)I"⟩
abbrev cX8_enter : ByteArray := prog_10_method_9_code
def yX8_enter : MethodName := ⟨RX8, "enter", "(LLaneWaits$Load;I)V"⟩
abbrev cX8_tickOnce : ByteArray := prog_10_method_10_code
def yX8_tickOnce : MethodName := ⟨RX8, "tickOnce", "()I"⟩
abbrev cX8_moveFirsts : ByteArray := prog_10_method_11_code
def yX8_moveFirsts : MethodName := ⟨RX8, "moveFirsts", "(ZI)I"⟩
abbrev cX8_moves : ByteArray := prog_10_method_12_code
def yX8_moves : MethodName := ⟨RX8, "moves", "(LLaneWaits$Load;)Z"⟩
abbrev cX8_frozenSet : ByteArray := prog_10_method_13_code
def yX8_frozenSet : MethodName := ⟨RX8, "frozenSet", "()I"⟩
abbrev cX8_thaw : ByteArray := prog_10_method_14_code
def yX8_thaw : MethodName := ⟨RX8, "thaw", "(II)I"⟩
abbrev cX8_isHeld : ByteArray := prog_10_method_15_code
def yX8_isHeld : MethodName := ⟨RX8, "isHeld", "(LLaneWaits$Load;I)Z"⟩
def RX9 : String := "LaneWaits$Waits"
def TX9 : u_T := fun k => match k with
  | 0 => ("LaneWaits$Waits", "net", "LLaneWaits$Net;", true)
  | 1 => ("LaneWaits$Waits", "ways", "LLaneWaits$Ways;", true)
  | 2 => ("LaneWaits$Waits", "carried", "[I", true)
  | 3 => ("LaneWaits$Waits", "next", "[I", true)
  | 4 => ("LaneWaits$Waits", "ringRow", "[I", true)
  | 5 => ("LaneWaits$Waits", "ranks", "[I", true)
  | 6 => ("LaneWaits$Waits", "onward", "[I", true)
  | 7 => ("LaneWaits$Waits", "back", "[I", true)
  | 8 => ("LaneWaits$Waits", "sure", "Z", false)
  | 9 => ("LaneWaits$Waits", "ringLength", "I", false)
  | _ => ("LaneWaits$Waits", "workedAt", "I", false)
def tyX9 : Nat → FieldType := fun k => match k with
  | 0 => .object "LaneWaits$Net"
  | 1 => .object "LaneWaits$Ways"
  | 2 => .array .int
  | 3 => .array .int
  | 4 => .array .int
  | 5 => .array .int
  | 6 => .array .int
  | 7 => .array .int
  | 8 => .boolean
  | 9 => .int
  | _ => .int
abbrev wsX90 : List Cond := u_ws RX9 TX9 11
theorem nmX9 : ∀ a, a < 11 → ∀ b, b < 11 → a ≠ b → (TX9 a).2.1 ≠ (TX9 b).2.1 := by decide +kernel
theorem tyX9_ok : ∀ k, k < 11 → parseFieldDescriptor (TX9 k).2.2.1 = some (tyX9 k) := by decide +kernel
abbrev cX9_init : ByteArray := prog_11_method_1_code
def yX9_init : MethodName := ⟨RX9, "<init>", "(LLaneWaits$Net;LLaneWaits$Ways;)V"⟩
abbrev cX9_work : ByteArray := prog_11_method_2_code
def yX9_work : MethodName := ⟨RX9, "work", "()V"⟩
abbrev cX9_isSound : ByteArray := prog_11_method_3_code
def yX9_isSound : MethodName := ⟨RX9, "isSound", "()Z"⟩
abbrev cX9_survey : ByteArray := prog_11_method_4_code
def yX9_survey : MethodName := ⟨RX9, "survey", "(I)Z"⟩
abbrev cX9_howItComes : ByteArray := prog_11_method_5_code
def yX9_howItComes : MethodName := ⟨RX9, "howItComes", "(II)I"⟩
abbrev cX9_reach : ByteArray := prog_11_method_6_code
def yX9_reach : MethodName := ⟨RX9, "reach", "(II)I"⟩
abbrev cX9_endsWell : ByteArray := prog_11_method_7_code
def yX9_endsWell : MethodName := ⟨RX9, "endsWell", "(II)Z"⟩
abbrev cX9_findRing : ByteArray := prog_11_method_8_code
def yX9_findRing : MethodName := ⟨RX9, "findRing", "()V"⟩
abbrev cX9_measureRing : ByteArray := prog_11_method_9_code
def yX9_measureRing : MethodName := ⟨RX9, "measureRing", "(I)I"⟩
abbrev cX9_layRing : ByteArray := prog_11_method_10_code
def yX9_layRing : MethodName := ⟨RX9, "layRing", "(I)V"⟩
abbrev cX9_findRanks : ByteArray := prog_11_method_11_code
def yX9_findRanks : MethodName := ⟨RX9, "findRanks", "()V"⟩
def RX10 : String := "LaneWaits$Ways"
def TX10 : u_T := fun k => match k with
  | 0 => ("LaneWaits$Ways", "net", "LLaneWaits$Net;", true)
  | 1 => ("LaneWaits$Ways", "barred", "[I", true)
  | 2 => ("LaneWaits$Ways", "outward", "[[I", true)
  | 3 => ("LaneWaits$Ways", "onward", "[[I", true)
  | 4 => ("LaneWaits$Ways", "rule", "I", false)
  | _ => ("LaneWaits$Ways", "changes", "I", false)
def tyX10 : Nat → FieldType := fun k => match k with
  | 0 => .object "LaneWaits$Net"
  | 1 => .array .int
  | 2 => .array (.array .int)
  | 3 => .array (.array .int)
  | 4 => .int
  | _ => .int
abbrev wsX100 : List Cond := u_ws RX10 TX10 6
theorem nmX10 : ∀ a, a < 6 → ∀ b, b < 6 → a ≠ b → (TX10 a).2.1 ≠ (TX10 b).2.1 := by decide +kernel
theorem tyX10_ok : ∀ k, k < 6 → parseFieldDescriptor (TX10 k).2.2.1 = some (tyX10 k) := by decide +kernel
abbrev cX10_init : ByteArray := prog_12_method_1_code
def yX10_init : MethodName := ⟨RX10, "<init>", "(LLaneWaits$Net;)V"⟩
abbrev cX10_ruleBy : ByteArray := prog_12_method_2_code
def yX10_ruleBy : MethodName := ⟨RX10, "ruleBy", "(I)V"⟩
abbrev cX10_unbarAll : ByteArray := prog_12_method_3_code
def yX10_unbarAll : MethodName := ⟨RX10, "unbarAll", "()V"⟩
abbrev cX10_takeFrom : ByteArray := prog_12_method_4_code
def yX10_takeFrom : MethodName := ⟨RX10, "takeFrom", "(LLaneWaits$Ways;)V"⟩
abbrev cX10_isBarred : ByteArray := prog_12_method_5_code
def yX10_isBarred : MethodName := ⟨RX10, "isBarred", "(II)Z"⟩
abbrev cX10_setBarred : ByteArray := prog_12_method_6_code
def yX10_setBarred : MethodName := ⟨RX10, "setBarred", "(IIZ)V"⟩
abbrev cX10_countBarred : ByteArray := prog_12_method_7_code
def yX10_countBarred : MethodName := ⟨RX10, "countBarred", "()I"⟩
abbrev cX10_layAll : ByteArray := prog_12_method_8_code
def yX10_layAll : MethodName := ⟨RX10, "layAll", "()V"⟩
abbrev cX10_layLane : ByteArray := prog_12_method_9_code
def yX10_layLane : MethodName := ⟨RX10, "layLane", "(I)V"⟩
abbrev cX10_ruled : ByteArray := prog_12_method_10_code
def yX10_ruled : MethodName := ⟨RX10, "ruled", "(III)I"⟩
def RX11 : String := "LaneWaits"
def TX11 : u_T := fun k => match k with
  | 0 => ("LaneWaits", "sheets", "LLaneWaits$Sheets;", true)
  | 1 => ("LaneWaits", "text", "LLaneWaits$Text;", true)
  | 2 => ("LaneWaits", "net", "LLaneWaits$Net;", true)
  | 3 => ("LaneWaits", "ways", "LLaneWaits$Ways;", true)
  | 4 => ("LaneWaits", "waiting", "LLaneWaits$Waits;", true)
  | 5 => ("LaneWaits", "stills", "LLaneWaits$Stills;", true)
  | 6 => ("LaneWaits", "all", "LLaneWaits$States;", true)
  | 7 => ("LaneWaits", "traffic", "LLaneWaits$Traffic;", true)
  | 8 => ("LaneWaits", "mends", "LLaneWaits$Mends;", true)
  | 9 => ("LaneWaits", "shares", "LLaneWaits$Bears;", true)
  | 10 => ("LaneWaits", "trace", "I", false)
  | _ => ("LaneWaits", "fault", "I", false)
def tyX11 : Nat → FieldType := fun k => match k with
  | 0 => .object "LaneWaits$Sheets"
  | 1 => .object "LaneWaits$Text"
  | 2 => .object "LaneWaits$Net"
  | 3 => .object "LaneWaits$Ways"
  | 4 => .object "LaneWaits$Waits"
  | 5 => .object "LaneWaits$Stills"
  | 6 => .object "LaneWaits$States"
  | 7 => .object "LaneWaits$Traffic"
  | 8 => .object "LaneWaits$Mends"
  | 9 => .object "LaneWaits$Bears"
  | 10 => .int
  | _ => .int
abbrev wsX110 : List Cond := u_ws RX11 TX11 12
theorem nmX11 : ∀ a, a < 12 → ∀ b, b < 12 → a ≠ b → (TX11 a).2.1 ≠ (TX11 b).2.1 := by decide +kernel
theorem tyX11_ok : ∀ k, k < 12 → parseFieldDescriptor (TX11 k).2.2.1 = some (tyX11 k) := by decide +kernel
abbrev cX11_init : ByteArray := prog_1_method_1_code
def yX11_init : MethodName := ⟨RX11, "<init>", "()V"⟩
abbrev cX11_net : ByteArray := prog_1_method_2_code
def yX11_net : MethodName := ⟨RX11, "net", "(IIII)I"⟩
abbrev cX11_ofLane : ByteArray := prog_1_method_3_code
def yX11_ofLane : MethodName := ⟨RX11, "ofLane", "(II)I"⟩
abbrev cX11_far : ByteArray := prog_1_method_4_code
def yX11_far : MethodName := ⟨RX11, "far", "(II)I"⟩
abbrev cX11_rule : ByteArray := prog_1_method_5_code
def yX11_rule : MethodName := ⟨RX11, "rule", "(I)I"⟩
abbrev cX11_bar : ByteArray := prog_1_method_6_code
def yX11_bar : MethodName := ⟨RX11, "bar", "(III)I"⟩
abbrev cX11_may : ByteArray := prog_1_method_7_code
def yX11_may : MethodName := ⟨RX11, "may", "(II)I"⟩
abbrev cX11_out : ByteArray := prog_1_method_8_code
def yX11_out : MethodName := ⟨RX11, "out", "(II)I"⟩
abbrev cX11_comes : ByteArray := prog_1_method_9_code
def yX11_comes : MethodName := ⟨RX11, "comes", "(II)I"⟩
abbrev cX11_carries : ByteArray := prog_1_method_10_code
def yX11_carries : MethodName := ⟨RX11, "carries", "(I)I"⟩
abbrev cX11_waits : ByteArray := prog_1_method_11_code
def yX11_waits : MethodName := ⟨RX11, "waits", "(I)I"⟩
abbrev cX11_ring : ByteArray := prog_1_method_12_code
def yX11_ring : MethodName := ⟨RX11, "ring", "(I)I"⟩
abbrev cX11_rank : ByteArray := prog_1_method_13_code
def yX11_rank : MethodName := ⟨RX11, "rank", "(I)I"⟩
abbrev cX11_still : ByteArray := prog_1_method_14_code
def yX11_still : MethodName := ⟨RX11, "still", "(I)I"⟩
abbrev cX11_states : ByteArray := prog_1_method_15_code
def yX11_states : MethodName := ⟨RX11, "states", "(I)I"⟩
abbrev cX11_send : ByteArray := prog_1_method_16_code
def yX11_send : MethodName := ⟨RX11, "send", "(III)I"⟩
abbrev cX11_ticks : ByteArray := prog_1_method_17_code
def yX11_ticks : MethodName := ⟨RX11, "ticks", "(I)I"⟩
abbrev cX11_ofLoad : ByteArray := prog_1_method_18_code
def yX11_ofLoad : MethodName := ⟨RX11, "ofLoad", "(II)I"⟩
abbrev cX11_frozen : ByteArray := prog_1_method_19_code
def yX11_frozen : MethodName := ⟨RX11, "frozen", "()I"⟩
abbrev cX11_mend : ByteArray := prog_1_method_20_code
def yX11_mend : MethodName := ⟨RX11, "mend", "(I)I"⟩
abbrev cX11_bears : ByteArray := prog_1_method_21_code
def yX11_bears : MethodName := ⟨RX11, "bears", "(II)J"⟩
abbrev cX11_busiest : ByteArray := prog_1_method_22_code
def yX11_busiest : MethodName := ⟨RX11, "busiest", "()I"⟩
abbrev cX11_sheet : ByteArray := prog_1_method_23_code
def yX11_sheet : MethodName := ⟨RX11, "sheet", "(III)I"⟩
abbrev cX11_lose : ByteArray := prog_1_method_24_code
def yX11_lose : MethodName := ⟨RX11, "lose", "(I)I"⟩
abbrev cX11_put : ByteArray := prog_1_method_25_code
def yX11_put : MethodName := ⟨RX11, "put", "(III)I"⟩
abbrev cX11_cell : ByteArray := prog_1_method_26_code
def yX11_cell : MethodName := ⟨RX11, "cell", "(III)J"⟩
abbrev cX11_copy : ByteArray := prog_1_method_27_code
def yX11_copy : MethodName := ⟨RX11, "copy", "(IIIII)I"⟩
abbrev cX11_tell : ByteArray := prog_1_method_28_code
def yX11_tell : MethodName := ⟨RX11, "tell", "(I)I"⟩
abbrev cX11_stamp : ByteArray := prog_1_method_29_code
def yX11_stamp : MethodName := ⟨RX11, "stamp", "(I)I"⟩
abbrev cX11_as : ByteArray := prog_1_method_30_code
def yX11_as : MethodName := ⟨RX11, "as", "(II)I"⟩
abbrev cX11_trace : ByteArray := prog_1_method_31_code
def yX11_trace : MethodName := ⟨RX11, "trace", "()I"⟩
abbrev cX11_fault : ByteArray := prog_1_method_32_code
def yX11_fault : MethodName := ⟨RX11, "fault", "()I"⟩
abbrev cX11_many : ByteArray := prog_1_method_33_code
def yX11_many : MethodName := ⟨RX11, "many", "(I)I"⟩
abbrev cX11_fail : ByteArray := prog_1_method_34_code
def yX11_fail : MethodName := ⟨RX11, "fail", "(I)I"⟩
abbrev cX11_lost : ByteArray := prog_1_method_35_code
def yX11_lost : MethodName := ⟨RX11, "lost", "(I)J"⟩
abbrev cX11_leave : ByteArray := prog_1_method_36_code
def yX11_leave : MethodName := ⟨RX11, "leave", "(I)V"⟩
abbrev cX11_plainTelling : ByteArray := prog_1_method_37_code
def yX11_plainTelling : MethodName := ⟨RX11, "plainTelling", "(LLaneWaits$Load;)I"⟩
abbrev cX11_hastyTelling : ByteArray := prog_1_method_38_code
def yX11_hastyTelling : MethodName := ⟨RX11, "hastyTelling", "(LLaneWaits$Load;)I"⟩
abbrev cX11_sealedTelling : ByteArray := prog_1_method_39_code
def yX11_sealedTelling : MethodName := ⟨RX11, "sealedTelling", "(LLaneWaits$Load;)I"⟩
abbrev cX11_lentStamp : ByteArray := prog_1_method_40_code
def yX11_lentStamp : MethodName := ⟨RX11, "lentStamp", "(LLaneWaits$Load;)I"⟩
abbrev cX11_ownStamp : ByteArray := prog_1_method_41_code
def yX11_ownStamp : MethodName := ⟨RX11, "ownStamp", "()I"⟩
abbrev cX11_isKind : ByteArray := prog_1_method_42_code
def yX11_isKind : MethodName := ⟨RX11, "isKind", "(I)Z"⟩
abbrev cX11_has : ByteArray := prog_1_method_43_code
def yX11_has : MethodName := ⟨RX11, "has", "(II)Z"⟩
abbrev cX11_knot : ByteArray := prog_1_method_44_code
def yX11_knot : MethodName := ⟨RX11, "knot", "([III)I"⟩
def RX12 : String := "LaneWaitsModel"
def TX12 : u_T := fun k => match k with
  | 0 => ("LaneWaitsModel", "fault", "I", false)
  | 1 => ("LaneWaitsModel", "trace", "I", false)
  | 2 => ("LaneWaitsModel", "sorts", "[I", true)
  | 3 => ("LaneWaitsModel", "sheetLong", "[I", true)
  | 4 => ("LaneWaitsModel", "cells", "[I", true)
  | 5 => ("LaneWaitsModel", "nodes", "I", false)
  | 6 => ("LaneWaitsModel", "lanes", "I", false)
  | 7 => ("LaneWaitsModel", "from", "[I", true)
  | 8 => ("LaneWaitsModel", "to", "[I", true)
  | 9 => ("LaneWaitsModel", "room", "[I", true)
  | 10 => ("LaneWaitsModel", "barred", "[I", true)
  | 11 => ("LaneWaitsModel", "far", "[I", true)
  | 12 => ("LaneWaitsModel", "rule", "I", false)
  | 13 => ("LaneWaitsModel", "readNodes", "I", false)
  | 14 => ("LaneWaitsModel", "readLanes", "I", false)
  | 15 => ("LaneWaitsModel", "readFrom", "[I", true)
  | 16 => ("LaneWaitsModel", "readTo", "[I", true)
  | 17 => ("LaneWaitsModel", "readRoom", "[I", true)
  | 18 => ("LaneWaitsModel", "carried", "[I", true)
  | 19 => ("LaneWaitsModel", "waiting", "[I", true)
  | 20 => ("LaneWaitsModel", "ring", "[I", true)
  | 21 => ("LaneWaitsModel", "ringLong", "I", false)
  | 22 => ("LaneWaitsModel", "ranks", "[I", true)
  | 23 => ("LaneWaitsModel", "come", "[I", true)
  | 24 => ("LaneWaitsModel", "queue", "[I", true)
  | 25 => ("LaneWaitsModel", "queued", "I", false)
  | 26 => ("LaneWaitsModel", "content", "[I", true)
  | 27 => ("LaneWaitsModel", "loads", "I", false)
  | 28 => ("LaneWaitsModel", "loadKind", "[I", true)
  | 29 => ("LaneWaitsModel", "loadFrom", "[I", true)
  | 30 => ("LaneWaitsModel", "loadTo", "[I", true)
  | 31 => ("LaneWaitsModel", "loadLane", "[I", true)
  | 32 => ("LaneWaitsModel", "loadLanes", "[I", true)
  | 33 => ("LaneWaitsModel", "loadHome", "[I", true)
  | 34 => ("LaneWaitsModel", "loadMoved", "[I", true)
  | 35 => ("LaneWaitsModel", "standing", "[I", true)
  | 36 => ("LaneWaitsModel", "stands", "[I", true)
  | 37 => ("LaneWaitsModel", "laneMoved", "[I", true)
  | 38 => ("LaneWaitsModel", "tick", "I", false)
  | 39 => ("LaneWaitsModel", "turnFrom", "[I", true)
  | 40 => ("LaneWaitsModel", "turnTo", "[I", true)
  | 41 => ("LaneWaitsModel", "turns", "I", false)
  | 42 => ("LaneWaitsModel", "mendA", "I", false)
  | 43 => ("LaneWaitsModel", "mendB", "I", false)
  | 44 => ("LaneWaitsModel", "up", "[J", true)
  | 45 => ("LaneWaitsModel", "down", "[J", true)
  | 46 => ("LaneWaitsModel", "nextUp", "[J", true)
  | 47 => ("LaneWaitsModel", "nextDown", "[J", true)
  | 48 => ("LaneWaitsModel", "allUp", "[J", true)
  | _ => ("LaneWaitsModel", "allDown", "[J", true)
def tyX12 : Nat → FieldType := fun k => match k with
  | 0 => .int
  | 1 => .int
  | 2 => .array .int
  | 3 => .array .int
  | 4 => .array .int
  | 5 => .int
  | 6 => .int
  | 7 => .array .int
  | 8 => .array .int
  | 9 => .array .int
  | 10 => .array .int
  | 11 => .array .int
  | 12 => .int
  | 13 => .int
  | 14 => .int
  | 15 => .array .int
  | 16 => .array .int
  | 17 => .array .int
  | 18 => .array .int
  | 19 => .array .int
  | 20 => .array .int
  | 21 => .int
  | 22 => .array .int
  | 23 => .array .int
  | 24 => .array .int
  | 25 => .int
  | 26 => .array .int
  | 27 => .int
  | 28 => .array .int
  | 29 => .array .int
  | 30 => .array .int
  | 31 => .array .int
  | 32 => .array .int
  | 33 => .array .int
  | 34 => .array .int
  | 35 => .array .int
  | 36 => .array .int
  | 37 => .array .int
  | 38 => .int
  | 39 => .array .int
  | 40 => .array .int
  | 41 => .int
  | 42 => .int
  | 43 => .int
  | 44 => .array .long
  | 45 => .array .long
  | 46 => .array .long
  | 47 => .array .long
  | 48 => .array .long
  | _ => .array .long
abbrev wsX120 : List Cond := u_ws RX12 TX12 50
theorem nmX12 : ∀ a, a < 50 → ∀ b, b < 50 → a ≠ b → (TX12 a).2.1 ≠ (TX12 b).2.1 := by decide +kernel
theorem tyX12_ok : ∀ k, k < 50 → parseFieldDescriptor (TX12 k).2.2.1 = some (tyX12 k) := by decide +kernel
abbrev cX12_init : ByteArray := prog_14_method_1_code
def yX12_init : MethodName := ⟨RX12, "<init>", "()V"⟩
abbrev cX12_fails : ByteArray := prog_14_method_3_code
def yX12_fails : MethodName := ⟨RX12, "fails", "(I)I"⟩
abbrev cX12_lost : ByteArray := prog_14_method_4_code
def yX12_lost : MethodName := ⟨RX12, "lost", "(I)J"⟩
abbrev cX12_within : ByteArray := prog_14_method_5_code
def yX12_within : MethodName := ⟨RX12, "within", "(III)Z"⟩
abbrev cX12_has : ByteArray := prog_14_method_6_code
def yX12_has : MethodName := ⟨RX12, "has", "(II)Z"⟩
abbrev cX12_bitsOf : ByteArray := prog_14_method_7_code
def yX12_bitsOf : MethodName := ⟨RX12, "bitsOf", "(I)I"⟩
abbrev cX12_isSheet : ByteArray := prog_14_method_9_code
def yX12_isSheet : MethodName := ⟨RX12, "isSheet", "(I)Z"⟩
abbrev cX12_isSort : ByteArray := prog_14_method_10_code
def yX12_isSort : MethodName := ⟨RX12, "isSort", "(I)Z"⟩
abbrev cX12_isNode : ByteArray := prog_14_method_11_code
def yX12_isNode : MethodName := ⟨RX12, "isNode", "(I)Z"⟩
abbrev cX12_isLane : ByteArray := prog_14_method_12_code
def yX12_isLane : MethodName := ⟨RX12, "isLane", "(I)Z"⟩
abbrev cX12_net : ByteArray := prog_14_method_13_code
def yX12_net : MethodName := ⟨RX12, "net", "(IIII)I"⟩
abbrev cX12_digitAt : ByteArray := prog_14_method_14_code
def yX12_digitAt : MethodName := ⟨RX12, "digitAt", "(II)I"⟩
abbrev cX12_readNet : ByteArray := prog_14_method_15_code
def yX12_readNet : MethodName := ⟨RX12, "readNet", "(II)I"⟩
abbrev cX12_layFar : ByteArray := prog_14_method_16_code
def yX12_layFar : MethodName := ⟨RX12, "layFar", "()V"⟩
abbrev cX12_ofLane : ByteArray := prog_14_method_17_code
def yX12_ofLane : MethodName := ⟨RX12, "ofLane", "(II)I"⟩
abbrev cX12_far : ByteArray := prog_14_method_18_code
def yX12_far : MethodName := ⟨RX12, "far", "(II)I"⟩
abbrev cX12_rule : ByteArray := prog_14_method_19_code
def yX12_rule : MethodName := ⟨RX12, "rule", "(I)I"⟩
abbrev cX12_bar : ByteArray := prog_14_method_20_code
def yX12_bar : MethodName := ⟨RX12, "bar", "(III)I"⟩
abbrev cX12_takes : ByteArray := prog_14_method_21_code
def yX12_takes : MethodName := ⟨RX12, "takes", "(II)I"⟩
abbrev cX12_may : ByteArray := prog_14_method_22_code
def yX12_may : MethodName := ⟨RX12, "may", "(II)I"⟩
abbrev cX12_out : ByteArray := prog_14_method_23_code
def yX12_out : MethodName := ⟨RX12, "out", "(II)I"⟩
abbrev cX12_comesInto : ByteArray := prog_14_method_24_code
def yX12_comesInto : MethodName := ⟨RX12, "comesInto", "(II)I"⟩
abbrev cX12_goesRound : ByteArray := prog_14_method_25_code
def yX12_goesRound : MethodName := ⟨RX12, "goesRound", "(II)Z"⟩
abbrev cX12_comesBy : ByteArray := prog_14_method_26_code
def yX12_comesBy : MethodName := ⟨RX12, "comesBy", "(II)I"⟩
abbrev cX12_comes : ByteArray := prog_14_method_27_code
def yX12_comes : MethodName := ⟨RX12, "comes", "(II)I"⟩
abbrev cX12_allCome : ByteArray := prog_14_method_28_code
def yX12_allCome : MethodName := ⟨RX12, "allCome", "()Z"⟩
abbrev cX12_layCarried : ByteArray := prog_14_method_29_code
def yX12_layCarried : MethodName := ⟨RX12, "layCarried", "()V"⟩
abbrev cX12_layWaiting : ByteArray := prog_14_method_30_code
def yX12_layWaiting : MethodName := ⟨RX12, "layWaiting", "()V"⟩
abbrev cX12_carries : ByteArray := prog_14_method_31_code
def yX12_carries : MethodName := ⟨RX12, "carries", "(I)I"⟩
abbrev cX12_waits : ByteArray := prog_14_method_32_code
def yX12_waits : MethodName := ⟨RX12, "waits", "(I)I"⟩
abbrev cX12_isAhead : ByteArray := prog_14_method_33_code
def yX12_isAhead : MethodName := ⟨RX12, "isAhead", "(II)Z"⟩
abbrev cX12_findRing : ByteArray := prog_14_method_34_code
def yX12_findRing : MethodName := ⟨RX12, "findRing", "(I)Z"⟩
abbrev cX12_hasRing : ByteArray := prog_14_method_35_code
def yX12_hasRing : MethodName := ⟨RX12, "hasRing", "()Z"⟩
abbrev cX12_ring : ByteArray := prog_14_method_36_code
def yX12_ring : MethodName := ⟨RX12, "ring", "(I)I"⟩
abbrev cX12_rank : ByteArray := prog_14_method_37_code
def yX12_rank : MethodName := ⟨RX12, "rank", "(I)I"⟩
abbrev cX12_standsStill : ByteArray := prog_14_method_38_code
def yX12_standsStill : MethodName := ⟨RX12, "standsStill", "(II)Z"⟩
abbrev cX12_isStill : ByteArray := prog_14_method_39_code
def yX12_isStill : MethodName := ⟨RX12, "isStill", "(I)Z"⟩
abbrev cX12_allStill : ByteArray := prog_14_method_40_code
def yX12_allStill : MethodName := ⟨RX12, "allStill", "()I"⟩
abbrev cX12_still : ByteArray := prog_14_method_41_code
def yX12_still : MethodName := ⟨RX12, "still", "(I)I"⟩
abbrev cX12_enter : ByteArray := prog_14_method_42_code
def yX12_enter : MethodName := ⟨RX12, "enter", "(II)V"⟩
abbrev cX12_fives : ByteArray := prog_14_method_43_code
def yX12_fives : MethodName := ⟨RX12, "fives", "(I)I"⟩
abbrev cX12_layContent : ByteArray := prog_14_method_44_code
def yX12_layContent : MethodName := ⟨RX12, "layContent", "(I)V"⟩
abbrev cX12_goOn : ByteArray := prog_14_method_45_code
def yX12_goOn : MethodName := ⟨RX12, "goOn", "(IIII)V"⟩
abbrev cX12_stepFrom : ByteArray := prog_14_method_46_code
def yX12_stepFrom : MethodName := ⟨RX12, "stepFrom", "(I)V"⟩
abbrev cX12_isDead : ByteArray := prog_14_method_47_code
def yX12_isDead : MethodName := ⟨RX12, "isDead", "(I)Z"⟩
abbrev cX12_isSmall : ByteArray := prog_14_method_48_code
def yX12_isSmall : MethodName := ⟨RX12, "isSmall", "()Z"⟩
abbrev cX12_states : ByteArray := prog_14_method_49_code
def yX12_states : MethodName := ⟨RX12, "states", "(I)I"⟩
abbrev cX12_isLoad : ByteArray := prog_14_method_50_code
def yX12_isLoad : MethodName := ⟨RX12, "isLoad", "(I)Z"⟩
abbrev cX12_laneFor : ByteArray := prog_14_method_51_code
def yX12_laneFor : MethodName := ⟨RX12, "laneFor", "(II)I"⟩
abbrev cX12_comesIn : ByteArray := prog_14_method_52_code
def yX12_comesIn : MethodName := ⟨RX12, "comesIn", "(II)V"⟩
abbrev cX12_send : ByteArray := prog_14_method_53_code
def yX12_send : MethodName := ⟨RX12, "send", "(III)I"⟩
abbrev cX12_leaves : ByteArray := prog_14_method_54_code
def yX12_leaves : MethodName := ⟨RX12, "leaves", "(I)V"⟩
abbrev cX12_goFrom : ByteArray := prog_14_method_55_code
def yX12_goFrom : MethodName := ⟨RX12, "goFrom", "(I)I"⟩
abbrev cX12_pass : ByteArray := prog_14_method_56_code
def yX12_pass : MethodName := ⟨RX12, "pass", "(Z)I"⟩
abbrev cX12_ticks : ByteArray := prog_14_method_57_code
def yX12_ticks : MethodName := ⟨RX12, "ticks", "(I)I"⟩
abbrev cX12_ofLoad : ByteArray := prog_14_method_58_code
def yX12_ofLoad : MethodName := ⟨RX12, "ofLoad", "(II)I"⟩
abbrev cX12_isHeld : ByteArray := prog_14_method_59_code
def yX12_isHeld : MethodName := ⟨RX12, "isHeld", "(II)Z"⟩
abbrev cX12_frozen : ByteArray := prog_14_method_60_code
def yX12_frozen : MethodName := ⟨RX12, "frozen", "()I"⟩
abbrev cX12_isMended : ByteArray := prog_14_method_61_code
def yX12_isMended : MethodName := ⟨RX12, "isMended", "()Z"⟩
abbrev cX12_layTurns : ByteArray := prog_14_method_62_code
def yX12_layTurns : MethodName := ⟨RX12, "layTurns", "()V"⟩
abbrev cX12_barTurn : ByteArray := prog_14_method_63_code
def yX12_barTurn : MethodName := ⟨RX12, "barTurn", "(I)V"⟩
abbrev cX12_findMends : ByteArray := prog_14_method_64_code
def yX12_findMends : MethodName := ⟨RX12, "findMends", "()I"⟩
abbrev cX12_mend : ByteArray := prog_14_method_65_code
def yX12_mend : MethodName := ⟨RX12, "mend", "(I)I"⟩
abbrev cX12_common : ByteArray := prog_14_method_66_code
def yX12_common : MethodName := ⟨RX12, "common", "(JJ)J"⟩
abbrev cX12_add : ByteArray := prog_14_method_67_code
def yX12_add : MethodName := ⟨RX12, "add", "([J[JIJJ)V"⟩
abbrev cX12_clear : ByteArray := prog_14_method_68_code
def yX12_clear : MethodName := ⟨RX12, "clear", "([J[J)V"⟩
abbrev cX12_part : ByteArray := prog_14_method_69_code
def yX12_part : MethodName := ⟨RX12, "part", "(IJJ)V"⟩
abbrev cX12_takeNext : ByteArray := prog_14_method_70_code
def yX12_takeNext : MethodName := ⟨RX12, "takeNext", "()V"⟩
abbrev cX12_layBears : ByteArray := prog_14_method_71_code
def yX12_layBears : MethodName := ⟨RX12, "layBears", "()V"⟩
abbrev cX12_bears : ByteArray := prog_14_method_72_code
def yX12_bears : MethodName := ⟨RX12, "bears", "(II)J"⟩
abbrev cX12_busiest : ByteArray := prog_14_method_73_code
def yX12_busiest : MethodName := ⟨RX12, "busiest", "()I"⟩
abbrev cX12_sheet : ByteArray := prog_14_method_74_code
def yX12_sheet : MethodName := ⟨RX12, "sheet", "(III)I"⟩
abbrev cX12_lose : ByteArray := prog_14_method_75_code
def yX12_lose : MethodName := ⟨RX12, "lose", "(I)I"⟩
abbrev cX12_put : ByteArray := prog_14_method_76_code
def yX12_put : MethodName := ⟨RX12, "put", "(III)I"⟩
abbrev cX12_cell : ByteArray := prog_14_method_77_code
def yX12_cell : MethodName := ⟨RX12, "cell", "(III)J"⟩
abbrev cX12_copy : ByteArray := prog_14_method_78_code
def yX12_copy : MethodName := ⟨RX12, "copy", "(IIIII)I"⟩
abbrev cX12_begins : ByteArray := prog_14_method_79_code
def yX12_begins : MethodName := ⟨RX12, "begins", "(I)V"⟩
abbrev cX12_tell : ByteArray := prog_14_method_80_code
def yX12_tell : MethodName := ⟨RX12, "tell", "(I)I"⟩
abbrev cX12_stamp : ByteArray := prog_14_method_81_code
def yX12_stamp : MethodName := ⟨RX12, "stamp", "(I)I"⟩
abbrev cX12_as : ByteArray := prog_14_method_82_code
def yX12_as : MethodName := ⟨RX12, "as", "(II)I"⟩
abbrev cX12_trace : ByteArray := prog_14_method_83_code
def yX12_trace : MethodName := ⟨RX12, "trace", "()I"⟩
abbrev cX12_fault : ByteArray := prog_14_method_84_code
def yX12_fault : MethodName := ⟨RX12, "fault", "()I"⟩
abbrev cX12_many : ByteArray := prog_14_method_85_code
def yX12_many : MethodName := ⟨RX12, "many", "(I)I"⟩
def RJ6 : String := "java/lang/Integer"
def TJ6 : u_T := fun k => match k with
  | _ => ("", "", "", false)
def tyJ6 : Nat → FieldType := fun k => match k with
  | _ => .int
abbrev wsJ60 : List Cond := u_ws RJ6 TJ6 0
theorem nmJ6 : ∀ a, a < 0 → ∀ b, b < 0 → a ≠ b → (TJ6 a).2.1 ≠ (TJ6 b).2.1 := by decide +kernel
theorem tyJ6_ok : ∀ k, k < 0 → parseFieldDescriptor (TJ6 k).2.2.1 = some (tyJ6 k) := by decide +kernel
abbrev cJ6_lowestOneBit_0f7a4 : ByteArray := prog_15_method_46_code
def yJ6_lowestOneBit_0f7a4 : MethodName := ⟨RJ6, "lowestOneBit", "(I)I"⟩
abbrev cJ6_numberOfTrailingZeros_0f7a4 : ByteArray := prog_15_method_48_code
def yJ6_numberOfTrailingZeros_0f7a4 : MethodName := ⟨RJ6, "numberOfTrailingZeros", "(I)I"⟩
abbrev cJ6_bitCount_0f7a4 : ByteArray := prog_15_method_49_code
def yJ6_bitCount_0f7a4 : MethodName := ⟨RJ6, "bitCount", "(I)I"⟩
def RJ9 : String := "java/lang/Math"
def TJ9 : u_T := fun k => match k with
  | _ => ("", "", "", false)
def tyJ9 : Nat → FieldType := fun k => match k with
  | _ => .int
abbrev wsJ90 : List Cond := u_ws RJ9 TJ9 0
theorem nmJ9 : ∀ a, a < 0 → ∀ b, b < 0 → a ≠ b → (TJ9 a).2.1 ≠ (TJ9 b).2.1 := by decide +kernel
theorem tyJ9_ok : ∀ k, k < 0 → parseFieldDescriptor (TJ9 k).2.2.1 = some (tyJ9 k) := by decide +kernel
abbrev cJ9_abs_067f4 : ByteArray := prog_16_method_61_code
def yJ9_abs_067f4 : MethodName := ⟨RJ9, "abs", "(J)J"⟩
abbrev cJ9_max_7cf53 : ByteArray := prog_16_method_65_code
def yJ9_max_7cf53 : MethodName := ⟨RJ9, "max", "(II)I"⟩
abbrev cJ9_max_f86c9 : ByteArray := prog_16_method_66_code
def yJ9_max_f86c9 : MethodName := ⟨RJ9, "max", "(JJ)J"⟩
def RJ10 : String := "java/lang/System"
def TJ10 : u_T := fun k => match k with
  | _ => ("", "", "", false)
def tyJ10 : Nat → FieldType := fun k => match k with
  | _ => .int
abbrev wsJ100 : List Cond := u_ws RJ10 TJ10 0
theorem nmJ10 : ∀ a, a < 0 → ∀ b, b < 0 → a ≠ b → (TJ10 a).2.1 ≠ (TJ10 b).2.1 := by decide +kernel
theorem tyJ10_ok : ∀ k, k < 0 → parseFieldDescriptor (TJ10 k).2.2.1 = some (tyJ10 k) := by decide +kernel
def RJ7 : String := "java/util/Arrays"
def TJ7 : u_T := fun k => match k with
  | _ => ("", "", "", false)
def tyJ7 : Nat → FieldType := fun k => match k with
  | _ => .int
abbrev wsJ70 : List Cond := u_ws RJ7 TJ7 0
theorem nmJ7 : ∀ a, a < 0 → ∀ b, b < 0 → a ≠ b → (TJ7 a).2.1 ≠ (TJ7 b).2.1 := by decide +kernel
theorem tyJ7_ok : ∀ k, k < 0 → parseFieldDescriptor (TJ7 k).2.2.1 = some (tyJ7 k) := by decide +kernel
abbrev cJ7_fill_d0a16 : ByteArray := prog_18_method_101_code
def yJ7_fill_d0a16 : MethodName := ⟨RJ7, "fill", "([JJ)V"⟩
abbrev cJ7_fill_53178 : ByteArray := prog_18_method_103_code
def yJ7_fill_53178 : MethodName := ⟨RJ7, "fill", "([II)V"⟩
def RL : String := "LaneWaitsLaw"
abbrev cL_law : ByteArray := code
def yL_law : MethodName := ⟨RL, "law", "([I)Z"⟩
abbrev vwCl : List vw_C := [(RX0, TX0, 8), (RX1, TX1, 8), (RX2, TX2, 9), (RX3, TX3, 9), (RX4, TX4, 3), (RX5, TX5, 13), (RX6, TX6, 8), (RX7, TX7, 6), (RX8, TX8, 7), (RX9, TX9, 11), (RX10, TX10, 6), (RX11, TX11, 12), (RX12, TX12, 50)]
end
section
/-! ===== the small machine's memory, and the heap that holds it ===== -/
/-- the kind of a field: 0 int, 1 boolean, 2 a reference -/
def jv_fts : List (List Nat) := [[2, 2, 2, 2, 2, 2, 2, 0], [0, 0, 0, 0, 0, 0, 0, 0], [2, 2, 2, 2, 2, 2, 2, 0, 0], [0, 0, 2, 2, 2, 2, 2, 2, 2], [2, 2, 2], [2, 2, 2, 2, 2, 2, 2, 2, 1, 0, 0, 0, 0], [2, 2, 2, 2, 2, 0, 0, 0], [2, 2, 2, 0, 0, 0], [2, 2, 2, 2, 2, 0, 0], [2, 2, 2, 2, 2, 2, 2, 2, 1, 0, 0], [2, 2, 2, 2, 0, 0], [2, 2, 2, 2, 2, 2, 2, 2, 2, 2, 0, 0], [0, 0, 2, 2, 2, 0, 0, 2, 2, 2, 2, 2, 0, 0, 0, 2, 2, 2, 2, 2, 2, 0, 2, 2, 2, 0, 2, 0, 2, 2, 2, 2, 2, 2, 2, 2, 2, 2, 0, 2, 2, 0, 0, 0, 2, 2, 2, 2, 2, 2]]
def jv_ft (ci k : Nat) : Nat := (jv_fts.getD ci []).getD k 0
def jr_ad (s0 b : Nat) : Nat → Nat
  | 0 => b
  | j + 1 => s0 + j
def jr_V (s0 b : Nat) (L : jv_L) (a : jv_V) (v : Value) : Prop := match a with
  | .inl i => ∃ w : Int32, v = .int w ∧ w.toInt = i
  | .inr (.inl i) => ∃ w : Int64, v = .long w ∧ w.toInt = i
  | .inr (.inr (.inl p)) => p < L.length ∧ v = .ref (jr_ad s0 b p)
  | .inr (.inr (.inr (.inl (p, i)))) => ∃ n m : Nat, L[p]? = some (2, n, [m]) ∧ 0 ≤ i ∧ i < Int.ofNat n ∧ v = .ref (jr_ad s0 b (p + 1 + i.toNat))
  | .inr (.inr (.inr (.inr (.inl q)))) => (q = 0 ∧ v = .null) ∨ (0 < q ∧ L[(q - 1).toNat]? = some (11, 8, []) ∧ v = .ref (jr_ad s0 b (q - 1).toNat))
  | _ => True
/-- what an entry of the layout keeps -/
def jr_le (L L' : jv_L) : Prop := L.length ≤ L'.length ∧ ∀ (p kd n : Nat) (rs : List Nat), L[p]? = some (kd, n, rs) → ∃ rs', L'[p]? = some (kd, n, rs') ∧ ((kd < 10 ∨ (kd = 11 ∧ rs = [])) → rs' = rs)
theorem jr_le.rf {L : jv_L} : jr_le L L := ⟨Nat.le_refl _, fun _ _ _ rs h => ⟨rs, h, fun _ => rfl⟩⟩
theorem jr_le.tr {L L1 L2 : jv_L} (h1 : jr_le L L1) (h2 : jr_le L1 L2) : jr_le L L2 := by
  refine ⟨Nat.le_trans h1.1 h2.1, fun p kd n rs h => ?_⟩
  obtain ⟨r1, e1, k1⟩ := h1.2 p kd n rs h
  obtain ⟨r2, e2, k2⟩ := h2.2 p kd n r1 e1
  refine ⟨r2, e2, fun hk => ?_⟩
  have := k1 hk
  subst this
  exact k2 hk
theorem jr_le.app (L M : jv_L) : jr_le L (L ++ M) := by
  refine ⟨by simp, fun p kd n rs h => ⟨rs, ?_, fun _ => rfl⟩⟩
  have hp : p < L.length := (List.getElem?_eq_some_iff.mp h).1
  rw [List.getElem?_append_left hp]
  exact h
theorem jr_le.set {L : jv_L} {p kd n : Nat} {rs rs' : List Nat} (h : L[p]? = some (kd, n, rs)) (hk : (kd < 10 ∨ (kd = 11 ∧ rs = [])) → rs' = rs) : jr_le L (L.set p (kd, n, rs')) := by
  have hp : p < L.length := (List.getElem?_eq_some_iff.mp h).1
  refine ⟨by simp, fun q kd' n' r h' => ?_⟩
  by_cases e : q = p
  · subst e
    rw [h] at h'
    cases h'
    exact ⟨rs', by simp [List.getElem?_set, hp], hk⟩
  · exact ⟨r, by rw [List.getElem?_set_ne (Ne.symm e)]; exact h', fun _ => rfl⟩
theorem jr_le.at0 {L L' : jv_L} (h : jr_le L L') {p kd n : Nat} {rs : List Nat} (hk : kd < 10 ∨ (kd = 11 ∧ rs = [])) (e : L[p]? = some (kd, n, rs)) : L'[p]? = some (kd, n, rs) := by
  obtain ⟨r, e1, e2⟩ := h.2 p kd n rs e
  rw [e2 hk] at e1
  exact e1
theorem jr_V.mono {s0 b : Nat} {L L' : jv_L} (h : jr_le L L') {a : jv_V} {v : Value} (hv : jr_V s0 b L a v) : jr_V s0 b L' a v := by
  rcases a with i | i | p | ⟨p, i⟩ | q | u
  · exact hv
  · exact hv
  · exact ⟨Nat.lt_of_lt_of_le hv.1 h.1, hv.2⟩
  · obtain ⟨n, m, e1, e2⟩ := hv
    exact ⟨n, m, h.at0 (Or.inl (by decide)) e1, e2⟩
  · rcases hv with hv | ⟨h1, h2, h3⟩
    · exact Or.inl hv
    · exact Or.inr ⟨h1, h.at0 (Or.inr ⟨rfl, rfl⟩) h2, h3⟩
  · trivial
/-- 0 int, 1 long, 2 a load, 3 a reference: what slot i of a place holds -/
def jr_tg (d : Nat × Nat × List Nat) (i : Nat) : Nat := match d.1 with
  | 0 => 0
  | 1 => 1
  | 2 => 3
  | 3 => 2
  | 4 => 0
  | 5 => 0
  | kd => if jv_ft (kd - 10) i = 2 then 3 else 0
/-- where its number stands -/
def jr_lo (p : Nat) (d : Nat × Nat × List Nat) (i : Nat) : Nat × Int := match d with
  | (4, m, [a, j]) => (a, Int.ofNat j * Int.ofNat m + Int.ofNat i)
  | (11, _, _) => (1000, 8 * (Int.ofNat p + 1) + Int.ofNat i)
  | _ => (p, Int.ofNat i)
def jr_vt (t : Nat) (x : Int) : jv_V := match t with
  | 0 => jv_I x
  | 1 => jv_J x
  | _ => jv_D x
def jr_ct (g : jv_S) (p : Nat) (d : Nat × Nat × List Nat) (i : Nat) : jv_V := match jr_tg d i with
  | 3 => match d.1 with
    | 2 => jv_R p (Int.ofNat i)
    | _ => match d.2.2.getD i 0 with
      | 0 => jv_U
      | q + 1 => jv_P (q + 1)
  | t => jr_vt t (g (jr_lo p d i).1 (jr_lo p d i).2)
def jr_ty (kd : Nat) : FieldType := match kd with
  | 1 => .long
  | 2 => .array .int
  | 3 => .object "LaneWaits$Load"
  | _ => .int
def jr_si (D : va_G) (kd i : Nat) : Nat := if kd < 10 then i else D.2 (kd - 10) i
/-- the shape of a cell: an array of its type and length, or an object of its class -/
def jr_sh (D : va_G) (U : State) (d : Nat × Nat × List Nat) (cell : Cell) : Prop := cell.vm = .none ∧
  ((d.1 < 5 ∧ (∃ f : Nat → Value, cell = arrV cell.cls d.2.1 f) ∧ U.isArrayOf cell (jr_ty d.1) ∧ (d.1 = 3 → va_RA U cell.cls (.object "LaneWaits$Load"))) ∨ (10 ≤ d.1 ∧ cell.cls = D.1 (d.1 - 10) ∧ ∃ r : vw_C, vwCl[d.1 - 10]? = some r ∧ r.2.2 = d.2.1))
def jr_C (s0 b : Nat) (D : va_G) (U : State) (L : jv_L) (g : jv_S) (p : Nat) (d : Nat × Nat × List Nat) (H : Heap) : Prop := ∃ cell : Cell, H[jr_ad s0 b p]? = some cell ∧ jr_sh D U d cell ∧ ∀ i : Nat, i < d.2.1 → ∃ v : Value, cell.slots[jr_si D d.1 i]? = some v ∧ jr_V s0 b L (jr_ct g p d i) v
/-- tables of rows and their rows -/
def jr_W (L : jv_L) : Prop := (∀ (a n : Nat) (rs : List Nat), L[a]? = some (2, n, rs) → ∃ m, rs = [m] ∧ ∀ j, j < n → L[a + 1 + j]? = some (4, m, [a, j])) ∧ (∀ (p m : Nat) (rs : List Nat), L[p]? = some (4, m, rs) → ∃ a j n, rs = [a, j] ∧ p = a + 1 + j ∧ L[a]? = some (2, n, [m]) ∧ j < n) ∧ (∀ (p m : Nat) (rs : List Nat), L[p]? = some (11, m, rs) → m = 8 ∧ rs = []) ∧ ∀ (p : Nat) (d : Nat × Nat × List Nat), L[p]? = some d → d.2.1 < 2147483648
/-- the heap holds the memory (L, g); b: the script's address, s0: the first of the rest's -/
def jr_M (s0 b n : Nat) (xs : Nat → Int32) (D : va_G) (U : State) (L : jv_L) (g : jv_S) (H : Heap) : Prop :=
  L[0]? = some (5, n, []) ∧ H.size + 1 = s0 + L.length ∧ L.length ≤ 999 ∧ b < s0 ∧ va_X b n xs U H ∧ (∀ i : Nat, i < n → (xs i).toInt = g 0 (Int.ofNat i)) ∧ jr_W L ∧ (∀ (p : Nat) (d : Nat × Nat × List Nat), L[p + 1]? = some d → d.1 ≠ 5) ∧ ∀ (p : Nat) (d : Nat × Nat × List Nat), L[p + 1]? = some d → jr_C s0 b D U L g (p + 1) d H
theorem jr_sh.moved {D : va_G} {u U : State} (hvm : u.vm.Alike U.vm) {d : Nat × Nat × List Nat} {cell : Cell} (h : jr_sh D u d cell) : jr_sh D U d cell := by
  refine ⟨h.1, ?_⟩
  rcases h.2 with ⟨h1, h2, h3, h4⟩ | h1
  · exact Or.inl ⟨h1, h2, State.isArrayOf_alike hvm h3, fun e => (h4 e).moved hvm⟩
  · exact Or.inr h1
theorem jr_M.moved {s0 b n : Nat} {xs : Nat → Int32} {D : va_G} {u U : State} {L : jv_L} {g : jv_S} {H : Heap} (hvm : u.vm.Alike U.vm) (h : jr_M s0 b n xs D u L g H) : jr_M s0 b n xs D U L g H := by
  obtain ⟨h1, h2, h3, h4, h5, h6, h7, h8, h9⟩ := h
  refine ⟨h1, h2, h3, h4, h5.moved hvm, h6, h7, h8, fun p d e => ?_⟩
  obtain ⟨cell, c1, c2, c3⟩ := h9 p d e
  exact ⟨cell, c1, c2.moved hvm, c3⟩
theorem jr_sh.setSlot {D : va_G} {U : State} {d : Nat × Nat × List Nat} {cell : Cell} (h : jr_sh D U d cell) (i : Nat) (v : Value) : jr_sh D U d (cell.setSlot i v) := by
  refine ⟨h.1, ?_⟩
  rcases h.2 with ⟨h1, h2, h3, h4⟩ | h1
  · obtain ⟨f, hf⟩ := h2
    refine Or.inl ⟨h1, ⟨updV f i v, ?_⟩, h3, h4⟩
    show cell.setSlot i v = arrV cell.cls d.2.1 (updV f i v)
    rw [← arrV_store, ← hf]
  · exact Or.inr h1
theorem jr_ad_inj {s0 b : Nat} (hb : b < s0) {p q : Nat} (h : jr_ad s0 b p = jr_ad s0 b q) : p = q := by
  cases p <;> cases q <;> simp [jr_ad] at h <;> omega
/-- two slots' numbers stand apart -/
theorem jr_lo_ne {L : jv_L} (hW : jr_W L) (h999 : L.length ≤ 999) {p q i j : Nat} {d e : Nat × Nat × List Nat} (hp : L[p]? = some d) (hq : L[q]? = some e) (hi : i < d.2.1) (hj : j < e.2.1) (hd : d.1 ≠ 2) (he : e.1 ≠ 2) (h8 : d.1 = 11 → d.2.1 = 8) (h8' : e.1 = 11 → e.2.1 = 8) (h : jr_lo p d i = jr_lo q e j) : p = q ∧ i = j := by
  have hpl : p < L.length := (List.getElem?_eq_some_iff.mp hp).1
  have hql : q < L.length := (List.getElem?_eq_some_iff.mp hq).1
  obtain ⟨kd, dn, dr⟩ := d
  obtain ⟨ke, en, er⟩ := e
  dsimp only at hi hj hd he h8 h8'
  by_cases d4 : kd = 4
  · subst d4
    obtain ⟨a, r, n, rfl, ep, ea, hr⟩ := hW.2.1 p dn dr hp
    have hal : a < L.length := (List.getElem?_eq_some_iff.mp ea).1
    by_cases e4 : ke = 4
    · subst e4
      obtain ⟨a', r', n', rfl, ep', ea', hr'⟩ := hW.2.1 q en er hq
      simp only [jr_lo, Prod.mk.injEq] at h
      obtain ⟨rfl, h⟩ := h
      rw [ea] at ea'
      cases ea'
      have h' : r * dn + i = r' * dn + j := by
        have : ((r * dn + i : Nat) : Int) = ((r' * dn + j : Nat) : Int) := by push_cast; simpa using h
        exact Int.ofNat.inj this
      have hm : 0 < dn := by omega
      have q1 : (r * dn + i) / dn = r := by rw [Nat.mul_comm, Nat.mul_add_div hm, Nat.div_eq_of_lt hi, Nat.add_zero]
      have q2 : (r' * dn + j) / dn = r' := by rw [Nat.mul_comm, Nat.mul_add_div hm, Nat.div_eq_of_lt hj, Nat.add_zero]
      have : r = r' := by rw [← q1, ← q2, h']
      subst this
      omega
    · exfalso
      have hne : a ≠ q := by
        intro e
        subst e
        rw [ea] at hq
        cases hq
        exact he rfl
      have h2 : jr_lo p (4, dn, [a, r]) i = (a, Int.ofNat r * Int.ofNat dn + Int.ofNat i) := rfl
      rw [h2] at h
      have hf := congrArg Prod.fst h
      unfold jr_lo at hf
      split at hf
      · next e2 => cases e2; exact e4 rfl
      · dsimp only at hf; omega
      · exact hne hf
  · by_cases e4 : ke = 4
    · subst e4
      obtain ⟨a', r', n', rfl, ep', ea', hr'⟩ := hW.2.1 q en er hq
      have hal : a' < L.length := (List.getElem?_eq_some_iff.mp ea').1
      exfalso
      have hne : a' ≠ p := by
        intro e
        subst e
        rw [ea'] at hp
        cases hp
        exact hd rfl
      have h2 : jr_lo q (4, en, [a', r']) j = (a', Int.ofNat r' * Int.ofNat en + Int.ofNat j) := rfl
      rw [h2] at h
      have hf := congrArg Prod.fst h
      unfold jr_lo at hf
      split at hf
      · next e2 => cases e2; exact d4 rfl
      · dsimp only at hf; omega
      · exact hne hf.symm
    · have g1 : jr_lo p (kd, dn, dr) i = if kd = 11 then (1000, 8 * (Int.ofNat p + 1) + Int.ofNat i) else (p, Int.ofNat i) := by
        unfold jr_lo
        split
        · next e => cases e; exact absurd rfl d4
        · next e => cases e; simp
        · next e1 e2 => rw [if_neg]; rintro rfl; exact e2 _ _ rfl
      have g2 : jr_lo q (ke, en, er) j = if ke = 11 then (1000, 8 * (Int.ofNat q + 1) + Int.ofNat j) else (q, Int.ofNat j) := by
        unfold jr_lo
        split
        · next e => cases e; exact absurd rfl e4
        · next e => cases e; simp
        · next e1 e2 => rw [if_neg]; rintro rfl; exact e2 _ _ rfl
      rw [g1, g2] at h
      by_cases k1 : kd = 11 <;> by_cases k2 : ke = 11 <;> simp [k1, k2] at h
      · have := h8 k1
        have := h8' k2
        omega
      · omega
      · omega
      · omega
/-- a slot that holds a number gets another -/
theorem jr_M.put {s0 b n : Nat} {xs : Nat → Int32} {D : va_G} {U : State} {L : jv_L} {g : jv_S} {H H' : Heap} (hM : jr_M s0 b n xs D U L g H) {p i : Nat} {d : Nat × Nat × List Nat} (hp : L[p + 1]? = some d) (hi : i < d.2.1) {t : Nat} (ht : jr_tg d i = t) (ht3 : t ≠ 3) {x : Int} {v : Value} (hv : jr_V s0 b L (jr_vt t x) v) {cell : Cell} (hc : H[jr_ad s0 b (p + 1)]? = some cell)
    (hap : ∀ j, j < d.2.1 → j ≠ i → jr_si D d.1 j ≠ jr_si D d.1 i) (e1 : H'[jr_ad s0 b (p + 1)]? = some (cell.setSlot (jr_si D d.1 i) v)) (e2 : H'.size = H.size) (e3 : ∀ q, q ≠ jr_ad s0 b (p + 1) → H'[q]? = H[q]?) :
    jr_M s0 b n xs D U L (jv_up g (jr_lo (p + 1) d i).1 (jr_lo (p + 1) d i).2 x) H' := by
  obtain ⟨h1, h2, h3, h4, h5, h6, h7, h8, h9⟩ := hM
  have h11 : ∀ (p m : Nat) (rs : List Nat), L[p]? = some (11, m, rs) → m = 8 := fun p m rs h => (h7.2.2.1 p m rs h).1
  have hd2 : d.1 ≠ 2 := by
    intro e
    apply ht3
    rw [← ht]
    unfold jr_tg
    rw [e]
    rfl
  have hd8 : d.1 = 11 → d.2.1 = 8 := by
    intro e
    obtain ⟨kd, m, rs⟩ := d
    dsimp only at e
    subst e
    exact h11 _ m rs hp
  have hne0 : (jr_lo (p + 1) d i).1 ≠ 0 := by
    unfold jr_lo
    split
    · obtain ⟨a, j, n', e1, e2, e3, e4⟩ := h7.2.1 _ _ _ hp
      cases e1
      rintro rfl
      rw [h1] at e3
      cases e3
    · simp
    · simp
  refine ⟨h1, by rw [e2]; exact h2, h3, h4, h5.kept (e3 b (by simp [jr_ad]; omega)), fun j hj => ?_, h7, h8, fun q e hq => ?_⟩
  · rw [h6 j hj]
    simp only [jv_up]
    rw [if_neg (fun hh => hne0 hh.1.symm)]
  · obtain ⟨cq, c1, c2, c3⟩ := h9 q e hq
    by_cases epq : q = p
    · subst epq
      have := hp.symm.trans hq
      cases this
      have := hc.symm.trans c1
      cases this
      refine ⟨_, e1, c2.setSlot _ _, fun j hj => ?_⟩
      by_cases eji : j = i
      · subst eji
        obtain ⟨w, w1, w2⟩ := c3 j hj
        refine ⟨v, ?_, ?_⟩
        · have hs : jr_si D d.1 j < cell.slots.size := (Array.getElem?_eq_some_iff.mp w1).1
          simp [Cell.setSlot, Array.getElem?_setIfInBounds, hs]
        · unfold jr_ct
          rw [ht]
          split
          · exact absurd rfl ht3
          · simp only [jv_up, and_self, if_true]
            exact hv
      · obtain ⟨w, w1, w2⟩ := c3 j hj
        refine ⟨w, ?_, ?_⟩
        · have := hap j hj eji
          simp [Cell.setSlot, Array.getElem?_setIfInBounds, Ne.symm this, w1]
        · have hlo : jr_tg d j ≠ 3 → jr_lo (q + 1) d j ≠ jr_lo (q + 1) d i := fun _ e => eji (jr_lo_ne h7 h3 hp hp hj hi hd2 hd2 hd8 hd8 e).2
          unfold jr_ct at w2 ⊢
          split
          · next e =>
            rw [e] at w2
            exact w2
          · next t' e =>
            split at w2
            · next e' => exact absurd e' e
            · have := hlo e
              simp only [jv_up]
              rw [if_neg (fun hh => this (Prod.ext hh.1 hh.2))]
              exact w2
    · have hpq : jr_ad s0 b (q + 1) ≠ jr_ad s0 b (p + 1) := fun e => epq (by have := jr_ad_inj h4 e; omega)
      refine ⟨cq, by rw [e3 _ hpq]; exact c1, c2, fun j hj => ?_⟩
      obtain ⟨w, w1, w2⟩ := c3 j hj
      refine ⟨w, w1, ?_⟩
      unfold jr_ct at w2 ⊢
      split
      · next et =>
        rw [et] at w2
        exact w2
      · next t' et =>
        split at w2
        · next e' => exact absurd e' et
        · have he2 : e.1 ≠ 2 := by
            intro e2
            apply et
            unfold jr_tg
            rw [e2]
            rfl
          have he8 : e.1 = 11 → e.2.1 = 8 := by
            intro e8
            obtain ⟨ke, m, rs⟩ := e
            dsimp only at e8
            subst e8
            exact h11 _ m rs hq
          have : jr_lo (q + 1) e j ≠ jr_lo (p + 1) d i := fun e0 => epq (by have := (jr_lo_ne h7 h3 hq hp hj hi he2 hd2 he8 hd8 e0).1; omega)
          simp only [jv_up]
          rw [if_neg (fun hh => this (Prod.ext hh.1 hh.2))]
          exact w2
/-- content is the same where the numbers are -/
theorem jr_ct_same {g g' : jv_S} {p : Nat} {d : Nat × Nat × List Nat} {i : Nat} (h : jr_tg d i ≠ 3 → g' (jr_lo p d i).1 (jr_lo p d i).2 = g (jr_lo p d i).1 (jr_lo p d i).2) : jr_ct g' p d i = jr_ct g p d i := by
  unfold jr_ct
  split
  · rfl
  · next t e => rw [h e]
theorem jr_tg_2 {d : Nat × Nat × List Nat} {i : Nat} (h : jr_tg d i ≠ 3) : d.1 ≠ 2 := by
  intro e
  apply h
  unfold jr_tg
  rw [e]
  rfl
/-- one cell is another now, and only its numbers -/
theorem jr_M.repl {s0 b n : Nat} {xs : Nat → Int32} {D : va_G} {U : State} {L : jv_L} {g g' : jv_S} {H H' : Heap} (hM : jr_M s0 b n xs D U L g H) {p : Nat} {d : Nat × Nat × List Nat} (hp : L[p + 1]? = some d) {cell : Cell} (hs : jr_sh D U d cell) (hv : ∀ i : Nat, i < d.2.1 → ∃ v : Value, cell.slots[jr_si D d.1 i]? = some v ∧ jr_V s0 b L (jr_ct g' (p + 1) d i) v)
    (hg : ∀ (q : Nat) (e : Nat × Nat × List Nat) (j : Nat), L[q]? = some e → j < e.2.1 → q ≠ p + 1 → jr_tg e j ≠ 3 → g' (jr_lo q e j).1 (jr_lo q e j).2 = g (jr_lo q e j).1 (jr_lo q e j).2)
    (e1 : H'[jr_ad s0 b (p + 1)]? = some cell) (e2 : H'.size = H.size) (e3 : ∀ q, q ≠ jr_ad s0 b (p + 1) → H'[q]? = H[q]?) : jr_M s0 b n xs D U L g' H' := by
  obtain ⟨h1, h2, h3, h4, h5, h6, h7, h8, h9⟩ := hM
  refine ⟨h1, by rw [e2]; exact h2, h3, h4, h5.kept (e3 b (by simp [jr_ad]; omega)), fun j hj => ?_, h7, h8, fun q e hq => ?_⟩
  · rw [h6 j hj]
    exact (hg 0 _ j h1 hj (by omega) (by simp [jr_tg])).symm
  · by_cases epq : q = p
    · subst epq
      have := hp.symm.trans hq
      cases this
      exact ⟨cell, e1, hs, hv⟩
    · obtain ⟨cq, c1, c2, c3⟩ := h9 q e hq
      have hpq : jr_ad s0 b (q + 1) ≠ jr_ad s0 b (p + 1) := fun e => epq (by have := jr_ad_inj h4 e; omega)
      refine ⟨cq, by rw [e3 _ hpq]; exact c1, c2, fun j hj => ?_⟩
      obtain ⟨w, w1, w2⟩ := c3 j hj
      exact ⟨w, w1, by rw [jr_ct_same (fun ht => hg (q + 1) e j hq hj (by omega) ht)]; exact w2⟩
/-- new cells behind the rest -/
theorem jr_M.grow {s0 b n : Nat} {xs : Nat → Int32} {D : va_G} {U : State} {L N : jv_L} {g g' : jv_S} {H H' : Heap} (hM : jr_M s0 b n xs D U L g H) (hz : H'.size = H.size + N.length) (ho : ∀ q, q < H.size → H'[q]? = H[q]?) (hW : jr_W (L ++ N)) (h5' : ∀ d ∈ N, d.1 ≠ 5) (h999 : (L ++ N).length ≤ 999)
    (hg : ∀ (q : Nat) (e : Nat × Nat × List Nat) (j : Nat), L[q]? = some e → j < e.2.1 → jr_tg e j ≠ 3 → g' (jr_lo q e j).1 (jr_lo q e j).2 = g (jr_lo q e j).1 (jr_lo q e j).2)
    (hn : ∀ (j : Nat) (d : Nat × Nat × List Nat), N[j]? = some d → jr_C s0 b D U (L ++ N) g' (L.length + j) d H') : jr_M s0 b n xs D U (L ++ N) g' H' := by
  obtain ⟨h1, h2, h3, h4, h5, h6, h7, h8, h9⟩ := hM
  have hl : 0 < L.length := (List.getElem?_eq_some_iff.mp h1).1
  refine ⟨by rw [List.getElem?_append_left hl]; exact h1, by rw [List.length_append]; omega, h999, h4, h5.kept (ho b (by omega)), fun j hj => ?_, hW, fun p d hp => ?_, fun p d hp => ?_⟩
  · rw [h6 j hj]
    exact (hg 0 _ j h1 hj (by simp [jr_tg])).symm
  · by_cases hl : p + 1 < L.length
    · rw [List.getElem?_append_left hl] at hp
      exact h8 p d hp
    · rw [List.getElem?_append_right (by omega)] at hp
      exact h5' d (List.mem_of_getElem? hp)
  · by_cases hl : p + 1 < L.length
    · rw [List.getElem?_append_left hl] at hp
      obtain ⟨cq, c1, c2, c3⟩ := h9 p d hp
      have hlt : jr_ad s0 b (p + 1) < H.size := (Array.getElem?_eq_some_iff.mp c1).1
      refine ⟨cq, by rw [ho _ hlt]; exact c1, c2, fun j hj => ?_⟩
      obtain ⟨w, w1, w2⟩ := c3 j hj
      exact ⟨w, w1, by rw [jr_ct_same (fun ht => hg (p + 1) d j hp hj ht)]; exact w2.mono (jr_le.app L N)⟩
    · rw [List.getElem?_append_right (by omega)] at hp
      have := hn (p + 1 - L.length) d hp
      rw [show L.length + (p + 1 - L.length) = p + 1 by omega] at this
      exact this
/-- a field that holds a reference gets one -/
theorem jr_M.putr {s0 b n : Nat} {xs : Nat → Int32} {D : va_G} {U : State} {L : jv_L} {g : jv_S} {H H' : Heap} (hM : jr_M s0 b n xs D U L g H) {p i kd m : Nat} {rs : List Nat} (hp : L[p + 1]? = some (kd, m, rs)) (hk : 10 ≤ kd) (hk11 : kd ≠ 11) (hi : i < m) (hr : i < rs.length) (ht : jv_ft (kd - 10) i = 2) {q : Nat} (hq : q + 1 < L.length) {cell : Cell} (hc : H[jr_ad s0 b (p + 1)]? = some cell)
    (hap : ∀ j, j < m → j ≠ i → jr_si D kd j ≠ jr_si D kd i) (e1 : H'[jr_ad s0 b (p + 1)]? = some (cell.setSlot (jr_si D kd i) (.ref (jr_ad s0 b (q + 1))))) (e2 : H'.size = H.size) (e3 : ∀ q, q ≠ jr_ad s0 b (p + 1) → H'[q]? = H[q]?) :
    jr_M s0 b n xs D U (L.set (p + 1) (kd, m, rs.set i (q + 1))) g H' := by
  obtain ⟨h1, h2, h3, h4, h5, h6, h7, h8, h9⟩ := hM
  have hpl : p + 1 < L.length := (List.getElem?_eq_some_iff.mp hp).1
  have hle : jr_le L (L.set (p + 1) (kd, m, rs.set i (q + 1))) := jr_le.set hp (fun h => by omega)
  have hset : ∀ (x kd' n' : Nat) (r : List Nat), kd' ≠ kd → (L.set (p + 1) (kd, m, rs.set i (q + 1)))[x]? = some (kd', n', r) → L[x]? = some (kd', n', r) := by
    intro x kd' n' r hne h
    by_cases e : x = p + 1
    · subst e
      rw [List.getElem?_set_self hpl] at h
      cases h
      exact absurd rfl hne
    · rw [List.getElem?_set_ne (Ne.symm e)] at h
      exact h
  refine ⟨hle.at0 (Or.inl (by decide)) h1, by rw [e2, List.length_set]; exact h2, by rw [List.length_set]; exact h3, h4, h5.kept (e3 b (by simp [jr_ad]; omega)), h6, ⟨fun a n' r h => ?_, fun x m' r h => ?_, fun x m' r h => h7.2.2.1 x m' r (hset x _ _ _ (Ne.symm hk11) h), fun x d h => ?_⟩, fun x d h => ?_, fun x d h => ?_⟩
  · obtain ⟨m', e1, e2⟩ := h7.1 a n' r (hset a _ _ _ (by omega) h)
    exact ⟨m', e1, fun j hj => hle.at0 (Or.inl (by decide)) (e2 j hj)⟩
  · obtain ⟨a, j, n', e1, e2, e3, e4⟩ := h7.2.1 x m' r (hset x _ _ _ (by omega) h)
    exact ⟨a, j, n', e1, e2, hle.at0 (Or.inl (by decide)) e3, e4⟩
  · by_cases e : x = p + 1
    · subst e
      rw [List.getElem?_set_self hpl] at h
      cases h
      exact h7.2.2.2 (p + 1) (kd, m, rs) hp
    · rw [List.getElem?_set_ne (Ne.symm e)] at h
      exact h7.2.2.2 x d h
  · by_cases e : x = p
    · subst e
      rw [List.getElem?_set_self hpl] at h
      cases h
      show kd ≠ 5
      omega
    · rw [List.getElem?_set_ne (by omega)] at h
      exact h8 x d h
  · by_cases e : x = p
    · subst e
      rw [List.getElem?_set_self hpl] at h
      cases h
      obtain ⟨cq, c1, c2, c3⟩ := h9 x _ hp
      have := hc.symm.trans c1
      cases this
      refine ⟨_, e1, ?_, fun j hj => ?_⟩
      · refine ⟨c2.1, ?_⟩
        rcases c2.2 with hh | hh
        · have := hh.1
          dsimp only at this
          omega
        · exact Or.inr hh
      · by_cases eji : j = i
        · subst eji
          obtain ⟨w, w1, w2⟩ := c3 j hj
          refine ⟨.ref (jr_ad s0 b (q + 1)), ?_, ?_⟩
          · have hs : jr_si D kd j < cell.slots.size := (Array.getElem?_eq_some_iff.mp w1).1
            simp [Cell.setSlot, Array.getElem?_setIfInBounds, hs]
          · have : jr_ct g (x + 1) (kd, m, rs.set j (q + 1)) j = jv_P (q + 1) := by
              unfold jr_ct
              have : jr_tg (kd, m, rs.set j (q + 1)) j = 3 := by
                unfold jr_tg
                dsimp only
                split <;> first | omega | simp [ht]
              rw [this]
              dsimp only
              rw [show (rs.set j (q + 1)).getD j 0 = q + 1 by simp [List.getD, hr]]
              obtain ⟨kd', rfl⟩ : ∃ z, kd = z + 3 := ⟨kd - 3, by omega⟩
              rfl
            rw [this]
            exact ⟨by rw [List.length_set]; exact hq, rfl⟩
        · obtain ⟨w, w1, w2⟩ := c3 j hj
          refine ⟨w, ?_, ?_⟩
          · have := hap j hj eji
            simp only [Cell.setSlot, Array.getElem?_setIfInBounds]
            rw [if_neg (Ne.symm this)]
            exact w1
          · have : jr_ct g (x + 1) (kd, m, rs.set i (q + 1)) j = jr_ct g (x + 1) (kd, m, rs) j := by
              unfold jr_ct
              have e1 : jr_tg (kd, m, rs.set i (q + 1)) j = jr_tg (kd, m, rs) j := rfl
              have lo : ∀ r : List Nat, jr_lo (x + 1) (kd, m, r) j = (x + 1, Int.ofNat j) := by
                intro r
                unfold jr_lo
                split
                · next e => have := congrArg Prod.fst e; dsimp only at this; omega
                · next e => have := congrArg Prod.fst e; dsimp only at this; omega
                · rfl
              have e2 : jr_lo (x + 1) (kd, m, rs.set i (q + 1)) j = jr_lo (x + 1) (kd, m, rs) j := by rw [lo, lo]
              rw [e1, e2]
              dsimp only
              rw [show (rs.set i (q + 1)).getD j 0 = rs.getD j 0 by simp [List.getD, List.getElem?_set_ne (Ne.symm eji)]]
            rw [this]
            exact w2.mono hle
    · rw [List.getElem?_set_ne (by omega)] at h
      obtain ⟨cq, c1, c2, c3⟩ := h9 x d h
      have hpq : jr_ad s0 b (x + 1) ≠ jr_ad s0 b (p + 1) := fun e' => e (by have := jr_ad_inj h4 e'; omega)
      refine ⟨cq, by rw [e3 _ hpq]; exact c1, c2, fun j hj => ?_⟩
      obtain ⟨w, w1, w2⟩ := c3 j hj
      exact ⟨w, w1, w2.mono hle⟩
end
section
/-! ===== one instruction of the small machine is one of the machine ===== -/
def js_L (s0 b : Nat) (L : jv_L) (nL : Nat) (LS : Array Slot) (ls : List jv_V) : Prop := LS.size = nL ∧ lv_wf LS ∧ ls.length = nL ∧ ∀ (i : Nat) (a : jv_V), ls[i]? = some a → a ≠ jv_U → ((∃ x, a = jv_J x) → ls[i + 1]? = some jv_U) → ∃ v : Value, LS[i]? = some (.val v) ∧ jr_V s0 b L a v
def js_S (s0 b : Nat) (L : jv_L) : List Value → List jv_V → Prop
  | [], [] => True
  | v :: vs, a :: as => a ≠ jv_U ∧ jr_V s0 b L a v ∧ js_S s0 b L vs as
  | _, _ => False
def js_F (s0 : Nat) (s : State) (H : Heap) (locs : List Loc) : Prop := s.heap.size ≤ H.size ∧ (∀ q : Nat, q < s0 → H[q]? = s.heap[q]?) ∧ ∀ x ∈ locs, s0 ≤ x.base
def js_sz : jv_L → Nat
  | [] => 0
  | d :: t => d.2.1 + js_sz t
theorem js_sz_app (L N : jv_L) : js_sz (L ++ N) = js_sz L + js_sz N := by
  induction L with
  | nil => simp [js_sz]
  | cons d t ih => simp [js_sz, ih]; omega
theorem js_S.mono {s0 b : Nat} {L L' : jv_L} (h : jr_le L L') : ∀ {vs : List Value} {as : List jv_V}, js_S s0 b L vs as → js_S s0 b L' vs as
  | [], [], _ => trivial
  | v :: vs, a :: as, hv => ⟨hv.1, hv.2.1.mono h, js_S.mono h hv.2.2⟩
theorem js_L.mono {s0 b : Nat} {L L' : jv_L} (h : jr_le L L') {nL : Nat} {LS : Array Slot} {ls : List jv_V} (hl : js_L s0 b L nL LS ls) : js_L s0 b L' nL LS ls := by
  obtain ⟨h1, h2, h3, h4⟩ := hl
  refine ⟨h1, h2, h3, fun i a ha hu hj => ?_⟩
  obtain ⟨v, e1, e2⟩ := h4 i a ha hu hj
  exact ⟨v, e1, e2.mono h⟩
section
variable {s0 b : Nat} {L : jv_L} {nL : Nat} {LS : Array Slot} {ls : List jv_V}
theorem js_cat1 {a : jv_V} {v : Value} (hv : jr_V s0 b L a v) (hu : a ≠ jv_U) (hj : ∀ x, a ≠ jv_J x) : v.category = 1 := by
  rcases a with i | i | p | ⟨p, i⟩ | q | u
  · obtain ⟨w, rfl, -⟩ := hv; rfl
  · exact absurd rfl (hj i)
  · obtain ⟨-, rfl⟩ := hv; rfl
  · obtain ⟨_, _, -, -, -, rfl⟩ := hv; rfl
  · rcases hv with ⟨-, rfl⟩ | ⟨-, -, rfl⟩ <;> rfl
  · exact absurd rfl hu
theorem js_cat2 {x : Int} {v : Value} (hv : jr_V s0 b L (jv_J x) v) : v.category = 2 := by
  obtain ⟨w, rfl, -⟩ := hv; rfl
def js_lv (LS : Array Slot) : List (Nat × Value) := (List.range LS.size).filterMap (fun (i : Nat) => match (LS[i]? : Option Slot) with
  | some (Slot.val v) => some (i, v)
  | _ => none)
theorem js_lv_mem {i : Nat} {v : Value} : (i, v) ∈ js_lv LS ↔ LS[i]? = some (.val v) := by
  unfold js_lv
  rw [List.mem_filterMap]
  constructor
  · rintro ⟨j, hj, h⟩
    split at h
    · next w e =>
      cases h
      exact e
    · cases h
  · intro h
    refine ⟨i, List.mem_range.mpr (Array.getElem?_eq_some_iff.mp h).1, ?_⟩
    rw [h]
theorem js_lv_has (h1 : LS.size = nL) (h2 : lv_wf LS) : lv_has LS nL (js_lv LS) := ⟨h1, h2, fun q hq => js_lv_mem.mp hq⟩
theorem js_L.store1 (hl : js_L s0 b L nL LS ls) {i : Nat} (hi : i < nL) {a : jv_V} {v : Value} (hv : jr_V s0 b L a v) (hu : a ≠ jv_U) (hj : ∀ x, a ≠ jv_J x) : ∃ LS', storeLocals LS i v = some LS' ∧ js_L s0 b L nL LS' (jv_s1 ls i a) := by
  obtain ⟨h1, h2, h3, h4⟩ := hl
  obtain ⟨LS', e1, g1, g2, g3⟩ := lv_store1 (js_lv_has h1 h2) hi (js_cat1 hv hu hj)
  refine ⟨LS', e1, g1, g2, by simp [jv_s1, h3], fun j a' ha hu' hj' => ?_⟩
  by_cases e : j = i
  · subst e
    unfold jv_s1 at ha
    rw [List.getElem?_set_self (by omega)] at ha
    cases ha
    exact ⟨v, g3 (j, v) List.mem_cons_self, hv⟩
  · unfold jv_s1 at ha
    rw [List.getElem?_set_ne (Ne.symm e)] at ha
    have hj2 : (∃ x, a' = jv_J x) → ls[j + 1]? = some jv_U := by
      intro hx
      have := hj' hx
      unfold jv_s1 at this
      by_cases e2 : j + 1 = i
      · rw [e2, List.getElem?_set_self (by omega)] at this
        exact absurd (Option.some.inj this) hu
      · rw [List.getElem?_set_ne (Ne.symm e2)] at this
        exact this
    obtain ⟨w, w1, w2⟩ := h4 j a' ha hu' hj2
    refine ⟨w, g3 (j, w) (List.mem_cons_of_mem _ (List.mem_filter.mpr ⟨js_lv_mem.mpr w1, ?_⟩)), w2⟩
    by_cases e2 : j + 1 = i
    · have hnj : ∀ x, a' ≠ jv_J x := by
        intro x hx
        have := hj' ⟨x, hx⟩
        unfold jv_s1 at this
        rw [e2, List.getElem?_set_self (by omega)] at this
        exact absurd (Option.some.inj this) hu
      have := js_cat1 w2 hu' hnj
      simp [e, this]
    · simp [e, e2]
theorem js_L.store2 (hl : js_L s0 b L nL LS ls) {i : Nat} (hi : i + 1 < nL) {x : Int} {v : Value} (hv : jr_V s0 b L (jv_J x) v) : ∃ LS', storeLocals LS i v = some LS' ∧ js_L s0 b L nL LS' (jv_s2 ls i (jv_J x)) := by
  obtain ⟨h1, h2, h3, h4⟩ := hl
  obtain ⟨LS', e1, g1, g2, g3⟩ := lv_store2 (js_lv_has h1 h2) hi (js_cat2 hv)
  refine ⟨LS', e1, g1, g2, by simp [jv_s2, h3], fun j a' ha hu' hj' => ?_⟩
  unfold jv_s2 at ha
  by_cases e1' : j = i + 1
  · subst e1'
    rw [List.getElem?_set_self (by simp; omega)] at ha
    exact absurd (Option.some.inj ha).symm hu'
  · rw [List.getElem?_set_ne (Ne.symm e1')] at ha
    by_cases e : j = i
    · subst e
      rw [List.getElem?_set_self (by omega)] at ha
      cases ha
      exact ⟨v, g3 (j, v) List.mem_cons_self, hv⟩
    · rw [List.getElem?_set_ne (Ne.symm e)] at ha
      have hj2 : (∃ x, a' = jv_J x) → ls[j + 1]? = some jv_U ∧ j + 1 ≠ i := by
        intro hx
        have := hj' hx
        unfold jv_s2 at this
        rw [List.getElem?_set_ne (by omega)] at this
        by_cases e2 : j + 1 = i
        · rw [e2, List.getElem?_set_self (by omega)] at this
          cases this
        · rw [List.getElem?_set_ne (Ne.symm e2)] at this
          exact ⟨this, e2⟩
      obtain ⟨w, w1, w2⟩ := h4 j a' ha hu' (fun hx => (hj2 hx).1)
      refine ⟨w, g3 (j, w) (List.mem_cons_of_mem _ (List.mem_filter.mpr ⟨js_lv_mem.mpr w1, ?_⟩)), w2⟩
      by_cases e2 : j + 1 = i
      · have hnj : ∀ x, a' ≠ jv_J x := fun x hx => (hj2 ⟨x, hx⟩).2 e2
        have := js_cat1 w2 hu' hnj
        simp [e, e1', this]
      · simp [e, e1', e2]
end
end
section
/-! ===== what each method is (written by a program) ===== -/
def jm_on : List String := ["LaneWaits$Bears", "LaneWaits$Load", "LaneWaits$Mends", "LaneWaits$Net", "LaneWaits$Sheets", "LaneWaits$States", "LaneWaits$Stills", "LaneWaits$Text", "LaneWaits$Traffic", "LaneWaits$Waits", "LaneWaits$Ways", "LaneWaits", "LaneWaitsModel", "LaneWaitsLaw", "java/lang/Integer", "java/lang/Math", "java/util/Arrays", "java/lang/Object"]
def jm_L : List (Nat × MethodName × ByteArray × Option FieldType × Nat × Nat) := [(11, ⟨"LaneWaits", "<init>", "()V"⟩, prog_1_method_1_code, none, 3, 75),
  (4, ⟨"LaneWaits$Sheets", "<init>", "()V"⟩, prog_6_method_1_code, none, 1, 30),
  (7, ⟨"LaneWaits$Text", "<init>", "()V"⟩, prog_9_method_1_code, none, 1, 30),
  (3, ⟨"LaneWaits$Net", "<init>", "()V"⟩, prog_5_method_1_code, none, 1, 30),
  (10, ⟨"LaneWaits$Ways", "<init>", "(LLaneWaits$Net;)V"⟩, prog_12_method_1_code, none, 1, 30),
  (9, ⟨"LaneWaits$Waits", "<init>", "(LLaneWaits$Net;LLaneWaits$Ways;)V"⟩, prog_11_method_1_code, none, 1, 30),
  (6, ⟨"LaneWaits$Stills", "<init>", "(LLaneWaits$Net;LLaneWaits$Ways;LLaneWaits$Waits;)V"⟩, prog_8_method_1_code, none, 1, 30),
  (5, ⟨"LaneWaits$States", "<init>", "(LLaneWaits$Net;LLaneWaits$Ways;)V"⟩, prog_7_method_1_code, none, 1, 30),
  (8, ⟨"LaneWaits$Traffic", "<init>", "(LLaneWaits$Net;LLaneWaits$Ways;)V"⟩, prog_10_method_1_code, none, 1, 30),
  (2, ⟨"LaneWaits$Mends", "<init>", "(LLaneWaits$Net;LLaneWaits$Ways;LLaneWaits$Waits;)V"⟩, prog_4_method_1_code, none, 2, 52),
  (0, ⟨"LaneWaits$Bears", "<init>", "(LLaneWaits$Net;LLaneWaits$Ways;LLaneWaits$Waits;)V"⟩, prog_2_method_1_code, none, 1, 30),
  (11, ⟨"LaneWaits", "net", "(IIII)I"⟩, prog_1_method_2_code, (some FieldType.int), 4, 88),
  (4, ⟨"LaneWaits$Sheets", "isSheet", "(I)Z"⟩, prog_6_method_2_code, (some FieldType.boolean), 0, 0),
  (4, ⟨"LaneWaits$Sheets", "isSort", "(I)Z"⟩, prog_6_method_3_code, (some FieldType.boolean), 0, 0),
  (4, ⟨"LaneWaits$Sheets", "isOfAnother", "(II)Z"⟩, prog_6_method_5_code, (some FieldType.boolean), 1, 21),
  (4, ⟨"LaneWaits$Sheets", "hasRow", "(I)Z"⟩, prog_6_method_4_code, (some FieldType.boolean), 0, 0),
  (11, ⟨"LaneWaits", "fail", "(I)I"⟩, prog_1_method_34_code, (some FieldType.int), 0, 0),
  (4, ⟨"LaneWaits$Sheets", "hasCells", "(III)Z"⟩, prog_6_method_7_code, (some FieldType.boolean), 0, 0),
  (7, ⟨"LaneWaits$Text", "firstFault", "([III)I"⟩, prog_9_method_2_code, (some FieldType.int), 3, 64),
  (7, ⟨"LaneWaits$Text", "takes", "(I)Z"⟩, prog_9_method_3_code, (some FieldType.boolean), 2, 43),
  (7, ⟨"LaneWaits$Text", "goesOn", "(ZI)Z"⟩, prog_9_method_4_code, (some FieldType.boolean), 0, 0),
  (7, ⟨"LaneWaits$Text", "takesNodes", "(I)Z"⟩, prog_9_method_6_code, (some FieldType.boolean), 1, 22),
  (7, ⟨"LaneWaits$Text", "takesFrom", "(I)Z"⟩, prog_9_method_7_code, (some FieldType.boolean), 1, 22),
  (7, ⟨"LaneWaits$Text", "takesTo", "(I)Z"⟩, prog_9_method_8_code, (some FieldType.boolean), 1, 22),
  (7, ⟨"LaneWaits$Text", "opensLane", "(I)Z"⟩, prog_9_method_5_code, (some FieldType.boolean), 1, 22),
  (7, ⟨"LaneWaits$Text", "takesCells", "(I)Z"⟩, prog_9_method_9_code, (some FieldType.boolean), 1, 22),
  (3, ⟨"LaneWaits$Net", "build", "(LLaneWaits$Text;)V"⟩, prog_5_method_5_code, none, 1, 60),
  (3, ⟨"LaneWaits$Net", "measure", "(I)V"⟩, prog_5_method_6_code, none, 0, 0),
  (3, ⟨"LaneWaits$Net", "collect", "(I)V"⟩, prog_5_method_7_code, none, 0, 0),
  (10, ⟨"LaneWaits$Ways", "unbarAll", "()V"⟩, prog_12_method_3_code, none, 3, 68),
  (16, ⟨"java/util/Arrays", "fill", "([II)V"⟩, prog_18_method_103_code, none, 0, 0),
  (10, ⟨"LaneWaits$Ways", "layAll", "()V"⟩, prog_12_method_8_code, none, 2, 46),
  (10, ⟨"LaneWaits$Ways", "ruled", "(III)I"⟩, prog_12_method_10_code, (some FieldType.int), 0, 0),
  (10, ⟨"LaneWaits$Ways", "layLane", "(I)V"⟩, prog_12_method_9_code, none, 1, 24),
  (8, ⟨"LaneWaits$Traffic", "clear", "()V"⟩, prog_10_method_2_code, none, 1, 23),
  (11, ⟨"LaneWaits", "ofLane", "(II)I"⟩, prog_1_method_3_code, (some FieldType.int), 1, 22),
  (3, ⟨"LaneWaits$Net", "isLane", "(I)Z"⟩, prog_5_method_4_code, (some FieldType.boolean), 0, 0),
  (8, ⟨"LaneWaits$Traffic", "standsIn", "(II)I"⟩, prog_10_method_4_code, (some FieldType.int), 0, 0),
  (11, ⟨"LaneWaits", "far", "(II)I"⟩, prog_1_method_4_code, (some FieldType.int), 2, 43),
  (3, ⟨"LaneWaits$Net", "areNodes", "(II)Z"⟩, prog_5_method_3_code, (some FieldType.boolean), 1, 21),
  (3, ⟨"LaneWaits$Net", "isNode", "(I)Z"⟩, prog_5_method_2_code, (some FieldType.boolean), 0, 0),
  (11, ⟨"LaneWaits", "rule", "(I)I"⟩, prog_1_method_5_code, (some FieldType.int), 4, 89),
  (10, ⟨"LaneWaits$Ways", "ruleBy", "(I)V"⟩, prog_12_method_2_code, none, 3, 68),
  (11, ⟨"LaneWaits", "bar", "(III)I"⟩, prog_1_method_6_code, (some FieldType.int), 3, 69),
  (10, ⟨"LaneWaits$Ways", "isBarred", "(II)Z"⟩, prog_12_method_5_code, (some FieldType.boolean), 1, 21),
  (11, ⟨"LaneWaits", "has", "(II)Z"⟩, prog_1_method_43_code, (some FieldType.boolean), 0, 0),
  (10, ⟨"LaneWaits$Ways", "setBarred", "(IIZ)V"⟩, prog_12_method_6_code, none, 2, 46),
  (11, ⟨"LaneWaits", "may", "(II)I"⟩, prog_1_method_7_code, (some FieldType.int), 1, 21),
  (11, ⟨"LaneWaits", "out", "(II)I"⟩, prog_1_method_8_code, (some FieldType.int), 2, 43),
  (11, ⟨"LaneWaits", "comes", "(II)I"⟩, prog_1_method_9_code, (some FieldType.int), 3, 72),
  (9, ⟨"LaneWaits$Waits", "howItComes", "(II)I"⟩, prog_11_method_5_code, (some FieldType.int), 2, 49),
  (9, ⟨"LaneWaits$Waits", "reach", "(II)I"⟩, prog_11_method_6_code, (some FieldType.int), 1, 21),
  (9, ⟨"LaneWaits$Waits", "endsWell", "(II)Z"⟩, prog_11_method_7_code, (some FieldType.boolean), 1, 26),
  (11, ⟨"LaneWaits", "knot", "([III)I"⟩, prog_1_method_44_code, (some FieldType.int), 0, 0),
  (11, ⟨"LaneWaits", "carries", "(I)I"⟩, prog_1_method_10_code, (some FieldType.int), 4, 95),
  (9, ⟨"LaneWaits$Waits", "work", "()V"⟩, prog_11_method_2_code, none, 3, 74),
  (9, ⟨"LaneWaits$Waits", "survey", "(I)Z"⟩, prog_11_method_4_code, (some FieldType.boolean), 2, 49),
  (9, ⟨"LaneWaits$Waits", "findRing", "()V"⟩, prog_11_method_8_code, none, 2, 49),
  (9, ⟨"LaneWaits$Waits", "measureRing", "(I)I"⟩, prog_11_method_9_code, (some FieldType.int), 1, 23),
  (9, ⟨"LaneWaits$Waits", "layRing", "(I)V"⟩, prog_11_method_10_code, none, 1, 21),
  (9, ⟨"LaneWaits$Waits", "findRanks", "()V"⟩, prog_11_method_11_code, none, 1, 30),
  (11, ⟨"LaneWaits", "waits", "(I)I"⟩, prog_1_method_11_code, (some FieldType.int), 4, 95),
  (11, ⟨"LaneWaits", "ring", "(I)I"⟩, prog_1_method_12_code, (some FieldType.int), 4, 95),
  (11, ⟨"LaneWaits", "rank", "(I)I"⟩, prog_1_method_13_code, (some FieldType.int), 4, 95),
  (11, ⟨"LaneWaits", "still", "(I)I"⟩, prog_1_method_14_code, (some FieldType.int), 5, 116),
  (6, ⟨"LaneWaits$Stills", "work", "()V"⟩, prog_8_method_2_code, none, 4, 95),
  (6, ⟨"LaneWaits$Stills", "findNeeds", "(I)V"⟩, prog_8_method_3_code, none, 1, 21),
  (6, ⟨"LaneWaits$Stills", "findAll", "()V"⟩, prog_8_method_5_code, none, 1, 23),
  (6, ⟨"LaneWaits$Stills", "canStand", "(II)Z"⟩, prog_8_method_4_code, (some FieldType.boolean), 0, 0),
  (6, ⟨"LaneWaits$Stills", "findLeast", "()V"⟩, prog_8_method_6_code, none, 2, 45),
  (14, ⟨"java/lang/Integer", "bitCount", "(I)I"⟩, prog_15_method_49_code, (some FieldType.int), 0, 0),
  (6, ⟨"LaneWaits$Stills", "stands", "(I)Z"⟩, prog_8_method_7_code, (some FieldType.boolean), 1, 23),
  (11, ⟨"LaneWaits", "states", "(I)I"⟩, prog_1_method_15_code, (some FieldType.int), 5, 118),
  (5, ⟨"LaneWaits$States", "fit", "()Z"⟩, prog_7_method_2_code, (some FieldType.boolean), 0, 0),
  (5, ⟨"LaneWaits$States", "work", "()V"⟩, prog_7_method_3_code, none, 4, 97),
  (5, ⟨"LaneWaits$States", "prepare", "()V"⟩, prog_7_method_4_code, none, 1, 23),
  (5, ⟨"LaneWaits$States", "reach", "(I)V"⟩, prog_7_method_5_code, none, 0, 0),
  (5, ⟨"LaneWaits$States", "visitAll", "(I)V"⟩, prog_7_method_6_code, none, 3, 74),
  (14, ⟨"java/lang/Integer", "numberOfTrailingZeros", "(I)I"⟩, prog_15_method_48_code, (some FieldType.int), 0, 0),
  (5, ⟨"LaneWaits$States", "visit", "(II)V"⟩, prog_7_method_7_code, none, 2, 49),
  (5, ⟨"LaneWaits$States", "isDead", "()Z"⟩, prog_7_method_8_code, (some FieldType.boolean), 1, 21),
  (5, ⟨"LaneWaits$States", "setOut", "(II)V"⟩, prog_7_method_9_code, none, 1, 23),
  (5, ⟨"LaneWaits$States", "goOn", "(III)V"⟩, prog_7_method_10_code, none, 1, 23),
  (11, ⟨"LaneWaits", "send", "(III)I"⟩, prog_1_method_16_code, (some FieldType.int), 3, 79),
  (11, ⟨"LaneWaits", "isKind", "(I)Z"⟩, prog_1_method_42_code, (some FieldType.boolean), 0, 0),
  (8, ⟨"LaneWaits$Traffic", "choose", "(II)I"⟩, prog_10_method_7_code, (some FieldType.int), 1, 21),
  (8, ⟨"LaneWaits$Traffic", "hasRoom", "(I)Z"⟩, prog_10_method_6_code, (some FieldType.boolean), 0, 0),
  (8, ⟨"LaneWaits$Traffic", "setOut", "(IIII)I"⟩, prog_10_method_8_code, (some FieldType.int), 2, 54),
  (1, ⟨"LaneWaits$Load", "<init>", "(IIII)V"⟩, prog_3_method_1_code, none, 1, 30),
  (8, ⟨"LaneWaits$Traffic", "enter", "(LLaneWaits$Load;I)V"⟩, prog_10_method_9_code, none, 0, 0),
  (11, ⟨"LaneWaits", "ticks", "(I)I"⟩, prog_1_method_17_code, (some FieldType.int), 5, 116),
  (8, ⟨"LaneWaits$Traffic", "tickOnce", "()I"⟩, prog_10_method_10_code, (some FieldType.int), 4, 95),
  (8, ⟨"LaneWaits$Traffic", "moveFirsts", "(ZI)I"⟩, prog_10_method_11_code, (some FieldType.int), 3, 69),
  (8, ⟨"LaneWaits$Traffic", "numbered", "(I)LLaneWaits$Load;"⟩, prog_10_method_3_code, (some (FieldType.object "LaneWaits$Load")), 0, 0),
  (8, ⟨"LaneWaits$Traffic", "moves", "(LLaneWaits$Load;)Z"⟩, prog_10_method_12_code, (some FieldType.boolean), 2, 44),
  (11, ⟨"LaneWaits", "ofLoad", "(II)I"⟩, prog_1_method_18_code, (some FieldType.int), 1, 21),
  (11, ⟨"LaneWaits", "frozen", "()I"⟩, prog_1_method_19_code, (some FieldType.int), 4, 94),
  (8, ⟨"LaneWaits$Traffic", "frozenSet", "()I"⟩, prog_10_method_13_code, (some FieldType.int), 3, 70),
  (8, ⟨"LaneWaits$Traffic", "thaw", "(II)I"⟩, prog_10_method_14_code, (some FieldType.int), 2, 45),
  (8, ⟨"LaneWaits$Traffic", "isHeld", "(LLaneWaits$Load;I)Z"⟩, prog_10_method_15_code, (some FieldType.boolean), 1, 21),
  (14, ⟨"java/lang/Integer", "lowestOneBit", "(I)I"⟩, prog_15_method_46_code, (some FieldType.int), 0, 0),
  (11, ⟨"LaneWaits", "mend", "(I)I"⟩, prog_1_method_20_code, (some FieldType.int), 6, 142),
  (2, ⟨"LaneWaits$Mends", "work", "()V"⟩, prog_4_method_2_code, none, 5, 120),
  (10, ⟨"LaneWaits$Ways", "takeFrom", "(LLaneWaits$Ways;)V"⟩, prog_12_method_4_code, none, 4, 89),
  (2, ⟨"LaneWaits$Mends", "gather", "()I"⟩, prog_4_method_3_code, (some FieldType.int), 1, 21),
  (2, ⟨"LaneWaits$Mends", "isFound", "(II)Z"⟩, prog_4_method_4_code, (some FieldType.boolean), 4, 95),
  (2, ⟨"LaneWaits$Mends", "setTried", "(IZ)V"⟩, prog_4_method_5_code, none, 3, 69),
  (9, ⟨"LaneWaits$Waits", "isSound", "()Z"⟩, prog_11_method_3_code, (some FieldType.boolean), 3, 74),
  (11, ⟨"LaneWaits", "bears", "(II)J"⟩, prog_1_method_21_code, (some FieldType.long), 6, 168),
  (0, ⟨"LaneWaits$Bears", "work", "()V"⟩, prog_2_method_2_code, none, 5, 146),
  (16, ⟨"java/util/Arrays", "fill", "([JJ)V"⟩, prog_18_method_101_code, none, 0, 0),
  (0, ⟨"LaneWaits$Bears", "pour", "(I)V"⟩, prog_2_method_3_code, none, 4, 121),
  (0, ⟨"LaneWaits$Bears", "spread", "(IJJ)V"⟩, prog_2_method_5_code, none, 3, 94),
  (0, ⟨"LaneWaits$Bears", "add", "([J[JIJJ)V"⟩, prog_2_method_6_code, none, 2, 60),
  (0, ⟨"LaneWaits$Bears", "commonDivisor", "(JJ)J"⟩, prog_2_method_7_code, (some FieldType.long), 1, 30),
  (0, ⟨"LaneWaits$Bears", "ledToFrom", "(II)I"⟩, prog_2_method_4_code, (some FieldType.int), 1, 21),
  (11, ⟨"LaneWaits", "busiest", "()I"⟩, prog_1_method_22_code, (some FieldType.int), 6, 168),
  (0, ⟨"LaneWaits$Bears", "greatest", "()I"⟩, prog_2_method_8_code, (some FieldType.int), 2, 60),
  (11, ⟨"LaneWaits", "sheet", "(III)I"⟩, prog_1_method_23_code, (some FieldType.int), 2, 46),
  (4, ⟨"LaneWaits$Sheets", "renew", "(III)V"⟩, prog_6_method_8_code, none, 1, 23),
  (11, ⟨"LaneWaits", "lose", "(I)I"⟩, prog_1_method_24_code, (some FieldType.int), 2, 43),
  (4, ⟨"LaneWaits$Sheets", "drop", "(I)Z"⟩, prog_6_method_9_code, (some FieldType.boolean), 1, 21),
  (11, ⟨"LaneWaits", "put", "(III)I"⟩, prog_1_method_25_code, (some FieldType.int), 1, 22),
  (4, ⟨"LaneWaits$Sheets", "hasCell", "(II)Z"⟩, prog_6_method_6_code, (some FieldType.boolean), 0, 0),
  (4, ⟨"LaneWaits$Sheets", "cut", "(II)I"⟩, prog_6_method_10_code, (some FieldType.int), 0, 0),
  (11, ⟨"LaneWaits", "cell", "(III)J"⟩, prog_1_method_26_code, (some FieldType.long), 2, 43),
  (11, ⟨"LaneWaits", "lost", "(I)J"⟩, prog_1_method_35_code, (some FieldType.long), 0, 0),
  (11, ⟨"LaneWaits", "copy", "(IIIII)I"⟩, prog_1_method_27_code, (some FieldType.int), 1, 60),
  (11, ⟨"LaneWaits", "tell", "(I)I"⟩, prog_1_method_28_code, (some FieldType.int), 4, 85),
  (11, ⟨"LaneWaits", "sealedTelling", "(LLaneWaits$Load;)I"⟩, prog_1_method_39_code, (some FieldType.int), 3, 63),
  (11, ⟨"LaneWaits", "leave", "(I)V"⟩, prog_1_method_36_code, none, 0, 0),
  (11, ⟨"LaneWaits", "hastyTelling", "(LLaneWaits$Load;)I"⟩, prog_1_method_38_code, (some FieldType.int), 2, 42),
  (11, ⟨"LaneWaits", "plainTelling", "(LLaneWaits$Load;)I"⟩, prog_1_method_37_code, (some FieldType.int), 1, 21),
  (11, ⟨"LaneWaits", "stamp", "(I)I"⟩, prog_1_method_29_code, (some FieldType.int), 2, 42),
  (11, ⟨"LaneWaits", "ownStamp", "()I"⟩, prog_1_method_41_code, (some FieldType.int), 1, 21),
  (11, ⟨"LaneWaits", "lentStamp", "(LLaneWaits$Load;)I"⟩, prog_1_method_40_code, (some FieldType.int), 1, 21),
  (11, ⟨"LaneWaits", "as", "(II)I"⟩, prog_1_method_30_code, (some FieldType.int), 1, 21),
  (11, ⟨"LaneWaits", "trace", "()I"⟩, prog_1_method_31_code, (some FieldType.int), 0, 0),
  (11, ⟨"LaneWaits", "fault", "()I"⟩, prog_1_method_32_code, (some FieldType.int), 0, 0),
  (11, ⟨"LaneWaits", "many", "(I)I"⟩, prog_1_method_33_code, (some FieldType.int), 2, 42),
  (8, ⟨"LaneWaits$Traffic", "countInLanes", "()I"⟩, prog_10_method_5_code, (some FieldType.int), 0, 0),
  (10, ⟨"LaneWaits$Ways", "countBarred", "()I"⟩, prog_12_method_7_code, (some FieldType.int), 1, 20),
  (12, ⟨"LaneWaitsModel", "<init>", "()V"⟩, prog_14_method_1_code, none, 1, 30),
  (12, ⟨"LaneWaitsModel", "net", "(IIII)I"⟩, prog_14_method_13_code, (some FieldType.int), 3, 71),
  (12, ⟨"LaneWaitsModel", "isSheet", "(I)Z"⟩, prog_14_method_9_code, (some FieldType.boolean), 1, 22),
  (12, ⟨"LaneWaitsModel", "within", "(III)Z"⟩, prog_14_method_5_code, (some FieldType.boolean), 0, 0),
  (12, ⟨"LaneWaitsModel", "isSort", "(I)Z"⟩, prog_14_method_10_code, (some FieldType.boolean), 1, 22),
  (12, ⟨"LaneWaitsModel", "fails", "(I)I"⟩, prog_14_method_3_code, (some FieldType.int), 0, 0),
  (12, ⟨"LaneWaitsModel", "readNet", "(II)I"⟩, prog_14_method_15_code, (some FieldType.int), 2, 44),
  (12, ⟨"LaneWaitsModel", "digitAt", "(II)I"⟩, prog_14_method_14_code, (some FieldType.int), 1, 22),
  (12, ⟨"LaneWaitsModel", "layFar", "()V"⟩, prog_14_method_16_code, none, 0, 0),
  (12, ⟨"LaneWaitsModel", "ofLane", "(II)I"⟩, prog_14_method_17_code, (some FieldType.int), 1, 22),
  (12, ⟨"LaneWaitsModel", "isLane", "(I)Z"⟩, prog_14_method_12_code, (some FieldType.boolean), 0, 0),
  (12, ⟨"LaneWaitsModel", "far", "(II)I"⟩, prog_14_method_18_code, (some FieldType.int), 1, 21),
  (12, ⟨"LaneWaitsModel", "isNode", "(I)Z"⟩, prog_14_method_11_code, (some FieldType.boolean), 0, 0),
  (12, ⟨"LaneWaitsModel", "rule", "(I)I"⟩, prog_14_method_19_code, (some FieldType.int), 1, 22),
  (12, ⟨"LaneWaitsModel", "bar", "(III)I"⟩, prog_14_method_20_code, (some FieldType.int), 1, 22),
  (12, ⟨"LaneWaitsModel", "may", "(II)I"⟩, prog_14_method_22_code, (some FieldType.int), 2, 47),
  (12, ⟨"LaneWaitsModel", "takes", "(II)I"⟩, prog_14_method_21_code, (some FieldType.int), 1, 21),
  (12, ⟨"LaneWaitsModel", "has", "(II)Z"⟩, prog_14_method_6_code, (some FieldType.boolean), 0, 0),
  (12, ⟨"LaneWaitsModel", "out", "(II)I"⟩, prog_14_method_23_code, (some FieldType.int), 2, 47),
  (12, ⟨"LaneWaitsModel", "comes", "(II)I"⟩, prog_14_method_27_code, (some FieldType.int), 4, 98),
  (12, ⟨"LaneWaitsModel", "comesBy", "(II)I"⟩, prog_14_method_26_code, (some FieldType.int), 3, 72),
  (12, ⟨"LaneWaitsModel", "comesInto", "(II)I"⟩, prog_14_method_24_code, (some FieldType.int), 2, 47),
  (12, ⟨"LaneWaitsModel", "goesRound", "(II)Z"⟩, prog_14_method_25_code, (some FieldType.boolean), 2, 47),
  (12, ⟨"LaneWaitsModel", "carries", "(I)I"⟩, prog_14_method_31_code, (some FieldType.int), 4, 96),
  (12, ⟨"LaneWaitsModel", "layCarried", "()V"⟩, prog_14_method_29_code, none, 3, 72),
  (12, ⟨"LaneWaitsModel", "waits", "(I)I"⟩, prog_14_method_32_code, (some FieldType.int), 5, 118),
  (12, ⟨"LaneWaitsModel", "layWaiting", "()V"⟩, prog_14_method_30_code, none, 4, 96),
  (12, ⟨"LaneWaitsModel", "ring", "(I)I"⟩, prog_14_method_36_code, (some FieldType.int), 6, 141),
  (12, ⟨"LaneWaitsModel", "hasRing", "()Z"⟩, prog_14_method_35_code, (some FieldType.boolean), 5, 118),
  (12, ⟨"LaneWaitsModel", "findRing", "(I)Z"⟩, prog_14_method_34_code, (some FieldType.boolean), 1, 23),
  (12, ⟨"LaneWaitsModel", "isAhead", "(II)Z"⟩, prog_14_method_33_code, (some FieldType.boolean), 0, 0),
  (12, ⟨"LaneWaitsModel", "rank", "(I)I"⟩, prog_14_method_37_code, (some FieldType.int), 6, 141),
  (12, ⟨"LaneWaitsModel", "still", "(I)I"⟩, prog_14_method_41_code, (some FieldType.int), 4, 96),
  (12, ⟨"LaneWaitsModel", "allStill", "()I"⟩, prog_14_method_40_code, (some FieldType.int), 3, 70),
  (12, ⟨"LaneWaitsModel", "standsStill", "(II)Z"⟩, prog_14_method_38_code, (some FieldType.boolean), 2, 47),
  (12, ⟨"LaneWaitsModel", "bitsOf", "(I)I"⟩, prog_14_method_7_code, (some FieldType.int), 0, 0),
  (12, ⟨"LaneWaitsModel", "isStill", "(I)Z"⟩, prog_14_method_39_code, (some FieldType.boolean), 3, 70),
  (12, ⟨"LaneWaitsModel", "states", "(I)I"⟩, prog_14_method_49_code, (some FieldType.int), 3, 72),
  (12, ⟨"LaneWaitsModel", "isSmall", "()Z"⟩, prog_14_method_48_code, (some FieldType.boolean), 0, 0),
  (12, ⟨"LaneWaitsModel", "enter", "(II)V"⟩, prog_14_method_42_code, none, 0, 0),
  (12, ⟨"LaneWaitsModel", "stepFrom", "(I)V"⟩, prog_14_method_46_code, none, 2, 47),
  (12, ⟨"LaneWaitsModel", "layContent", "(I)V"⟩, prog_14_method_44_code, none, 0, 0),
  (12, ⟨"LaneWaitsModel", "goOn", "(IIII)V"⟩, prog_14_method_45_code, none, 1, 22),
  (12, ⟨"LaneWaitsModel", "fives", "(I)I"⟩, prog_14_method_43_code, (some FieldType.int), 0, 0),
  (12, ⟨"LaneWaitsModel", "isDead", "(I)Z"⟩, prog_14_method_47_code, (some FieldType.boolean), 2, 47),
  (12, ⟨"LaneWaitsModel", "send", "(III)I"⟩, prog_14_method_53_code, (some FieldType.int), 2, 47),
  (12, ⟨"LaneWaitsModel", "laneFor", "(II)I"⟩, prog_14_method_51_code, (some FieldType.int), 1, 21),
  (12, ⟨"LaneWaitsModel", "comesIn", "(II)V"⟩, prog_14_method_52_code, none, 0, 0),
  (12, ⟨"LaneWaitsModel", "ticks", "(I)I"⟩, prog_14_method_57_code, (some FieldType.int), 4, 94),
  (12, ⟨"LaneWaitsModel", "pass", "(Z)I"⟩, prog_14_method_56_code, (some FieldType.int), 3, 70),
  (12, ⟨"LaneWaitsModel", "goFrom", "(I)I"⟩, prog_14_method_55_code, (some FieldType.int), 2, 47),
  (12, ⟨"LaneWaitsModel", "leaves", "(I)V"⟩, prog_14_method_54_code, none, 0, 0),
  (12, ⟨"LaneWaitsModel", "ofLoad", "(II)I"⟩, prog_14_method_58_code, (some FieldType.int), 1, 21),
  (12, ⟨"LaneWaitsModel", "isLoad", "(I)Z"⟩, prog_14_method_50_code, (some FieldType.boolean), 0, 0),
  (12, ⟨"LaneWaitsModel", "frozen", "()I"⟩, prog_14_method_60_code, (some FieldType.int), 3, 72),
  (12, ⟨"LaneWaitsModel", "isHeld", "(II)Z"⟩, prog_14_method_59_code, (some FieldType.boolean), 2, 47),
  (12, ⟨"LaneWaitsModel", "mend", "(I)I"⟩, prog_14_method_65_code, (some FieldType.int), 8, 184),
  (12, ⟨"LaneWaitsModel", "findMends", "()I"⟩, prog_14_method_64_code, (some FieldType.int), 7, 161),
  (12, ⟨"LaneWaitsModel", "isMended", "()Z"⟩, prog_14_method_61_code, (some FieldType.boolean), 6, 141),
  (12, ⟨"LaneWaitsModel", "allCome", "()Z"⟩, prog_14_method_28_code, (some FieldType.boolean), 4, 98),
  (12, ⟨"LaneWaitsModel", "layTurns", "()V"⟩, prog_14_method_62_code, none, 5, 118),
  (12, ⟨"LaneWaitsModel", "barTurn", "(I)V"⟩, prog_14_method_63_code, none, 0, 0),
  (12, ⟨"LaneWaitsModel", "bears", "(II)J"⟩, prog_14_method_72_code, (some FieldType.long), 5, 120),
  (12, ⟨"LaneWaitsModel", "layBears", "()V"⟩, prog_14_method_71_code, none, 3, 90),
  (12, ⟨"LaneWaitsModel", "clear", "([J[J)V"⟩, prog_14_method_68_code, none, 0, 0),
  (12, ⟨"LaneWaitsModel", "part", "(IJJ)V"⟩, prog_14_method_69_code, none, 2, 63),
  (12, ⟨"LaneWaitsModel", "add", "([J[JIJJ)V"⟩, prog_14_method_67_code, none, 1, 29),
  (12, ⟨"LaneWaitsModel", "common", "(JJ)J"⟩, prog_14_method_66_code, (some FieldType.long), 0, 0),
  (12, ⟨"LaneWaitsModel", "takeNext", "()V"⟩, prog_14_method_70_code, none, 1, 23),
  (12, ⟨"LaneWaitsModel", "busiest", "()I"⟩, prog_14_method_73_code, (some FieldType.int), 5, 120),
  (12, ⟨"LaneWaitsModel", "sheet", "(III)I"⟩, prog_14_method_74_code, (some FieldType.int), 2, 42),
  (12, ⟨"LaneWaitsModel", "lose", "(I)I"⟩, prog_14_method_75_code, (some FieldType.int), 2, 42),
  (12, ⟨"LaneWaitsModel", "put", "(III)I"⟩, prog_14_method_76_code, (some FieldType.int), 2, 42),
  (12, ⟨"LaneWaitsModel", "cell", "(III)J"⟩, prog_14_method_77_code, (some FieldType.long), 2, 42),
  (12, ⟨"LaneWaitsModel", "lost", "(I)J"⟩, prog_14_method_4_code, (some FieldType.long), 0, 0),
  (12, ⟨"LaneWaitsModel", "copy", "(IIIII)I"⟩, prog_14_method_78_code, (some FieldType.int), 2, 42),
  (12, ⟨"LaneWaitsModel", "tell", "(I)I"⟩, prog_14_method_80_code, (some FieldType.int), 1, 21),
  (12, ⟨"LaneWaitsModel", "begins", "(I)V"⟩, prog_14_method_79_code, none, 0, 0),
  (12, ⟨"LaneWaitsModel", "stamp", "(I)I"⟩, prog_14_method_81_code, (some FieldType.int), 1, 21),
  (12, ⟨"LaneWaitsModel", "as", "(II)I"⟩, prog_14_method_82_code, (some FieldType.int), 1, 22),
  (12, ⟨"LaneWaitsModel", "trace", "()I"⟩, prog_14_method_83_code, (some FieldType.int), 0, 0),
  (12, ⟨"LaneWaitsModel", "fault", "()I"⟩, prog_14_method_84_code, (some FieldType.int), 0, 0),
  (12, ⟨"LaneWaitsModel", "many", "(I)I"⟩, prog_14_method_85_code, (some FieldType.int), 1, 22),
  (13, ⟨"LaneWaitsLaw", "law", "([I)Z"⟩, code, (some FieldType.boolean), 9, 207)]
def jm_e (k : Nat) : Nat × MethodName × ByteArray × Option FieldType × Nat × Nat := jm_L.getD k (17, ⟨"", "", ""⟩, ⟨#[]⟩, none, 0, 0)
def jm_own (k : Nat) : String := jm_on.getD (jm_e k).1 ""
def jm_y (k : Nat) : MethodName := (jm_e k).2.1
def jm_c (k : Nat) : ByteArray := (jm_e k).2.2.1
def jm_ret (k : Nat) : Option FieldType := (jm_e k).2.2.2.1
def jm_ht (k : Nat) : Nat := (jm_e k).2.2.2.2.1
def jm_rl (k : Nat) : Nat := (jm_e k).2.2.2.2.2
/-- the words that hold at every call -/
def jm_ws : List Cond := lw_tbl.filter goodWord
/-- calls of nest mates' private methods -/
def jm_nest : List (String × Nat × MethodName × String) := [("LaneWaits", 11, ⟨"LaneWaits$Sheets", "<init>", "()V"⟩, "LaneWaits"), ("LaneWaits", 20, ⟨"LaneWaits$Text", "<init>", "()V"⟩, "LaneWaits"), ("LaneWaits", 27, ⟨"LaneWaits$Net", "<init>", "()V"⟩, "LaneWaits"), ("LaneWaits$Ways", 50, ⟨"LaneWaits", "has", "(II)Z"⟩, "LaneWaits"), ("LaneWaits$Waits", 90, ⟨"LaneWaits", "has", "(II)Z"⟩, "LaneWaits"), ("LaneWaits$Waits", 78, ⟨"LaneWaits", "knot", "([III)I"⟩, "LaneWaits"), ("LaneWaits$Stills", 67, ⟨"LaneWaits", "has", "(II)Z"⟩, "LaneWaits"), ("LaneWaits$States", 121, ⟨"LaneWaits", "has", "(II)Z"⟩, "LaneWaits"), ("LaneWaits$Traffic", 55, ⟨"LaneWaits", "has", "(II)Z"⟩, "LaneWaits"), ("LaneWaits$Mends", 86, ⟨"LaneWaits", "has", "(II)Z"⟩, "LaneWaits"), ("LaneWaits$Bears", 85, ⟨"LaneWaits", "has", "(II)Z"⟩, "LaneWaits")]
def js_AA (U : State) : Prop := (Cond.arrayOver (.array .int)).before #[] U = true
theorem js_AA.moved {u U : State} (hvm : u.vm.Alike U.vm) (h : js_AA u) : js_AA U := by
  obtain ⟨comp, c, k, h1, h2, h3, h4, h5⟩ := arrayOverA_spec h
  obtain ⟨k', hk', he⟩ := hvm.2.2 _ _ h3
  have hi : (U.vm.classes.findIdx? fun (x : Class) => match x.kind with | .array component _ => component == comp | _ => false) = some c := by
    refine (va_idx_bare U.vm comp).symm.trans ?_
    first | rw [hvm.bare_eq] | rw [← hvm.bare_eq]
    exact (va_idx_bare u.vm comp).trans h2
  have hkind : k'.kind = .array comp (.array .int) := by rw [he]; exact h4
  have f1 : U.vm.findClass (FieldType.array .int).toString = some comp := by rw [hvm.findClass]; exact h1
  have f2 : U.vm.findClass ("[" ++ (FieldType.array .int).toString) = some c := by rw [hvm.findClass]; exact h5
  unfold js_AA Cond.before Cond.holds
  simp only [Cond.value]
  rw [f1, Option.bind_some]
  refine (congrArg (fun o : Option Nat => (o.bind (fun c => (U.vm.classes[c]?).map fun (k : Class) => match k.kind with | .array _ ty => decide (ty = FieldType.array .int) && decide (U.vm.findClass ("[" ++ (FieldType.array .int).toString) = some c) | _ => false) == some true)) hi).trans ?_
  simp [hk', hkind, f2]
def js_N (s : State) : Prop := (∀ q ∈ jm_nest, va_Nw (.methodLinkNest q.1 q.2.1 q.2.2.1 q.2.2.2) s) ∧ va_AO "LaneWaits$Load" s ∧ js_AA s
theorem js_N.warm {s U : State} (hW : s.WarmedH U.vm) (h : js_N s) : js_N U := ⟨fun q hq => va_Nw.warmM hW (h.1 q hq), h.2.1.moved hW.alike, h.2.2.moved hW.alike⟩
/-- a field's link -/
def js_fl (k x kd f ty : Nat) : Prop := 10 ≤ kd ∧ ∃ (C : String) (T : u_T) (N : Nat), vwCl[kd - 10]? = some (C, T, N) ∧ f < N ∧ Cond.fieldLink (jm_own k) x C (T f).2.1 (T f).2.2.1 ∈ jm_ws ∧ (T f).1 = C ∧ jv_ft (kd - 10) f = ty
/-- a call: r = [k', c, rc] -/
def js_iv (k x : Nat) (i : Nat) (k' c rc : Nat) : Prop := k' < 225 ∧ True ∧ jm_ht k' + 1 ≤ jm_ht k ∧ 8 + (jv_ml k' + 11) + jm_rl k' ≤ jm_rl k ∧ (Cond.methodLink (jm_own k) x (jm_y k') ∈ jm_ws ∨ ∃ host, (jm_own k, x, jm_y k', host) ∈ jm_nest) ∧
  (parseMethodDescriptor (jm_y k').desc).map (fun d => d.parameters.length) = some (c - (if rc = 0 then 0 else 1)) ∧ (if i = 2 then rc = 0 ∧ Cond.static (jm_y k') ∈ jm_ws else 0 < c ∧ 10 < rc ∧ Cond.instanceMethod (jm_y k') ∈ jm_ws ∧ (∃ (T : u_T) (N : Nat), vwCl[rc - 11]? = some ((jm_y k').cls, T, N)) ∧
    (if i = 1 then (jm_y k').name = "<init>" ∧ jm_ret k' = none else rc ≠ 12 ∧ Cond.selects (jm_y k').cls (jm_y k') (jm_y k') ∈ jm_ws))
def js_i1 (k pc : Nat) (i : Instr) (len : Nat) (r : List Nat) (z : Int) : Prop := match i with
  | .iconst n => len = 1 ∧ (Int32.ofInt n).toInt = z
  | .bipush n => len = 2 ∧ (Int8.ofInt n).toInt32.toInt = z
  | .sipush n => len = 3 ∧ (Int16.ofInt n).toInt32.toInt = z
  | .ldc_w x => len = 3 ∧ ∃ v : Int32, Cond.constant (jm_own k) x v ∈ jm_ws ∧ v.toInt = z
  | .lconst n => len = 1 ∧ (Int64.ofNat n.val).toInt = z
  | .ldc2_w x => len = 3 ∧ ∃ v : Int64, Cond.constantLong (jm_own k) x v ∈ jm_ws ∧ v.toInt = z
  | .iload _ | .lload _ | .aload _ | .istore _ | .lstore _ | .astore _ => len = 2
  | .iinc _ c => len = 3 ∧ (Int32.ofInt c).toInt = c
  | .goto off | .ifCond _ off | .if_icmp _ off | .ifnull off | .ifnonnull off => len = 3 ∧ ∀ t : Nat, r = [t] → (pc : Int) + off = (t : Int)
  | .tableswitch dflt lo hi offs => ∀ (d : Nat) (ts : List Nat), r = d :: ts → (pc : Int) + dflt = (d : Int) ∧ ts.length = offs.size ∧ hi = lo + (ts.length : Int) - 1 ∧ ∀ (j t : Nat) (off : Int), ts[j]? = some t → offs[j]? = some off → (pc : Int) + off = (t : Int)
  | .lookupswitch dflt ps => (ps.toList.zip (ps.toList.drop 1)).all (fun (a, next) => a.1 < next.1) = true ∧ ∀ (d : Nat) (ts : List Nat), r = d :: ts → (pc : Int) + dflt = (d : Int) ∧ ts.length = ps.toList.length ∧ ∀ (j t : Nat) (q : Int × Int), ts[j]? = some t → ps.toList[j]? = some q → (pc : Int) + q.2 = (t : Int)
  | .getfield x => len = 3 ∧ ∀ kd f ty : Nat, r = [kd, f, ty] → js_fl k x kd f ty
  | .putfield x => len = 3 ∧ ∀ kd f ty : Nat, r = [kd, f, ty] → js_fl k x kd f ty ∧ ∀ (C : String) (T : u_T) (N : Nat), vwCl[kd - 10]? = some (C, T, N) → (T f).2.2.2 = true → ((jm_y k).name = "<init>" ∧ jm_own k = C)
  | .invokevirtual x => len = 3 ∧ (∀ k' c rc : Nat, r = [k', c, rc] → js_iv k x 0 k' c rc) ∧ r.length ≠ 1
  | .invokespecial x => len = 3 ∧ (∀ k' c rc : Nat, r = [k', c, rc] → js_iv k x 1 k' c rc) ∧ (r = [1001] → Cond.methodLink (jm_own k) x objectInit ∈ jm_ws ∧ 1 ≤ jm_ht k ∧ 20 ≤ jm_rl k) ∧ (r.length = 1 → r = [1001])
  | .invokestatic x => len = 3 ∧ (∀ k' c rc : Nat, r = [k', c, rc] → js_iv k x 2 k' c rc) ∧ (r = [1000] → Cond.methodLink (jm_own k) x arraycopyName ∈ jm_ws ∧ 1 ≤ jm_ht k ∧ 60 ≤ jm_rl k) ∧ r ≠ [1001] ∧ (r = [1002] → Cond.methodLink (jm_own k) x Lib.Math.max.name ∈ jm_ws ∧ 1 ≤ jm_ht k ∧ 30 ≤ jm_rl k) ∧ (r = [1003] → Cond.methodLink (jm_own k) x Lib.MathLoose.abs_long.x ∈ jm_ws ∧ 1 ≤ jm_ht k ∧ 30 ≤ jm_rl k) ∧ (r = [1004] → Cond.methodLink (jm_own k) x Lib.MathLoose.max_long.x ∈ jm_ws ∧ 1 ≤ jm_ht k ∧ 30 ≤ jm_rl k)
  | .new x => len = 3 ∧ ∀ ci ns : Nat, r = [ci, ns] → ∃ (C : String) (T : u_T), vwCl[ci]? = some (C, T, ns) ∧ Cond.classLink (jm_own k) x C ∈ jm_ws ∧ Cond.instantiable C ns ∈ jm_ws ∧ Cond.initialized C ∈ jm_ws
  | .newarray .int => len = 2 ∧ Cond.arrayClass .int ∈ jm_ws
  | .newarray .long => len = 2 ∧ Cond.arrayClass .long ∈ jm_ws
  | .anewarray x => len = 3 ∧ Cond.classLink (jm_own k) x "LaneWaits$Load" ∈ jm_ws
  | .multianewarray x d => len = 4 ∧ d = 2 ∧ Cond.classLink (jm_own k) x "[[I" ∈ jm_ws ∧ Cond.arrayClass .int ∈ jm_ws
  | .ireturn => len = 1 ∧ (r = [0] → jm_ret k = some .int) ∧ (r = [1] → jm_ret k = some .boolean)
  | .lreturn => len = 1 ∧ jm_ret k = some .long
  | .areturn => len = 1 ∧ ∃ C : String, jm_ret k = some (.object C)
  | .return_ => len = 1 ∧ jm_ret k = none
  | _ => len = 1
def js_ie (k : Nat) (q : jv_E) : Prop := decode (jm_c k) q.1 = .ok (q.2.1, q.2.2.1) ∧ js_i1 k q.1 q.2.1 q.2.2.1 q.2.2.2.1 q.2.2.2.2
/-- what is so of the classes -/
def js_Cl : Prop := (∀ (ci : Nat) (C : String) (T : u_T) (N : Nat), vwCl[ci]? = some (C, T, N) → (∀ w ∈ u_ws C T N, w ∈ jm_ws) ∧ (∀ a, a < N → ∀ b, b < N → a ≠ b → (T a).2.1 ≠ (T b).2.1) ∧ ∃ ty : Nat → FieldType, (∀ k, k < N → parseFieldDescriptor (T k).2.2.1 = some (ty k)) ∧
  ∀ k, k < N → (jv_ft ci k = 0 ∧ ty k = .int) ∨ (jv_ft ci k = 1 ∧ ty k = .boolean) ∨ (jv_ft ci k = 2 ∧ ((∃ C, ty k = .object C) ∨ ∃ t, ty k = .array t))) ∧
  Cond.instanceMethod objectInit ∈ jm_ws ∧ Cond.code objectInit ⟨#[0xb1]⟩ 1 none ∈ jm_ws ∧ Cond.native arraycopyName ∈ jm_ws ∧ Cond.static arraycopyName ∈ jm_ws ∧ Cond.initialized "java/lang/System" ∈ jm_ws ∧ Cond.instantiable "LaneWaits$Load" 8 ∈ jm_ws ∧
  (Cond.initialized "java/lang/Math" ∈ jm_ws ∧ Cond.static Lib.Math.max.name ∈ jm_ws ∧ Cond.code Lib.Math.max.name Lib.Math.max.code 2 (some .int) ∈ jm_ws ∧ Cond.static Lib.MathLoose.abs_long.x ∈ jm_ws ∧ Cond.code Lib.MathLoose.abs_long.x Lib.MathLoose.abs_long.code 2 (some .long) ∈ jm_ws ∧ Cond.static Lib.MathLoose.max_long.x ∈ jm_ws ∧ Cond.code Lib.MathLoose.max_long.x Lib.MathLoose.max_long.code 4 (some .long) ∈ jm_ws) ∧
  ∀ k, k < 225 → True → Cond.code (jm_y k) (jm_c k) (jv_ml k) (jm_ret k) ∈ jm_ws ∧ Cond.initialized (jm_y k).cls ∈ jm_ws ∧ ((jm_y k).cls ≠ "java/lang/invoke/MethodHandle" ∧ (jm_y k).cls ≠ "java/lang/invoke/VarHandle") ∧ plainName (jm_y k).cls = true ∧ jm_own k = (jm_y k).cls
end
section
/-! ===== single instructions ===== -/
def js_X (p : Program) (s : State) (m : MethodId) (args : Array Value) (meth : Method) (c : Code) (D : va_G) (k : Nat) : Prop := p.tables.exec = Jvm.exec ∧ c.code = jm_c k ∧ meth.sig.returnType = jm_ret k ∧ c.maxLocals = jv_ml k ∧ s.vm.findClass (jm_own k) = some m.cls ∧ (∀ w ∈ jm_ws, w.before args s = true) ∧ meth.locks = false ∧ meth.name = (jm_y k).name ∧ js_N s ∧ va_K D vwCl [] s
def js_KG (p : Program) (l : Launch) (e : Env) (R : Room) (s : State) (m : MethodId) (args : Array Value) (below : List Frame) (meth : Method) (c : Code) (cells slots : Nat) (Q : State → Prop) (s0 b n : Nat) (xs : Nat → Int32) (D : va_G) (k : Nat) (L : jv_L) (q : jv_Go) : Prop :=
  ∀ (H' : Heap) (locs' : List Loc) (LS' : Array Slot) (ST' : List Value), jr_M s0 b n xs D s q.2.2.2.1 q.2.2.2.2 H' → jr_le L q.2.2.2.1 → js_L s0 b q.2.2.2.1 (jv_ml k) LS' q.2.1 → js_S s0 b q.2.2.2.1 ST' q.2.2.1 → js_F s0 s H' locs' →
    W p l e R s m args below meth c H' locs' (cells + (q.2.2.2.1.length - L.length)) (slots + (js_sz q.2.2.2.1 - js_sz L)) Q (F0 m q.1 LS' ST')
theorem js_S.cons {s0 b : Nat} {L : jv_L} {ST : List Value} {a : jv_V} {as : List jv_V} (h : js_S s0 b L ST (a :: as)) : ∃ v vs, ST = v :: vs ∧ a ≠ jv_U ∧ jr_V s0 b L a v ∧ js_S s0 b L vs as := by
  cases ST with
  | nil => exact h.elim
  | cons v vs => exact ⟨v, vs, rfl, h⟩
theorem js_S.cI {s0 b : Nat} {L : jv_L} {ST : List Value} {x : Int} {as : List jv_V} (h : js_S s0 b L ST (jv_I x :: as)) : ∃ (w : Int32) (vs : List Value), ST = .int w :: vs ∧ w.toInt = x ∧ js_S s0 b L vs as := by
  obtain ⟨v, vs, rfl, -, ⟨w, rfl, hw⟩, hs⟩ := h.cons
  exact ⟨w, vs, rfl, hw, hs⟩
theorem js_S.cJ {s0 b : Nat} {L : jv_L} {ST : List Value} {x : Int} {as : List jv_V} (h : js_S s0 b L ST (jv_J x :: as)) : ∃ (w : Int64) (vs : List Value), ST = .long w :: vs ∧ w.toInt = x ∧ js_S s0 b L vs as := by
  obtain ⟨v, vs, rfl, -, ⟨w, rfl, hw⟩, hs⟩ := h.cons
  exact ⟨w, vs, rfl, hw, hs⟩
theorem js_S.pI {s0 b : Nat} {L : jv_L} {vs : List Value} {as : List jv_V} (h : js_S s0 b L vs as) {w : Int32} {x : Int} (hw : w.toInt = x) : js_S s0 b L (.int w :: vs) (jv_I x :: as) := ⟨by simp, ⟨w, rfl, hw⟩, h⟩
theorem js_S.pJ {s0 b : Nat} {L : jv_L} {vs : List Value} {as : List jv_V} (h : js_S s0 b L vs as) {w : Int64} {x : Int} (hw : w.toInt = x) : js_S s0 b L (.long w :: vs) (jv_J x :: as) := ⟨by simp, ⟨w, rfl, hw⟩, h⟩
section
variable {p : Program} {l : Launch} {e : Env} {R : Room} {s : State} {m : MethodId} {args : Array Value} {below : List Frame} {meth : Method} {c : Code} {H : Heap} {locs : List Loc} {cells slots : Nat} {Q : State → Prop}
variable {s0 b n : Nat} {xs : Nat → Int32} {D : va_G} {k : Nat} {L : jv_L} {g g' : jv_S} {LS : Array Slot} {ST : List Value} {ls st ls' st' : List jv_V} {pc pc' : Nat}
theorem js_KG.use (hk : js_KG p l e R s m args below meth c cells slots Q s0 b n xs D k L (pc', ls', st', L, g')) (hM : jr_M s0 b n xs D s L g' H) (hl : js_L s0 b L (jv_ml k) LS ls') (hs : js_S s0 b L ST st') (hF : js_F s0 s H locs) : W p l e R s m args below meth c H locs cells slots Q (F0 m pc' LS ST) := by
  have := hk H locs LS ST hM jr_le.rf hl hs hF
  simpa using this
theorem js_o_iconst (X : js_X p s m args meth c D k) (hM : jr_M s0 b n xs D s L g H) (hl : js_L s0 b L (jv_ml k) LS ls) (hF : js_F s0 s H locs) (hS : js_S s0 b L ST st) {a : Int} {z : Int} (hd : decode (jm_c k) pc = .ok (.iconst a, 1)) (hz : (Int32.ofInt a).toInt = z) (hk : js_KG p l e R s m args below meth c cells slots Q s0 b n xs D k L (pc + 1, ls, jv_I z :: st, L, g)) : W p l e R s m args below meth c H locs cells slots Q (F0 m pc LS ST) := by
  exact lv_iconst X.1 X.2.1 hd rfl (hk.use hM hl (hS.pI hz) hF)
theorem js_o_bipush (X : js_X p s m args meth c D k) (hM : jr_M s0 b n xs D s L g H) (hl : js_L s0 b L (jv_ml k) LS ls) (hF : js_F s0 s H locs) (hS : js_S s0 b L ST st) {a : Int} {z : Int} (hd : decode (jm_c k) pc = .ok (.bipush a, 2)) (hz : (Int8.ofInt a).toInt32.toInt = z) (hk : js_KG p l e R s m args below meth c cells slots Q s0 b n xs D k L (pc + 2, ls, jv_I z :: st, L, g)) : W p l e R s m args below meth c H locs cells slots Q (F0 m pc LS ST) := by
  exact lv_bipush X.1 X.2.1 hd rfl (hk.use hM hl (hS.pI hz) hF)
theorem js_o_sipush (X : js_X p s m args meth c D k) (hM : jr_M s0 b n xs D s L g H) (hl : js_L s0 b L (jv_ml k) LS ls) (hF : js_F s0 s H locs) (hS : js_S s0 b L ST st) {a : Int} {z : Int} (hd : decode (jm_c k) pc = .ok (.sipush a, 3)) (hz : (Int16.ofInt a).toInt32.toInt = z) (hk : js_KG p l e R s m args below meth c cells slots Q s0 b n xs D k L (pc + 3, ls, jv_I z :: st, L, g)) : W p l e R s m args below meth c H locs cells slots Q (F0 m pc LS ST) := by
  exact lv_sipush X.1 X.2.1 hd rfl (hk.use hM hl (hS.pI hz) hF)
theorem js_o_lconst (X : js_X p s m args meth c D k) (hM : jr_M s0 b n xs D s L g H) (hl : js_L s0 b L (jv_ml k) LS ls) (hF : js_F s0 s H locs) (hS : js_S s0 b L ST st) {a : Fin 2} {z : Int} (hd : decode (jm_c k) pc = .ok (.lconst a, 1)) (hz : (Int64.ofNat a.val).toInt = z) (hk : js_KG p l e R s m args below meth c cells slots Q s0 b n xs D k L (pc + 1, ls, jv_J z :: st, L, g)) : W p l e R s m args below meth c H locs cells slots Q (F0 m pc LS ST) := by
  exact lv_lconst X.1 X.2.1 hd rfl (hk.use hM hl (hS.pJ hz) hF)
theorem js_o_ldcw (X : js_X p s m args meth c D k) (hM : jr_M s0 b n xs D s L g H) (hl : js_L s0 b L (jv_ml k) LS ls) (hF : js_F s0 s H locs) (hS : js_S s0 b L ST st) {x : Nat} {z : Int} (hd : decode (jm_c k) pc = .ok (.ldc_w x, 3)) (hz : ∃ v : Int32, Cond.constant (jm_own k) x v ∈ jm_ws ∧ v.toInt = z) (hk : js_KG p l e R s m args below meth c cells slots Q s0 b n xs D k L (pc + 3, ls, jv_I z :: st, L, g)) : W p l e R s m args below meth c H locs cells slots Q (F0 m pc LS ST) := by
  obtain ⟨v, h1, h2⟩ := hz
  exact lv_ldcw X.1 X.2.1 X.2.2.2.2.1 (X.2.2.2.2.2.1 _ h1) hd (hk.use hM hl (hS.pI h2) hF)
theorem js_o_ldc2 (X : js_X p s m args meth c D k) (hM : jr_M s0 b n xs D s L g H) (hl : js_L s0 b L (jv_ml k) LS ls) (hF : js_F s0 s H locs) (hS : js_S s0 b L ST st) {x : Nat} {z : Int} (hd : decode (jm_c k) pc = .ok (.ldc2_w x, 3)) (hz : ∃ v : Int64, Cond.constantLong (jm_own k) x v ∈ jm_ws ∧ v.toInt = z) (hk : js_KG p l e R s m args below meth c cells slots Q s0 b n xs D k L (pc + 3, ls, jv_J z :: st, L, g)) : W p l e R s m args below meth c H locs cells slots Q (F0 m pc LS ST) := by
  obtain ⟨v, h1, h2⟩ := hz
  exact lv_ldc2 X.1 X.2.1 X.2.2.2.2.1 (X.2.2.2.2.2.1 _ h1) hd (hk.use hM hl (hS.pJ h2) hF)
theorem js_o_null (X : js_X p s m args meth c D k) (hM : jr_M s0 b n xs D s L g H) (hl : js_L s0 b L (jv_ml k) LS ls) (hF : js_F s0 s H locs) (hS : js_S s0 b L ST st) (hd : decode (jm_c k) pc = .ok (.aconst_null, 1)) (hk : js_KG p l e R s m args below meth c cells slots Q s0 b n xs D k L (pc + 1, ls, jv_D 0 :: st, L, g)) : W p l e R s m args below meth c H locs cells slots Q (F0 m pc LS ST) := by
  exact lv_null X.1 X.2.1 hd (hk.use hM hl ⟨by simp, Or.inl ⟨rfl, rfl⟩, hS⟩ hF)
theorem js_o_iload_n (X : js_X p s m args meth c D k) (hM : jr_M s0 b n xs D s L g H) (hl : js_L s0 b L (jv_ml k) LS ls) (hF : js_F s0 s H locs) (hS : js_S s0 b L ST st) {i : Fin 4} {x : Int} (hi : ls[i.val]? = some (jv_I x)) (hd : decode (jm_c k) pc = .ok (.iload_n i, 1)) (hk : js_KG p l e R s m args below meth c cells slots Q s0 b n xs D k L (pc + 1, ls, jv_I x :: st, L, g)) : W p l e R s m args below meth c H locs cells slots Q (F0 m pc LS ST) := by
  obtain ⟨v, h1, w, rfl, h2⟩ := hl.2.2.2 _ _ hi (by simp) (fun h => by obtain ⟨x, hx⟩ := h; cases hx)
  exact lv_iload_n X.1 X.2.1 hd rfl h1 (hk.use hM hl (hS.pI h2) hF)
theorem js_o_iload (X : js_X p s m args meth c D k) (hM : jr_M s0 b n xs D s L g H) (hl : js_L s0 b L (jv_ml k) LS ls) (hF : js_F s0 s H locs) (hS : js_S s0 b L ST st) {i : Nat} {x : Int} (hi : ls[i]? = some (jv_I x)) (hd : decode (jm_c k) pc = .ok (.iload i, 2)) (hk : js_KG p l e R s m args below meth c cells slots Q s0 b n xs D k L (pc + 2, ls, jv_I x :: st, L, g)) : W p l e R s m args below meth c H locs cells slots Q (F0 m pc LS ST) := by
  obtain ⟨v, h1, w, rfl, h2⟩ := hl.2.2.2 _ _ hi (by simp) (fun h => by obtain ⟨x, hx⟩ := h; cases hx)
  exact lv_iload X.1 X.2.1 hd h1 (hk.use hM hl (hS.pI h2) hF)
theorem js_o_lload_n (X : js_X p s m args meth c D k) (hM : jr_M s0 b n xs D s L g H) (hl : js_L s0 b L (jv_ml k) LS ls) (hF : js_F s0 s H locs) (hS : js_S s0 b L ST st) {i : Fin 4} {x : Int} (hi : ls[i.val]? = some (jv_J x)) (hj : ls[i.val + 1]? = some jv_U) (hd : decode (jm_c k) pc = .ok (.lload_n i, 1)) (hk : js_KG p l e R s m args below meth c cells slots Q s0 b n xs D k L (pc + 1, ls, jv_J x :: st, L, g)) : W p l e R s m args below meth c H locs cells slots Q (F0 m pc LS ST) := by
  obtain ⟨v, h1, w, rfl, h2⟩ := hl.2.2.2 _ _ hi (by simp) (fun h => hj)
  exact lv_lload_n X.1 X.2.1 hd rfl h1 (hk.use hM hl (hS.pJ h2) hF)
theorem js_o_lload (X : js_X p s m args meth c D k) (hM : jr_M s0 b n xs D s L g H) (hl : js_L s0 b L (jv_ml k) LS ls) (hF : js_F s0 s H locs) (hS : js_S s0 b L ST st) {i : Nat} {x : Int} (hi : ls[i]? = some (jv_J x)) (hj : ls[i + 1]? = some jv_U) (hd : decode (jm_c k) pc = .ok (.lload i, 2)) (hk : js_KG p l e R s m args below meth c cells slots Q s0 b n xs D k L (pc + 2, ls, jv_J x :: st, L, g)) : W p l e R s m args below meth c H locs cells slots Q (F0 m pc LS ST) := by
  obtain ⟨v, h1, w, rfl, h2⟩ := hl.2.2.2 _ _ hi (by simp) (fun h => hj)
  exact lv_lload X.1 X.2.1 hd h1 (hk.use hM hl (hS.pJ h2) hF)
theorem js_o_aload_n (X : js_X p s m args meth c D k) (hM : jr_M s0 b n xs D s L g H) (hl : js_L s0 b L (jv_ml k) LS ls) (hF : js_F s0 s H locs) (hS : js_S s0 b L ST st) {i : Fin 4} {a : jv_V} (hi : ls[i.val]? = some a) (ha : a ≠ jv_U) (h1 : ∀ x, a ≠ jv_I x) (h2 : ∀ x, a ≠ jv_J x) (hd : decode (jm_c k) pc = .ok (.aload_n i, 1)) (hk : js_KG p l e R s m args below meth c cells slots Q s0 b n xs D k L (pc + 1, ls, a :: st, L, g)) : W p l e R s m args below meth c H locs cells slots Q (F0 m pc LS ST) := by
  obtain ⟨v, g1, g2⟩ := hl.2.2.2 _ _ hi ha (fun h => by obtain ⟨x, hx⟩ := h; exact absurd hx (h2 x))
  have hk' := hk.use hM hl (ST := v :: ST) ⟨ha, g2, hS⟩ hF
  have hv : v = .null ∨ ∃ q, v = .ref q := by
    rcases a with i | i | q | ⟨q, i⟩ | q | u
    · exact absurd rfl (h1 i)
    · exact absurd rfl (h2 i)
    · exact Or.inr ⟨_, g2.2⟩
    · obtain ⟨_, _, -, -, -, hv⟩ := g2
      exact Or.inr ⟨_, hv⟩
    · rcases g2 with ⟨-, hv⟩ | ⟨-, -, hv⟩
      · exact Or.inl hv
      · exact Or.inr ⟨_, hv⟩
    · exact absurd rfl ha
  rcases hv with rfl | ⟨q, rfl⟩
  · intro T hT Xs
    obtain ⟨t, a1, b1⟩ := hk' T hT Xs
    refine ⟨t, ?_, b1⟩
    jvm_step Xs.here [Xs.here.top, X.1, X.2.1, hd, g1, Value.isRef]
    exact a1
  · exact lv_aload_n X.1 X.2.1 hd rfl g1 hk'
theorem js_o_aload (X : js_X p s m args meth c D k) (hM : jr_M s0 b n xs D s L g H) (hl : js_L s0 b L (jv_ml k) LS ls) (hF : js_F s0 s H locs) (hS : js_S s0 b L ST st) {i : Nat} {a : jv_V} (hi : ls[i]? = some a) (ha : a ≠ jv_U) (h1 : ∀ x, a ≠ jv_I x) (h2 : ∀ x, a ≠ jv_J x) (hd : decode (jm_c k) pc = .ok (.aload i, 2)) (hk : js_KG p l e R s m args below meth c cells slots Q s0 b n xs D k L (pc + 2, ls, a :: st, L, g)) : W p l e R s m args below meth c H locs cells slots Q (F0 m pc LS ST) := by
  obtain ⟨v, g1, g2⟩ := hl.2.2.2 _ _ hi ha (fun h => by obtain ⟨x, hx⟩ := h; exact absurd hx (h2 x))
  have hk' := hk.use hM hl (ST := v :: ST) ⟨ha, g2, hS⟩ hF
  have hv : v = .null ∨ ∃ q, v = .ref q := by
    rcases a with i | i | q | ⟨q, i⟩ | q | u
    · exact absurd rfl (h1 i)
    · exact absurd rfl (h2 i)
    · exact Or.inr ⟨_, g2.2⟩
    · obtain ⟨_, _, -, -, -, hv⟩ := g2
      exact Or.inr ⟨_, hv⟩
    · rcases g2 with ⟨-, hv⟩ | ⟨-, -, hv⟩
      · exact Or.inl hv
      · exact Or.inr ⟨_, hv⟩
    · exact absurd rfl ha
  rcases hv with rfl | ⟨q, rfl⟩
  · intro T hT Xs
    obtain ⟨t, a1, b1⟩ := hk' T hT Xs
    refine ⟨t, ?_, b1⟩
    jvm_step Xs.here [Xs.here.top, X.1, X.2.1, hd, g1, Value.isRef]
    exact a1
  · exact lv_aload X.1 X.2.1 hd g1 hk'
theorem js_o_iadd (X : js_X p s m args meth c D k) (hM : jr_M s0 b n xs D s L g H) (hl : js_L s0 b L (jv_ml k) LS ls) (hF : js_F s0 s H locs) {x y : Int} (hS : js_S s0 b L ST (jv_I y :: jv_I x :: st)) (hd : decode (jm_c k) pc = .ok (.iadd, 1)) (hk : js_KG p l e R s m args below meth c cells slots Q s0 b n xs D k L (pc + 1, ls, jv_I (jv_w32 (x + y)) :: st, L, g)) : W p l e R s m args below meth c H locs cells slots Q (F0 m pc LS ST) := by
  obtain ⟨wy, vs1, rfl, rfl, hS1⟩ := hS.cI
  obtain ⟨wx, vs, rfl, rfl, hS2⟩ := hS1.cI
  refine lv_iadd X.1 X.2.1 hd (hk.use hM hl (hS2.pI ?_) hF)
  unfold jv_w32
  rw [Int32.ofInt_add, Int32.ofInt_toInt, Int32.ofInt_toInt]
theorem js_o_isub (X : js_X p s m args meth c D k) (hM : jr_M s0 b n xs D s L g H) (hl : js_L s0 b L (jv_ml k) LS ls) (hF : js_F s0 s H locs) {x y : Int} (hS : js_S s0 b L ST (jv_I y :: jv_I x :: st)) (hd : decode (jm_c k) pc = .ok (.isub, 1)) (hk : js_KG p l e R s m args below meth c cells slots Q s0 b n xs D k L (pc + 1, ls, jv_I (jv_w32 (x - y)) :: st, L, g)) : W p l e R s m args below meth c H locs cells slots Q (F0 m pc LS ST) := by
  obtain ⟨wy, vs1, rfl, rfl, hS1⟩ := hS.cI
  obtain ⟨wx, vs, rfl, rfl, hS2⟩ := hS1.cI
  refine lv_isub X.1 X.2.1 hd (hk.use hM hl (hS2.pI ?_) hF)
  unfold jv_w32
  rw [Int32.ofInt_sub, Int32.ofInt_toInt, Int32.ofInt_toInt]
theorem js_o_imul (X : js_X p s m args meth c D k) (hM : jr_M s0 b n xs D s L g H) (hl : js_L s0 b L (jv_ml k) LS ls) (hF : js_F s0 s H locs) {x y : Int} (hS : js_S s0 b L ST (jv_I y :: jv_I x :: st)) (hd : decode (jm_c k) pc = .ok (.imul, 1)) (hk : js_KG p l e R s m args below meth c cells slots Q s0 b n xs D k L (pc + 1, ls, jv_I (jv_w32 (x * y)) :: st, L, g)) : W p l e R s m args below meth c H locs cells slots Q (F0 m pc LS ST) := by
  obtain ⟨wy, vs1, rfl, rfl, hS1⟩ := hS.cI
  obtain ⟨wx, vs, rfl, rfl, hS2⟩ := hS1.cI
  refine lv_imul X.1 X.2.1 hd (hk.use hM hl (hS2.pI ?_) hF)
  unfold jv_w32
  rw [Int32.ofInt_mul, Int32.ofInt_toInt, Int32.ofInt_toInt]
theorem js_o_ladd (X : js_X p s m args meth c D k) (hM : jr_M s0 b n xs D s L g H) (hl : js_L s0 b L (jv_ml k) LS ls) (hF : js_F s0 s H locs) {x y : Int} (hS : js_S s0 b L ST (jv_J y :: jv_J x :: st)) (hd : decode (jm_c k) pc = .ok (.ladd, 1)) (hk : js_KG p l e R s m args below meth c cells slots Q s0 b n xs D k L (pc + 1, ls, jv_J (jv_w64 (x + y)) :: st, L, g)) : W p l e R s m args below meth c H locs cells slots Q (F0 m pc LS ST) := by
  obtain ⟨wy, vs1, rfl, rfl, hS1⟩ := hS.cJ
  obtain ⟨wx, vs, rfl, rfl, hS2⟩ := hS1.cJ
  refine lv_ladd X.1 X.2.1 hd (hk.use hM hl (hS2.pJ ?_) hF)
  unfold jv_w64
  rw [Int64.ofInt_add, Int64.ofInt_toInt, Int64.ofInt_toInt]
theorem js_o_lmul (X : js_X p s m args meth c D k) (hM : jr_M s0 b n xs D s L g H) (hl : js_L s0 b L (jv_ml k) LS ls) (hF : js_F s0 s H locs) {x y : Int} (hS : js_S s0 b L ST (jv_J y :: jv_J x :: st)) (hd : decode (jm_c k) pc = .ok (.lmul, 1)) (hk : js_KG p l e R s m args below meth c cells slots Q s0 b n xs D k L (pc + 1, ls, jv_J (jv_w64 (x * y)) :: st, L, g)) : W p l e R s m args below meth c H locs cells slots Q (F0 m pc LS ST) := by
  obtain ⟨wy, vs1, rfl, rfl, hS1⟩ := hS.cJ
  obtain ⟨wx, vs, rfl, rfl, hS2⟩ := hS1.cJ
  refine lv_lmul X.1 X.2.1 hd (hk.use hM hl (hS2.pJ ?_) hF)
  unfold jv_w64
  rw [Int64.ofInt_mul, Int64.ofInt_toInt, Int64.ofInt_toInt]
theorem js_o_ineg (X : js_X p s m args meth c D k) (hM : jr_M s0 b n xs D s L g H) (hl : js_L s0 b L (jv_ml k) LS ls) (hF : js_F s0 s H locs) {x : Int} (hS : js_S s0 b L ST (jv_I x :: st)) (hd : decode (jm_c k) pc = .ok (.ineg, 1)) (hk : js_KG p l e R s m args below meth c cells slots Q s0 b n xs D k L (pc + 1, ls, jv_I (jv_w32 (- x)) :: st, L, g)) : W p l e R s m args below meth c H locs cells slots Q (F0 m pc LS ST) := by
  obtain ⟨wx, vs, rfl, rfl, hS2⟩ := hS.cI
  refine lv_ineg X.1 X.2.1 hd (hk.use hM hl (hS2.pI ?_) hF)
  unfold jv_w32
  rw [Int32.ofInt_neg, Int32.ofInt_toInt]
theorem js_o_lneg (X : js_X p s m args meth c D k) (hM : jr_M s0 b n xs D s L g H) (hl : js_L s0 b L (jv_ml k) LS ls) (hF : js_F s0 s H locs) {x : Int} (hS : js_S s0 b L ST (jv_J x :: st)) (hd : decode (jm_c k) pc = .ok (.lneg, 1)) (hk : js_KG p l e R s m args below meth c cells slots Q s0 b n xs D k L (pc + 1, ls, jv_J (jv_w64 (- x)) :: st, L, g)) : W p l e R s m args below meth c H locs cells slots Q (F0 m pc LS ST) := by
  obtain ⟨wx, vs, rfl, rfl, hS2⟩ := hS.cJ
  refine lv_lneg X.1 X.2.1 hd (hk.use hM hl (hS2.pJ ?_) hF)
  unfold jv_w64
  rw [Int64.ofInt_neg, Int64.ofInt_toInt]
theorem js_o_iand (X : js_X p s m args meth c D k) (hM : jr_M s0 b n xs D s L g H) (hl : js_L s0 b L (jv_ml k) LS ls) (hF : js_F s0 s H locs) {x y : Int} (hS : js_S s0 b L ST (jv_I y :: jv_I x :: st)) (hd : decode (jm_c k) pc = .ok (.iand, 1)) (hk : js_KG p l e R s m args below meth c cells slots Q s0 b n xs D k L (pc + 1, ls, jv_I (jv_and x y) :: st, L, g)) : W p l e R s m args below meth c H locs cells slots Q (F0 m pc LS ST) := by
  obtain ⟨wy, vs1, rfl, rfl, hS1⟩ := hS.cI
  obtain ⟨wx, vs, rfl, rfl, hS2⟩ := hS1.cI
  refine lv_iand X.1 X.2.1 hd (hk.use hM hl (hS2.pI ?_) hF)
  unfold jv_and
  rw [Int32.ofInt_toInt, Int32.ofInt_toInt]
theorem js_o_ior (X : js_X p s m args meth c D k) (hM : jr_M s0 b n xs D s L g H) (hl : js_L s0 b L (jv_ml k) LS ls) (hF : js_F s0 s H locs) {x y : Int} (hS : js_S s0 b L ST (jv_I y :: jv_I x :: st)) (hd : decode (jm_c k) pc = .ok (.ior, 1)) (hk : js_KG p l e R s m args below meth c cells slots Q s0 b n xs D k L (pc + 1, ls, jv_I (jv_or x y) :: st, L, g)) : W p l e R s m args below meth c H locs cells slots Q (F0 m pc LS ST) := by
  obtain ⟨wy, vs1, rfl, rfl, hS1⟩ := hS.cI
  obtain ⟨wx, vs, rfl, rfl, hS2⟩ := hS1.cI
  refine lv_ior X.1 X.2.1 hd (hk.use hM hl (hS2.pI ?_) hF)
  unfold jv_or
  rw [Int32.ofInt_toInt, Int32.ofInt_toInt]
theorem js_o_ixor (X : js_X p s m args meth c D k) (hM : jr_M s0 b n xs D s L g H) (hl : js_L s0 b L (jv_ml k) LS ls) (hF : js_F s0 s H locs) {x y : Int} (hS : js_S s0 b L ST (jv_I y :: jv_I x :: st)) (hd : decode (jm_c k) pc = .ok (.ixor, 1)) (hk : js_KG p l e R s m args below meth c cells slots Q s0 b n xs D k L (pc + 1, ls, jv_I (jv_xor x y) :: st, L, g)) : W p l e R s m args below meth c H locs cells slots Q (F0 m pc LS ST) := by
  obtain ⟨wy, vs1, rfl, rfl, hS1⟩ := hS.cI
  obtain ⟨wx, vs, rfl, rfl, hS2⟩ := hS1.cI
  refine lv_ixor X.1 X.2.1 hd (hk.use hM hl (hS2.pI ?_) hF)
  unfold jv_xor
  rw [Int32.ofInt_toInt, Int32.ofInt_toInt]
theorem js_o_ishl (X : js_X p s m args meth c D k) (hM : jr_M s0 b n xs D s L g H) (hl : js_L s0 b L (jv_ml k) LS ls) (hF : js_F s0 s H locs) {x y : Int} (hS : js_S s0 b L ST (jv_I y :: jv_I x :: st)) (hd : decode (jm_c k) pc = .ok (.ishl, 1)) (hk : js_KG p l e R s m args below meth c cells slots Q s0 b n xs D k L (pc + 1, ls, jv_I (jv_shl x y) :: st, L, g)) : W p l e R s m args below meth c H locs cells slots Q (F0 m pc LS ST) := by
  obtain ⟨wy, vs1, rfl, rfl, hS1⟩ := hS.cI
  obtain ⟨wx, vs, rfl, rfl, hS2⟩ := hS1.cI
  refine lv_ishl X.1 X.2.1 hd (hk.use hM hl (hS2.pI ?_) hF)
  unfold jv_shl
  rw [Int32.ofInt_toInt, Int32.ofInt_toInt]
theorem js_o_ishr (X : js_X p s m args meth c D k) (hM : jr_M s0 b n xs D s L g H) (hl : js_L s0 b L (jv_ml k) LS ls) (hF : js_F s0 s H locs) {x y : Int} (hS : js_S s0 b L ST (jv_I y :: jv_I x :: st)) (hd : decode (jm_c k) pc = .ok (.ishr, 1)) (hk : js_KG p l e R s m args below meth c cells slots Q s0 b n xs D k L (pc + 1, ls, jv_I (jv_shr x y) :: st, L, g)) : W p l e R s m args below meth c H locs cells slots Q (F0 m pc LS ST) := by
  obtain ⟨wy, vs1, rfl, rfl, hS1⟩ := hS.cI
  obtain ⟨wx, vs, rfl, rfl, hS2⟩ := hS1.cI
  refine lv_ishr X.1 X.2.1 hd (hk.use hM hl (hS2.pI ?_) hF)
  unfold jv_shr
  rw [Int32.ofInt_toInt, Int32.ofInt_toInt]
theorem js_o_iushr (X : js_X p s m args meth c D k) (hM : jr_M s0 b n xs D s L g H) (hl : js_L s0 b L (jv_ml k) LS ls) (hF : js_F s0 s H locs) {x y : Int} (hS : js_S s0 b L ST (jv_I y :: jv_I x :: st)) (hd : decode (jm_c k) pc = .ok (.iushr, 1)) (hk : js_KG p l e R s m args below meth c cells slots Q s0 b n xs D k L (pc + 1, ls, jv_I (jv_ushr x y) :: st, L, g)) : W p l e R s m args below meth c H locs cells slots Q (F0 m pc LS ST) := by
  obtain ⟨wy, vs1, rfl, rfl, hS1⟩ := hS.cI
  obtain ⟨wx, vs, rfl, rfl, hS2⟩ := hS1.cI
  refine lv_iushr X.1 X.2.1 hd rfl (hk.use hM hl (hS2.pI ?_) hF)
  unfold jv_ushr
  rw [Int32.ofInt_toInt, Int32.ofInt_toInt]
theorem js_o_i2b (X : js_X p s m args meth c D k) (hM : jr_M s0 b n xs D s L g H) (hl : js_L s0 b L (jv_ml k) LS ls) (hF : js_F s0 s H locs) {x : Int} (hS : js_S s0 b L ST (jv_I x :: st)) (hd : decode (jm_c k) pc = .ok (.i2b, 1)) (hk : js_KG p l e R s m args below meth c cells slots Q s0 b n xs D k L (pc + 1, ls, jv_I (jv_i2b x) :: st, L, g)) : W p l e R s m args below meth c H locs cells slots Q (F0 m pc LS ST) := by
  obtain ⟨wx, vs, rfl, rfl, hS2⟩ := hS.cI
  refine lv_i2b X.1 X.2.1 hd rfl (hk.use hM hl (hS2.pI ?_) hF)
  unfold jv_i2b
  rw [Int32.ofInt_toInt]
theorem js_o_i2s (X : js_X p s m args meth c D k) (hM : jr_M s0 b n xs D s L g H) (hl : js_L s0 b L (jv_ml k) LS ls) (hF : js_F s0 s H locs) {x : Int} (hS : js_S s0 b L ST (jv_I x :: st)) (hd : decode (jm_c k) pc = .ok (.i2s, 1)) (hk : js_KG p l e R s m args below meth c cells slots Q s0 b n xs D k L (pc + 1, ls, jv_I (jv_i2s x) :: st, L, g)) : W p l e R s m args below meth c H locs cells slots Q (F0 m pc LS ST) := by
  obtain ⟨wx, vs, rfl, rfl, hS2⟩ := hS.cI
  refine lv_i2s X.1 X.2.1 hd rfl (hk.use hM hl (hS2.pI ?_) hF)
  unfold jv_i2s
  rw [Int32.ofInt_toInt]
theorem js_o_i2l (X : js_X p s m args meth c D k) (hM : jr_M s0 b n xs D s L g H) (hl : js_L s0 b L (jv_ml k) LS ls) (hF : js_F s0 s H locs) {x : Int} (hS : js_S s0 b L ST (jv_I x :: st)) (hd : decode (jm_c k) pc = .ok (.i2l, 1)) (hk : js_KG p l e R s m args below meth c cells slots Q s0 b n xs D k L (pc + 1, ls, jv_J x :: st, L, g)) : W p l e R s m args below meth c H locs cells slots Q (F0 m pc LS ST) := by
  obtain ⟨wx, vs, rfl, rfl, hS2⟩ := hS.cI
  refine lv_i2l X.1 X.2.1 hd rfl (hk.use hM hl (hS2.pJ ?_) hF)
  simp
theorem js_o_lcmp (X : js_X p s m args meth c D k) (hM : jr_M s0 b n xs D s L g H) (hl : js_L s0 b L (jv_ml k) LS ls) (hF : js_F s0 s H locs) {x y : Int} (hS : js_S s0 b L ST (jv_J y :: jv_J x :: st)) (hd : decode (jm_c k) pc = .ok (.lcmp, 1)) (hk : js_KG p l e R s m args below meth c cells slots Q s0 b n xs D k L (pc + 1, ls, jv_I (jv_cmp x y) :: st, L, g)) : W p l e R s m args below meth c H locs cells slots Q (F0 m pc LS ST) := by
  obtain ⟨wy, vs1, rfl, rfl, hS1⟩ := hS.cJ
  obtain ⟨wx, vs, rfl, rfl, hS2⟩ := hS1.cJ
  refine W.lcmp X.1 X.2.1 hd (hk.use hM hl (hS2.pI ?_) hF)
  unfold jv_cmp lg_cmp
  simp only [gt_iff_lt, Int64.lt_iff_toInt_lt, ← Int64.toInt_inj]
  split
  · rfl
  · split <;> rfl
theorem js_o_idiv (X : js_X p s m args meth c D k) (hM : jr_M s0 b n xs D s L g H) (hl : js_L s0 b L (jv_ml k) LS ls) (hF : js_F s0 s H locs) {x y : Int} (hS : js_S s0 b L ST (jv_I y :: jv_I x :: st)) (hd : decode (jm_c k) pc = .ok (.idiv, 1)) (hc : 0 ≤ x ∧ 0 < y) (hk : js_KG p l e R s m args below meth c cells slots Q s0 b n xs D k L (pc + 1, ls, jv_I (x / y) :: st, L, g)) : W p l e R s m args below meth c H locs cells slots Q (F0 m pc LS ST) := by
  obtain ⟨wy, vs1, rfl, rfl, hS1⟩ := hS.cI
  obtain ⟨wx, vs, rfl, rfl, hS2⟩ := hS1.cI
  have hx0 : ¬ wx < 0 := by rw [Int32.lt_iff_toInt_lt]; simp; omega
  have hy0 : ¬ wy < 0 := by rw [Int32.lt_iff_toInt_lt]; simp; omega
  obtain ⟨j, hj, rfl⟩ := nI_of hx0
  obtain ⟨j2, hj2, rfl⟩ := nI_of hy0
  rw [nI_toInt hj, nI_toInt hj2] at hc hk
  have h0 : 0 < j2 := by omega
  refine lv_idiv X.1 X.2.1 hd (fun h => ?_) (hk.use hM hl (hS2.pI ?_) hF)
  · have := congrArg Int32.toInt h
    rw [nI_toInt hj2] at this
    simp at this
    omega
  · rw [pk_div hj h0 hj2, nI_toInt (Nat.lt_of_le_of_lt (Nat.div_le_self _ _) hj)]
    simp
theorem js_o_irem (X : js_X p s m args meth c D k) (hM : jr_M s0 b n xs D s L g H) (hl : js_L s0 b L (jv_ml k) LS ls) (hF : js_F s0 s H locs) {x y : Int} (hS : js_S s0 b L ST (jv_I y :: jv_I x :: st)) (hd : decode (jm_c k) pc = .ok (.irem, 1)) (hc : 0 ≤ x ∧ 0 < y) (hk : js_KG p l e R s m args below meth c cells slots Q s0 b n xs D k L (pc + 1, ls, jv_I (x % y) :: st, L, g)) : W p l e R s m args below meth c H locs cells slots Q (F0 m pc LS ST) := by
  obtain ⟨wy, vs1, rfl, rfl, hS1⟩ := hS.cI
  obtain ⟨wx, vs, rfl, rfl, hS2⟩ := hS1.cI
  have hx0 : ¬ wx < 0 := by rw [Int32.lt_iff_toInt_lt]; simp; omega
  have hy0 : ¬ wy < 0 := by rw [Int32.lt_iff_toInt_lt]; simp; omega
  obtain ⟨j, hj, rfl⟩ := nI_of hx0
  obtain ⟨j2, hj2, rfl⟩ := nI_of hy0
  rw [nI_toInt hj, nI_toInt hj2] at hc hk
  have h0 : 0 < j2 := by omega
  refine lv_irem X.1 X.2.1 hd (fun h => ?_) (hk.use hM hl (hS2.pI ?_) hF)
  · have := congrArg Int32.toInt h
    rw [nI_toInt hj2] at this
    simp at this
    omega
  · rw [pk_rem hj h0 hj2, nI_toInt (Nat.lt_of_le_of_lt (Nat.mod_le _ _) hj)]
    simp
theorem js_o_ldiv (X : js_X p s m args meth c D k) (hM : jr_M s0 b n xs D s L g H) (hl : js_L s0 b L (jv_ml k) LS ls) (hF : js_F s0 s H locs) {x y : Int} (hS : js_S s0 b L ST (jv_J y :: jv_J x :: st)) (hd : decode (jm_c k) pc = .ok (.ldiv, 1)) (hc : 0 ≤ x ∧ 0 < y) (hk : js_KG p l e R s m args below meth c cells slots Q s0 b n xs D k L (pc + 1, ls, jv_J (x / y) :: st, L, g)) : W p l e R s m args below meth c H locs cells slots Q (F0 m pc LS ST) := by
  obtain ⟨wy, vs1, rfl, rfl, hS1⟩ := hS.cJ
  obtain ⟨wx, vs, rfl, rfl, hS2⟩ := hS1.cJ
  have hx0 : ¬ wx < 0 := by rw [Int64.lt_iff_toInt_lt]; simp; omega
  have hy0 : ¬ wy < 0 := by rw [Int64.lt_iff_toInt_lt]; simp; omega
  obtain ⟨j, hj, rfl⟩ := pk_lOf hx0
  obtain ⟨j2, hj2, rfl⟩ := pk_lOf hy0
  rw [pk_lT hj, pk_lT hj2] at hc hk
  have h0 : 0 < j2 := by omega
  refine lv_ldiv X.1 X.2.1 hd (fun h => ?_) (hk.use hM hl (hS2.pJ ?_) hF)
  · have := congrArg Int64.toInt h
    rw [pk_lT hj2] at this
    simp at this
    omega
  · rw [pk_lDiv hj h0 hj2, pk_lT (Nat.lt_of_le_of_lt (Nat.div_le_self _ _) hj)]
    simp
theorem js_o_lrem (X : js_X p s m args meth c D k) (hM : jr_M s0 b n xs D s L g H) (hl : js_L s0 b L (jv_ml k) LS ls) (hF : js_F s0 s H locs) {x y : Int} (hS : js_S s0 b L ST (jv_J y :: jv_J x :: st)) (hd : decode (jm_c k) pc = .ok (.lrem, 1)) (hc : 0 ≤ x ∧ 0 < y) (hk : js_KG p l e R s m args below meth c cells slots Q s0 b n xs D k L (pc + 1, ls, jv_J (x % y) :: st, L, g)) : W p l e R s m args below meth c H locs cells slots Q (F0 m pc LS ST) := by
  obtain ⟨wy, vs1, rfl, rfl, hS1⟩ := hS.cJ
  obtain ⟨wx, vs, rfl, rfl, hS2⟩ := hS1.cJ
  have hx0 : ¬ wx < 0 := by rw [Int64.lt_iff_toInt_lt]; simp; omega
  have hy0 : ¬ wy < 0 := by rw [Int64.lt_iff_toInt_lt]; simp; omega
  obtain ⟨j, hj, rfl⟩ := pk_lOf hx0
  obtain ⟨j2, hj2, rfl⟩ := pk_lOf hy0
  rw [pk_lT hj, pk_lT hj2] at hc hk
  have h0 : 0 < j2 := by omega
  refine lv_lrem X.1 X.2.1 hd (fun h => ?_) (hk.use hM hl (hS2.pJ ?_) hF)
  · have := congrArg Int64.toInt h
    rw [pk_lT hj2] at this
    simp at this
    omega
  · rw [pk_lRem hj h0 hj2, pk_lT (Nat.lt_of_le_of_lt (Nat.mod_le _ _) hj)]
    simp
theorem js_o_dup (X : js_X p s m args meth c D k) (hM : jr_M s0 b n xs D s L g H) (hl : js_L s0 b L (jv_ml k) LS ls) (hF : js_F s0 s H locs) {a : jv_V} (hS : js_S s0 b L ST (a :: st)) (hj : ∀ x, a ≠ jv_J x) (hd : decode (jm_c k) pc = .ok (.dup, 1)) (hk : js_KG p l e R s m args below meth c cells slots Q s0 b n xs D k L (pc + 1, ls, a :: a :: st, L, g)) : W p l e R s m args below meth c H locs cells slots Q (F0 m pc LS ST) := by
  obtain ⟨v, vs, rfl, ha, hv, hS2⟩ := hS.cons
  exact lv_dup X.1 X.2.1 hd (js_cat1 hv ha hj) (hk.use hM hl ⟨ha, hv, ha, hv, hS2⟩ hF)
theorem js_o_dup2 (X : js_X p s m args meth c D k) (hM : jr_M s0 b n xs D s L g H) (hl : js_L s0 b L (jv_ml k) LS ls) (hF : js_F s0 s H locs) {a : jv_V} {x : Int} (hS : js_S s0 b L ST (jv_I x :: a :: st)) (hj : ∀ x, a ≠ jv_J x) (hd : decode (jm_c k) pc = .ok (.dup2, 1)) (hk : js_KG p l e R s m args below meth c cells slots Q s0 b n xs D k L (pc + 1, ls, jv_I x :: a :: jv_I x :: a :: st, L, g)) : W p l e R s m args below meth c H locs cells slots Q (F0 m pc LS ST) := by
  obtain ⟨w, vs1, rfl, rfl, hS1⟩ := hS.cI
  obtain ⟨v, vs, rfl, ha, hv, hS2⟩ := hS1.cons
  exact lv_dup2_11 X.1 X.2.1 hd rfl (js_cat1 hv ha hj) (hk.use hM hl ⟨by simp, ⟨w, rfl, rfl⟩, ha, hv, by simp, ⟨w, rfl, rfl⟩, ha, hv, hS2⟩ hF)
end
end
section
/-! ===== single instructions: locals, branches, fields, arrays ===== -/
section
variable {p : Program} {l : Launch} {e : Env} {R : Room} {s : State} {m : MethodId} {args : Array Value} {below : List Frame} {meth : Method} {c : Code} {H : Heap} {locs : List Loc} {cells slots : Nat} {Q : State → Prop}
variable {s0 b n : Nat} {xs : Nat → Int32} {D : va_G} {k : Nat} {L : jv_L} {g g' : jv_S} {LS : Array Slot} {ST : List Value} {ls st ls' st' : List jv_V} {pc pc' : Nat}
theorem js_o_istore_n (X : js_X p s m args meth c D k) (hM : jr_M s0 b n xs D s L g H) (hl : js_L s0 b L (jv_ml k) LS ls) (hF : js_F s0 s H locs) {i : Fin 4} {x : Int} (hS : js_S s0 b L ST (jv_I x :: st)) (hi : i.val + 1 ≤ ls.length) (hd : decode (jm_c k) pc = .ok (.istore_n i, 1)) (hk : js_KG p l e R s m args below meth c cells slots Q s0 b n xs D k L (pc + 1, jv_s1 ls i.val (jv_I x), st, L, g)) : W p l e R s m args below meth c H locs cells slots Q (F0 m pc LS ST) := by
  obtain ⟨w, vs, rfl, rfl, hS2⟩ := hS.cI
  have hn := hl.2.2.1
  obtain ⟨LS', e1, hl'⟩ := hl.store1 (i := i.val) (by omega) (show jr_V s0 b L (jv_I w.toInt) _ from ⟨w, rfl, rfl⟩) (by simp) (by simp)
  have hk' := hk.use hM hl' hS2 hF
  intro T hT Xs
  obtain ⟨t, a1, b1⟩ := hk' T hT Xs
  refine ⟨t, ?_, b1⟩
  jvm_step Xs.here [Xs.here.top, ↓top_set Xs.here.top, X.1, X.2.1, hd, e1]
  exact a1
theorem js_o_istore (X : js_X p s m args meth c D k) (hM : jr_M s0 b n xs D s L g H) (hl : js_L s0 b L (jv_ml k) LS ls) (hF : js_F s0 s H locs) {i : Nat} {x : Int} (hS : js_S s0 b L ST (jv_I x :: st)) (hi : i + 1 ≤ ls.length) (hd : decode (jm_c k) pc = .ok (.istore i, 2)) (hk : js_KG p l e R s m args below meth c cells slots Q s0 b n xs D k L (pc + 2, jv_s1 ls i (jv_I x), st, L, g)) : W p l e R s m args below meth c H locs cells slots Q (F0 m pc LS ST) := by
  obtain ⟨w, vs, rfl, rfl, hS2⟩ := hS.cI
  have hn := hl.2.2.1
  obtain ⟨LS', e1, hl'⟩ := hl.store1 (i := i) (by omega) (show jr_V s0 b L (jv_I w.toInt) _ from ⟨w, rfl, rfl⟩) (by simp) (by simp)
  have hk' := hk.use hM hl' hS2 hF
  intro T hT Xs
  obtain ⟨t, a1, b1⟩ := hk' T hT Xs
  refine ⟨t, ?_, b1⟩
  jvm_step Xs.here [Xs.here.top, ↓top_set Xs.here.top, X.1, X.2.1, hd, e1]
  exact a1
theorem js_o_lstore_n (X : js_X p s m args meth c D k) (hM : jr_M s0 b n xs D s L g H) (hl : js_L s0 b L (jv_ml k) LS ls) (hF : js_F s0 s H locs) {i : Fin 4} {x : Int} (hS : js_S s0 b L ST (jv_J x :: st)) (hi : i.val + 2 ≤ ls.length) (hd : decode (jm_c k) pc = .ok (.lstore_n i, 1)) (hk : js_KG p l e R s m args below meth c cells slots Q s0 b n xs D k L (pc + 1, jv_s2 ls i.val (jv_J x), st, L, g)) : W p l e R s m args below meth c H locs cells slots Q (F0 m pc LS ST) := by
  obtain ⟨w, vs, rfl, rfl, hS2⟩ := hS.cJ
  have hn := hl.2.2.1
  obtain ⟨LS', e1, hl'⟩ := hl.store2 (i := i.val) (by omega) (show jr_V s0 b L (jv_J w.toInt) _ from ⟨w, rfl, rfl⟩)
  have hk' := hk.use hM hl' hS2 hF
  intro T hT Xs
  obtain ⟨t, a1, b1⟩ := hk' T hT Xs
  refine ⟨t, ?_, b1⟩
  jvm_step Xs.here [Xs.here.top, ↓top_set Xs.here.top, X.1, X.2.1, hd, e1]
  exact a1
theorem js_o_lstore (X : js_X p s m args meth c D k) (hM : jr_M s0 b n xs D s L g H) (hl : js_L s0 b L (jv_ml k) LS ls) (hF : js_F s0 s H locs) {i : Nat} {x : Int} (hS : js_S s0 b L ST (jv_J x :: st)) (hi : i + 2 ≤ ls.length) (hd : decode (jm_c k) pc = .ok (.lstore i, 2)) (hk : js_KG p l e R s m args below meth c cells slots Q s0 b n xs D k L (pc + 2, jv_s2 ls i (jv_J x), st, L, g)) : W p l e R s m args below meth c H locs cells slots Q (F0 m pc LS ST) := by
  obtain ⟨w, vs, rfl, rfl, hS2⟩ := hS.cJ
  have hn := hl.2.2.1
  obtain ⟨LS', e1, hl'⟩ := hl.store2 (i := i) (by omega) (show jr_V s0 b L (jv_J w.toInt) _ from ⟨w, rfl, rfl⟩)
  have hk' := hk.use hM hl' hS2 hF
  intro T hT Xs
  obtain ⟨t, a1, b1⟩ := hk' T hT Xs
  refine ⟨t, ?_, b1⟩
  jvm_step Xs.here [Xs.here.top, ↓top_set Xs.here.top, X.1, X.2.1, hd, e1]
  exact a1
theorem js_o_astore_n (X : js_X p s m args meth c D k) (hM : jr_M s0 b n xs D s L g H) (hl : js_L s0 b L (jv_ml k) LS ls) (hF : js_F s0 s H locs) {i : Fin 4} {a : jv_V} (hS : js_S s0 b L ST (a :: st)) (ha : ∀ x, a ≠ jv_I x) (hj : ∀ x, a ≠ jv_J x) (hi : i.val + 1 ≤ ls.length) (hd : decode (jm_c k) pc = .ok (.astore_n i, 1)) (hk : js_KG p l e R s m args below meth c cells slots Q s0 b n xs D k L (pc + 1, jv_s1 ls i.val a, st, L, g)) : W p l e R s m args below meth c H locs cells slots Q (F0 m pc LS ST) := by
  obtain ⟨v, vs, rfl, hu, hv, hS2⟩ := hS.cons
  have hn := hl.2.2.1
  obtain ⟨LS', e1, hl'⟩ := hl.store1 (i := i.val) (by omega) hv hu hj
  have hk' := hk.use hM hl' hS2 hF
  have hr : v.isRef = true := by
    rcases a with i | i | q | ⟨q, i⟩ | q | u
    · exact absurd rfl (ha i)
    · exact absurd rfl (hj i)
    · obtain ⟨-, rfl⟩ := hv; rfl
    · obtain ⟨_, _, -, -, -, rfl⟩ := hv; rfl
    · rcases hv with ⟨-, rfl⟩ | ⟨-, -, rfl⟩ <;> rfl
    · exact absurd rfl hu
  intro T hT Xs
  obtain ⟨t, a1, b1⟩ := hk' T hT Xs
  refine ⟨t, ?_, b1⟩
  cases v <;> first | (cases hr; done) | (jvm_step Xs.here [Xs.here.top, ↓top_set Xs.here.top, X.1, X.2.1, hd, e1, Value.isRef]; exact a1)
theorem js_o_astore (X : js_X p s m args meth c D k) (hM : jr_M s0 b n xs D s L g H) (hl : js_L s0 b L (jv_ml k) LS ls) (hF : js_F s0 s H locs) {i : Nat} {a : jv_V} (hS : js_S s0 b L ST (a :: st)) (ha : ∀ x, a ≠ jv_I x) (hj : ∀ x, a ≠ jv_J x) (hi : i + 1 ≤ ls.length) (hd : decode (jm_c k) pc = .ok (.astore i, 2)) (hk : js_KG p l e R s m args below meth c cells slots Q s0 b n xs D k L (pc + 2, jv_s1 ls i a, st, L, g)) : W p l e R s m args below meth c H locs cells slots Q (F0 m pc LS ST) := by
  obtain ⟨v, vs, rfl, hu, hv, hS2⟩ := hS.cons
  have hn := hl.2.2.1
  obtain ⟨LS', e1, hl'⟩ := hl.store1 (i := i) (by omega) hv hu hj
  have hk' := hk.use hM hl' hS2 hF
  have hr : v.isRef = true := by
    rcases a with i | i | q | ⟨q, i⟩ | q | u
    · exact absurd rfl (ha i)
    · exact absurd rfl (hj i)
    · obtain ⟨-, rfl⟩ := hv; rfl
    · obtain ⟨_, _, -, -, -, rfl⟩ := hv; rfl
    · rcases hv with ⟨-, rfl⟩ | ⟨-, -, rfl⟩ <;> rfl
    · exact absurd rfl hu
  intro T hT Xs
  obtain ⟨t, a1, b1⟩ := hk' T hT Xs
  refine ⟨t, ?_, b1⟩
  cases v <;> first | (cases hr; done) | (jvm_step Xs.here [Xs.here.top, ↓top_set Xs.here.top, X.1, X.2.1, hd, e1, Value.isRef]; exact a1)
theorem js_o_iinc (X : js_X p s m args meth c D k) (hM : jr_M s0 b n xs D s L g H) (hl : js_L s0 b L (jv_ml k) LS ls) (hF : js_F s0 s H locs) (hS : js_S s0 b L ST st) {i : Nat} {cc x : Int} (hi : ls[i]? = some (jv_I x)) (hc : (Int32.ofInt cc).toInt = cc) (hd : decode (jm_c k) pc = .ok (.iinc i cc, 3)) (hk : js_KG p l e R s m args below meth c cells slots Q s0 b n xs D k L (pc + 3, jv_s1 ls i (jv_I (jv_w32 (x + cc))), st, L, g)) : W p l e R s m args below meth c H locs cells slots Q (F0 m pc LS ST) := by
  obtain ⟨v, h1, w, rfl, rfl⟩ := hl.2.2.2 _ _ hi (by simp) (fun h => by obtain ⟨x, hx⟩ := h; cases hx)
  have hn := hl.2.2.1
  have hlt : i < ls.length := (List.getElem?_eq_some_iff.mp hi).1
  have hv : jr_V s0 b L (jv_I (jv_w32 (w.toInt + cc))) (.int (w + Int32.ofInt cc)) := ⟨_, rfl, by unfold jv_w32; rw [Int32.ofInt_add, Int32.ofInt_toInt]⟩
  obtain ⟨LS', e1, hl'⟩ := hl.store1 (i := i) (by omega) hv (by simp) (by simp)
  have hk' := hk.use hM hl' hS hF
  intro T hT Xs
  obtain ⟨t, a1, b1⟩ := hk' T hT Xs
  refine ⟨t, ?_, b1⟩
  jvm_step Xs.here [Xs.here.top, ↓top_set Xs.here.top, X.1, X.2.1, hd, h1, e1]
  exact a1
theorem js_o_goto (X : js_X p s m args meth c D k) (hM : jr_M s0 b n xs D s L g H) (hl : js_L s0 b L (jv_ml k) LS ls) (hF : js_F s0 s H locs) (hS : js_S s0 b L ST st) {off : Int} {t : Nat} (ht : (pc : Int) + off = (t : Int)) (hd : decode (jm_c k) pc = .ok (.goto off, 3)) (hk : js_KG p l e R s m args below meth c cells slots Q s0 b n xs D k L (t, ls, st, L, g)) : W p l e R s m args below meth c H locs cells slots Q (F0 m pc LS ST) := by
  exact lv_goto X.1 X.2.1 hd ht (hk.use hM hl hS hF)
theorem js_o_icmp_eq (X : js_X p s m args meth c D k) (hM : jr_M s0 b n xs D s L g H) (hl : js_L s0 b L (jv_ml k) LS ls) (hF : js_F s0 s H locs) {x y : Int} (hS : js_S s0 b L ST (jv_I y :: jv_I x :: st)) {off : Int} {t : Nat} (ht : (pc : Int) + off = (t : Int)) (hd : decode (jm_c k) pc = .ok (.if_icmp .eq off, 3)) (hk : js_KG p l e R s m args below meth c cells slots Q s0 b n xs D k L (if x = y then (t, ls, st, L, g) else (pc + 3, ls, st, L, g))) : W p l e R s m args below meth c H locs cells slots Q (F0 m pc LS ST) := by
  obtain ⟨wy, vs1, rfl, rfl, hS1⟩ := hS.cI
  obtain ⟨wx, vs, rfl, rfl, hS2⟩ := hS1.cI
  refine lv_icmp_eq X.1 X.2.1 hd ht (fun h => ?_) (fun h => ?_)
  · rw [if_pos (Int32.toInt_inj.symm.mp h)] at hk
    exact hk.use hM hl hS2 hF
  · rw [if_neg (fun h2 => h (Int32.toInt_inj.symm.mpr h2))] at hk
    exact hk.use hM hl hS2 hF
theorem js_o_if_eq (X : js_X p s m args meth c D k) (hM : jr_M s0 b n xs D s L g H) (hl : js_L s0 b L (jv_ml k) LS ls) (hF : js_F s0 s H locs) {x : Int} (hS : js_S s0 b L ST (jv_I x :: st)) {off : Int} {t : Nat} (ht : (pc : Int) + off = (t : Int)) (hd : decode (jm_c k) pc = .ok (.ifCond .eq off, 3)) (hk : js_KG p l e R s m args below meth c cells slots Q s0 b n xs D k L (if x = 0 then (t, ls, st, L, g) else (pc + 3, ls, st, L, g))) : W p l e R s m args below meth c H locs cells slots Q (F0 m pc LS ST) := by
  obtain ⟨wx, vs, rfl, rfl, hS2⟩ := hS.cI
  have h0 : (0 : Int32).toInt = 0 := rfl
  refine lv_if_eq X.1 X.2.1 hd ht (fun h => ?_) (fun h => ?_)
  · rw [if_pos (by have := Int32.toInt_inj.symm.mp h; rw [h0] at this; exact this)] at hk
    exact hk.use hM hl hS2 hF
  · rw [if_neg (fun h2 => h (Int32.toInt_inj.symm.mpr (by rw [h0]; exact h2)))] at hk
    exact hk.use hM hl hS2 hF
theorem js_o_icmp_ne (X : js_X p s m args meth c D k) (hM : jr_M s0 b n xs D s L g H) (hl : js_L s0 b L (jv_ml k) LS ls) (hF : js_F s0 s H locs) {x y : Int} (hS : js_S s0 b L ST (jv_I y :: jv_I x :: st)) {off : Int} {t : Nat} (ht : (pc : Int) + off = (t : Int)) (hd : decode (jm_c k) pc = .ok (.if_icmp .ne off, 3)) (hk : js_KG p l e R s m args below meth c cells slots Q s0 b n xs D k L (if x = y then (pc + 3, ls, st, L, g) else (t, ls, st, L, g))) : W p l e R s m args below meth c H locs cells slots Q (F0 m pc LS ST) := by
  obtain ⟨wy, vs1, rfl, rfl, hS1⟩ := hS.cI
  obtain ⟨wx, vs, rfl, rfl, hS2⟩ := hS1.cI
  refine lv_icmp_ne X.1 X.2.1 hd ht (fun h => ?_) (fun h => ?_)
  · rw [if_neg (fun h2 => h (Int32.toInt_inj.symm.mpr h2))] at hk
    exact hk.use hM hl hS2 hF
  · rw [if_pos (Int32.toInt_inj.symm.mp h)] at hk
    exact hk.use hM hl hS2 hF
theorem js_o_if_ne (X : js_X p s m args meth c D k) (hM : jr_M s0 b n xs D s L g H) (hl : js_L s0 b L (jv_ml k) LS ls) (hF : js_F s0 s H locs) {x : Int} (hS : js_S s0 b L ST (jv_I x :: st)) {off : Int} {t : Nat} (ht : (pc : Int) + off = (t : Int)) (hd : decode (jm_c k) pc = .ok (.ifCond .ne off, 3)) (hk : js_KG p l e R s m args below meth c cells slots Q s0 b n xs D k L (if x = 0 then (pc + 3, ls, st, L, g) else (t, ls, st, L, g))) : W p l e R s m args below meth c H locs cells slots Q (F0 m pc LS ST) := by
  obtain ⟨wx, vs, rfl, rfl, hS2⟩ := hS.cI
  have h0 : (0 : Int32).toInt = 0 := rfl
  refine lv_if_ne X.1 X.2.1 hd ht (fun h => ?_) (fun h => ?_)
  · rw [if_neg (fun h2 => h (Int32.toInt_inj.symm.mpr (by rw [h0]; exact h2)))] at hk
    exact hk.use hM hl hS2 hF
  · rw [if_pos (by have := Int32.toInt_inj.symm.mp h; rw [h0] at this; exact this)] at hk
    exact hk.use hM hl hS2 hF
theorem js_o_icmp_lt (X : js_X p s m args meth c D k) (hM : jr_M s0 b n xs D s L g H) (hl : js_L s0 b L (jv_ml k) LS ls) (hF : js_F s0 s H locs) {x y : Int} (hS : js_S s0 b L ST (jv_I y :: jv_I x :: st)) {off : Int} {t : Nat} (ht : (pc : Int) + off = (t : Int)) (hd : decode (jm_c k) pc = .ok (.if_icmp .lt off, 3)) (hk : js_KG p l e R s m args below meth c cells slots Q s0 b n xs D k L (if x < y then (t, ls, st, L, g) else (pc + 3, ls, st, L, g))) : W p l e R s m args below meth c H locs cells slots Q (F0 m pc LS ST) := by
  obtain ⟨wy, vs1, rfl, rfl, hS1⟩ := hS.cI
  obtain ⟨wx, vs, rfl, rfl, hS2⟩ := hS1.cI
  refine lv_icmp_lt X.1 X.2.1 hd ht (fun h => ?_) (fun h => ?_)
  · rw [if_pos (Int32.lt_iff_toInt_lt.mp h)] at hk
    exact hk.use hM hl hS2 hF
  · rw [if_neg (fun h2 => h (Int32.lt_iff_toInt_lt.mpr h2))] at hk
    exact hk.use hM hl hS2 hF
theorem js_o_if_lt (X : js_X p s m args meth c D k) (hM : jr_M s0 b n xs D s L g H) (hl : js_L s0 b L (jv_ml k) LS ls) (hF : js_F s0 s H locs) {x : Int} (hS : js_S s0 b L ST (jv_I x :: st)) {off : Int} {t : Nat} (ht : (pc : Int) + off = (t : Int)) (hd : decode (jm_c k) pc = .ok (.ifCond .lt off, 3)) (hk : js_KG p l e R s m args below meth c cells slots Q s0 b n xs D k L (if x < 0 then (t, ls, st, L, g) else (pc + 3, ls, st, L, g))) : W p l e R s m args below meth c H locs cells slots Q (F0 m pc LS ST) := by
  obtain ⟨wx, vs, rfl, rfl, hS2⟩ := hS.cI
  have h0 : (0 : Int32).toInt = 0 := rfl
  refine lv_if_lt X.1 X.2.1 hd ht (fun h => ?_) (fun h => ?_)
  · rw [if_pos (by have := Int32.lt_iff_toInt_lt.mp h; rw [h0] at this; exact this)] at hk
    exact hk.use hM hl hS2 hF
  · rw [if_neg (fun h2 => h (Int32.lt_iff_toInt_lt.mpr (by rw [h0]; exact h2)))] at hk
    exact hk.use hM hl hS2 hF
theorem js_o_icmp_ge (X : js_X p s m args meth c D k) (hM : jr_M s0 b n xs D s L g H) (hl : js_L s0 b L (jv_ml k) LS ls) (hF : js_F s0 s H locs) {x y : Int} (hS : js_S s0 b L ST (jv_I y :: jv_I x :: st)) {off : Int} {t : Nat} (ht : (pc : Int) + off = (t : Int)) (hd : decode (jm_c k) pc = .ok (.if_icmp .ge off, 3)) (hk : js_KG p l e R s m args below meth c cells slots Q s0 b n xs D k L (if y ≤ x then (t, ls, st, L, g) else (pc + 3, ls, st, L, g))) : W p l e R s m args below meth c H locs cells slots Q (F0 m pc LS ST) := by
  obtain ⟨wy, vs1, rfl, rfl, hS1⟩ := hS.cI
  obtain ⟨wx, vs, rfl, rfl, hS2⟩ := hS1.cI
  refine lv_icmp_ge X.1 X.2.1 hd ht (fun h => ?_) (fun h => ?_)
  · rw [if_pos (Int32.le_iff_toInt_le.mp h)] at hk
    exact hk.use hM hl hS2 hF
  · rw [if_neg (fun h2 => h (Int32.le_iff_toInt_le.mpr h2))] at hk
    exact hk.use hM hl hS2 hF
theorem js_o_if_ge (X : js_X p s m args meth c D k) (hM : jr_M s0 b n xs D s L g H) (hl : js_L s0 b L (jv_ml k) LS ls) (hF : js_F s0 s H locs) {x : Int} (hS : js_S s0 b L ST (jv_I x :: st)) {off : Int} {t : Nat} (ht : (pc : Int) + off = (t : Int)) (hd : decode (jm_c k) pc = .ok (.ifCond .ge off, 3)) (hk : js_KG p l e R s m args below meth c cells slots Q s0 b n xs D k L (if 0 ≤ x then (t, ls, st, L, g) else (pc + 3, ls, st, L, g))) : W p l e R s m args below meth c H locs cells slots Q (F0 m pc LS ST) := by
  obtain ⟨wx, vs, rfl, rfl, hS2⟩ := hS.cI
  have h0 : (0 : Int32).toInt = 0 := rfl
  refine lv_if_ge X.1 X.2.1 hd ht (fun h => ?_) (fun h => ?_)
  · rw [if_pos (by have := Int32.le_iff_toInt_le.mp h; rw [h0] at this; exact this)] at hk
    exact hk.use hM hl hS2 hF
  · rw [if_neg (fun h2 => h (Int32.le_iff_toInt_le.mpr (by rw [h0]; exact h2)))] at hk
    exact hk.use hM hl hS2 hF
theorem js_o_icmp_gt (X : js_X p s m args meth c D k) (hM : jr_M s0 b n xs D s L g H) (hl : js_L s0 b L (jv_ml k) LS ls) (hF : js_F s0 s H locs) {x y : Int} (hS : js_S s0 b L ST (jv_I y :: jv_I x :: st)) {off : Int} {t : Nat} (ht : (pc : Int) + off = (t : Int)) (hd : decode (jm_c k) pc = .ok (.if_icmp .gt off, 3)) (hk : js_KG p l e R s m args below meth c cells slots Q s0 b n xs D k L (if y < x then (t, ls, st, L, g) else (pc + 3, ls, st, L, g))) : W p l e R s m args below meth c H locs cells slots Q (F0 m pc LS ST) := by
  obtain ⟨wy, vs1, rfl, rfl, hS1⟩ := hS.cI
  obtain ⟨wx, vs, rfl, rfl, hS2⟩ := hS1.cI
  refine lv_icmp_gt X.1 X.2.1 hd ht (fun h => ?_) (fun h => ?_)
  · rw [if_pos (Int32.lt_iff_toInt_lt.mp h)] at hk
    exact hk.use hM hl hS2 hF
  · rw [if_neg (fun h2 => h (Int32.lt_iff_toInt_lt.mpr h2))] at hk
    exact hk.use hM hl hS2 hF
theorem js_o_if_gt (X : js_X p s m args meth c D k) (hM : jr_M s0 b n xs D s L g H) (hl : js_L s0 b L (jv_ml k) LS ls) (hF : js_F s0 s H locs) {x : Int} (hS : js_S s0 b L ST (jv_I x :: st)) {off : Int} {t : Nat} (ht : (pc : Int) + off = (t : Int)) (hd : decode (jm_c k) pc = .ok (.ifCond .gt off, 3)) (hk : js_KG p l e R s m args below meth c cells slots Q s0 b n xs D k L (if 0 < x then (t, ls, st, L, g) else (pc + 3, ls, st, L, g))) : W p l e R s m args below meth c H locs cells slots Q (F0 m pc LS ST) := by
  obtain ⟨wx, vs, rfl, rfl, hS2⟩ := hS.cI
  have h0 : (0 : Int32).toInt = 0 := rfl
  refine lv_if_gt X.1 X.2.1 hd ht (fun h => ?_) (fun h => ?_)
  · rw [if_pos (by have := Int32.lt_iff_toInt_lt.mp h; rw [h0] at this; exact this)] at hk
    exact hk.use hM hl hS2 hF
  · rw [if_neg (fun h2 => h (Int32.lt_iff_toInt_lt.mpr (by rw [h0]; exact h2)))] at hk
    exact hk.use hM hl hS2 hF
theorem js_o_icmp_le (X : js_X p s m args meth c D k) (hM : jr_M s0 b n xs D s L g H) (hl : js_L s0 b L (jv_ml k) LS ls) (hF : js_F s0 s H locs) {x y : Int} (hS : js_S s0 b L ST (jv_I y :: jv_I x :: st)) {off : Int} {t : Nat} (ht : (pc : Int) + off = (t : Int)) (hd : decode (jm_c k) pc = .ok (.if_icmp .le off, 3)) (hk : js_KG p l e R s m args below meth c cells slots Q s0 b n xs D k L (if x ≤ y then (t, ls, st, L, g) else (pc + 3, ls, st, L, g))) : W p l e R s m args below meth c H locs cells slots Q (F0 m pc LS ST) := by
  obtain ⟨wy, vs1, rfl, rfl, hS1⟩ := hS.cI
  obtain ⟨wx, vs, rfl, rfl, hS2⟩ := hS1.cI
  refine lv_icmp_le X.1 X.2.1 hd ht (fun h => ?_) (fun h => ?_)
  · rw [if_pos (Int32.le_iff_toInt_le.mp h)] at hk
    exact hk.use hM hl hS2 hF
  · rw [if_neg (fun h2 => h (Int32.le_iff_toInt_le.mpr h2))] at hk
    exact hk.use hM hl hS2 hF
theorem js_o_if_le (X : js_X p s m args meth c D k) (hM : jr_M s0 b n xs D s L g H) (hl : js_L s0 b L (jv_ml k) LS ls) (hF : js_F s0 s H locs) {x : Int} (hS : js_S s0 b L ST (jv_I x :: st)) {off : Int} {t : Nat} (ht : (pc : Int) + off = (t : Int)) (hd : decode (jm_c k) pc = .ok (.ifCond .le off, 3)) (hk : js_KG p l e R s m args below meth c cells slots Q s0 b n xs D k L (if x ≤ 0 then (t, ls, st, L, g) else (pc + 3, ls, st, L, g))) : W p l e R s m args below meth c H locs cells slots Q (F0 m pc LS ST) := by
  obtain ⟨wx, vs, rfl, rfl, hS2⟩ := hS.cI
  have h0 : (0 : Int32).toInt = 0 := rfl
  refine lv_if_le X.1 X.2.1 hd ht (fun h => ?_) (fun h => ?_)
  · rw [if_pos (by have := Int32.le_iff_toInt_le.mp h; rw [h0] at this; exact this)] at hk
    exact hk.use hM hl hS2 hF
  · rw [if_neg (fun h2 => h (Int32.le_iff_toInt_le.mpr (by rw [h0]; exact h2)))] at hk
    exact hk.use hM hl hS2 hF
theorem js_o_ifnull (X : js_X p s m args meth c D k) (hM : jr_M s0 b n xs D s L g H) (hl : js_L s0 b L (jv_ml k) LS ls) (hF : js_F s0 s H locs) {q : Int} (hS : js_S s0 b L ST (jv_D q :: st)) {off : Int} {t : Nat} (ht : (pc : Int) + off = (t : Int)) (hd : decode (jm_c k) pc = .ok (.ifnull off, 3)) (hk : js_KG p l e R s m args below meth c cells slots Q s0 b n xs D k L (if q = 0 then (t, ls, st, L, g) else (pc + 3, ls, st, L, g))) : W p l e R s m args below meth c H locs cells slots Q (F0 m pc LS ST) := by
  obtain ⟨v, vs, rfl, -, hv, hS2⟩ := hS.cons
  rcases hv with ⟨h0, rfl⟩ | ⟨h0, -, rfl⟩
  · rw [if_pos h0] at hk
    exact lv_ifnullN X.1 X.2.1 hd ht (hk.use hM hl hS2 hF)
  · rw [if_neg (by omega)] at hk
    exact lv_ifnull X.1 X.2.1 hd (hk.use hM hl hS2 hF)
theorem js_o_ifnonnull (X : js_X p s m args meth c D k) (hM : jr_M s0 b n xs D s L g H) (hl : js_L s0 b L (jv_ml k) LS ls) (hF : js_F s0 s H locs) {q : Int} (hS : js_S s0 b L ST (jv_D q :: st)) {off : Int} {t : Nat} (ht : (pc : Int) + off = (t : Int)) (hd : decode (jm_c k) pc = .ok (.ifnonnull off, 3)) (hk : js_KG p l e R s m args below meth c cells slots Q s0 b n xs D k L (if q = 0 then (pc + 3, ls, st, L, g) else (t, ls, st, L, g))) : W p l e R s m args below meth c H locs cells slots Q (F0 m pc LS ST) := by
  obtain ⟨v, vs, rfl, -, hv, hS2⟩ := hS.cons
  rcases hv with ⟨h0, rfl⟩ | ⟨h0, -, rfl⟩
  · rw [if_pos h0] at hk
    exact lv_ifnonnullN X.1 X.2.1 hd (hk.use hM hl hS2 hF)
  · rw [if_neg (by omega)] at hk
    exact lv_ifnonnull X.1 X.2.1 hd ht (hk.use hM hl hS2 hF)
/-- the cell of a place -/
theorem jr_M.at' (hM : jr_M s0 b n xs D s L g H) {q : Nat} {d : Nat × Nat × List Nat} (hq : L[q]? = some d) (h5 : d.1 ≠ 5) : ∃ q', q = q' + 1 ∧ jr_C s0 b D s L g q d H := by
  cases q with
  | zero =>
    rw [hM.1] at hq
    cases hq
    exact absurd rfl h5
  | succ q => exact ⟨q, rfl, hM.2.2.2.2.2.2.2.2 q d hq⟩
/-- a field is read -/
theorem js_get (X : js_X p s m args meth c D k) (hC : js_Cl) (hM : jr_M s0 b n xs D s L g H) {q x kd f ty nn : Nat} {rs : List Nat} (hq : L[q]? = some (kd, nn, rs)) (hfl : js_fl k x kd f ty) (hd : decode (jm_c k) pc = .ok (.getfield x, 3)) {rest : List Value}
    (kk : f < nn → ∀ v, jr_V s0 b L (jr_ct g q (kd, nn, rs) f) v → W p l e R s m args below meth c H locs cells slots Q (F0 m (pc + 3) LS (v :: rest))) : W p l e R s m args below meth c H locs cells slots Q (F0 m pc LS (.ref (jr_ad s0 b q) :: rest)) := by
  obtain ⟨hk10, C, T, N, hc, hf, hlink, hown, hty⟩ := hfl
  obtain ⟨q', -, cell, c1, c2, c3⟩ := hM.at' hq (by show kd ≠ 5; omega)
  have hN : N = nn := by
    rcases c2.2 with hh | ⟨-, -, r, r1, r2⟩
    · have := hh.1
      dsimp only at this
      omega
    · dsimp only at r1 r2
      have := r1.symm.trans hc
      cases this
      exact r2
  subst hN
  obtain ⟨v, v1, v2⟩ := c3 f hf
  obtain ⟨hin, hnm, ty0, hty0, -⟩ := hC.1 _ _ _ _ hc
  obtain ⟨hS, hfc, kC, hkC, hkind⟩ := X.2.2.2.2.2.2.2.2.2.1 _ _ hc
  obtain ⟨cf, kf, fi, fd, hi, hsl⟩ := hS f hf
  have hts := X.2.2.2.2.2.1
  refine W.getf X.1 X.2.1 X.2.2.2.2.1 (hts _ hlink) (by rw [← hown]; exact hi) (u_facts hfc hkC (u_lays hts hin hf) hi).1 c1 (by rw [c2.1]; exact fun h => by cases h) (v := v) ?_ rfl rfl hd (kk hf v v2)
  rw [hsl]
  have : jr_si D kd f = D.2 (kd - 10) f := by unfold jr_si; rw [if_neg (by omega)]
  rw [← this]
  exact v1
theorem jr_ct_1000' {g : jv_S} {q f : Nat} (hf : f < 8) : jr_ct g q (11, 8, []) f = jv_I (g 1000 (8 * (Int.ofNat q + 1) + Int.ofNat f)) := by
  have : jr_tg (11, 8, []) f = 0 := by
    rcases (show f = 0 ∨ f = 1 ∨ f = 2 ∨ f = 3 ∨ f = 4 ∨ f = 5 ∨ f = 6 ∨ f = 7 by omega) with rfl | rfl | rfl | rfl | rfl | rfl | rfl | rfl <;> rfl
  unfold jr_ct
  rw [this]
  rfl
theorem jr_ct_1000 (hM : jr_M s0 b n xs D s L g H) {q f : Nat} (hf : f < 8) : jr_ct g q (11, 8, []) f = jv_I (g 1000 (8 * (Int.ofNat q + 1) + Int.ofNat f)) := jr_ct_1000' hf
theorem jr_ct_obj {q kd nn f : Nat} {rs : List Nat} (hk : 10 ≤ kd) (h11 : kd ≠ 11) (hf : jv_ft (kd - 10) f ≠ 2) : jr_ct g q (kd, nn, rs) f = jv_I (g q (Int.ofNat f)) ∧ jr_tg (kd, nn, rs) f = 0 ∧ jr_lo q (kd, nn, rs) f = (q, Int.ofNat f) := by
  have h1 : jr_tg (kd, nn, rs) f = 0 := by
    obtain ⟨z, rfl⟩ : ∃ z, kd = z + 6 := ⟨kd - 6, by omega⟩
    show (if jv_ft (z + 6 - 10) f = 2 then 3 else 0) = 0
    rw [if_neg hf]
  have h2 : jr_lo q (kd, nn, rs) f = (q, Int.ofNat f) := by
    unfold jr_lo
    split
    · next e => have := congrArg Prod.fst e; dsimp only at this; omega
    · next e => have := congrArg Prod.fst e; dsimp only at this; omega
    · rfl
  refine ⟨?_, h1, h2⟩
  unfold jr_ct
  rw [h1, h2]
  rfl
theorem jr_ct_ref {q kd nn f v : Nat} {rs : List Nat} (hk : 10 ≤ kd) (hf : jv_ft (kd - 10) f = 2) (hr : rs[f]? = some (v + 1)) : jr_ct g q (kd, nn, rs) f = jv_P (v + 1) := by
  obtain ⟨z, rfl⟩ : ∃ z, kd = z + 6 := ⟨kd - 6, by omega⟩
  have h1 : jr_tg (z + 6, nn, rs) f = 3 := by
    show (if jv_ft (z + 6 - 10) f = 2 then 3 else 0) = 3
    rw [if_pos hf]
  unfold jr_ct
  rw [h1]
  dsimp only
  rw [show rs.getD f 0 = v + 1 by simp [List.getD, hr]]
  rfl
/-- a field is written -/
theorem js_put (X : js_X p s m args meth c D k) (hC : js_Cl) (hM : jr_M s0 b n xs D s L g H) {q x kd f ty nn : Nat} {rs : List Nat} (hq : L[q]? = some (kd, nn, rs)) (hfl : js_fl k x kd f ty) (hfin : ∀ (C : String) (T : u_T) (N : Nat), vwCl[kd - 10]? = some (C, T, N) → (T f).2.2.2 = true → ((jm_y k).name = "<init>" ∧ jm_own k = C)) (hd : decode (jm_c k) pc = .ok (.putfield x, 3)) {rest : List Value} {v : Value}
    (hv : (ty = 0 ∧ ∃ w, v = .int w) ∨ (ty = 1 ∧ (v = .int 0 ∨ v = .int 1)) ∨ (ty = 2 ∧ ∃ a, v = .ref a))
    (kk : ∀ (H' : Heap) (cell : Cell), f < nn → 10 ≤ kd → jv_ft (kd - 10) f = ty → H[jr_ad s0 b q]? = some cell → (∀ j, j < nn → j ≠ f → jr_si D kd j ≠ jr_si D kd f) → H'[jr_ad s0 b q]? = some (cell.setSlot (jr_si D kd f) v) → H'.size = H.size → (∀ z, z ≠ jr_ad s0 b q → H'[z]? = H[z]?) → W p l e R s m args below meth c H' (locs ++ [⟨jr_ad s0 b q, jr_si D kd f⟩]) cells slots Q (F0 m (pc + 3) LS rest)) : W p l e R s m args below meth c H locs cells slots Q (F0 m pc LS (v :: .ref (jr_ad s0 b q) :: rest)) := by
  obtain ⟨hk10, C, T, N, hc, hf, hlink, hown, hty⟩ := hfl
  obtain ⟨q', -, cell, c1, c2, c3⟩ := hM.at' hq (by show kd ≠ 5; omega)
  have hcls : cell.cls = D.1 (kd - 10) ∧ N = nn := by
    rcases c2.2 with hh | ⟨-, h2, r, r1, r2⟩
    · have := hh.1
      dsimp only at this
      omega
    · dsimp only at r1 r2
      have := r1.symm.trans hc
      cases this
      exact ⟨h2, r2⟩
  obtain ⟨hcls, rfl⟩ := hcls
  obtain ⟨w, v1, v2⟩ := c3 f hf
  obtain ⟨hin, hnm, ty0, hty0, htys⟩ := hC.1 _ _ _ _ hc
  obtain ⟨hS, hfc, kC, hkC, hkind⟩ := X.2.2.2.2.2.2.2.2.2.1 _ _ hc
  obtain ⟨cf, kf, fi, fd, hi, hsl⟩ := hS f hf
  have hts := X.2.2.2.2.2.1
  have hsi : ∀ j, jr_si D kd j = D.2 (kd - 10) j := fun j => by unfold jr_si; rw [if_neg (by omega)]
  have hap := va_apart (own := jm_own k) (D := D) (tys := []) hts hin ty0 hty0 hnm X.2.2.2.2.2.2.2.2.2 hc
  have hnf : narrow (ty0 f) v = v ∧ fits (ty0 f) v = true := by
    rcases htys f hf with ⟨t0, t1⟩ | ⟨t0, t1⟩ | ⟨t0, t1⟩
    · rw [t1]
      rcases hv with ⟨-, w, rfl⟩ | ⟨h, -⟩ | ⟨h, -⟩
      · exact ⟨rfl, rfl⟩
      · omega
      · omega
    · rw [t1]
      rcases hv with ⟨h, -⟩ | ⟨-, rfl | rfl⟩ | ⟨h, -⟩
      · omega
      · exact ⟨by decide, by decide⟩
      · exact ⟨by decide, by decide⟩
      · omega
    · rcases hv with ⟨h, -⟩ | ⟨h, -⟩ | ⟨-, a, rfl⟩
      · omega
      · omega
      · rcases t1 with ⟨C', t1⟩ | ⟨t', t1⟩ <;> rw [t1] <;> exact ⟨rfl, rfl⟩
  have hlt : fd.slot < cell.slots.size := by
    rw [hsl, ← hsi f]
    exact (Array.getElem?_eq_some_iff.mp v1).1
  have hst := (u_facts hfc hkC (u_lays hts hin hf) hi).1
  have hkk : ∀ H' : Heap, H'[jr_ad s0 b q]? = some (cell.setSlot fd.slot v) → H'.size = H.size → (∀ z, z ≠ jr_ad s0 b q → H'[z]? = H[z]?) → W p l e R s m args below meth c H' (locs ++ [⟨jr_ad s0 b q, fd.slot⟩]) cells slots Q (F0 m (pc + 3) LS rest) := by
    intro H' e1 e2 e3
    rw [hsl, ← hsi f] at e1 ⊢
    exact kk H' cell hf hk10 hty c1 (fun j hj hne => by rw [hsi, hsi]; exact hap j f hj hf hne) e1 e2 e3
  have hlay := hts _ (hin _ (u_in_lay hf))
  unfold u_lay at hlay
  by_cases hff : (T f).2.2.2 = true
  · obtain ⟨hname, hownC⟩ := hfin _ _ _ hc hff
    rw [if_pos hff] at hlay
    have hcf : m.cls = cf := by
      obtain ⟨_, _, c', _, _, _, -, -, hf', -, -, -, hown2, -⟩ := Cond.laysFinal_spec hlay
      have e1 : c' = cf := by have := hi.symm.trans hf'; simp at this; exact this.1.symm
      rw [hown, ← hownC] at hown2
      rw [← e1]; exact Option.some.inj (X.2.2.2.2.1.symm.trans hown2)
    have h6 := u_fits hfc hkC hkind (Or.inr hlay) hi (hty0 f hf) hnf.1 hnf.2
    exact W.putFinK X.1 X.2.1 X.2.2.2.2.1 (hts _ hlink) (by rw [← hown]; exact hi) hst hcf (X.2.2.2.2.2.2.2.1.trans hname) (by rw [hcls]; exact h6) c1 c2.1 hlt rfl rfl hd hkk
  · rw [if_neg hff] at hlay
    have h6 := u_store hfc hkC hkind hlay hi (hty0 f hf) hnf.1 hnf.2
    exact W.putK X.1 X.2.1 (f := fd) ⟨X.2.2.2.2.1, hts _ hlink, ⟨_, _, _, by rw [← hown]; exact hi⟩, hst⟩ (by rw [hcls]; exact h6) c1 c2.1 hlt rfl rfl hd hkk
theorem js_F.add (hF : js_F s0 s H locs) {H' : Heap} {a i : Nat} (ha : s0 ≤ a) (e2 : H'.size = H.size) (e3 : ∀ z, z ≠ a → H'[z]? = H[z]?) : js_F s0 s H' (locs ++ [⟨a, i⟩]) := by
  refine ⟨by rw [e2]; exact hF.1, fun q hq => by rw [e3 q (by omega)]; exact hF.2.1 q hq, fun x hx => ?_⟩
  rcases List.mem_append.mp hx with h | h
  · exact hF.2.2 x h
  · rw [List.mem_singleton.mp h]
    exact ha
end
end
section
/-! ===== single instructions: arrays, new cells ===== -/
section
variable {p : Program} {l : Launch} {e : Env} {R : Room} {s : State} {m : MethodId} {args : Array Value} {below : List Frame} {meth : Method} {c : Code} {H : Heap} {locs : List Loc} {cells slots : Nat} {Q : State → Prop}
variable {s0 b n : Nat} {xs : Nat → Int32} {D : va_G} {k : Nat} {L : jv_L} {g g' : jv_S} {LS : Array Slot} {ST : List Value} {ls st ls' st' : List jv_V} {pc pc' : Nat}
/-- an element: its cell, its value -/
theorem jr_el (hM : jr_M s0 b n xs D s L g H) {q i : Nat} {d : Nat × Nat × List Nat} (hq : L[q]? = some d) (h5 : d.1 < 5) (hi : i < d.2.1) : ∃ (q' : Nat) (cell : Cell) (v : Value), q = q' + 1 ∧ H[jr_ad s0 b q]? = some cell ∧ cell.vm = .none ∧ s.isArrayOf cell (jr_ty d.1) ∧ cell.slots.size = d.2.1 ∧ cell.slots[i]? = some v ∧ jr_V s0 b L (jr_ct g q d i) v ∧ (d.1 = 3 → va_RA s cell.cls (.object "LaneWaits$Load")) := by
  obtain ⟨q', e1, cell, c1, c2, c3⟩ := hM.at' hq (by omega)
  obtain ⟨v, v1, v2⟩ := c3 i hi
  rcases c2.2 with ⟨h1, ⟨f, hf⟩, h3, h4⟩ | ⟨h1, -⟩
  · refine ⟨q', cell, v, e1, c1, c2.1, h3, by rw [hf, arrV_size], ?_, v2, h4⟩
    have : jr_si D d.1 i = i := by unfold jr_si; rw [if_pos (by omega)]
    rw [← this]
    exact v1
  · omega
theorem js_ix {w : Int32} {i : Int} (hw : w.toInt = i) {N : Nat} (h : 0 ≤ i ∧ i < Int.ofNat N) : ∃ j : Nat, j < N ∧ i = Int.ofNat j ∧ w.toNatClampNeg = j ∧ ¬ (w < 0 ∨ N ≤ w.toNatClampNeg) := by
  obtain ⟨h1, h2⟩ := h
  have h2 : i < (N : Int) := h2
  refine ⟨i.toNat, by omega, by show i = ((i.toNat : Nat) : Int); omega, by show w.toInt.toNat = _; rw [hw], ?_⟩
  have : vp_in w N := vp_in_iff.mpr ⟨by omega, by rw [hw]; exact h2⟩
  exact this
theorem jr_ct_0 {q nn i : Nat} {rs : List Nat} : jr_ct g q (0, nn, rs) i = jv_I (g q (Int.ofNat i)) := rfl
theorem jr_ct_4 {q mm i a j : Nat} : jr_ct g q (4, mm, [a, j]) i = jv_I (g a (Int.ofNat j * Int.ofNat mm + Int.ofNat i)) := rfl
/-- an array's place: by itself, or as a row -/
def js_pl (L : jv_L) (x : jv_V) (kd : Nat) (N : Nat) (q : Nat) (pp : Nat) (off : Int → Int) : Prop := (x = jv_P q ∧ ∃ rs, L[q]? = some (kd, N, rs) ∧ True ∧ pp = q ∧ off = fun i => i) ∨ (kd = 0 ∧ ∃ (a j nn : Nat), x = jv_R a (Int.ofNat j) ∧ q = a + 1 + j ∧ L[a]? = some (2, nn, [N]) ∧ j < nn ∧ pp = a ∧ off = fun i => Int.ofNat j * Int.ofNat N + i)
theorem js_pl_of {x : jv_V} {v : Value} (hx : jr_V s0 b L x v) {kd N q pp : Nat} {off : Int → Int} (h : js_pl L x kd N q pp off) : v = .ref (jr_ad s0 b q) := by
  rcases h with ⟨rfl, -⟩ | ⟨-, a, j, nn, rfl, rfl, -⟩
  · exact hx.2
  · obtain ⟨_, _, -, -, -, h⟩ := hx
    simpa using h
theorem js_o_ald (X : js_X p s m args meth c D k) (hM : jr_M s0 b n xs D s L g H) (hl : js_L s0 b L (jv_ml k) LS ls) (hF : js_F s0 s H locs) {i : Int} {x : jv_V} (hS : js_S s0 b L ST (jv_I i :: x :: st)) {N q pp : Nat} {off : Int → Int} (hp : js_pl L x 0 N q pp off) (hi : 0 ≤ i ∧ i < Int.ofNat N) (hd : decode (jm_c k) pc = .ok (.iaload, 1)) (hk : js_KG p l e R s m args below meth c cells slots Q s0 b n xs D k L (pc + 1, ls, jv_I (g pp (off i)) :: st, L, g)) : W p l e R s m args below meth c H locs cells slots Q (F0 m pc LS ST) := by
  obtain ⟨w, vs1, rfl, hw, hS1⟩ := hS.cI
  obtain ⟨v, vs, rfl, -, hv, hS2⟩ := hS1.cons
  have hv := js_pl_of hv hp
  subst hv
  obtain ⟨j, hj, rfl, hj2, hin⟩ := js_ix hw hi
  obtain ⟨d, hq, hd5, hN, hty, hct⟩ : ∃ d : Nat × Nat × List Nat, L[q]? = some d ∧ d.1 < 5 ∧ d.2.1 = N ∧ jr_ty d.1 = .int ∧ jr_ct g q d j = jv_I (g pp (off (Int.ofNat j))) := by
    rcases hp with ⟨-, rs, h1, -, rfl, rfl⟩ | ⟨-, a, j', nn, -, rfl, h1, h2, rfl, rfl⟩
    · exact ⟨_, h1, by simp, rfl, rfl, rfl⟩
    · obtain ⟨mm, e1, e2⟩ := hM.2.2.2.2.2.2.1.1 _ _ _ h1
      cases e1
      exact ⟨_, e2 j' h2, by simp, rfl, rfl, rfl⟩
  obtain ⟨q', cell, v, -, c1, c2, c3, c4, c5, c6, -⟩ := jr_el hM hq hd5 (i := j) (by omega)
  rw [hty] at c3
  rw [hct] at c6
  obtain ⟨w2, rfl, hw2⟩ := c6
  exact W.iald X.1 X.2.1 c1 c3 (by rw [c2]; exact fun h => by cases h) (by rw [c4, hN]; exact hin) (by rw [hj2]; exact c5) rfl rfl hd (hk.use hM hl (hS2.pI hw2) hF)
theorem js_o_sld (X : js_X p s m args meth c D k) (hM : jr_M s0 b n xs D s L g H) (hl : js_L s0 b L (jv_ml k) LS ls) (hF : js_F s0 s H locs) {i : Int} (hS : js_S s0 b L ST (jv_I i :: jv_P 0 :: st)) (hi : 0 ≤ i ∧ i < Int.ofNat n) (hd : decode (jm_c k) pc = .ok (.iaload, 1)) (hk : js_KG p l e R s m args below meth c cells slots Q s0 b n xs D k L (pc + 1, ls, jv_I (g 0 i) :: st, L, g)) : W p l e R s m args below meth c H locs cells slots Q (F0 m pc LS ST) := by
  obtain ⟨w, vs1, rfl, hw, hS1⟩ := hS.cI
  obtain ⟨v, vs, rfl, -, hv, hS2⟩ := hS1.cons
  obtain ⟨-, rfl⟩ := hv
  obtain ⟨j, hj, rfl, hj2, hin⟩ := js_ix hw hi
  obtain ⟨scr, h1, h2, h3, h4, h5⟩ := hM.2.2.2.2.1
  exact W.iald X.1 X.2.1 h1 h2 h3 (by rw [h4]; exact hin) (by rw [hj2]; exact h5 j hj) rfl rfl hd (hk.use hM hl (hS2.pI (hM.2.2.2.2.2.1 j hj)) hF)
theorem js_o_lald (X : js_X p s m args meth c D k) (hM : jr_M s0 b n xs D s L g H) (hl : js_L s0 b L (jv_ml k) LS ls) (hF : js_F s0 s H locs) {i : Int} {q N : Nat} {rs : List Nat} (hS : js_S s0 b L ST (jv_I i :: jv_P q :: st)) (hq : L[q]? = some (1, N, rs)) (hi : 0 ≤ i ∧ i < Int.ofNat N) (hd : decode (jm_c k) pc = .ok (.laload, 1)) (hk : js_KG p l e R s m args below meth c cells slots Q s0 b n xs D k L (pc + 1, ls, jv_J (g q i) :: st, L, g)) : W p l e R s m args below meth c H locs cells slots Q (F0 m pc LS ST) := by
  obtain ⟨w, vs1, rfl, hw, hS1⟩ := hS.cI
  obtain ⟨v, vs, rfl, -, hv, hS2⟩ := hS1.cons
  obtain ⟨-, rfl⟩ := hv
  obtain ⟨j, hj, rfl, hj2, hin⟩ := js_ix hw hi
  obtain ⟨q', cell, v, -, c1, c2, c3, c4, c5, c6, -⟩ := jr_el hM hq (by simp) (i := j) hj
  have c6 : jr_V s0 b L (jv_J (g q (Int.ofNat j))) v := c6
  obtain ⟨w2, rfl, hw2⟩ := c6
  exact W.lald X.1 X.2.1 c1 c3 (by rw [c2]; exact fun h => by cases h) (by rw [c4]; exact hin) (by rw [hj2]; exact c5) rfl rfl hd (hk.use hM hl (hS2.pJ hw2) hF)
theorem js_o_aald (X : js_X p s m args meth c D k) (hM : jr_M s0 b n xs D s L g H) (hl : js_L s0 b L (jv_ml k) LS ls) (hF : js_F s0 s H locs) {i : Int} {q N kd : Nat} {rs : List Nat} (hS : js_S s0 b L ST (jv_I i :: jv_P q :: st)) (hq : L[q]? = some (kd, N, rs)) (hkd : kd = 2 ∨ kd = 3) (hi : 0 ≤ i ∧ i < Int.ofNat N) (hd : decode (jm_c k) pc = .ok (.aaload, 1)) (hk : js_KG p l e R s m args below meth c cells slots Q s0 b n xs D k L (pc + 1, ls, (if kd = 2 then jv_R q i else jv_D (g q i)) :: st, L, g)) : W p l e R s m args below meth c H locs cells slots Q (F0 m pc LS ST) := by
  obtain ⟨w, vs1, rfl, hw, hS1⟩ := hS.cI
  obtain ⟨v, vs, rfl, -, hv, hS2⟩ := hS1.cons
  obtain ⟨-, rfl⟩ := hv
  obtain ⟨j, hj, rfl, hj2, hin⟩ := js_ix hw hi
  obtain ⟨q', cell, v, -, c1, c2, c3, c4, c5, c6, -⟩ := jr_el hM hq (by show kd < 5; omega) (i := j) hj
  refine W.aald (ty := jr_ty kd) X.1 X.2.1 c1 c3 (by rcases hkd with rfl | rfl <;> rfl) (by rw [c2]; exact fun h => by cases h) (by rw [c4]; exact hin) (by rw [hj2]; exact c5) rfl rfl hd (hk.use hM hl ⟨?_, ?_, hS2⟩ hF)
  · rcases hkd with rfl | rfl <;> simp
  · rcases hkd with rfl | rfl
    · exact c6
    · exact c6
theorem js_o_ast (X : js_X p s m args meth c D k) (hM : jr_M s0 b n xs D s L g H) (hl : js_L s0 b L (jv_ml k) LS ls) (hF : js_F s0 s H locs) {i y : Int} {x : jv_V} (hS : js_S s0 b L ST (jv_I y :: jv_I i :: x :: st)) {N q pp : Nat} {off : Int → Int} (hp : js_pl L x 0 N q pp off) (hi : 0 ≤ i ∧ i < Int.ofNat N) (hd : decode (jm_c k) pc = .ok (.iastore, 1)) (hk : js_KG p l e R s m args below meth c cells slots Q s0 b n xs D k L (pc + 1, ls, st, L, jv_up g pp (off i) y)) : W p l e R s m args below meth c H locs cells slots Q (F0 m pc LS ST) := by
  obtain ⟨wy, vs0, rfl, hwy, hS0⟩ := hS.cI
  obtain ⟨w, vs1, rfl, hw, hS1⟩ := hS0.cI
  obtain ⟨v, vs, rfl, -, hv, hS2⟩ := hS1.cons
  have hv := js_pl_of hv hp
  subst hv
  obtain ⟨j, hj, rfl, hj2, hin⟩ := js_ix hw hi
  obtain ⟨d, hq, hd5, hN, hty, htg, hlo⟩ : ∃ d : Nat × Nat × List Nat, L[q]? = some d ∧ d.1 < 5 ∧ d.2.1 = N ∧ jr_ty d.1 = .int ∧ jr_tg d j = 0 ∧ jr_lo q d j = (pp, off (Int.ofNat j)) := by
    rcases hp with ⟨-, rs, h1, -, rfl, rfl⟩ | ⟨-, a, j', nn, -, rfl, h1, h2, rfl, rfl⟩
    · exact ⟨_, h1, by simp, rfl, rfl, rfl, rfl⟩
    · obtain ⟨mm, e1, e2⟩ := hM.2.2.2.2.2.2.1.1 _ _ _ h1
      cases e1
      exact ⟨_, e2 j' h2, by simp, rfl, rfl, rfl, rfl⟩
  obtain ⟨q', cell, v, rfl, c1, c2, c3, c4, c5, c6, -⟩ := jr_el hM hq hd5 (i := j) (by omega)
  rw [hty] at c3
  have hsi : ∀ z, jr_si D d.1 z = z := fun z => by unfold jr_si; rw [if_pos (by omega)]
  refine W.iast X.1 X.2.1 c1 c3 (by rw [c2]; exact fun h => by cases h) (by rw [c4, hN]; exact hin) rfl rfl hd (fun H' e1 e2 e3 => ?_)
  rw [hj2] at e1 ⊢
  have hM' := hM.put hq (i := j) (by omega) htg (by decide) (x := y) (v := .int wy) ⟨wy, rfl, hwy⟩ c1 (fun z _ hz => by rw [hsi, hsi]; exact hz) (by rw [hsi]; exact e1) e2 e3
  rw [hlo] at hM'
  exact hk.use hM' hl hS2 (hF.add (by simp [jr_ad]) e2 e3)
theorem js_o_last (X : js_X p s m args meth c D k) (hM : jr_M s0 b n xs D s L g H) (hl : js_L s0 b L (jv_ml k) LS ls) (hF : js_F s0 s H locs) {i y : Int} {q N : Nat} {rs : List Nat} (hS : js_S s0 b L ST (jv_J y :: jv_I i :: jv_P q :: st)) (hq : L[q]? = some (1, N, rs)) (hi : 0 ≤ i ∧ i < Int.ofNat N) (hd : decode (jm_c k) pc = .ok (.lastore, 1)) (hk : js_KG p l e R s m args below meth c cells slots Q s0 b n xs D k L (pc + 1, ls, st, L, jv_up g q i y)) : W p l e R s m args below meth c H locs cells slots Q (F0 m pc LS ST) := by
  obtain ⟨wy, vs0, rfl, hwy, hS0⟩ := hS.cJ
  obtain ⟨w, vs1, rfl, hw, hS1⟩ := hS0.cI
  obtain ⟨v, vs, rfl, -, hv, hS2⟩ := hS1.cons
  obtain ⟨-, rfl⟩ := hv
  obtain ⟨j, hj, rfl, hj2, hin⟩ := js_ix hw hi
  obtain ⟨q', cell, v, rfl, c1, c2, c3, c4, c5, c6, -⟩ := jr_el hM hq (by simp) (i := j) hj
  refine W.last X.1 X.2.1 c1 c3 (by rw [c2]; exact fun h => by cases h) (by rw [c4]; exact hin) rfl rfl hd (fun H' e1 e2 e3 => ?_)
  rw [hj2] at e1 ⊢
  have hM' := hM.put hq (i := j) hj (t := 1) rfl (by decide) (x := y) (v := .long wy) ⟨wy, rfl, hwy⟩ c1 (fun z _ hz => hz) e1 e2 e3
  exact hk.use hM' hl hS2 (hF.add (by simp [jr_ad]) e2 e3)
theorem js_o_aast (X : js_X p s m args meth c D k) (hC : js_Cl) (hM : jr_M s0 b n xs D s L g H) (hl : js_L s0 b L (jv_ml k) LS ls) (hF : js_F s0 s H locs) {i y : Int} {q N : Nat} {rs : List Nat} (hS : js_S s0 b L ST (jv_D y :: jv_I i :: jv_P q :: st)) (hq : L[q]? = some (3, N, rs)) (hi : 0 ≤ i ∧ i < Int.ofNat N) (hy : 0 < y ∧ L[(y - 1).toNat]? = some (11, 8, [])) (hd : decode (jm_c k) pc = .ok (.aastore, 1)) (hk : js_KG p l e R s m args below meth c cells slots Q s0 b n xs D k L (pc + 1, ls, st, L, jv_up g q i y)) : W p l e R s m args below meth c H locs cells slots Q (F0 m pc LS ST) := by
  obtain ⟨vy, vs0, rfl, -, hvy, hS0⟩ := hS.cons
  obtain ⟨w, vs1, rfl, hw, hS1⟩ := hS0.cI
  obtain ⟨v, vs, rfl, -, hv, hS2⟩ := hS1.cons
  obtain ⟨-, rfl⟩ := hv
  have hvy' : vy = .ref (jr_ad s0 b (y - 1).toNat) := by
    rcases hvy with ⟨h, -⟩ | ⟨-, -, h⟩
    · omega
    · exact h
  subst hvy'
  obtain ⟨j, hj, rfl, hj2, hin⟩ := js_ix hw hi
  obtain ⟨q', cell, v, rfl, c1, c2, c3, c4, c5, c6, c7⟩ := jr_el hM hq (by simp) (i := j) hj
  obtain ⟨z', -, cv, d1, d2, -⟩ := hM.at' hy.2 (by decide)
  have hcv : cv.cls = D.1 1 := by
    rcases d2.2 with hh | hh
    · exact absurd hh.1 (by decide)
    · exact hh.2.1
  have hcls := (X.2.2.2.2.2.2.2.2.2.1 1 _ rfl).2
  obtain ⟨kA, comp, k1, k2, k3, -⟩ := c7 rfl
  have hcomp : comp = D.1 1 := Option.some.inj (k3.symm.trans hcls.1)
  subst hcomp
  obtain ⟨kC, hkC, -⟩ := hcls.2
  refine W.aast X.1 X.2.1 c1 (fun z h => by rw [c2] at h; cases h) (by rw [c2]; exact fun h => by cases h) k1 k2 rfl hkC ⟨fun h => hin (Or.inl h), by rw [c4, hj2]; exact hj⟩ d1 (fun z h => by rw [d2.1] at h; cases h) (by rw [hcv]; exact hkC) (by rw [hcv]; exact va_assign hcls) rfl rfl hd (fun H' e1 e2 e3 => ?_)
  rw [hj2] at e1 ⊢
  have hM' := hM.put hq (i := j) hj (t := 2) rfl (by decide) (x := y) (v := .ref (jr_ad s0 b (y - 1).toNat)) hvy c1 (fun z _ hz => hz) e1 e2 e3
  exact hk.use hM' hl hS2 (hF.add (by simp [jr_ad]) e2 e3)
theorem js_o_alen (X : js_X p s m args meth c D k) (hM : jr_M s0 b n xs D s L g H) (hl : js_L s0 b L (jv_ml k) LS ls) (hF : js_F s0 s H locs) {x : jv_V} (hS : js_S s0 b L ST (x :: st)) {kd N q pp : Nat} {off : Int → Int} (hp : js_pl L x kd N q pp off) (hk5 : kd ≤ 5) (hd : decode (jm_c k) pc = .ok (.arraylength, 1)) (hk : js_KG p l e R s m args below meth c cells slots Q s0 b n xs D k L (pc + 1, ls, jv_I (Int.ofNat N) :: st, L, g)) : W p l e R s m args below meth c H locs cells slots Q (F0 m pc LS ST) := by
  obtain ⟨v, vs, rfl, -, hv, hS2⟩ := hS.cons
  have hv := js_pl_of hv hp
  subst hv
  have hlen : ∀ {N : Nat}, N < 2147483648 → (N.toInt32).toInt = Int.ofNat N := fun h => nI_toInt h
  obtain ⟨d, hq, hN, hdk⟩ : ∃ d : Nat × Nat × List Nat, L[q]? = some d ∧ d.2.1 = N ∧ (d.1 = kd ∨ d.1 = 4) := by
    rcases hp with ⟨-, rs, h1, -, rfl, rfl⟩ | ⟨-, a, j', nn, -, rfl, h1, h2, rfl, rfl⟩
    · exact ⟨_, h1, rfl, Or.inl rfl⟩
    · obtain ⟨mm, e1, e2⟩ := hM.2.2.2.2.2.2.1.1 _ _ _ h1
      cases e1
      exact ⟨_, e2 j' h2, rfl, Or.inr rfl⟩
  have hb := hM.2.2.2.2.2.2.1.2.2.2 q d hq
  by_cases h5 : d.1 = 5
  · cases q with
    | zero =>
      rw [hM.1] at hq
      cases hq
      obtain ⟨scr, h1, h2, h3, h4, -⟩ := hM.2.2.2.2.1
      dsimp only at hN hb
      exact W.alen (n := n.toInt32) X.1 X.2.1 h1 h2 (by rw [h4]) rfl rfl hd (hk.use hM hl (hS2.pI (by rw [← hN]; exact hlen hb)) hF)
    | succ q => exact absurd h5 (hM.2.2.2.2.2.2.2.1 q d hq)
  · obtain ⟨q', -, cell, c1, c2, -⟩ := hM.at' hq h5
    rcases c2.2 with ⟨h1, ⟨f, hf⟩, h3, -⟩ | ⟨h1, -⟩
    · exact W.alen (n := N.toInt32) X.1 X.2.1 c1 h3 (by rw [hf, arrV_size, hN]) rfl rfl hd (hk.use hM hl (hS2.pI (hlen (by omega))) hF)
    · omega
end
end
section
/-! ===== copying; new cells ===== -/
section
variable {p : Program} {l : Launch} {e : Env} {R : Room} {s : State} {m : MethodId} {args : Array Value} {below : List Frame} {meth : Method} {c : Code} {H : Heap} {locs : List Loc} {cells slots : Nat} {Q : State → Prop}
variable {s0 b n : Nat} {xs : Nat → Int32} {D : va_G} {k : Nat} {L : jv_L} {g g' : jv_S} {LS : Array Slot} {ST : List Value} {ls st ls' st' : List jv_V} {pc pc' : Nat}
theorem js_S.cat : ∀ {vs : List Value} {as : List jv_V}, js_S s0 b L vs as → (vs.map fun v => v.category).sum = jv_cat as
  | [], [], _ => rfl
  | v :: vs, a :: as, h => by
    obtain ⟨h1, h2, h3⟩ := h
    have ih := js_S.cat h3
    have : ∀ x, jv_cat (x :: as) = (match x with | .inr (.inl _) => 2 | _ => 1) + jv_cat as := by
      intro x
      rcases x with i | i | q | ⟨q, i⟩ | q | u <;> rfl
    rw [this, List.map_cons, List.sum_cons, ih]
    congr 1
    rcases a with i | i | q | ⟨q, i⟩ | q | u
    · exact js_cat1 h2 h1 (by simp)
    · exact js_cat2 h2
    · exact js_cat1 h2 h1 (by simp)
    · exact js_cat1 h2 h1 (by simp)
    · exact js_cat1 h2 h1 (by simp)
    · exact absurd rfl h1
theorem js_o_obj (X : js_X p s m args meth c D k) (hC : js_Cl) (hM : jr_M s0 b n xs D s L g H) (hl : js_L s0 b L (jv_ml k) LS ls) (hF : js_F s0 s H locs) {a : jv_V} (hS : js_S s0 b L ST (a :: st)) (ha : (∃ q, a = jv_P q) ∨ ∃ q, a = jv_D q ∧ 0 < q) {x : Nat} (hx : Cond.methodLink (jm_own k) x objectInit ∈ jm_ws) (hc : jv_cat st ≤ 8) (hfr : 1 ≤ R.frames) (hlo : 20 ≤ R.locals) (hd : decode (jm_c k) pc = .ok (.invokespecial x, 3)) (hk : js_KG p l e R s m args below meth c cells slots Q s0 b n xs D k L (pc + 3, ls, st, L, g)) : W p l e R s m args below meth c H locs cells slots Q (F0 m pc LS ST) := by
  obtain ⟨v, vs, rfl, -, hv, hS2⟩ := hS.cons
  obtain ⟨q, rfl⟩ : ∃ q, v = .ref q := by
    rcases ha with ⟨q, rfl⟩ | ⟨q, rfl, h0⟩
    · exact ⟨_, hv.2⟩
    · rcases hv with ⟨h, -⟩ | ⟨-, -, h⟩
      · omega
      · exact ⟨_, h⟩
  have hts := X.2.2.2.2.2.1
  refine W.objInit X.1 X.2.1 X.2.2.2.2.1 (hts _ hx) (hts _ hC.2.1) (hts _ hC.2.2.1) rfl (by rw [X.2.2.2.1]; exact hl.1) rfl hd hfr ?_ (hk.use hM hl hS2 hF)
  show 2 * 0 + _ + 12 ≤ _
  rw [hS2.cat]
  omega
/-- System.arraycopy of ints -/
theorem js_o_copy (X : js_X p s m args meth c D k) (hC : js_Cl) (hM : jr_M s0 b n xs D s L g H) (hl : js_L s0 b L (jv_ml k) LS ls) (hF : js_F s0 s H locs) {cn dp sp : Int} {x y : jv_V} (hS : js_S s0 b L ST (jv_I cn :: jv_I dp :: y :: jv_I sp :: x :: st)) {N0 q0 p0 N1 q1 p1 : Nat} {o0 o1 : Int} (hp0 : js_pl L x 0 N0 q0 p0 (fun i => o0 + i)) (hp1 : js_pl L y 0 N1 q1 p1 (fun i => o1 + i)) (hb : 0 ≤ sp ∧ 0 ≤ dp ∧ 0 ≤ cn ∧ sp + cn ≤ Int.ofNat N0 ∧ dp + cn ≤ Int.ofNat N1) {x' : Nat} (hx : Cond.methodLink (jm_own k) x' arraycopyName ∈ jm_ws) (hc : jv_cat st ≤ 8) (hfr : 1 ≤ R.frames) (hlo : 60 ≤ R.locals) (hd : decode (jm_c k) pc = .ok (.invokestatic x', 3)) (hk : js_KG p l e R s m args below meth c cells slots Q s0 b n xs D k L (pc + 3, ls, st, L, jv_cp g p0 (o0 + sp) p1 (o1 + dp) cn)) : W p l e R s m args below meth c H locs cells slots Q (F0 m pc LS ST) := by
  obtain ⟨wc, vs0, rfl, hwc, hS0⟩ := hS.cI
  obtain ⟨wd, vs1, rfl, hwd, hS1⟩ := hS0.cI
  obtain ⟨vy, vs2, rfl, -, hvy, hS2⟩ := hS1.cons
  obtain ⟨wsp, vs3, rfl, hws, hS3⟩ := hS2.cI
  obtain ⟨vx, vs, rfl, -, hvx, hS4⟩ := hS3.cons
  have := js_pl_of hvx hp0
  subst this
  have := js_pl_of hvy hp1
  subst this
  obtain ⟨b1, b2, b3, b4, b5⟩ := hb
  have b4 : sp + cn ≤ (N0 : Int) := b4
  have b5 : dp + cn ≤ (N1 : Int) := b5
  have hts := X.2.2.2.2.2.1
  have place : ∀ {z : jv_V} {N q pp : Nat} {o : Int}, js_pl L z 0 N q pp (fun i => o + i) → ∃ d : Nat × Nat × List Nat, L[q]? = some d ∧ d.1 < 5 ∧ d.2.1 = N ∧ jr_ty d.1 = .int ∧ ∀ i, jr_tg d i = 0 ∧ jr_lo q d i = (pp, o + Int.ofNat i) := by
    intro z N q pp o h
    rcases h with ⟨-, rs, h1, -, rfl, h2⟩ | ⟨-, a, j', nn, -, rfl, h1, h2, rfl, h3⟩
    · exact ⟨_, h1, by simp, rfl, rfl, fun i => ⟨rfl, by rw [congrFun h2 (Int.ofNat i)]; rfl⟩⟩
    · obtain ⟨mm, e1, e2⟩ := hM.2.2.2.2.2.2.1.1 _ _ _ h1
      cases e1
      exact ⟨_, e2 j' h2, by simp, rfl, rfl, fun i => ⟨rfl, by rw [congrFun h3 (Int.ofNat i)]; rfl⟩⟩
  obtain ⟨d0, hq0, h05, hN0, hty0, hat0⟩ := place hp0
  obtain ⟨d1, hq1, h15, hN1, hty1, hat1⟩ := place hp1
  obtain ⟨q0', e0, cs, cs1, cs2, cs3⟩ := hM.at' hq0 (by omega)
  obtain ⟨q1', e1, cd, cd1, cd2, cd3⟩ := hM.at' hq1 (by omega)
  have arr : ∀ {d : Nat × Nat × List Nat} {cc : Cell} {N : Nat}, jr_sh D s d cc → d.1 < 5 → d.2.1 = N → jr_ty d.1 = .int → ∃ f : Nat → Value, cc = arrV cc.cls N f ∧ s.isArrayOf cc .int := by
    intro d cc N h h5 hN hty
    rcases h.2 with ⟨-, ⟨f, hf⟩, ha, -⟩ | hh
    · exact ⟨f, by rw [← hN]; exact hf, by rw [hty] at ha; exact ha⟩
    · omega
  obtain ⟨f0, hf0, ha0⟩ := arr cs2 h05 hN0 hty0
  obtain ⟨f1, hf1, ha1⟩ := arr cd2 h15 hN1 hty1
  obtain ⟨-, k0, hk0, cm0, hkk0⟩ := ha0
  obtain ⟨ha1v, k1, hk1, cm1, hkk1⟩ := ha1
  have hsi0 : ∀ z, jr_si D d0.1 z = z := fun z => by unfold jr_si; rw [if_pos (by omega)]
  have hsi1 : ∀ z, jr_si D d1.1 z = z := fun z => by unfold jr_si; rw [if_pos (by omega)]
  have hv0 : ∀ i, i < N0 → jr_V s0 b L (jv_I (g p0 (o0 + Int.ofNat i))) (f0 i) := by
    intro i hi
    obtain ⟨v, v1, v2⟩ := cs3 i (by omega)
    rw [hsi0, hf0, arrV_read _ _ hi] at v1
    cases v1
    have : jr_ct g q0 d0 i = jv_I (g p0 (o0 + Int.ofNat i)) := by unfold jr_ct; rw [(hat0 i).1, (hat0 i).2]; rfl
    rw [this] at v2
    exact v2
  have hv1 : ∀ i, i < N1 → jr_V s0 b L (jv_I (g p1 (o1 + Int.ofNat i))) (f1 i) := by
    intro i hi
    obtain ⟨v, v1, v2⟩ := cd3 i (by omega)
    rw [hsi1, hf1, arrV_read _ _ hi] at v1
    cases v1
    have : jr_ct g q1 d1 i = jv_I (g p1 (o1 + Int.ofNat i)) := by unfold jr_ct; rw [(hat1 i).1, (hat1 i).2]; rfl
    rw [this] at v2
    exact v2
  have n3 : ¬ wc < 0 := by rw [Int32.lt_iff_toInt_lt]; show ¬ wc.toInt < 0; omega
  have n2 : ¬ wd < 0 := by rw [Int32.lt_iff_toInt_lt]; show ¬ wd.toInt < 0; omega
  have n1 : ¬ wsp < 0 := by rw [Int32.lt_iff_toInt_lt]; show ¬ wsp.toInt < 0; omega
  have t3 : wc.toNatClampNeg = cn.toNat := by show wc.toInt.toNat = _; rw [hwc]
  have t2 : wd.toNatClampNeg = dp.toNat := by show wd.toInt.toNat = _; rw [hwd]
  have t1 : wsp.toNatClampNeg = sp.toNat := by show wsp.toInt.toNat = _; rw [hws]
  have z0 : cs.slots.size = N0 := by rw [hf0, arrV_size]
  have z1 : cd.slots.size = N1 := by rw [hf1, arrV_size]
  intro T hT Xs
  obtain ⟨vm', X', step⟩ := Xs.arraycopy X.1 X.2.2.2.2.1 (hts _ hx) (hts _ hC.2.2.2.1) (hts _ hC.2.2.2.2.1) (hts _ hC.2.2.2.2.2.1) (src := jr_ad s0 b q0) (dst := jr_ad s0 b q1) (cs := cs) (cd := cd) (srcPos := wsp) (destPos := wd) (n := wc) (by rw [hT]; exact cs1) (by rw [hT]; exact cd1)
    (fun z h => by rw [cs2.1] at h; cases h) (fun z h => by rw [cd2.1] at h; cases h) (by rw [cs2.1]; exact fun h => by cases h) (by rw [cd2.1]; exact fun h => by cases h) hk0 hk1 hkk0 hkk1 (by decide) n1 n2 n3
    (by rw [z0, hws, hwc]; omega) (by rw [z1, hwd, hwc]; omega)
    (fun vm₁ _ i hi => by
      rw [t3] at hi
      have ei : cs.slots.getD (wsp.toNatClampNeg + i) .null = f0 (sp.toNat + i) := by
        rw [t1, hf0, Array.getD_eq_getD_getElem?, arrV_read _ _ (by omega)]
        rfl
      obtain ⟨w, hw, -⟩ := hv0 (sp.toNat + i) (by omega)
      rw [ei, hw]
      exact ⟨rfl, trivial⟩)
    (g := F0 m pc LS (.int wc :: .int wd :: .ref (jr_ad s0 b q1) :: .int wsp :: .ref (jr_ad s0 b q0) :: vs)) rfl (by rw [X.2.2.2.1]; exact hl.1) (rest := vs) rfl (by rw [X.2.1]; exact hd) hfr
    (by show 2 * 0 + _ + _ ≤ _; rw [hS4.cat]; have hw : nativeFrameWords "java/lang/System" "arraycopy" 5 ≤ 20 := (by decide); omega)
  have ecp : copied cs cd wsp wd wc = arrV cd.cls N1 (va_cpy f0 f1 sp.toNat dp.toNat cn.toNat) := by
    have h1 := va_copied (fun z : Value => z) cs.cls cd.cls (n1 := N1) (dp := dp.toNat) f0 f1 (show sp.toNat + cn.toNat ≤ N0 by omega)
    rw [← hf0, ← hf1] at h1
    show cd.storeRun wd.toNatClampNeg (cs.stretch wsp.toNatClampNeg wc.toNatClampNeg) = _
    rw [t1, t2, t3]
    exact h1
  rw [ecp] at X' step
  subst e1
  have hl1 : jr_ad s0 b (q1' + 1) < H.size := (Array.getElem?_eq_some_iff.mp cd1).1
  have hheap : ((T.setVm vm').setCell (jr_ad s0 b (q1' + 1)) (arrV cd.cls N1 (va_cpy f0 f1 sp.toNat dp.toNat cn.toNat))).heap = H.setIfInBounds (jr_ad s0 b (q1' + 1)) (arrV cd.cls N1 (va_cpy f0 f1 sp.toNat dp.toNat cn.toNat)) := by rw [← hT]; rfl
  have oq : ∀ z : Nat, z ≠ jr_ad s0 b (q1' + 1) → (H.setIfInBounds (jr_ad s0 b (q1' + 1)) (arrV cd.cls N1 (va_cpy f0 f1 sp.toNat dp.toNat cn.toNat)))[z]? = H[z]? := fun z hz => by simp [Array.getElem?_setIfInBounds, Ne.symm hz]
  have hM' : jr_M s0 b n xs D s L (jv_cp g p0 (o0 + sp) p1 (o1 + dp) cn) (H.setIfInBounds (jr_ad s0 b (q1' + 1)) (arrV cd.cls N1 (va_cpy f0 f1 sp.toNat dp.toNat cn.toNat))) := by
    refine hM.repl hq1 (cell := arrV cd.cls N1 (va_cpy f0 f1 sp.toNat dp.toNat cn.toNat)) ⟨rfl, Or.inl ⟨h15, ⟨_, by rw [hN1]; rfl⟩, by rw [hty1]; exact ⟨(fun z h => by cases h), k1, hk1, cm1, hkk1⟩, ?_⟩⟩ (fun i hi => ?_) (fun q ee j hq hj hne htg => ?_) (by simp [Array.getElem?_setIfInBounds, hl1]) (by simp) oq
    · intro h3
      rw [h3] at hty1
      cases hty1
    · rw [hN1] at hi
      refine ⟨_, by rw [hsi1, arrV_read _ _ hi], ?_⟩
      have : jr_ct (jv_cp g p0 (o0 + sp) p1 (o1 + dp) cn) (q1' + 1) d1 i = jv_I (jv_cp g p0 (o0 + sp) p1 (o1 + dp) cn p1 (o1 + Int.ofNat i)) := by unfold jr_ct; rw [(hat1 i).1, (hat1 i).2]; rfl
      rw [this]
      unfold jv_cp va_cpy
      have ci : Int.ofNat i = (i : Int) := rfl
      by_cases hin : dp.toNat ≤ i ∧ i < dp.toNat + cn.toNat
      · rw [if_pos hin, if_pos ⟨rfl, by rw [ci]; omega, by rw [ci]; omega⟩]
        have := hv0 (sp.toNat + (i - dp.toNat)) (by omega)
        have ee : o0 + sp + (o1 + Int.ofNat i - (o1 + dp)) = o0 + Int.ofNat (sp.toNat + (i - dp.toNat)) := by
          have : Int.ofNat (sp.toNat + (i - dp.toNat)) = ((sp.toNat + (i - dp.toNat) : Nat) : Int) := rfl
          rw [this, ci]
          omega
        rw [ee]
        exact this
      · rw [if_neg hin, if_neg (fun h => hin (by obtain ⟨-, h1, h2⟩ := h; rw [ci] at h1 h2; omega))]
        exact hv1 i hi
    · unfold jv_cp
      rw [if_neg]
      rintro ⟨h1, h2, h3⟩
      apply hne
      have hx : ∃ i : Nat, i < N1 ∧ (jr_lo q ee j).2 = o1 + Int.ofNat i := ⟨((jr_lo q ee j).2 - o1).toNat, by omega, by show _ = o1 + (((jr_lo q ee j).2 - o1).toNat : Int); omega⟩
      obtain ⟨i, hi, hie⟩ := hx
      have h8 : ∀ {z : Nat} {dd : Nat × Nat × List Nat}, L[z]? = some dd → dd.1 = 11 → dd.2.1 = 8 := by
        intro z dd hz h11
        obtain ⟨kk, mm, rr⟩ := dd
        dsimp only at h11
        subst h11
        exact (hM.2.2.2.2.2.2.1.2.2.1 z mm rr hz).1
      have hd12 : d1.1 ≠ 2 := by
        intro h
        rw [h] at hty1
        cases hty1
      exact (jr_lo_ne hM.2.2.2.2.2.2.1 hM.2.2.1 hq hq1 hj (show i < d1.2.1 by rw [hN1]; exact hi) (jr_tg_2 htg) hd12 (h8 hq) (h8 hq1) (by rw [(hat1 i).2]; exact Prod.ext h1 hie)).1
  have hF' : js_F s0 s (H.setIfInBounds (jr_ad s0 b (q1' + 1)) (arrV cd.cls N1 (va_cpy f0 f1 sp.toNat dp.toNat cn.toNat))) (locs ++ (cs.stretch wsp.toNatClampNeg wc.toNatClampNeg).zipIdx.map fun z => ⟨jr_ad s0 b (q1' + 1), wd.toNatClampNeg + z.2⟩) := by
    refine ⟨by simp; exact hF.1, fun z hz => by rw [oq z (by simp [jr_ad]; omega)]; exact hF.2.1 z hz, fun z hz => ?_⟩
    rcases List.mem_append.mp hz with h | h
    · exact hF.2.2 z h
    · obtain ⟨w, -, rfl⟩ := List.mem_map.mp h
      simp [jr_ad]
  obtain ⟨t, a1, b1⟩ := hk.use hM' hl hS4 hF' _ hheap X'
  exact ⟨t, step t a1, b1⟩
end
end
section
/-! ===== new cells ===== -/
theorem jr_W.push {L : jv_L} (h : jr_W L) {d : Nat × Nat × List Nat} (h2 : d.1 ≠ 2) (h4 : d.1 ≠ 4) (h11 : d.1 = 11 → d.2 = (8, [])) (hb : d.2.1 < 2147483648) : jr_W (L ++ [d]) := by
  have at_ : ∀ (x : Nat) (e : Nat × Nat × List Nat), (L ++ [d])[x]? = some e → L[x]? = some e ∨ (x = L.length ∧ e = d) := by
    intro x e hx
    by_cases hl : x < L.length
    · rw [List.getElem?_append_left hl] at hx
      exact Or.inl hx
    · rw [List.getElem?_append_right (by omega)] at hx
      have : x - L.length < 1 := (List.getElem?_eq_some_iff.mp hx).1
      have e0 : x - L.length = 0 := by omega
      rw [e0] at hx
      cases hx
      exact Or.inr ⟨by omega, rfl⟩
  have up : ∀ {x : Nat} {e : Nat × Nat × List Nat}, L[x]? = some e → (L ++ [d])[x]? = some e := by
    intro x e hx
    rw [List.getElem?_append_left (List.getElem?_eq_some_iff.mp hx).1]
    exact hx
  refine ⟨fun a n rs ha => ?_, fun q m rs hq => ?_, fun q m rs hq => ?_, fun q e hq => ?_⟩
  · rcases at_ _ _ ha with h1 | ⟨-, h1⟩
    · obtain ⟨m, e1, e2⟩ := h.1 a n rs h1
      exact ⟨m, e1, fun j hj => up (e2 j hj)⟩
    · exact absurd (congrArg Prod.fst h1).symm h2
  · rcases at_ _ _ hq with h1 | ⟨-, h1⟩
    · obtain ⟨a, j, n, e1, e2, e3, e4⟩ := h.2.1 q m rs h1
      exact ⟨a, j, n, e1, e2, up e3, e4⟩
    · exact absurd (congrArg Prod.fst h1).symm h4
  · rcases at_ _ _ hq with h1 | ⟨-, h1⟩
    · exact h.2.2.1 q m rs h1
    · subst h1
      have := h11 rfl
      cases this
      exact ⟨rfl, rfl⟩
  · rcases at_ _ _ hq with h1 | ⟨-, rfl⟩
    · exact h.2.2.2 q e h1
    · exact hb
theorem jv_rows_len (a n m : Nat) : (jv_rows a n m).length = n := by simp [jv_rows]
theorem jv_rows_at {a n m j : Nat} (hj : j < n) : (jv_rows a n m)[j]? = some (4, m, [a, j]) := by
  unfold jv_rows
  rw [List.getElem?_map, List.getElem?_range hj]
  rfl
theorem jv_rows_of {a n m j : Nat} {e : Nat × Nat × List Nat} (h : (jv_rows a n m)[j]? = some e) : j < n ∧ e = (4, m, [a, j]) := by
  have hj : j < n := by have := (List.getElem?_eq_some_iff.mp h).1; rw [jv_rows_len] at this; exact this
  rw [jv_rows_at hj] at h
  cases h
  exact ⟨hj, rfl⟩
/-- the tables of rows, with one more -/
theorem jr_W.pushR {L : jv_L} (h : jr_W L) {c m : Nat} (hc : c < 2147483648) (hm : m < 2147483648) : jr_W (L ++ (2, c, [m]) :: jv_rows L.length c m) := by
  have at_ : ∀ (x : Nat) (e : Nat × Nat × List Nat), (L ++ (2, c, [m]) :: jv_rows L.length c m)[x]? = some e → L[x]? = some e ∨ (x = L.length ∧ e = (2, c, [m])) ∨ ∃ j, j < c ∧ x = L.length + 1 + j ∧ e = (4, m, [L.length, j]) := by
    intro x e hx
    by_cases hl : x < L.length
    · rw [List.getElem?_append_left hl] at hx
      exact Or.inl hx
    · rw [List.getElem?_append_right (by omega)] at hx
      by_cases h0 : x = L.length
      · subst h0
        rw [Nat.sub_self] at hx
        cases hx
        exact Or.inr (Or.inl ⟨rfl, rfl⟩)
      · obtain ⟨j, hj⟩ : ∃ j, x - L.length = j + 1 := ⟨x - L.length - 1, by omega⟩
        rw [hj, List.getElem?_cons_succ] at hx
        obtain ⟨h1, h2⟩ := jv_rows_of hx
        exact Or.inr (Or.inr ⟨j, h1, by omega, h2⟩)
  have up : ∀ {x : Nat} {e : Nat × Nat × List Nat}, L[x]? = some e → (L ++ (2, c, [m]) :: jv_rows L.length c m)[x]? = some e := by
    intro x e hx
    rw [List.getElem?_append_left (List.getElem?_eq_some_iff.mp hx).1]
    exact hx
  have new0 : (L ++ (2, c, [m]) :: jv_rows L.length c m)[L.length]? = some (2, c, [m]) := by
    rw [List.getElem?_append_right (Nat.le_refl _), Nat.sub_self]
    rfl
  have newj : ∀ j, j < c → (L ++ (2, c, [m]) :: jv_rows L.length c m)[L.length + 1 + j]? = some (4, m, [L.length, j]) := by
    intro j hj
    rw [List.getElem?_append_right (by omega), show L.length + 1 + j - L.length = j + 1 by omega, List.getElem?_cons_succ]
    exact jv_rows_at hj
  refine ⟨fun a n rs ha => ?_, fun q mm rs hq => ?_, fun q mm rs hq => ?_, fun q e hq => ?_⟩
  · rcases at_ _ _ ha with h1 | ⟨rfl, h1⟩ | ⟨j, -, -, h1⟩
    · obtain ⟨m', e1, e2⟩ := h.1 a n rs h1
      exact ⟨m', e1, fun j hj => up (e2 j hj)⟩
    · cases h1
      exact ⟨m, rfl, newj⟩
    · cases h1
  · rcases at_ _ _ hq with h1 | ⟨-, h1⟩ | ⟨j, hj, hx, h1⟩
    · obtain ⟨a, j, n, e1, e2, e3, e4⟩ := h.2.1 q mm rs h1
      exact ⟨a, j, n, e1, e2, up e3, e4⟩
    · cases h1
    · cases h1
      exact ⟨L.length, j, c, rfl, hx, new0, hj⟩
  · rcases at_ _ _ hq with h1 | ⟨-, h1⟩ | ⟨j, hj, hx, h1⟩
    · exact h.2.2.1 q mm rs h1
    · cases h1
    · cases h1
  · rcases at_ _ _ hq with h1 | ⟨-, rfl⟩ | ⟨j, hj, hx, rfl⟩
    · exact h.2.2.2 q e h1
    · exact hc
    · exact hm
theorem jr_lo_lt {L : jv_L} (hW : jr_W L) {q j : Nat} {e : Nat × Nat × List Nat} (hq : L[q]? = some e) : (jr_lo q e j).1 < L.length ∨ (e.1 = 11 ∧ jr_lo q e j = (1000, 8 * (Int.ofNat q + 1) + Int.ofNat j)) := by
  have hl : q < L.length := (List.getElem?_eq_some_iff.mp hq).1
  unfold jr_lo
  split
  · obtain ⟨a, r, n, e1, e2, e3, e4⟩ := hW.2.1 q _ _ hq
    cases e1
    exact Or.inl (List.getElem?_eq_some_iff.mp e3).1
  · exact Or.inr ⟨rfl, rfl⟩
  · exact Or.inl hl
section
variable {p : Program} {l : Launch} {e : Env} {R : Room} {s : State} {m : MethodId} {args : Array Value} {below : List Frame} {meth : Method} {c : Code} {H : Heap} {locs : List Loc} {cells slots : Nat} {Q : State → Prop}
variable {s0 b n : Nat} {xs : Nat → Int32} {D : va_G} {k : Nat} {L : jv_L} {g g' : jv_S} {LS : Array Slot} {ST : List Value} {ls st ls' st' : List jv_V} {pc pc' : Nat}
theorem jr_M.ad (hM : jr_M s0 b n xs D s L g H) : jr_ad s0 b L.length = H.size ∧ 0 < L.length := by
  have h0 : 0 < L.length := (List.getElem?_eq_some_iff.mp hM.1).1
  refine ⟨?_, h0⟩
  obtain ⟨z, hz⟩ : ∃ z, L.length = z + 1 := ⟨L.length - 1, by omega⟩
  have := hM.2.1
  rw [hz] at this ⊢
  show s0 + z = H.size
  omega
theorem js_F.grow (hF : js_F s0 s H locs) (hM : jr_M s0 b n xs D s L g H) {H' : Heap} (hz : H.size ≤ H'.size) (ho : ∀ q, q < H.size → H'[q]? = H[q]?) : js_F s0 s H' locs := by
  have h0 := hM.ad.2
  have := hM.2.1
  exact ⟨Nat.le_trans hF.1 hz, fun q hq => by rw [ho q (by omega)]; exact hF.2.1 q hq, hF.2.2⟩
/-- one new cell -/
theorem jr_M.push (hM : jr_M s0 b n xs D s L g H) (hlen : L.length < 999) {d : Nat × Nat × List Nat} (h2 : d.1 ≠ 2) (h4 : d.1 ≠ 4) (h5 : d.1 ≠ 5) (h11 : d.1 = 11 → d.2 = (8, [])) (hb : d.2.1 < 2147483648) {H' : Heap} {cell : Cell} (e1 : H'[H.size]? = some cell) (e2 : H'.size = H.size + 1) (e3 : ∀ q, q < H.size → H'[q]? = H[q]?)
    (hs : jr_sh D s d cell) (hg' : g' = (if d.1 = 11 then jv_cll g (Int.ofNat L.length + 1) else jv_cl g L.length)) (hv : ∀ i : Nat, i < d.2.1 → ∃ v : Value, cell.slots[jr_si D d.1 i]? = some v ∧ jr_V s0 b (L ++ [d]) (jr_ct g' L.length d i) v) : jr_M s0 b n xs D s (L ++ [d]) g' H' := by
  refine hM.grow (by simpa using e2) e3 (hM.2.2.2.2.2.2.1.push h2 h4 h11 hb) (fun x hx => by rw [List.mem_singleton.mp hx]; exact h5) (by simp; omega) (fun q ee j hq hj htg => ?_) (fun j d' hj => ?_)
  · have hql : q < L.length := (List.getElem?_eq_some_iff.mp hq).1
    have h999 := hM.2.2.1
    rw [hg']
    split
    · unfold jv_cll
      rw [if_neg]
      rintro ⟨h1, h2, h3⟩
      rcases jr_lo_lt (j := j) hM.2.2.2.2.2.2.1 hq with h | ⟨h, h'⟩
      · omega
      · rw [h'] at h2 h3
        dsimp only at h2 h3
        obtain ⟨kk, mm, rr⟩ := ee
        dsimp only at h
        subst h
        have := (hM.2.2.2.2.2.2.1.2.2.1 q mm rr hq).1
        dsimp only at hj
        have a1 : Int.ofNat L.length = (L.length : Int) := rfl
        have a2 : Int.ofNat q = (q : Int) := rfl
        have a3 : Int.ofNat j = (j : Int) := rfl
        rw [a1, a2, a3] at h2
        omega
    · unfold jv_cl
      rw [if_neg]
      intro h1
      rcases jr_lo_lt (j := j) hM.2.2.2.2.2.2.1 hq with h | ⟨h, h'⟩
      · omega
      · rw [h'] at h1
        dsimp only at h1
        omega
  · have h0 : j < 1 := (List.getElem?_eq_some_iff.mp hj).1
    have : j = 0 := by omega
    subst this
    cases hj
    exact ⟨cell, by rw [Nat.add_zero, hM.ad.1]; exact e1, hs, by rw [Nat.add_zero]; exact hv⟩
theorem js_KG.push {d : Nat × Nat × List Nat} (hk : js_KG p l e R s m args below meth c cells slots Q s0 b n xs D k L (pc', ls', st', L ++ [d], g')) {H' : Heap} (hM : jr_M s0 b n xs D s (L ++ [d]) g' H') (hl : js_L s0 b L (jv_ml k) LS ls') (hs : js_S s0 b (L ++ [d]) ST st') (hF : js_F s0 s H' locs) : W p l e R s m args below meth c H' locs (cells + 1) (slots + d.2.1) Q (F0 m pc' LS ST) := by
  have := hk H' locs LS ST hM (jr_le.app _ _) (hl.mono (jr_le.app _ _)) hs hF
  dsimp only at this
  rw [js_sz_app] at this
  simpa [js_sz] using this
theorem js_o_new (X : js_X p s m args meth c D k) (hC : js_Cl) (hM : jr_M s0 b n xs D s L g H) (hl : js_L s0 b L (jv_ml k) LS ls) (hF : js_F s0 s H locs) (hS : js_S s0 b L ST st) {x ci ns : Nat} (hlen : L.length < 999) (hx : ∃ (C : String) (T : u_T), vwCl[ci]? = some (C, T, ns) ∧ Cond.classLink (jm_own k) x C ∈ jm_ws ∧ Cond.instantiable C ns ∈ jm_ws ∧ Cond.initialized C ∈ jm_ws) (hr1 : cells + 1 ≤ R.cells) (hr2 : slots + ns ≤ R.slots) (hd : decode (jm_c k) pc = .ok (.new x, 3)) {top : jv_V} {d : Nat × Nat × List Nat} (htop : (ci ≠ 1 ∧ top = jv_P L.length ∧ d = (10 + ci, ns, List.replicate ns 0) ∧ g' = jv_cl g L.length) ∨ (ci = 1 ∧ ns = 8 ∧ top = jv_D (Int.ofNat L.length + 1) ∧ d = (11, 8, []) ∧ g' = jv_cll g (Int.ofNat L.length + 1)))
    (hk : js_KG p l e R s m args below meth c cells slots Q s0 b n xs D k L (pc + 3, ls, top :: st, L ++ [d], g')) : W p l e R s m args below meth c H locs cells slots Q (F0 m pc LS ST) := by
  obtain ⟨C, T, hc, hcl, hins, hini⟩ := hx
  have hts := X.2.2.2.2.2.1
  obtain ⟨hin, hnm, ty0, hty0, htys⟩ := hC.1 _ _ _ _ hc
  have hKn := X.2.2.2.2.2.2.2.2.2.1 _ _ hc
  have hcil : ci < 13 := (List.getElem?_eq_some_iff.mp hc).1
  have hnsb : ns < 2147483648 := by
    have : ∀ (ci : Nat) (r : vw_C), ci < 13 → vwCl[ci]? = some r → r.2.2 ≤ 50 := by
      intro ci r h1 h2
      rcases (show ci = 0 ∨ ci = 1 ∨ ci = 2 ∨ ci = 3 ∨ ci = 4 ∨ ci = 5 ∨ ci = 6 ∨ ci = 7 ∨ ci = 8 ∨ ci = 9 ∨ ci = 10 ∨ ci = 11 ∨ ci = 12 by omega) with rfl | rfl | rfl | rfl | rfl | rfl | rfl | rfl | rfl | rfl | rfl | rfl | rfl <;> cases h2 <;> decide
    have := this ci _ hcil hc
    dsimp only at this
    omega
  refine W.newcK X.1 X.2.1 X.2.2.2.2.1 (hts _ hcl) (hts _ hins) (hts _ hini) rfl hd hr1 hr2 hKn.2.1 rfl (fun H' kC hkC e1 e2 e3 => ?_)
  obtain ⟨cell, o1, o2, o3, o4⟩ := u_born ty0 hts hin hKn hkC e1 hty0
  rw [e1] at o1
  cases o1
  have hd1 : d.1 = 10 + ci ∧ d.2.1 = ns := by
    rcases htop with ⟨-, -, rfl, -⟩ | ⟨rfl, rfl, -, rfl, -⟩ <;> exact ⟨rfl, rfl⟩
  have hM' : jr_M s0 b n xs D s (L ++ [d]) g' H' := by
    refine hM.push hlen (by omega) (by omega) (by omega) (fun h => ?_) (by omega) e1 e2 e3 ⟨o3, Or.inr ⟨by omega, ?_, (C, T, ns), ?_, hd1.2.symm⟩⟩ ?_ (fun i hi => ?_)
    · rcases htop with ⟨h1, -, rfl, -⟩ | ⟨-, -, -, rfl, -⟩
      · dsimp only at h
        omega
      · rfl
    · rw [hd1.1, show 10 + ci - 10 = ci by omega]
      exact o2
    · rw [hd1.1, show 10 + ci - 10 = ci by omega]
      exact hc
    · rcases htop with ⟨h1, -, rfl, rfl⟩ | ⟨-, -, -, rfl, rfl⟩
      · rw [if_neg (by dsimp only; omega)]
      · rfl
    · rw [hd1.2] at hi
      refine ⟨defaultValue (ty0 i), ?_, ?_⟩
      · have : jr_si D d.1 i = D.2 ci i := by unfold jr_si; rw [if_neg (by omega), hd1.1, show 10 + ci - 10 = ci by omega]
        rw [this]
        exact o4 i hi
      · have hdef : (jv_ft ci i = 2) ∨ (jv_ft ci i ≠ 2 ∧ defaultValue (ty0 i) = .int 0) := by
          rcases htys i hi with ⟨t0, t1⟩ | ⟨t0, t1⟩ | ⟨t0, t1⟩
          · exact Or.inr ⟨by omega, by rw [t1]; rfl⟩
          · exact Or.inr ⟨by omega, by rw [t1]; rfl⟩
          · exact Or.inl t0
        rcases htop with ⟨h1, -, rfl, rfl⟩ | ⟨rfl, rfl, -, rfl, rfl⟩
        · rcases hdef with hh | ⟨hh, hv⟩
          · have : jr_ct (jv_cl g L.length) L.length (10 + ci, ns, List.replicate ns 0) i = jv_U := by
              have h3 : jr_tg (10 + ci, ns, List.replicate ns 0) i = 3 := by
                unfold jr_tg
                rw [show (10 + ci, ns, List.replicate ns 0).1 = (ci + 4) + 6 by dsimp only; omega]
                show (if jv_ft (ci + 4 + 6 - 10) i = 2 then 3 else 0) = 3
                rw [show ci + 4 + 6 - 10 = ci by omega, if_pos hh]
              unfold jr_ct
              rw [h3]
              dsimp only
              rw [show (List.replicate ns 0).getD i 0 = 0 by simp [List.getD, List.getElem?_replicate, hi]]
              rw [show 10 + ci = (ci + 7) + 3 by omega]
              rfl
            rw [this]
            trivial
          · rw [(jr_ct_obj (g := jv_cl g L.length) (q := L.length) (kd := 10 + ci) (nn := ns) (rs := List.replicate ns 0) (by omega) (by omega) (by rw [show 10 + ci - 10 = ci by omega]; exact hh)).1, hv]
            refine ⟨0, rfl, ?_⟩
            simp [jv_cl]
        · rcases hdef with hh | ⟨hh, hv⟩
          · exfalso
            revert hh
            rcases (show i = 0 ∨ i = 1 ∨ i = 2 ∨ i = 3 ∨ i = 4 ∨ i = 5 ∨ i = 6 ∨ i = 7 by omega) with rfl | rfl | rfl | rfl | rfl | rfl | rfl | rfl <;> decide
          · rw [jr_ct_1000' hi, hv]
            refine ⟨0, rfl, ?_⟩
            unfold jv_cll
            have a1 : Int.ofNat L.length = (L.length : Int) := rfl
            have a3 : Int.ofNat i = (i : Int) := rfl
            rw [if_pos ⟨rfl, by rw [a1, a3]; omega, by rw [a1, a3]; omega⟩]
            rfl
  have hS' : js_S s0 b (L ++ [d]) (.ref H.size :: ST) (top :: st) := by
    rcases htop with ⟨-, rfl, -, -⟩ | ⟨-, -, rfl, rfl, -⟩
    · exact ⟨by simp, ⟨by simp, by rw [hM.ad.1]⟩, hS.mono (jr_le.app _ _)⟩
    · refine ⟨by simp, Or.inr ⟨?_, ?_, ?_⟩, hS.mono (jr_le.app _ _)⟩
      · have a1 : Int.ofNat L.length = (L.length : Int) := rfl
        omega
      · rw [show (Int.ofNat L.length + 1 - 1).toNat = L.length by have a1 : Int.ofNat L.length = (L.length : Int) := rfl; omega]
        simp
      · rw [show (Int.ofNat L.length + 1 - 1).toNat = L.length by have a1 : Int.ofNat L.length = (L.length : Int) := rfl; omega, hM.ad.1]
  have := hk.push hM' hl hS' (hF.grow hM (by omega) e3)
  rw [hd1.2] at this
  exact this
end
end
section
/-! ===== new arrays ===== -/
section
variable {p : Program} {l : Launch} {e : Env} {R : Room} {s : State} {m : MethodId} {args : Array Value} {below : List Frame} {meth : Method} {c : Code} {H : Heap} {locs : List Loc} {cells slots : Nat} {Q : State → Prop}
variable {s0 b n : Nat} {xs : Nat → Int32} {D : va_G} {k : Nat} {L : jv_L} {g g' : jv_S} {LS : Array Slot} {ST : List Value} {ls st ls' st' : List jv_V} {pc pc' : Nat}
/-- a new array of numbers or loads, all 0 -/
theorem jr_M.arr (hM : jr_M s0 b n xs D s L g H) (hlen : L.length < 999) {kd N : Nat} (hkd : kd = 0 ∨ kd = 1 ∨ kd = 3) (hN : N < 2147483648) {cA : ClassId} (ha : ∀ f, s.isArrayOf (arrV cA N f) (jr_ty kd)) (hra : kd = 3 → va_RA s cA (.object "LaneWaits$Load")) : jr_M s0 b n xs D s (L ++ [(kd, N, [])]) (jv_cl g L.length) (H.push (arrV cA N (fun _ => defaultValue (jr_ty kd)))) := by
  refine hM.push hlen (d := (kd, N, [])) (by show kd ≠ 2; omega) (by show kd ≠ 4; omega) (by show kd ≠ 5; omega) (fun h => by have : kd = 11 := h; omega) hN (cell := arrV cA N (fun _ => defaultValue (jr_ty kd))) (by simp) (by simp) (fun q hq => by rw [Array.getElem?_push, if_neg (Nat.ne_of_lt hq)]) ⟨rfl, Or.inl ⟨by show kd < 5; omega, ⟨_, rfl⟩, ha _, hra⟩⟩ (by rw [if_neg (by show kd ≠ 11; omega)]) (fun i hi => ⟨defaultValue (jr_ty kd), ?_, ?_⟩)
  · have : jr_si D kd i = i := by unfold jr_si; rw [if_pos (by omega)]
    show (arrV cA N _).slots[jr_si D kd i]? = _
    rw [this]
    exact arrV_read _ _ hi
  · rcases hkd with rfl | rfl | rfl
    · refine ⟨0, rfl, ?_⟩
      show _ = jv_cl g L.length L.length _
      simp [jv_cl]
    · refine ⟨0, rfl, ?_⟩
      show _ = jv_cl g L.length L.length _
      simp [jv_cl]
    · refine Or.inl ⟨?_, rfl⟩
      show jv_cl g L.length L.length _ = 0
      simp [jv_cl]
theorem js_o_na (X : js_X p s m args meth c D k) (hM : jr_M s0 b n xs D s L g H) (hl : js_L s0 b L (jv_ml k) LS ls) (hF : js_F s0 s H locs) {cn : Int} (hS : js_S s0 b L ST (jv_I cn :: st)) (hlen : L.length < 999) (hc : 0 ≤ cn ∧ cn ≤ 100000) {kd : Nat} {at' : ArrayType} (hkd : (kd = 0 ∧ at' = .int) ∨ (kd = 1 ∧ at' = .long)) (hx : Cond.arrayClass (jr_ty kd) ∈ jm_ws) (hr1 : cells + 1 ≤ R.cells) (hr2 : slots + cn.toNat ≤ R.slots) (hd : decode (jm_c k) pc = .ok (.newarray at', 2)) (hk : js_KG p l e R s m args below meth c cells slots Q s0 b n xs D k L (pc + 2, ls, jv_P L.length :: st, L ++ [(kd, cn.toNat, [])], jv_cl g L.length)) : W p l e R s m args below meth c H locs cells slots Q (F0 m pc LS ST) := by
  obtain ⟨w, vs, rfl, hw, hS2⟩ := hS.cI
  have hts := X.2.2.2.2.2.1
  have hty : newarray.typeOf at' = jr_ty kd := by rcases hkd with ⟨rfl, rfl⟩ | ⟨rfl, rfl⟩ <;> rfl
  have hcn : w.toNatClampNeg = cn.toNat := by show w.toInt.toNat = _; rw [hw]
  have hn : ¬ w < 0 := by rw [Int32.lt_iff_toInt_lt]; show ¬ w.toInt < 0; omega
  refine W.newa X.1 X.2.1 (by rw [hty]; exact hts _ hx) rfl hd rfl hn ?_ hr1 (by rw [hcn]; exact hr2) (fun cA kA comp h1 h2 h3 => ?_)
  · rw [hcn]
    have : componentBytes (newarray.typeOf at') ≤ 8 := by rcases hkd with ⟨rfl, rfl⟩ | ⟨rfl, rfl⟩ <;> decide
    have h2 := Nat.mul_le_mul (show cn.toNat ≤ 100000 by omega) this
    omega
  · rw [hcn, arrV_new, hty]
    rw [hty] at h3
    have hM' := hM.arr hlen (kd := kd) (N := cn.toNat) (by omega) (by omega) (cA := cA) (fun f => ⟨(fun z h => by cases h), kA, h2, comp, h3⟩) (fun h => by omega)
    refine hk.push hM' hl ⟨by simp, ⟨by simp, by rw [hM.ad.1]⟩, hS2.mono (jr_le.app _ _)⟩ (hF.grow hM (by simp) (fun q hq => by rw [Array.getElem?_push, if_neg (Nat.ne_of_lt hq)]))
theorem js_o_anew (X : js_X p s m args meth c D k) (hM : jr_M s0 b n xs D s L g H) (hl : js_L s0 b L (jv_ml k) LS ls) (hF : js_F s0 s H locs) {cn : Int} (hS : js_S s0 b L ST (jv_I cn :: st)) (hlen : L.length < 999) (hc : 0 ≤ cn ∧ cn ≤ 100000) {x : Nat} (hx : Cond.classLink (jm_own k) x "LaneWaits$Load" ∈ jm_ws) (hr1 : cells + 1 ≤ R.cells) (hr2 : slots + cn.toNat ≤ R.slots) (hd : decode (jm_c k) pc = .ok (.anewarray x, 3)) (hk : js_KG p l e R s m args below meth c cells slots Q s0 b n xs D k L (pc + 3, ls, jv_P L.length :: st, L ++ [(3, cn.toNat, [])], jv_cl g L.length)) : W p l e R s m args below meth c H locs cells slots Q (F0 m pc LS ST) := by
  obtain ⟨w, vs, rfl, hw, hS2⟩ := hS.cI
  have hts := X.2.2.2.2.2.1
  have hcn : w.toNatClampNeg = cn.toNat := by show w.toInt.toNat = _; rw [hw]
  have hn : ¬ w < 0 := by rw [Int32.lt_iff_toInt_lt]; show ¬ w.toInt < 0; omega
  refine W.anew X.1 X.2.1 X.2.2.2.2.1 (hts _ hx) (va_AO.use X.2.2.2.2.2.2.2.2.1.2.1) rfl hd rfl hn (by rw [hcn]; omega) hr1 (by rw [hcn]; exact hr2) (fun cA kA comp h1 h2 h3 h4 => ?_)
  rw [hcn, arrV_new]
  have hM' := hM.arr hlen (kd := 3) (N := cn.toNat) (by omega) (by omega) (cA := cA) (fun f => ⟨(fun z h => by cases h), kA, h2, comp, h3⟩) (fun _ => ⟨kA, comp, h2, h3, h4, h1⟩)
  exact hk.push hM' hl ⟨by simp, ⟨by simp, by rw [hM.ad.1]⟩, hS2.mono (jr_le.app _ _)⟩ (hF.grow hM (by simp) (fun q hq => by rw [Array.getElem?_push, if_neg (Nat.ne_of_lt hq)]))
theorem js_outer (cc : ClassId) (N h0 : Nat) : ∀ i : Nat, Jvm.Free.Multi.outerC cc N h0 i = arrV cc N (fun j => if j < i then .ref (h0 + 1 + j) else .null)
  | 0 => by
    show ({ cls := cc, slots := Array.replicate N .null, vm := .none } : Cell) = _
    rw [arrV_new]
    refine congrArg (arrV cc N) (funext fun j => ?_)
    simp
  | i + 1 => by
    show (Jvm.Free.Multi.outerC cc N h0 i).setSlot i (.ref (h0 + 1 + i)) = _
    rw [js_outer cc N h0 i, arrV_store]
    refine congrArg (arrV cc N) (funext fun j => ?_)
    by_cases e : j = i
    · subst e
      simp [updV]
    · by_cases h : j < i
      · simp [updV, e, h, Nat.lt_succ_of_lt h]
      · simp [updV, e, h, show ¬ j < i + 1 by omega]
theorem js_sz_rows (a cn mm : Nat) : js_sz (jv_rows a cn mm) = cn * mm := by
  have : ∀ l : List Nat, js_sz (l.map (fun i => ((4, mm, [a, i]) : Nat × Nat × List Nat))) = l.length * mm := by
    intro l
    induction l with
    | nil => simp [js_sz]
    | cons x t ih => simp [js_sz, ih, Nat.add_mul]; omega
  unfold jv_rows
  rw [this, List.length_range]
theorem js_o_mn (X : js_X p s m args meth c D k) (hM : jr_M s0 b n xs D s L g H) (hl : js_L s0 b L (jv_ml k) LS ls) (hF : js_F s0 s H locs) {cn mm : Int} (hS : js_S s0 b L ST (jv_I mm :: jv_I cn :: st)) (hlen : L.length + cn.toNat < 999) (hc : 0 ≤ cn ∧ cn ≤ 100 ∧ 0 ≤ mm ∧ mm ≤ 100) {x : Nat} (hx : Cond.classLink (jm_own k) x "[[I" ∈ jm_ws) (hx2 : Cond.arrayClass .int ∈ jm_ws) (hr1 : cells + (1 + cn.toNat) ≤ R.cells) (hr2 : slots + (cn.toNat + cn.toNat * mm.toNat) ≤ R.slots) (hd : decode (jm_c k) pc = .ok (.multianewarray x 2, 4)) (hk : js_KG p l e R s m args below meth c cells slots Q s0 b n xs D k L (pc + 4, ls, jv_P L.length :: st, L ++ (2, cn.toNat, [mm.toNat]) :: jv_rows L.length cn.toNat mm.toNat, jv_cl g L.length)) : W p l e R s m args below meth c H locs cells slots Q (F0 m pc LS ST) := by
  obtain ⟨wm, vs1, rfl, hwm, hS1⟩ := hS.cI
  obtain ⟨wc, vs, rfl, hwc, hS2⟩ := hS1.cI
  have hts := X.2.2.2.2.2.1
  have tc : wc.toNatClampNeg = cn.toNat := by show wc.toInt.toNat = _; rw [hwc]
  have tm : wm.toNatClampNeg = mm.toNat := by show wm.toInt.toNat = _; rw [hwm]
  have nc : ¬ wc < 0 := by rw [Int32.lt_iff_toInt_lt]; show ¬ wc.toInt < 0; omega
  have nm : ¬ wm < 0 := by rw [Int32.lt_iff_toInt_lt]; show ¬ wm.toInt < 0; omega
  generalize hcN : cn.toNat = N at *
  generalize hmM : mm.toNat = M at *
  intro T hT Xs
  obtain ⟨vm₁, cA, comp, -, fA, fC, hO, hI, X', step⟩ := Xs.multianewarray2F X.1 X.2.2.2.2.1 (ty := .int) (hts _ hx) X.2.2.2.2.2.2.2.2.1.2.2 (hts _ hx2) (g := F0 m pc LS (.int wm :: .int wc :: vs)) rfl (by rw [X.2.1]; exact hd) rfl nc nm (by rw [tc]; omega) (by rw [tm]; show M * 4 ≤ _; omega) (by rw [tm]; omega) rfl rfl (by rw [tc]; exact hr1) (by rw [tc, tm]; exact hr2)
  rw [tc, tm] at X' step
  generalize hFF : Jvm.Free.Multi.fill (T.setVm vm₁) cA comp N M (defaultValue .int) N = F at X' step
  have hTh : (T.setVm vm₁).heap = H := hT
  obtain ⟨f1, f2, -, -⟩ := Jvm.Free.Multi.fill_facts (T.setVm vm₁) cA comp N M (defaultValue .int) N
  rw [hFF, hTh] at f1 f2
  have hold : ∀ z : Nat, z < H.size → F.heap[z]? = H[z]? := fun z hz => by
    have := Jvm.Free.Multi.fill_old (T.setVm vm₁) cA comp N M (defaultValue .int) (a := z) (by rw [hTh]; exact hz) N
    rw [hFF, hTh] at this
    exact this
  have hrow : ∀ j : Nat, j < N → F.heap[H.size + 1 + j]? = some (arrV comp M (fun _ => .int 0)) := fun j hj => by
    have := Jvm.Free.Multi.fill_inner (T.setVm vm₁) cA comp N M (defaultValue .int) N j hj
    rw [hFF, hTh] at this
    rw [this]
    exact congrArg some (arrV_new comp M (.int 0))
  rw [js_outer] at f2
  have hT2 : T.heap.size = H.size := by rw [hT]
  have hWn := hM.2.2.2.2.2.2.1.pushR (c := N) (m := M) (by omega) (by omega)
  have had := hM.ad
  have hadr : ∀ j, jr_ad s0 b (L.length + 1 + j) = H.size + 1 + j := by
    intro j
    have h1 := hM.2.1
    rw [show L.length + 1 + j = (L.length + j) + 1 by omega]
    show s0 + (L.length + j) = _
    omega
  have hM' : jr_M s0 b n xs D s (L ++ (2, N, [M]) :: jv_rows L.length N M) (jv_cl g L.length) F.heap := by
    refine hM.grow (by rw [f1, List.length_cons, jv_rows_len]; omega) hold hWn (fun z hz => ?_) (by rw [List.length_append, List.length_cons, jv_rows_len]; omega) (fun q ee j hq hj htg => ?_) (fun j d hj => ?_)
    · rcases List.mem_cons.mp hz with rfl | hz
      · simp
      · obtain ⟨j, hj⟩ := List.getElem?_of_mem hz
        rw [(jv_rows_of hj).2]
        simp
    · unfold jv_cl
      rw [if_neg]
      intro h1
      rcases jr_lo_lt (j := j) hM.2.2.2.2.2.2.1 hq with h | ⟨h, h'⟩
      · omega
      · rw [h'] at h1
        dsimp only at h1
        omega
    · cases j with
      | zero =>
        cases hj
        refine ⟨_, by rw [Nat.add_zero, had.1]; exact f2, ⟨rfl, Or.inl ⟨by simp, ⟨_, rfl⟩, ?_, fun h => by cases h⟩⟩, fun i hi => ?_⟩
        · have := (hO N H.size N).1
          rw [js_outer] at this
          exact this
        · have hi : i < N := hi
          refine ⟨.ref (H.size + 1 + i), ?_, ?_⟩
          · show (arrV cA N _).slots[i]? = _
            rw [arrV_read _ _ hi, if_pos hi]
          rw [Nat.add_zero]
          refine ⟨N, M, ?_, ?_, ?_, ?_⟩
          · rw [List.getElem?_append_right (Nat.le_refl _), Nat.sub_self]
            rfl
          · exact Int.natCast_nonneg i
          · show (i : Int) < (N : Int)
            omega
          · show Value.ref (H.size + 1 + i) = .ref (jr_ad s0 b (L.length + 1 + i))
            rw [hadr]
      | succ j =>
        rw [List.getElem?_cons_succ] at hj
        obtain ⟨hjN, rfl⟩ := jv_rows_of hj
        refine ⟨_, by rw [show L.length + (j + 1) = L.length + 1 + j by omega, hadr]; exact hrow j hjN, ⟨rfl, Or.inl ⟨by simp, ⟨_, rfl⟩, ?_, fun h => by cases h⟩⟩, fun i hi => ?_⟩
        · have := (hI M (.int 0)).1
          have e : Jvm.Free.Multi.innerC comp M (.int 0) = arrV comp M (fun _ => .int 0) := arrV_new comp M (.int 0)
          rw [e] at this
          exact this
        · refine ⟨_, arrV_read _ _ hi, 0, rfl, ?_⟩
          show _ = jv_cl g L.length L.length _
          simp [jv_cl]
  have hle := jr_le.app L ((2, N, [M]) :: jv_rows L.length N M)
  have hw := hk F.heap locs LS (.ref H.size :: vs) hM' hle (hl.mono hle) ⟨by simp, ⟨by simp, by rw [had.1]⟩, hS2.mono hle⟩ (hF.grow hM (by omega) hold)
  have ec : cells + ((L ++ (2, N, [M]) :: jv_rows L.length N M).length - L.length) = cells + 1 + N := by rw [List.length_append, List.length_cons, jv_rows_len]; omega
  have es : slots + (js_sz (L ++ (2, N, [M]) :: jv_rows L.length N M) - js_sz L) = slots + N + N * M := by rw [js_sz_app]; show _ + (js_sz L + (N + js_sz (jv_rows L.length N M)) - _) = _; rw [js_sz_rows]; omega
  dsimp only at hw
  rw [ec, es] at hw
  obtain ⟨t, a1, b1⟩ := hw F rfl X'
  refine ⟨t, step t ?_, b1⟩
  rw [hT2]
  exact a1
end
end
section
/-! ===== every instruction that is no call ===== -/
/-- what a return leaves -/
def js_R (s0 b : Nat) (L : jv_L) (k pc : Nat) (r : jv_V) (ST : List Value) : Prop :=
  (∃ (x : Int) (w : Int32), r = jv_I x ∧ w.toInt = x ∧ ST = [.int w] ∧ decode (jm_c k) pc = .ok (.ireturn, 1) ∧ (jm_ret k = some .int ∨ (jm_ret k = some .boolean ∧ (x = 0 ∨ x = 1)))) ∨
  (∃ (x : Int) (w : Int64), r = jv_J x ∧ w.toInt = x ∧ ST = [.long w] ∧ decode (jm_c k) pc = .ok (.lreturn, 1) ∧ jm_ret k = some .long) ∨
  (∃ (x : Int) (v : Value), r = jv_D x ∧ jr_V s0 b L r v ∧ ST = [v] ∧ decode (jm_c k) pc = .ok (.areturn, 1) ∧ ∃ C : String, jm_ret k = some (.object C)) ∨
  (r = jv_U ∧ ST = [] ∧ decode (jm_c k) pc = .ok (.return_, 1) ∧ jm_ret k = none)
/-- what a call finds -/
def js_CF (s0 b : Nat) (L : jv_L) (k pc : Nat) (ST : List Value) (k' : Nat) (as rest : List jv_V) (x i rc : Nat) (vs STr : List Value) : Prop :=
  ((i = 0 ∧ decode (jm_c k) pc = .ok (.invokevirtual x, 3)) ∨ (i = 1 ∧ decode (jm_c k) pc = .ok (.invokespecial x, 3)) ∨ (i = 2 ∧ decode (jm_c k) pc = .ok (.invokestatic x, 3))) ∧ js_iv k x i k' as.length rc ∧
  (0 < rc → (∃ (q nn : Nat) (rs : List Nat) (t : List jv_V), as = jv_P q :: t ∧ L[q]? = some (rc - 1, nn, rs)) ∨ (rc = 12 ∧ ∃ (q : Int) (t : List jv_V), as = jv_D q :: t ∧ 0 < q ∧ L[(q - 1).toNat]? = some (11, 8, []))) ∧ ST = vs.reverse ++ STr ∧ js_S s0 b L vs as ∧ js_S s0 b L STr rest ∧ jv_cat rest ≤ 8
section
variable {p : Program} {l : Launch} {e : Env} {R : Room} {s : State} {m : MethodId} {args : Array Value} {below : List Frame} {meth : Method} {c : Code} {H : Heap} {locs : List Loc} {cells slots : Nat} {Q : State → Prop}
variable {s0 b n : Nat} {xs : Nat → Int32} {D : va_G} {k : Nat} {L : jv_L} {g g' : jv_S} {LS : Array Slot} {ST : List Value} {ls st ls' st' : List jv_V} {pc pc' : Nat}
theorem js_S.app {L : jv_L} : ∀ {vs : List Value} {as : List jv_V} {ws : List Value} {bs : List jv_V}, js_S s0 b L vs as → js_S s0 b L ws bs → js_S s0 b L (vs ++ ws) (as ++ bs)
  | [], [], _, _, _, h => h
  | v :: vs, a :: as, _, _, h1, h2 => ⟨h1.1, h1.2.1, js_S.app h1.2.2 h2⟩
theorem js_S.rev {L : jv_L} : ∀ {vs : List Value} {as : List jv_V}, js_S s0 b L vs as → js_S s0 b L vs.reverse as.reverse
  | [], [], _ => trivial
  | v :: vs, a :: as, h => by
    rw [List.reverse_cons, List.reverse_cons]
    exact js_S.app (js_S.rev h.2.2) ⟨h.1, h.2.1, trivial⟩
theorem js_S.split {L : jv_L} : ∀ (c : Nat) {vs : List Value} {as : List jv_V}, js_S s0 b L vs as → js_S s0 b L (vs.take c) (as.take c) ∧ js_S s0 b L (vs.drop c) (as.drop c)
  | 0, _, _, h => ⟨trivial, h⟩
  | _ + 1, [], [], _ => ⟨trivial, trivial⟩
  | c + 1, v :: vs, a :: as, h => by
    obtain ⟨h1, h2⟩ := js_S.split c h.2.2
    exact ⟨⟨h.1, h.2.1, h1⟩, h2⟩
theorem js_S.len {L : jv_L} : ∀ {vs : List Value} {as : List jv_V}, js_S s0 b L vs as → vs.length = as.length
  | [], [], _ => rfl
  | v :: vs, a :: as, h => by simp [js_S.len h.2.2]
def js_K (p : Program) (l : Launch) (e : Env) (R : Room) (s : State) (m : MethodId) (args : Array Value) (below : List Frame) (meth : Method) (c : Code) (H : Heap) (locs : List Loc) (cells slots : Nat) (Q : State → Prop) (s0 b n : Nat) (xs : Nat → Int32) (D : va_G) (k : Nat) (pc : Nat) (LS : Array Slot) (ST : List Value) (L : jv_L) (g : jv_S) (nx : jv_N) : Prop := match nx with
  | .inl (li, d) => js_KG p l e R s m args below meth c cells slots Q s0 b n xs D k L (jv_dl id li d) ∧ cells + ((jv_dl id li d).2.2.2.1.length - L.length) ≤ R.cells ∧ slots + (js_sz (jv_dl id li d).2.2.2.1 - js_sz L) ≤ R.slots
  | .inr (.inl (z, f)) => js_KG p l e R s m args below meth c cells slots Q s0 b n xs D k L (f (jv_w32 z))
  | .inr (.inr (.inl (z, f))) => js_KG p l e R s m args below meth c cells slots Q s0 b n xs D k L (f (jv_w64 z))
  | .inr (.inr (.inr (.inl (r, L', g')))) => L' = L → g' = g → js_R s0 b L k pc r ST → W p l e R s m args below meth c H locs cells slots Q (F0 m pc LS ST)
  | .inr (.inr (.inr (.inr (k', as, rest)))) => ∀ (x i rc : Nat) (vs STr : List Value), js_CF s0 b L k pc ST k' as rest x i rc vs STr → W p l e R s m args below meth c H locs cells slots Q (F0 m pc LS ST)
theorem jv_dl1 {cc : Prop} {dc : Decidable cc} {a d : jv_Go} : jv_dl id [((⟨cc, dc⟩ : jv_C), a)] d = @ite _ cc dc a d := rfl
theorem jv_ok1 {cc : Prop} {dc : Decidable cc} (h : jv_ok [(⟨cc, dc⟩ : jv_C)] = true) : cc := by
  unfold jv_ok at h
  by_cases hc : cc
  · exact hc
  · rw [if_neg hc] at h
    cases h
theorem jv_ok2 {cc c2 : Prop} {dc : Decidable cc} {d2 : Decidable c2} (h : jv_ok [(⟨cc, dc⟩ : jv_C), ⟨c2, d2⟩] = true) : cc ∧ c2 := by
  unfold jv_ok at h
  by_cases hc : cc
  · rw [if_pos hc] at h
    exact ⟨hc, jv_ok1 h⟩
  · rw [if_neg hc] at h
    cases h
end
end
section
section
variable {p : Program} {l : Launch} {e : Env} {R : Room} {s : State} {m : MethodId} {args : Array Value} {below : List Frame} {meth : Method} {c : Code} {H : Heap} {locs : List Loc} {cells slots : Nat} {Q : State → Prop}
variable {s0 b n : Nat} {xs : Nat → Int32} {D : va_G} {k : Nat} {L : jv_L} {g g' : jv_S} {LS : Array Slot} {ST : List Value} {ls st ls' st' : List jv_V} {pc pc' : Nat}
theorem js_s_iconst (hC : js_Cl) (X : js_X p s m args meth c D k) (hM : jr_M s0 b n xs D s L g H) (hl : js_L s0 b L (jv_ml k) LS ls) (hS : js_S s0 b L ST st) (hF : js_F s0 s H locs) (hfr : jm_ht k ≤ R.frames) (hlo : jm_rl k ≤ R.locals) {len : Nat} {r : List Nat} {z : Int} {a : Int} (hd : decode (jm_c k) pc = .ok (.iconst a, len)) (hie : js_i1 k pc (.iconst a) len r z) {cs : List jv_C} {nx : jv_N} (hs : jv_sx (pc, .iconst a, len, r, z) ls st L g = some (cs, nx)) (hok : jv_ok cs = true) (hk : js_K p l e R s m args below meth c H locs cells slots Q s0 b n xs D k pc LS ST L g nx) : W p l e R s m args below meth c H locs cells slots Q (F0 m pc LS ST) := by
  obtain ⟨rfl, hz⟩ := hie
  cases hs
  exact js_o_iconst X hM hl hF hS hd hz hk.1
theorem js_s_bipush (hC : js_Cl) (X : js_X p s m args meth c D k) (hM : jr_M s0 b n xs D s L g H) (hl : js_L s0 b L (jv_ml k) LS ls) (hS : js_S s0 b L ST st) (hF : js_F s0 s H locs) (hfr : jm_ht k ≤ R.frames) (hlo : jm_rl k ≤ R.locals) {len : Nat} {r : List Nat} {z : Int} {a : Int} (hd : decode (jm_c k) pc = .ok (.bipush a, len)) (hie : js_i1 k pc (.bipush a) len r z) {cs : List jv_C} {nx : jv_N} (hs : jv_sx (pc, .bipush a, len, r, z) ls st L g = some (cs, nx)) (hok : jv_ok cs = true) (hk : js_K p l e R s m args below meth c H locs cells slots Q s0 b n xs D k pc LS ST L g nx) : W p l e R s m args below meth c H locs cells slots Q (F0 m pc LS ST) := by
  obtain ⟨rfl, hz⟩ := hie
  cases hs
  exact js_o_bipush X hM hl hF hS hd hz hk.1
theorem js_s_sipush (hC : js_Cl) (X : js_X p s m args meth c D k) (hM : jr_M s0 b n xs D s L g H) (hl : js_L s0 b L (jv_ml k) LS ls) (hS : js_S s0 b L ST st) (hF : js_F s0 s H locs) (hfr : jm_ht k ≤ R.frames) (hlo : jm_rl k ≤ R.locals) {len : Nat} {r : List Nat} {z : Int} {a : Int} (hd : decode (jm_c k) pc = .ok (.sipush a, len)) (hie : js_i1 k pc (.sipush a) len r z) {cs : List jv_C} {nx : jv_N} (hs : jv_sx (pc, .sipush a, len, r, z) ls st L g = some (cs, nx)) (hok : jv_ok cs = true) (hk : js_K p l e R s m args below meth c H locs cells slots Q s0 b n xs D k pc LS ST L g nx) : W p l e R s m args below meth c H locs cells slots Q (F0 m pc LS ST) := by
  obtain ⟨rfl, hz⟩ := hie
  cases hs
  exact js_o_sipush X hM hl hF hS hd hz hk.1
theorem js_s_lconst (hC : js_Cl) (X : js_X p s m args meth c D k) (hM : jr_M s0 b n xs D s L g H) (hl : js_L s0 b L (jv_ml k) LS ls) (hS : js_S s0 b L ST st) (hF : js_F s0 s H locs) (hfr : jm_ht k ≤ R.frames) (hlo : jm_rl k ≤ R.locals) {len : Nat} {r : List Nat} {z : Int} {a : Fin 2} (hd : decode (jm_c k) pc = .ok (.lconst a, len)) (hie : js_i1 k pc (.lconst a) len r z) {cs : List jv_C} {nx : jv_N} (hs : jv_sx (pc, .lconst a, len, r, z) ls st L g = some (cs, nx)) (hok : jv_ok cs = true) (hk : js_K p l e R s m args below meth c H locs cells slots Q s0 b n xs D k pc LS ST L g nx) : W p l e R s m args below meth c H locs cells slots Q (F0 m pc LS ST) := by
  obtain ⟨rfl, hz⟩ := hie
  cases hs
  exact js_o_lconst X hM hl hF hS hd hz hk.1
theorem js_s_ldcw (hC : js_Cl) (X : js_X p s m args meth c D k) (hM : jr_M s0 b n xs D s L g H) (hl : js_L s0 b L (jv_ml k) LS ls) (hS : js_S s0 b L ST st) (hF : js_F s0 s H locs) (hfr : jm_ht k ≤ R.frames) (hlo : jm_rl k ≤ R.locals) {len : Nat} {r : List Nat} {z : Int} {a : Nat} (hd : decode (jm_c k) pc = .ok (.ldc_w a, len)) (hie : js_i1 k pc (.ldc_w a) len r z) {cs : List jv_C} {nx : jv_N} (hs : jv_sx (pc, .ldc_w a, len, r, z) ls st L g = some (cs, nx)) (hok : jv_ok cs = true) (hk : js_K p l e R s m args below meth c H locs cells slots Q s0 b n xs D k pc LS ST L g nx) : W p l e R s m args below meth c H locs cells slots Q (F0 m pc LS ST) := by
  obtain ⟨rfl, hz⟩ := hie
  cases hs
  exact js_o_ldcw X hM hl hF hS hd hz hk.1
theorem js_s_ldc2 (hC : js_Cl) (X : js_X p s m args meth c D k) (hM : jr_M s0 b n xs D s L g H) (hl : js_L s0 b L (jv_ml k) LS ls) (hS : js_S s0 b L ST st) (hF : js_F s0 s H locs) (hfr : jm_ht k ≤ R.frames) (hlo : jm_rl k ≤ R.locals) {len : Nat} {r : List Nat} {z : Int} {a : Nat} (hd : decode (jm_c k) pc = .ok (.ldc2_w a, len)) (hie : js_i1 k pc (.ldc2_w a) len r z) {cs : List jv_C} {nx : jv_N} (hs : jv_sx (pc, .ldc2_w a, len, r, z) ls st L g = some (cs, nx)) (hok : jv_ok cs = true) (hk : js_K p l e R s m args below meth c H locs cells slots Q s0 b n xs D k pc LS ST L g nx) : W p l e R s m args below meth c H locs cells slots Q (F0 m pc LS ST) := by
  obtain ⟨rfl, hz⟩ := hie
  cases hs
  exact js_o_ldc2 X hM hl hF hS hd hz hk.1
theorem js_s_null (hC : js_Cl) (X : js_X p s m args meth c D k) (hM : jr_M s0 b n xs D s L g H) (hl : js_L s0 b L (jv_ml k) LS ls) (hS : js_S s0 b L ST st) (hF : js_F s0 s H locs) (hfr : jm_ht k ≤ R.frames) (hlo : jm_rl k ≤ R.locals) {len : Nat} {r : List Nat} {z : Int} (hd : decode (jm_c k) pc = .ok (.aconst_null, len)) (hie : js_i1 k pc (.aconst_null) len r z) {cs : List jv_C} {nx : jv_N} (hs : jv_sx (pc, .aconst_null, len, r, z) ls st L g = some (cs, nx)) (hok : jv_ok cs = true) (hk : js_K p l e R s m args below meth c H locs cells slots Q s0 b n xs D k pc LS ST L g nx) : W p l e R s m args below meth c H locs cells slots Q (F0 m pc LS ST) := by
  have h1 : len = 1 := hie
  subst h1
  cases hs
  exact js_o_null X hM hl hF hS hd hk.1
theorem js_s_iload_n (hC : js_Cl) (X : js_X p s m args meth c D k) (hM : jr_M s0 b n xs D s L g H) (hl : js_L s0 b L (jv_ml k) LS ls) (hS : js_S s0 b L ST st) (hF : js_F s0 s H locs) (hfr : jm_ht k ≤ R.frames) (hlo : jm_rl k ≤ R.locals) {len : Nat} {r : List Nat} {z : Int} {a : Fin 4} (hd : decode (jm_c k) pc = .ok (.iload_n a, len)) (hie : js_i1 k pc (.iload_n a) len r z) {cs : List jv_C} {nx : jv_N} (hs : jv_sx (pc, .iload_n a, len, r, z) ls st L g = some (cs, nx)) (hok : jv_ok cs = true) (hk : js_K p l e R s m args below meth c H locs cells slots Q s0 b n xs D k pc LS ST L g nx) : W p l e R s m args below meth c H locs cells slots Q (F0 m pc LS ST) := by
  have h1 : len = 1 := hie
  subst h1
  have hs : jv_ld none jv_goR a.val (pc + 1) 0 ls st L g = some (cs, nx) := hs
  unfold jv_ld at hs
  cases hi : ls[a.val]? with
  | none => rw [hi] at hs; cases hs
  | some x =>
    rw [hi] at hs
    rcases x with x | x | x | ⟨x, y⟩ | x | u
    · cases hs
      exact js_o_iload_n X hM hl hF hS hi hd hk.1
    · cases hs
    · cases hs
    · cases hs
    · cases hs
    · cases hs
theorem js_s_iload (hC : js_Cl) (X : js_X p s m args meth c D k) (hM : jr_M s0 b n xs D s L g H) (hl : js_L s0 b L (jv_ml k) LS ls) (hS : js_S s0 b L ST st) (hF : js_F s0 s H locs) (hfr : jm_ht k ≤ R.frames) (hlo : jm_rl k ≤ R.locals) {len : Nat} {r : List Nat} {z : Int} {a : Nat} (hd : decode (jm_c k) pc = .ok (.iload a, len)) (hie : js_i1 k pc (.iload a) len r z) {cs : List jv_C} {nx : jv_N} (hs : jv_sx (pc, .iload a, len, r, z) ls st L g = some (cs, nx)) (hok : jv_ok cs = true) (hk : js_K p l e R s m args below meth c H locs cells slots Q s0 b n xs D k pc LS ST L g nx) : W p l e R s m args below meth c H locs cells slots Q (F0 m pc LS ST) := by
  have h1 : len = 2 := hie
  subst h1
  have hs : jv_ld none jv_goR a (pc + 2) 0 ls st L g = some (cs, nx) := hs
  unfold jv_ld at hs
  cases hi : ls[a]? with
  | none => rw [hi] at hs; cases hs
  | some x =>
    rw [hi] at hs
    rcases x with x | x | x | ⟨x, y⟩ | x | u
    · cases hs
      exact js_o_iload X hM hl hF hS hi hd hk.1
    · cases hs
    · cases hs
    · cases hs
    · cases hs
    · cases hs
theorem js_s_lload_n (hC : js_Cl) (X : js_X p s m args meth c D k) (hM : jr_M s0 b n xs D s L g H) (hl : js_L s0 b L (jv_ml k) LS ls) (hS : js_S s0 b L ST st) (hF : js_F s0 s H locs) (hfr : jm_ht k ≤ R.frames) (hlo : jm_rl k ≤ R.locals) {len : Nat} {r : List Nat} {z : Int} {a : Fin 4} (hd : decode (jm_c k) pc = .ok (.lload_n a, len)) (hie : js_i1 k pc (.lload_n a) len r z) {cs : List jv_C} {nx : jv_N} (hs : jv_sx (pc, .lload_n a, len, r, z) ls st L g = some (cs, nx)) (hok : jv_ok cs = true) (hk : js_K p l e R s m args below meth c H locs cells slots Q s0 b n xs D k pc LS ST L g nx) : W p l e R s m args below meth c H locs cells slots Q (F0 m pc LS ST) := by
  have h1 : len = 1 := hie
  subst h1
  have hs : jv_ld none jv_goR a.val (pc + 1) 1 ls st L g = some (cs, nx) := hs
  unfold jv_ld at hs
  cases hi : ls[a.val]? with
  | none => rw [hi] at hs; cases hs
  | some x =>
    rw [hi] at hs
    rcases x with x | x | x | ⟨x, y⟩ | x | u
    · cases hs
    · have hs : (match ls[a.val + 1]? with
        | some (.inr (.inr (.inr (.inr (.inr _))))) => jv_goR (pc + 1) ls (.inr (.inl x) :: st) L g
        | _ => none) = some (cs, nx) := hs
      cases hj : ls[a.val + 1]? with
      | none => rw [hj] at hs; cases hs
      | some y =>
        rw [hj] at hs
        rcases y with y | y | y | ⟨y, w⟩ | y | u
        · cases hs
        · cases hs
        · cases hs
        · cases hs
        · cases hs
        · cases hs
          exact js_o_lload_n X hM hl hF hS hi hj hd hk.1
    · cases hs
    · cases hs
    · cases hs
    · cases hs
theorem js_s_lload (hC : js_Cl) (X : js_X p s m args meth c D k) (hM : jr_M s0 b n xs D s L g H) (hl : js_L s0 b L (jv_ml k) LS ls) (hS : js_S s0 b L ST st) (hF : js_F s0 s H locs) (hfr : jm_ht k ≤ R.frames) (hlo : jm_rl k ≤ R.locals) {len : Nat} {r : List Nat} {z : Int} {a : Nat} (hd : decode (jm_c k) pc = .ok (.lload a, len)) (hie : js_i1 k pc (.lload a) len r z) {cs : List jv_C} {nx : jv_N} (hs : jv_sx (pc, .lload a, len, r, z) ls st L g = some (cs, nx)) (hok : jv_ok cs = true) (hk : js_K p l e R s m args below meth c H locs cells slots Q s0 b n xs D k pc LS ST L g nx) : W p l e R s m args below meth c H locs cells slots Q (F0 m pc LS ST) := by
  have h1 : len = 2 := hie
  subst h1
  have hs : jv_ld none jv_goR a (pc + 2) 1 ls st L g = some (cs, nx) := hs
  unfold jv_ld at hs
  cases hi : ls[a]? with
  | none => rw [hi] at hs; cases hs
  | some x =>
    rw [hi] at hs
    rcases x with x | x | x | ⟨x, y⟩ | x | u
    · cases hs
    · have hs : (match ls[a + 1]? with
        | some (.inr (.inr (.inr (.inr (.inr _))))) => jv_goR (pc + 2) ls (.inr (.inl x) :: st) L g
        | _ => none) = some (cs, nx) := hs
      cases hj : ls[a + 1]? with
      | none => rw [hj] at hs; cases hs
      | some y =>
        rw [hj] at hs
        rcases y with y | y | y | ⟨y, w⟩ | y | u
        · cases hs
        · cases hs
        · cases hs
        · cases hs
        · cases hs
        · cases hs
          exact js_o_lload X hM hl hF hS hi hj hd hk.1
    · cases hs
    · cases hs
    · cases hs
    · cases hs
theorem js_s_aload_n (hC : js_Cl) (X : js_X p s m args meth c D k) (hM : jr_M s0 b n xs D s L g H) (hl : js_L s0 b L (jv_ml k) LS ls) (hS : js_S s0 b L ST st) (hF : js_F s0 s H locs) (hfr : jm_ht k ≤ R.frames) (hlo : jm_rl k ≤ R.locals) {len : Nat} {r : List Nat} {z : Int} {a : Fin 4} (hd : decode (jm_c k) pc = .ok (.aload_n a, len)) (hie : js_i1 k pc (.aload_n a) len r z) {cs : List jv_C} {nx : jv_N} (hs : jv_sx (pc, .aload_n a, len, r, z) ls st L g = some (cs, nx)) (hok : jv_ok cs = true) (hk : js_K p l e R s m args below meth c H locs cells slots Q s0 b n xs D k pc LS ST L g nx) : W p l e R s m args below meth c H locs cells slots Q (F0 m pc LS ST) := by
  have h1 : len = 1 := hie
  subst h1
  have hs : jv_ld none jv_goR a.val (pc + 1) 2 ls st L g = some (cs, nx) := hs
  unfold jv_ld at hs
  cases hi : ls[a.val]? with
  | none => rw [hi] at hs; cases hs
  | some x =>
    rw [hi] at hs
    rcases x with x | x | x | ⟨x, y⟩ | x | u
    · cases hs
    · cases hs
    · cases hs
      exact js_o_aload_n X hM hl hF hS hi (by simp) (by simp) (by simp) hd hk.1
    · cases hs
      exact js_o_aload_n X hM hl hF hS hi (by simp) (by simp) (by simp) hd hk.1
    · cases hs
      exact js_o_aload_n X hM hl hF hS hi (by simp) (by simp) (by simp) hd hk.1
    · cases hs
theorem js_s_aload (hC : js_Cl) (X : js_X p s m args meth c D k) (hM : jr_M s0 b n xs D s L g H) (hl : js_L s0 b L (jv_ml k) LS ls) (hS : js_S s0 b L ST st) (hF : js_F s0 s H locs) (hfr : jm_ht k ≤ R.frames) (hlo : jm_rl k ≤ R.locals) {len : Nat} {r : List Nat} {z : Int} {a : Nat} (hd : decode (jm_c k) pc = .ok (.aload a, len)) (hie : js_i1 k pc (.aload a) len r z) {cs : List jv_C} {nx : jv_N} (hs : jv_sx (pc, .aload a, len, r, z) ls st L g = some (cs, nx)) (hok : jv_ok cs = true) (hk : js_K p l e R s m args below meth c H locs cells slots Q s0 b n xs D k pc LS ST L g nx) : W p l e R s m args below meth c H locs cells slots Q (F0 m pc LS ST) := by
  have h1 : len = 2 := hie
  subst h1
  have hs : jv_ld none jv_goR a (pc + 2) 2 ls st L g = some (cs, nx) := hs
  unfold jv_ld at hs
  cases hi : ls[a]? with
  | none => rw [hi] at hs; cases hs
  | some x =>
    rw [hi] at hs
    rcases x with x | x | x | ⟨x, y⟩ | x | u
    · cases hs
    · cases hs
    · cases hs
      exact js_o_aload X hM hl hF hS hi (by simp) (by simp) (by simp) hd hk.1
    · cases hs
      exact js_o_aload X hM hl hF hS hi (by simp) (by simp) (by simp) hd hk.1
    · cases hs
      exact js_o_aload X hM hl hF hS hi (by simp) (by simp) (by simp) hd hk.1
    · cases hs
theorem js_s_istore_n (hC : js_Cl) (X : js_X p s m args meth c D k) (hM : jr_M s0 b n xs D s L g H) (hl : js_L s0 b L (jv_ml k) LS ls) (hS : js_S s0 b L ST st) (hF : js_F s0 s H locs) (hfr : jm_ht k ≤ R.frames) (hlo : jm_rl k ≤ R.locals) {len : Nat} {r : List Nat} {z : Int} {a : Fin 4} (hd : decode (jm_c k) pc = .ok (.istore_n a, len)) (hie : js_i1 k pc (.istore_n a) len r z) {cs : List jv_C} {nx : jv_N} (hs : jv_sx (pc, .istore_n a, len, r, z) ls st L g = some (cs, nx)) (hok : jv_ok cs = true) (hk : js_K p l e R s m args below meth c H locs cells slots Q s0 b n xs D k pc LS ST L g nx) : W p l e R s m args below meth c H locs cells slots Q (F0 m pc LS ST) := by
  have h1 : len = 1 := hie
  subst h1
  have hs : jv_so none jv_goR a.val (pc + 1) 0 ls st L g = some (cs, nx) := hs
  unfold jv_so at hs
  cases hb : Nat.ble (a.val + (if 0 = 1 then 2 else 1)) ls.length with
  | false => rw [hb] at hs; cases hs
  | true =>
    rw [hb] at hs
    have hb := Nat.le_of_ble_eq_true hb
    cases st with
    | nil => cases hs
    | cons x st =>
      rcases x with x | x | x | ⟨x, y⟩ | x | u
      · cases hs
        exact js_o_istore_n X hM hl hF hS (by simpa using hb) hd hk.1
      · cases hs
      · cases hs
      · cases hs
      · cases hs
      · cases hs
theorem js_s_istore (hC : js_Cl) (X : js_X p s m args meth c D k) (hM : jr_M s0 b n xs D s L g H) (hl : js_L s0 b L (jv_ml k) LS ls) (hS : js_S s0 b L ST st) (hF : js_F s0 s H locs) (hfr : jm_ht k ≤ R.frames) (hlo : jm_rl k ≤ R.locals) {len : Nat} {r : List Nat} {z : Int} {a : Nat} (hd : decode (jm_c k) pc = .ok (.istore a, len)) (hie : js_i1 k pc (.istore a) len r z) {cs : List jv_C} {nx : jv_N} (hs : jv_sx (pc, .istore a, len, r, z) ls st L g = some (cs, nx)) (hok : jv_ok cs = true) (hk : js_K p l e R s m args below meth c H locs cells slots Q s0 b n xs D k pc LS ST L g nx) : W p l e R s m args below meth c H locs cells slots Q (F0 m pc LS ST) := by
  have h1 : len = 2 := hie
  subst h1
  have hs : jv_so none jv_goR a (pc + 2) 0 ls st L g = some (cs, nx) := hs
  unfold jv_so at hs
  cases hb : Nat.ble (a + (if 0 = 1 then 2 else 1)) ls.length with
  | false => rw [hb] at hs; cases hs
  | true =>
    rw [hb] at hs
    have hb := Nat.le_of_ble_eq_true hb
    cases st with
    | nil => cases hs
    | cons x st =>
      rcases x with x | x | x | ⟨x, y⟩ | x | u
      · cases hs
        exact js_o_istore X hM hl hF hS (by simpa using hb) hd hk.1
      · cases hs
      · cases hs
      · cases hs
      · cases hs
      · cases hs
theorem js_s_lstore_n (hC : js_Cl) (X : js_X p s m args meth c D k) (hM : jr_M s0 b n xs D s L g H) (hl : js_L s0 b L (jv_ml k) LS ls) (hS : js_S s0 b L ST st) (hF : js_F s0 s H locs) (hfr : jm_ht k ≤ R.frames) (hlo : jm_rl k ≤ R.locals) {len : Nat} {r : List Nat} {z : Int} {a : Fin 4} (hd : decode (jm_c k) pc = .ok (.lstore_n a, len)) (hie : js_i1 k pc (.lstore_n a) len r z) {cs : List jv_C} {nx : jv_N} (hs : jv_sx (pc, .lstore_n a, len, r, z) ls st L g = some (cs, nx)) (hok : jv_ok cs = true) (hk : js_K p l e R s m args below meth c H locs cells slots Q s0 b n xs D k pc LS ST L g nx) : W p l e R s m args below meth c H locs cells slots Q (F0 m pc LS ST) := by
  have h1 : len = 1 := hie
  subst h1
  have hs : jv_so none jv_goR a.val (pc + 1) 1 ls st L g = some (cs, nx) := hs
  unfold jv_so at hs
  cases hb : Nat.ble (a.val + (if 1 = 1 then 2 else 1)) ls.length with
  | false => rw [hb] at hs; cases hs
  | true =>
    rw [hb] at hs
    have hb := Nat.le_of_ble_eq_true hb
    cases st with
    | nil => cases hs
    | cons x st =>
      rcases x with x | x | x | ⟨x, y⟩ | x | u
      · cases hs
      · cases hs
        exact js_o_lstore_n X hM hl hF hS (by simpa using hb) hd hk.1
      · cases hs
      · cases hs
      · cases hs
      · cases hs
theorem js_s_lstore (hC : js_Cl) (X : js_X p s m args meth c D k) (hM : jr_M s0 b n xs D s L g H) (hl : js_L s0 b L (jv_ml k) LS ls) (hS : js_S s0 b L ST st) (hF : js_F s0 s H locs) (hfr : jm_ht k ≤ R.frames) (hlo : jm_rl k ≤ R.locals) {len : Nat} {r : List Nat} {z : Int} {a : Nat} (hd : decode (jm_c k) pc = .ok (.lstore a, len)) (hie : js_i1 k pc (.lstore a) len r z) {cs : List jv_C} {nx : jv_N} (hs : jv_sx (pc, .lstore a, len, r, z) ls st L g = some (cs, nx)) (hok : jv_ok cs = true) (hk : js_K p l e R s m args below meth c H locs cells slots Q s0 b n xs D k pc LS ST L g nx) : W p l e R s m args below meth c H locs cells slots Q (F0 m pc LS ST) := by
  have h1 : len = 2 := hie
  subst h1
  have hs : jv_so none jv_goR a (pc + 2) 1 ls st L g = some (cs, nx) := hs
  unfold jv_so at hs
  cases hb : Nat.ble (a + (if 1 = 1 then 2 else 1)) ls.length with
  | false => rw [hb] at hs; cases hs
  | true =>
    rw [hb] at hs
    have hb := Nat.le_of_ble_eq_true hb
    cases st with
    | nil => cases hs
    | cons x st =>
      rcases x with x | x | x | ⟨x, y⟩ | x | u
      · cases hs
      · cases hs
        exact js_o_lstore X hM hl hF hS (by simpa using hb) hd hk.1
      · cases hs
      · cases hs
      · cases hs
      · cases hs
theorem js_s_astore_n (hC : js_Cl) (X : js_X p s m args meth c D k) (hM : jr_M s0 b n xs D s L g H) (hl : js_L s0 b L (jv_ml k) LS ls) (hS : js_S s0 b L ST st) (hF : js_F s0 s H locs) (hfr : jm_ht k ≤ R.frames) (hlo : jm_rl k ≤ R.locals) {len : Nat} {r : List Nat} {z : Int} {a : Fin 4} (hd : decode (jm_c k) pc = .ok (.astore_n a, len)) (hie : js_i1 k pc (.astore_n a) len r z) {cs : List jv_C} {nx : jv_N} (hs : jv_sx (pc, .astore_n a, len, r, z) ls st L g = some (cs, nx)) (hok : jv_ok cs = true) (hk : js_K p l e R s m args below meth c H locs cells slots Q s0 b n xs D k pc LS ST L g nx) : W p l e R s m args below meth c H locs cells slots Q (F0 m pc LS ST) := by
  have h1 : len = 1 := hie
  subst h1
  have hs : jv_so none jv_goR a.val (pc + 1) 2 ls st L g = some (cs, nx) := hs
  unfold jv_so at hs
  cases hb : Nat.ble (a.val + (if 2 = 1 then 2 else 1)) ls.length with
  | false => rw [hb] at hs; cases hs
  | true =>
    rw [hb] at hs
    have hb := Nat.le_of_ble_eq_true hb
    cases st with
    | nil => cases hs
    | cons x st =>
      rcases x with x | x | x | ⟨x, y⟩ | x | u
      · cases hs
      · cases hs
      · cases hs
        exact js_o_astore_n X hM hl hF hS (by simp) (by simp) (by simpa using hb) hd hk.1
      · cases hs
        exact js_o_astore_n X hM hl hF hS (by simp) (by simp) (by simpa using hb) hd hk.1
      · cases hs
        exact js_o_astore_n X hM hl hF hS (by simp) (by simp) (by simpa using hb) hd hk.1
      · cases hs
theorem js_s_astore (hC : js_Cl) (X : js_X p s m args meth c D k) (hM : jr_M s0 b n xs D s L g H) (hl : js_L s0 b L (jv_ml k) LS ls) (hS : js_S s0 b L ST st) (hF : js_F s0 s H locs) (hfr : jm_ht k ≤ R.frames) (hlo : jm_rl k ≤ R.locals) {len : Nat} {r : List Nat} {z : Int} {a : Nat} (hd : decode (jm_c k) pc = .ok (.astore a, len)) (hie : js_i1 k pc (.astore a) len r z) {cs : List jv_C} {nx : jv_N} (hs : jv_sx (pc, .astore a, len, r, z) ls st L g = some (cs, nx)) (hok : jv_ok cs = true) (hk : js_K p l e R s m args below meth c H locs cells slots Q s0 b n xs D k pc LS ST L g nx) : W p l e R s m args below meth c H locs cells slots Q (F0 m pc LS ST) := by
  have h1 : len = 2 := hie
  subst h1
  have hs : jv_so none jv_goR a (pc + 2) 2 ls st L g = some (cs, nx) := hs
  unfold jv_so at hs
  cases hb : Nat.ble (a + (if 2 = 1 then 2 else 1)) ls.length with
  | false => rw [hb] at hs; cases hs
  | true =>
    rw [hb] at hs
    have hb := Nat.le_of_ble_eq_true hb
    cases st with
    | nil => cases hs
    | cons x st =>
      rcases x with x | x | x | ⟨x, y⟩ | x | u
      · cases hs
      · cases hs
      · cases hs
        exact js_o_astore X hM hl hF hS (by simp) (by simp) (by simpa using hb) hd hk.1
      · cases hs
        exact js_o_astore X hM hl hF hS (by simp) (by simp) (by simpa using hb) hd hk.1
      · cases hs
        exact js_o_astore X hM hl hF hS (by simp) (by simp) (by simpa using hb) hd hk.1
      · cases hs
theorem js_s_iinc (hC : js_Cl) (X : js_X p s m args meth c D k) (hM : jr_M s0 b n xs D s L g H) (hl : js_L s0 b L (jv_ml k) LS ls) (hS : js_S s0 b L ST st) (hF : js_F s0 s H locs) (hfr : jm_ht k ≤ R.frames) (hlo : jm_rl k ≤ R.locals) {len : Nat} {r : List Nat} {z : Int} {a : Nat} {v : Int} (hd : decode (jm_c k) pc = .ok (.iinc a v, len)) (hie : js_i1 k pc (.iinc a v) len r z) {cs : List jv_C} {nx : jv_N} (hs : jv_sx (pc, .iinc a v, len, r, z) ls st L g = some (cs, nx)) (hok : jv_ok cs = true) (hk : js_K p l e R s m args below meth c H locs cells slots Q s0 b n xs D k pc LS ST L g nx) : W p l e R s m args below meth c H locs cells slots Q (F0 m pc LS ST) := by
  obtain ⟨rfl, hv⟩ := hie
  cases hi : ls[a]? with
  | none =>
    unfold jv_sx jv_st at hs
    dsimp only at hs
    rw [hi] at hs
    cases hs
  | some x =>
    unfold jv_sx jv_st at hs
    dsimp only at hs
    rw [hi] at hs
    rcases x with x | x | x | ⟨x, y⟩ | x | u
    · cases hs
      exact js_o_iinc X hM hl hF hS hi hv hd hk
    · cases hs
    · cases hs
    · cases hs
    · cases hs
    · cases hs
theorem js_s_iadd (hC : js_Cl) (X : js_X p s m args meth c D k) (hM : jr_M s0 b n xs D s L g H) (hl : js_L s0 b L (jv_ml k) LS ls) (hS : js_S s0 b L ST st) (hF : js_F s0 s H locs) (hfr : jm_ht k ≤ R.frames) (hlo : jm_rl k ≤ R.locals) {len : Nat} {r : List Nat} {z : Int} (hd : decode (jm_c k) pc = .ok (.iadd, len)) (hie : js_i1 k pc (.iadd) len r z) {cs : List jv_C} {nx : jv_N} (hs : jv_sx (pc, .iadd, len, r, z) ls st L g = some (cs, nx)) (hok : jv_ok cs = true) (hk : js_K p l e R s m args below meth c H locs cells slots Q s0 b n xs D k pc LS ST L g nx) : W p l e R s m args below meth c H locs cells slots Q (F0 m pc LS ST) := by
  have h1 : len = 1 := hie
  subst h1
  cases st with
  | nil => cases hs
  | cons a0 st =>
    rcases a0 with x0 | x0 | x0 | ⟨x0, w0⟩ | x0 | u0
    ·
      cases st with
      | nil => cases hs
      | cons a1 st =>
        rcases a1 with x1 | x1 | x1 | ⟨x1, w1⟩ | x1 | u1
        · cases hs
          exact js_o_iadd X hM hl hF hS hd hk
        · cases hs
        · cases hs
        · cases hs
        · cases hs
        · cases hs
    · cases hs
    · cases hs
    · cases hs
    · cases hs
    · cases hs
theorem js_s_isub (hC : js_Cl) (X : js_X p s m args meth c D k) (hM : jr_M s0 b n xs D s L g H) (hl : js_L s0 b L (jv_ml k) LS ls) (hS : js_S s0 b L ST st) (hF : js_F s0 s H locs) (hfr : jm_ht k ≤ R.frames) (hlo : jm_rl k ≤ R.locals) {len : Nat} {r : List Nat} {z : Int} (hd : decode (jm_c k) pc = .ok (.isub, len)) (hie : js_i1 k pc (.isub) len r z) {cs : List jv_C} {nx : jv_N} (hs : jv_sx (pc, .isub, len, r, z) ls st L g = some (cs, nx)) (hok : jv_ok cs = true) (hk : js_K p l e R s m args below meth c H locs cells slots Q s0 b n xs D k pc LS ST L g nx) : W p l e R s m args below meth c H locs cells slots Q (F0 m pc LS ST) := by
  have h1 : len = 1 := hie
  subst h1
  cases st with
  | nil => cases hs
  | cons a0 st =>
    rcases a0 with x0 | x0 | x0 | ⟨x0, w0⟩ | x0 | u0
    ·
      cases st with
      | nil => cases hs
      | cons a1 st =>
        rcases a1 with x1 | x1 | x1 | ⟨x1, w1⟩ | x1 | u1
        · cases hs
          exact js_o_isub X hM hl hF hS hd hk
        · cases hs
        · cases hs
        · cases hs
        · cases hs
        · cases hs
    · cases hs
    · cases hs
    · cases hs
    · cases hs
    · cases hs
theorem js_s_imul (hC : js_Cl) (X : js_X p s m args meth c D k) (hM : jr_M s0 b n xs D s L g H) (hl : js_L s0 b L (jv_ml k) LS ls) (hS : js_S s0 b L ST st) (hF : js_F s0 s H locs) (hfr : jm_ht k ≤ R.frames) (hlo : jm_rl k ≤ R.locals) {len : Nat} {r : List Nat} {z : Int} (hd : decode (jm_c k) pc = .ok (.imul, len)) (hie : js_i1 k pc (.imul) len r z) {cs : List jv_C} {nx : jv_N} (hs : jv_sx (pc, .imul, len, r, z) ls st L g = some (cs, nx)) (hok : jv_ok cs = true) (hk : js_K p l e R s m args below meth c H locs cells slots Q s0 b n xs D k pc LS ST L g nx) : W p l e R s m args below meth c H locs cells slots Q (F0 m pc LS ST) := by
  have h1 : len = 1 := hie
  subst h1
  cases st with
  | nil => cases hs
  | cons a0 st =>
    rcases a0 with x0 | x0 | x0 | ⟨x0, w0⟩ | x0 | u0
    ·
      cases st with
      | nil => cases hs
      | cons a1 st =>
        rcases a1 with x1 | x1 | x1 | ⟨x1, w1⟩ | x1 | u1
        · cases hs
          exact js_o_imul X hM hl hF hS hd hk
        · cases hs
        · cases hs
        · cases hs
        · cases hs
        · cases hs
    · cases hs
    · cases hs
    · cases hs
    · cases hs
    · cases hs
theorem js_s_ladd (hC : js_Cl) (X : js_X p s m args meth c D k) (hM : jr_M s0 b n xs D s L g H) (hl : js_L s0 b L (jv_ml k) LS ls) (hS : js_S s0 b L ST st) (hF : js_F s0 s H locs) (hfr : jm_ht k ≤ R.frames) (hlo : jm_rl k ≤ R.locals) {len : Nat} {r : List Nat} {z : Int} (hd : decode (jm_c k) pc = .ok (.ladd, len)) (hie : js_i1 k pc (.ladd) len r z) {cs : List jv_C} {nx : jv_N} (hs : jv_sx (pc, .ladd, len, r, z) ls st L g = some (cs, nx)) (hok : jv_ok cs = true) (hk : js_K p l e R s m args below meth c H locs cells slots Q s0 b n xs D k pc LS ST L g nx) : W p l e R s m args below meth c H locs cells slots Q (F0 m pc LS ST) := by
  have h1 : len = 1 := hie
  subst h1
  cases st with
  | nil => cases hs
  | cons a0 st =>
    rcases a0 with x0 | x0 | x0 | ⟨x0, w0⟩ | x0 | u0
    · cases hs
    ·
      cases st with
      | nil => cases hs
      | cons a1 st =>
        rcases a1 with x1 | x1 | x1 | ⟨x1, w1⟩ | x1 | u1
        · cases hs
        · cases hs
          exact js_o_ladd X hM hl hF hS hd hk
        · cases hs
        · cases hs
        · cases hs
        · cases hs
    · cases hs
    · cases hs
    · cases hs
    · cases hs
theorem js_s_lmul (hC : js_Cl) (X : js_X p s m args meth c D k) (hM : jr_M s0 b n xs D s L g H) (hl : js_L s0 b L (jv_ml k) LS ls) (hS : js_S s0 b L ST st) (hF : js_F s0 s H locs) (hfr : jm_ht k ≤ R.frames) (hlo : jm_rl k ≤ R.locals) {len : Nat} {r : List Nat} {z : Int} (hd : decode (jm_c k) pc = .ok (.lmul, len)) (hie : js_i1 k pc (.lmul) len r z) {cs : List jv_C} {nx : jv_N} (hs : jv_sx (pc, .lmul, len, r, z) ls st L g = some (cs, nx)) (hok : jv_ok cs = true) (hk : js_K p l e R s m args below meth c H locs cells slots Q s0 b n xs D k pc LS ST L g nx) : W p l e R s m args below meth c H locs cells slots Q (F0 m pc LS ST) := by
  have h1 : len = 1 := hie
  subst h1
  cases st with
  | nil => cases hs
  | cons a0 st =>
    rcases a0 with x0 | x0 | x0 | ⟨x0, w0⟩ | x0 | u0
    · cases hs
    ·
      cases st with
      | nil => cases hs
      | cons a1 st =>
        rcases a1 with x1 | x1 | x1 | ⟨x1, w1⟩ | x1 | u1
        · cases hs
        · cases hs
          exact js_o_lmul X hM hl hF hS hd hk
        · cases hs
        · cases hs
        · cases hs
        · cases hs
    · cases hs
    · cases hs
    · cases hs
    · cases hs
theorem js_s_ineg (hC : js_Cl) (X : js_X p s m args meth c D k) (hM : jr_M s0 b n xs D s L g H) (hl : js_L s0 b L (jv_ml k) LS ls) (hS : js_S s0 b L ST st) (hF : js_F s0 s H locs) (hfr : jm_ht k ≤ R.frames) (hlo : jm_rl k ≤ R.locals) {len : Nat} {r : List Nat} {z : Int} (hd : decode (jm_c k) pc = .ok (.ineg, len)) (hie : js_i1 k pc (.ineg) len r z) {cs : List jv_C} {nx : jv_N} (hs : jv_sx (pc, .ineg, len, r, z) ls st L g = some (cs, nx)) (hok : jv_ok cs = true) (hk : js_K p l e R s m args below meth c H locs cells slots Q s0 b n xs D k pc LS ST L g nx) : W p l e R s m args below meth c H locs cells slots Q (F0 m pc LS ST) := by
  have h1 : len = 1 := hie
  subst h1
  cases st with
  | nil => cases hs
  | cons a0 st =>
    rcases a0 with x0 | x0 | x0 | ⟨x0, w0⟩ | x0 | u0
    · cases hs
      exact js_o_ineg X hM hl hF hS hd hk
    · cases hs
    · cases hs
    · cases hs
    · cases hs
    · cases hs
theorem js_s_lneg (hC : js_Cl) (X : js_X p s m args meth c D k) (hM : jr_M s0 b n xs D s L g H) (hl : js_L s0 b L (jv_ml k) LS ls) (hS : js_S s0 b L ST st) (hF : js_F s0 s H locs) (hfr : jm_ht k ≤ R.frames) (hlo : jm_rl k ≤ R.locals) {len : Nat} {r : List Nat} {z : Int} (hd : decode (jm_c k) pc = .ok (.lneg, len)) (hie : js_i1 k pc (.lneg) len r z) {cs : List jv_C} {nx : jv_N} (hs : jv_sx (pc, .lneg, len, r, z) ls st L g = some (cs, nx)) (hok : jv_ok cs = true) (hk : js_K p l e R s m args below meth c H locs cells slots Q s0 b n xs D k pc LS ST L g nx) : W p l e R s m args below meth c H locs cells slots Q (F0 m pc LS ST) := by
  have h1 : len = 1 := hie
  subst h1
  cases st with
  | nil => cases hs
  | cons a0 st =>
    rcases a0 with x0 | x0 | x0 | ⟨x0, w0⟩ | x0 | u0
    · cases hs
    · cases hs
      exact js_o_lneg X hM hl hF hS hd hk
    · cases hs
    · cases hs
    · cases hs
    · cases hs
theorem js_s_iand (hC : js_Cl) (X : js_X p s m args meth c D k) (hM : jr_M s0 b n xs D s L g H) (hl : js_L s0 b L (jv_ml k) LS ls) (hS : js_S s0 b L ST st) (hF : js_F s0 s H locs) (hfr : jm_ht k ≤ R.frames) (hlo : jm_rl k ≤ R.locals) {len : Nat} {r : List Nat} {z : Int} (hd : decode (jm_c k) pc = .ok (.iand, len)) (hie : js_i1 k pc (.iand) len r z) {cs : List jv_C} {nx : jv_N} (hs : jv_sx (pc, .iand, len, r, z) ls st L g = some (cs, nx)) (hok : jv_ok cs = true) (hk : js_K p l e R s m args below meth c H locs cells slots Q s0 b n xs D k pc LS ST L g nx) : W p l e R s m args below meth c H locs cells slots Q (F0 m pc LS ST) := by
  have h1 : len = 1 := hie
  subst h1
  cases st with
  | nil => cases hs
  | cons a0 st =>
    rcases a0 with x0 | x0 | x0 | ⟨x0, w0⟩ | x0 | u0
    ·
      cases st with
      | nil => cases hs
      | cons a1 st =>
        rcases a1 with x1 | x1 | x1 | ⟨x1, w1⟩ | x1 | u1
        · cases hs
          exact js_o_iand X hM hl hF hS hd hk.1
        · cases hs
        · cases hs
        · cases hs
        · cases hs
        · cases hs
    · cases hs
    · cases hs
    · cases hs
    · cases hs
    · cases hs
theorem js_s_ior (hC : js_Cl) (X : js_X p s m args meth c D k) (hM : jr_M s0 b n xs D s L g H) (hl : js_L s0 b L (jv_ml k) LS ls) (hS : js_S s0 b L ST st) (hF : js_F s0 s H locs) (hfr : jm_ht k ≤ R.frames) (hlo : jm_rl k ≤ R.locals) {len : Nat} {r : List Nat} {z : Int} (hd : decode (jm_c k) pc = .ok (.ior, len)) (hie : js_i1 k pc (.ior) len r z) {cs : List jv_C} {nx : jv_N} (hs : jv_sx (pc, .ior, len, r, z) ls st L g = some (cs, nx)) (hok : jv_ok cs = true) (hk : js_K p l e R s m args below meth c H locs cells slots Q s0 b n xs D k pc LS ST L g nx) : W p l e R s m args below meth c H locs cells slots Q (F0 m pc LS ST) := by
  have h1 : len = 1 := hie
  subst h1
  cases st with
  | nil => cases hs
  | cons a0 st =>
    rcases a0 with x0 | x0 | x0 | ⟨x0, w0⟩ | x0 | u0
    ·
      cases st with
      | nil => cases hs
      | cons a1 st =>
        rcases a1 with x1 | x1 | x1 | ⟨x1, w1⟩ | x1 | u1
        · cases hs
          exact js_o_ior X hM hl hF hS hd hk.1
        · cases hs
        · cases hs
        · cases hs
        · cases hs
        · cases hs
    · cases hs
    · cases hs
    · cases hs
    · cases hs
    · cases hs
theorem js_s_ixor (hC : js_Cl) (X : js_X p s m args meth c D k) (hM : jr_M s0 b n xs D s L g H) (hl : js_L s0 b L (jv_ml k) LS ls) (hS : js_S s0 b L ST st) (hF : js_F s0 s H locs) (hfr : jm_ht k ≤ R.frames) (hlo : jm_rl k ≤ R.locals) {len : Nat} {r : List Nat} {z : Int} (hd : decode (jm_c k) pc = .ok (.ixor, len)) (hie : js_i1 k pc (.ixor) len r z) {cs : List jv_C} {nx : jv_N} (hs : jv_sx (pc, .ixor, len, r, z) ls st L g = some (cs, nx)) (hok : jv_ok cs = true) (hk : js_K p l e R s m args below meth c H locs cells slots Q s0 b n xs D k pc LS ST L g nx) : W p l e R s m args below meth c H locs cells slots Q (F0 m pc LS ST) := by
  have h1 : len = 1 := hie
  subst h1
  cases st with
  | nil => cases hs
  | cons a0 st =>
    rcases a0 with x0 | x0 | x0 | ⟨x0, w0⟩ | x0 | u0
    ·
      cases st with
      | nil => cases hs
      | cons a1 st =>
        rcases a1 with x1 | x1 | x1 | ⟨x1, w1⟩ | x1 | u1
        · cases hs
          exact js_o_ixor X hM hl hF hS hd hk.1
        · cases hs
        · cases hs
        · cases hs
        · cases hs
        · cases hs
    · cases hs
    · cases hs
    · cases hs
    · cases hs
    · cases hs
theorem js_s_ishl (hC : js_Cl) (X : js_X p s m args meth c D k) (hM : jr_M s0 b n xs D s L g H) (hl : js_L s0 b L (jv_ml k) LS ls) (hS : js_S s0 b L ST st) (hF : js_F s0 s H locs) (hfr : jm_ht k ≤ R.frames) (hlo : jm_rl k ≤ R.locals) {len : Nat} {r : List Nat} {z : Int} (hd : decode (jm_c k) pc = .ok (.ishl, len)) (hie : js_i1 k pc (.ishl) len r z) {cs : List jv_C} {nx : jv_N} (hs : jv_sx (pc, .ishl, len, r, z) ls st L g = some (cs, nx)) (hok : jv_ok cs = true) (hk : js_K p l e R s m args below meth c H locs cells slots Q s0 b n xs D k pc LS ST L g nx) : W p l e R s m args below meth c H locs cells slots Q (F0 m pc LS ST) := by
  have h1 : len = 1 := hie
  subst h1
  cases st with
  | nil => cases hs
  | cons a0 st =>
    rcases a0 with x0 | x0 | x0 | ⟨x0, w0⟩ | x0 | u0
    ·
      cases st with
      | nil => cases hs
      | cons a1 st =>
        rcases a1 with x1 | x1 | x1 | ⟨x1, w1⟩ | x1 | u1
        · cases hs
          exact js_o_ishl X hM hl hF hS hd hk.1
        · cases hs
        · cases hs
        · cases hs
        · cases hs
        · cases hs
    · cases hs
    · cases hs
    · cases hs
    · cases hs
    · cases hs
theorem js_s_ishr (hC : js_Cl) (X : js_X p s m args meth c D k) (hM : jr_M s0 b n xs D s L g H) (hl : js_L s0 b L (jv_ml k) LS ls) (hS : js_S s0 b L ST st) (hF : js_F s0 s H locs) (hfr : jm_ht k ≤ R.frames) (hlo : jm_rl k ≤ R.locals) {len : Nat} {r : List Nat} {z : Int} (hd : decode (jm_c k) pc = .ok (.ishr, len)) (hie : js_i1 k pc (.ishr) len r z) {cs : List jv_C} {nx : jv_N} (hs : jv_sx (pc, .ishr, len, r, z) ls st L g = some (cs, nx)) (hok : jv_ok cs = true) (hk : js_K p l e R s m args below meth c H locs cells slots Q s0 b n xs D k pc LS ST L g nx) : W p l e R s m args below meth c H locs cells slots Q (F0 m pc LS ST) := by
  have h1 : len = 1 := hie
  subst h1
  cases st with
  | nil => cases hs
  | cons a0 st =>
    rcases a0 with x0 | x0 | x0 | ⟨x0, w0⟩ | x0 | u0
    ·
      cases st with
      | nil => cases hs
      | cons a1 st =>
        rcases a1 with x1 | x1 | x1 | ⟨x1, w1⟩ | x1 | u1
        · cases hs
          exact js_o_ishr X hM hl hF hS hd hk.1
        · cases hs
        · cases hs
        · cases hs
        · cases hs
        · cases hs
    · cases hs
    · cases hs
    · cases hs
    · cases hs
    · cases hs
theorem js_s_iushr (hC : js_Cl) (X : js_X p s m args meth c D k) (hM : jr_M s0 b n xs D s L g H) (hl : js_L s0 b L (jv_ml k) LS ls) (hS : js_S s0 b L ST st) (hF : js_F s0 s H locs) (hfr : jm_ht k ≤ R.frames) (hlo : jm_rl k ≤ R.locals) {len : Nat} {r : List Nat} {z : Int} (hd : decode (jm_c k) pc = .ok (.iushr, len)) (hie : js_i1 k pc (.iushr) len r z) {cs : List jv_C} {nx : jv_N} (hs : jv_sx (pc, .iushr, len, r, z) ls st L g = some (cs, nx)) (hok : jv_ok cs = true) (hk : js_K p l e R s m args below meth c H locs cells slots Q s0 b n xs D k pc LS ST L g nx) : W p l e R s m args below meth c H locs cells slots Q (F0 m pc LS ST) := by
  have h1 : len = 1 := hie
  subst h1
  cases st with
  | nil => cases hs
  | cons a0 st =>
    rcases a0 with x0 | x0 | x0 | ⟨x0, w0⟩ | x0 | u0
    ·
      cases st with
      | nil => cases hs
      | cons a1 st =>
        rcases a1 with x1 | x1 | x1 | ⟨x1, w1⟩ | x1 | u1
        · cases hs
          exact js_o_iushr X hM hl hF hS hd hk.1
        · cases hs
        · cases hs
        · cases hs
        · cases hs
        · cases hs
    · cases hs
    · cases hs
    · cases hs
    · cases hs
    · cases hs
theorem js_s_i2b (hC : js_Cl) (X : js_X p s m args meth c D k) (hM : jr_M s0 b n xs D s L g H) (hl : js_L s0 b L (jv_ml k) LS ls) (hS : js_S s0 b L ST st) (hF : js_F s0 s H locs) (hfr : jm_ht k ≤ R.frames) (hlo : jm_rl k ≤ R.locals) {len : Nat} {r : List Nat} {z : Int} (hd : decode (jm_c k) pc = .ok (.i2b, len)) (hie : js_i1 k pc (.i2b) len r z) {cs : List jv_C} {nx : jv_N} (hs : jv_sx (pc, .i2b, len, r, z) ls st L g = some (cs, nx)) (hok : jv_ok cs = true) (hk : js_K p l e R s m args below meth c H locs cells slots Q s0 b n xs D k pc LS ST L g nx) : W p l e R s m args below meth c H locs cells slots Q (F0 m pc LS ST) := by
  have h1 : len = 1 := hie
  subst h1
  cases st with
  | nil => cases hs
  | cons a0 st =>
    rcases a0 with x0 | x0 | x0 | ⟨x0, w0⟩ | x0 | u0
    · cases hs
      exact js_o_i2b X hM hl hF hS hd hk.1
    · cases hs
    · cases hs
    · cases hs
    · cases hs
    · cases hs
theorem js_s_i2s (hC : js_Cl) (X : js_X p s m args meth c D k) (hM : jr_M s0 b n xs D s L g H) (hl : js_L s0 b L (jv_ml k) LS ls) (hS : js_S s0 b L ST st) (hF : js_F s0 s H locs) (hfr : jm_ht k ≤ R.frames) (hlo : jm_rl k ≤ R.locals) {len : Nat} {r : List Nat} {z : Int} (hd : decode (jm_c k) pc = .ok (.i2s, len)) (hie : js_i1 k pc (.i2s) len r z) {cs : List jv_C} {nx : jv_N} (hs : jv_sx (pc, .i2s, len, r, z) ls st L g = some (cs, nx)) (hok : jv_ok cs = true) (hk : js_K p l e R s m args below meth c H locs cells slots Q s0 b n xs D k pc LS ST L g nx) : W p l e R s m args below meth c H locs cells slots Q (F0 m pc LS ST) := by
  have h1 : len = 1 := hie
  subst h1
  cases st with
  | nil => cases hs
  | cons a0 st =>
    rcases a0 with x0 | x0 | x0 | ⟨x0, w0⟩ | x0 | u0
    · cases hs
      exact js_o_i2s X hM hl hF hS hd hk.1
    · cases hs
    · cases hs
    · cases hs
    · cases hs
    · cases hs
theorem js_s_i2l (hC : js_Cl) (X : js_X p s m args meth c D k) (hM : jr_M s0 b n xs D s L g H) (hl : js_L s0 b L (jv_ml k) LS ls) (hS : js_S s0 b L ST st) (hF : js_F s0 s H locs) (hfr : jm_ht k ≤ R.frames) (hlo : jm_rl k ≤ R.locals) {len : Nat} {r : List Nat} {z : Int} (hd : decode (jm_c k) pc = .ok (.i2l, len)) (hie : js_i1 k pc (.i2l) len r z) {cs : List jv_C} {nx : jv_N} (hs : jv_sx (pc, .i2l, len, r, z) ls st L g = some (cs, nx)) (hok : jv_ok cs = true) (hk : js_K p l e R s m args below meth c H locs cells slots Q s0 b n xs D k pc LS ST L g nx) : W p l e R s m args below meth c H locs cells slots Q (F0 m pc LS ST) := by
  have h1 : len = 1 := hie
  subst h1
  cases st with
  | nil => cases hs
  | cons a0 st =>
    rcases a0 with x0 | x0 | x0 | ⟨x0, w0⟩ | x0 | u0
    · cases hs
      exact js_o_i2l X hM hl hF hS hd hk.1
    · cases hs
    · cases hs
    · cases hs
    · cases hs
    · cases hs
theorem js_s_lcmp (hC : js_Cl) (X : js_X p s m args meth c D k) (hM : jr_M s0 b n xs D s L g H) (hl : js_L s0 b L (jv_ml k) LS ls) (hS : js_S s0 b L ST st) (hF : js_F s0 s H locs) (hfr : jm_ht k ≤ R.frames) (hlo : jm_rl k ≤ R.locals) {len : Nat} {r : List Nat} {z : Int} (hd : decode (jm_c k) pc = .ok (.lcmp, len)) (hie : js_i1 k pc (.lcmp) len r z) {cs : List jv_C} {nx : jv_N} (hs : jv_sx (pc, .lcmp, len, r, z) ls st L g = some (cs, nx)) (hok : jv_ok cs = true) (hk : js_K p l e R s m args below meth c H locs cells slots Q s0 b n xs D k pc LS ST L g nx) : W p l e R s m args below meth c H locs cells slots Q (F0 m pc LS ST) := by
  have h1 : len = 1 := hie
  subst h1
  cases st with
  | nil => cases hs
  | cons a0 st =>
    rcases a0 with x0 | x0 | x0 | ⟨x0, w0⟩ | x0 | u0
    · cases hs
    ·
      cases st with
      | nil => cases hs
      | cons a1 st =>
        rcases a1 with x1 | x1 | x1 | ⟨x1, w1⟩ | x1 | u1
        · cases hs
        · cases hs
          exact js_o_lcmp X hM hl hF hS hd hk.1
        · cases hs
        · cases hs
        · cases hs
        · cases hs
    · cases hs
    · cases hs
    · cases hs
    · cases hs
theorem js_s_idiv (hC : js_Cl) (X : js_X p s m args meth c D k) (hM : jr_M s0 b n xs D s L g H) (hl : js_L s0 b L (jv_ml k) LS ls) (hS : js_S s0 b L ST st) (hF : js_F s0 s H locs) (hfr : jm_ht k ≤ R.frames) (hlo : jm_rl k ≤ R.locals) {len : Nat} {r : List Nat} {z : Int} (hd : decode (jm_c k) pc = .ok (.idiv, len)) (hie : js_i1 k pc (.idiv) len r z) {cs : List jv_C} {nx : jv_N} (hs : jv_sx (pc, .idiv, len, r, z) ls st L g = some (cs, nx)) (hok : jv_ok cs = true) (hk : js_K p l e R s m args below meth c H locs cells slots Q s0 b n xs D k pc LS ST L g nx) : W p l e R s m args below meth c H locs cells slots Q (F0 m pc LS ST) := by
  have h1 : len = 1 := hie
  subst h1
  cases st with
  | nil => cases hs
  | cons a0 st =>
    rcases a0 with x0 | x0 | x0 | ⟨x0, w0⟩ | x0 | u0
    ·
      cases st with
      | nil => cases hs
      | cons a1 st =>
        rcases a1 with x1 | x1 | x1 | ⟨x1, w1⟩ | x1 | u1
        · cases hs
          exact js_o_idiv X hM hl hF hS hd (jv_ok1 hok) hk.1
        · cases hs
        · cases hs
        · cases hs
        · cases hs
        · cases hs
    · cases hs
    · cases hs
    · cases hs
    · cases hs
    · cases hs
theorem js_s_irem (hC : js_Cl) (X : js_X p s m args meth c D k) (hM : jr_M s0 b n xs D s L g H) (hl : js_L s0 b L (jv_ml k) LS ls) (hS : js_S s0 b L ST st) (hF : js_F s0 s H locs) (hfr : jm_ht k ≤ R.frames) (hlo : jm_rl k ≤ R.locals) {len : Nat} {r : List Nat} {z : Int} (hd : decode (jm_c k) pc = .ok (.irem, len)) (hie : js_i1 k pc (.irem) len r z) {cs : List jv_C} {nx : jv_N} (hs : jv_sx (pc, .irem, len, r, z) ls st L g = some (cs, nx)) (hok : jv_ok cs = true) (hk : js_K p l e R s m args below meth c H locs cells slots Q s0 b n xs D k pc LS ST L g nx) : W p l e R s m args below meth c H locs cells slots Q (F0 m pc LS ST) := by
  have h1 : len = 1 := hie
  subst h1
  cases st with
  | nil => cases hs
  | cons a0 st =>
    rcases a0 with x0 | x0 | x0 | ⟨x0, w0⟩ | x0 | u0
    ·
      cases st with
      | nil => cases hs
      | cons a1 st =>
        rcases a1 with x1 | x1 | x1 | ⟨x1, w1⟩ | x1 | u1
        · cases hs
          exact js_o_irem X hM hl hF hS hd (jv_ok1 hok) hk.1
        · cases hs
        · cases hs
        · cases hs
        · cases hs
        · cases hs
    · cases hs
    · cases hs
    · cases hs
    · cases hs
    · cases hs
theorem js_s_ldiv (hC : js_Cl) (X : js_X p s m args meth c D k) (hM : jr_M s0 b n xs D s L g H) (hl : js_L s0 b L (jv_ml k) LS ls) (hS : js_S s0 b L ST st) (hF : js_F s0 s H locs) (hfr : jm_ht k ≤ R.frames) (hlo : jm_rl k ≤ R.locals) {len : Nat} {r : List Nat} {z : Int} (hd : decode (jm_c k) pc = .ok (.ldiv, len)) (hie : js_i1 k pc (.ldiv) len r z) {cs : List jv_C} {nx : jv_N} (hs : jv_sx (pc, .ldiv, len, r, z) ls st L g = some (cs, nx)) (hok : jv_ok cs = true) (hk : js_K p l e R s m args below meth c H locs cells slots Q s0 b n xs D k pc LS ST L g nx) : W p l e R s m args below meth c H locs cells slots Q (F0 m pc LS ST) := by
  have h1 : len = 1 := hie
  subst h1
  cases st with
  | nil => cases hs
  | cons a0 st =>
    rcases a0 with x0 | x0 | x0 | ⟨x0, w0⟩ | x0 | u0
    · cases hs
    ·
      cases st with
      | nil => cases hs
      | cons a1 st =>
        rcases a1 with x1 | x1 | x1 | ⟨x1, w1⟩ | x1 | u1
        · cases hs
        · cases hs
          exact js_o_ldiv X hM hl hF hS hd (jv_ok1 hok) hk.1
        · cases hs
        · cases hs
        · cases hs
        · cases hs
    · cases hs
    · cases hs
    · cases hs
    · cases hs
theorem js_s_lrem (hC : js_Cl) (X : js_X p s m args meth c D k) (hM : jr_M s0 b n xs D s L g H) (hl : js_L s0 b L (jv_ml k) LS ls) (hS : js_S s0 b L ST st) (hF : js_F s0 s H locs) (hfr : jm_ht k ≤ R.frames) (hlo : jm_rl k ≤ R.locals) {len : Nat} {r : List Nat} {z : Int} (hd : decode (jm_c k) pc = .ok (.lrem, len)) (hie : js_i1 k pc (.lrem) len r z) {cs : List jv_C} {nx : jv_N} (hs : jv_sx (pc, .lrem, len, r, z) ls st L g = some (cs, nx)) (hok : jv_ok cs = true) (hk : js_K p l e R s m args below meth c H locs cells slots Q s0 b n xs D k pc LS ST L g nx) : W p l e R s m args below meth c H locs cells slots Q (F0 m pc LS ST) := by
  have h1 : len = 1 := hie
  subst h1
  cases st with
  | nil => cases hs
  | cons a0 st =>
    rcases a0 with x0 | x0 | x0 | ⟨x0, w0⟩ | x0 | u0
    · cases hs
    ·
      cases st with
      | nil => cases hs
      | cons a1 st =>
        rcases a1 with x1 | x1 | x1 | ⟨x1, w1⟩ | x1 | u1
        · cases hs
        · cases hs
          exact js_o_lrem X hM hl hF hS hd (jv_ok1 hok) hk.1
        · cases hs
        · cases hs
        · cases hs
        · cases hs
    · cases hs
    · cases hs
    · cases hs
    · cases hs
theorem js_s_dup (hC : js_Cl) (X : js_X p s m args meth c D k) (hM : jr_M s0 b n xs D s L g H) (hl : js_L s0 b L (jv_ml k) LS ls) (hS : js_S s0 b L ST st) (hF : js_F s0 s H locs) (hfr : jm_ht k ≤ R.frames) (hlo : jm_rl k ≤ R.locals) {len : Nat} {r : List Nat} {z : Int} (hd : decode (jm_c k) pc = .ok (.dup, len)) (hie : js_i1 k pc (.dup) len r z) {cs : List jv_C} {nx : jv_N} (hs : jv_sx (pc, .dup, len, r, z) ls st L g = some (cs, nx)) (hok : jv_ok cs = true) (hk : js_K p l e R s m args below meth c H locs cells slots Q s0 b n xs D k pc LS ST L g nx) : W p l e R s m args below meth c H locs cells slots Q (F0 m pc LS ST) := by
  have h1 : len = 1 := hie
  subst h1
  cases st with
  | nil => cases hs
  | cons a st =>
    rcases a with x | x | x | ⟨x, w⟩ | x | u
    · cases hs
      exact js_o_dup X hM hl hF hS (by simp) hd hk.1
    · cases hs
    · cases hs
      exact js_o_dup X hM hl hF hS (by simp) hd hk.1
    · cases hs
      exact js_o_dup X hM hl hF hS (by simp) hd hk.1
    · cases hs
      exact js_o_dup X hM hl hF hS (by simp) hd hk.1
    · obtain ⟨v, vs, rfl, hu, -⟩ := hS.cons
      exact absurd rfl hu
theorem js_s_dup2 (hC : js_Cl) (X : js_X p s m args meth c D k) (hM : jr_M s0 b n xs D s L g H) (hl : js_L s0 b L (jv_ml k) LS ls) (hS : js_S s0 b L ST st) (hF : js_F s0 s H locs) (hfr : jm_ht k ≤ R.frames) (hlo : jm_rl k ≤ R.locals) {len : Nat} {r : List Nat} {z : Int} (hd : decode (jm_c k) pc = .ok (.dup2, len)) (hie : js_i1 k pc (.dup2) len r z) {cs : List jv_C} {nx : jv_N} (hs : jv_sx (pc, .dup2, len, r, z) ls st L g = some (cs, nx)) (hok : jv_ok cs = true) (hk : js_K p l e R s m args below meth c H locs cells slots Q s0 b n xs D k pc LS ST L g nx) : W p l e R s m args below meth c H locs cells slots Q (F0 m pc LS ST) := by
  have h1 : len = 1 := hie
  subst h1
  cases st with
  | nil => cases hs
  | cons a st =>
    rcases a with x | x | x | ⟨x, w⟩ | x | u
    · cases st with
      | nil => cases hs
      | cons a st =>
        rcases a with y | y | y | ⟨y, w⟩ | y | u
        · cases hs
          exact js_o_dup2 X hM hl hF hS (by simp) hd hk.1
        · cases hs
        · cases hs
          exact js_o_dup2 X hM hl hF hS (by simp) hd hk.1
        · cases hs
          exact js_o_dup2 X hM hl hF hS (by simp) hd hk.1
        · cases hs
          exact js_o_dup2 X hM hl hF hS (by simp) hd hk.1
        · obtain ⟨w, vs1, rfl, -, hS1⟩ := hS.cI
          obtain ⟨v, vs, rfl, hu, -⟩ := hS1.cons
          exact absurd rfl hu
    · cases hs
    · cases hs
    · cases hs
    · cases hs
    · cases hs
theorem js_s_goto (hC : js_Cl) (X : js_X p s m args meth c D k) (hM : jr_M s0 b n xs D s L g H) (hl : js_L s0 b L (jv_ml k) LS ls) (hS : js_S s0 b L ST st) (hF : js_F s0 s H locs) (hfr : jm_ht k ≤ R.frames) (hlo : jm_rl k ≤ R.locals) {len : Nat} {r : List Nat} {z : Int} {off : Int} (hd : decode (jm_c k) pc = .ok (.goto off, len)) (hie : js_i1 k pc (.goto off) len r z) {cs : List jv_C} {nx : jv_N} (hs : jv_sx (pc, .goto off, len, r, z) ls st L g = some (cs, nx)) (hok : jv_ok cs = true) (hk : js_K p l e R s m args below meth c H locs cells slots Q s0 b n xs D k pc LS ST L g nx) : W p l e R s m args below meth c H locs cells slots Q (F0 m pc LS ST) := by
  obtain ⟨rfl, ht⟩ := hie
  match r, hs with
  | [t], hs =>
    cases hs
    exact js_o_goto X hM hl hF hS (ht t rfl) hd hk.1
theorem js_s_ifCond (hC : js_Cl) (X : js_X p s m args meth c D k) (hM : jr_M s0 b n xs D s L g H) (hl : js_L s0 b L (jv_ml k) LS ls) (hS : js_S s0 b L ST st) (hF : js_F s0 s H locs) (hfr : jm_ht k ≤ R.frames) (hlo : jm_rl k ≤ R.locals) {len : Nat} {r : List Nat} {z : Int} {cd : Jvm.ClassFile.Cond} {off : Int} (hd : decode (jm_c k) pc = .ok (.ifCond cd off, len)) (hie : js_i1 k pc (.ifCond cd off) len r z) {cs : List jv_C} {nx : jv_N} (hs : jv_sx (pc, .ifCond cd off, len, r, z) ls st L g = some (cs, nx)) (hok : jv_ok cs = true) (hk : js_K p l e R s m args below meth c H locs cells slots Q s0 b n xs D k pc LS ST L g nx) : W p l e R s m args below meth c H locs cells slots Q (F0 m pc LS ST) := by
  obtain ⟨rfl, ht⟩ := hie
  match r, hs with
  | [t], hs =>
    cases st with
    | nil => cases hs
    | cons a0 st =>
      rcases a0 with x0 | x0 | x0 | ⟨x0, w0⟩ | x0 | u0
      · cases cd
        · cases hs
          exact js_o_if_eq X hM hl hF hS (ht t rfl) hd hk.1
        · cases hs
          exact js_o_if_ne X hM hl hF hS (ht t rfl) hd hk.1
        · cases hs
          exact js_o_if_lt X hM hl hF hS (ht t rfl) hd hk.1
        · cases hs
          exact js_o_if_ge X hM hl hF hS (ht t rfl) hd hk.1
        · cases hs
          exact js_o_if_gt X hM hl hF hS (ht t rfl) hd hk.1
        · cases hs
          exact js_o_if_le X hM hl hF hS (ht t rfl) hd hk.1
      · cases hs
      · cases hs
      · cases hs
      · cases hs
      · cases hs
  | [], hs =>
    unfold jv_sx jv_st at hs
    dsimp only at hs
    split at hs <;> first | (cases hs; done) | (injections; done) | (exfalso; simp_all; done)
  | _ :: _ :: _, hs =>
    unfold jv_sx jv_st at hs
    dsimp only at hs
    split at hs <;> first | (cases hs; done) | (injections; done) | (exfalso; simp_all; done)
theorem js_s_if_icmp (hC : js_Cl) (X : js_X p s m args meth c D k) (hM : jr_M s0 b n xs D s L g H) (hl : js_L s0 b L (jv_ml k) LS ls) (hS : js_S s0 b L ST st) (hF : js_F s0 s H locs) (hfr : jm_ht k ≤ R.frames) (hlo : jm_rl k ≤ R.locals) {len : Nat} {r : List Nat} {z : Int} {cd : Jvm.ClassFile.Cond} {off : Int} (hd : decode (jm_c k) pc = .ok (.if_icmp cd off, len)) (hie : js_i1 k pc (.if_icmp cd off) len r z) {cs : List jv_C} {nx : jv_N} (hs : jv_sx (pc, .if_icmp cd off, len, r, z) ls st L g = some (cs, nx)) (hok : jv_ok cs = true) (hk : js_K p l e R s m args below meth c H locs cells slots Q s0 b n xs D k pc LS ST L g nx) : W p l e R s m args below meth c H locs cells slots Q (F0 m pc LS ST) := by
  obtain ⟨rfl, ht⟩ := hie
  match r, hs with
  | [t], hs =>
    cases st with
    | nil => cases hs
    | cons a0 st =>
      rcases a0 with x0 | x0 | x0 | ⟨x0, w0⟩ | x0 | u0
      ·
        cases st with
        | nil => cases hs
        | cons a1 st =>
          rcases a1 with x1 | x1 | x1 | ⟨x1, w1⟩ | x1 | u1
          · cases cd
            · cases hs
              exact js_o_icmp_eq X hM hl hF hS (ht t rfl) hd hk.1
            · cases hs
              exact js_o_icmp_ne X hM hl hF hS (ht t rfl) hd hk.1
            · cases hs
              exact js_o_icmp_lt X hM hl hF hS (ht t rfl) hd hk.1
            · cases hs
              exact js_o_icmp_ge X hM hl hF hS (ht t rfl) hd hk.1
            · cases hs
              exact js_o_icmp_gt X hM hl hF hS (ht t rfl) hd hk.1
            · cases hs
              exact js_o_icmp_le X hM hl hF hS (ht t rfl) hd hk.1
          · cases hs
          · cases hs
          · cases hs
          · cases hs
          · cases hs
      · cases hs
      · cases hs
      · cases hs
      · cases hs
      · cases hs
  | [], hs =>
    unfold jv_sx jv_st at hs
    dsimp only at hs
    split at hs <;> first | (cases hs; done) | (injections; done) | (exfalso; simp_all; done)
  | _ :: _ :: _, hs =>
    unfold jv_sx jv_st at hs
    dsimp only at hs
    split at hs <;> first | (cases hs; done) | (injections; done) | (exfalso; simp_all; done)
theorem js_s_ifnull (hC : js_Cl) (X : js_X p s m args meth c D k) (hM : jr_M s0 b n xs D s L g H) (hl : js_L s0 b L (jv_ml k) LS ls) (hS : js_S s0 b L ST st) (hF : js_F s0 s H locs) (hfr : jm_ht k ≤ R.frames) (hlo : jm_rl k ≤ R.locals) {len : Nat} {r : List Nat} {z : Int} {off : Int} (hd : decode (jm_c k) pc = .ok (.ifnull off, len)) (hie : js_i1 k pc (.ifnull off) len r z) {cs : List jv_C} {nx : jv_N} (hs : jv_sx (pc, .ifnull off, len, r, z) ls st L g = some (cs, nx)) (hok : jv_ok cs = true) (hk : js_K p l e R s m args below meth c H locs cells slots Q s0 b n xs D k pc LS ST L g nx) : W p l e R s m args below meth c H locs cells slots Q (F0 m pc LS ST) := by
  obtain ⟨rfl, ht⟩ := hie
  match r, hs with
  | [t], hs =>
    cases st with
    | nil => cases hs
    | cons a st =>
      rcases a with x | x | x | ⟨x, w⟩ | x | u
      · cases hs
      · cases hs
      · cases hs
      · cases hs
      · cases hs
        exact js_o_ifnull X hM hl hF hS (ht t rfl) hd hk.1
      · cases hs
  | [], hs =>
    unfold jv_sx jv_st at hs
    dsimp only at hs
    split at hs <;> first | (cases hs; done) | (injections; done) | (exfalso; simp_all; done)
  | _ :: _ :: _, hs =>
    unfold jv_sx jv_st at hs
    dsimp only at hs
    split at hs <;> first | (cases hs; done) | (injections; done) | (exfalso; simp_all; done)
theorem js_s_ifnonnull (hC : js_Cl) (X : js_X p s m args meth c D k) (hM : jr_M s0 b n xs D s L g H) (hl : js_L s0 b L (jv_ml k) LS ls) (hS : js_S s0 b L ST st) (hF : js_F s0 s H locs) (hfr : jm_ht k ≤ R.frames) (hlo : jm_rl k ≤ R.locals) {len : Nat} {r : List Nat} {z : Int} {off : Int} (hd : decode (jm_c k) pc = .ok (.ifnonnull off, len)) (hie : js_i1 k pc (.ifnonnull off) len r z) {cs : List jv_C} {nx : jv_N} (hs : jv_sx (pc, .ifnonnull off, len, r, z) ls st L g = some (cs, nx)) (hok : jv_ok cs = true) (hk : js_K p l e R s m args below meth c H locs cells slots Q s0 b n xs D k pc LS ST L g nx) : W p l e R s m args below meth c H locs cells slots Q (F0 m pc LS ST) := by
  obtain ⟨rfl, ht⟩ := hie
  match r, hs with
  | [t], hs =>
    cases st with
    | nil => cases hs
    | cons a st =>
      rcases a with x | x | x | ⟨x, w⟩ | x | u
      · cases hs
      · cases hs
      · cases hs
      · cases hs
      · cases hs
        exact js_o_ifnonnull X hM hl hF hS (ht t rfl) hd hk.1
      · cases hs
  | [], hs =>
    unfold jv_sx jv_st at hs
    dsimp only at hs
    split at hs <;> first | (cases hs; done) | (injections; done) | (exfalso; simp_all; done)
  | _ :: _ :: _, hs =>
    unfold jv_sx jv_st at hs
    dsimp only at hs
    split at hs <;> first | (cases hs; done) | (injections; done) | (exfalso; simp_all; done)
theorem js_s_ireturn (hC : js_Cl) (X : js_X p s m args meth c D k) (hM : jr_M s0 b n xs D s L g H) (hl : js_L s0 b L (jv_ml k) LS ls) (hS : js_S s0 b L ST st) (hF : js_F s0 s H locs) (hfr : jm_ht k ≤ R.frames) (hlo : jm_rl k ≤ R.locals) {len : Nat} {r : List Nat} {z : Int} (hd : decode (jm_c k) pc = .ok (.ireturn, len)) (hie : js_i1 k pc (.ireturn) len r z) {cs : List jv_C} {nx : jv_N} (hs : jv_sx (pc, .ireturn, len, r, z) ls st L g = some (cs, nx)) (hok : jv_ok cs = true) (hk : js_K p l e R s m args below meth c H locs cells slots Q s0 b n xs D k pc LS ST L g nx) : W p l e R s m args below meth c H locs cells slots Q (F0 m pc LS ST) := by
  obtain ⟨rfl, h1, h2⟩ := hie
  match st, r, hs, hS with
  | [.inl x], [0], hs, hS =>
    cases hs
    obtain ⟨w, vs, rfl, hw, hS1⟩ := hS.cI
    cases vs with
    | cons => exact hS1.elim
    | nil => exact hk rfl rfl (Or.inl ⟨x, w, rfl, hw, rfl, hd, Or.inl (h1 rfl)⟩)
  | [.inl x], [1], hs, hS =>
    cases hs
    obtain ⟨w, vs, rfl, hw, hS1⟩ := hS.cI
    cases vs with
    | cons => exact hS1.elim
    | nil => exact hk rfl rfl (Or.inl ⟨x, w, rfl, hw, rfl, hd, Or.inr ⟨h2 rfl, jv_ok1 hok⟩⟩)
theorem js_s_lreturn (hC : js_Cl) (X : js_X p s m args meth c D k) (hM : jr_M s0 b n xs D s L g H) (hl : js_L s0 b L (jv_ml k) LS ls) (hS : js_S s0 b L ST st) (hF : js_F s0 s H locs) (hfr : jm_ht k ≤ R.frames) (hlo : jm_rl k ≤ R.locals) {len : Nat} {r : List Nat} {z : Int} (hd : decode (jm_c k) pc = .ok (.lreturn, len)) (hie : js_i1 k pc (.lreturn) len r z) {cs : List jv_C} {nx : jv_N} (hs : jv_sx (pc, .lreturn, len, r, z) ls st L g = some (cs, nx)) (hok : jv_ok cs = true) (hk : js_K p l e R s m args below meth c H locs cells slots Q s0 b n xs D k pc LS ST L g nx) : W p l e R s m args below meth c H locs cells slots Q (F0 m pc LS ST) := by
  obtain ⟨rfl, h1⟩ := hie
  match st, hs, hS with
  | [.inr (.inl x)], hs, hS =>
    cases hs
    obtain ⟨w, vs, rfl, hw, hS1⟩ := hS.cJ
    cases vs with
    | cons => exact hS1.elim
    | nil => exact hk rfl rfl (Or.inr (Or.inl ⟨x, w, rfl, hw, rfl, hd, h1⟩))
theorem js_s_areturn (hC : js_Cl) (X : js_X p s m args meth c D k) (hM : jr_M s0 b n xs D s L g H) (hl : js_L s0 b L (jv_ml k) LS ls) (hS : js_S s0 b L ST st) (hF : js_F s0 s H locs) (hfr : jm_ht k ≤ R.frames) (hlo : jm_rl k ≤ R.locals) {len : Nat} {r : List Nat} {z : Int} (hd : decode (jm_c k) pc = .ok (.areturn, len)) (hie : js_i1 k pc (.areturn) len r z) {cs : List jv_C} {nx : jv_N} (hs : jv_sx (pc, .areturn, len, r, z) ls st L g = some (cs, nx)) (hok : jv_ok cs = true) (hk : js_K p l e R s m args below meth c H locs cells slots Q s0 b n xs D k pc LS ST L g nx) : W p l e R s m args below meth c H locs cells slots Q (F0 m pc LS ST) := by
  obtain ⟨rfl, h1⟩ := hie
  match st, hs, hS with
  | [.inr (.inr (.inr (.inr (.inl x))))], hs, hS =>
    cases hs
    obtain ⟨v, vs, rfl, -, hv, hS1⟩ := hS.cons
    cases vs with
    | cons => exact hS1.elim
    | nil => exact hk rfl rfl (Or.inr (Or.inr (Or.inl ⟨x, v, rfl, hv, rfl, hd, h1⟩)))
theorem js_s_return (hC : js_Cl) (X : js_X p s m args meth c D k) (hM : jr_M s0 b n xs D s L g H) (hl : js_L s0 b L (jv_ml k) LS ls) (hS : js_S s0 b L ST st) (hF : js_F s0 s H locs) (hfr : jm_ht k ≤ R.frames) (hlo : jm_rl k ≤ R.locals) {len : Nat} {r : List Nat} {z : Int} (hd : decode (jm_c k) pc = .ok (.return_, len)) (hie : js_i1 k pc (.return_) len r z) {cs : List jv_C} {nx : jv_N} (hs : jv_sx (pc, .return_, len, r, z) ls st L g = some (cs, nx)) (hok : jv_ok cs = true) (hk : js_K p l e R s m args below meth c H locs cells slots Q s0 b n xs D k pc LS ST L g nx) : W p l e R s m args below meth c H locs cells slots Q (F0 m pc LS ST) := by
  obtain ⟨rfl, h1⟩ := hie
  match st, hs, hS with
  | [], hs, hS =>
    cases hs
    cases ST with
    | cons => exact hS.elim
    | nil => exact hk rfl rfl (Or.inr (Or.inr (Or.inr ⟨rfl, rfl, hd, h1⟩)))
end
end
section
/-! ===== steps: switches, fields, arrays, calls, new cells ===== -/
theorem jv_sw_spec {x : Int} {ls st : List jv_V} {L : jv_L} {g : jv_S} {d : Nat} : ∀ (ts : List Nat) (lo : Int), ∃ li, jv_sw jv_brR x (fun t => jv_goR t ls st L g) d lo ts = some ([], .inl (li, (d, ls, st, L, g))) ∧ jv_dl id li (d, ls, st, L, g) = ((if lo ≤ x ∧ x < lo + (ts.length : Int) then ts.getD (x - lo).toNat d else d), ls, st, L, g)
  | [], lo => ⟨[], rfl, by simp [jv_dl]⟩
  | t :: ts, lo => by
    obtain ⟨li, h1, h2⟩ := jv_sw_spec (x := x) (ls := ls) (st := st) (L := L) (g := g) (d := d) ts (lo + 1)
    refine ⟨(⟨x = lo, inferInstance⟩, (t, ls, st, L, g)) :: li, ?_, ?_⟩
    · unfold jv_sw
      rw [h1]
      rfl
    · unfold jv_dl
      dsimp only
      by_cases hx : x = lo
      · rw [if_pos hx, if_pos ⟨by omega, by simp; omega⟩]
        subst hx
        simp
      · rw [if_neg hx, h2]
        congr 1
        by_cases h : lo + 1 ≤ x ∧ x < lo + 1 + (ts.length : Int)
        · rw [if_pos h, if_pos ⟨by omega, by simp; omega⟩]
          obtain ⟨n, hn⟩ : ∃ n : Nat, x - lo = ((n + 1 : Nat) : Int) := ⟨(x - lo - 1).toNat, by omega⟩
          rw [hn, show x - (lo + 1) = (n : Int) by omega]
          simp
        · rw [if_neg h, if_neg]
          simp
          omega
theorem jv_lw_spec {x : Int} {ls st : List jv_V} {L : jv_L} {g : jv_S} {d pc : Nat} {df : Int} (hdf : (pc : Int) + df = (d : Int)) : ∀ (ps : List (Int × Int)) (ts : List Nat), ts.length = ps.length → (∀ (j t : Nat) (q : Int × Int), ts[j]? = some t → ps[j]? = some q → (pc : Int) + q.2 = (t : Int)) → ∃ li t, jv_lw jv_brR x (fun t => jv_goR t ls st L g) d ps ts = some ([], .inl (li, (d, ls, st, L, g))) ∧ jv_dl id li (d, ls, st, L, g) = (t, ls, st, L, g) ∧ (pc : Int) + Op.lookupswitch.offset ps df x = (t : Int)
  | [], [], _, _ => ⟨[], d, rfl, rfl, hdf⟩
  | [], t :: ts, h, _ => by simp at h
  | q :: ps, [], h, _ => by simp at h
  | (key, off) :: ps, t :: ts, h, hh => by
    obtain ⟨li, t', h1, h2, h3⟩ := jv_lw_spec (x := x) (ls := ls) (st := st) (L := L) (g := g) hdf ps ts (by simpa using h) (fun j t q a b => hh (j + 1) t q (by simpa using a) (by simpa using b))
    have h0 := hh 0 t (key, off) rfl rfl
    refine ⟨(⟨x = key, inferInstance⟩, (t, ls, st, L, g)) :: li, if x = key then t else t', ?_, ?_, ?_⟩
    · unfold jv_lw
      rw [h1]
      rfl
    · unfold jv_dl
      dsimp only
      by_cases hx : x = key
      · rw [if_pos hx, if_pos hx]; rfl
      · rw [if_neg hx, if_neg hx]; exact h2
    · rw [Op.lookupswitch.offset_cons]
      by_cases hx : x = key
      · rw [if_pos hx, if_pos hx.symm]; exact h0
      · rw [if_neg hx, if_neg (fun h => hx h.symm)]; exact h3
section
variable {p : Program} {l : Launch} {e : Env} {R : Room} {s : State} {m : MethodId} {args : Array Value} {below : List Frame} {meth : Method} {c : Code} {H : Heap} {locs : List Loc} {cells slots : Nat} {Q : State → Prop}
variable {s0 b n : Nat} {xs : Nat → Int32} {D : va_G} {k : Nat} {L : jv_L} {g g' : jv_S} {LS : Array Slot} {ST : List Value} {ls st ls' st' : List jv_V} {pc pc' : Nat}
theorem js_s_tsw (hC : js_Cl) (X : js_X p s m args meth c D k) (hM : jr_M s0 b n xs D s L g H) (hl : js_L s0 b L (jv_ml k) LS ls) (hS : js_S s0 b L ST st) (hF : js_F s0 s H locs) (hfr : jm_ht k ≤ R.frames) (hlo : jm_rl k ≤ R.locals) {len : Nat} {r : List Nat} {z : Int} {df lo hi : Int} {offs : Array Int} (hd : decode (jm_c k) pc = .ok (.tableswitch df lo hi offs, len)) (hie : js_i1 k pc (.tableswitch df lo hi offs) len r z) {cs : List jv_C} {nx : jv_N} (hs : jv_sx (pc, .tableswitch df lo hi offs, len, r, z) ls st L g = some (cs, nx)) (hok : jv_ok cs = true) (hk : js_K p l e R s m args below meth c H locs cells slots Q s0 b n xs D k pc LS ST L g nx) : W p l e R s m args below meth c H locs cells slots Q (F0 m pc LS ST) := by
  match st, r, hs, hS with
  | .inl x :: st, d :: ts, hs, hS =>
    obtain ⟨h1, h2, h3, h4⟩ := hie d ts rfl
    obtain ⟨li, e1, e2⟩ := jv_sw_spec (x := x) (ls := ls) (st := st) (L := L) (g := g) (d := d) ts lo
    have hs : jv_sw jv_brR x (fun t => jv_goR t ls st L g) d lo ts = some (cs, nx) := hs
    rw [e1] at hs
    cases hs
    have hk2 := hk.1
    rw [e2] at hk2
    obtain ⟨w, vs, rfl, hw, hS1⟩ := hS.cI
    by_cases hin : lo ≤ x ∧ x < lo + (ts.length : Int)
    · rw [if_pos hin] at hk2
      have hlt : (x - lo).toNat < ts.length := by omega
      have hlt2 : (x - lo).toNat < offs.size := by omega
      refine lv_tableIn X.1 X.2.1 hd (by rw [hw]; omega) (by rw [hw]; omega) (off := offs[(x - lo).toNat]) (tgt := ts.getD (x - lo).toNat d) (by rw [hw]; simp [hlt2]) ?_ (hk2.use hM hl hS1 hF)
      refine h4 (x - lo).toNat _ _ ?_ (by simp [hlt2])
      simp [List.getD, hlt]
    · rw [if_neg hin] at hk2
      exact lv_tableOut X.1 X.2.1 hd (by rw [hw]; omega) h1 (hk2.use hM hl hS1 hF)
  | [], _, hs, hS => cases hs
  | .inl x :: st, [], hs, hS => cases hs
  | .inr (.inl x) :: st, _, hs, hS => cases hs
  | .inr (.inr (.inl x)) :: st, _, hs, hS => cases hs
  | .inr (.inr (.inr (.inl x))) :: st, _, hs, hS => cases hs
  | .inr (.inr (.inr (.inr (.inl x)))) :: st, _, hs, hS => cases hs
  | .inr (.inr (.inr (.inr (.inr x)))) :: st, _, hs, hS => cases hs
theorem js_s_lsw (hC : js_Cl) (X : js_X p s m args meth c D k) (hM : jr_M s0 b n xs D s L g H) (hl : js_L s0 b L (jv_ml k) LS ls) (hS : js_S s0 b L ST st) (hF : js_F s0 s H locs) (hfr : jm_ht k ≤ R.frames) (hlo : jm_rl k ≤ R.locals) {len : Nat} {r : List Nat} {z : Int} {df : Int} {ps : Array (Int × Int)} (hd : decode (jm_c k) pc = .ok (.lookupswitch df ps, len)) (hie : js_i1 k pc (.lookupswitch df ps) len r z) {cs : List jv_C} {nx : jv_N} (hs : jv_sx (pc, .lookupswitch df ps, len, r, z) ls st L g = some (cs, nx)) (hok : jv_ok cs = true) (hk : js_K p l e R s m args below meth c H locs cells slots Q s0 b n xs D k pc LS ST L g nx) : W p l e R s m args below meth c H locs cells slots Q (F0 m pc LS ST) := by
  obtain ⟨hp, hie⟩ := hie
  match st, r, hs, hS with
  | .inl x :: st, d :: ts, hs, hS =>
    obtain ⟨h1, h2, h3⟩ := hie d ts rfl
    obtain ⟨li, t, e1, e2, e3⟩ := jv_lw_spec (x := x) (ls := ls) (st := st) (L := L) (g := g) h1 ps.toList ts h2 h3
    have hs : jv_lw jv_brR x (fun t => jv_goR t ls st L g) d ps.toList ts = some (cs, nx) := hs
    rw [e1] at hs
    cases hs
    have hk2 := hk.1
    rw [e2] at hk2
    obtain ⟨w, vs, rfl, hw, hS1⟩ := hS.cI
    exact lv_lookup X.1 X.2.1 hd hp (by rw [hw]) e3 (hk2.use hM hl hS1 hF)
  | [], _, hs, hS => cases hs
  | .inl x :: st, [], hs, hS => cases hs
  | .inr (.inl x) :: st, _, hs, hS => cases hs
  | .inr (.inr (.inl x)) :: st, _, hs, hS => cases hs
  | .inr (.inr (.inr (.inl x))) :: st, _, hs, hS => cases hs
  | .inr (.inr (.inr (.inr (.inl x)))) :: st, _, hs, hS => cases hs
  | .inr (.inr (.inr (.inr (.inr x)))) :: st, _, hs, hS => cases hs
theorem js_s_getfield (hC : js_Cl) (X : js_X p s m args meth c D k) (hM : jr_M s0 b n xs D s L g H) (hl : js_L s0 b L (jv_ml k) LS ls) (hS : js_S s0 b L ST st) (hF : js_F s0 s H locs) (hfr : jm_ht k ≤ R.frames) (hlo : jm_rl k ≤ R.locals) {len : Nat} {r : List Nat} {z : Int} {x : Nat} (hd : decode (jm_c k) pc = .ok (.getfield x, len)) (hie : js_i1 k pc (.getfield x) len r z) {cs : List jv_C} {nx : jv_N} (hs : jv_sx (pc, .getfield x, len, r, z) ls st L g = some (cs, nx)) (hok : jv_ok cs = true) (hk : js_K p l e R s m args below meth c H locs cells slots Q s0 b n xs D k pc LS ST L g nx) : W p l e R s m args below meth c H locs cells slots Q (F0 m pc LS ST) := by
  obtain ⟨rfl, hie⟩ := hie
  match r, hs with
  | [kd, f, ty], hs =>
    have hfl := hie kd f ty rfl
    have hs : jv_gf jv_ckR none jv_goR (pc + 3) kd f ty ls st L g = some (cs, nx) := hs
    unfold jv_gf at hs
    match st, hs, hS with
    | .inr (.inr (.inl q)) :: st, hs, hS =>
      dsimp only at hs
      cases hq : L[q]? with
      | none => rw [hq] at hs; cases hs
      | some d =>
        rw [hq] at hs
        obtain ⟨kd', nn, rs⟩ := d
        dsimp only at hs
        cases hb : Nat.beq kd kd' && !Nat.beq kd 11 with
        | false => rw [hb] at hs; cases hs
        | true =>
          rw [hb] at hs
          rw [Bool.and_eq_true, Bool.not_eq_true'] at hb
          obtain ⟨hb, hb2⟩ := hb
          have hb := Nat.eq_of_beq_eq_true hb
          have hk11 : kd ≠ 11 := Nat.ne_of_beq_eq_false hb2
          subst hb
          dsimp only at hs
          obtain ⟨v, vs, rfl, -, hv, hS1⟩ := hS.cons
          obtain ⟨-, rfl⟩ := hv
          have hk10 := hfl.1
          have hft : jv_ft (kd - 10) f = ty := by obtain ⟨-, _, _, _, -, -, -, -, h⟩ := hfl; exact h
          refine js_get X hC hM hq hfl hd (fun hf v hv => ?_)
          by_cases h2 : ty = 2
          · subst h2
            cases hr : rs[f]? with
            | none => rw [hr] at hs; cases hs
            | some q2 =>
              rw [hr] at hs
              cases q2 with
              | zero => cases hs
              | succ q2 =>
                cases hs
                rw [jr_ct_ref hk10 hft hr] at hv
                exact hk.1.use hM hl ⟨by simp, hv, hS1⟩ hF
          · have hs2 : jv_goR (pc + 3) ls (.inl (g q (Int.ofNat f)) :: st) L g = some (cs, nx) := by
              revert hs
              match ty, h2 with
              | 0, _ => exact id
              | 1, _ => exact id
              | 2, h2 => exact absurd rfl h2
              | t + 3, _ => exact id
            cases hs2
            rw [(jr_ct_obj hk10 hk11 (by rw [hft]; exact h2)).1] at hv
            exact hk.1.use hM hl ⟨by simp, hv, hS1⟩ hF
    | .inr (.inr (.inr (.inr (.inl q)))) :: st, hs, hS =>
      dsimp only at hs
      by_cases h11 : kd = 11 ∧ ty = 0
      · obtain ⟨rfl, rfl⟩ := h11
        cases hs
        obtain ⟨h0, hq⟩ := jv_ok1 hok
        obtain ⟨v, vs, rfl, -, hv, hS1⟩ := hS.cons
        have hv' : v = .ref (jr_ad s0 b (q - 1).toNat) := by
          rcases hv with ⟨h, -⟩ | ⟨-, -, h⟩
          · omega
          · exact h
        subst hv'
        refine js_get X hC hM hq hfl hd (fun hf v hv => ?_)
        rw [jr_ct_1000 hM hf] at hv
        have e8 : 8 * (Int.ofNat (q - 1).toNat + 1) + Int.ofNat f = 8 * q + Int.ofNat f := by
          have : Int.ofNat (q - 1).toNat = ((q - 1).toNat : Int) := rfl
          rw [this]
          omega
        rw [e8] at hv
        exact hk.1.use hM hl ⟨by simp, hv, hS1⟩ hF
      · exfalso
        revert hs
        split
        · exact fun _ => h11 ⟨rfl, rfl⟩
        · intro h; cases h
    | [], hs, hS => cases hs
    | .inl x :: st, hs, hS => cases hs
    | .inr (.inl x) :: st, hs, hS => cases hs
    | .inr (.inr (.inr (.inl x))) :: st, hs, hS => cases hs
    | .inr (.inr (.inr (.inr (.inr x)))) :: st, hs, hS => cases hs
  | [], hs => cases hs
  | [_], hs => cases hs
  | [_, _], hs => cases hs
  | _ :: _ :: _ :: _ :: _, hs => cases hs
theorem js_s_putfield (hC : js_Cl) (X : js_X p s m args meth c D k) (hM : jr_M s0 b n xs D s L g H) (hl : js_L s0 b L (jv_ml k) LS ls) (hS : js_S s0 b L ST st) (hF : js_F s0 s H locs) (hfr : jm_ht k ≤ R.frames) (hlo : jm_rl k ≤ R.locals) {len : Nat} {r : List Nat} {z : Int} {x : Nat} (hd : decode (jm_c k) pc = .ok (.putfield x, len)) (hie : js_i1 k pc (.putfield x) len r z) {cs : List jv_C} {nx : jv_N} (hs : jv_sx (pc, .putfield x, len, r, z) ls st L g = some (cs, nx)) (hok : jv_ok cs = true) (hk : js_K p l e R s m args below meth c H locs cells slots Q s0 b n xs D k pc LS ST L g nx) : W p l e R s m args below meth c H locs cells slots Q (F0 m pc LS ST) := by
  obtain ⟨rfl, hie⟩ := hie
  match r, hs with
  | [kd, f, ty], hs =>
    obtain ⟨hfl, hfin⟩ := hie kd f ty rfl
    have hk10 := hfl.1
    have hft : jv_ft (kd - 10) f = ty := by obtain ⟨-, _, _, _, -, -, -, -, h⟩ := hfl; exact h
    have hs : jv_pf jv_ckR none jv_goR (pc + 3) kd f ty ls st L g = some (cs, nx) := hs
    unfold jv_pf at hs
    match st, hs, hS with
    | .inl y :: .inr (.inr (.inl q)) :: st, hs, hS =>
      dsimp only at hs
      cases hq : L[q]? with
      | none => rw [hq] at hs; cases hs
      | some d =>
        rw [hq] at hs
        obtain ⟨kd', nn, rs⟩ := d
        dsimp only at hs
        cases hb : Nat.beq kd kd' && !Nat.beq kd 11 with
        | false => rw [hb] at hs; cases hs
        | true =>
          rw [hb] at hs
          rw [Bool.and_eq_true, Bool.not_eq_true'] at hb
          obtain ⟨hb, hb2⟩ := hb
          have hb := Nat.eq_of_beq_eq_true hb
          have hk11 : kd ≠ 11 := Nat.ne_of_beq_eq_false hb2
          subst hb
          obtain ⟨w, vs1, rfl, hw, hS1⟩ := hS.cI
          obtain ⟨v, vs, rfl, -, hv, hS2⟩ := hS1.cons
          obtain ⟨-, rfl⟩ := hv
          obtain ⟨q', hq', -⟩ := hM.at' hq (by show kd ≠ 5; omega)
          subst hq'
          have fin : ∀ (hty : ty ≠ 2) (hk2 : js_KG p l e R s m args below meth c cells slots Q s0 b n xs D k L (pc + 3, ls, st, L, jv_up g (q' + 1) (Int.ofNat f) y)) (hv : (ty = 0 ∧ ∃ w', Value.int w = .int w') ∨ (ty = 1 ∧ (Value.int w = .int 0 ∨ Value.int w = .int 1)) ∨ (ty = 2 ∧ ∃ a, Value.int w = .ref a)), W p l e R s m args below meth c H locs cells slots Q (F0 m pc LS (Value.int w :: Value.ref (jr_ad s0 b (q' + 1)) :: vs)) := by
            intro hty hk2 hv
            refine js_put X hC hM hq hfl hfin hd hv (fun H' cell hf _ _ c1 hap e1 e2 e3 => ?_)
            obtain ⟨o1, o2, o3⟩ := jr_ct_obj (g := g) (q := q' + 1) (nn := nn) (rs := rs) hk10 hk11 (by rw [hft]; exact hty)
            have hM' := hM.put hq hf o2 (by decide) (x := y) (v := .int w) ⟨w, rfl, hw⟩ c1 hap e1 e2 e3
            rw [o3] at hM'
            exact hk2.use hM' hl hS2 (hF.add (by simp [jr_ad]) e2 e3)
          match ty, hs, fin with
          | 0, hs, fin =>
            cases hs
            exact fin (by decide) hk.1 (Or.inl ⟨rfl, w, rfl⟩)
          | 1, hs, fin =>
            cases hs
            have h01 := jv_ok1 hok
            refine fin (by decide) hk.1 (Or.inr (Or.inl ⟨rfl, ?_⟩))
            rcases h01 with h | h
            · exact Or.inl (congrArg Value.int (Int32.toInt_inj.mp (by rw [hw, h]; rfl)))
            · exact Or.inr (congrArg Value.int (Int32.toInt_inj.mp (by rw [hw, h]; rfl)))
          | 2, hs, fin => cases hs
          | t + 3, hs, fin => cases hs
    | .inl y :: .inr (.inr (.inr (.inr (.inl q)))) :: st, hs, hS =>
      by_cases h11 : kd = 11 ∧ ty = 0
      · obtain ⟨rfl, rfl⟩ := h11
        cases hs
        obtain ⟨h0, hq⟩ := jv_ok1 hok
        obtain ⟨w, vs1, rfl, hw, hS1⟩ := hS.cI
        obtain ⟨v, vs, rfl, -, hv, hS2⟩ := hS1.cons
        have hv' : v = .ref (jr_ad s0 b (q - 1).toNat) := by
          rcases hv with ⟨h, -⟩ | ⟨-, -, h⟩
          · omega
          · exact h
        subst hv'
        obtain ⟨q', hq', -⟩ := hM.at' hq (by decide)
        refine js_put X hC hM hq hfl hfin hd (Or.inl ⟨rfl, w, rfl⟩) (fun H' cell hf _ _ c1 hap e1 e2 e3 => ?_)
        rw [hq'] at hq c1 e1 e3 ⊢
        have o2 : jr_tg (11, 8, []) f = 0 := by
          rcases (show f = 0 ∨ f = 1 ∨ f = 2 ∨ f = 3 ∨ f = 4 ∨ f = 5 ∨ f = 6 ∨ f = 7 by omega) with rfl | rfl | rfl | rfl | rfl | rfl | rfl | rfl <;> rfl
        have hM' := hM.put hq hf o2 (by decide) (x := y) (v := .int w) ⟨w, rfl, hw⟩ c1 hap e1 e2 e3
        have o3 : jr_lo (q' + 1) (11, 8, []) f = (1000, 8 * q + Int.ofNat f) := by
          show ((1000 : Nat), 8 * (Int.ofNat (q' + 1) + 1) + Int.ofNat f) = _
          have : Int.ofNat (q' + 1) = ((q' + 1 : Nat) : Int) := rfl
          rw [this, ← hq']
          congr 1
          omega
        rw [o3] at hM'
        exact hk.1.use hM' hl hS2 (hF.add (by simp [jr_ad]) e2 e3)
      · exfalso
        revert hs
        dsimp only
        split
        · exact fun _ => h11 ⟨rfl, rfl⟩
        · intro h; cases h
    | .inr (.inr (.inl v0)) :: .inr (.inr (.inl q)) :: st, hs, hS =>
      dsimp only at hs
      cases hq : L[q]? with
      | none => rw [hq] at hs; cases hs
      | some d =>
        rw [hq] at hs
        obtain ⟨kd', nn, rs⟩ := d
        dsimp only at hs
        cases hb : Nat.beq kd kd' && !Nat.beq kd 11 && Nat.blt f rs.length && Nat.ble 10 kd with
        | false => rw [hb] at hs; cases hs
        | true =>
          rw [hb] at hs
          rw [Bool.and_eq_true, Bool.and_eq_true, Bool.and_eq_true, Bool.not_eq_true'] at hb
          obtain ⟨⟨⟨hb, hb2⟩, hb3⟩, -⟩ := hb
          have hb := Nat.eq_of_beq_eq_true hb
          have hk11 : kd ≠ 11 := Nat.ne_of_beq_eq_false hb2
          have hrs : f < rs.length := Nat.le_of_ble_eq_true hb3
          subst hb
          by_cases h2 : ty = 2
          · subst h2
            cases v0 with
            | zero => cases hs
            | succ v0 =>
              dsimp only at hs
              cases hb4 : Nat.blt (v0 + 1) L.length with
              | false => rw [hb4] at hs; cases hs
              | true =>
                rw [hb4] at hs
                cases hs
                have hvl : v0 + 1 < L.length := Nat.le_of_ble_eq_true hb4
                obtain ⟨vv, vs1, rfl, -, hvv, hS1⟩ := hS.cons
                obtain ⟨-, rfl⟩ := hvv
                obtain ⟨v, vs, rfl, -, hv, hS2⟩ := hS1.cons
                obtain ⟨-, rfl⟩ := hv
                obtain ⟨q', hq', -⟩ := hM.at' hq (by show kd ≠ 5; omega)
                subst hq'
                refine js_put X hC hM hq hfl hfin hd (Or.inr (Or.inr ⟨rfl, _, rfl⟩)) (fun H' cell hf _ _ c1 hap e1 e2 e3 => ?_)
                have hM' := hM.putr hq hk10 hk11 hf hrs hft hvl c1 hap e1 e2 e3
                have hle : jr_le L (L.set (q' + 1) (kd, nn, rs.set f (v0 + 1))) := jr_le.set hq (fun h => by omega)
                have hw := hk.1 H' _ LS vs hM' hle (hl.mono hle) (hS2.mono hle) (hF.add (i := jr_si D kd f) (by simp [jr_ad]) e2 e3)
                have e5 : ∀ (M : jv_L) (i : Nat) (d d' : Nat × Nat × List Nat), M[i]? = some d → d'.2.1 = d.2.1 → js_sz (M.set i d') = js_sz M := by
                  intro M
                  induction M with
                  | nil => intro i d d' h _; cases h
                  | cons x t ih =>
                    intro i d d' h hd'
                    cases i with
                    | zero => cases h; simp [js_sz, hd']
                    | succ i => simp only [List.set_cons_succ, js_sz]; rw [ih i d d' (by simpa using h) hd']
                dsimp only [id, jv_dl] at hw
                rw [e5 L (q' + 1) _ (kd, nn, rs.set f (v0 + 1)) hq rfl, List.length_set, Nat.sub_self, Nat.sub_self] at hw
                exact hw
          · exfalso
            revert hs
            match ty, h2 with
            | 0, _ => intro h; cases h
            | 1, _ => intro h; cases h
            | 2, h2 => exact absurd rfl h2
            | t + 3, _ => intro h; cases h
    | [], hs, hS => cases hs
    | [.inl _], hs, hS => cases hs
    | [.inr (.inl _)], hs, hS => cases hs
    | [.inr (.inr (.inl _))], hs, hS => cases hs
    | [.inr (.inr (.inr (.inl _)))], hs, hS => cases hs
    | [.inr (.inr (.inr (.inr (.inl _))))], hs, hS => cases hs
    | [.inr (.inr (.inr (.inr (.inr _))))], hs, hS => cases hs
    | .inl _ :: .inl _ :: _, hs, hS => cases hs
    | .inl _ :: .inr (.inl _) :: _, hs, hS => cases hs
    | .inl _ :: .inr (.inr (.inr (.inl _))) :: _, hs, hS => cases hs
    | .inl _ :: .inr (.inr (.inr (.inr (.inr _)))) :: _, hs, hS => cases hs
    | .inr (.inl _) :: _ :: _, hs, hS => cases hs
    | .inr (.inr (.inl _)) :: .inl _ :: _, hs, hS => cases hs
    | .inr (.inr (.inl _)) :: .inr (.inl _) :: _, hs, hS => cases hs
    | .inr (.inr (.inl _)) :: .inr (.inr (.inr (.inl _))) :: _, hs, hS => cases hs
    | .inr (.inr (.inl _)) :: .inr (.inr (.inr (.inr (.inl _)))) :: _, hs, hS => cases hs
    | .inr (.inr (.inl _)) :: .inr (.inr (.inr (.inr (.inr _)))) :: _, hs, hS => cases hs
    | .inr (.inr (.inr (.inl _))) :: _ :: _, hs, hS => cases hs
    | .inr (.inr (.inr (.inr (.inl _)))) :: _ :: _, hs, hS => cases hs
    | .inr (.inr (.inr (.inr (.inr _)))) :: _ :: _, hs, hS => cases hs
  | [], hs => cases hs
  | [_], hs => cases hs
  | [_, _], hs => cases hs
  | _ :: _ :: _ :: _ :: _, hs => cases hs
end
end
section
/-! ===== steps: arrays, calls, new cells ===== -/
section
variable {p : Program} {l : Launch} {e : Env} {R : Room} {s : State} {m : MethodId} {args : Array Value} {below : List Frame} {meth : Method} {c : Code} {H : Heap} {locs : List Loc} {cells slots : Nat} {Q : State → Prop}
variable {s0 b n : Nat} {xs : Nat → Int32} {D : va_G} {k : Nat} {L : jv_L} {g g' : jv_S} {LS : Array Slot} {ST : List Value} {ls st ls' st' : List jv_V} {pc pc' : Nat}
/-- where an element stands -/
theorem jv_ix_inv {x : jv_V} {i : Int} {f : Nat → Nat → Int → jv_X} {cs : List jv_C} {nx : jv_N} (hs : jv_ix jv_ckR none x i L f = some (cs, nx)) (hok : jv_ok cs = true) (hx : ∀ q j, x = jv_R q j → 0 ≤ j ∧ ∀ nn m, L[q]? = some (2, nn, [m]) → j < Int.ofNat nn) :
    ∃ (kd N q pp : Nat) (off : Int → Int) (cs' : List jv_C), f kd pp (off i) = some (cs', nx) ∧ jv_ok cs' = true ∧ 0 ≤ i ∧ i < Int.ofNat N ∧ ((∃ rs, x = jv_P q ∧ L[q]? = some (kd, N, rs) ∧ pp = q ∧ off = fun i => i) ∨ js_pl L x kd N q pp off ∧ kd = 0) := by
  have sp : ∀ {cc : Prop} {dc : Decidable cc} {y : jv_X}, jv_ckR cc dc y = some (cs, nx) → cc ∧ ∃ cs', y = some (cs', nx) ∧ jv_ok cs' = true := by
    intro cc dc y h
    cases y with
    | none => cases h
    | some y =>
      obtain ⟨c1, n1⟩ := y
      cases h
      unfold jv_ok at hok
      by_cases hc : cc
      · rw [if_pos hc] at hok
        exact ⟨hc, c1, rfl, hok⟩
      · rw [if_neg hc] at hok
        cases hok
  unfold jv_ix at hs
  rcases x with x | x | q | ⟨q, j⟩ | x | u
  · cases hs
  · cases hs
  · dsimp only at hs
    cases hq : L[q]? with
    | none => rw [hq] at hs; cases hs
    | some d =>
      rw [hq] at hs
      obtain ⟨kd, N, rs⟩ := d
      obtain ⟨⟨h1, h2⟩, cs', h3, h4⟩ := sp hs
      exact ⟨kd, N, q, q, fun i => i, cs', h3, h4, h1, h2, Or.inl ⟨rs, rfl, hq, rfl, rfl⟩⟩
  · dsimp only at hs
    split at hs
    · next nn mm hq =>
      obtain ⟨⟨h1, h2⟩, cs', h3, h4⟩ := sp hs
      obtain ⟨hj0, hj⟩ := hx q j rfl
      have hj := hj nn mm hq
      have hj : j < (nn : Int) := hj
      have ej : j = Int.ofNat j.toNat := by show j = ((j.toNat : Nat) : Int); omega
      refine ⟨0, mm, q + 1 + j.toNat, q, fun i => j * Int.ofNat mm + i, cs', h3, h4, h1, h2, Or.inr ⟨Or.inr ⟨rfl, q, j.toNat, nn, by rw [← ej], rfl, hq, by omega, rfl, by rw [← ej]⟩, rfl⟩⟩
    · cases hs
  · cases hs
  · cases hs
theorem js_S.row {x : jv_V} {v : Value} (h : jr_V s0 b L x v) : ∀ q j, x = jv_R q j → 0 ≤ j ∧ ∀ nn m, L[q]? = some (2, nn, [m]) → j < Int.ofNat nn := by
  rintro q j rfl
  obtain ⟨nn, mm, h1, h2, h3, -⟩ := h
  refine ⟨h2, fun n' m' h => ?_⟩
  rw [h1] at h
  cases h
  exact h3
theorem js_s_iaload (hC : js_Cl) (X : js_X p s m args meth c D k) (hM : jr_M s0 b n xs D s L g H) (hl : js_L s0 b L (jv_ml k) LS ls) (hS : js_S s0 b L ST st) (hF : js_F s0 s H locs) (hfr : jm_ht k ≤ R.frames) (hlo : jm_rl k ≤ R.locals) {len : Nat} {r : List Nat} {z : Int} (hd : decode (jm_c k) pc = .ok (.iaload, len)) (hie : js_i1 k pc (.iaload) len r z) {cs : List jv_C} {nx : jv_N} (hs : jv_sx (pc, .iaload, len, r, z) ls st L g = some (cs, nx)) (hok : jv_ok cs = true) (hk : js_K p l e R s m args below meth c H locs cells slots Q s0 b n xs D k pc LS ST L g nx) : W p l e R s m args below meth c H locs cells slots Q (F0 m pc LS ST) := by
  have h1 : len = 1 := hie
  subst h1
  have hs : jv_ar jv_ckR none jv_goR (pc + 1) 0 ls st L g = some (cs, nx) := hs
  unfold jv_ar at hs
  match st, hs, hS with
  | (.inl i) :: x :: st, hs, hS =>
    obtain ⟨w0, vs0, hST, hw0, hS0⟩ := hS.cI
    obtain ⟨vx, vs1, hST1, -, hvx, hS1⟩ := hS0.cons
    obtain ⟨kd, N, q, pp, off, cs', e1, ok', i1, i2, hpl⟩ := jv_ix_inv hs hok (js_S.row hvx)
    rcases (show kd = 0 ∨ kd = 1 ∨ kd = 2 ∨ kd = 3 ∨ kd = 4 ∨ kd = 5 ∨ 6 ≤ kd by omega) with rfl | rfl | rfl | rfl | rfl | rfl | h6
    · cases e1
      refine js_o_ald X hM hl hF hS (N := N) (q := q) (pp := pp) (off := off) ?_ ⟨i1, i2⟩ hd hk.1
      rcases hpl with ⟨rs, rfl, h, rfl, rfl⟩ | ⟨h, -⟩
      · exact Or.inl ⟨rfl, rs, h, by decide, rfl, rfl⟩
      · exact h
    · cases e1
    · cases e1
    · cases e1
    · cases e1
    · cases e1
      rcases hpl with ⟨rs, rfl, h, rfl, rfl⟩ | ⟨-, h⟩
      · have hp0 : pp = 0 := by
          cases pp with
          | zero => rfl
          | succ q => exact absurd rfl (hM.2.2.2.2.2.2.2.1 q _ h)
        subst hp0
        have hn : n = N := by
          have := hM.1.symm.trans h
          cases this
          rfl
        subst hn
        exact js_o_sld X hM hl hF hS ⟨i1, i2⟩ hd hk.1
      · cases h
    · obtain ⟨k', rfl⟩ : ∃ k', kd = k' + 6 := ⟨kd - 6, by omega⟩
      cases e1
  | [], hs, hS => cases hs
  | (.inr (.inl _)) :: _, hs, hS => cases hs
  | (.inr (.inr (.inl _))) :: _, hs, hS => cases hs
  | (.inr (.inr (.inr (.inl _)))) :: _, hs, hS => cases hs
  | (.inr (.inr (.inr (.inr (.inl _))))) :: _, hs, hS => cases hs
  | (.inr (.inr (.inr (.inr (.inr _))))) :: _, hs, hS => cases hs
  | (.inl _) :: [], hs, hS => cases hs
theorem js_s_laload (hC : js_Cl) (X : js_X p s m args meth c D k) (hM : jr_M s0 b n xs D s L g H) (hl : js_L s0 b L (jv_ml k) LS ls) (hS : js_S s0 b L ST st) (hF : js_F s0 s H locs) (hfr : jm_ht k ≤ R.frames) (hlo : jm_rl k ≤ R.locals) {len : Nat} {r : List Nat} {z : Int} (hd : decode (jm_c k) pc = .ok (.laload, len)) (hie : js_i1 k pc (.laload) len r z) {cs : List jv_C} {nx : jv_N} (hs : jv_sx (pc, .laload, len, r, z) ls st L g = some (cs, nx)) (hok : jv_ok cs = true) (hk : js_K p l e R s m args below meth c H locs cells slots Q s0 b n xs D k pc LS ST L g nx) : W p l e R s m args below meth c H locs cells slots Q (F0 m pc LS ST) := by
  have h1 : len = 1 := hie
  subst h1
  have hs : jv_ar jv_ckR none jv_goR (pc + 1) 1 ls st L g = some (cs, nx) := hs
  unfold jv_ar at hs
  match st, hs, hS with
  | (.inl i) :: x :: st, hs, hS =>
    obtain ⟨w0, vs0, hST, hw0, hS0⟩ := hS.cI
    obtain ⟨vx, vs1, hST1, -, hvx, hS1⟩ := hS0.cons
    obtain ⟨kd, N, q, pp, off, cs', e1, ok', i1, i2, hpl⟩ := jv_ix_inv hs hok (js_S.row hvx)
    rcases (show kd = 0 ∨ kd = 1 ∨ kd = 2 ∨ kd = 3 ∨ kd = 4 ∨ kd = 5 ∨ 6 ≤ kd by omega) with rfl | rfl | rfl | rfl | rfl | rfl | h6
    · cases e1
    · cases e1
      rcases hpl with ⟨rs, rfl, h, rfl, rfl⟩ | ⟨-, h⟩
      · exact js_o_lald X hM hl hF hS h ⟨i1, i2⟩ hd hk.1
      · cases h
    · cases e1
    · cases e1
    · cases e1
    · cases e1
    · obtain ⟨k', rfl⟩ : ∃ k', kd = k' + 6 := ⟨kd - 6, by omega⟩
      cases e1
  | [], hs, hS => cases hs
  | (.inr (.inl _)) :: _, hs, hS => cases hs
  | (.inr (.inr (.inl _))) :: _, hs, hS => cases hs
  | (.inr (.inr (.inr (.inl _)))) :: _, hs, hS => cases hs
  | (.inr (.inr (.inr (.inr (.inl _))))) :: _, hs, hS => cases hs
  | (.inr (.inr (.inr (.inr (.inr _))))) :: _, hs, hS => cases hs
  | (.inl _) :: [], hs, hS => cases hs
theorem js_s_aaload (hC : js_Cl) (X : js_X p s m args meth c D k) (hM : jr_M s0 b n xs D s L g H) (hl : js_L s0 b L (jv_ml k) LS ls) (hS : js_S s0 b L ST st) (hF : js_F s0 s H locs) (hfr : jm_ht k ≤ R.frames) (hlo : jm_rl k ≤ R.locals) {len : Nat} {r : List Nat} {z : Int} (hd : decode (jm_c k) pc = .ok (.aaload, len)) (hie : js_i1 k pc (.aaload) len r z) {cs : List jv_C} {nx : jv_N} (hs : jv_sx (pc, .aaload, len, r, z) ls st L g = some (cs, nx)) (hok : jv_ok cs = true) (hk : js_K p l e R s m args below meth c H locs cells slots Q s0 b n xs D k pc LS ST L g nx) : W p l e R s m args below meth c H locs cells slots Q (F0 m pc LS ST) := by
  have h1 : len = 1 := hie
  subst h1
  have hs : jv_ar jv_ckR none jv_goR (pc + 1) 2 ls st L g = some (cs, nx) := hs
  unfold jv_ar at hs
  match st, hs, hS with
  | (.inl i) :: x :: st, hs, hS =>
    obtain ⟨w0, vs0, hST, hw0, hS0⟩ := hS.cI
    obtain ⟨vx, vs1, hST1, -, hvx, hS1⟩ := hS0.cons
    obtain ⟨kd, N, q, pp, off, cs', e1, ok', i1, i2, hpl⟩ := jv_ix_inv hs hok (js_S.row hvx)
    rcases (show kd = 0 ∨ kd = 1 ∨ kd = 2 ∨ kd = 3 ∨ kd = 4 ∨ kd = 5 ∨ 6 ≤ kd by omega) with rfl | rfl | rfl | rfl | rfl | rfl | h6
    · cases e1
    · cases e1
    · cases e1
      rcases hpl with ⟨rs, rfl, h, rfl, rfl⟩ | ⟨-, h⟩
      · exact js_o_aald X hM hl hF hS h (Or.inl rfl) ⟨i1, i2⟩ hd hk.1
      · cases h
    · cases e1
      rcases hpl with ⟨rs, rfl, h, rfl, rfl⟩ | ⟨-, h⟩
      · exact js_o_aald X hM hl hF hS h (Or.inr rfl) ⟨i1, i2⟩ hd hk.1
      · cases h
    · cases e1
    · cases e1
    · obtain ⟨k', rfl⟩ : ∃ k', kd = k' + 6 := ⟨kd - 6, by omega⟩
      cases e1
  | [], hs, hS => cases hs
  | (.inr (.inl _)) :: _, hs, hS => cases hs
  | (.inr (.inr (.inl _))) :: _, hs, hS => cases hs
  | (.inr (.inr (.inr (.inl _)))) :: _, hs, hS => cases hs
  | (.inr (.inr (.inr (.inr (.inl _))))) :: _, hs, hS => cases hs
  | (.inr (.inr (.inr (.inr (.inr _))))) :: _, hs, hS => cases hs
  | (.inl _) :: [], hs, hS => cases hs
theorem js_s_iastore (hC : js_Cl) (X : js_X p s m args meth c D k) (hM : jr_M s0 b n xs D s L g H) (hl : js_L s0 b L (jv_ml k) LS ls) (hS : js_S s0 b L ST st) (hF : js_F s0 s H locs) (hfr : jm_ht k ≤ R.frames) (hlo : jm_rl k ≤ R.locals) {len : Nat} {r : List Nat} {z : Int} (hd : decode (jm_c k) pc = .ok (.iastore, len)) (hie : js_i1 k pc (.iastore) len r z) {cs : List jv_C} {nx : jv_N} (hs : jv_sx (pc, .iastore, len, r, z) ls st L g = some (cs, nx)) (hok : jv_ok cs = true) (hk : js_K p l e R s m args below meth c H locs cells slots Q s0 b n xs D k pc LS ST L g nx) : W p l e R s m args below meth c H locs cells slots Q (F0 m pc LS ST) := by
  have h1 : len = 1 := hie
  subst h1
  have hs : jv_ar jv_ckR none jv_goR (pc + 1) 3 ls st L g = some (cs, nx) := hs
  unfold jv_ar at hs
  match st, hs, hS with
  | (.inl v) :: (.inl i) :: x :: st, hs, hS =>
    obtain ⟨vv, vsv, hSTv, -, hvv, hSv⟩ := hS.cons
    obtain ⟨w0, vs0, hST, hw0, hS0⟩ := hSv.cI
    obtain ⟨vx, vs1, hST1, -, hvx, hS1⟩ := hS0.cons
    obtain ⟨kd, N, q, pp, off, cs', e1, ok', i1, i2, hpl⟩ := jv_ix_inv hs hok (js_S.row hvx)
    rcases (show kd = 0 ∨ kd = 1 ∨ kd = 2 ∨ kd = 3 ∨ kd = 4 ∨ kd = 5 ∨ 6 ≤ kd by omega) with rfl | rfl | rfl | rfl | rfl | rfl | h6
    · cases e1
      refine js_o_ast X hM hl hF hS (N := N) (q := q) (pp := pp) (off := off) ?_ ⟨i1, i2⟩ hd hk.1
      rcases hpl with ⟨rs, rfl, h, rfl, rfl⟩ | ⟨h, -⟩
      · exact Or.inl ⟨rfl, rs, h, by decide, rfl, rfl⟩
      · exact h
    · cases e1
    · cases e1
    · cases e1
    · cases e1
    · cases e1
    · obtain ⟨k', rfl⟩ : ∃ k', kd = k' + 6 := ⟨kd - 6, by omega⟩
      cases e1
  | [], hs, hS => cases hs
  | (.inr (.inl _)) :: _, hs, hS => cases hs
  | (.inr (.inr (.inl _))) :: _, hs, hS => cases hs
  | (.inr (.inr (.inr (.inl _)))) :: _, hs, hS => cases hs
  | (.inr (.inr (.inr (.inr (.inl _))))) :: _, hs, hS => cases hs
  | (.inr (.inr (.inr (.inr (.inr _))))) :: _, hs, hS => cases hs
  | (.inl _) :: [], hs, hS => cases hs
  | (.inl _) :: (.inr (.inl _)) :: _, hs, hS => cases hs
  | (.inl _) :: (.inr (.inr (.inl _))) :: _, hs, hS => cases hs
  | (.inl _) :: (.inr (.inr (.inr (.inl _)))) :: _, hs, hS => cases hs
  | (.inl _) :: (.inr (.inr (.inr (.inr (.inl _))))) :: _, hs, hS => cases hs
  | (.inl _) :: (.inr (.inr (.inr (.inr (.inr _))))) :: _, hs, hS => cases hs
  | (.inl _) :: (.inl _) :: [], hs, hS => cases hs
theorem js_s_lastore (hC : js_Cl) (X : js_X p s m args meth c D k) (hM : jr_M s0 b n xs D s L g H) (hl : js_L s0 b L (jv_ml k) LS ls) (hS : js_S s0 b L ST st) (hF : js_F s0 s H locs) (hfr : jm_ht k ≤ R.frames) (hlo : jm_rl k ≤ R.locals) {len : Nat} {r : List Nat} {z : Int} (hd : decode (jm_c k) pc = .ok (.lastore, len)) (hie : js_i1 k pc (.lastore) len r z) {cs : List jv_C} {nx : jv_N} (hs : jv_sx (pc, .lastore, len, r, z) ls st L g = some (cs, nx)) (hok : jv_ok cs = true) (hk : js_K p l e R s m args below meth c H locs cells slots Q s0 b n xs D k pc LS ST L g nx) : W p l e R s m args below meth c H locs cells slots Q (F0 m pc LS ST) := by
  have h1 : len = 1 := hie
  subst h1
  have hs : jv_ar jv_ckR none jv_goR (pc + 1) 4 ls st L g = some (cs, nx) := hs
  unfold jv_ar at hs
  match st, hs, hS with
  | (.inr (.inl v)) :: (.inl i) :: x :: st, hs, hS =>
    obtain ⟨vv, vsv, hSTv, -, hvv, hSv⟩ := hS.cons
    obtain ⟨w0, vs0, hST, hw0, hS0⟩ := hSv.cI
    obtain ⟨vx, vs1, hST1, -, hvx, hS1⟩ := hS0.cons
    obtain ⟨kd, N, q, pp, off, cs', e1, ok', i1, i2, hpl⟩ := jv_ix_inv hs hok (js_S.row hvx)
    rcases (show kd = 0 ∨ kd = 1 ∨ kd = 2 ∨ kd = 3 ∨ kd = 4 ∨ kd = 5 ∨ 6 ≤ kd by omega) with rfl | rfl | rfl | rfl | rfl | rfl | h6
    · cases e1
    · cases e1
      rcases hpl with ⟨rs, rfl, h, rfl, rfl⟩ | ⟨-, h⟩
      · exact js_o_last X hM hl hF hS h ⟨i1, i2⟩ hd hk.1
      · cases h
    · cases e1
    · cases e1
    · cases e1
    · cases e1
    · obtain ⟨k', rfl⟩ : ∃ k', kd = k' + 6 := ⟨kd - 6, by omega⟩
      cases e1
  | [], hs, hS => cases hs
  | (.inl _) :: _, hs, hS => cases hs
  | (.inr (.inr (.inl _))) :: _, hs, hS => cases hs
  | (.inr (.inr (.inr (.inl _)))) :: _, hs, hS => cases hs
  | (.inr (.inr (.inr (.inr (.inl _))))) :: _, hs, hS => cases hs
  | (.inr (.inr (.inr (.inr (.inr _))))) :: _, hs, hS => cases hs
  | (.inr (.inl _)) :: [], hs, hS => cases hs
  | (.inr (.inl _)) :: (.inr (.inl _)) :: _, hs, hS => cases hs
  | (.inr (.inl _)) :: (.inr (.inr (.inl _))) :: _, hs, hS => cases hs
  | (.inr (.inl _)) :: (.inr (.inr (.inr (.inl _)))) :: _, hs, hS => cases hs
  | (.inr (.inl _)) :: (.inr (.inr (.inr (.inr (.inl _))))) :: _, hs, hS => cases hs
  | (.inr (.inl _)) :: (.inr (.inr (.inr (.inr (.inr _))))) :: _, hs, hS => cases hs
  | (.inr (.inl _)) :: (.inl _) :: [], hs, hS => cases hs
theorem js_s_aastore (hC : js_Cl) (X : js_X p s m args meth c D k) (hM : jr_M s0 b n xs D s L g H) (hl : js_L s0 b L (jv_ml k) LS ls) (hS : js_S s0 b L ST st) (hF : js_F s0 s H locs) (hfr : jm_ht k ≤ R.frames) (hlo : jm_rl k ≤ R.locals) {len : Nat} {r : List Nat} {z : Int} (hd : decode (jm_c k) pc = .ok (.aastore, len)) (hie : js_i1 k pc (.aastore) len r z) {cs : List jv_C} {nx : jv_N} (hs : jv_sx (pc, .aastore, len, r, z) ls st L g = some (cs, nx)) (hok : jv_ok cs = true) (hk : js_K p l e R s m args below meth c H locs cells slots Q s0 b n xs D k pc LS ST L g nx) : W p l e R s m args below meth c H locs cells slots Q (F0 m pc LS ST) := by
  have h1 : len = 1 := hie
  subst h1
  have hs : jv_ar jv_ckR none jv_goR (pc + 1) 5 ls st L g = some (cs, nx) := hs
  unfold jv_ar at hs
  match st, hs, hS with
  | (.inr (.inr (.inr (.inr (.inl v))))) :: (.inl i) :: x :: st, hs, hS =>
    obtain ⟨vv, vsv, hSTv, -, hvv, hSv⟩ := hS.cons
    obtain ⟨w0, vs0, hST, hw0, hS0⟩ := hSv.cI
    obtain ⟨vx, vs1, hST1, -, hvx, hS1⟩ := hS0.cons
    obtain ⟨kd, N, q, pp, off, cs', e1, ok', i1, i2, hpl⟩ := jv_ix_inv hs hok (js_S.row hvx)
    rcases (show kd = 0 ∨ kd = 1 ∨ kd = 2 ∨ kd = 3 ∨ kd = 4 ∨ kd = 5 ∨ 6 ≤ kd by omega) with rfl | rfl | rfl | rfl | rfl | rfl | h6
    · cases e1
    · cases e1
    · cases e1
    · cases e1
      rcases hpl with ⟨rs, rfl, h, rfl, rfl⟩ | ⟨-, h⟩
      · exact js_o_aast X hC hM hl hF hS h ⟨i1, i2⟩ (jv_ok1 ok') hd hk.1
      · cases h
    · cases e1
    · cases e1
    · obtain ⟨k', rfl⟩ : ∃ k', kd = k' + 6 := ⟨kd - 6, by omega⟩
      cases e1
  | [], hs, hS => cases hs
  | (.inl _) :: _, hs, hS => cases hs
  | (.inr (.inl _)) :: _, hs, hS => cases hs
  | (.inr (.inr (.inl _))) :: _, hs, hS => cases hs
  | (.inr (.inr (.inr (.inl _)))) :: _, hs, hS => cases hs
  | (.inr (.inr (.inr (.inr (.inr _))))) :: _, hs, hS => cases hs
  | (.inr (.inr (.inr (.inr (.inl _))))) :: [], hs, hS => cases hs
  | (.inr (.inr (.inr (.inr (.inl _))))) :: (.inr (.inl _)) :: _, hs, hS => cases hs
  | (.inr (.inr (.inr (.inr (.inl _))))) :: (.inr (.inr (.inl _))) :: _, hs, hS => cases hs
  | (.inr (.inr (.inr (.inr (.inl _))))) :: (.inr (.inr (.inr (.inl _)))) :: _, hs, hS => cases hs
  | (.inr (.inr (.inr (.inr (.inl _))))) :: (.inr (.inr (.inr (.inr (.inl _))))) :: _, hs, hS => cases hs
  | (.inr (.inr (.inr (.inr (.inl _))))) :: (.inr (.inr (.inr (.inr (.inr _))))) :: _, hs, hS => cases hs
  | (.inr (.inr (.inr (.inr (.inl _))))) :: (.inl _) :: [], hs, hS => cases hs
theorem js_s_alen (hC : js_Cl) (X : js_X p s m args meth c D k) (hM : jr_M s0 b n xs D s L g H) (hl : js_L s0 b L (jv_ml k) LS ls) (hS : js_S s0 b L ST st) (hF : js_F s0 s H locs) (hfr : jm_ht k ≤ R.frames) (hlo : jm_rl k ≤ R.locals) {len : Nat} {r : List Nat} {z : Int} (hd : decode (jm_c k) pc = .ok (.arraylength, len)) (hie : js_i1 k pc (.arraylength) len r z) {cs : List jv_C} {nx : jv_N} (hs : jv_sx (pc, .arraylength, len, r, z) ls st L g = some (cs, nx)) (hok : jv_ok cs = true) (hk : js_K p l e R s m args below meth c H locs cells slots Q s0 b n xs D k pc LS ST L g nx) : W p l e R s m args below meth c H locs cells slots Q (F0 m pc LS ST) := by
  have h1 : len = 1 := hie
  subst h1
  match st, hs, hS with
  | [], hs, hS => cases hs
  | x :: st, hs, hS =>
    have hs : jv_sz none x L (fun n => jv_goR (pc + 1) ls (.inl (Int.ofNat n) :: st) L g) = some (cs, nx) := hs
    unfold jv_sz at hs
    obtain ⟨vx, vs1, hST1, -, hvx, hS1⟩ := hS.cons
    rcases x with x | x | q | ⟨q, j⟩ | x | u
    · cases hs
    · cases hs
    · dsimp only at hs
      cases hq : L[q]? with
      | none => rw [hq] at hs; cases hs
      | some d =>
        rw [hq] at hs
        obtain ⟨kd, N, rs⟩ := d
        dsimp only at hs
        cases hb : Nat.ble kd 5 with
        | false => rw [hb] at hs; cases hs
        | true =>
          rw [hb] at hs
          cases hs
          have hb := Nat.le_of_ble_eq_true hb
          exact js_o_alen X hM hl hF hS (kd := kd) (N := N) (q := q) (pp := q) (off := fun i => i) (Or.inl ⟨rfl, rs, hq, trivial, rfl, rfl⟩) hb hd hk.1
    · dsimp only at hs
      split at hs
      · next nn mm hq =>
        cases hs
        obtain ⟨hj0, hj⟩ := js_S.row hvx q j rfl
        have hj := hj nn mm hq
        have hj : j < (nn : Int) := hj
        have ej : j = Int.ofNat j.toNat := by show j = ((j.toNat : Nat) : Int); omega
        exact js_o_alen X hM hl hF hS (kd := 0) (N := mm) (q := q + 1 + j.toNat) (pp := q) (off := fun i => Int.ofNat j.toNat * Int.ofNat mm + i) (Or.inr ⟨rfl, q, j.toNat, nn, by rw [← ej], rfl, hq, by omega, rfl, rfl⟩) (by omega) hd hk.1
      · cases hs
    · cases hs
    · cases hs
end
end
section
/-! ===== steps: calls, new cells; all steps ===== -/
section
variable {p : Program} {l : Launch} {e : Env} {R : Room} {s : State} {m : MethodId} {args : Array Value} {below : List Frame} {meth : Method} {c : Code} {H : Heap} {locs : List Loc} {cells slots : Nat} {Q : State → Prop}
variable {s0 b n : Nat} {xs : Nat → Int32} {D : va_G} {k : Nat} {L : jv_L} {g g' : jv_S} {LS : Array Slot} {ST : List Value} {ls st ls' st' : List jv_V} {pc pc' : Nat}
theorem jv_vw_inv {x : jv_V} {v : Value} (hv : jr_V s0 b L x v) {f : Nat → Int → Nat → jv_X} {y : List jv_C × jv_N} (hs : jv_vw none x L f = some y) : ∃ (q pp N : Nat) (off : Int), f pp off N = some y ∧ js_pl L x 0 N q pp (fun i => off + i) := by
  unfold jv_vw at hs
  rcases x with x | x | q | ⟨q, j⟩ | x | u
  · cases hs
  · cases hs
  · dsimp only at hs
    split at hs
    · next N rs hq => exact ⟨q, q, N, 0, hs, Or.inl ⟨rfl, rs, hq, trivial, rfl, by funext i; omega⟩⟩
    · cases hs
  · dsimp only at hs
    split at hs
    · next nn mm hq =>
      obtain ⟨hj0, hj⟩ := js_S.row hv q j rfl
      have hj := hj nn mm hq
      have hj : j < (nn : Int) := hj
      have ej : j = Int.ofNat j.toNat := by show j = ((j.toNat : Nat) : Int); omega
      exact ⟨q + 1 + j.toNat, q, mm, j * Int.ofNat mm, hs, Or.inr ⟨rfl, q, j.toNat, nn, by rw [← ej], rfl, hq, by omega, rfl, by rw [← ej]⟩⟩
    · cases hs
  · cases hs
  · cases hs
theorem jv_ck_inv {cc : Prop} {dc : Decidable cc} {y : jv_X} {cs : List jv_C} {nx : jv_N} (h : jv_ckR cc dc y = some (cs, nx)) (hok : jv_ok cs = true) : cc ∧ ∃ cs', y = some (cs', nx) ∧ jv_ok cs' = true := by
  cases y with
  | none => cases h
  | some y =>
    obtain ⟨c1, n1⟩ := y
    cases h
    unfold jv_ok at hok
    by_cases hc : cc
    · rw [if_pos hc] at hok
      exact ⟨hc, c1, rfl, hok⟩
    · rw [if_neg hc] at hok
      cases hok
theorem js_s_cy (hC : js_Cl) (X : js_X p s m args meth c D k) (hM : jr_M s0 b n xs D s L g H) (hl : js_L s0 b L (jv_ml k) LS ls) (hS : js_S s0 b L ST st) (hF : js_F s0 s H locs) (hfr : 1 ≤ R.frames) (hlo : 60 ≤ R.locals) {x : Nat} (hx : Cond.methodLink (jm_own k) x arraycopyName ∈ jm_ws) (hd : decode (jm_c k) pc = .ok (.invokestatic x, 3)) {cs : List jv_C} {nx : jv_N} (hs : jv_cy jv_ckR none jv_goR (pc + 3) ls st L g = some (cs, nx)) (hok : jv_ok cs = true) (hk : js_K p l e R s m args below meth c H locs cells slots Q s0 b n xs D k pc LS ST L g nx) : W p l e R s m args below meth c H locs cells slots Q (F0 m pc LS ST) := by
  unfold jv_cy at hs
  split at hs
  · next cn dp y sp x st' =>
    obtain ⟨wc, vs0, e0, -, hS0⟩ := hS.cI
    obtain ⟨wd, vs1, e1, -, hS1⟩ := hS0.cI
    obtain ⟨vy, vs2, e2, -, hvy, hS2⟩ := hS1.cons
    obtain ⟨wsp, vs3, e3, -, hS3⟩ := hS2.cI
    obtain ⟨vx, vs4, e4, -, hvx, hS4⟩ := hS3.cons
    obtain ⟨q0, p0, N0, o0, hs, hp0⟩ := jv_vw_inv hvx hs
    obtain ⟨q1, p1, N1, o1, hs, hp1⟩ := jv_vw_inv hvy hs
    split at hs
    · next hb =>
      obtain ⟨hc, cs', hs, -⟩ := jv_ck_inv hs hok
      cases hs
      exact js_o_copy X hC hM hl hF hS hp0 hp1 hc hx (Nat.le_of_ble_eq_true hb) hfr hlo hd hk.1
    · cases hs
  · cases hs
theorem js_s_ob (hC : js_Cl) (X : js_X p s m args meth c D k) (hM : jr_M s0 b n xs D s L g H) (hl : js_L s0 b L (jv_ml k) LS ls) (hS : js_S s0 b L ST st) (hF : js_F s0 s H locs) (hfr : 1 ≤ R.frames) (hlo : 20 ≤ R.locals) {x : Nat} (hx : Cond.methodLink (jm_own k) x objectInit ∈ jm_ws) (hd : decode (jm_c k) pc = .ok (.invokespecial x, 3)) {cs : List jv_C} {nx : jv_N} (hs : jv_in jv_ckR none jv_goR jv_caR (pc + 3) [1001] ls st L g = some (cs, nx)) (hok : jv_ok cs = true) (hk : js_K p l e R s m args below meth c H locs cells slots Q s0 b n xs D k pc LS ST L g nx) : W p l e R s m args below meth c H locs cells slots Q (F0 m pc LS ST) := by
  simp only [jv_in] at hs
  split at hs
  · next q st' =>
    split at hs
    · next hb =>
      cases hs
      exact js_o_obj X hC hM hl hF hS (Or.inl ⟨q, rfl⟩) hx (Nat.le_of_ble_eq_true hb) hfr hlo hd hk.1
    · cases hs
  · next q st' =>
    split at hs
    · next hb =>
      obtain ⟨hc, cs', hs, -⟩ := jv_ck_inv hs hok
      cases hs
      exact js_o_obj X hC hM hl hF hS (Or.inr ⟨q, rfl, hc.1⟩) hx (Nat.le_of_ble_eq_true hb) hfr hlo hd hk.1
    · cases hs
  · cases hs
theorem js_s_math (hC : js_Cl) (X : js_X p s m args meth c D k) (hM : jr_M s0 b n xs D s L g H) (hl : js_L s0 b L (jv_ml k) LS ls) (hS : js_S s0 b L ST st) (hF : js_F s0 s H locs) (hfr : jm_ht k ≤ R.frames) (hlo : jm_rl k ≤ R.locals) {x i : Nat} {y : MethodName} (hx : Cond.methodLink (jm_own k) x y ∈ jm_ws ∧ 1 ≤ jm_ht k ∧ 30 ≤ jm_rl k) (hi : (i = 1002 ∧ y = Lib.Math.max.name) ∨ (i = 1003 ∧ y = Lib.MathLoose.abs_long.x) ∨ (i = 1004 ∧ y = Lib.MathLoose.max_long.x)) (hd : decode (jm_c k) pc = .ok (.invokestatic x, 3)) {cs : List jv_C} {nx : jv_N} (hs : jv_in jv_ckR none jv_goR jv_caR (pc + 3) [i] ls st L g = some (cs, nx)) (hok : jv_ok cs = true) (hk : js_K p l e R s m args below meth c H locs cells slots Q s0 b n xs D k pc LS ST L g nx) : W p l e R s m args below meth c H locs cells slots Q (F0 m pc LS ST) := by
  obtain ⟨hx, h1, h30⟩ := hx
  have hts := X.2.2.2.2.2.1
  obtain ⟨w0, w1, w2, w3, w4, w5, w6⟩ := hC.2.2.2.2.2.2.2.1
  have hml : c.maxLocals = LS.size := by rw [X.2.2.2.1]; exact hl.1.symm
  have hroom : ∀ {q : jv_Go}, q.2.2.2.1 = L → (cells + (q.2.2.2.1.length - L.length) ≤ R.cells ∧ slots + (js_sz q.2.2.2.1 - js_sz L) ≤ R.slots) → cells ≤ R.cells ∧ slots ≤ R.slots := by
    intro q hq h
    rw [hq] at h
    simpa using h
  rcases hi with ⟨rfl, rfl⟩ | ⟨rfl, rfl⟩ | ⟨rfl, rfl⟩
  · simp only [jv_in] at hs
    split at hs
    · next y x st' =>
      split at hs
      · next hb =>
        cases hs
        obtain ⟨wy, vs1, rfl, rfl, hS1⟩ := hS.cI
        obtain ⟨wx, vs, rfl, rfl, hS2⟩ := hS1.cI
        have hr := hroom (q := jv_dl id [] _) rfl hk.2
        refine va_mmax X.1 X.2.1 hml X.2.2.2.2.1 (hts _ hx) (hts _ w1) (hts _ w0) (hts _ w2) (by omega) (by rw [hS2.cat]; have := Nat.le_of_ble_eq_true hb; omega) hr.1 hr.2 hd (hk.1.use hM hl (hS2.pI ?_) hF)
        simp only [Int32.lt_iff_toInt_lt]
        split <;> rfl
      · cases hs
    · cases hs
  · simp only [jv_in] at hs
    split at hs
    · next x st' =>
      split at hs
      · next hb =>
        obtain ⟨hc, cs', hs, -⟩ := jv_ck_inv hs hok
        cases hs
        obtain ⟨wx, vs, rfl, rfl, hS2⟩ := hS.cJ
        have hr := hroom (q := jv_dl id [] _) rfl hk.2
        refine va_mabs_long X.1 X.2.1 hml X.2.2.2.2.1 (hts _ hx) (hts _ w3) (hts _ w0) (hts _ w4) (by omega) (by rw [hS2.cat]; have := Nat.le_of_ble_eq_true hb; omega) hr.1 hr.2 hd (hk.1.use hM hl (hS2.pJ ?_) hF)
        have h0 : (0 : Int64).toInt = 0 := rfl
        simp only [Int64.lt_iff_toInt_lt, h0]
        split
        · rfl
        · rw [Int64.toInt_neg]
          have := Int64.toInt_lt wx
          have := Int64.le_toInt wx
          rw [Int.bmod_eq_of_le] <;> omega
      · cases hs
    · cases hs
  · simp only [jv_in] at hs
    split at hs
    · next y x st' =>
      split at hs
      · next hb =>
        cases hs
        obtain ⟨wy, vs1, rfl, rfl, hS1⟩ := hS.cJ
        obtain ⟨wx, vs, rfl, rfl, hS2⟩ := hS1.cJ
        have hr := hroom (q := jv_dl id [] _) rfl hk.2
        refine va_mmax_long X.1 X.2.1 hml X.2.2.2.2.1 (hts _ hx) (hts _ w5) (hts _ w0) (hts _ w6) (by omega) (by rw [hS2.cat]; have := Nat.le_of_ble_eq_true hb; omega) hr.1 hr.2 hd (hk.1.use hM hl (hS2.pJ ?_) hF)
        simp only [Int64.lt_iff_toInt_lt]
        split <;> rfl
      · cases hs
    · cases hs
theorem js_s_ca (hS : js_S s0 b L ST st) {x i k' cc rc : Nat} (hd : (i = 0 ∧ decode (jm_c k) pc = .ok (.invokevirtual x, 3)) ∨ (i = 1 ∧ decode (jm_c k) pc = .ok (.invokespecial x, 3)) ∨ (i = 2 ∧ decode (jm_c k) pc = .ok (.invokestatic x, 3))) (hiv : js_iv k x i k' cc rc) {cs : List jv_C} {nx : jv_N} (hs : jv_in jv_ckR none jv_goR jv_caR (pc + 3) [k', cc, rc] ls st L g = some (cs, nx)) (hok : jv_ok cs = true) (hk : js_K p l e R s m args below meth c H locs cells slots Q s0 b n xs D k pc LS ST L g nx) : W p l e R s m args below meth c H locs cells slots Q (F0 m pc LS ST) := by
  simp only [jv_in] at hs
  split at hs
  · next hb1 hb2 =>
    have hb1 := Nat.le_of_ble_eq_true hb1
    have hb2 := Nat.le_of_ble_eq_true hb2
    obtain ⟨hT, hDr⟩ := hS.split cc
    have hlen : (st.take cc).reverse.length = cc := by simp; omega
    have hST : ST = ((ST.take cc).reverse).reverse ++ ST.drop cc := by rw [List.reverse_reverse, List.take_append_drop]
    have go : ∀ (as : List jv_V), as = (st.take cc).reverse → (0 < rc → (∃ (q nn : Nat) (rs : List Nat) (t : List jv_V), as = jv_P q :: t ∧ L[q]? = some (rc - 1, nn, rs)) ∨ (rc = 12 ∧ ∃ (q : Int) (t : List jv_V), as = jv_D q :: t ∧ 0 < q ∧ L[(q - 1).toNat]? = some (11, 8, []))) → js_CF s0 b L k pc ST k' as (st.drop cc) x i rc (ST.take cc).reverse (ST.drop cc) := by
      rintro as rfl hrc
      exact ⟨hd, by rw [hlen]; exact hiv, hrc, hST, hT.rev, hDr, hb2⟩
    split at hs
    · next as => 
      cases hs
      exact hk _ _ _ _ _ (go _ rfl (fun h => absurd h (by decide)))
    · next rc' q as has =>
      split at hs
      · next kd nn rs hq =>
        split at hs
        · next hb =>
          have hb := Nat.eq_of_beq_eq_true hb
          subst hb
          cases hs
          exact hk _ _ _ _ _ (go _ has.symm (fun _ => Or.inl ⟨q, nn, rs, as, rfl, hq⟩))
        · cases hs
      · cases hs
    · next q as has =>
      obtain ⟨hc, cs', hs, -⟩ := jv_ck_inv hs hok
      cases hs
      exact hk _ _ _ _ _ (go _ has.symm (fun _ => Or.inr ⟨rfl, q, as, rfl, hc⟩))
    · cases hs
  · cases hs
theorem js_s_iv (hC : js_Cl) (X : js_X p s m args meth c D k) (hM : jr_M s0 b n xs D s L g H) (hl : js_L s0 b L (jv_ml k) LS ls) (hS : js_S s0 b L ST st) (hF : js_F s0 s H locs) (hfr : jm_ht k ≤ R.frames) (hlo : jm_rl k ≤ R.locals) {len : Nat} {r : List Nat} {z : Int} {x : Nat} (hd : decode (jm_c k) pc = .ok (.invokevirtual x, len)) (hie : js_i1 k pc (.invokevirtual x) len r z) {cs : List jv_C} {nx : jv_N} (hs : jv_sx (pc, .invokevirtual x, len, r, z) ls st L g = some (cs, nx)) (hok : jv_ok cs = true) (hk : js_K p l e R s m args below meth c H locs cells slots Q s0 b n xs D k pc LS ST L g nx) : W p l e R s m args below meth c H locs cells slots Q (F0 m pc LS ST) := by
  obtain ⟨rfl, h1, h2⟩ := hie
  have hsh : r = [1000] ∨ r = [1001] ∨ r = [1002] ∨ r = [1003] ∨ r = [1004] ∨ ∃ k' cc rc, r = [k', cc, rc] := by
    have hs : jv_in jv_ckR none jv_goR jv_caR (pc + 3) r ls st L g = some (cs, nx) := hs
    unfold jv_in at hs
    split at hs
    · exact Or.inl rfl
    · exact Or.inr (Or.inl rfl)
    · exact Or.inr (Or.inr (Or.inl rfl))
    · exact Or.inr (Or.inr (Or.inr (Or.inl rfl)))
    · exact Or.inr (Or.inr (Or.inr (Or.inr (Or.inl rfl))))
    · exact Or.inr (Or.inr (Or.inr (Or.inr (Or.inr ⟨_, _, _, rfl⟩))))
    · cases hs
  rcases hsh with rfl | rfl | rfl | rfl | rfl | ⟨k', cc, rc, rfl⟩
  · exact absurd rfl h2
  · exact absurd rfl h2
  · exact absurd rfl h2
  · exact absurd rfl h2
  · exact absurd rfl h2
  · exact js_s_ca hS (Or.inl ⟨rfl, hd⟩) (h1 _ _ _ rfl) hs hok hk
theorem js_s_is (hC : js_Cl) (X : js_X p s m args meth c D k) (hM : jr_M s0 b n xs D s L g H) (hl : js_L s0 b L (jv_ml k) LS ls) (hS : js_S s0 b L ST st) (hF : js_F s0 s H locs) (hfr : jm_ht k ≤ R.frames) (hlo : jm_rl k ≤ R.locals) {len : Nat} {r : List Nat} {z : Int} {x : Nat} (hd : decode (jm_c k) pc = .ok (.invokespecial x, len)) (hie : js_i1 k pc (.invokespecial x) len r z) {cs : List jv_C} {nx : jv_N} (hs : jv_sx (pc, .invokespecial x, len, r, z) ls st L g = some (cs, nx)) (hok : jv_ok cs = true) (hk : js_K p l e R s m args below meth c H locs cells slots Q s0 b n xs D k pc LS ST L g nx) : W p l e R s m args below meth c H locs cells slots Q (F0 m pc LS ST) := by
  obtain ⟨rfl, h1, h2, h3⟩ := hie
  have hsh : r = [1000] ∨ r = [1001] ∨ r = [1002] ∨ r = [1003] ∨ r = [1004] ∨ ∃ k' cc rc, r = [k', cc, rc] := by
    have hs : jv_in jv_ckR none jv_goR jv_caR (pc + 3) r ls st L g = some (cs, nx) := hs
    unfold jv_in at hs
    split at hs
    · exact Or.inl rfl
    · exact Or.inr (Or.inl rfl)
    · exact Or.inr (Or.inr (Or.inl rfl))
    · exact Or.inr (Or.inr (Or.inr (Or.inl rfl)))
    · exact Or.inr (Or.inr (Or.inr (Or.inr (Or.inl rfl))))
    · exact Or.inr (Or.inr (Or.inr (Or.inr (Or.inr ⟨_, _, _, rfl⟩))))
    · cases hs
  rcases hsh with rfl | rfl | rfl | rfl | rfl | ⟨k', cc, rc, rfl⟩
  · exact absurd (h3 rfl) (by decide)
  · obtain ⟨a1, a2, a3⟩ := h2 rfl
    exact js_s_ob hC X hM hl hS hF (by omega) (by omega) a1 hd hs hok hk
  · exact absurd (h3 rfl) (by decide)
  · exact absurd (h3 rfl) (by decide)
  · exact absurd (h3 rfl) (by decide)
  · exact js_s_ca hS (Or.inr (Or.inl ⟨rfl, hd⟩)) (h1 _ _ _ rfl) hs hok hk
theorem js_s_it (hC : js_Cl) (X : js_X p s m args meth c D k) (hM : jr_M s0 b n xs D s L g H) (hl : js_L s0 b L (jv_ml k) LS ls) (hS : js_S s0 b L ST st) (hF : js_F s0 s H locs) (hfr : jm_ht k ≤ R.frames) (hlo : jm_rl k ≤ R.locals) {len : Nat} {r : List Nat} {z : Int} {x : Nat} (hd : decode (jm_c k) pc = .ok (.invokestatic x, len)) (hie : js_i1 k pc (.invokestatic x) len r z) {cs : List jv_C} {nx : jv_N} (hs : jv_sx (pc, .invokestatic x, len, r, z) ls st L g = some (cs, nx)) (hok : jv_ok cs = true) (hk : js_K p l e R s m args below meth c H locs cells slots Q s0 b n xs D k pc LS ST L g nx) : W p l e R s m args below meth c H locs cells slots Q (F0 m pc LS ST) := by
  obtain ⟨rfl, h1, h2, h3, h4, h5, h6⟩ := hie
  have hsh : r = [1000] ∨ r = [1001] ∨ r = [1002] ∨ r = [1003] ∨ r = [1004] ∨ ∃ k' cc rc, r = [k', cc, rc] := by
    have hs : jv_in jv_ckR none jv_goR jv_caR (pc + 3) r ls st L g = some (cs, nx) := hs
    unfold jv_in at hs
    split at hs
    · exact Or.inl rfl
    · exact Or.inr (Or.inl rfl)
    · exact Or.inr (Or.inr (Or.inl rfl))
    · exact Or.inr (Or.inr (Or.inr (Or.inl rfl)))
    · exact Or.inr (Or.inr (Or.inr (Or.inr (Or.inl rfl))))
    · exact Or.inr (Or.inr (Or.inr (Or.inr (Or.inr ⟨_, _, _, rfl⟩))))
    · cases hs
  rcases hsh with rfl | rfl | rfl | rfl | rfl | ⟨k', cc, rc, rfl⟩
  · obtain ⟨a1, a2, a3⟩ := h2 rfl
    exact js_s_cy hC X hM hl hS hF (by omega) (by omega) a1 hd hs hok hk
  · exact absurd rfl h3
  · exact js_s_math hC X hM hl hS hF hfr hlo (h4 rfl) (Or.inl ⟨rfl, rfl⟩) hd hs hok hk
  · exact js_s_math hC X hM hl hS hF hfr hlo (h5 rfl) (Or.inr (Or.inl ⟨rfl, rfl⟩)) hd hs hok hk
  · exact js_s_math hC X hM hl hS hF hfr hlo (h6 rfl) (Or.inr (Or.inr ⟨rfl, rfl⟩)) hd hs hok hk
  · exact js_s_ca hS (Or.inr (Or.inr ⟨rfl, hd⟩)) (h1 _ _ _ rfl) hs hok hk
theorem js_s_new (hC : js_Cl) (X : js_X p s m args meth c D k) (hM : jr_M s0 b n xs D s L g H) (hl : js_L s0 b L (jv_ml k) LS ls) (hS : js_S s0 b L ST st) (hF : js_F s0 s H locs) (hfr : jm_ht k ≤ R.frames) (hlo : jm_rl k ≤ R.locals) {len : Nat} {r : List Nat} {z : Int} {x : Nat} (hd : decode (jm_c k) pc = .ok (.new x, len)) (hie : js_i1 k pc (.new x) len r z) {cs : List jv_C} {nx : jv_N} (hs : jv_sx (pc, .new x, len, r, z) ls st L g = some (cs, nx)) (hok : jv_ok cs = true) (hk : js_K p l e R s m args below meth c H locs cells slots Q s0 b n xs D k pc LS ST L g nx) : W p l e R s m args below meth c H locs cells slots Q (F0 m pc LS ST) := by
  obtain ⟨rfl, h1⟩ := hie
  have hs : jv_nw jv_ckR none jv_goR (pc + 3) r ls st L g = some (cs, nx) := hs
  unfold jv_nw at hs
  split at hs
  · obtain ⟨hc, cs', hs, -⟩ := jv_ck_inv hs hok
    cases hs
    have h2 := hk.2
    dsimp only [jv_dl, id] at h2
    rw [js_sz_app] at h2
    refine js_o_new X hC hM hl hF hS hc (h1 1 8 rfl) ?_ ?_ hd (Or.inr ⟨rfl, rfl, rfl, rfl, rfl⟩) hk.1
    · have := h2.1
      simp at this
      omega
    · have := h2.2
      simp [js_sz] at this
      omega
  · rename_i ci ns hne hx9
    split at hs
    · next hb =>
      cases hs
      have h2 := hk.2
      dsimp only [jv_dl, id] at h2
      rw [js_sz_app] at h2
      by_cases hci : ci = 1
      · subst hci
        obtain ⟨C, T, hc, -⟩ := h1 1 ns rfl
        cases hc
        exact (hne rfl rfl).elim
      · refine js_o_new X hC hM hl hF hS (Nat.le_of_ble_eq_true hb) (h1 ci ns rfl) ?_ ?_ hd (Or.inl ⟨hci, rfl, rfl, rfl⟩) hk.1
        · have := h2.1
          simp at this
          omega
        · have := h2.2
          simp [js_sz] at this
          omega
    · cases hs
  · cases hs
theorem js_s_newi (hC : js_Cl) (X : js_X p s m args meth c D k) (hM : jr_M s0 b n xs D s L g H) (hl : js_L s0 b L (jv_ml k) LS ls) (hS : js_S s0 b L ST st) (hF : js_F s0 s H locs) (hfr : jm_ht k ≤ R.frames) (hlo : jm_rl k ≤ R.locals) {len : Nat} {r : List Nat} {z : Int} (hd : decode (jm_c k) pc = .ok (.newarray .int, len)) (hie : js_i1 k pc (.newarray .int) len r z) {cs : List jv_C} {nx : jv_N} (hs : jv_sx (pc, .newarray .int, len, r, z) ls st L g = some (cs, nx)) (hok : jv_ok cs = true) (hk : js_K p l e R s m args below meth c H locs cells slots Q s0 b n xs D k pc LS ST L g nx) : W p l e R s m args below meth c H locs cells slots Q (F0 m pc LS ST) := by
  obtain ⟨rfl, h1⟩ := hie
  have hs : jv_na jv_ckR none jv_goR (pc + 2) 0 ls st L g = some (cs, nx) := hs
  unfold jv_na at hs
  split at hs
  · split at hs
    · next hb =>
      obtain ⟨hc, cs', hs, -⟩ := jv_ck_inv hs hok
      cases hs
      have h2 := hk.2
      dsimp only [jv_dl, id] at h2
      rw [js_sz_app] at h2
      refine js_o_na X hM hl hF hS (Nat.le_of_ble_eq_true hb) hc (Or.inl ⟨rfl, rfl⟩) h1 ?_ ?_ hd hk.1
      · have := h2.1
        simp at this
        omega
      · have := h2.2
        simp [js_sz] at this
        omega
    · cases hs
  · cases hs
theorem js_s_newl (hC : js_Cl) (X : js_X p s m args meth c D k) (hM : jr_M s0 b n xs D s L g H) (hl : js_L s0 b L (jv_ml k) LS ls) (hS : js_S s0 b L ST st) (hF : js_F s0 s H locs) (hfr : jm_ht k ≤ R.frames) (hlo : jm_rl k ≤ R.locals) {len : Nat} {r : List Nat} {z : Int} (hd : decode (jm_c k) pc = .ok (.newarray .long, len)) (hie : js_i1 k pc (.newarray .long) len r z) {cs : List jv_C} {nx : jv_N} (hs : jv_sx (pc, .newarray .long, len, r, z) ls st L g = some (cs, nx)) (hok : jv_ok cs = true) (hk : js_K p l e R s m args below meth c H locs cells slots Q s0 b n xs D k pc LS ST L g nx) : W p l e R s m args below meth c H locs cells slots Q (F0 m pc LS ST) := by
  obtain ⟨rfl, h1⟩ := hie
  have hs : jv_na jv_ckR none jv_goR (pc + 2) 1 ls st L g = some (cs, nx) := hs
  unfold jv_na at hs
  split at hs
  · split at hs
    · next hb =>
      obtain ⟨hc, cs', hs, -⟩ := jv_ck_inv hs hok
      cases hs
      have h2 := hk.2
      dsimp only [jv_dl, id] at h2
      rw [js_sz_app] at h2
      refine js_o_na X hM hl hF hS (Nat.le_of_ble_eq_true hb) hc (Or.inr ⟨rfl, rfl⟩) h1 ?_ ?_ hd hk.1
      · have := h2.1
        simp at this
        omega
      · have := h2.2
        simp [js_sz] at this
        omega
    · cases hs
  · cases hs
theorem js_s_anew (hC : js_Cl) (X : js_X p s m args meth c D k) (hM : jr_M s0 b n xs D s L g H) (hl : js_L s0 b L (jv_ml k) LS ls) (hS : js_S s0 b L ST st) (hF : js_F s0 s H locs) (hfr : jm_ht k ≤ R.frames) (hlo : jm_rl k ≤ R.locals) {len : Nat} {r : List Nat} {z : Int} {x : Nat} (hd : decode (jm_c k) pc = .ok (.anewarray x, len)) (hie : js_i1 k pc (.anewarray x) len r z) {cs : List jv_C} {nx : jv_N} (hs : jv_sx (pc, .anewarray x, len, r, z) ls st L g = some (cs, nx)) (hok : jv_ok cs = true) (hk : js_K p l e R s m args below meth c H locs cells slots Q s0 b n xs D k pc LS ST L g nx) : W p l e R s m args below meth c H locs cells slots Q (F0 m pc LS ST) := by
  obtain ⟨rfl, h1⟩ := hie
  have hs : jv_na jv_ckR none jv_goR (pc + 3) 3 ls st L g = some (cs, nx) := hs
  unfold jv_na at hs
  split at hs
  · split at hs
    · next hb =>
      obtain ⟨hc, cs', hs, -⟩ := jv_ck_inv hs hok
      cases hs
      have h2 := hk.2
      dsimp only [jv_dl, id] at h2
      rw [js_sz_app] at h2
      refine js_o_anew X hM hl hF hS (Nat.le_of_ble_eq_true hb) hc h1 ?_ ?_ hd hk.1
      · have := h2.1
        simp at this
        omega
      · have := h2.2
        simp [js_sz] at this
        omega
    · cases hs
  · cases hs
theorem js_s_mn (hC : js_Cl) (X : js_X p s m args meth c D k) (hM : jr_M s0 b n xs D s L g H) (hl : js_L s0 b L (jv_ml k) LS ls) (hS : js_S s0 b L ST st) (hF : js_F s0 s H locs) (hfr : jm_ht k ≤ R.frames) (hlo : jm_rl k ≤ R.locals) {len : Nat} {r : List Nat} {z : Int} {x dm : Nat} (hd : decode (jm_c k) pc = .ok (.multianewarray x dm, len)) (hie : js_i1 k pc (.multianewarray x dm) len r z) {cs : List jv_C} {nx : jv_N} (hs : jv_sx (pc, .multianewarray x dm, len, r, z) ls st L g = some (cs, nx)) (hok : jv_ok cs = true) (hk : js_K p l e R s m args below meth c H locs cells slots Q s0 b n xs D k pc LS ST L g nx) : W p l e R s m args below meth c H locs cells slots Q (F0 m pc LS ST) := by
  obtain ⟨rfl, rfl, h1, h2⟩ := hie
  have hs : jv_mn jv_ckR none jv_goR (pc + 4) ls st L g = some (cs, nx) := hs
  unfold jv_mn at hs
  split at hs
  · split at hs
    · next hb =>
      obtain ⟨hc, cs', hs, -⟩ := jv_ck_inv hs hok
      cases hs
      have h2' := hk.2
      dsimp only [jv_dl, id] at h2'
      rw [js_sz_app, List.length_append, List.length_cons, jv_rows_len] at h2'
      refine js_o_mn X hM hl hF hS (Nat.le_of_ble_eq_true hb) hc h1 h2 ?_ ?_ hd hk.1
      · have := h2'.1
        omega
      · have := h2'.2
        simp only [js_sz] at this
        rw [js_sz_rows] at this
        omega
    · cases hs
  · cases hs
/-- every instruction -/
theorem js_step (hC : js_Cl) (X : js_X p s m args meth c D k) (hM : jr_M s0 b n xs D s L g H) (hl : js_L s0 b L (jv_ml k) LS ls) (hS : js_S s0 b L ST st) (hF : js_F s0 s H locs) (hfr : jm_ht k ≤ R.frames) (hlo : jm_rl k ≤ R.locals) {q : jv_E} (hie : js_ie k q) {cs : List jv_C} {nx : jv_N} (hs : jv_sx q ls st L g = some (cs, nx)) (hok : jv_ok cs = true) (hk : js_K p l e R s m args below meth c H locs cells slots Q s0 b n xs D k q.1 LS ST L g nx) : W p l e R s m args below meth c H locs cells slots Q (F0 m q.1 LS ST) := by
  obtain ⟨pc, i, len, r, z⟩ := q
  obtain ⟨hd, hie⟩ := hie
  dsimp only at hd hie hk ⊢
  cases i with
  | iconst a => exact js_s_iconst hC X hM hl hS hF hfr hlo hd hie hs hok hk
  | bipush a => exact js_s_bipush hC X hM hl hS hF hfr hlo hd hie hs hok hk
  | sipush a => exact js_s_sipush hC X hM hl hS hF hfr hlo hd hie hs hok hk
  | lconst a => exact js_s_lconst hC X hM hl hS hF hfr hlo hd hie hs hok hk
  | ldc_w a => exact js_s_ldcw hC X hM hl hS hF hfr hlo hd hie hs hok hk
  | ldc2_w a => exact js_s_ldc2 hC X hM hl hS hF hfr hlo hd hie hs hok hk
  | aconst_null => exact js_s_null hC X hM hl hS hF hfr hlo hd hie hs hok hk
  | iload_n a => exact js_s_iload_n hC X hM hl hS hF hfr hlo hd hie hs hok hk
  | iload a => exact js_s_iload hC X hM hl hS hF hfr hlo hd hie hs hok hk
  | lload_n a => exact js_s_lload_n hC X hM hl hS hF hfr hlo hd hie hs hok hk
  | lload a => exact js_s_lload hC X hM hl hS hF hfr hlo hd hie hs hok hk
  | aload_n a => exact js_s_aload_n hC X hM hl hS hF hfr hlo hd hie hs hok hk
  | aload a => exact js_s_aload hC X hM hl hS hF hfr hlo hd hie hs hok hk
  | istore_n a => exact js_s_istore_n hC X hM hl hS hF hfr hlo hd hie hs hok hk
  | istore a => exact js_s_istore hC X hM hl hS hF hfr hlo hd hie hs hok hk
  | lstore_n a => exact js_s_lstore_n hC X hM hl hS hF hfr hlo hd hie hs hok hk
  | lstore a => exact js_s_lstore hC X hM hl hS hF hfr hlo hd hie hs hok hk
  | astore_n a => exact js_s_astore_n hC X hM hl hS hF hfr hlo hd hie hs hok hk
  | astore a => exact js_s_astore hC X hM hl hS hF hfr hlo hd hie hs hok hk
  | iinc a v => exact js_s_iinc hC X hM hl hS hF hfr hlo hd hie hs hok hk
  | iadd => exact js_s_iadd hC X hM hl hS hF hfr hlo hd hie hs hok hk
  | isub => exact js_s_isub hC X hM hl hS hF hfr hlo hd hie hs hok hk
  | imul => exact js_s_imul hC X hM hl hS hF hfr hlo hd hie hs hok hk
  | ladd => exact js_s_ladd hC X hM hl hS hF hfr hlo hd hie hs hok hk
  | lmul => exact js_s_lmul hC X hM hl hS hF hfr hlo hd hie hs hok hk
  | ineg => exact js_s_ineg hC X hM hl hS hF hfr hlo hd hie hs hok hk
  | lneg => exact js_s_lneg hC X hM hl hS hF hfr hlo hd hie hs hok hk
  | iand => exact js_s_iand hC X hM hl hS hF hfr hlo hd hie hs hok hk
  | ior => exact js_s_ior hC X hM hl hS hF hfr hlo hd hie hs hok hk
  | ixor => exact js_s_ixor hC X hM hl hS hF hfr hlo hd hie hs hok hk
  | ishl => exact js_s_ishl hC X hM hl hS hF hfr hlo hd hie hs hok hk
  | ishr => exact js_s_ishr hC X hM hl hS hF hfr hlo hd hie hs hok hk
  | iushr => exact js_s_iushr hC X hM hl hS hF hfr hlo hd hie hs hok hk
  | i2b => exact js_s_i2b hC X hM hl hS hF hfr hlo hd hie hs hok hk
  | i2s => exact js_s_i2s hC X hM hl hS hF hfr hlo hd hie hs hok hk
  | i2l => exact js_s_i2l hC X hM hl hS hF hfr hlo hd hie hs hok hk
  | lcmp => exact js_s_lcmp hC X hM hl hS hF hfr hlo hd hie hs hok hk
  | idiv => exact js_s_idiv hC X hM hl hS hF hfr hlo hd hie hs hok hk
  | irem => exact js_s_irem hC X hM hl hS hF hfr hlo hd hie hs hok hk
  | ldiv => exact js_s_ldiv hC X hM hl hS hF hfr hlo hd hie hs hok hk
  | lrem => exact js_s_lrem hC X hM hl hS hF hfr hlo hd hie hs hok hk
  | dup => exact js_s_dup hC X hM hl hS hF hfr hlo hd hie hs hok hk
  | dup2 => exact js_s_dup2 hC X hM hl hS hF hfr hlo hd hie hs hok hk
  | goto off => exact js_s_goto hC X hM hl hS hF hfr hlo hd hie hs hok hk
  | ifCond cd off => exact js_s_ifCond hC X hM hl hS hF hfr hlo hd hie hs hok hk
  | if_icmp cd off => exact js_s_if_icmp hC X hM hl hS hF hfr hlo hd hie hs hok hk
  | ifnull off => exact js_s_ifnull hC X hM hl hS hF hfr hlo hd hie hs hok hk
  | ifnonnull off => exact js_s_ifnonnull hC X hM hl hS hF hfr hlo hd hie hs hok hk
  | ireturn => exact js_s_ireturn hC X hM hl hS hF hfr hlo hd hie hs hok hk
  | lreturn => exact js_s_lreturn hC X hM hl hS hF hfr hlo hd hie hs hok hk
  | areturn => exact js_s_areturn hC X hM hl hS hF hfr hlo hd hie hs hok hk
  | return_ => exact js_s_return hC X hM hl hS hF hfr hlo hd hie hs hok hk
  | tableswitch df lo hi offs => exact js_s_tsw hC X hM hl hS hF hfr hlo hd hie hs hok hk
  | lookupswitch df ps => exact js_s_lsw hC X hM hl hS hF hfr hlo hd hie hs hok hk
  | getfield x => exact js_s_getfield hC X hM hl hS hF hfr hlo hd hie hs hok hk
  | putfield x => exact js_s_putfield hC X hM hl hS hF hfr hlo hd hie hs hok hk
  | iaload => exact js_s_iaload hC X hM hl hS hF hfr hlo hd hie hs hok hk
  | laload => exact js_s_laload hC X hM hl hS hF hfr hlo hd hie hs hok hk
  | aaload => exact js_s_aaload hC X hM hl hS hF hfr hlo hd hie hs hok hk
  | iastore => exact js_s_iastore hC X hM hl hS hF hfr hlo hd hie hs hok hk
  | lastore => exact js_s_lastore hC X hM hl hS hF hfr hlo hd hie hs hok hk
  | aastore => exact js_s_aastore hC X hM hl hS hF hfr hlo hd hie hs hok hk
  | arraylength => exact js_s_alen hC X hM hl hS hF hfr hlo hd hie hs hok hk
  | invokevirtual x => exact js_s_iv hC X hM hl hS hF hfr hlo hd hie hs hok hk
  | invokespecial x => exact js_s_is hC X hM hl hS hF hfr hlo hd hie hs hok hk
  | invokestatic x => exact js_s_it hC X hM hl hS hF hfr hlo hd hie hs hok hk
  | new x => exact js_s_new hC X hM hl hS hF hfr hlo hd hie hs hok hk
  | anewarray x => exact js_s_anew hC X hM hl hS hF hfr hlo hd hie hs hok hk
  | multianewarray x dm => exact js_s_mn hC X hM hl hS hF hfr hlo hd hie hs hok hk
  | newarray at' =>
    cases at' with
    | int => exact js_s_newi hC X hM hl hS hF hfr hlo hd hie hs hok hk
    | long => exact js_s_newl hC X hM hl hS hF hfr hlo hd hie hs hok hk
    | _ => cases hs
  | _ => cases hs
end
end
section
/-! ===== the layout only grows ===== -/
def js_P (L : jv_L) (q : jv_Go) : Prop := jr_le L q.2.2.2.1 ∧ js_sz L ≤ js_sz q.2.2.2.1
def js_mn (L : jv_L) (g : jv_S) (nx : jv_N) : Prop := match nx with
  | .inl (li, d) => js_P L d ∧ ∀ x ∈ li, js_P L x.2
  | .inr (.inl (_, f)) => ∀ v, js_P L (f v)
  | .inr (.inr (.inl (_, f))) => ∀ v, js_P L (f v)
  | .inr (.inr (.inr (.inl (_, L', g')))) => L' = L ∧ g' = g
  | _ => True
def js_Gd (L : jv_L) (g : jv_S) (x : jv_X) : Prop := ∀ cs nx, x = some (cs, nx) → js_mn L g nx
section
variable {L : jv_L} {g : jv_S}
theorem js_Gd.no : js_Gd L g none := fun _ _ h => by cases h
theorem js_Gd.go {pc : Nat} {ls st : List jv_V} {g' : jv_S} : js_Gd L g (jv_goR pc ls st L g') := fun _ _ h => by
  cases h
  exact ⟨⟨jr_le.rf, Nat.le_refl _⟩, fun _ hx => by cases hx⟩
theorem js_Gd.goA {pc : Nat} {ls st : List jv_V} {g' : jv_S} {N : jv_L} : js_Gd L g (jv_goR pc ls st (L ++ N) g') := fun _ _ h => by
  cases h
  exact ⟨⟨jr_le.app _ _, by show js_sz L ≤ js_sz (L ++ N); rw [js_sz_app]; omega⟩, fun _ hx => by cases hx⟩
theorem js_sz_set : ∀ (M : jv_L) (i : Nat) (d d' : Nat × Nat × List Nat), M[i]? = some d → d'.2.1 = d.2.1 → js_sz (M.set i d') = js_sz M := by
  intro M
  induction M with
  | nil => intro i d d' h _; cases h
  | cons x t ih =>
    intro i d d' h hd'
    cases i with
    | zero => cases h; simp [js_sz, hd']
    | succ i => simp only [List.set_cons_succ, js_sz]; rw [ih i d d' (by simpa using h) hd']
theorem js_Gd.goS {pc : Nat} {ls st : List jv_V} {g' : jv_S} {i kd n : Nat} {rs rs' : List Nat} (h : L[i]? = some (kd, n, rs)) (hk : (kd < 10 ∨ (kd = 11 ∧ rs = [])) → rs' = rs) : js_Gd L g (jv_goR pc ls st (L.set i (kd, n, rs')) g') := fun _ _ h' => by
  cases h'
  exact ⟨⟨jr_le.set h hk, by show js_sz L ≤ js_sz (L.set i (kd, n, rs')); rw [js_sz_set L i _ (kd, n, rs') h rfl]; exact Nat.le_refl _⟩, fun _ hx => by cases hx⟩
theorem js_Gd.ck {c : Prop} {d : Decidable c} {x : jv_X} (h : js_Gd L g x) : js_Gd L g (jv_ckR c d x) := fun cs nx he => by
  cases x with
  | none => cases he
  | some y => obtain ⟨c1, n1⟩ := y; cases he; exact h _ _ rfl
theorem js_Gd.br {c : Prop} {d : Decidable c} {a b : jv_X} (ha : js_Gd L g a) (hb : js_Gd L g b) : js_Gd L g (jv_brR c d a b) := fun cs nx he => by
  unfold jv_brR at he
  split at he
  · cases he
    obtain ⟨h1, -⟩ := ha _ _ rfl
    obtain ⟨h2, h3⟩ := hb _ _ rfl
    refine ⟨h2, fun x hx => ?_⟩
    rcases List.mem_cons.mp hx with rfl | hx
    · exact h1
    · exact h3 x hx
  · cases he
theorem js_Gd.a32 {z : Int} {pc : Nat} {ls st : Int → List jv_V} {g' : jv_S} : js_Gd L g (jv_aR32 z (fun v => jv_goR pc (ls v) (st v) L g')) := fun _ _ h => by
  cases h
  exact fun v => ⟨jr_le.rf, Nat.le_refl _⟩
theorem js_Gd.a64 {z : Int} {pc : Nat} {ls st : Int → List jv_V} {g' : jv_S} : js_Gd L g (jv_aR64 z (fun v => jv_goR pc (ls v) (st v) L g')) := fun _ _ h => by
  cases h
  exact fun v => ⟨jr_le.rf, Nat.le_refl _⟩
theorem js_Gd.re {r : jv_V} : js_Gd L g (jv_reR r L g) := fun _ _ h => by
  cases h
  exact ⟨rfl, rfl⟩
theorem js_Gd.ca {k : Nat} {as rest : List jv_V} : js_Gd L g (jv_caR k as rest) := fun _ _ h => by
  cases h
  trivial
theorem js_Gd.sw {x : Int} {d : Nat} {ls st : List jv_V} : ∀ (ts : List Nat) (lo : Int), js_Gd L g (jv_sw jv_brR x (fun t => jv_goR t ls st L g) d lo ts)
  | [], _ => js_Gd.go
  | _ :: ts, lo => js_Gd.br js_Gd.go (js_Gd.sw ts (lo + 1))
theorem js_Gd.lw {x : Int} {d : Nat} {ls st : List jv_V} : ∀ (ps : List (Int × Int)) (ts : List Nat), js_Gd L g (jv_lw jv_brR x (fun t => jv_goR t ls st L g) d ps ts)
  | [], _ => by unfold jv_lw; exact js_Gd.go
  | (_, _) :: _, [] => js_Gd.go
  | (_, _) :: ps, _ :: ts => js_Gd.br js_Gd.go (js_Gd.lw ps ts)
theorem js_Gd.ix {x : jv_V} {i : Int} {f : Nat → Nat → Int → jv_X} (h : ∀ a b c, js_Gd L g (f a b c)) : js_Gd L g (jv_ix jv_ckR none x i L f) := by
  unfold jv_ix
  split
  · split
    · exact (h _ _ _).ck
    · exact js_Gd.no
  · split
    · exact (h _ _ _).ck
    · exact js_Gd.no
  · exact js_Gd.no
theorem js_Gd.vw {x : jv_V} {f : Nat → Int → Nat → jv_X} (h : ∀ a b c, js_Gd L g (f a b c)) : js_Gd L g (jv_vw none x L f) := by
  unfold jv_vw
  split
  · split
    · exact h _ _ _
    · exact js_Gd.no
  · split
    · exact h _ _ _
    · exact js_Gd.no
  · exact js_Gd.no
theorem js_Gd.ld {i n ty : Nat} {ls st : List jv_V} : js_Gd L g (jv_ld none jv_goR i n ty ls st L g) := by
  unfold jv_ld
  repeat' split
  all_goals first | exact js_Gd.go | exact js_Gd.no
theorem js_Gd.so {i n ty : Nat} {ls st : List jv_V} : js_Gd L g (jv_so none jv_goR i n ty ls st L g) := by
  unfold jv_so
  repeat' split
  all_goals first | exact js_Gd.go | exact js_Gd.no
theorem js_Gd.b2 {cd : Jvm.ClassFile.Cond} {a b : Int} {t f : jv_X} (h1 : js_Gd L g t) (h2 : js_Gd L g f) : js_Gd L g (jv_b2 jv_brR cd a b t f) := by
  unfold jv_b2
  split
  · exact h1.br h2
  · exact h2.br h1
  · exact h1.br h2
  · exact h1.br h2
  · exact h1.br h2
  · exact h1.br h2
theorem js_Gd.gf {n kd k ty : Nat} {ls st : List jv_V} : js_Gd L g (jv_gf jv_ckR none jv_goR n kd k ty ls st L g) := by
  unfold jv_gf
  repeat' split
  all_goals first | exact js_Gd.go | exact js_Gd.no | exact js_Gd.go.ck
theorem js_pf_no {kd kd' k m : Nat} {rs : List Nat} {P : Prop} (hb : (((Nat.beq kd kd' = true ∧ Nat.beq kd 11 = false) ∧ Nat.blt k m = true) ∧ Nat.ble 10 kd = true)) (h : kd' < 10 ∨ (kd' = 11 ∧ rs = [])) : P := by
  obtain ⟨⟨⟨h1, h2⟩, -⟩, h4⟩ := hb
  have h1 := Nat.eq_of_beq_eq_true h1
  have h2 := Nat.ne_of_beq_eq_false h2
  have h4 := Nat.le_of_ble_eq_true h4
  omega
theorem js_Gd.pf {n kd k ty : Nat} {ls st : List jv_V} : js_Gd L g (jv_pf jv_ckR none jv_goR n kd k ty ls st L g) := by
  unfold jv_pf
  repeat' split
  all_goals first | exact js_Gd.go | exact js_Gd.no | exact js_Gd.go.ck | (refine js_Gd.goS (by assumption) (fun h => ?_); rename_i hb _ _ _ _; simp only [Bool.and_eq_true, Bool.not_eq_true'] at hb; exact js_pf_no hb h)
theorem js_Gd.ar {n ld : Nat} {ls st : List jv_V} : js_Gd L g (jv_ar jv_ckR none jv_goR n ld ls st L g) := by
  unfold jv_ar
  split
  all_goals first | exact js_Gd.no | (refine js_Gd.ix (fun a b c => ?_); split <;> first | exact js_Gd.go | exact js_Gd.no | exact js_Gd.go.ck)
theorem js_Gd.sz {x : jv_V} {f : Nat → jv_X} (h : ∀ a, js_Gd L g (f a)) : js_Gd L g (jv_sz none x L f) := by
  unfold jv_sz
  repeat' split
  all_goals first | exact h _ | exact js_Gd.no
theorem js_Gd.inn {n : Nat} {r : List Nat} {ls st : List jv_V} : js_Gd L g (jv_in jv_ckR none jv_goR jv_caR n r ls st L g) := by
  unfold jv_in
  split
  · unfold jv_cy
    split
    · refine js_Gd.vw (fun a b c => js_Gd.vw (fun a' b' c' => ?_))
      split
      · exact js_Gd.go.ck
      · exact js_Gd.no
    · exact js_Gd.no
  · repeat' split
    all_goals first | exact js_Gd.go | exact js_Gd.no | exact js_Gd.go.ck
  · repeat' split
    all_goals first | exact js_Gd.go | exact js_Gd.no | exact js_Gd.go.ck
  · repeat' split
    all_goals first | exact js_Gd.go | exact js_Gd.no | exact js_Gd.go.ck
  · repeat' split
    all_goals first | exact js_Gd.go | exact js_Gd.no | exact js_Gd.go.ck
  · repeat' split
    all_goals first | exact js_Gd.ca | exact js_Gd.no | exact js_Gd.ca.ck
  · exact js_Gd.no
theorem js_Gd.nw {n : Nat} {r : List Nat} {ls st : List jv_V} : js_Gd L g (jv_nw jv_ckR none jv_goR n r ls st L g) := by
  unfold jv_nw
  repeat' split
  all_goals first | exact js_Gd.goA | exact js_Gd.no | exact js_Gd.goA.ck
theorem js_Gd.na {n kd : Nat} {ls st : List jv_V} : js_Gd L g (jv_na jv_ckR none jv_goR n kd ls st L g) := by
  unfold jv_na
  repeat' split
  all_goals first | exact js_Gd.goA | exact js_Gd.no | exact js_Gd.goA.ck
theorem js_Gd.mn {n : Nat} {ls st : List jv_V} : js_Gd L g (jv_mn jv_ckR none jv_goR n ls st L g) := by
  unfold jv_mn
  repeat' split
  all_goals first | exact js_Gd.goA | exact js_Gd.no | exact js_Gd.goA.ck
theorem js_Gd.st {q : jv_E} {ls st : List jv_V} : js_Gd L g (jv_sx q ls st L g) := by
  obtain ⟨pc, i, len, r, z⟩ := q
  unfold jv_sx jv_st
  dsimp only
  split
  all_goals first | exact js_Gd.go | exact js_Gd.no | exact js_Gd.ld | exact js_Gd.so | exact js_Gd.ar | exact js_Gd.inn | exact js_Gd.na | exact js_Gd.mn | skip
  all_goals (repeat' split)
  all_goals first | exact js_Gd.go | exact js_Gd.no | exact js_Gd.go.ck | exact js_Gd.a32 | exact js_Gd.a64 | exact js_Gd.b2 js_Gd.go js_Gd.go | exact js_Gd.br js_Gd.go js_Gd.go | exact js_Gd.sw _ _ | exact js_Gd.lw _ _ | exact js_Gd.gf | exact js_Gd.pf | exact js_Gd.sz (fun _ => js_Gd.go) | exact js_Gd.nw | exact js_Gd.re | exact js_Gd.re.ck | skip
theorem js_dl_P : ∀ (li : List (jv_C × jv_Go)) (d : jv_Go), js_P L d → (∀ x ∈ li, js_P L x.2) → js_P L (jv_dl id li d)
  | [], _, h, _ => h
  | (c, a) :: t, d, h, h2 => by
    obtain ⟨c, dc⟩ := c
    unfold jv_dl
    by_cases hc : c
    · rw [if_pos hc]
      exact h2 _ List.mem_cons_self
    · rw [if_neg hc]
      exact js_dl_P t d h (fun x hx => h2 x (List.mem_cons_of_mem _ hx))
theorem jv_dl_id {α : Type} (f : jv_Go → α) : ∀ (li : List (jv_C × jv_Go)) (d : jv_Go), jv_dl f li d = f (jv_dl id li d)
  | [], _ => rfl
  | (c, a) :: t, d => by
    obtain ⟨c, dc⟩ := c
    unfold jv_dl
    by_cases hc : c
    · rw [if_pos hc, if_pos hc]
      rfl
    · rw [if_neg hc, if_neg hc]
      exact jv_dl_id f t d
end
theorem jv_ex_grow {T : Nat → List jv_E} {ML : Nat → Nat} : ∀ (n k pc : Nat) (ls st : List jv_V) (L : jv_L) (g : jv_S) (r : jv_V) (L' : jv_L) (g' : jv_S), jv_ex T ML n k pc ls st L g = some (r, L', g') → jr_le L L' ∧ js_sz L ≤ js_sz L' := by
  intro n
  induction n with
  | zero => intro k pc ls st L g r L' g' h; cases h
  | succ n ih =>
    intro k pc ls st L g r L' g' h
    rw [jv_ex] at h
    cases he : jv_fi (T k) pc with
    | none => rw [he] at h; cases h
    | some e =>
      rw [he] at h
      dsimp only at h
      cases hs : jv_sx e ls st L g with
      | none => rw [hs] at h; cases h
      | some y =>
        obtain ⟨cs, nx⟩ := y
        rw [hs] at h
        dsimp only at h
        have hm := js_Gd.st (L := L) (g := g) cs nx hs
        cases hk : jv_ok cs with
        | false => rw [hk] at h; cases h
        | true =>
          rw [hk] at h
          dsimp only at h
          have go : ∀ {q : jv_Go}, js_P L q → jv_ex T ML n k q.1 q.2.1 q.2.2.1 q.2.2.2.1 q.2.2.2.2 = some (r, L', g') → jr_le L L' ∧ js_sz L ≤ js_sz L' := by
            intro q hq hx
            have h3 := ih _ _ _ _ _ _ _ _ _ hx
            exact ⟨hq.1.tr h3.1, Nat.le_trans hq.2 h3.2⟩
          rcases nx with ⟨li, d⟩ | ⟨z, f⟩ | ⟨z, f⟩ | ⟨r', L2, g2⟩ | ⟨k', as, rest⟩ <;> unfold jv_nx at h <;> dsimp only at h
          · rw [jv_dl_id] at h
            exact go (js_dl_P li d hm.1 hm.2) h
          · exact go (hm _) h
          · exact go (hm _) h
          · cases h
            obtain ⟨rfl, -⟩ := hm
            exact ⟨jr_le.rf, Nat.le_refl _⟩
          · cases hb : Nat.ble (jv_fl as).length (ML k') with
            | false => rw [hb] at h; cases h
            | true =>
              rw [hb] at h
              dsimp only at h
              cases hc : jv_ex T ML n k' 0 (jv_en (ML k') as) [] L g with
              | none => rw [hc] at h; cases h
              | some w =>
                obtain ⟨r2, L2, g2⟩ := w
                rw [hc] at h
                have h1 := ih _ _ _ _ _ _ _ _ _ hc
                have h2 := ih _ _ _ _ _ _ _ _ _ h
                exact ⟨h1.1.tr h2.1, Nat.le_trans h1.2 h2.2⟩
end
section
/-! ===== a run of the small machine is a run of the machine ===== -/
/-- what a call answers -/
def js_O (s0 b : Nat) (L : jv_L) (r : jv_V) (v : Option Value) : Prop := (r = jv_U ∧ v = none) ∨ (r ≠ jv_U ∧ ∃ w, v = some w ∧ jr_V s0 b L r w)
def js_Pc (s0 b n : Nat) (xs : Nat → Int32) (D : va_G) (vs : List Value) (L : jv_L) (g : jv_S) : Array Value → State → Prop := fun a U => a = vs.toArray ∧ jr_M s0 b n xs D U L g U.heap ∧ js_N U ∧ va_K D vwCl [] U
def js_Qc (s0 b n : Nat) (xs : Nat → Int32) (D : va_G) (L' : jv_L) (g' : jv_S) (r : jv_V) : Array Value → State → Outcome → State → Prop := fun _ st o t => ∃ v : Option Value, o = .returned v ∧ js_O s0 b L' r v ∧ jr_M s0 b n xs D t L' g' t.heap ∧ (∀ q : Nat, q < s0 → t.heap[q]? = st.heap[q]?) ∧ st.heap.size ≤ t.heap.size
def js_rm (k mc ms : Nat) : Room := { frames := jm_ht k, cells := mc, slots := ms, locals := jm_rl k }
def js_w (k : Nat) : List Cond := Cond.code (jm_y k) (jm_c k) (jv_ml k) (jm_ret k) :: jm_ws
def js_Met (l : Launch) (s0 b n : Nat) (xs : Nat → Int32) (D : va_G) (k : Nat) (vs : List Value) (L : jv_L) (g : jv_S) (r : jv_V) (L' : jv_L) (g' : jv_S) : Prop := Met l (jm_y k) (js_w k) (js_rm k (L'.length - L.length) (js_sz L' - js_sz L)) (js_Pc s0 b n xs D vs L g) (js_Qc s0 b n xs D L' g' r) (L'.length - L.length) (js_sz L' - js_sz L) (fun q => s0 ≤ q)
/-- all methods are as the tables say -/
def js_All : Prop := ∀ k, k < 226 → True → ∀ q ∈ jv_T k, js_ie k q
theorem jv_fi_mem {t : List jv_E} {pc : Nat} {q : jv_E} (h : jv_fi t pc = some q) : q ∈ t ∧ q.1 = pc := by
  induction t with
  | nil => cases h
  | cons a t ih =>
    unfold jv_fi at h
    split at h
    · next hb =>
      cases h
      exact ⟨List.mem_cons_self, Nat.eq_of_beq_eq_true hb⟩
    · obtain ⟨h1, h2⟩ := ih h
      exact ⟨List.mem_cons_of_mem _ h1, h2⟩
/-- the locals with which a method begins -/
theorem js_fl_sl {s0 b : Nat} {L : jv_L} : ∀ {vs : List Value} {as : List jv_V}, js_S s0 b L vs as → (lg_sl vs).length = (jv_fl as).length ∧ ∀ (i : Nat) (a : jv_V), (jv_fl as)[i]? = some a → a ≠ jv_U → ∃ v : Value, (lg_sl vs)[i]? = some (.val v) ∧ jr_V s0 b L a v
  | [], [], _ => ⟨rfl, fun i a h => by simp [jv_fl] at h⟩
  | v :: vs, a :: as, h => by
    obtain ⟨hu, hv, hs⟩ := h
    obtain ⟨ih1, ih2⟩ := js_fl_sl hs
    by_cases hj : ∃ x, a = jv_J x
    · obtain ⟨x, rfl⟩ := hj
      have hc := js_cat2 hv
      have e1 : lg_sl (v :: vs) = .val v :: .second :: lg_sl vs := by unfold lg_sl; simp [List.flatMap_cons, hc]
      have e2 : jv_fl (jv_J x :: as) = jv_J x :: jv_U :: jv_fl as := rfl
      rw [e1, e2]
      refine ⟨by simp [ih1], fun i a' hi ha' => ?_⟩
      match i, hi with
      | 0, hi => cases hi; exact ⟨v, rfl, hv⟩
      | 1, hi => cases hi; exact absurd rfl ha'
      | i + 2, hi => exact ih2 i a' hi ha'
    · have hc := js_cat1 hv hu (fun x hx => hj ⟨x, hx⟩)
      have e1 : lg_sl (v :: vs) = .val v :: lg_sl vs := by unfold lg_sl; simp [List.flatMap_cons, hc]
      have e2 : jv_fl (a :: as) = a :: jv_fl as := by
        rcases a with i | i | q | ⟨q, i⟩ | q | u
        · rfl
        · exact absurd ⟨i, rfl⟩ hj
        · rfl
        · rfl
        · rfl
        · rfl
      rw [e1, e2]
      refine ⟨by simp [ih1], fun i a' hi ha' => ?_⟩
      match i, hi with
      | 0, hi => cases hi; exact ⟨v, rfl, hv⟩
      | i + 1, hi => exact ih2 i a' hi ha'
theorem js_entry {s0 b : Nat} {L : jv_L} {vs : List Value} {as : List jv_V} (h : js_S s0 b L vs as) {ml : Nat} (hml : (jv_fl as).length ≤ ml) : js_L s0 b L ml ((lg_sl vs ++ List.replicate (ml - (lg_sl vs).length) Slot.unset).toArray) (jv_en ml as) := by
  obtain ⟨h1, h2⟩ := js_fl_sl h
  obtain ⟨e1, e2, e3⟩ := lv_entry vs (n := ml) (by omega)
  refine ⟨e1, e2, by unfold jv_en; simp; omega, fun i a ha hu _ => ?_⟩
  unfold jv_en at ha
  by_cases hi : i < (jv_fl as).length
  · rw [List.getElem?_append_left hi] at ha
    obtain ⟨v, v1, v2⟩ := h2 i a ha hu
    refine ⟨v, ?_, v2⟩
    rw [List.getElem?_toArray, List.getElem?_append_left (by omega)]
    exact v1
  · rw [List.getElem?_append_right (by omega), List.getElem?_replicate] at ha
    split at ha
    · cases ha
      exact absurd rfl hu
    · cases ha
section
variable {l : Launch} {s0 b n : Nat} {xs : Nat → Int32} {D : va_G}
/-- the body of a method, from a point on -/
def js_Body (l : Launch) (s0 b n : Nat) (xs : Nat → Int32) (D : va_G) (fuel : Nat) : Prop := ∀ (k pc : Nat) (ls st : List jv_V) (L : jv_L) (g : jv_S) (r : jv_V) (L' : jv_L) (g' : jv_S), jv_ex jv_T jv_ml fuel k pc ls st L g = some (r, L', g') → k < 226 → True →
  ∀ {p : Program} {e : Env} {R : Room} {s : State} {m : MethodId} {args : Array Value} {below : List Frame} {meth : Method} {c : Code} {H : Heap} {locs : List Loc} {cells slots : Nat} {Q : State → Prop} {LS : Array Slot} {ST : List Value},
    js_X p s m args meth c D k → jr_M s0 b n xs D s L g H → js_L s0 b L (jv_ml k) LS ls → js_S s0 b L ST st → js_F s0 s H locs → jm_ht k ≤ R.frames → jm_rl k ≤ R.locals → cells + (L'.length - L.length) ≤ R.cells → slots + (js_sz L' - js_sz L) ≤ R.slots →
    (∀ (H' : Heap) (locs' : List Loc) (LS' : Array Slot) (ST' : List Value) (pc' : Nat), jr_M s0 b n xs D s L' g' H' → js_F s0 s H' locs' → js_R s0 b L' k pc' r ST' → W p l e R s m args below meth c H' locs' (cells + (L'.length - L.length)) (slots + (js_sz L' - js_sz L)) Q (F0 m pc' LS' ST')) →
    W p l e R s m args below meth c H locs cells slots Q (F0 m pc LS ST)
theorem js_met (hC : js_Cl) {fuel : Nat} (ih : js_Body l s0 b n xs D fuel) {k : Nat} {as : List jv_V} {vs : List Value} {L : jv_L} {g : jv_S} {r : jv_V} {L' : jv_L} {g' : jv_S} (hx : jv_ex jv_T jv_ml fuel k 0 (jv_en (jv_ml k) as) [] L g = some (r, L', g')) (hk : k < 225) (hk1 : True) (hS : js_S s0 b L vs as) (hml : (jv_fl as).length ≤ jv_ml k) : js_Met l s0 b n xs D k vs L g r L' g' := by
  obtain ⟨hcode, hini, hmh, hpl, hown⟩ := hC.2.2.2.2.2.2.2.2 k hk hk1
  refine Met.ofW (cc := jm_c k) (maxL := jv_ml k) (ret := jm_ret k) hpl rfl ?_
  intro p e s m args below meth c s₁ B hml' hv
  obtain ⟨rfl, hM, hN, hK⟩ := hv
  have hts := atoms_spec (ws := js_w k) B.pre
  have hX : js_X p s m vs.toArray meth c D k := ⟨B.exec, B.bytes, B.returns, hml', by rw [hown]; exact findClass_of_methodNamed B.named, fun w hw => hts w (List.mem_cons_of_mem _ hw), B.notSynchronized, (name_of_methodNamed B.named B.method).1, hN, hK⟩
  rw [lg_entry_eq]
  have hF0 : js_F s0 s s.heap [] := ⟨Nat.le_refl _, fun _ _ => rfl, fun _ h => by cases h⟩
  have hlk := B.notSynchronized
  refine ih k 0 _ _ L g r L' g' hx (by omega) hk1 (R := js_rm k (L'.length - L.length) (js_sz L' - js_sz L)) hX hM (js_entry hS hml) trivial hF0 (Nat.le_refl _) (Nat.le_refl _) (by simp [js_rm]) (by simp [js_rm]) (fun H' locs' LS' ST' pc' hM' hF' hR => ?_)
  rw [Nat.zero_add, Nat.zero_add]
  have hQ : ∀ (v : Option Value), js_O s0 b L' r v → ∀ t : State, t.heap = H' → s.WarmedH t.vm → js_Qc s0 b n xs D L' g' r vs.toArray s (.returned v) t := by
    intro v hv t ht hW
    exact ⟨v, rfl, hv, by rw [ht]; exact hM'.moved hW.alike, fun q hq => by rw [ht]; exact hF'.2.1 q hq, by rw [ht]; exact hF'.1⟩
  rcases hR with ⟨x, w, rfl, hw, rfl, hd, hr⟩ | ⟨x, w, rfl, hw, rfl, hd, hr⟩ | ⟨x, v, rfl, hv, rfl, hd, C, hr⟩ | ⟨rfl, rfl, hd, hr⟩
  · have hO : js_O s0 b L' (jv_I x) (some (.int w)) := Or.inr ⟨by simp, _, rfl, w, rfl, hw⟩
    rcases hr with hr | ⟨hr, h01⟩
    · exact W.iret B.exec B.bytes (by rw [B.returns]; exact hr) (hQ _ hO) hF'.2.2 hd hlk
    · refine W.zret (ty := .boolean) B.exec B.bytes (by rw [B.returns]; exact hr) ?_ (hQ _ hO) hF'.2.2 hd hlk
      rcases h01 with h | h
      · have : w = 0 := Int32.toInt_inj.mp (by rw [hw, h]; rfl)
        subst this
        decide
      · have : w = 1 := Int32.toInt_inj.mp (by rw [hw, h]; rfl)
        subst this
        decide
  · exact W.lret B.exec B.bytes (by rw [B.returns]; exact hr) (hQ _ (Or.inr ⟨by simp, _, rfl, w, rfl, hw⟩)) hF'.2.2 hd hlk
  · refine W.aret B.exec B.bytes (by rw [B.returns]; exact hr) (Or.inl ⟨C, rfl⟩) ?_ (hQ _ (Or.inr ⟨by simp, _, rfl, hv⟩)) hF'.2.2 hd hlk
    rcases hv with ⟨-, h⟩ | ⟨-, -, h⟩
    · exact Or.inl h
    · exact Or.inr ⟨_, h⟩
  · exact W.vret B.exec B.bytes (by rw [B.returns]; exact hr) (hQ _ (Or.inl ⟨rfl, rfl⟩)) hF'.2.2 hd hlk
theorem js_good : ∀ w ∈ jm_ws, (w.onTables && w.keeps) = true ∨ ∃ ty, w = .arrayClass ty := fun w hw => good_of_word (List.mem_filter.mp hw).2
/-- a call, by the contract of what is called -/
theorem js_call (hC : js_Cl) {p : Program} {e : Env} {R : Room} {s : State} {m : MethodId} {args : Array Value} {below : List Frame} {meth : Method} {c : Code} {H : Heap} {locs : List Loc} {cells slots : Nat} {Q : State → Prop} {LS : Array Slot} {ST : List Value} {k pc : Nat} {L : jv_L} {g : jv_S} (X : js_X p s m args meth c D k) (hM : jr_M s0 b n xs D s L g H) (hlz : LS.size = jv_ml k) (hF : js_F s0 s H locs) (hfr : jm_ht k ≤ R.frames) (hlo : jm_rl k ≤ R.locals) {k' : Nat} {as rest : List jv_V} {x i rc : Nat} {vs STr : List Value} (hCF : js_CF s0 b L k pc ST k' as rest x i rc vs STr) {r : jv_V} {L1 : jv_L} {g1 : jv_S} (hm : js_Met l s0 b n xs D k' vs L g r L1 g1) (hr1 : cells + (L1.length - L.length) ≤ R.cells) (hr2 : slots + (js_sz L1 - js_sz L) ≤ R.slots)
    (kk : ∀ (H' : Heap) (locs' : List Loc) (v : Option Value), jr_M s0 b n xs D s L1 g1 H' → js_F s0 s H' locs' → js_O s0 b L1 r v → W p l e R s m args below meth c H' locs' (cells + (L1.length - L.length)) (slots + (js_sz L1 - js_sz L)) Q (F0 m (pc + 3) LS (v.toList ++ STr))) : W p l e R s m args below meth c H locs cells slots Q (F0 m pc LS ST) := by
  obtain ⟨hop, hiv, hrc, rfl, hSv, hSr, hcat⟩ := hCF
  obtain ⟨hk, hk1, hh, hrl, hlink, hdesc, hop2⟩ := hiv
  obtain ⟨hcode, hini, hmh, hpl, hown⟩ := hC.2.2.2.2.2.2.2.2 k' hk hk1
  have hts := X.2.2.2.2.2.1
  have hN := X.2.2.2.2.2.2.2.2.1
  have hpay : ∀ w ∈ js_w k', ∀ (a' : Array Value) (U : State), s.WarmedH U.vm → w.before a' U = true := by
    intro w hw a' U hW
    rcases List.mem_cons.mp hw with rfl | hw
    · exact word_at hW (js_good _ hcode) (hts _ hcode)
    · exact word_at hW (js_good _ hw) (hts _ hw)
  have hNl : ∀ host, (jm_own k, x, jm_y k', host) ∈ jm_nest → (Cond.methodLinkNest (jm_own k) x (jm_y k') host).before args s = true := fun host h => va_Nw.use (w := Cond.methodLinkNest (jm_own k) x (jm_y k') host) rfl (hN.1 (jm_own k, x, jm_y k', host) h)
  have hlenv := hSv.len
  have hn : ∀ sig, parseMethodDescriptor (jm_y k').desc = some sig → (as.length - (if rc = 0 then 0 else 1)) = sig.parameters.length := by
    intro sig h
    rw [h] at hdesc
    exact (Option.some.inj hdesc).symm
  have hfrm : (js_rm k' (L1.length - L.length) (js_sz L1 - js_sz L)).frames + 1 ≤ R.frames := by show jm_ht k' + 1 ≤ _; omega
  have hlom : 8 + (jv_ml k' + 11) + (js_rm k' (L1.length - L.length) (js_sz L1 - js_sz L)).locals ≤ R.locals := by show _ + jm_rl k' ≤ _; omega
  have hfb : FrameBlind (js_Pc s0 b n xs D vs L g) := fun a U fr mk q => ⟨q.1, q.2.1.moved (Vm.Alike.refl U.vm), ⟨fun z hz => va_Nw.same (w := .methodLinkNest z.1 z.2.1 z.2.2.1 z.2.2.2) rfl rfl (q.2.2.1.1 z hz), q.2.2.1.2.1.moved (Vm.Alike.refl U.vm), q.2.2.1.2.2.moved (Vm.Alike.refl U.vm)⟩, va_K.moved (u := U) (U := U.calling fr mk a) (Vm.Alike.refl U.vm) q.2.2.2⟩
  have hpre : ∀ U : State, U.heap = H → s.WarmedH U.vm → js_Pc s0 b n xs D vs L g vs.toArray U := fun U hU hW => ⟨rfl, by rw [hU]; exact hM.moved hW.alike, hN.warm hW, va_K.moved hW.alike X.2.2.2.2.2.2.2.2.2⟩
  have S : CallFix p m c (jm_c k) (jv_ml k) s args jm_ws (jm_own k) := ⟨X.1, X.2.1, X.2.2.2.1, X.2.2.2.2.1, hts⟩
  have hW8 : 2 * (F0 m pc LS (vs.reverse ++ STr)).monitorRoom + (STr.map fun v => v.category).sum ≤ 8 := lv_room (by rw [hSr.cat]; exact hcat)
  have fin : va_Run p l e R s m args below meth c H locs cells slots (L1.length - L.length) (js_sz L1 - js_sz L) (F0 m pc LS (vs.reverse ++ STr)) STr (js_Qc s0 b n xs D L1 g1 r vs.toArray) (fun q => s0 ≤ q) → W p l e R s m args below meth c H locs cells slots Q (F0 m pc LS (vs.reverse ++ STr)) := by
    intro run T hT Xs
    obtain ⟨v, st₀, t, T', Lc, h0, X', hL, e1, e2, ⟨v', hv', hO, hM1, hold, hsz⟩, st⟩ := run T hT Xs
    cases hv'
    have hal : s.vm.Alike t.vm := by rw [← e2]; exact X'.warmed.alike
    have hM2 : jr_M s0 b n xs D s L1 g1 T'.heap := by rw [e1]; exact hM1.moved hal.symm
    have hF2 : js_F s0 s T'.heap (locs ++ Lc) := by
      refine ⟨by rw [e1]; rw [h0] at hsz; exact Nat.le_trans hF.1 hsz, fun q hq => by rw [e1, hold q hq, h0]; exact hF.2.1 q hq, fun z hz => ?_⟩
      rcases List.mem_append.mp hz with h | h
      · exact hF.2.2 z h
      · exact hL z h
    obtain ⟨t2, a1, b1⟩ := kk T'.heap (locs ++ Lc) v hM2 hF2 hO T' rfl X'
    exact ⟨t2, st t2 a1, b1⟩
  apply fin
  by_cases h2 : i = 2
  · rw [if_pos h2] at hop2
    obtain ⟨rfl, hstat⟩ := hop2
    have hd : decode (jm_c k) pc = .ok (.invokestatic x, 3) := by
      rcases hop with ⟨h, -⟩ | ⟨h, -⟩ | ⟨-, h⟩
      · omega
      · omega
      · exact h
    rw [if_pos rfl, Nat.sub_zero] at hn
    rcases hlink with hl1 | ⟨host, hl1⟩
    · exact va_runS (bytes := jm_c k') (maxL := jv_ml k') (ret := jm_ret k') (n := as.length) S hm ⟨⟨rfl, rfl, hfrm, hlom, hpay, List.mem_cons_self, hts _ hcode, hts _ hini, hmh, hn, hts _ hl1⟩, hts _ hstat⟩ ⟨hfb, hpre⟩ rfl hlenv hlz rfl hW8 hd ⟨hr1, hr2⟩
    · exact va_runSN (host := host) (bytes := jm_c k') (maxL := jv_ml k') (ret := jm_ret k') (n := as.length) S hm ⟨⟨⟨rfl, rfl, hfrm, hlom, hpay, List.mem_cons_self⟩, hts _ hcode, hts _ hini, hmh, hn, hNl host hl1⟩, hts _ hstat, trivial⟩ ⟨hfb, hpre⟩ rfl hlenv hlz rfl hW8 hd ⟨hr1, hr2⟩
  · rw [if_neg h2] at hop2
    obtain ⟨hc0, hrc10, hinst, ⟨T0, N0, hvw⟩, hop3⟩ := hop2
    obtain ⟨va, vs', rfl⟩ : ∃ va vs', vs = va :: vs' := by
      cases vs with
      | nil => simp at hlenv; omega
      | cons a t => exact ⟨a, t, rfl⟩
    obtain ⟨aa, as', rfl⟩ : ∃ aa as', as = aa :: as' := by
      cases as with
      | nil => simp at hc0
      | cons a t => exact ⟨a, t, rfl⟩
    have hrecv : ∃ (q nn : Nat) (rs : List Nat), va = .ref (jr_ad s0 b q) ∧ L[q]? = some (rc - 1, nn, rs) := by
      rcases hrc (by omega) with ⟨q, nn, rs, t, he, hq⟩ | ⟨rfl, q, t, he, h0, hq⟩
      · cases he
        exact ⟨q, nn, rs, hSv.2.1.2, hq⟩
      · cases he
        rcases hSv.2.1 with ⟨h, -⟩ | ⟨-, -, h⟩
        · omega
        · exact ⟨_, 8, [], h, hq⟩
    obtain ⟨q, nn, rs, rfl, hq⟩ := hrecv
    have hst : (Value.ref (jr_ad s0 b q) :: vs').reverse ++ STr = vs'.reverse ++ .ref (jr_ad s0 b q) :: STr := by simp
    rw [hst] at hW8 ⊢
    have hn1 : ∀ sig, parseMethodDescriptor (jm_y k').desc = some sig → as'.length = sig.parameters.length := by
      intro sig h
      have := hn sig h
      rw [if_neg (by omega)] at this
      simpa using this
    have hlen1 : vs'.length = as'.length := by simpa using hlenv
    by_cases h1 : i = 1
    · rw [if_pos h1] at hop3
      obtain ⟨hname, hret⟩ := hop3
      have hd : decode (jm_c k) pc = .ok (.invokespecial x, 3) := by
        rcases hop with ⟨h, -⟩ | ⟨-, h⟩ | ⟨h, -⟩
        · omega
        · exact h
        · omega
      have hcode' : Cond.code (jm_y k') (jm_c k') (jv_ml k') none ∈ js_w k' := by
        have : Cond.code (jm_y k') (jm_c k') (jv_ml k') (jm_ret k') ∈ js_w k' := List.mem_cons_self
        rw [hret] at this
        exact this
      have hcode2 : (Cond.code (jm_y k') (jm_c k') (jv_ml k') none).before args s = true := by
        have := hts _ hcode
        rw [hret] at this
        exact this
      rcases hlink with hl1 | ⟨host, hl1⟩
      · exact va_runI (bytes := jm_c k') (maxL := jv_ml k') (n := as'.length) S hm ⟨⟨rfl, rfl, hfrm, hlom, hpay, hcode', hcode2, hts _ hini, hmh, hn1, hts _ hl1⟩, hname, hts _ hinst⟩ ⟨hfb, hpre⟩ rfl hlen1 hlz rfl hW8 hd ⟨hr1, hr2⟩
      · exact va_runIN (host := host) (bytes := jm_c k') (maxL := jv_ml k') (n := as'.length) S hm ⟨⟨⟨rfl, rfl, hfrm, hlom, hpay, hcode'⟩, hcode2, hts _ hini, hmh, hn1, hNl host hl1⟩, hname, hts _ hinst⟩ ⟨hfb, hpre⟩ rfl hlen1 hlz rfl hW8 hd ⟨hr1, hr2⟩
    · rw [if_neg h1] at hop3
      obtain ⟨h12, hsel⟩ := hop3
      have hd : decode (jm_c k) pc = .ok (.invokevirtual x, 3) := by
        rcases hop with ⟨-, h⟩ | ⟨h, -⟩ | ⟨h, -⟩
        · exact h
        · omega
        · omega
      obtain ⟨q', -, cell, c1, c2, -⟩ := hM.at' hq (by show rc - 1 ≠ 5; omega)
      have hcls : cell.cls = D.1 (rc - 1 - 10) := by
        rcases c2.2 with hhh | hhh
        · have := hhh.1
          dsimp only at this
          omega
        · exact hhh.2.1
      have hfc : s.vm.findClass (jm_y k').cls = some cell.cls := by
        rw [hcls, show rc - 1 - 10 = rc - 11 by omega]
        exact (X.2.2.2.2.2.2.2.2.2.1 _ _ hvw).2.1
      have hcb : ∃ cellB : Cell, H[jr_ad s0 b q]? = some cellB ∧ cellB.vm.isStatics = false ∧ s.vm.findClass (jm_y k').cls = some cellB.cls := ⟨cell, c1, by rw [c2.1]; rfl, hfc⟩
      rcases hlink with hl1 | ⟨host, hl1⟩
      · exact va_runV (bytes := jm_c k') (maxL := jv_ml k') (ret := jm_ret k') (n := as'.length) S hm ⟨⟨rfl, rfl, hfrm, hlom, hpay, List.mem_cons_self, hts _ hcode, hts _ hini, hmh, hn1, hts _ hl1⟩, hts _ hinst, hts _ hsel⟩ ⟨hfb, hcb, hpre⟩ rfl hlen1 hlz rfl hW8 hd ⟨hr1, hr2⟩
      · exact va_runVN (host := host) (bytes := jm_c k') (maxL := jv_ml k') (ret := jm_ret k') (n := as'.length) S hm ⟨⟨⟨rfl, rfl, hfrm, hlom, hpay, List.mem_cons_self⟩, hts _ hcode, hts _ hini, hmh, hn1, hNl host hl1⟩, hts _ hinst, hts _ hsel⟩ ⟨hfb, hcb, hpre⟩ rfl hlen1 hlz rfl hW8 hd ⟨hr1, hr2⟩
end
end
section
/-! ===== every run ===== -/
theorem js_body {l : Launch} {s0 b n : Nat} {xs : Nat → Int32} {D : va_G} (hC : js_Cl) (hA : js_All) : ∀ fuel, js_Body l s0 b n xs D fuel := by
  intro fuel
  induction fuel with
  | zero => intro k pc ls st L g r L' g' h; cases h
  | succ fuel ih =>
    intro k pc ls st L g r L' g' h hk hk1 p e R s m args below meth c H locs cells slots Q LS ST X hM hl hS hF hfr hlo hr1 hr2 hret
    have hgr := jv_ex_grow _ _ _ _ _ _ _ _ _ _ h
    rw [jv_ex] at h
    cases he : jv_fi (jv_T k) pc with
    | none => rw [he] at h; cases h
    | some q =>
      rw [he] at h
      dsimp only at h
      obtain ⟨hq, rfl⟩ := jv_fi_mem he
      have hie := hA k hk hk1 q hq
      cases hs : jv_sx q ls st L g with
      | none => rw [hs] at h; cases h
      | some y =>
        obtain ⟨cs, nx⟩ := y
        rw [hs] at h
        dsimp only at h
        have hm := js_Gd.st (L := L) (g := g) cs nx hs
        cases hok : jv_ok cs with
        | false => rw [hok] at h; cases h
        | true =>
          rw [hok] at h
          dsimp only at h
          have go : ∀ {z : jv_Go}, js_P L z → jv_ex jv_T jv_ml fuel k z.1 z.2.1 z.2.2.1 z.2.2.2.1 z.2.2.2.2 = some (r, L', g') → js_KG p l e R s m args below meth c cells slots Q s0 b n xs D k L z ∧ cells + (z.2.2.2.1.length - L.length) ≤ R.cells ∧ slots + (js_sz z.2.2.2.1 - js_sz L) ≤ R.slots := by
            intro z hz hx
            have hg2 := jv_ex_grow _ _ _ _ _ _ _ _ _ _ hx
            have z1 := hz.1.1
            have hg3 := hg2.1.1
            have hg4 := hg2.2
            have hgr1 := hgr.1.1
            have hgr2 := hgr.2
            have z2 := hz.2
            refine ⟨?_, by omega, by omega⟩
            intro H' locs' LS' ST' hM' _ hl' hS' hF'
            refine ih k _ _ _ _ _ r L' g' hx hk hk1 X hM' hl' hS' hF' hfr hlo (by omega) (by omega) (fun H2 locs2 LS2 ST2 pc2 hM2 hF2 hR2 => ?_)
            have := hret H2 locs2 LS2 ST2 pc2 hM2 hF2 hR2
            have e1 : cells + (z.2.2.2.1.length - L.length) + (L'.length - z.2.2.2.1.length) = cells + (L'.length - L.length) := by omega
            have e2 : slots + (js_sz z.2.2.2.1 - js_sz L) + (js_sz L' - js_sz z.2.2.2.1) = slots + (js_sz L' - js_sz L) := by omega
            rw [e1, e2]
            exact this
          refine js_step hC X hM hl hS hF hfr hlo hie hs hok ?_
          rcases nx with ⟨li, d⟩ | ⟨z, f⟩ | ⟨z, f⟩ | ⟨r', L2, g2⟩ | ⟨k', as, rest⟩ <;> unfold jv_nx at h <;> dsimp only at h
          · rw [jv_dl_id] at h
            exact go (js_dl_P li d hm.1 hm.2) h
          · exact (go (hm _) h).1
          · exact (go (hm _) h).1
          · cases h
            obtain ⟨rfl, rfl⟩ := hm
            intro _ _ hR
            have := hret H locs LS ST q.1 hM hF hR
            simpa using this
          · cases hb : Nat.ble (jv_fl as).length (jv_ml k') with
            | false => rw [hb] at h; cases h
            | true =>
              rw [hb] at h
              dsimp only at h
              have hb := Nat.le_of_ble_eq_true hb
              cases hc : jv_ex jv_T jv_ml fuel k' 0 (jv_en (jv_ml k') as) [] L g with
              | none => rw [hc] at h; cases h
              | some w =>
                obtain ⟨r1, L1, g1⟩ := w
                rw [hc] at h
                have hg1 := jv_ex_grow _ _ _ _ _ _ _ _ _ _ hc
                have hg2 := jv_ex_grow _ _ _ _ _ _ _ _ _ _ h
                have a1 := hg1.1.1
                have a2 := hg1.2
                have a3 := hg2.1.1
                have a4 := hg2.2
                intro x i rc vs STr hCF
                have hk' := hCF.2.1.1
                have hk1' := hCF.2.1.2.1
                have hSv := hCF.2.2.2.2.1
                have hSr := hCF.2.2.2.2.2.1
                refine js_call hC X hM hl.1 hF hfr hlo hCF (js_met hC ih hc hk' hk1' hSv hb) (by omega) (by omega) (fun H' locs' v hM' hF' hO => ?_)
                have hle : jr_le L L1 := hg1.1
                have hS' : js_S s0 b L1 (v.toList ++ STr) (jv_pu r1 rest) := by
                  have hSr' := hSr.mono hle
                  rcases hO with ⟨rfl, rfl⟩ | ⟨hu, w, rfl, hw⟩
                  · exact hSr'
                  · have : jv_pu r1 rest = r1 :: rest := by
                      rcases r1 with a | a | a | a | a | a
                      · rfl
                      · rfl
                      · rfl
                      · rfl
                      · rfl
                      · exact absurd rfl hu
                    rw [this]
                    exact ⟨hu, hw, hSr'⟩
                refine ih k _ _ _ _ _ r L' g' h hk hk1 X hM' (hl.mono hle) hS' hF' hfr hlo (by omega) (by omega) (fun H2 locs2 LS2 ST2 pc2 hM2 hF2 hR2 => ?_)
                have := hret H2 locs2 LS2 ST2 pc2 hM2 hF2 hR2
                have e1 : cells + (L1.length - L.length) + (L'.length - L1.length) = cells + (L'.length - L.length) := by omega
                have e2 : slots + (js_sz L1 - js_sz L) + (js_sz L' - js_sz L1) = slots + (js_sz L' - js_sz L) := by omega
                rw [e1, e2]
                exact this
end
section
/-! ===== the links, and the words behind them (written by a program) ===== -/
theorem js_wm {i : Nat} {w : Cond} (h : tables_1[i]? = some w) (hg : goodWord w = true) : w ∈ jm_ws := List.mem_filter.mpr ⟨List.mem_append_right _ (List.mem_of_getElem? h), hg⟩
theorem js_wp {i : Nat} {q : MethodName × Nat} (h : lw_privs[i]? = some q) : Cond.selects q.1.cls q.1 q.1 ∈ jm_ws := List.mem_filter.mpr ⟨List.mem_append_left _ (List.mem_map.mpr ⟨q, List.mem_of_getElem? h, rfl⟩), rfl⟩
def js_FL_0 : List (Nat × Nat × Nat × Nat) := [(0, 9, 10, 3), (0, 15, 10, 4), (0, 18, 10, 5), (0, 21, 10, 6), (0, 24, 10, 7), (0, 28, 10, 0), (0, 32, 10, 1), (0, 36, 10, 2), (0, 40, 20, 5), (0, 51, 13, 0), (0, 60, 13, 1), (0, 67, 20, 2), (0, 75, 19, 2), (0, 89, 20, 3), (1, 9, 11, 4), (1, 15, 11, 6), (1, 18, 11, 7), (1, 21, 11, 0), (1, 24, 11, 1), (1, 27, 11, 2), (1, 30, 11, 3), (2, 9, 12, 5), (2, 15, 12, 6), (2, 18, 12, 8), (2, 22, 12, 0), (2, 26, 12, 1), (2, 30, 12, 2), (2, 39, 12, 3), (2, 47, 12, 4), (2, 50, 20, 5), (2, 64, 19, 8), (2, 68, 19, 9), (2, 71, 12, 7), (2, 78, 13, 1), (2, 83, 19, 3), (3, 9, 13, 2), (3, 15, 13, 3), (3, 18, 13, 4), (3, 23, 13, 5), (3, 26, 13, 6)]
set_option maxRecDepth 1000000 in
set_option maxHeartbeats 8000000 in
theorem js_FL_0_ok : ∀ q ∈ js_FL_0, 10 ≤ q.2.2.1 ∧ ∃ (C : String) (T : u_T) (N : Nat), vwCl[q.2.2.1 - 10]? = some (C, T, N) ∧ q.2.2.2 < N ∧ Cond.fieldLink (jm_on.getD q.1 "") q.2.1 C (T q.2.2.2).2.1 (T q.2.2.2).2.2.1 ∈ jm_ws ∧ (T q.2.2.2).1 = C := List.forall_mem_cons.mpr ⟨⟨by decide, RX0, TX0, 8, rfl, by decide, js_wm (i := 399) rfl rfl, rfl⟩, List.forall_mem_cons.mpr ⟨⟨by decide, RX0, TX0, 8, rfl, by decide, js_wm (i := 401) rfl rfl, rfl⟩, List.forall_mem_cons.mpr ⟨⟨by decide, RX0, TX0, 8, rfl, by decide, js_wm (i := 403) rfl rfl, rfl⟩, List.forall_mem_cons.mpr ⟨⟨by decide, RX0, TX0, 8, rfl, by decide, js_wm (i := 404) rfl rfl, rfl⟩, List.forall_mem_cons.mpr ⟨⟨by decide, RX0, TX0, 8, rfl, by decide, js_wm (i := 405) rfl rfl, rfl⟩, List.forall_mem_cons.mpr ⟨⟨by decide, RX0, TX0, 8, rfl, by decide, js_wm (i := 396) rfl rfl, rfl⟩, List.forall_mem_cons.mpr ⟨⟨by decide, RX0, TX0, 8, rfl, by decide, js_wm (i := 397) rfl rfl, rfl⟩, List.forall_mem_cons.mpr ⟨⟨by decide, RX0, TX0, 8, rfl, by decide, js_wm (i := 398) rfl rfl, rfl⟩, List.forall_mem_cons.mpr ⟨⟨by decide, RX10, TX10, 6, rfl, by decide, js_wm (i := 166) rfl rfl, rfl⟩, List.forall_mem_cons.mpr ⟨⟨by decide, RX3, TX3, 9, rfl, by decide, js_wm (i := 87) rfl rfl, rfl⟩, List.forall_mem_cons.mpr ⟨⟨by decide, RX3, TX3, 9, rfl, by decide, js_wm (i := 93) rfl rfl, rfl⟩, List.forall_mem_cons.mpr ⟨⟨by decide, RX10, TX10, 6, rfl, by decide, js_wm (i := 150) rfl rfl, rfl⟩, List.forall_mem_cons.mpr ⟨⟨by decide, RX9, TX9, 11, rfl, by decide, js_wm (i := 192) rfl rfl, rfl⟩, List.forall_mem_cons.mpr ⟨⟨by decide, RX10, TX10, 6, rfl, by decide, js_wm (i := 156) rfl rfl, rfl⟩, List.forall_mem_cons.mpr ⟨⟨by decide, RX1, TX1, 8, rfl, by decide, js_wm (i := 801) rfl rfl, rfl⟩, List.forall_mem_cons.mpr ⟨⟨by decide, RX1, TX1, 8, rfl, by decide, js_wm (i := 806) rfl rfl, rfl⟩, List.forall_mem_cons.mpr ⟨⟨by decide, RX1, TX1, 8, rfl, by decide, js_wm (i := 809) rfl rfl, rfl⟩, List.forall_mem_cons.mpr ⟨⟨by decide, RX1, TX1, 8, rfl, by decide, js_wm (i := 790) rfl rfl, rfl⟩, List.forall_mem_cons.mpr ⟨⟨by decide, RX1, TX1, 8, rfl, by decide, js_wm (i := 793) rfl rfl, rfl⟩, List.forall_mem_cons.mpr ⟨⟨by decide, RX1, TX1, 8, rfl, by decide, js_wm (i := 796) rfl rfl, rfl⟩, List.forall_mem_cons.mpr ⟨⟨by decide, RX1, TX1, 8, rfl, by decide, js_wm (i := 798) rfl rfl, rfl⟩, List.forall_mem_cons.mpr ⟨⟨by decide, RX2, TX2, 9, rfl, by decide, js_wm (i := 365) rfl rfl, rfl⟩, List.forall_mem_cons.mpr ⟨⟨by decide, RX2, TX2, 9, rfl, by decide, js_wm (i := 366) rfl rfl, rfl⟩, List.forall_mem_cons.mpr ⟨⟨by decide, RX2, TX2, 9, rfl, by decide, js_wm (i := 370) rfl rfl, rfl⟩, List.forall_mem_cons.mpr ⟨⟨by decide, RX2, TX2, 9, rfl, by decide, js_wm (i := 360) rfl rfl, rfl⟩, List.forall_mem_cons.mpr ⟨⟨by decide, RX2, TX2, 9, rfl, by decide, js_wm (i := 361) rfl rfl, rfl⟩, List.forall_mem_cons.mpr ⟨⟨by decide, RX2, TX2, 9, rfl, by decide, js_wm (i := 362) rfl rfl, rfl⟩, List.forall_mem_cons.mpr ⟨⟨by decide, RX2, TX2, 9, rfl, by decide, js_wm (i := 363) rfl rfl, rfl⟩, List.forall_mem_cons.mpr ⟨⟨by decide, RX2, TX2, 9, rfl, by decide, js_wm (i := 364) rfl rfl, rfl⟩, List.forall_mem_cons.mpr ⟨⟨by decide, RX10, TX10, 6, rfl, by decide, js_wm (i := 165) rfl rfl, rfl⟩, List.forall_mem_cons.mpr ⟨⟨by decide, RX9, TX9, 11, rfl, by decide, js_wm (i := 204) rfl rfl, rfl⟩, List.forall_mem_cons.mpr ⟨⟨by decide, RX9, TX9, 11, rfl, by decide, js_wm (i := 206) rfl rfl, rfl⟩, List.forall_mem_cons.mpr ⟨⟨by decide, RX2, TX2, 9, rfl, by decide, js_wm (i := 368) rfl rfl, rfl⟩, List.forall_mem_cons.mpr ⟨⟨by decide, RX3, TX3, 9, rfl, by decide, js_wm (i := 95) rfl rfl, rfl⟩, List.forall_mem_cons.mpr ⟨⟨by decide, RX9, TX9, 11, rfl, by decide, js_wm (i := 195) rfl rfl, rfl⟩, List.forall_mem_cons.mpr ⟨⟨by decide, RX3, TX3, 9, rfl, by decide, js_wm (i := 100) rfl rfl, rfl⟩, List.forall_mem_cons.mpr ⟨⟨by decide, RX3, TX3, 9, rfl, by decide, js_wm (i := 102) rfl rfl, rfl⟩, List.forall_mem_cons.mpr ⟨⟨by decide, RX3, TX3, 9, rfl, by decide, js_wm (i := 109) rfl rfl, rfl⟩, List.forall_mem_cons.mpr ⟨⟨by decide, RX3, TX3, 9, rfl, by decide, js_wm (i := 113) rfl rfl, rfl⟩, List.forall_mem_cons.mpr ⟨⟨by decide, RX3, TX3, 9, rfl, by decide, js_wm (i := 115) rfl rfl, rfl⟩, fun _ h => absurd h List.not_mem_nil⟩⟩⟩⟩⟩⟩⟩⟩⟩⟩⟩⟩⟩⟩⟩⟩⟩⟩⟩⟩⟩⟩⟩⟩⟩⟩⟩⟩⟩⟩⟩⟩⟩⟩⟩⟩⟩⟩⟩⟩
def js_FL_1 : List (Nat × Nat × Nat × Nat) := [(3, 29, 13, 7), (3, 32, 13, 8), (3, 35, 13, 0), (3, 43, 13, 1), (3, 46, 17, 3), (3, 49, 17, 4), (3, 50, 17, 0), (3, 57, 17, 1), (3, 58, 17, 2), (4, 11, 14, 0), (4, 14, 14, 1), (4, 18, 14, 2), (5, 11, 15, 2), (5, 15, 15, 3), (5, 18, 15, 4), (5, 21, 15, 5), (5, 24, 15, 6), (5, 27, 15, 7), (5, 30, 15, 12), (5, 34, 15, 0), (5, 38, 15, 1), (5, 42, 13, 1), (5, 47, 13, 0), (5, 50, 13, 4), (5, 53, 20, 5), (5, 65, 15, 8), (5, 84, 15, 9), (5, 87, 15, 10), (5, 90, 15, 11), (5, 93, 20, 2), (5, 118, 13, 3), (5, 125, 20, 3), (6, 11, 16, 3), (6, 16, 16, 4), (6, 20, 16, 7), (6, 24, 16, 0), (6, 28, 16, 1), (6, 32, 16, 2), (6, 36, 20, 5), (6, 46, 13, 1)]
set_option maxRecDepth 1000000 in
set_option maxHeartbeats 8000000 in
theorem js_FL_1_ok : ∀ q ∈ js_FL_1, 10 ≤ q.2.2.1 ∧ ∃ (C : String) (T : u_T) (N : Nat), vwCl[q.2.2.1 - 10]? = some (C, T, N) ∧ q.2.2.2 < N ∧ Cond.fieldLink (jm_on.getD q.1 "") q.2.1 C (T q.2.2.2).2.1 (T q.2.2.2).2.2.1 ∈ jm_ws ∧ (T q.2.2.2).1 = C := List.forall_mem_cons.mpr ⟨⟨by decide, RX3, TX3, 9, rfl, by decide, js_wm (i := 117) rfl rfl, rfl⟩, List.forall_mem_cons.mpr ⟨⟨by decide, RX3, TX3, 9, rfl, by decide, js_wm (i := 119) rfl rfl, rfl⟩, List.forall_mem_cons.mpr ⟨⟨by decide, RX3, TX3, 9, rfl, by decide, js_wm (i := 84) rfl rfl, rfl⟩, List.forall_mem_cons.mpr ⟨⟨by decide, RX3, TX3, 9, rfl, by decide, js_wm (i := 97) rfl rfl, rfl⟩, List.forall_mem_cons.mpr ⟨⟨by decide, RX7, TX7, 6, rfl, by decide, js_wm (i := 60) rfl rfl, rfl⟩, List.forall_mem_cons.mpr ⟨⟨by decide, RX7, TX7, 6, rfl, by decide, js_wm (i := 62) rfl rfl, rfl⟩, List.forall_mem_cons.mpr ⟨⟨by decide, RX7, TX7, 6, rfl, by decide, js_wm (i := 54) rfl rfl, rfl⟩, List.forall_mem_cons.mpr ⟨⟨by decide, RX7, TX7, 6, rfl, by decide, js_wm (i := 56) rfl rfl, rfl⟩, List.forall_mem_cons.mpr ⟨⟨by decide, RX7, TX7, 6, rfl, by decide, js_wm (i := 58) rfl rfl, rfl⟩, List.forall_mem_cons.mpr ⟨⟨by decide, RX4, TX4, 3, rfl, by decide, js_wm (i := 34) rfl rfl, rfl⟩, List.forall_mem_cons.mpr ⟨⟨by decide, RX4, TX4, 3, rfl, by decide, js_wm (i := 36) rfl rfl, rfl⟩, List.forall_mem_cons.mpr ⟨⟨by decide, RX4, TX4, 3, rfl, by decide, js_wm (i := 38) rfl rfl, rfl⟩, List.forall_mem_cons.mpr ⟨⟨by decide, RX5, TX5, 13, rfl, by decide, js_wm (i := 275) rfl rfl, rfl⟩, List.forall_mem_cons.mpr ⟨⟨by decide, RX5, TX5, 13, rfl, by decide, js_wm (i := 276) rfl rfl, rfl⟩, List.forall_mem_cons.mpr ⟨⟨by decide, RX5, TX5, 13, rfl, by decide, js_wm (i := 277) rfl rfl, rfl⟩, List.forall_mem_cons.mpr ⟨⟨by decide, RX5, TX5, 13, rfl, by decide, js_wm (i := 278) rfl rfl, rfl⟩, List.forall_mem_cons.mpr ⟨⟨by decide, RX5, TX5, 13, rfl, by decide, js_wm (i := 279) rfl rfl, rfl⟩, List.forall_mem_cons.mpr ⟨⟨by decide, RX5, TX5, 13, rfl, by decide, js_wm (i := 280) rfl rfl, rfl⟩, List.forall_mem_cons.mpr ⟨⟨by decide, RX5, TX5, 13, rfl, by decide, js_wm (i := 288) rfl rfl, rfl⟩, List.forall_mem_cons.mpr ⟨⟨by decide, RX5, TX5, 13, rfl, by decide, js_wm (i := 273) rfl rfl, rfl⟩, List.forall_mem_cons.mpr ⟨⟨by decide, RX5, TX5, 13, rfl, by decide, js_wm (i := 274) rfl rfl, rfl⟩, List.forall_mem_cons.mpr ⟨⟨by decide, RX3, TX3, 9, rfl, by decide, js_wm (i := 91) rfl rfl, rfl⟩, List.forall_mem_cons.mpr ⟨⟨by decide, RX3, TX3, 9, rfl, by decide, js_wm (i := 85) rfl rfl, rfl⟩, List.forall_mem_cons.mpr ⟨⟨by decide, RX3, TX3, 9, rfl, by decide, js_wm (i := 110) rfl rfl, rfl⟩, List.forall_mem_cons.mpr ⟨⟨by decide, RX10, TX10, 6, rfl, by decide, js_wm (i := 167) rfl rfl, rfl⟩, List.forall_mem_cons.mpr ⟨⟨by decide, RX5, TX5, 13, rfl, by decide, js_wm (i := 281) rfl rfl, rfl⟩, List.forall_mem_cons.mpr ⟨⟨by decide, RX5, TX5, 13, rfl, by decide, js_wm (i := 282) rfl rfl, rfl⟩, List.forall_mem_cons.mpr ⟨⟨by decide, RX5, TX5, 13, rfl, by decide, js_wm (i := 284) rfl rfl, rfl⟩, List.forall_mem_cons.mpr ⟨⟨by decide, RX5, TX5, 13, rfl, by decide, js_wm (i := 286) rfl rfl, rfl⟩, List.forall_mem_cons.mpr ⟨⟨by decide, RX10, TX10, 6, rfl, by decide, js_wm (i := 152) rfl rfl, rfl⟩, List.forall_mem_cons.mpr ⟨⟨by decide, RX3, TX3, 9, rfl, by decide, js_wm (i := 106) rfl rfl, rfl⟩, List.forall_mem_cons.mpr ⟨⟨by decide, RX10, TX10, 6, rfl, by decide, js_wm (i := 159) rfl rfl, rfl⟩, List.forall_mem_cons.mpr ⟨⟨by decide, RX6, TX6, 8, rfl, by decide, js_wm (i := 243) rfl rfl, rfl⟩, List.forall_mem_cons.mpr ⟨⟨by decide, RX6, TX6, 8, rfl, by decide, js_wm (i := 244) rfl rfl, rfl⟩, List.forall_mem_cons.mpr ⟨⟨by decide, RX6, TX6, 8, rfl, by decide, js_wm (i := 249) rfl rfl, rfl⟩, List.forall_mem_cons.mpr ⟨⟨by decide, RX6, TX6, 8, rfl, by decide, js_wm (i := 240) rfl rfl, rfl⟩, List.forall_mem_cons.mpr ⟨⟨by decide, RX6, TX6, 8, rfl, by decide, js_wm (i := 241) rfl rfl, rfl⟩, List.forall_mem_cons.mpr ⟨⟨by decide, RX6, TX6, 8, rfl, by decide, js_wm (i := 242) rfl rfl, rfl⟩, List.forall_mem_cons.mpr ⟨⟨by decide, RX10, TX10, 6, rfl, by decide, js_wm (i := 164) rfl rfl, rfl⟩, List.forall_mem_cons.mpr ⟨⟨by decide, RX3, TX3, 9, rfl, by decide, js_wm (i := 92) rfl rfl, rfl⟩, fun _ h => absurd h List.not_mem_nil⟩⟩⟩⟩⟩⟩⟩⟩⟩⟩⟩⟩⟩⟩⟩⟩⟩⟩⟩⟩⟩⟩⟩⟩⟩⟩⟩⟩⟩⟩⟩⟩⟩⟩⟩⟩⟩⟩⟩⟩
def js_FL_2 : List (Nat × Nat × Nat × Nat) := [(6, 61, 13, 0), (6, 64, 19, 2), (6, 71, 13, 3), (6, 74, 20, 3), (6, 77, 16, 5), (6, 83, 16, 6), (7, 9, 17, 0), (7, 15, 17, 1), (7, 18, 17, 2), (7, 21, 17, 5), (7, 25, 17, 3), (7, 28, 17, 4), (8, 11, 18, 2), (8, 19, 18, 3), (8, 22, 18, 4), (8, 26, 18, 0), (8, 30, 18, 1), (8, 40, 18, 5), (8, 44, 18, 6), (8, 47, 13, 1), (8, 52, 13, 4), (8, 70, 11, 0), (8, 73, 11, 4), (8, 76, 11, 5), (8, 97, 11, 7), (8, 100, 11, 1), (8, 107, 13, 3), (8, 110, 11, 3), (8, 113, 20, 3), (8, 121, 11, 6), (9, 9, 19, 2), (9, 15, 19, 3), (9, 18, 19, 4), (9, 21, 19, 5), (9, 24, 19, 6), (9, 27, 19, 7), (9, 30, 19, 10), (9, 34, 19, 0), (9, 38, 19, 1), (9, 42, 20, 5)]
set_option maxRecDepth 1000000 in
set_option maxHeartbeats 8000000 in
theorem js_FL_2_ok : ∀ q ∈ js_FL_2, 10 ≤ q.2.2.1 ∧ ∃ (C : String) (T : u_T) (N : Nat), vwCl[q.2.2.1 - 10]? = some (C, T, N) ∧ q.2.2.2 < N ∧ Cond.fieldLink (jm_on.getD q.1 "") q.2.1 C (T q.2.2.2).2.1 (T q.2.2.2).2.2.1 ∈ jm_ws ∧ (T q.2.2.2).1 = C := List.forall_mem_cons.mpr ⟨⟨by decide, RX3, TX3, 9, rfl, by decide, js_wm (i := 88) rfl rfl, rfl⟩, List.forall_mem_cons.mpr ⟨⟨by decide, RX9, TX9, 11, rfl, by decide, js_wm (i := 191) rfl rfl, rfl⟩, List.forall_mem_cons.mpr ⟨⟨by decide, RX3, TX3, 9, rfl, by decide, js_wm (i := 103) rfl rfl, rfl⟩, List.forall_mem_cons.mpr ⟨⟨by decide, RX10, TX10, 6, rfl, by decide, js_wm (i := 155) rfl rfl, rfl⟩, List.forall_mem_cons.mpr ⟨⟨by decide, RX6, TX6, 8, rfl, by decide, js_wm (i := 245) rfl rfl, rfl⟩, List.forall_mem_cons.mpr ⟨⟨by decide, RX6, TX6, 8, rfl, by decide, js_wm (i := 247) rfl rfl, rfl⟩, List.forall_mem_cons.mpr ⟨⟨by decide, RX7, TX7, 6, rfl, by decide, js_wm (i := 53) rfl rfl, rfl⟩, List.forall_mem_cons.mpr ⟨⟨by decide, RX7, TX7, 6, rfl, by decide, js_wm (i := 55) rfl rfl, rfl⟩, List.forall_mem_cons.mpr ⟨⟨by decide, RX7, TX7, 6, rfl, by decide, js_wm (i := 57) rfl rfl, rfl⟩, List.forall_mem_cons.mpr ⟨⟨by decide, RX7, TX7, 6, rfl, by decide, js_wm (i := 63) rfl rfl, rfl⟩, List.forall_mem_cons.mpr ⟨⟨by decide, RX7, TX7, 6, rfl, by decide, js_wm (i := 59) rfl rfl, rfl⟩, List.forall_mem_cons.mpr ⟨⟨by decide, RX7, TX7, 6, rfl, by decide, js_wm (i := 61) rfl rfl, rfl⟩, List.forall_mem_cons.mpr ⟨⟨by decide, RX8, TX8, 7, rfl, by decide, js_wm (i := 327) rfl rfl, rfl⟩, List.forall_mem_cons.mpr ⟨⟨by decide, RX8, TX8, 7, rfl, by decide, js_wm (i := 328) rfl rfl, rfl⟩, List.forall_mem_cons.mpr ⟨⟨by decide, RX8, TX8, 7, rfl, by decide, js_wm (i := 329) rfl rfl, rfl⟩, List.forall_mem_cons.mpr ⟨⟨by decide, RX8, TX8, 7, rfl, by decide, js_wm (i := 325) rfl rfl, rfl⟩, List.forall_mem_cons.mpr ⟨⟨by decide, RX8, TX8, 7, rfl, by decide, js_wm (i := 326) rfl rfl, rfl⟩, List.forall_mem_cons.mpr ⟨⟨by decide, RX8, TX8, 7, rfl, by decide, js_wm (i := 331) rfl rfl, rfl⟩, List.forall_mem_cons.mpr ⟨⟨by decide, RX8, TX8, 7, rfl, by decide, js_wm (i := 333) rfl rfl, rfl⟩, List.forall_mem_cons.mpr ⟨⟨by decide, RX3, TX3, 9, rfl, by decide, js_wm (i := 98) rfl rfl, rfl⟩, List.forall_mem_cons.mpr ⟨⟨by decide, RX3, TX3, 9, rfl, by decide, js_wm (i := 112) rfl rfl, rfl⟩, List.forall_mem_cons.mpr ⟨⟨by decide, RX1, TX1, 8, rfl, by decide, js_wm (i := 791) rfl rfl, rfl⟩, List.forall_mem_cons.mpr ⟨⟨by decide, RX1, TX1, 8, rfl, by decide, js_wm (i := 802) rfl rfl, rfl⟩, List.forall_mem_cons.mpr ⟨⟨by decide, RX1, TX1, 8, rfl, by decide, js_wm (i := 804) rfl rfl, rfl⟩, List.forall_mem_cons.mpr ⟨⟨by decide, RX1, TX1, 8, rfl, by decide, js_wm (i := 810) rfl rfl, rfl⟩, List.forall_mem_cons.mpr ⟨⟨by decide, RX1, TX1, 8, rfl, by decide, js_wm (i := 794) rfl rfl, rfl⟩, List.forall_mem_cons.mpr ⟨⟨by decide, RX3, TX3, 9, rfl, by decide, js_wm (i := 108) rfl rfl, rfl⟩, List.forall_mem_cons.mpr ⟨⟨by decide, RX1, TX1, 8, rfl, by decide, js_wm (i := 799) rfl rfl, rfl⟩, List.forall_mem_cons.mpr ⟨⟨by decide, RX10, TX10, 6, rfl, by decide, js_wm (i := 160) rfl rfl, rfl⟩, List.forall_mem_cons.mpr ⟨⟨by decide, RX1, TX1, 8, rfl, by decide, js_wm (i := 807) rfl rfl, rfl⟩, List.forall_mem_cons.mpr ⟨⟨by decide, RX9, TX9, 11, rfl, by decide, js_wm (i := 190) rfl rfl, rfl⟩, List.forall_mem_cons.mpr ⟨⟨by decide, RX9, TX9, 11, rfl, by decide, js_wm (i := 194) rfl rfl, rfl⟩, List.forall_mem_cons.mpr ⟨⟨by decide, RX9, TX9, 11, rfl, by decide, js_wm (i := 197) rfl rfl, rfl⟩, List.forall_mem_cons.mpr ⟨⟨by decide, RX9, TX9, 11, rfl, by decide, js_wm (i := 199) rfl rfl, rfl⟩, List.forall_mem_cons.mpr ⟨⟨by decide, RX9, TX9, 11, rfl, by decide, js_wm (i := 201) rfl rfl, rfl⟩, List.forall_mem_cons.mpr ⟨⟨by decide, RX9, TX9, 11, rfl, by decide, js_wm (i := 202) rfl rfl, rfl⟩, List.forall_mem_cons.mpr ⟨⟨by decide, RX9, TX9, 11, rfl, by decide, js_wm (i := 209) rfl rfl, rfl⟩, List.forall_mem_cons.mpr ⟨⟨by decide, RX9, TX9, 11, rfl, by decide, js_wm (i := 188) rfl rfl, rfl⟩, List.forall_mem_cons.mpr ⟨⟨by decide, RX9, TX9, 11, rfl, by decide, js_wm (i := 189) rfl rfl, rfl⟩, List.forall_mem_cons.mpr ⟨⟨by decide, RX10, TX10, 6, rfl, by decide, js_wm (i := 163) rfl rfl, rfl⟩, fun _ h => absurd h List.not_mem_nil⟩⟩⟩⟩⟩⟩⟩⟩⟩⟩⟩⟩⟩⟩⟩⟩⟩⟩⟩⟩⟩⟩⟩⟩⟩⟩⟩⟩⟩⟩⟩⟩⟩⟩⟩⟩⟩⟩⟩⟩
def js_FL_3 : List (Nat × Nat × Nat × Nat) := [(9, 53, 19, 8), (9, 57, 13, 0), (9, 69, 19, 9), (9, 75, 13, 1), (9, 82, 20, 2), (9, 97, 13, 8), (9, 100, 20, 3), (9, 102, 13, 3), (10, 9, 20, 1), (10, 17, 20, 2), (10, 20, 20, 3), (10, 23, 20, 0), (10, 27, 20, 4), (10, 57, 20, 5), (10, 60, 13, 1), (10, 71, 13, 0), (10, 78, 13, 3), (10, 81, 13, 7), (10, 84, 13, 6), (11, 12, 21, 0), (11, 21, 21, 1), (11, 28, 21, 2), (11, 37, 21, 3), (11, 46, 21, 4), (11, 55, 21, 5), (11, 62, 21, 6), (11, 69, 21, 7), (11, 76, 21, 8), (11, 83, 21, 9), (11, 87, 21, 11), (11, 113, 14, 0), (11, 131, 13, 1), (11, 137, 13, 2), (11, 141, 13, 3), (11, 144, 13, 4), (11, 147, 18, 4), (11, 157, 13, 5), (11, 160, 20, 4), (11, 177, 20, 3), (11, 180, 20, 2)]
set_option maxRecDepth 1000000 in
set_option maxHeartbeats 8000000 in
theorem js_FL_3_ok : ∀ q ∈ js_FL_3, 10 ≤ q.2.2.1 ∧ ∃ (C : String) (T : u_T) (N : Nat), vwCl[q.2.2.1 - 10]? = some (C, T, N) ∧ q.2.2.2 < N ∧ Cond.fieldLink (jm_on.getD q.1 "") q.2.1 C (T q.2.2.2).2.1 (T q.2.2.2).2.2.1 ∈ jm_ws ∧ (T q.2.2.2).1 = C := List.forall_mem_cons.mpr ⟨⟨by decide, RX9, TX9, 11, rfl, by decide, js_wm (i := 203) rfl rfl, rfl⟩, List.forall_mem_cons.mpr ⟨⟨by decide, RX3, TX3, 9, rfl, by decide, js_wm (i := 86) rfl rfl, rfl⟩, List.forall_mem_cons.mpr ⟨⟨by decide, RX9, TX9, 11, rfl, by decide, js_wm (i := 207) rfl rfl, rfl⟩, List.forall_mem_cons.mpr ⟨⟨by decide, RX3, TX3, 9, rfl, by decide, js_wm (i := 96) rfl rfl, rfl⟩, List.forall_mem_cons.mpr ⟨⟨by decide, RX10, TX10, 6, rfl, by decide, js_wm (i := 151) rfl rfl, rfl⟩, List.forall_mem_cons.mpr ⟨⟨by decide, RX3, TX3, 9, rfl, by decide, js_wm (i := 120) rfl rfl, rfl⟩, List.forall_mem_cons.mpr ⟨⟨by decide, RX10, TX10, 6, rfl, by decide, js_wm (i := 157) rfl rfl, rfl⟩, List.forall_mem_cons.mpr ⟨⟨by decide, RX3, TX3, 9, rfl, by decide, js_wm (i := 105) rfl rfl, rfl⟩, List.forall_mem_cons.mpr ⟨⟨by decide, RX10, TX10, 6, rfl, by decide, js_wm (i := 148) rfl rfl, rfl⟩, List.forall_mem_cons.mpr ⟨⟨by decide, RX10, TX10, 6, rfl, by decide, js_wm (i := 149) rfl rfl, rfl⟩, List.forall_mem_cons.mpr ⟨⟨by decide, RX10, TX10, 6, rfl, by decide, js_wm (i := 154) rfl rfl, rfl⟩, List.forall_mem_cons.mpr ⟨⟨by decide, RX10, TX10, 6, rfl, by decide, js_wm (i := 147) rfl rfl, rfl⟩, List.forall_mem_cons.mpr ⟨⟨by decide, RX10, TX10, 6, rfl, by decide, js_wm (i := 161) rfl rfl, rfl⟩, List.forall_mem_cons.mpr ⟨⟨by decide, RX10, TX10, 6, rfl, by decide, js_wm (i := 168) rfl rfl, rfl⟩, List.forall_mem_cons.mpr ⟨⟨by decide, RX3, TX3, 9, rfl, by decide, js_wm (i := 99) rfl rfl, rfl⟩, List.forall_mem_cons.mpr ⟨⟨by decide, RX3, TX3, 9, rfl, by decide, js_wm (i := 89) rfl rfl, rfl⟩, List.forall_mem_cons.mpr ⟨⟨by decide, RX3, TX3, 9, rfl, by decide, js_wm (i := 107) rfl rfl, rfl⟩, List.forall_mem_cons.mpr ⟨⟨by decide, RX3, TX3, 9, rfl, by decide, js_wm (i := 118) rfl rfl, rfl⟩, List.forall_mem_cons.mpr ⟨⟨by decide, RX3, TX3, 9, rfl, by decide, js_wm (i := 116) rfl rfl, rfl⟩, List.forall_mem_cons.mpr ⟨⟨by decide, RX11, TX11, 12, rfl, by decide, js_wm (i := 424) rfl rfl, rfl⟩, List.forall_mem_cons.mpr ⟨⟨by decide, RX11, TX11, 12, rfl, by decide, js_wm (i := 425) rfl rfl, rfl⟩, List.forall_mem_cons.mpr ⟨⟨by decide, RX11, TX11, 12, rfl, by decide, js_wm (i := 426) rfl rfl, rfl⟩, List.forall_mem_cons.mpr ⟨⟨by decide, RX11, TX11, 12, rfl, by decide, js_wm (i := 427) rfl rfl, rfl⟩, List.forall_mem_cons.mpr ⟨⟨by decide, RX11, TX11, 12, rfl, by decide, js_wm (i := 428) rfl rfl, rfl⟩, List.forall_mem_cons.mpr ⟨⟨by decide, RX11, TX11, 12, rfl, by decide, js_wm (i := 429) rfl rfl, rfl⟩, List.forall_mem_cons.mpr ⟨⟨by decide, RX11, TX11, 12, rfl, by decide, js_wm (i := 430) rfl rfl, rfl⟩, List.forall_mem_cons.mpr ⟨⟨by decide, RX11, TX11, 12, rfl, by decide, js_wm (i := 431) rfl rfl, rfl⟩, List.forall_mem_cons.mpr ⟨⟨by decide, RX11, TX11, 12, rfl, by decide, js_wm (i := 432) rfl rfl, rfl⟩, List.forall_mem_cons.mpr ⟨⟨by decide, RX11, TX11, 12, rfl, by decide, js_wm (i := 433) rfl rfl, rfl⟩, List.forall_mem_cons.mpr ⟨⟨by decide, RX11, TX11, 12, rfl, by decide, js_wm (i := 435) rfl rfl, rfl⟩, List.forall_mem_cons.mpr ⟨⟨by decide, RX4, TX4, 3, rfl, by decide, js_wm (i := 35) rfl rfl, rfl⟩, List.forall_mem_cons.mpr ⟨⟨by decide, RX3, TX3, 9, rfl, by decide, js_wm (i := 94) rfl rfl, rfl⟩, List.forall_mem_cons.mpr ⟨⟨by decide, RX3, TX3, 9, rfl, by decide, js_wm (i := 101) rfl rfl, rfl⟩, List.forall_mem_cons.mpr ⟨⟨by decide, RX3, TX3, 9, rfl, by decide, js_wm (i := 104) rfl rfl, rfl⟩, List.forall_mem_cons.mpr ⟨⟨by decide, RX3, TX3, 9, rfl, by decide, js_wm (i := 111) rfl rfl, rfl⟩, List.forall_mem_cons.mpr ⟨⟨by decide, RX8, TX8, 7, rfl, by decide, js_wm (i := 330) rfl rfl, rfl⟩, List.forall_mem_cons.mpr ⟨⟨by decide, RX3, TX3, 9, rfl, by decide, js_wm (i := 114) rfl rfl, rfl⟩, List.forall_mem_cons.mpr ⟨⟨by decide, RX10, TX10, 6, rfl, by decide, js_wm (i := 162) rfl rfl, rfl⟩, List.forall_mem_cons.mpr ⟨⟨by decide, RX10, TX10, 6, rfl, by decide, js_wm (i := 158) rfl rfl, rfl⟩, List.forall_mem_cons.mpr ⟨⟨by decide, RX10, TX10, 6, rfl, by decide, js_wm (i := 153) rfl rfl, rfl⟩, fun _ h => absurd h List.not_mem_nil⟩⟩⟩⟩⟩⟩⟩⟩⟩⟩⟩⟩⟩⟩⟩⟩⟩⟩⟩⟩⟩⟩⟩⟩⟩⟩⟩⟩⟩⟩⟩⟩⟩⟩⟩⟩⟩⟩⟩⟩
def js_FL_4 : List (Nat × Nat × Nat × Nat) := [(11, 189, 13, 0), (11, 192, 19, 2), (11, 198, 19, 3), (11, 201, 19, 9), (11, 204, 19, 4), (11, 207, 19, 5), (11, 211, 16, 5), (11, 214, 16, 6), (11, 222, 15, 9), (11, 225, 15, 10), (11, 228, 15, 11), (11, 237, 18, 5), (11, 250, 11, 1), (11, 255, 11, 2), (11, 258, 11, 3), (11, 261, 11, 4), (11, 264, 11, 5), (11, 267, 11, 6), (11, 274, 12, 7), (11, 275, 12, 6), (11, 280, 19, 8), (11, 285, 10, 3), (11, 289, 10, 4), (11, 312, 14, 1), (11, 337, 21, 10), (11, 346, 18, 6), (11, 352, 11, 0), (12, 9, 22, 2), (12, 13, 22, 3), (12, 16, 22, 4), (12, 19, 22, 7), (12, 22, 22, 8), (12, 25, 22, 9), (12, 28, 22, 10), (12, 31, 22, 11), (12, 34, 22, 15), (12, 37, 22, 16), (12, 40, 22, 17), (12, 43, 22, 18), (12, 46, 22, 19)]
set_option maxRecDepth 1000000 in
set_option maxHeartbeats 8000000 in
theorem js_FL_4_ok : ∀ q ∈ js_FL_4, 10 ≤ q.2.2.1 ∧ ∃ (C : String) (T : u_T) (N : Nat), vwCl[q.2.2.1 - 10]? = some (C, T, N) ∧ q.2.2.2 < N ∧ Cond.fieldLink (jm_on.getD q.1 "") q.2.1 C (T q.2.2.2).2.1 (T q.2.2.2).2.2.1 ∈ jm_ws ∧ (T q.2.2.2).1 = C := List.forall_mem_cons.mpr ⟨⟨by decide, RX3, TX3, 9, rfl, by decide, js_wm (i := 90) rfl rfl, rfl⟩, List.forall_mem_cons.mpr ⟨⟨by decide, RX9, TX9, 11, rfl, by decide, js_wm (i := 193) rfl rfl, rfl⟩, List.forall_mem_cons.mpr ⟨⟨by decide, RX9, TX9, 11, rfl, by decide, js_wm (i := 196) rfl rfl, rfl⟩, List.forall_mem_cons.mpr ⟨⟨by decide, RX9, TX9, 11, rfl, by decide, js_wm (i := 208) rfl rfl, rfl⟩, List.forall_mem_cons.mpr ⟨⟨by decide, RX9, TX9, 11, rfl, by decide, js_wm (i := 198) rfl rfl, rfl⟩, List.forall_mem_cons.mpr ⟨⟨by decide, RX9, TX9, 11, rfl, by decide, js_wm (i := 200) rfl rfl, rfl⟩, List.forall_mem_cons.mpr ⟨⟨by decide, RX6, TX6, 8, rfl, by decide, js_wm (i := 246) rfl rfl, rfl⟩, List.forall_mem_cons.mpr ⟨⟨by decide, RX6, TX6, 8, rfl, by decide, js_wm (i := 248) rfl rfl, rfl⟩, List.forall_mem_cons.mpr ⟨⟨by decide, RX5, TX5, 13, rfl, by decide, js_wm (i := 283) rfl rfl, rfl⟩, List.forall_mem_cons.mpr ⟨⟨by decide, RX5, TX5, 13, rfl, by decide, js_wm (i := 285) rfl rfl, rfl⟩, List.forall_mem_cons.mpr ⟨⟨by decide, RX5, TX5, 13, rfl, by decide, js_wm (i := 287) rfl rfl, rfl⟩, List.forall_mem_cons.mpr ⟨⟨by decide, RX8, TX8, 7, rfl, by decide, js_wm (i := 332) rfl rfl, rfl⟩, List.forall_mem_cons.mpr ⟨⟨by decide, RX1, TX1, 8, rfl, by decide, js_wm (i := 795) rfl rfl, rfl⟩, List.forall_mem_cons.mpr ⟨⟨by decide, RX1, TX1, 8, rfl, by decide, js_wm (i := 797) rfl rfl, rfl⟩, List.forall_mem_cons.mpr ⟨⟨by decide, RX1, TX1, 8, rfl, by decide, js_wm (i := 800) rfl rfl, rfl⟩, List.forall_mem_cons.mpr ⟨⟨by decide, RX1, TX1, 8, rfl, by decide, js_wm (i := 803) rfl rfl, rfl⟩, List.forall_mem_cons.mpr ⟨⟨by decide, RX1, TX1, 8, rfl, by decide, js_wm (i := 805) rfl rfl, rfl⟩, List.forall_mem_cons.mpr ⟨⟨by decide, RX1, TX1, 8, rfl, by decide, js_wm (i := 808) rfl rfl, rfl⟩, List.forall_mem_cons.mpr ⟨⟨by decide, RX2, TX2, 9, rfl, by decide, js_wm (i := 369) rfl rfl, rfl⟩, List.forall_mem_cons.mpr ⟨⟨by decide, RX2, TX2, 9, rfl, by decide, js_wm (i := 367) rfl rfl, rfl⟩, List.forall_mem_cons.mpr ⟨⟨by decide, RX9, TX9, 11, rfl, by decide, js_wm (i := 205) rfl rfl, rfl⟩, List.forall_mem_cons.mpr ⟨⟨by decide, RX0, TX0, 8, rfl, by decide, js_wm (i := 400) rfl rfl, rfl⟩, List.forall_mem_cons.mpr ⟨⟨by decide, RX0, TX0, 8, rfl, by decide, js_wm (i := 402) rfl rfl, rfl⟩, List.forall_mem_cons.mpr ⟨⟨by decide, RX4, TX4, 3, rfl, by decide, js_wm (i := 37) rfl rfl, rfl⟩, List.forall_mem_cons.mpr ⟨⟨by decide, RX11, TX11, 12, rfl, by decide, js_wm (i := 434) rfl rfl, rfl⟩, List.forall_mem_cons.mpr ⟨⟨by decide, RX8, TX8, 7, rfl, by decide, js_wm (i := 334) rfl rfl, rfl⟩, List.forall_mem_cons.mpr ⟨⟨by decide, RX1, TX1, 8, rfl, by decide, js_wm (i := 792) rfl rfl, rfl⟩, List.forall_mem_cons.mpr ⟨⟨by decide, RX12, TX12, 50, rfl, by decide, js_wm (i := 1065) rfl rfl, rfl⟩, List.forall_mem_cons.mpr ⟨⟨by decide, RX12, TX12, 50, rfl, by decide, js_wm (i := 1066) rfl rfl, rfl⟩, List.forall_mem_cons.mpr ⟨⟨by decide, RX12, TX12, 50, rfl, by decide, js_wm (i := 1067) rfl rfl, rfl⟩, List.forall_mem_cons.mpr ⟨⟨by decide, RX12, TX12, 50, rfl, by decide, js_wm (i := 1070) rfl rfl, rfl⟩, List.forall_mem_cons.mpr ⟨⟨by decide, RX12, TX12, 50, rfl, by decide, js_wm (i := 1071) rfl rfl, rfl⟩, List.forall_mem_cons.mpr ⟨⟨by decide, RX12, TX12, 50, rfl, by decide, js_wm (i := 1072) rfl rfl, rfl⟩, List.forall_mem_cons.mpr ⟨⟨by decide, RX12, TX12, 50, rfl, by decide, js_wm (i := 1073) rfl rfl, rfl⟩, List.forall_mem_cons.mpr ⟨⟨by decide, RX12, TX12, 50, rfl, by decide, js_wm (i := 1074) rfl rfl, rfl⟩, List.forall_mem_cons.mpr ⟨⟨by decide, RX12, TX12, 50, rfl, by decide, js_wm (i := 1078) rfl rfl, rfl⟩, List.forall_mem_cons.mpr ⟨⟨by decide, RX12, TX12, 50, rfl, by decide, js_wm (i := 1079) rfl rfl, rfl⟩, List.forall_mem_cons.mpr ⟨⟨by decide, RX12, TX12, 50, rfl, by decide, js_wm (i := 1080) rfl rfl, rfl⟩, List.forall_mem_cons.mpr ⟨⟨by decide, RX12, TX12, 50, rfl, by decide, js_wm (i := 1081) rfl rfl, rfl⟩, List.forall_mem_cons.mpr ⟨⟨by decide, RX12, TX12, 50, rfl, by decide, js_wm (i := 1082) rfl rfl, rfl⟩, fun _ h => absurd h List.not_mem_nil⟩⟩⟩⟩⟩⟩⟩⟩⟩⟩⟩⟩⟩⟩⟩⟩⟩⟩⟩⟩⟩⟩⟩⟩⟩⟩⟩⟩⟩⟩⟩⟩⟩⟩⟩⟩⟩⟩⟩⟩
def js_FL_5 : List (Nat × Nat × Nat × Nat) := [(12, 49, 22, 20), (12, 52, 22, 22), (12, 55, 22, 23), (12, 58, 22, 24), (12, 61, 22, 26), (12, 64, 22, 28), (12, 67, 22, 29), (12, 70, 22, 30), (12, 73, 22, 31), (12, 76, 22, 32), (12, 79, 22, 33), (12, 82, 22, 34), (12, 85, 22, 35), (12, 88, 22, 36), (12, 91, 22, 37), (12, 94, 22, 39), (12, 97, 22, 40), (12, 100, 22, 44), (12, 104, 22, 45), (12, 107, 22, 46), (12, 110, 22, 47), (12, 113, 22, 48), (12, 116, 22, 49), (12, 119, 22, 0), (12, 133, 22, 5), (12, 136, 22, 6), (12, 154, 22, 13), (12, 157, 22, 14), (12, 163, 22, 27), (12, 166, 22, 38), (12, 178, 22, 12), (12, 202, 22, 21), (12, 225, 22, 25), (12, 277, 22, 41), (12, 289, 22, 42), (12, 292, 22, 43), (12, 324, 22, 1)]
set_option maxRecDepth 1000000 in
set_option maxHeartbeats 8000000 in
theorem js_FL_5_ok : ∀ q ∈ js_FL_5, 10 ≤ q.2.2.1 ∧ ∃ (C : String) (T : u_T) (N : Nat), vwCl[q.2.2.1 - 10]? = some (C, T, N) ∧ q.2.2.2 < N ∧ Cond.fieldLink (jm_on.getD q.1 "") q.2.1 C (T q.2.2.2).2.1 (T q.2.2.2).2.2.1 ∈ jm_ws ∧ (T q.2.2.2).1 = C := List.forall_mem_cons.mpr ⟨⟨by decide, RX12, TX12, 50, rfl, by decide, js_wm (i := 1083) rfl rfl, rfl⟩, List.forall_mem_cons.mpr ⟨⟨by decide, RX12, TX12, 50, rfl, by decide, js_wm (i := 1085) rfl rfl, rfl⟩, List.forall_mem_cons.mpr ⟨⟨by decide, RX12, TX12, 50, rfl, by decide, js_wm (i := 1086) rfl rfl, rfl⟩, List.forall_mem_cons.mpr ⟨⟨by decide, RX12, TX12, 50, rfl, by decide, js_wm (i := 1087) rfl rfl, rfl⟩, List.forall_mem_cons.mpr ⟨⟨by decide, RX12, TX12, 50, rfl, by decide, js_wm (i := 1089) rfl rfl, rfl⟩, List.forall_mem_cons.mpr ⟨⟨by decide, RX12, TX12, 50, rfl, by decide, js_wm (i := 1091) rfl rfl, rfl⟩, List.forall_mem_cons.mpr ⟨⟨by decide, RX12, TX12, 50, rfl, by decide, js_wm (i := 1092) rfl rfl, rfl⟩, List.forall_mem_cons.mpr ⟨⟨by decide, RX12, TX12, 50, rfl, by decide, js_wm (i := 1093) rfl rfl, rfl⟩, List.forall_mem_cons.mpr ⟨⟨by decide, RX12, TX12, 50, rfl, by decide, js_wm (i := 1094) rfl rfl, rfl⟩, List.forall_mem_cons.mpr ⟨⟨by decide, RX12, TX12, 50, rfl, by decide, js_wm (i := 1095) rfl rfl, rfl⟩, List.forall_mem_cons.mpr ⟨⟨by decide, RX12, TX12, 50, rfl, by decide, js_wm (i := 1096) rfl rfl, rfl⟩, List.forall_mem_cons.mpr ⟨⟨by decide, RX12, TX12, 50, rfl, by decide, js_wm (i := 1097) rfl rfl, rfl⟩, List.forall_mem_cons.mpr ⟨⟨by decide, RX12, TX12, 50, rfl, by decide, js_wm (i := 1098) rfl rfl, rfl⟩, List.forall_mem_cons.mpr ⟨⟨by decide, RX12, TX12, 50, rfl, by decide, js_wm (i := 1099) rfl rfl, rfl⟩, List.forall_mem_cons.mpr ⟨⟨by decide, RX12, TX12, 50, rfl, by decide, js_wm (i := 1100) rfl rfl, rfl⟩, List.forall_mem_cons.mpr ⟨⟨by decide, RX12, TX12, 50, rfl, by decide, js_wm (i := 1102) rfl rfl, rfl⟩, List.forall_mem_cons.mpr ⟨⟨by decide, RX12, TX12, 50, rfl, by decide, js_wm (i := 1103) rfl rfl, rfl⟩, List.forall_mem_cons.mpr ⟨⟨by decide, RX12, TX12, 50, rfl, by decide, js_wm (i := 1107) rfl rfl, rfl⟩, List.forall_mem_cons.mpr ⟨⟨by decide, RX12, TX12, 50, rfl, by decide, js_wm (i := 1108) rfl rfl, rfl⟩, List.forall_mem_cons.mpr ⟨⟨by decide, RX12, TX12, 50, rfl, by decide, js_wm (i := 1109) rfl rfl, rfl⟩, List.forall_mem_cons.mpr ⟨⟨by decide, RX12, TX12, 50, rfl, by decide, js_wm (i := 1110) rfl rfl, rfl⟩, List.forall_mem_cons.mpr ⟨⟨by decide, RX12, TX12, 50, rfl, by decide, js_wm (i := 1111) rfl rfl, rfl⟩, List.forall_mem_cons.mpr ⟨⟨by decide, RX12, TX12, 50, rfl, by decide, js_wm (i := 1112) rfl rfl, rfl⟩, List.forall_mem_cons.mpr ⟨⟨by decide, RX12, TX12, 50, rfl, by decide, js_wm (i := 1063) rfl rfl, rfl⟩, List.forall_mem_cons.mpr ⟨⟨by decide, RX12, TX12, 50, rfl, by decide, js_wm (i := 1068) rfl rfl, rfl⟩, List.forall_mem_cons.mpr ⟨⟨by decide, RX12, TX12, 50, rfl, by decide, js_wm (i := 1069) rfl rfl, rfl⟩, List.forall_mem_cons.mpr ⟨⟨by decide, RX12, TX12, 50, rfl, by decide, js_wm (i := 1076) rfl rfl, rfl⟩, List.forall_mem_cons.mpr ⟨⟨by decide, RX12, TX12, 50, rfl, by decide, js_wm (i := 1077) rfl rfl, rfl⟩, List.forall_mem_cons.mpr ⟨⟨by decide, RX12, TX12, 50, rfl, by decide, js_wm (i := 1090) rfl rfl, rfl⟩, List.forall_mem_cons.mpr ⟨⟨by decide, RX12, TX12, 50, rfl, by decide, js_wm (i := 1101) rfl rfl, rfl⟩, List.forall_mem_cons.mpr ⟨⟨by decide, RX12, TX12, 50, rfl, by decide, js_wm (i := 1075) rfl rfl, rfl⟩, List.forall_mem_cons.mpr ⟨⟨by decide, RX12, TX12, 50, rfl, by decide, js_wm (i := 1084) rfl rfl, rfl⟩, List.forall_mem_cons.mpr ⟨⟨by decide, RX12, TX12, 50, rfl, by decide, js_wm (i := 1088) rfl rfl, rfl⟩, List.forall_mem_cons.mpr ⟨⟨by decide, RX12, TX12, 50, rfl, by decide, js_wm (i := 1104) rfl rfl, rfl⟩, List.forall_mem_cons.mpr ⟨⟨by decide, RX12, TX12, 50, rfl, by decide, js_wm (i := 1105) rfl rfl, rfl⟩, List.forall_mem_cons.mpr ⟨⟨by decide, RX12, TX12, 50, rfl, by decide, js_wm (i := 1106) rfl rfl, rfl⟩, List.forall_mem_cons.mpr ⟨⟨by decide, RX12, TX12, 50, rfl, by decide, js_wm (i := 1064) rfl rfl, rfl⟩, fun _ h => absurd h List.not_mem_nil⟩⟩⟩⟩⟩⟩⟩⟩⟩⟩⟩⟩⟩⟩⟩⟩⟩⟩⟩⟩⟩⟩⟩⟩⟩⟩⟩⟩⟩⟩⟩⟩⟩⟩⟩⟩⟩
def js_FL : List (Nat × Nat × Nat × Nat) := js_FL_0 ++ js_FL_1 ++ js_FL_2 ++ js_FL_3 ++ js_FL_4 ++ js_FL_5
theorem js_FL_ok : ∀ q ∈ js_FL, 10 ≤ q.2.2.1 ∧ ∃ (C : String) (T : u_T) (N : Nat), vwCl[q.2.2.1 - 10]? = some (C, T, N) ∧ q.2.2.2 < N ∧ Cond.fieldLink (jm_on.getD q.1 "") q.2.1 C (T q.2.2.2).2.1 (T q.2.2.2).2.2.1 ∈ jm_ws ∧ (T q.2.2.2).1 = C := fun q h => by
  unfold js_FL at h
  simp only [List.mem_append] at h
  rcases h with ((((h | h) | h) | h) | h) | h
  · exact js_FL_0_ok q h
  · exact js_FL_1_ok q h
  · exact js_FL_2_ok q h
  · exact js_FL_3_ok q h
  · exact js_FL_4_ok q h
  · exact js_FL_5_ok q h
def js_ML_0 : List (Nat × Nat × Nat) := [(0, 45, 110), (0, 56, 111), (0, 63, 113), (0, 71, 112), (0, 81, 115), (0, 85, 45), (0, 92, 70), (0, 98, 114), (2, 36, 4), (2, 44, 5), (2, 53, 55), (2, 56, 103), (2, 60, 104), (2, 74, 105), (2, 86, 45), (2, 89, 106), (2, 93, 107), (2, 97, 46), (3, 39, 40), (3, 59, 27), (3, 63, 28), (4, 21, 15), (4, 25, 30), (5, 58, 75), (5, 61, 76), (5, 75, 30), (5, 81, 77), (5, 97, 78), (5, 103, 79), (5, 107, 80), (5, 111, 81), (5, 114, 82), (5, 121, 45), (6, 41, 55), (6, 51, 66), (6, 55, 67), (6, 58, 69), (6, 67, 45), (6, 80, 68), (6, 86, 70)]
set_option maxRecDepth 1000000 in
set_option maxHeartbeats 8000000 in
theorem js_ML_0_ok : ∀ q ∈ js_ML_0, Cond.methodLink (jm_on.getD q.1 "") q.2.1 (jm_y q.2.2) ∈ jm_ws ∨ ∃ host, (jm_on.getD q.1 "", q.2.1, jm_y q.2.2, host) ∈ jm_nest := List.forall_mem_cons.mpr ⟨Or.inl (js_wm (i := 921) rfl rfl), List.forall_mem_cons.mpr ⟨Or.inl (js_wm (i := 924) rfl rfl), List.forall_mem_cons.mpr ⟨Or.inl (js_wm (i := 934) rfl rfl), List.forall_mem_cons.mpr ⟨Or.inl (js_wm (i := 928) rfl rfl), List.forall_mem_cons.mpr ⟨Or.inl (js_wm (i := 946) rfl rfl), List.forall_mem_cons.mpr ⟨Or.inr ⟨"LaneWaits", List.mem_of_getElem? (i := 10) rfl⟩, List.forall_mem_cons.mpr ⟨Or.inl (js_wm (i := 932) rfl rfl), List.forall_mem_cons.mpr ⟨Or.inl (js_wm (i := 937) rfl rfl), List.forall_mem_cons.mpr ⟨Or.inl (js_wm (i := 357) rfl rfl), List.forall_mem_cons.mpr ⟨Or.inl (js_wm (i := 359) rfl rfl), List.forall_mem_cons.mpr ⟨Or.inl (js_wm (i := 887) rfl rfl), List.forall_mem_cons.mpr ⟨Or.inl (js_wm (i := 888) rfl rfl), List.forall_mem_cons.mpr ⟨Or.inl (js_wm (i := 894) rfl rfl), List.forall_mem_cons.mpr ⟨Or.inl (js_wm (i := 899) rfl rfl), List.forall_mem_cons.mpr ⟨Or.inr ⟨"LaneWaits", List.mem_of_getElem? (i := 9) rfl⟩, List.forall_mem_cons.mpr ⟨Or.inl (js_wm (i := 903) rfl rfl), List.forall_mem_cons.mpr ⟨Or.inl (js_wm (i := 908) rfl rfl), List.forall_mem_cons.mpr ⟨Or.inl (js_wm (i := 907) rfl rfl), List.forall_mem_cons.mpr ⟨Or.inl (js_wm (i := 581) rfl rfl), List.forall_mem_cons.mpr ⟨Or.inl (js_wm (i := 529) rfl rfl), List.forall_mem_cons.mpr ⟨Or.inl (js_wm (i := 533) rfl rfl), List.forall_mem_cons.mpr ⟨Or.inl (js_wm (i := 477) rfl rfl), List.forall_mem_cons.mpr ⟨Or.inl (js_wm (i := 966) rfl rfl), List.forall_mem_cons.mpr ⟨Or.inl (js_wm (i := 730) rfl rfl), List.forall_mem_cons.mpr ⟨Or.inl (js_wm (i := 735) rfl rfl), List.forall_mem_cons.mpr ⟨Or.inl (js_wm (i := 734) rfl rfl), List.forall_mem_cons.mpr ⟨Or.inl (js_wm (i := 740) rfl rfl), List.forall_mem_cons.mpr ⟨Or.inl (js_wm (i := 744) rfl rfl), List.forall_mem_cons.mpr ⟨Or.inl (js_wm (i := 748) rfl rfl), List.forall_mem_cons.mpr ⟨Or.inl (js_wm (i := 752) rfl rfl), List.forall_mem_cons.mpr ⟨Or.inl (js_wm (i := 757) rfl rfl), List.forall_mem_cons.mpr ⟨Or.inl (js_wm (i := 761) rfl rfl), List.forall_mem_cons.mpr ⟨Or.inr ⟨"LaneWaits", List.mem_of_getElem? (i := 7) rfl⟩, List.forall_mem_cons.mpr ⟨Or.inl (js_wm (i := 690) rfl rfl), List.forall_mem_cons.mpr ⟨Or.inl (js_wm (i := 691) rfl rfl), List.forall_mem_cons.mpr ⟨Or.inl (js_wm (i := 696) rfl rfl), List.forall_mem_cons.mpr ⟨Or.inl (js_wm (i := 704) rfl rfl), List.forall_mem_cons.mpr ⟨Or.inr ⟨"LaneWaits", List.mem_of_getElem? (i := 6) rfl⟩, List.forall_mem_cons.mpr ⟨Or.inl (js_wm (i := 700) rfl rfl), List.forall_mem_cons.mpr ⟨Or.inl (js_wm (i := 708) rfl rfl), fun _ h => absurd h List.not_mem_nil⟩⟩⟩⟩⟩⟩⟩⟩⟩⟩⟩⟩⟩⟩⟩⟩⟩⟩⟩⟩⟩⟩⟩⟩⟩⟩⟩⟩⟩⟩⟩⟩⟩⟩⟩⟩⟩⟩⟩⟩
def js_ML_1 : List (Nat × Nat × Nat) := [(6, 92, 71), (7, 31, 19), (7, 35, 20), (7, 39, 21), (7, 42, 22), (7, 45, 23), (7, 48, 24), (7, 51, 25), (8, 34, 30), (8, 55, 45), (8, 59, 86), (8, 63, 88), (8, 66, 89), (8, 79, 92), (8, 83, 70), (8, 89, 37), (8, 93, 93), (8, 103, 94), (8, 118, 85), (8, 124, 98), (8, 127, 99), (8, 131, 100), (9, 47, 30), (9, 62, 56), (9, 66, 57), (9, 72, 60), (9, 78, 53), (9, 86, 51), (9, 90, 45), (9, 94, 52), (9, 105, 58), (9, 109, 59), (10, 31, 31), (10, 34, 30), (10, 46, 42), (10, 50, 45), (10, 54, 33), (10, 65, 70), (10, 74, 32), (11, 11, 1)]
set_option maxRecDepth 1000000 in
set_option maxHeartbeats 8000000 in
theorem js_ML_1_ok : ∀ q ∈ js_ML_1, Cond.methodLink (jm_on.getD q.1 "") q.2.1 (jm_y q.2.2) ∈ jm_ws ∨ ∃ host, (jm_on.getD q.1 "", q.2.1, jm_y q.2.2, host) ∈ jm_nest := List.forall_mem_cons.mpr ⟨Or.inl (js_wm (i := 714) rfl rfl), List.forall_mem_cons.mpr ⟨Or.inl (js_wm (i := 494) rfl rfl), List.forall_mem_cons.mpr ⟨Or.inl (js_wm (i := 498) rfl rfl), List.forall_mem_cons.mpr ⟨Or.inl (js_wm (i := 502) rfl rfl), List.forall_mem_cons.mpr ⟨Or.inl (js_wm (i := 506) rfl rfl), List.forall_mem_cons.mpr ⟨Or.inl (js_wm (i := 510) rfl rfl), List.forall_mem_cons.mpr ⟨Or.inl (js_wm (i := 514) rfl rfl), List.forall_mem_cons.mpr ⟨Or.inl (js_wm (i := 518) rfl rfl), List.forall_mem_cons.mpr ⟨Or.inl (js_wm (i := 560) rfl rfl), List.forall_mem_cons.mpr ⟨Or.inr ⟨"LaneWaits", List.mem_of_getElem? (i := 8) rfl⟩, List.forall_mem_cons.mpr ⟨Or.inl (js_wm (i := 777) rfl rfl), List.forall_mem_cons.mpr ⟨Or.inl (js_wm (i := 786) rfl rfl), List.forall_mem_cons.mpr ⟨Or.inl (js_wm (i := 828) rfl rfl), List.forall_mem_cons.mpr ⟨Or.inl (js_wm (i := 840) rfl rfl), List.forall_mem_cons.mpr ⟨Or.inl (js_wm (i := 854) rfl rfl), List.forall_mem_cons.mpr ⟨Or.inl (js_wm (i := 844) rfl rfl), List.forall_mem_cons.mpr ⟨Or.inl (js_wm (i := 845) rfl rfl), List.forall_mem_cons.mpr ⟨Or.inl (js_wm (i := 849) rfl rfl), List.forall_mem_cons.mpr ⟨Or.inl (js_wm (i := 853) rfl rfl), List.forall_mem_cons.mpr ⟨Or.inl (js_wm (i := 868) rfl rfl), List.forall_mem_cons.mpr ⟨Or.inl (js_wm (i := 872) rfl rfl), List.forall_mem_cons.mpr ⟨Or.inl (js_wm (i := 876) rfl rfl), List.forall_mem_cons.mpr ⟨Or.inl (js_wm (i := 645) rfl rfl), List.forall_mem_cons.mpr ⟨Or.inl (js_wm (i := 646) rfl rfl), List.forall_mem_cons.mpr ⟨Or.inl (js_wm (i := 650) rfl rfl), List.forall_mem_cons.mpr ⟨Or.inl (js_wm (i := 662) rfl rfl), List.forall_mem_cons.mpr ⟨Or.inr ⟨"LaneWaits", List.mem_of_getElem? (i := 5) rfl⟩, List.forall_mem_cons.mpr ⟨Or.inl (js_wm (i := 625) rfl rfl), List.forall_mem_cons.mpr ⟨Or.inr ⟨"LaneWaits", List.mem_of_getElem? (i := 4) rfl⟩, List.forall_mem_cons.mpr ⟨Or.inl (js_wm (i := 630) rfl rfl), List.forall_mem_cons.mpr ⟨Or.inl (js_wm (i := 654) rfl rfl), List.forall_mem_cons.mpr ⟨Or.inl (js_wm (i := 658) rfl rfl), List.forall_mem_cons.mpr ⟨Or.inl (js_wm (i := 544) rfl rfl), List.forall_mem_cons.mpr ⟨Or.inl (js_wm (i := 541) rfl rfl), List.forall_mem_cons.mpr ⟨Or.inl (js_wm (i := 893) rfl rfl), List.forall_mem_cons.mpr ⟨Or.inr ⟨"LaneWaits", List.mem_of_getElem? (i := 3) rfl⟩, List.forall_mem_cons.mpr ⟨Or.inl (js_wm (i := 552) rfl rfl), List.forall_mem_cons.mpr ⟨Or.inl (js_wm (i := 1056) rfl rfl), List.forall_mem_cons.mpr ⟨Or.inl (js_wm (i := 548) rfl rfl), List.forall_mem_cons.mpr ⟨Or.inr ⟨"LaneWaits", List.mem_of_getElem? (i := 0) rfl⟩, fun _ h => absurd h List.not_mem_nil⟩⟩⟩⟩⟩⟩⟩⟩⟩⟩⟩⟩⟩⟩⟩⟩⟩⟩⟩⟩⟩⟩⟩⟩⟩⟩⟩⟩⟩⟩⟩⟩⟩⟩⟩⟩⟩⟩⟩⟩
def js_ML_2 : List (Nat × Nat × Nat) := [(11, 20, 2), (11, 27, 3), (11, 34, 4), (11, 43, 5), (11, 52, 6), (11, 61, 7), (11, 68, 8), (11, 75, 9), (11, 82, 10), (11, 91, 12), (11, 95, 13), (11, 98, 14), (11, 102, 16), (11, 106, 15), (11, 109, 17), (11, 117, 18), (11, 121, 26), (11, 125, 29), (11, 128, 34), (11, 134, 36), (11, 150, 37), (11, 154, 39), (11, 163, 42), (11, 167, 44), (11, 170, 46), (11, 174, 40), (11, 183, 50), (11, 186, 55), (11, 195, 45), (11, 210, 65), (11, 217, 73), (11, 221, 74), (11, 231, 84), (11, 234, 85), (11, 238, 87), (11, 242, 91), (11, 246, 93), (11, 270, 97), (11, 273, 102), (11, 284, 109)]
set_option maxRecDepth 1000000 in
set_option maxHeartbeats 8000000 in
theorem js_ML_2_ok : ∀ q ∈ js_ML_2, Cond.methodLink (jm_on.getD q.1 "") q.2.1 (jm_y q.2.2) ∈ jm_ws ∨ ∃ host, (jm_on.getD q.1 "", q.2.1, jm_y q.2.2, host) ∈ jm_nest := List.forall_mem_cons.mpr ⟨Or.inr ⟨"LaneWaits", List.mem_of_getElem? (i := 1) rfl⟩, List.forall_mem_cons.mpr ⟨Or.inr ⟨"LaneWaits", List.mem_of_getElem? (i := 2) rfl⟩, List.forall_mem_cons.mpr ⟨Or.inl (js_wm (i := 142) rfl rfl), List.forall_mem_cons.mpr ⟨Or.inl (js_wm (i := 184) rfl rfl), List.forall_mem_cons.mpr ⟨Or.inl (js_wm (i := 235) rfl rfl), List.forall_mem_cons.mpr ⟨Or.inl (js_wm (i := 269) rfl rfl), List.forall_mem_cons.mpr ⟨Or.inl (js_wm (i := 318) rfl rfl), List.forall_mem_cons.mpr ⟨Or.inl (js_wm (i := 352) rfl rfl), List.forall_mem_cons.mpr ⟨Or.inl (js_wm (i := 392) rfl rfl), List.forall_mem_cons.mpr ⟨Or.inl (js_wm (i := 465) rfl rfl), List.forall_mem_cons.mpr ⟨Or.inl (js_wm (i := 469) rfl rfl), List.forall_mem_cons.mpr ⟨Or.inl (js_wm (i := 473) rfl rfl), List.forall_mem_cons.mpr ⟨Or.inl (js_wm (i := 481) rfl rfl), List.forall_mem_cons.mpr ⟨Or.inl (js_wm (i := 485) rfl rfl), List.forall_mem_cons.mpr ⟨Or.inl (js_wm (i := 486) rfl rfl), List.forall_mem_cons.mpr ⟨Or.inl (js_wm (i := 490) rfl rfl), List.forall_mem_cons.mpr ⟨Or.inl (js_wm (i := 522) rfl rfl), List.forall_mem_cons.mpr ⟨Or.inl (js_wm (i := 537) rfl rfl), List.forall_mem_cons.mpr ⟨Or.inl (js_wm (i := 556) rfl rfl), List.forall_mem_cons.mpr ⟨Or.inl (js_wm (i := 565) rfl rfl), List.forall_mem_cons.mpr ⟨Or.inl (js_wm (i := 569) rfl rfl), List.forall_mem_cons.mpr ⟨Or.inl (js_wm (i := 577) rfl rfl), List.forall_mem_cons.mpr ⟨Or.inl (js_wm (i := 589) rfl rfl), List.forall_mem_cons.mpr ⟨Or.inl (js_wm (i := 597) rfl rfl), List.forall_mem_cons.mpr ⟨Or.inl (js_wm (i := 604) rfl rfl), List.forall_mem_cons.mpr ⟨Or.inl (js_wm (i := 612) rfl rfl), List.forall_mem_cons.mpr ⟨Or.inl (js_wm (i := 621) rfl rfl), List.forall_mem_cons.mpr ⟨Or.inl (js_wm (i := 641) rfl rfl), List.forall_mem_cons.mpr ⟨Or.inl (js_wm (i := 669) rfl rfl), List.forall_mem_cons.mpr ⟨Or.inl (js_wm (i := 686) rfl rfl), List.forall_mem_cons.mpr ⟨Or.inl (js_wm (i := 722) rfl rfl), List.forall_mem_cons.mpr ⟨Or.inl (js_wm (i := 726) rfl rfl), List.forall_mem_cons.mpr ⟨Or.inl (js_wm (i := 769) rfl rfl), List.forall_mem_cons.mpr ⟨Or.inl (js_wm (i := 772) rfl rfl), List.forall_mem_cons.mpr ⟨Or.inl (js_wm (i := 781) rfl rfl), List.forall_mem_cons.mpr ⟨Or.inl (js_wm (i := 836) rfl rfl), List.forall_mem_cons.mpr ⟨Or.inl (js_wm (i := 859) rfl rfl), List.forall_mem_cons.mpr ⟨Or.inl (js_wm (i := 864) rfl rfl), List.forall_mem_cons.mpr ⟨Or.inl (js_wm (i := 883) rfl rfl), List.forall_mem_cons.mpr ⟨Or.inl (js_wm (i := 917) rfl rfl), fun _ h => absurd h List.not_mem_nil⟩⟩⟩⟩⟩⟩⟩⟩⟩⟩⟩⟩⟩⟩⟩⟩⟩⟩⟩⟩⟩⟩⟩⟩⟩⟩⟩⟩⟩⟩⟩⟩⟩⟩⟩⟩⟩⟩⟩⟩
def js_ML_3 : List (Nat × Nat × Nat) := [(11, 292, 117), (11, 295, 119), (11, 299, 121), (11, 302, 123), (11, 305, 124), (11, 308, 126), (11, 321, 129), (11, 325, 131), (11, 328, 132), (11, 331, 134), (11, 334, 135), (11, 340, 140), (11, 343, 141), (11, 349, 130), (12, 125, 159), (12, 129, 145), (12, 139, 144), (12, 143, 146), (12, 146, 147), (12, 150, 148), (12, 160, 150), (12, 169, 149), (12, 172, 152), (12, 175, 154), (12, 181, 158), (12, 184, 163), (12, 187, 164), (12, 190, 162), (12, 193, 166), (12, 196, 168), (12, 199, 172), (12, 205, 170), (12, 209, 171), (12, 212, 176), (12, 215, 175), (12, 219, 177), (12, 222, 178), (12, 228, 185), (12, 231, 181), (12, 235, 183)]
set_option maxRecDepth 1000000 in
set_option maxHeartbeats 8000000 in
theorem js_ML_3_ok : ∀ q ∈ js_ML_3, Cond.methodLink (jm_on.getD q.1 "") q.2.1 (jm_y q.2.2) ∈ jm_ws ∨ ∃ host, (jm_on.getD q.1 "", q.2.1, jm_y q.2.2, host) ∈ jm_nest := List.forall_mem_cons.mpr ⟨Or.inl (js_wm (i := 954) rfl rfl), List.forall_mem_cons.mpr ⟨Or.inl (js_wm (i := 962) rfl rfl), List.forall_mem_cons.mpr ⟨Or.inl (js_wm (i := 971) rfl rfl), List.forall_mem_cons.mpr ⟨Or.inl (js_wm (i := 979) rfl rfl), List.forall_mem_cons.mpr ⟨Or.inl (js_wm (i := 983) rfl rfl), List.forall_mem_cons.mpr ⟨Or.inl (js_wm (i := 991) rfl rfl), List.forall_mem_cons.mpr ⟨Or.inl (js_wm (i := 1004) rfl rfl), List.forall_mem_cons.mpr ⟨Or.inl (js_wm (i := 1012) rfl rfl), List.forall_mem_cons.mpr ⟨Or.inl (js_wm (i := 1016) rfl rfl), List.forall_mem_cons.mpr ⟨Or.inl (js_wm (i := 1024) rfl rfl), List.forall_mem_cons.mpr ⟨Or.inl (js_wm (i := 1028) rfl rfl), List.forall_mem_cons.mpr ⟨Or.inl (js_wm (i := 1048) rfl rfl), List.forall_mem_cons.mpr ⟨Or.inl (js_wm (i := 1052) rfl rfl), List.forall_mem_cons.mpr ⟨Or.inl (js_wm (i := 1008) rfl rfl), List.forall_mem_cons.mpr ⟨Or.inl (js_wm (i := 1275) rfl rfl), List.forall_mem_cons.mpr ⟨Or.inl (js_wm (i := 1221) rfl rfl), List.forall_mem_cons.mpr ⟨Or.inl (js_wm (i := 1218) rfl rfl), List.forall_mem_cons.mpr ⟨Or.inl (js_wm (i := 1224) rfl rfl), List.forall_mem_cons.mpr ⟨Or.inl (js_wm (i := 1227) rfl rfl), List.forall_mem_cons.mpr ⟨Or.inl (js_wm (i := 1231) rfl rfl), List.forall_mem_cons.mpr ⟨Or.inl (js_wm (i := 1239) rfl rfl), List.forall_mem_cons.mpr ⟨Or.inl (js_wm (i := 1235) rfl rfl), List.forall_mem_cons.mpr ⟨Or.inl (js_wm (i := 1247) rfl rfl), List.forall_mem_cons.mpr ⟨Or.inl (js_wm (i := 1255) rfl rfl), List.forall_mem_cons.mpr ⟨Or.inl (js_wm (i := 1271) rfl rfl), List.forall_mem_cons.mpr ⟨Or.inl (js_wm (i := 1290) rfl rfl), List.forall_mem_cons.mpr ⟨Or.inl (js_wm (i := 1294) rfl rfl), List.forall_mem_cons.mpr ⟨Or.inl (js_wm (i := 1286) rfl rfl), List.forall_mem_cons.mpr ⟨Or.inl (js_wm (i := 1302) rfl rfl), List.forall_mem_cons.mpr ⟨Or.inl (js_wm (i := 1310) rfl rfl), List.forall_mem_cons.mpr ⟨Or.inl (js_wm (i := 1326) rfl rfl), List.forall_mem_cons.mpr ⟨Or.inl (js_wm (i := 1318) rfl rfl), List.forall_mem_cons.mpr ⟨Or.inl (js_wm (i := 1322) rfl rfl), List.forall_mem_cons.mpr ⟨Or.inl (js_wm (i := 1342) rfl rfl), List.forall_mem_cons.mpr ⟨Or.inl (js_wm (i := 1338) rfl rfl), List.forall_mem_cons.mpr ⟨Or.inl (js_wm (i := 1346) rfl rfl), List.forall_mem_cons.mpr ⟨Or.inl (js_wm (i := 1349) rfl rfl), List.forall_mem_cons.mpr ⟨Or.inl (js_wm (i := 1377) rfl rfl), List.forall_mem_cons.mpr ⟨Or.inl (js_wm (i := 1361) rfl rfl), List.forall_mem_cons.mpr ⟨Or.inl (js_wm (i := 1369) rfl rfl), fun _ h => absurd h List.not_mem_nil⟩⟩⟩⟩⟩⟩⟩⟩⟩⟩⟩⟩⟩⟩⟩⟩⟩⟩⟩⟩⟩⟩⟩⟩⟩⟩⟩⟩⟩⟩⟩⟩⟩⟩⟩⟩⟩⟩⟩⟩
def js_ML_4 : List (Nat × Nat × Nat) := [(12, 239, 184), (12, 243, 180), (12, 246, 182), (12, 249, 186), (12, 252, 188), (12, 255, 189), (12, 258, 193), (12, 261, 192), (12, 264, 191), (12, 268, 195), (12, 271, 197), (12, 274, 201), (12, 280, 200), (12, 283, 202), (12, 286, 203), (12, 295, 199), (12, 298, 209), (12, 302, 208), (12, 306, 206), (12, 310, 207), (12, 314, 210), (12, 317, 205), (12, 320, 216), (12, 327, 219), (13, 9, 0), (13, 12, 142), (13, 13, 11), (13, 17, 143), (13, 18, 35), (13, 22, 151), (13, 23, 38), (13, 26, 153), (13, 27, 41), (13, 31, 155), (13, 32, 43), (13, 36, 156), (13, 37, 47), (13, 40, 157), (13, 41, 48), (13, 44, 160)]
set_option maxRecDepth 1000000 in
set_option maxHeartbeats 8000000 in
theorem js_ML_4_ok : ∀ q ∈ js_ML_4, Cond.methodLink (jm_on.getD q.1 "") q.2.1 (jm_y q.2.2) ∈ jm_ws ∨ ∃ host, (jm_on.getD q.1 "", q.2.1, jm_y q.2.2, host) ∈ jm_nest := List.forall_mem_cons.mpr ⟨Or.inl (js_wm (i := 1373) rfl rfl), List.forall_mem_cons.mpr ⟨Or.inl (js_wm (i := 1357) rfl rfl), List.forall_mem_cons.mpr ⟨Or.inl (js_wm (i := 1365) rfl rfl), List.forall_mem_cons.mpr ⟨Or.inl (js_wm (i := 1380) rfl rfl), List.forall_mem_cons.mpr ⟨Or.inl (js_wm (i := 1388) rfl rfl), List.forall_mem_cons.mpr ⟨Or.inl (js_wm (i := 1392) rfl rfl), List.forall_mem_cons.mpr ⟨Or.inl (js_wm (i := 1408) rfl rfl), List.forall_mem_cons.mpr ⟨Or.inl (js_wm (i := 1404) rfl rfl), List.forall_mem_cons.mpr ⟨Or.inl (js_wm (i := 1400) rfl rfl), List.forall_mem_cons.mpr ⟨Or.inl (js_wm (i := 1416) rfl rfl), List.forall_mem_cons.mpr ⟨Or.inl (js_wm (i := 1424) rfl rfl), List.forall_mem_cons.mpr ⟨Or.inl (js_wm (i := 1440) rfl rfl), List.forall_mem_cons.mpr ⟨Or.inl (js_wm (i := 1436) rfl rfl), List.forall_mem_cons.mpr ⟨Or.inl (js_wm (i := 1444) rfl rfl), List.forall_mem_cons.mpr ⟨Or.inl (js_wm (i := 1448) rfl rfl), List.forall_mem_cons.mpr ⟨Or.inl (js_wm (i := 1432) rfl rfl), List.forall_mem_cons.mpr ⟨Or.inl (js_wm (i := 1472) rfl rfl), List.forall_mem_cons.mpr ⟨Or.inl (js_wm (i := 1469) rfl rfl), List.forall_mem_cons.mpr ⟨Or.inl (js_wm (i := 1461) rfl rfl), List.forall_mem_cons.mpr ⟨Or.inl (js_wm (i := 1465) rfl rfl), List.forall_mem_cons.mpr ⟨Or.inl (js_wm (i := 1475) rfl rfl), List.forall_mem_cons.mpr ⟨Or.inl (js_wm (i := 1457) rfl rfl), List.forall_mem_cons.mpr ⟨Or.inl (js_wm (i := 1499) rfl rfl), List.forall_mem_cons.mpr ⟨Or.inl (js_wm (i := 1511) rfl rfl), List.forall_mem_cons.mpr ⟨Or.inl (js_wm (i := 20) rfl rfl), List.forall_mem_cons.mpr ⟨Or.inl (js_wm (i := 1059) rfl rfl), List.forall_mem_cons.mpr ⟨Or.inl (js_wm (i := 461) rfl rfl), List.forall_mem_cons.mpr ⟨Or.inl (js_wm (i := 1214) rfl rfl), List.forall_mem_cons.mpr ⟨Or.inl (js_wm (i := 561) rfl rfl), List.forall_mem_cons.mpr ⟨Or.inl (js_wm (i := 1243) rfl rfl), List.forall_mem_cons.mpr ⟨Or.inl (js_wm (i := 573) rfl rfl), List.forall_mem_cons.mpr ⟨Or.inl (js_wm (i := 1251) rfl rfl), List.forall_mem_cons.mpr ⟨Or.inl (js_wm (i := 585) rfl rfl), List.forall_mem_cons.mpr ⟨Or.inl (js_wm (i := 1259) rfl rfl), List.forall_mem_cons.mpr ⟨Or.inl (js_wm (i := 593) rfl rfl), List.forall_mem_cons.mpr ⟨Or.inl (js_wm (i := 1263) rfl rfl), List.forall_mem_cons.mpr ⟨Or.inl (js_wm (i := 608) rfl rfl), List.forall_mem_cons.mpr ⟨Or.inl (js_wm (i := 1267) rfl rfl), List.forall_mem_cons.mpr ⟨Or.inl (js_wm (i := 613) rfl rfl), List.forall_mem_cons.mpr ⟨Or.inl (js_wm (i := 1278) rfl rfl), fun _ h => absurd h List.not_mem_nil⟩⟩⟩⟩⟩⟩⟩⟩⟩⟩⟩⟩⟩⟩⟩⟩⟩⟩⟩⟩⟩⟩⟩⟩⟩⟩⟩⟩⟩⟩⟩⟩⟩⟩⟩⟩⟩⟩⟩⟩
def js_ML_5 : List (Nat × Nat × Nat) := [(13, 45, 49), (13, 48, 161), (13, 49, 54), (13, 52, 165), (13, 53, 61), (13, 56, 167), (13, 57, 62), (13, 60, 169), (13, 61, 63), (13, 64, 173), (13, 65, 64), (13, 68, 174), (13, 69, 72), (13, 72, 179), (13, 73, 83), (13, 76, 187), (13, 77, 90), (13, 80, 190), (13, 81, 95), (13, 84, 194), (13, 85, 96), (13, 89, 196), (13, 90, 101), (13, 93, 198), (13, 94, 108), (13, 98, 204), (13, 99, 116), (13, 102, 211), (13, 103, 118), (13, 106, 212), (13, 107, 120), (13, 110, 213), (13, 111, 122), (13, 114, 214), (13, 115, 125), (13, 119, 215), (13, 120, 127), (13, 124, 217), (13, 125, 128), (13, 128, 218)]
set_option maxRecDepth 1000000 in
set_option maxHeartbeats 8000000 in
theorem js_ML_5_ok : ∀ q ∈ js_ML_5, Cond.methodLink (jm_on.getD q.1 "") q.2.1 (jm_y q.2.2) ∈ jm_ws ∨ ∃ host, (jm_on.getD q.1 "", q.2.1, jm_y q.2.2, host) ∈ jm_nest := List.forall_mem_cons.mpr ⟨Or.inl (js_wm (i := 617) rfl rfl), List.forall_mem_cons.mpr ⟨Or.inl (js_wm (i := 1282) rfl rfl), List.forall_mem_cons.mpr ⟨Or.inl (js_wm (i := 637) rfl rfl), List.forall_mem_cons.mpr ⟨Or.inl (js_wm (i := 1298) rfl rfl), List.forall_mem_cons.mpr ⟨Or.inl (js_wm (i := 670) rfl rfl), List.forall_mem_cons.mpr ⟨Or.inl (js_wm (i := 1306) rfl rfl), List.forall_mem_cons.mpr ⟨Or.inl (js_wm (i := 674) rfl rfl), List.forall_mem_cons.mpr ⟨Or.inl (js_wm (i := 1314) rfl rfl), List.forall_mem_cons.mpr ⟨Or.inl (js_wm (i := 678) rfl rfl), List.forall_mem_cons.mpr ⟨Or.inl (js_wm (i := 1330) rfl rfl), List.forall_mem_cons.mpr ⟨Or.inl (js_wm (i := 682) rfl rfl), List.forall_mem_cons.mpr ⟨Or.inl (js_wm (i := 1334) rfl rfl), List.forall_mem_cons.mpr ⟨Or.inl (js_wm (i := 718) rfl rfl), List.forall_mem_cons.mpr ⟨Or.inl (js_wm (i := 1353) rfl rfl), List.forall_mem_cons.mpr ⟨Or.inl (js_wm (i := 765) rfl rfl), List.forall_mem_cons.mpr ⟨Or.inl (js_wm (i := 1384) rfl rfl), List.forall_mem_cons.mpr ⟨Or.inl (js_wm (i := 832) rfl rfl), List.forall_mem_cons.mpr ⟨Or.inl (js_wm (i := 1396) rfl rfl), List.forall_mem_cons.mpr ⟨Or.inl (js_wm (i := 855) rfl rfl), List.forall_mem_cons.mpr ⟨Or.inl (js_wm (i := 1412) rfl rfl), List.forall_mem_cons.mpr ⟨Or.inl (js_wm (i := 860) rfl rfl), List.forall_mem_cons.mpr ⟨Or.inl (js_wm (i := 1420) rfl rfl), List.forall_mem_cons.mpr ⟨Or.inl (js_wm (i := 879) rfl rfl), List.forall_mem_cons.mpr ⟨Or.inl (js_wm (i := 1428) rfl rfl), List.forall_mem_cons.mpr ⟨Or.inl (js_wm (i := 912) rfl rfl), List.forall_mem_cons.mpr ⟨Or.inl (js_wm (i := 1452) rfl rfl), List.forall_mem_cons.mpr ⟨Or.inl (js_wm (i := 950) rfl rfl), List.forall_mem_cons.mpr ⟨Or.inl (js_wm (i := 1479) rfl rfl), List.forall_mem_cons.mpr ⟨Or.inl (js_wm (i := 958) rfl rfl), List.forall_mem_cons.mpr ⟨Or.inl (js_wm (i := 1483) rfl rfl), List.forall_mem_cons.mpr ⟨Or.inl (js_wm (i := 967) rfl rfl), List.forall_mem_cons.mpr ⟨Or.inl (js_wm (i := 1487) rfl rfl), List.forall_mem_cons.mpr ⟨Or.inl (js_wm (i := 975) rfl rfl), List.forall_mem_cons.mpr ⟨Or.inl (js_wm (i := 1491) rfl rfl), List.forall_mem_cons.mpr ⟨Or.inl (js_wm (i := 987) rfl rfl), List.forall_mem_cons.mpr ⟨Or.inl (js_wm (i := 1495) rfl rfl), List.forall_mem_cons.mpr ⟨Or.inl (js_wm (i := 995) rfl rfl), List.forall_mem_cons.mpr ⟨Or.inl (js_wm (i := 1503) rfl rfl), List.forall_mem_cons.mpr ⟨Or.inl (js_wm (i := 1000) rfl rfl), List.forall_mem_cons.mpr ⟨Or.inl (js_wm (i := 1507) rfl rfl), fun _ h => absurd h List.not_mem_nil⟩⟩⟩⟩⟩⟩⟩⟩⟩⟩⟩⟩⟩⟩⟩⟩⟩⟩⟩⟩⟩⟩⟩⟩⟩⟩⟩⟩⟩⟩⟩⟩⟩⟩⟩⟩⟩⟩⟩⟩
def js_ML_6 : List (Nat × Nat × Nat) := [(13, 129, 133), (13, 132, 220), (13, 133, 136), (13, 136, 221), (13, 137, 137), (13, 140, 222), (13, 141, 138), (13, 144, 223), (13, 145, 139), (13, 148, 224)]
set_option maxRecDepth 1000000 in
set_option maxHeartbeats 8000000 in
theorem js_ML_6_ok : ∀ q ∈ js_ML_6, Cond.methodLink (jm_on.getD q.1 "") q.2.1 (jm_y q.2.2) ∈ jm_ws ∨ ∃ host, (jm_on.getD q.1 "", q.2.1, jm_y q.2.2, host) ∈ jm_nest := List.forall_mem_cons.mpr ⟨Or.inl (js_wm (i := 1020) rfl rfl), List.forall_mem_cons.mpr ⟨Or.inl (js_wm (i := 1515) rfl rfl), List.forall_mem_cons.mpr ⟨Or.inl (js_wm (i := 1032) rfl rfl), List.forall_mem_cons.mpr ⟨Or.inl (js_wm (i := 1519) rfl rfl), List.forall_mem_cons.mpr ⟨Or.inl (js_wm (i := 1036) rfl rfl), List.forall_mem_cons.mpr ⟨Or.inl (js_wm (i := 1523) rfl rfl), List.forall_mem_cons.mpr ⟨Or.inl (js_wm (i := 1040) rfl rfl), List.forall_mem_cons.mpr ⟨Or.inl (js_wm (i := 1527) rfl rfl), List.forall_mem_cons.mpr ⟨Or.inl (js_wm (i := 1044) rfl rfl), List.forall_mem_cons.mpr ⟨Or.inl (js_wm (i := 1531) rfl rfl), fun _ h => absurd h List.not_mem_nil⟩⟩⟩⟩⟩⟩⟩⟩⟩⟩
def js_ML : List (Nat × Nat × Nat) := js_ML_0 ++ js_ML_1 ++ js_ML_2 ++ js_ML_3 ++ js_ML_4 ++ js_ML_5 ++ js_ML_6
theorem js_ML_ok : ∀ q ∈ js_ML, Cond.methodLink (jm_on.getD q.1 "") q.2.1 (jm_y q.2.2) ∈ jm_ws ∨ ∃ host, (jm_on.getD q.1 "", q.2.1, jm_y q.2.2, host) ∈ jm_nest := fun q h => by
  unfold js_ML at h
  simp only [List.mem_append] at h
  rcases h with (((((h | h) | h) | h) | h) | h) | h
  · exact js_ML_0_ok q h
  · exact js_ML_1_ok q h
  · exact js_ML_2_ok q h
  · exact js_ML_3_ok q h
  · exact js_ML_4_ok q h
  · exact js_ML_5_ok q h
  · exact js_ML_6_ok q h
def js_OL_0 : List (Nat × Nat) := [(0, 3), (1, 3), (2, 3), (3, 3), (4, 1), (5, 5), (6, 3), (7, 3), (8, 3), (9, 3), (10, 3), (11, 3), (12, 1)]
set_option maxRecDepth 1000000 in
set_option maxHeartbeats 8000000 in
theorem js_OL_0_ok : ∀ q ∈ js_OL_0, Cond.methodLink (jm_on.getD q.1 "") q.2 objectInit ∈ jm_ws := List.forall_mem_cons.mpr ⟨js_wm (i := 395) rfl rfl, List.forall_mem_cons.mpr ⟨js_wm (i := 789) rfl rfl, List.forall_mem_cons.mpr ⟨js_wm (i := 355) rfl rfl, List.forall_mem_cons.mpr ⟨js_wm (i := 82) rfl rfl, List.forall_mem_cons.mpr ⟨js_wm (i := 31) rfl rfl, List.forall_mem_cons.mpr ⟨js_wm (i := 272) rfl rfl, List.forall_mem_cons.mpr ⟨js_wm (i := 238) rfl rfl, List.forall_mem_cons.mpr ⟨js_wm (i := 52) rfl rfl, List.forall_mem_cons.mpr ⟨js_wm (i := 321) rfl rfl, List.forall_mem_cons.mpr ⟨js_wm (i := 187) rfl rfl, List.forall_mem_cons.mpr ⟨js_wm (i := 145) rfl rfl, List.forall_mem_cons.mpr ⟨js_wm (i := 23) rfl rfl, List.forall_mem_cons.mpr ⟨js_wm (i := 1062) rfl rfl, fun _ h => absurd h List.not_mem_nil⟩⟩⟩⟩⟩⟩⟩⟩⟩⟩⟩⟩⟩
def js_OL : List (Nat × Nat) := js_OL_0
theorem js_OL_ok : ∀ q ∈ js_OL, Cond.methodLink (jm_on.getD q.1 "") q.2 objectInit ∈ jm_ws := js_OL_0_ok
def js_AL_0 : List (Nat × Nat) := [(3, 51), (5, 69), (10, 40), (11, 315)]
set_option maxRecDepth 1000000 in
set_option maxHeartbeats 8000000 in
theorem js_AL_0_ok : ∀ q ∈ js_AL_0, Cond.methodLink (jm_on.getD q.1 "") q.2 arraycopyName ∈ jm_ws := List.forall_mem_cons.mpr ⟨js_wm (i := 526) rfl rfl, List.forall_mem_cons.mpr ⟨js_wm (i := 739) rfl rfl, List.forall_mem_cons.mpr ⟨js_wm (i := 892) rfl rfl, List.forall_mem_cons.mpr ⟨js_wm (i := 999) rfl rfl, fun _ h => absurd h List.not_mem_nil⟩⟩⟩⟩
def js_AL : List (Nat × Nat) := js_AL_0
theorem js_AL_ok : ∀ q ∈ js_AL, Cond.methodLink (jm_on.getD q.1 "") q.2 arraycopyName ∈ jm_ws := js_AL_0_ok
def js_X2_0 : List (Nat × Nat) := [(9, 113)]
set_option maxRecDepth 1000000 in
set_option maxHeartbeats 8000000 in
theorem js_X2_0_ok : ∀ q ∈ js_X2_0, Cond.methodLink (jm_on.getD q.1 "") q.2 Lib.Math.max.name ∈ jm_ws := List.forall_mem_cons.mpr ⟨js_wm (i := 666) rfl rfl, fun _ h => absurd h List.not_mem_nil⟩
def js_X2 : List (Nat × Nat) := js_X2_0
theorem js_X2_ok : ∀ q ∈ js_X2, Cond.methodLink (jm_on.getD q.1 "") q.2 Lib.Math.max.name ∈ jm_ws := js_X2_0_ok
def js_X3_0 : List (Nat × Nat) := [(0, 102)]
set_option maxRecDepth 1000000 in
set_option maxHeartbeats 8000000 in
theorem js_X3_0_ok : ∀ q ∈ js_X3_0, Cond.methodLink (jm_on.getD q.1 "") q.2 Lib.MathLoose.abs_long.x ∈ jm_ws := List.forall_mem_cons.mpr ⟨js_wm (i := 940) rfl rfl, fun _ h => absurd h List.not_mem_nil⟩
def js_X3 : List (Nat × Nat) := js_X3_0
theorem js_X3_ok : ∀ q ∈ js_X3, Cond.methodLink (jm_on.getD q.1 "") q.2 Lib.MathLoose.abs_long.x ∈ jm_ws := js_X3_0_ok
def js_X4_0 : List (Nat × Nat) := [(0, 108)]
set_option maxRecDepth 1000000 in
set_option maxHeartbeats 8000000 in
theorem js_X4_0_ok : ∀ q ∈ js_X4_0, Cond.methodLink (jm_on.getD q.1 "") q.2 Lib.MathLoose.max_long.x ∈ jm_ws := List.forall_mem_cons.mpr ⟨js_wm (i := 943) rfl rfl, fun _ h => absurd h List.not_mem_nil⟩
def js_X4 : List (Nat × Nat) := js_X4_0
theorem js_X4_ok : ∀ q ∈ js_X4, Cond.methodLink (jm_on.getD q.1 "") q.2 Lib.MathLoose.max_long.x ∈ jm_ws := js_X4_0_ok
set_option maxRecDepth 1000000 in
theorem js_aI : Cond.arrayClass .int ∈ jm_ws := js_wm (i := 46) rfl rfl
set_option maxRecDepth 1000000 in
theorem js_aJ : Cond.arrayClass .long ∈ jm_ws := js_wm (i := 423) rfl rfl
def js_CL_0 : List (Nat × Nat × Nat) := [(2, 34, 10), (2, 42, 9), (8, 9, 1), (11, 9, 4), (11, 18, 7), (11, 25, 3), (11, 32, 10), (11, 41, 9), (11, 50, 6), (11, 59, 5), (11, 66, 8), (11, 73, 2), (11, 80, 0), (13, 7, 11), (13, 10, 12)]
set_option maxRecDepth 1000000 in
set_option maxHeartbeats 8000000 in
theorem js_CL_0_ok : ∀ q ∈ js_CL_0, ∃ (C : String) (T : u_T) (ns : Nat), vwCl[q.2.2]? = some (C, T, ns) ∧ Cond.classLink (jm_on.getD q.1 "") q.2.1 C ∈ jm_ws ∧ Cond.instantiable C ns ∈ jm_ws ∧ Cond.initialized C ∈ jm_ws := List.forall_mem_cons.mpr ⟨⟨RX10, TX10, 6, rfl, js_wm (i := 356) rfl rfl, js_wm (i := 141) rfl rfl, js_wm (i := 5) rfl rfl⟩, List.forall_mem_cons.mpr ⟨⟨RX9, TX9, 11, rfl, js_wm (i := 358) rfl rfl, js_wm (i := 183) rfl rfl, js_wm (i := 6) rfl rfl⟩, List.forall_mem_cons.mpr ⟨⟨RX1, TX1, 8, rfl, js_wm (i := 322) rfl rfl, js_wm (i := 785) rfl rfl, js_wm (i := 17) rfl rfl⟩, List.forall_mem_cons.mpr ⟨⟨RX4, TX4, 3, rfl, js_wm (i := 26) rfl rfl, js_wm (i := 27) rfl rfl, js_wm (i := 2) rfl rfl⟩, List.forall_mem_cons.mpr ⟨⟨RX7, TX7, 6, rfl, js_wm (i := 47) rfl rfl, js_wm (i := 48) rfl rfl, js_wm (i := 3) rfl rfl⟩, List.forall_mem_cons.mpr ⟨⟨RX3, TX3, 9, rfl, js_wm (i := 77) rfl rfl, js_wm (i := 78) rfl rfl, js_wm (i := 4) rfl rfl⟩, List.forall_mem_cons.mpr ⟨⟨RX10, TX10, 6, rfl, js_wm (i := 140) rfl rfl, js_wm (i := 141) rfl rfl, js_wm (i := 5) rfl rfl⟩, List.forall_mem_cons.mpr ⟨⟨RX9, TX9, 11, rfl, js_wm (i := 182) rfl rfl, js_wm (i := 183) rfl rfl, js_wm (i := 6) rfl rfl⟩, List.forall_mem_cons.mpr ⟨⟨RX6, TX6, 8, rfl, js_wm (i := 233) rfl rfl, js_wm (i := 234) rfl rfl, js_wm (i := 7) rfl rfl⟩, List.forall_mem_cons.mpr ⟨⟨RX5, TX5, 13, rfl, js_wm (i := 267) rfl rfl, js_wm (i := 268) rfl rfl, js_wm (i := 8) rfl rfl⟩, List.forall_mem_cons.mpr ⟨⟨RX8, TX8, 7, rfl, js_wm (i := 316) rfl rfl, js_wm (i := 317) rfl rfl, js_wm (i := 9) rfl rfl⟩, List.forall_mem_cons.mpr ⟨⟨RX2, TX2, 9, rfl, js_wm (i := 350) rfl rfl, js_wm (i := 351) rfl rfl, js_wm (i := 10) rfl rfl⟩, List.forall_mem_cons.mpr ⟨⟨RX0, TX0, 8, rfl, js_wm (i := 390) rfl rfl, js_wm (i := 391) rfl rfl, js_wm (i := 11) rfl rfl⟩, List.forall_mem_cons.mpr ⟨⟨RX11, TX11, 12, rfl, js_wm (i := 18) rfl rfl, js_wm (i := 19) rfl rfl, js_wm (i := 1) rfl rfl⟩, List.forall_mem_cons.mpr ⟨⟨RX12, TX12, 50, rfl, js_wm (i := 1057) rfl rfl, js_wm (i := 1058) rfl rfl, js_wm (i := 12) rfl rfl⟩, fun _ h => absurd h List.not_mem_nil⟩⟩⟩⟩⟩⟩⟩⟩⟩⟩⟩⟩⟩⟩⟩
def js_CL : List (Nat × Nat × Nat) := js_CL_0
theorem js_CL_ok : ∀ q ∈ js_CL, ∃ (C : String) (T : u_T) (ns : Nat), vwCl[q.2.2]? = some (C, T, ns) ∧ Cond.classLink (jm_on.getD q.1 "") q.2.1 C ∈ jm_ws ∧ Cond.instantiable C ns ∈ jm_ws ∧ Cond.initialized C ∈ jm_ws := js_CL_0_ok
def js_LL_0 : List (Nat × Nat) := [(8, 9)]
set_option maxRecDepth 1000000 in
set_option maxHeartbeats 8000000 in
theorem js_LL_0_ok : ∀ q ∈ js_LL_0, Cond.classLink (jm_on.getD q.1 "") q.2 "LaneWaits$Load" ∈ jm_ws := List.forall_mem_cons.mpr ⟨js_wm (i := 322) rfl rfl, fun _ h => absurd h List.not_mem_nil⟩
def js_LL : List (Nat × Nat) := js_LL_0
theorem js_LL_ok : ∀ q ∈ js_LL, Cond.classLink (jm_on.getD q.1 "") q.2 "LaneWaits$Load" ∈ jm_ws := js_LL_0_ok
def js_RL_0 : List (Nat × Nat) := [(3, 21), (4, 9), (6, 9), (8, 17), (10, 15)]
set_option maxRecDepth 1000000 in
set_option maxHeartbeats 8000000 in
theorem js_RL_0_ok : ∀ q ∈ js_RL_0, Cond.classLink (jm_on.getD q.1 "") q.2 "[[I" ∈ jm_ws := List.forall_mem_cons.mpr ⟨js_wm (i := 83) rfl rfl, List.forall_mem_cons.mpr ⟨js_wm (i := 32) rfl rfl, List.forall_mem_cons.mpr ⟨js_wm (i := 239) rfl rfl, List.forall_mem_cons.mpr ⟨js_wm (i := 324) rfl rfl, List.forall_mem_cons.mpr ⟨js_wm (i := 146) rfl rfl, fun _ h => absurd h List.not_mem_nil⟩⟩⟩⟩⟩
def js_RL : List (Nat × Nat) := js_RL_0
theorem js_RL_ok : ∀ q ∈ js_RL, Cond.classLink (jm_on.getD q.1 "") q.2 "[[I" ∈ jm_ws := js_RL_0_ok
def js_KI_0 : List (Nat × Nat × Int) := [(14, 265, 1431655765), (14, 266, 858993459), (14, 267, 252645135), (14, 264, 65536)]
set_option maxRecDepth 1000000 in
set_option maxHeartbeats 8000000 in
theorem js_KI_0_ok : ∀ q ∈ js_KI_0, ∃ v : Int32, Cond.constant (jm_on.getD q.1 "") q.2.1 v ∈ jm_ws ∧ v.toInt = q.2.2 := List.forall_mem_cons.mpr ⟨⟨1431655765, js_wm (i := 711) rfl rfl, rfl⟩, List.forall_mem_cons.mpr ⟨⟨858993459, js_wm (i := 712) rfl rfl, rfl⟩, List.forall_mem_cons.mpr ⟨⟨252645135, js_wm (i := 713) rfl rfl, rfl⟩, List.forall_mem_cons.mpr ⟨⟨65536, js_wm (i := 747) rfl rfl, rfl⟩, fun _ h => absurd h List.not_mem_nil⟩⟩⟩⟩
def js_KI : List (Nat × Nat × Int) := js_KI_0
theorem js_KI_ok : ∀ q ∈ js_KI, ∃ v : Int32, Cond.constant (jm_on.getD q.1 "") q.2.1 v ∈ jm_ws ∧ v.toInt = q.2.2 := js_KI_0_ok
def js_KJ_0 : List (Nat × Nat × Int) := [(11, 278, (-9223372036854775808)), (12, 123, (-9223372036854775808))]
set_option maxRecDepth 1000000 in
set_option maxHeartbeats 8000000 in
theorem js_KJ_0_ok : ∀ q ∈ js_KJ_0, ∃ v : Int64, Cond.constantLong (jm_on.getD q.1 "") q.2.1 v ∈ jm_ws ∧ v.toInt = q.2.2 := List.forall_mem_cons.mpr ⟨⟨-9223372036854775808, js_wm (i := 916) rfl rfl, rfl⟩, List.forall_mem_cons.mpr ⟨⟨-9223372036854775808, js_wm (i := 1456) rfl rfl, rfl⟩, fun _ h => absurd h List.not_mem_nil⟩⟩
def js_KJ : List (Nat × Nat × Int) := js_KJ_0
theorem js_KJ_ok : ∀ q ∈ js_KJ, ∃ v : Int64, Cond.constantLong (jm_on.getD q.1 "") q.2.1 v ∈ jm_ws ∧ v.toInt = q.2.2 := js_KJ_0_ok
def js_MK_0 : List (Nat × Nat × Nat × Nat) := [(0, 1, 0, 22), (1, 1, 0, 15), (2, 1, 0, 18), (3, 1, 0, 14), (4, 1, 1, 21), (5, 1, 2, 20), (6, 1, 3, 17), (7, 1, 2, 16), (8, 1, 2, 19), (9, 1, 3, 13), (10, 1, 3, 11), (11, 0, 4, 22), (12, 0, 1, 15), (13, 0, 1, 15), (14, 0, 2, 15), (15, 0, 1, 15), (16, 0, 1, 22), (17, 0, 3, 15), (18, 0, 3, 18), (19, 0, 1, 18), (20, 0, 2, 18), (21, 0, 1, 18), (22, 0, 1, 18), (23, 0, 1, 18), (24, 0, 1, 18), (25, 0, 1, 18), (26, 0, 1, 14), (27, 0, 1, 14), (28, 0, 1, 14), (29, 0, 0, 21)]
set_option maxRecDepth 1000000 in
set_option maxHeartbeats 8000000 in
theorem js_MK_0_ok : ∀ q ∈ js_MK_0, (parseMethodDescriptor (jm_y q.1).desc).map (fun d => d.parameters.length) = some q.2.2.1 ∧ ((q.2.1 = 2 ∧ Cond.static (jm_y q.1) ∈ jm_ws ∧ q.2.2.2 = 0) ∨ (q.2.1 = 1 ∧ Cond.instanceMethod (jm_y q.1) ∈ jm_ws ∧ 10 < q.2.2.2 ∧ (∃ (T : u_T) (N : Nat), vwCl[q.2.2.2 - 11]? = some ((jm_y q.1).cls, T, N)) ∧ (jm_y q.1).name = "<init>" ∧ jm_ret q.1 = none) ∨ (q.2.1 = 0 ∧ Cond.instanceMethod (jm_y q.1) ∈ jm_ws ∧ 10 < q.2.2.2 ∧ (∃ (T : u_T) (N : Nat), vwCl[q.2.2.2 - 11]? = some ((jm_y q.1).cls, T, N)) ∧ q.2.2.2 ≠ 12 ∧ Cond.selects (jm_y q.1).cls (jm_y q.1) (jm_y q.1) ∈ jm_ws)) := List.forall_mem_cons.mpr ⟨⟨by decide +kernel, Or.inr (Or.inl ⟨rfl, js_wm (i := 21) rfl rfl, by decide, ⟨TX11, 12, rfl⟩, rfl, rfl⟩)⟩, List.forall_mem_cons.mpr ⟨⟨by decide +kernel, Or.inr (Or.inl ⟨rfl, js_wm (i := 29) rfl rfl, by decide, ⟨TX4, 3, rfl⟩, rfl, rfl⟩)⟩, List.forall_mem_cons.mpr ⟨⟨by decide +kernel, Or.inr (Or.inl ⟨rfl, js_wm (i := 50) rfl rfl, by decide, ⟨TX7, 6, rfl⟩, rfl, rfl⟩)⟩, List.forall_mem_cons.mpr ⟨⟨by decide +kernel, Or.inr (Or.inl ⟨rfl, js_wm (i := 80) rfl rfl, by decide, ⟨TX3, 9, rfl⟩, rfl, rfl⟩)⟩, List.forall_mem_cons.mpr ⟨⟨by decide +kernel, Or.inr (Or.inl ⟨rfl, js_wm (i := 143) rfl rfl, by decide, ⟨TX10, 6, rfl⟩, rfl, rfl⟩)⟩, List.forall_mem_cons.mpr ⟨⟨by decide +kernel, Or.inr (Or.inl ⟨rfl, js_wm (i := 185) rfl rfl, by decide, ⟨TX9, 11, rfl⟩, rfl, rfl⟩)⟩, List.forall_mem_cons.mpr ⟨⟨by decide +kernel, Or.inr (Or.inl ⟨rfl, js_wm (i := 236) rfl rfl, by decide, ⟨TX6, 8, rfl⟩, rfl, rfl⟩)⟩, List.forall_mem_cons.mpr ⟨⟨by decide +kernel, Or.inr (Or.inl ⟨rfl, js_wm (i := 270) rfl rfl, by decide, ⟨TX5, 13, rfl⟩, rfl, rfl⟩)⟩, List.forall_mem_cons.mpr ⟨⟨by decide +kernel, Or.inr (Or.inl ⟨rfl, js_wm (i := 319) rfl rfl, by decide, ⟨TX8, 7, rfl⟩, rfl, rfl⟩)⟩, List.forall_mem_cons.mpr ⟨⟨by decide +kernel, Or.inr (Or.inl ⟨rfl, js_wm (i := 353) rfl rfl, by decide, ⟨TX2, 9, rfl⟩, rfl, rfl⟩)⟩, List.forall_mem_cons.mpr ⟨⟨by decide +kernel, Or.inr (Or.inl ⟨rfl, js_wm (i := 393) rfl rfl, by decide, ⟨TX0, 8, rfl⟩, rfl, rfl⟩)⟩, List.forall_mem_cons.mpr ⟨⟨by decide +kernel, Or.inr (Or.inr ⟨rfl, js_wm (i := 462) rfl rfl, by decide, ⟨TX11, 12, rfl⟩, by decide, js_wm (i := 463) rfl rfl⟩)⟩, List.forall_mem_cons.mpr ⟨⟨by decide +kernel, Or.inr (Or.inr ⟨rfl, js_wm (i := 466) rfl rfl, by decide, ⟨TX4, 3, rfl⟩, by decide, js_wm (i := 467) rfl rfl⟩)⟩, List.forall_mem_cons.mpr ⟨⟨by decide +kernel, Or.inr (Or.inr ⟨rfl, js_wm (i := 470) rfl rfl, by decide, ⟨TX4, 3, rfl⟩, by decide, js_wm (i := 471) rfl rfl⟩)⟩, List.forall_mem_cons.mpr ⟨⟨by decide +kernel, Or.inr (Or.inr ⟨rfl, js_wm (i := 474) rfl rfl, by decide, ⟨TX4, 3, rfl⟩, by decide, js_wm (i := 475) rfl rfl⟩)⟩, List.forall_mem_cons.mpr ⟨⟨by decide +kernel, Or.inr (Or.inr ⟨rfl, js_wm (i := 478) rfl rfl, by decide, ⟨TX4, 3, rfl⟩, by decide, js_wm (i := 479) rfl rfl⟩)⟩, List.forall_mem_cons.mpr ⟨⟨by decide +kernel, Or.inr (Or.inr ⟨rfl, js_wm (i := 483) rfl rfl, by decide, ⟨TX11, 12, rfl⟩, by decide, js_wp (i := 0) rfl⟩)⟩, List.forall_mem_cons.mpr ⟨⟨by decide +kernel, Or.inr (Or.inr ⟨rfl, js_wm (i := 487) rfl rfl, by decide, ⟨TX4, 3, rfl⟩, by decide, js_wm (i := 488) rfl rfl⟩)⟩, List.forall_mem_cons.mpr ⟨⟨by decide +kernel, Or.inr (Or.inr ⟨rfl, js_wm (i := 491) rfl rfl, by decide, ⟨TX7, 6, rfl⟩, by decide, js_wm (i := 492) rfl rfl⟩)⟩, List.forall_mem_cons.mpr ⟨⟨by decide +kernel, Or.inr (Or.inr ⟨rfl, js_wm (i := 496) rfl rfl, by decide, ⟨TX7, 6, rfl⟩, by decide, js_wp (i := 1) rfl⟩)⟩, List.forall_mem_cons.mpr ⟨⟨by decide +kernel, Or.inr (Or.inr ⟨rfl, js_wm (i := 500) rfl rfl, by decide, ⟨TX7, 6, rfl⟩, by decide, js_wp (i := 2) rfl⟩)⟩, List.forall_mem_cons.mpr ⟨⟨by decide +kernel, Or.inr (Or.inr ⟨rfl, js_wm (i := 504) rfl rfl, by decide, ⟨TX7, 6, rfl⟩, by decide, js_wp (i := 3) rfl⟩)⟩, List.forall_mem_cons.mpr ⟨⟨by decide +kernel, Or.inr (Or.inr ⟨rfl, js_wm (i := 508) rfl rfl, by decide, ⟨TX7, 6, rfl⟩, by decide, js_wp (i := 4) rfl⟩)⟩, List.forall_mem_cons.mpr ⟨⟨by decide +kernel, Or.inr (Or.inr ⟨rfl, js_wm (i := 512) rfl rfl, by decide, ⟨TX7, 6, rfl⟩, by decide, js_wp (i := 5) rfl⟩)⟩, List.forall_mem_cons.mpr ⟨⟨by decide +kernel, Or.inr (Or.inr ⟨rfl, js_wm (i := 516) rfl rfl, by decide, ⟨TX7, 6, rfl⟩, by decide, js_wp (i := 6) rfl⟩)⟩, List.forall_mem_cons.mpr ⟨⟨by decide +kernel, Or.inr (Or.inr ⟨rfl, js_wm (i := 520) rfl rfl, by decide, ⟨TX7, 6, rfl⟩, by decide, js_wp (i := 7) rfl⟩)⟩, List.forall_mem_cons.mpr ⟨⟨by decide +kernel, Or.inr (Or.inr ⟨rfl, js_wm (i := 523) rfl rfl, by decide, ⟨TX3, 9, rfl⟩, by decide, js_wm (i := 524) rfl rfl⟩)⟩, List.forall_mem_cons.mpr ⟨⟨by decide +kernel, Or.inr (Or.inr ⟨rfl, js_wm (i := 531) rfl rfl, by decide, ⟨TX3, 9, rfl⟩, by decide, js_wp (i := 8) rfl⟩)⟩, List.forall_mem_cons.mpr ⟨⟨by decide +kernel, Or.inr (Or.inr ⟨rfl, js_wm (i := 535) rfl rfl, by decide, ⟨TX3, 9, rfl⟩, by decide, js_wp (i := 9) rfl⟩)⟩, List.forall_mem_cons.mpr ⟨⟨by decide +kernel, Or.inr (Or.inr ⟨rfl, js_wm (i := 538) rfl rfl, by decide, ⟨TX10, 6, rfl⟩, by decide, js_wm (i := 539) rfl rfl⟩)⟩, fun _ h => absurd h List.not_mem_nil⟩⟩⟩⟩⟩⟩⟩⟩⟩⟩⟩⟩⟩⟩⟩⟩⟩⟩⟩⟩⟩⟩⟩⟩⟩⟩⟩⟩⟩⟩
def js_MK_1 : List (Nat × Nat × Nat × Nat) := [(30, 2, 2, 0), (31, 0, 0, 21), (32, 0, 3, 21), (33, 0, 1, 21), (34, 0, 0, 19), (35, 0, 2, 22), (36, 0, 1, 14), (37, 0, 2, 19), (38, 0, 2, 22), (39, 0, 2, 14), (40, 0, 1, 14), (41, 0, 1, 22), (42, 0, 1, 21), (43, 0, 3, 22), (44, 0, 2, 21), (45, 2, 2, 0), (46, 0, 3, 21), (47, 0, 2, 22), (48, 0, 2, 22), (49, 0, 2, 22), (50, 0, 2, 20), (51, 0, 2, 20), (52, 0, 2, 20), (53, 2, 3, 0), (54, 0, 1, 22), (55, 0, 0, 20), (56, 0, 1, 20), (57, 0, 0, 20), (58, 0, 1, 20), (59, 0, 1, 20)]
set_option maxRecDepth 1000000 in
set_option maxHeartbeats 8000000 in
theorem js_MK_1_ok : ∀ q ∈ js_MK_1, (parseMethodDescriptor (jm_y q.1).desc).map (fun d => d.parameters.length) = some q.2.2.1 ∧ ((q.2.1 = 2 ∧ Cond.static (jm_y q.1) ∈ jm_ws ∧ q.2.2.2 = 0) ∨ (q.2.1 = 1 ∧ Cond.instanceMethod (jm_y q.1) ∈ jm_ws ∧ 10 < q.2.2.2 ∧ (∃ (T : u_T) (N : Nat), vwCl[q.2.2.2 - 11]? = some ((jm_y q.1).cls, T, N)) ∧ (jm_y q.1).name = "<init>" ∧ jm_ret q.1 = none) ∨ (q.2.1 = 0 ∧ Cond.instanceMethod (jm_y q.1) ∈ jm_ws ∧ 10 < q.2.2.2 ∧ (∃ (T : u_T) (N : Nat), vwCl[q.2.2.2 - 11]? = some ((jm_y q.1).cls, T, N)) ∧ q.2.2.2 ≠ 12 ∧ Cond.selects (jm_y q.1).cls (jm_y q.1) (jm_y q.1) ∈ jm_ws)) := List.forall_mem_cons.mpr ⟨⟨by decide +kernel, Or.inl ⟨rfl, js_wm (i := 542) rfl rfl, rfl⟩⟩, List.forall_mem_cons.mpr ⟨⟨by decide +kernel, Or.inr (Or.inr ⟨rfl, js_wm (i := 546) rfl rfl, by decide, ⟨TX10, 6, rfl⟩, by decide, js_wp (i := 10) rfl⟩)⟩, List.forall_mem_cons.mpr ⟨⟨by decide +kernel, Or.inr (Or.inr ⟨rfl, js_wm (i := 550) rfl rfl, by decide, ⟨TX10, 6, rfl⟩, by decide, js_wp (i := 11) rfl⟩)⟩, List.forall_mem_cons.mpr ⟨⟨by decide +kernel, Or.inr (Or.inr ⟨rfl, js_wm (i := 554) rfl rfl, by decide, ⟨TX10, 6, rfl⟩, by decide, js_wp (i := 12) rfl⟩)⟩, List.forall_mem_cons.mpr ⟨⟨by decide +kernel, Or.inr (Or.inr ⟨rfl, js_wm (i := 557) rfl rfl, by decide, ⟨TX8, 7, rfl⟩, by decide, js_wm (i := 558) rfl rfl⟩)⟩, List.forall_mem_cons.mpr ⟨⟨by decide +kernel, Or.inr (Or.inr ⟨rfl, js_wm (i := 562) rfl rfl, by decide, ⟨TX11, 12, rfl⟩, by decide, js_wm (i := 563) rfl rfl⟩)⟩, List.forall_mem_cons.mpr ⟨⟨by decide +kernel, Or.inr (Or.inr ⟨rfl, js_wm (i := 566) rfl rfl, by decide, ⟨TX3, 9, rfl⟩, by decide, js_wm (i := 567) rfl rfl⟩)⟩, List.forall_mem_cons.mpr ⟨⟨by decide +kernel, Or.inr (Or.inr ⟨rfl, js_wm (i := 570) rfl rfl, by decide, ⟨TX8, 7, rfl⟩, by decide, js_wm (i := 571) rfl rfl⟩)⟩, List.forall_mem_cons.mpr ⟨⟨by decide +kernel, Or.inr (Or.inr ⟨rfl, js_wm (i := 574) rfl rfl, by decide, ⟨TX11, 12, rfl⟩, by decide, js_wm (i := 575) rfl rfl⟩)⟩, List.forall_mem_cons.mpr ⟨⟨by decide +kernel, Or.inr (Or.inr ⟨rfl, js_wm (i := 578) rfl rfl, by decide, ⟨TX3, 9, rfl⟩, by decide, js_wm (i := 579) rfl rfl⟩)⟩, List.forall_mem_cons.mpr ⟨⟨by decide +kernel, Or.inr (Or.inr ⟨rfl, js_wm (i := 582) rfl rfl, by decide, ⟨TX3, 9, rfl⟩, by decide, js_wm (i := 583) rfl rfl⟩)⟩, List.forall_mem_cons.mpr ⟨⟨by decide +kernel, Or.inr (Or.inr ⟨rfl, js_wm (i := 586) rfl rfl, by decide, ⟨TX11, 12, rfl⟩, by decide, js_wm (i := 587) rfl rfl⟩)⟩, List.forall_mem_cons.mpr ⟨⟨by decide +kernel, Or.inr (Or.inr ⟨rfl, js_wm (i := 590) rfl rfl, by decide, ⟨TX10, 6, rfl⟩, by decide, js_wm (i := 591) rfl rfl⟩)⟩, List.forall_mem_cons.mpr ⟨⟨by decide +kernel, Or.inr (Or.inr ⟨rfl, js_wm (i := 594) rfl rfl, by decide, ⟨TX11, 12, rfl⟩, by decide, js_wm (i := 595) rfl rfl⟩)⟩, List.forall_mem_cons.mpr ⟨⟨by decide +kernel, Or.inr (Or.inr ⟨rfl, js_wm (i := 598) rfl rfl, by decide, ⟨TX10, 6, rfl⟩, by decide, js_wm (i := 599) rfl rfl⟩)⟩, List.forall_mem_cons.mpr ⟨⟨by decide +kernel, Or.inl ⟨rfl, js_wm (i := 602) rfl rfl, rfl⟩⟩, List.forall_mem_cons.mpr ⟨⟨by decide +kernel, Or.inr (Or.inr ⟨rfl, js_wm (i := 605) rfl rfl, by decide, ⟨TX10, 6, rfl⟩, by decide, js_wm (i := 606) rfl rfl⟩)⟩, List.forall_mem_cons.mpr ⟨⟨by decide +kernel, Or.inr (Or.inr ⟨rfl, js_wm (i := 609) rfl rfl, by decide, ⟨TX11, 12, rfl⟩, by decide, js_wm (i := 610) rfl rfl⟩)⟩, List.forall_mem_cons.mpr ⟨⟨by decide +kernel, Or.inr (Or.inr ⟨rfl, js_wm (i := 614) rfl rfl, by decide, ⟨TX11, 12, rfl⟩, by decide, js_wm (i := 615) rfl rfl⟩)⟩, List.forall_mem_cons.mpr ⟨⟨by decide +kernel, Or.inr (Or.inr ⟨rfl, js_wm (i := 618) rfl rfl, by decide, ⟨TX11, 12, rfl⟩, by decide, js_wm (i := 619) rfl rfl⟩)⟩, List.forall_mem_cons.mpr ⟨⟨by decide +kernel, Or.inr (Or.inr ⟨rfl, js_wm (i := 622) rfl rfl, by decide, ⟨TX9, 11, rfl⟩, by decide, js_wm (i := 623) rfl rfl⟩)⟩, List.forall_mem_cons.mpr ⟨⟨by decide +kernel, Or.inr (Or.inr ⟨rfl, js_wm (i := 627) rfl rfl, by decide, ⟨TX9, 11, rfl⟩, by decide, js_wp (i := 13) rfl⟩)⟩, List.forall_mem_cons.mpr ⟨⟨by decide +kernel, Or.inr (Or.inr ⟨rfl, js_wm (i := 632) rfl rfl, by decide, ⟨TX9, 11, rfl⟩, by decide, js_wp (i := 14) rfl⟩)⟩, List.forall_mem_cons.mpr ⟨⟨by decide +kernel, Or.inl ⟨rfl, js_wm (i := 635) rfl rfl, rfl⟩⟩, List.forall_mem_cons.mpr ⟨⟨by decide +kernel, Or.inr (Or.inr ⟨rfl, js_wm (i := 638) rfl rfl, by decide, ⟨TX11, 12, rfl⟩, by decide, js_wm (i := 639) rfl rfl⟩)⟩, List.forall_mem_cons.mpr ⟨⟨by decide +kernel, Or.inr (Or.inr ⟨rfl, js_wm (i := 642) rfl rfl, by decide, ⟨TX9, 11, rfl⟩, by decide, js_wm (i := 643) rfl rfl⟩)⟩, List.forall_mem_cons.mpr ⟨⟨by decide +kernel, Or.inr (Or.inr ⟨rfl, js_wm (i := 648) rfl rfl, by decide, ⟨TX9, 11, rfl⟩, by decide, js_wp (i := 15) rfl⟩)⟩, List.forall_mem_cons.mpr ⟨⟨by decide +kernel, Or.inr (Or.inr ⟨rfl, js_wm (i := 652) rfl rfl, by decide, ⟨TX9, 11, rfl⟩, by decide, js_wp (i := 16) rfl⟩)⟩, List.forall_mem_cons.mpr ⟨⟨by decide +kernel, Or.inr (Or.inr ⟨rfl, js_wm (i := 656) rfl rfl, by decide, ⟨TX9, 11, rfl⟩, by decide, js_wp (i := 17) rfl⟩)⟩, List.forall_mem_cons.mpr ⟨⟨by decide +kernel, Or.inr (Or.inr ⟨rfl, js_wm (i := 660) rfl rfl, by decide, ⟨TX9, 11, rfl⟩, by decide, js_wp (i := 18) rfl⟩)⟩, fun _ h => absurd h List.not_mem_nil⟩⟩⟩⟩⟩⟩⟩⟩⟩⟩⟩⟩⟩⟩⟩⟩⟩⟩⟩⟩⟩⟩⟩⟩⟩⟩⟩⟩⟩⟩
def js_MK_2 : List (Nat × Nat × Nat × Nat) := [(60, 0, 0, 20), (61, 0, 1, 22), (62, 0, 1, 22), (63, 0, 1, 22), (64, 0, 1, 22), (65, 0, 0, 17), (66, 0, 1, 17), (67, 0, 0, 17), (68, 0, 2, 17), (69, 0, 0, 17), (70, 2, 1, 0), (71, 0, 1, 17), (72, 0, 1, 22), (73, 0, 0, 16), (74, 0, 0, 16), (75, 0, 0, 16), (76, 0, 1, 16), (77, 0, 1, 16), (78, 2, 1, 0), (79, 0, 2, 16), (80, 0, 0, 16), (81, 0, 2, 16), (82, 0, 3, 16), (83, 0, 3, 22), (84, 2, 1, 0), (85, 0, 2, 19), (86, 0, 1, 19), (87, 0, 4, 19), (88, 1, 4, 12), (89, 0, 2, 19)]
set_option maxRecDepth 1000000 in
set_option maxHeartbeats 8000000 in
theorem js_MK_2_ok : ∀ q ∈ js_MK_2, (parseMethodDescriptor (jm_y q.1).desc).map (fun d => d.parameters.length) = some q.2.2.1 ∧ ((q.2.1 = 2 ∧ Cond.static (jm_y q.1) ∈ jm_ws ∧ q.2.2.2 = 0) ∨ (q.2.1 = 1 ∧ Cond.instanceMethod (jm_y q.1) ∈ jm_ws ∧ 10 < q.2.2.2 ∧ (∃ (T : u_T) (N : Nat), vwCl[q.2.2.2 - 11]? = some ((jm_y q.1).cls, T, N)) ∧ (jm_y q.1).name = "<init>" ∧ jm_ret q.1 = none) ∨ (q.2.1 = 0 ∧ Cond.instanceMethod (jm_y q.1) ∈ jm_ws ∧ 10 < q.2.2.2 ∧ (∃ (T : u_T) (N : Nat), vwCl[q.2.2.2 - 11]? = some ((jm_y q.1).cls, T, N)) ∧ q.2.2.2 ≠ 12 ∧ Cond.selects (jm_y q.1).cls (jm_y q.1) (jm_y q.1) ∈ jm_ws)) := List.forall_mem_cons.mpr ⟨⟨by decide +kernel, Or.inr (Or.inr ⟨rfl, js_wm (i := 664) rfl rfl, by decide, ⟨TX9, 11, rfl⟩, by decide, js_wp (i := 19) rfl⟩)⟩, List.forall_mem_cons.mpr ⟨⟨by decide +kernel, Or.inr (Or.inr ⟨rfl, js_wm (i := 671) rfl rfl, by decide, ⟨TX11, 12, rfl⟩, by decide, js_wm (i := 672) rfl rfl⟩)⟩, List.forall_mem_cons.mpr ⟨⟨by decide +kernel, Or.inr (Or.inr ⟨rfl, js_wm (i := 675) rfl rfl, by decide, ⟨TX11, 12, rfl⟩, by decide, js_wm (i := 676) rfl rfl⟩)⟩, List.forall_mem_cons.mpr ⟨⟨by decide +kernel, Or.inr (Or.inr ⟨rfl, js_wm (i := 679) rfl rfl, by decide, ⟨TX11, 12, rfl⟩, by decide, js_wm (i := 680) rfl rfl⟩)⟩, List.forall_mem_cons.mpr ⟨⟨by decide +kernel, Or.inr (Or.inr ⟨rfl, js_wm (i := 683) rfl rfl, by decide, ⟨TX11, 12, rfl⟩, by decide, js_wm (i := 684) rfl rfl⟩)⟩, List.forall_mem_cons.mpr ⟨⟨by decide +kernel, Or.inr (Or.inr ⟨rfl, js_wm (i := 687) rfl rfl, by decide, ⟨TX6, 8, rfl⟩, by decide, js_wm (i := 688) rfl rfl⟩)⟩, List.forall_mem_cons.mpr ⟨⟨by decide +kernel, Or.inr (Or.inr ⟨rfl, js_wm (i := 693) rfl rfl, by decide, ⟨TX6, 8, rfl⟩, by decide, js_wp (i := 20) rfl⟩)⟩, List.forall_mem_cons.mpr ⟨⟨by decide +kernel, Or.inr (Or.inr ⟨rfl, js_wm (i := 698) rfl rfl, by decide, ⟨TX6, 8, rfl⟩, by decide, js_wp (i := 21) rfl⟩)⟩, List.forall_mem_cons.mpr ⟨⟨by decide +kernel, Or.inr (Or.inr ⟨rfl, js_wm (i := 702) rfl rfl, by decide, ⟨TX6, 8, rfl⟩, by decide, js_wp (i := 22) rfl⟩)⟩, List.forall_mem_cons.mpr ⟨⟨by decide +kernel, Or.inr (Or.inr ⟨rfl, js_wm (i := 706) rfl rfl, by decide, ⟨TX6, 8, rfl⟩, by decide, js_wp (i := 23) rfl⟩)⟩, List.forall_mem_cons.mpr ⟨⟨by decide +kernel, Or.inl ⟨rfl, js_wm (i := 709) rfl rfl, rfl⟩⟩, List.forall_mem_cons.mpr ⟨⟨by decide +kernel, Or.inr (Or.inr ⟨rfl, js_wm (i := 716) rfl rfl, by decide, ⟨TX6, 8, rfl⟩, by decide, js_wp (i := 24) rfl⟩)⟩, List.forall_mem_cons.mpr ⟨⟨by decide +kernel, Or.inr (Or.inr ⟨rfl, js_wm (i := 719) rfl rfl, by decide, ⟨TX11, 12, rfl⟩, by decide, js_wm (i := 720) rfl rfl⟩)⟩, List.forall_mem_cons.mpr ⟨⟨by decide +kernel, Or.inr (Or.inr ⟨rfl, js_wm (i := 723) rfl rfl, by decide, ⟨TX5, 13, rfl⟩, by decide, js_wm (i := 724) rfl rfl⟩)⟩, List.forall_mem_cons.mpr ⟨⟨by decide +kernel, Or.inr (Or.inr ⟨rfl, js_wm (i := 727) rfl rfl, by decide, ⟨TX5, 13, rfl⟩, by decide, js_wm (i := 728) rfl rfl⟩)⟩, List.forall_mem_cons.mpr ⟨⟨by decide +kernel, Or.inr (Or.inr ⟨rfl, js_wm (i := 732) rfl rfl, by decide, ⟨TX5, 13, rfl⟩, by decide, js_wp (i := 25) rfl⟩)⟩, List.forall_mem_cons.mpr ⟨⟨by decide +kernel, Or.inr (Or.inr ⟨rfl, js_wm (i := 737) rfl rfl, by decide, ⟨TX5, 13, rfl⟩, by decide, js_wp (i := 26) rfl⟩)⟩, List.forall_mem_cons.mpr ⟨⟨by decide +kernel, Or.inr (Or.inr ⟨rfl, js_wm (i := 742) rfl rfl, by decide, ⟨TX5, 13, rfl⟩, by decide, js_wp (i := 27) rfl⟩)⟩, List.forall_mem_cons.mpr ⟨⟨by decide +kernel, Or.inl ⟨rfl, js_wm (i := 745) rfl rfl, rfl⟩⟩, List.forall_mem_cons.mpr ⟨⟨by decide +kernel, Or.inr (Or.inr ⟨rfl, js_wm (i := 750) rfl rfl, by decide, ⟨TX5, 13, rfl⟩, by decide, js_wp (i := 28) rfl⟩)⟩, List.forall_mem_cons.mpr ⟨⟨by decide +kernel, Or.inr (Or.inr ⟨rfl, js_wm (i := 754) rfl rfl, by decide, ⟨TX5, 13, rfl⟩, by decide, js_wp (i := 29) rfl⟩)⟩, List.forall_mem_cons.mpr ⟨⟨by decide +kernel, Or.inr (Or.inr ⟨rfl, js_wm (i := 759) rfl rfl, by decide, ⟨TX5, 13, rfl⟩, by decide, js_wp (i := 30) rfl⟩)⟩, List.forall_mem_cons.mpr ⟨⟨by decide +kernel, Or.inr (Or.inr ⟨rfl, js_wm (i := 763) rfl rfl, by decide, ⟨TX5, 13, rfl⟩, by decide, js_wp (i := 31) rfl⟩)⟩, List.forall_mem_cons.mpr ⟨⟨by decide +kernel, Or.inr (Or.inr ⟨rfl, js_wm (i := 766) rfl rfl, by decide, ⟨TX11, 12, rfl⟩, by decide, js_wm (i := 767) rfl rfl⟩)⟩, List.forall_mem_cons.mpr ⟨⟨by decide +kernel, Or.inl ⟨rfl, js_wm (i := 770) rfl rfl, rfl⟩⟩, List.forall_mem_cons.mpr ⟨⟨by decide +kernel, Or.inr (Or.inr ⟨rfl, js_wm (i := 773) rfl rfl, by decide, ⟨TX8, 7, rfl⟩, by decide, js_wm (i := 774) rfl rfl⟩)⟩, List.forall_mem_cons.mpr ⟨⟨by decide +kernel, Or.inr (Or.inr ⟨rfl, js_wm (i := 779) rfl rfl, by decide, ⟨TX8, 7, rfl⟩, by decide, js_wp (i := 32) rfl⟩)⟩, List.forall_mem_cons.mpr ⟨⟨by decide +kernel, Or.inr (Or.inr ⟨rfl, js_wm (i := 782) rfl rfl, by decide, ⟨TX8, 7, rfl⟩, by decide, js_wm (i := 783) rfl rfl⟩)⟩, List.forall_mem_cons.mpr ⟨⟨by decide +kernel, Or.inr (Or.inl ⟨rfl, js_wm (i := 787) rfl rfl, by decide, ⟨TX1, 8, rfl⟩, rfl, rfl⟩)⟩, List.forall_mem_cons.mpr ⟨⟨by decide +kernel, Or.inr (Or.inr ⟨rfl, js_wm (i := 830) rfl rfl, by decide, ⟨TX8, 7, rfl⟩, by decide, js_wp (i := 33) rfl⟩)⟩, fun _ h => absurd h List.not_mem_nil⟩⟩⟩⟩⟩⟩⟩⟩⟩⟩⟩⟩⟩⟩⟩⟩⟩⟩⟩⟩⟩⟩⟩⟩⟩⟩⟩⟩⟩⟩
def js_MK_3 : List (Nat × Nat × Nat × Nat) := [(90, 0, 1, 22), (91, 0, 0, 19), (92, 0, 2, 19), (93, 0, 1, 19), (94, 0, 1, 19), (95, 0, 2, 22), (96, 0, 0, 22), (97, 0, 0, 19), (98, 0, 2, 19), (99, 0, 2, 19), (100, 2, 1, 0), (101, 0, 1, 22), (102, 0, 0, 13), (103, 0, 1, 21), (104, 0, 0, 13), (105, 0, 2, 13), (106, 0, 2, 13), (107, 0, 0, 20), (108, 0, 2, 22), (109, 0, 0, 11), (110, 2, 2, 0), (111, 0, 1, 11), (112, 0, 3, 11), (113, 2, 5, 0), (114, 2, 2, 0), (115, 0, 2, 11), (116, 0, 0, 22), (117, 0, 0, 11), (118, 0, 3, 22), (119, 0, 3, 15)]
set_option maxRecDepth 1000000 in
set_option maxHeartbeats 8000000 in
theorem js_MK_3_ok : ∀ q ∈ js_MK_3, (parseMethodDescriptor (jm_y q.1).desc).map (fun d => d.parameters.length) = some q.2.2.1 ∧ ((q.2.1 = 2 ∧ Cond.static (jm_y q.1) ∈ jm_ws ∧ q.2.2.2 = 0) ∨ (q.2.1 = 1 ∧ Cond.instanceMethod (jm_y q.1) ∈ jm_ws ∧ 10 < q.2.2.2 ∧ (∃ (T : u_T) (N : Nat), vwCl[q.2.2.2 - 11]? = some ((jm_y q.1).cls, T, N)) ∧ (jm_y q.1).name = "<init>" ∧ jm_ret q.1 = none) ∨ (q.2.1 = 0 ∧ Cond.instanceMethod (jm_y q.1) ∈ jm_ws ∧ 10 < q.2.2.2 ∧ (∃ (T : u_T) (N : Nat), vwCl[q.2.2.2 - 11]? = some ((jm_y q.1).cls, T, N)) ∧ q.2.2.2 ≠ 12 ∧ Cond.selects (jm_y q.1).cls (jm_y q.1) (jm_y q.1) ∈ jm_ws)) := List.forall_mem_cons.mpr ⟨⟨by decide +kernel, Or.inr (Or.inr ⟨rfl, js_wm (i := 833) rfl rfl, by decide, ⟨TX11, 12, rfl⟩, by decide, js_wm (i := 834) rfl rfl⟩)⟩, List.forall_mem_cons.mpr ⟨⟨by decide +kernel, Or.inr (Or.inr ⟨rfl, js_wm (i := 837) rfl rfl, by decide, ⟨TX8, 7, rfl⟩, by decide, js_wm (i := 838) rfl rfl⟩)⟩, List.forall_mem_cons.mpr ⟨⟨by decide +kernel, Or.inr (Or.inr ⟨rfl, js_wm (i := 842) rfl rfl, by decide, ⟨TX8, 7, rfl⟩, by decide, js_wp (i := 34) rfl⟩)⟩, List.forall_mem_cons.mpr ⟨⟨by decide +kernel, Or.inr (Or.inr ⟨rfl, js_wm (i := 846) rfl rfl, by decide, ⟨TX8, 7, rfl⟩, by decide, js_wm (i := 847) rfl rfl⟩)⟩, List.forall_mem_cons.mpr ⟨⟨by decide +kernel, Or.inr (Or.inr ⟨rfl, js_wm (i := 851) rfl rfl, by decide, ⟨TX8, 7, rfl⟩, by decide, js_wp (i := 35) rfl⟩)⟩, List.forall_mem_cons.mpr ⟨⟨by decide +kernel, Or.inr (Or.inr ⟨rfl, js_wm (i := 856) rfl rfl, by decide, ⟨TX11, 12, rfl⟩, by decide, js_wm (i := 857) rfl rfl⟩)⟩, List.forall_mem_cons.mpr ⟨⟨by decide +kernel, Or.inr (Or.inr ⟨rfl, js_wm (i := 861) rfl rfl, by decide, ⟨TX11, 12, rfl⟩, by decide, js_wm (i := 862) rfl rfl⟩)⟩, List.forall_mem_cons.mpr ⟨⟨by decide +kernel, Or.inr (Or.inr ⟨rfl, js_wm (i := 865) rfl rfl, by decide, ⟨TX8, 7, rfl⟩, by decide, js_wm (i := 866) rfl rfl⟩)⟩, List.forall_mem_cons.mpr ⟨⟨by decide +kernel, Or.inr (Or.inr ⟨rfl, js_wm (i := 870) rfl rfl, by decide, ⟨TX8, 7, rfl⟩, by decide, js_wp (i := 36) rfl⟩)⟩, List.forall_mem_cons.mpr ⟨⟨by decide +kernel, Or.inr (Or.inr ⟨rfl, js_wm (i := 874) rfl rfl, by decide, ⟨TX8, 7, rfl⟩, by decide, js_wp (i := 37) rfl⟩)⟩, List.forall_mem_cons.mpr ⟨⟨by decide +kernel, Or.inl ⟨rfl, js_wm (i := 877) rfl rfl, rfl⟩⟩, List.forall_mem_cons.mpr ⟨⟨by decide +kernel, Or.inr (Or.inr ⟨rfl, js_wm (i := 880) rfl rfl, by decide, ⟨TX11, 12, rfl⟩, by decide, js_wm (i := 881) rfl rfl⟩)⟩, List.forall_mem_cons.mpr ⟨⟨by decide +kernel, Or.inr (Or.inr ⟨rfl, js_wm (i := 884) rfl rfl, by decide, ⟨TX2, 9, rfl⟩, by decide, js_wm (i := 885) rfl rfl⟩)⟩, List.forall_mem_cons.mpr ⟨⟨by decide +kernel, Or.inr (Or.inr ⟨rfl, js_wm (i := 889) rfl rfl, by decide, ⟨TX10, 6, rfl⟩, by decide, js_wm (i := 890) rfl rfl⟩)⟩, List.forall_mem_cons.mpr ⟨⟨by decide +kernel, Or.inr (Or.inr ⟨rfl, js_wm (i := 896) rfl rfl, by decide, ⟨TX2, 9, rfl⟩, by decide, js_wp (i := 38) rfl⟩)⟩, List.forall_mem_cons.mpr ⟨⟨by decide +kernel, Or.inr (Or.inr ⟨rfl, js_wm (i := 901) rfl rfl, by decide, ⟨TX2, 9, rfl⟩, by decide, js_wp (i := 39) rfl⟩)⟩, List.forall_mem_cons.mpr ⟨⟨by decide +kernel, Or.inr (Or.inr ⟨rfl, js_wm (i := 905) rfl rfl, by decide, ⟨TX2, 9, rfl⟩, by decide, js_wp (i := 40) rfl⟩)⟩, List.forall_mem_cons.mpr ⟨⟨by decide +kernel, Or.inr (Or.inr ⟨rfl, js_wm (i := 909) rfl rfl, by decide, ⟨TX9, 11, rfl⟩, by decide, js_wm (i := 910) rfl rfl⟩)⟩, List.forall_mem_cons.mpr ⟨⟨by decide +kernel, Or.inr (Or.inr ⟨rfl, js_wm (i := 913) rfl rfl, by decide, ⟨TX11, 12, rfl⟩, by decide, js_wm (i := 914) rfl rfl⟩)⟩, List.forall_mem_cons.mpr ⟨⟨by decide +kernel, Or.inr (Or.inr ⟨rfl, js_wm (i := 918) rfl rfl, by decide, ⟨TX0, 8, rfl⟩, by decide, js_wm (i := 919) rfl rfl⟩)⟩, List.forall_mem_cons.mpr ⟨⟨by decide +kernel, Or.inl ⟨rfl, js_wm (i := 922) rfl rfl, rfl⟩⟩, List.forall_mem_cons.mpr ⟨⟨by decide +kernel, Or.inr (Or.inr ⟨rfl, js_wm (i := 926) rfl rfl, by decide, ⟨TX0, 8, rfl⟩, by decide, js_wp (i := 41) rfl⟩)⟩, List.forall_mem_cons.mpr ⟨⟨by decide +kernel, Or.inr (Or.inr ⟨rfl, js_wm (i := 930) rfl rfl, by decide, ⟨TX0, 8, rfl⟩, by decide, js_wp (i := 42) rfl⟩)⟩, List.forall_mem_cons.mpr ⟨⟨by decide +kernel, Or.inl ⟨rfl, js_wm (i := 935) rfl rfl, rfl⟩⟩, List.forall_mem_cons.mpr ⟨⟨by decide +kernel, Or.inl ⟨rfl, js_wm (i := 938) rfl rfl, rfl⟩⟩, List.forall_mem_cons.mpr ⟨⟨by decide +kernel, Or.inr (Or.inr ⟨rfl, js_wm (i := 948) rfl rfl, by decide, ⟨TX0, 8, rfl⟩, by decide, js_wp (i := 43) rfl⟩)⟩, List.forall_mem_cons.mpr ⟨⟨by decide +kernel, Or.inr (Or.inr ⟨rfl, js_wm (i := 951) rfl rfl, by decide, ⟨TX11, 12, rfl⟩, by decide, js_wm (i := 952) rfl rfl⟩)⟩, List.forall_mem_cons.mpr ⟨⟨by decide +kernel, Or.inr (Or.inr ⟨rfl, js_wm (i := 955) rfl rfl, by decide, ⟨TX0, 8, rfl⟩, by decide, js_wm (i := 956) rfl rfl⟩)⟩, List.forall_mem_cons.mpr ⟨⟨by decide +kernel, Or.inr (Or.inr ⟨rfl, js_wm (i := 959) rfl rfl, by decide, ⟨TX11, 12, rfl⟩, by decide, js_wm (i := 960) rfl rfl⟩)⟩, List.forall_mem_cons.mpr ⟨⟨by decide +kernel, Or.inr (Or.inr ⟨rfl, js_wm (i := 963) rfl rfl, by decide, ⟨TX4, 3, rfl⟩, by decide, js_wm (i := 964) rfl rfl⟩)⟩, fun _ h => absurd h List.not_mem_nil⟩⟩⟩⟩⟩⟩⟩⟩⟩⟩⟩⟩⟩⟩⟩⟩⟩⟩⟩⟩⟩⟩⟩⟩⟩⟩⟩⟩⟩⟩
def js_MK_4 : List (Nat × Nat × Nat × Nat) := [(120, 0, 1, 22), (121, 0, 1, 15), (122, 0, 3, 22), (123, 0, 2, 15), (124, 0, 2, 15), (125, 0, 3, 22), (126, 0, 1, 22), (127, 0, 5, 22), (128, 0, 1, 22), (129, 0, 1, 22), (130, 0, 1, 22), (131, 0, 1, 22), (132, 0, 1, 22), (133, 0, 1, 22), (134, 0, 0, 22), (135, 0, 1, 22), (136, 0, 2, 22), (137, 0, 0, 22), (138, 0, 0, 22), (139, 0, 1, 22), (140, 0, 0, 19), (141, 0, 0, 21), (142, 1, 0, 23), (143, 0, 4, 23), (144, 2, 1, 0), (145, 2, 3, 0), (146, 2, 1, 0), (147, 0, 1, 23), (148, 0, 2, 23), (149, 0, 2, 23)]
set_option maxRecDepth 1000000 in
set_option maxHeartbeats 8000000 in
theorem js_MK_4_ok : ∀ q ∈ js_MK_4, (parseMethodDescriptor (jm_y q.1).desc).map (fun d => d.parameters.length) = some q.2.2.1 ∧ ((q.2.1 = 2 ∧ Cond.static (jm_y q.1) ∈ jm_ws ∧ q.2.2.2 = 0) ∨ (q.2.1 = 1 ∧ Cond.instanceMethod (jm_y q.1) ∈ jm_ws ∧ 10 < q.2.2.2 ∧ (∃ (T : u_T) (N : Nat), vwCl[q.2.2.2 - 11]? = some ((jm_y q.1).cls, T, N)) ∧ (jm_y q.1).name = "<init>" ∧ jm_ret q.1 = none) ∨ (q.2.1 = 0 ∧ Cond.instanceMethod (jm_y q.1) ∈ jm_ws ∧ 10 < q.2.2.2 ∧ (∃ (T : u_T) (N : Nat), vwCl[q.2.2.2 - 11]? = some ((jm_y q.1).cls, T, N)) ∧ q.2.2.2 ≠ 12 ∧ Cond.selects (jm_y q.1).cls (jm_y q.1) (jm_y q.1) ∈ jm_ws)) := List.forall_mem_cons.mpr ⟨⟨by decide +kernel, Or.inr (Or.inr ⟨rfl, js_wm (i := 968) rfl rfl, by decide, ⟨TX11, 12, rfl⟩, by decide, js_wm (i := 969) rfl rfl⟩)⟩, List.forall_mem_cons.mpr ⟨⟨by decide +kernel, Or.inr (Or.inr ⟨rfl, js_wm (i := 972) rfl rfl, by decide, ⟨TX4, 3, rfl⟩, by decide, js_wm (i := 973) rfl rfl⟩)⟩, List.forall_mem_cons.mpr ⟨⟨by decide +kernel, Or.inr (Or.inr ⟨rfl, js_wm (i := 976) rfl rfl, by decide, ⟨TX11, 12, rfl⟩, by decide, js_wm (i := 977) rfl rfl⟩)⟩, List.forall_mem_cons.mpr ⟨⟨by decide +kernel, Or.inr (Or.inr ⟨rfl, js_wm (i := 980) rfl rfl, by decide, ⟨TX4, 3, rfl⟩, by decide, js_wm (i := 981) rfl rfl⟩)⟩, List.forall_mem_cons.mpr ⟨⟨by decide +kernel, Or.inr (Or.inr ⟨rfl, js_wm (i := 984) rfl rfl, by decide, ⟨TX4, 3, rfl⟩, by decide, js_wm (i := 985) rfl rfl⟩)⟩, List.forall_mem_cons.mpr ⟨⟨by decide +kernel, Or.inr (Or.inr ⟨rfl, js_wm (i := 988) rfl rfl, by decide, ⟨TX11, 12, rfl⟩, by decide, js_wm (i := 989) rfl rfl⟩)⟩, List.forall_mem_cons.mpr ⟨⟨by decide +kernel, Or.inr (Or.inr ⟨rfl, js_wm (i := 993) rfl rfl, by decide, ⟨TX11, 12, rfl⟩, by decide, js_wp (i := 44) rfl⟩)⟩, List.forall_mem_cons.mpr ⟨⟨by decide +kernel, Or.inr (Or.inr ⟨rfl, js_wm (i := 996) rfl rfl, by decide, ⟨TX11, 12, rfl⟩, by decide, js_wm (i := 997) rfl rfl⟩)⟩, List.forall_mem_cons.mpr ⟨⟨by decide +kernel, Or.inr (Or.inr ⟨rfl, js_wm (i := 1001) rfl rfl, by decide, ⟨TX11, 12, rfl⟩, by decide, js_wm (i := 1002) rfl rfl⟩)⟩, List.forall_mem_cons.mpr ⟨⟨by decide +kernel, Or.inr (Or.inr ⟨rfl, js_wm (i := 1006) rfl rfl, by decide, ⟨TX11, 12, rfl⟩, by decide, js_wp (i := 45) rfl⟩)⟩, List.forall_mem_cons.mpr ⟨⟨by decide +kernel, Or.inr (Or.inr ⟨rfl, js_wm (i := 1010) rfl rfl, by decide, ⟨TX11, 12, rfl⟩, by decide, js_wp (i := 46) rfl⟩)⟩, List.forall_mem_cons.mpr ⟨⟨by decide +kernel, Or.inr (Or.inr ⟨rfl, js_wm (i := 1014) rfl rfl, by decide, ⟨TX11, 12, rfl⟩, by decide, js_wp (i := 47) rfl⟩)⟩, List.forall_mem_cons.mpr ⟨⟨by decide +kernel, Or.inr (Or.inr ⟨rfl, js_wm (i := 1018) rfl rfl, by decide, ⟨TX11, 12, rfl⟩, by decide, js_wp (i := 48) rfl⟩)⟩, List.forall_mem_cons.mpr ⟨⟨by decide +kernel, Or.inr (Or.inr ⟨rfl, js_wm (i := 1021) rfl rfl, by decide, ⟨TX11, 12, rfl⟩, by decide, js_wm (i := 1022) rfl rfl⟩)⟩, List.forall_mem_cons.mpr ⟨⟨by decide +kernel, Or.inr (Or.inr ⟨rfl, js_wm (i := 1026) rfl rfl, by decide, ⟨TX11, 12, rfl⟩, by decide, js_wp (i := 49) rfl⟩)⟩, List.forall_mem_cons.mpr ⟨⟨by decide +kernel, Or.inr (Or.inr ⟨rfl, js_wm (i := 1030) rfl rfl, by decide, ⟨TX11, 12, rfl⟩, by decide, js_wp (i := 50) rfl⟩)⟩, List.forall_mem_cons.mpr ⟨⟨by decide +kernel, Or.inr (Or.inr ⟨rfl, js_wm (i := 1033) rfl rfl, by decide, ⟨TX11, 12, rfl⟩, by decide, js_wm (i := 1034) rfl rfl⟩)⟩, List.forall_mem_cons.mpr ⟨⟨by decide +kernel, Or.inr (Or.inr ⟨rfl, js_wm (i := 1037) rfl rfl, by decide, ⟨TX11, 12, rfl⟩, by decide, js_wm (i := 1038) rfl rfl⟩)⟩, List.forall_mem_cons.mpr ⟨⟨by decide +kernel, Or.inr (Or.inr ⟨rfl, js_wm (i := 1041) rfl rfl, by decide, ⟨TX11, 12, rfl⟩, by decide, js_wm (i := 1042) rfl rfl⟩)⟩, List.forall_mem_cons.mpr ⟨⟨by decide +kernel, Or.inr (Or.inr ⟨rfl, js_wm (i := 1045) rfl rfl, by decide, ⟨TX11, 12, rfl⟩, by decide, js_wm (i := 1046) rfl rfl⟩)⟩, List.forall_mem_cons.mpr ⟨⟨by decide +kernel, Or.inr (Or.inr ⟨rfl, js_wm (i := 1049) rfl rfl, by decide, ⟨TX8, 7, rfl⟩, by decide, js_wm (i := 1050) rfl rfl⟩)⟩, List.forall_mem_cons.mpr ⟨⟨by decide +kernel, Or.inr (Or.inr ⟨rfl, js_wm (i := 1053) rfl rfl, by decide, ⟨TX10, 6, rfl⟩, by decide, js_wm (i := 1054) rfl rfl⟩)⟩, List.forall_mem_cons.mpr ⟨⟨by decide +kernel, Or.inr (Or.inl ⟨rfl, js_wm (i := 1060) rfl rfl, by decide, ⟨TX12, 50, rfl⟩, rfl, rfl⟩)⟩, List.forall_mem_cons.mpr ⟨⟨by decide +kernel, Or.inr (Or.inr ⟨rfl, js_wm (i := 1215) rfl rfl, by decide, ⟨TX12, 50, rfl⟩, by decide, js_wm (i := 1216) rfl rfl⟩)⟩, List.forall_mem_cons.mpr ⟨⟨by decide +kernel, Or.inl ⟨rfl, js_wm (i := 1219) rfl rfl, rfl⟩⟩, List.forall_mem_cons.mpr ⟨⟨by decide +kernel, Or.inl ⟨rfl, js_wm (i := 1222) rfl rfl, rfl⟩⟩, List.forall_mem_cons.mpr ⟨⟨by decide +kernel, Or.inl ⟨rfl, js_wm (i := 1225) rfl rfl, rfl⟩⟩, List.forall_mem_cons.mpr ⟨⟨by decide +kernel, Or.inr (Or.inr ⟨rfl, js_wm (i := 1229) rfl rfl, by decide, ⟨TX12, 50, rfl⟩, by decide, js_wp (i := 51) rfl⟩)⟩, List.forall_mem_cons.mpr ⟨⟨by decide +kernel, Or.inr (Or.inr ⟨rfl, js_wm (i := 1233) rfl rfl, by decide, ⟨TX12, 50, rfl⟩, by decide, js_wp (i := 52) rfl⟩)⟩, List.forall_mem_cons.mpr ⟨⟨by decide +kernel, Or.inr (Or.inr ⟨rfl, js_wm (i := 1237) rfl rfl, by decide, ⟨TX12, 50, rfl⟩, by decide, js_wp (i := 53) rfl⟩)⟩, fun _ h => absurd h List.not_mem_nil⟩⟩⟩⟩⟩⟩⟩⟩⟩⟩⟩⟩⟩⟩⟩⟩⟩⟩⟩⟩⟩⟩⟩⟩⟩⟩⟩⟩⟩⟩
def js_MK_5 : List (Nat × Nat × Nat × Nat) := [(150, 0, 0, 23), (151, 0, 2, 23), (152, 0, 1, 23), (153, 0, 2, 23), (154, 0, 1, 23), (155, 0, 1, 23), (156, 0, 3, 23), (157, 0, 2, 23), (158, 0, 2, 23), (159, 2, 2, 0), (160, 0, 2, 23), (161, 0, 2, 23), (162, 0, 2, 23), (163, 0, 2, 23), (164, 0, 2, 23), (165, 0, 1, 23), (166, 0, 0, 23), (167, 0, 1, 23), (168, 0, 0, 23), (169, 0, 1, 23), (170, 0, 0, 23), (171, 0, 1, 23), (172, 0, 2, 23), (173, 0, 1, 23), (174, 0, 1, 23), (175, 0, 0, 23), (176, 0, 2, 23), (177, 2, 1, 0), (178, 0, 1, 23), (179, 0, 1, 23)]
set_option maxRecDepth 1000000 in
set_option maxHeartbeats 8000000 in
theorem js_MK_5_ok : ∀ q ∈ js_MK_5, (parseMethodDescriptor (jm_y q.1).desc).map (fun d => d.parameters.length) = some q.2.2.1 ∧ ((q.2.1 = 2 ∧ Cond.static (jm_y q.1) ∈ jm_ws ∧ q.2.2.2 = 0) ∨ (q.2.1 = 1 ∧ Cond.instanceMethod (jm_y q.1) ∈ jm_ws ∧ 10 < q.2.2.2 ∧ (∃ (T : u_T) (N : Nat), vwCl[q.2.2.2 - 11]? = some ((jm_y q.1).cls, T, N)) ∧ (jm_y q.1).name = "<init>" ∧ jm_ret q.1 = none) ∨ (q.2.1 = 0 ∧ Cond.instanceMethod (jm_y q.1) ∈ jm_ws ∧ 10 < q.2.2.2 ∧ (∃ (T : u_T) (N : Nat), vwCl[q.2.2.2 - 11]? = some ((jm_y q.1).cls, T, N)) ∧ q.2.2.2 ≠ 12 ∧ Cond.selects (jm_y q.1).cls (jm_y q.1) (jm_y q.1) ∈ jm_ws)) := List.forall_mem_cons.mpr ⟨⟨by decide +kernel, Or.inr (Or.inr ⟨rfl, js_wm (i := 1241) rfl rfl, by decide, ⟨TX12, 50, rfl⟩, by decide, js_wp (i := 54) rfl⟩)⟩, List.forall_mem_cons.mpr ⟨⟨by decide +kernel, Or.inr (Or.inr ⟨rfl, js_wm (i := 1244) rfl rfl, by decide, ⟨TX12, 50, rfl⟩, by decide, js_wm (i := 1245) rfl rfl⟩)⟩, List.forall_mem_cons.mpr ⟨⟨by decide +kernel, Or.inr (Or.inr ⟨rfl, js_wm (i := 1249) rfl rfl, by decide, ⟨TX12, 50, rfl⟩, by decide, js_wp (i := 55) rfl⟩)⟩, List.forall_mem_cons.mpr ⟨⟨by decide +kernel, Or.inr (Or.inr ⟨rfl, js_wm (i := 1252) rfl rfl, by decide, ⟨TX12, 50, rfl⟩, by decide, js_wm (i := 1253) rfl rfl⟩)⟩, List.forall_mem_cons.mpr ⟨⟨by decide +kernel, Or.inr (Or.inr ⟨rfl, js_wm (i := 1257) rfl rfl, by decide, ⟨TX12, 50, rfl⟩, by decide, js_wp (i := 56) rfl⟩)⟩, List.forall_mem_cons.mpr ⟨⟨by decide +kernel, Or.inr (Or.inr ⟨rfl, js_wm (i := 1260) rfl rfl, by decide, ⟨TX12, 50, rfl⟩, by decide, js_wm (i := 1261) rfl rfl⟩)⟩, List.forall_mem_cons.mpr ⟨⟨by decide +kernel, Or.inr (Or.inr ⟨rfl, js_wm (i := 1264) rfl rfl, by decide, ⟨TX12, 50, rfl⟩, by decide, js_wm (i := 1265) rfl rfl⟩)⟩, List.forall_mem_cons.mpr ⟨⟨by decide +kernel, Or.inr (Or.inr ⟨rfl, js_wm (i := 1268) rfl rfl, by decide, ⟨TX12, 50, rfl⟩, by decide, js_wm (i := 1269) rfl rfl⟩)⟩, List.forall_mem_cons.mpr ⟨⟨by decide +kernel, Or.inr (Or.inr ⟨rfl, js_wm (i := 1273) rfl rfl, by decide, ⟨TX12, 50, rfl⟩, by decide, js_wp (i := 57) rfl⟩)⟩, List.forall_mem_cons.mpr ⟨⟨by decide +kernel, Or.inl ⟨rfl, js_wm (i := 1276) rfl rfl, rfl⟩⟩, List.forall_mem_cons.mpr ⟨⟨by decide +kernel, Or.inr (Or.inr ⟨rfl, js_wm (i := 1279) rfl rfl, by decide, ⟨TX12, 50, rfl⟩, by decide, js_wm (i := 1280) rfl rfl⟩)⟩, List.forall_mem_cons.mpr ⟨⟨by decide +kernel, Or.inr (Or.inr ⟨rfl, js_wm (i := 1283) rfl rfl, by decide, ⟨TX12, 50, rfl⟩, by decide, js_wm (i := 1284) rfl rfl⟩)⟩, List.forall_mem_cons.mpr ⟨⟨by decide +kernel, Or.inr (Or.inr ⟨rfl, js_wm (i := 1288) rfl rfl, by decide, ⟨TX12, 50, rfl⟩, by decide, js_wp (i := 58) rfl⟩)⟩, List.forall_mem_cons.mpr ⟨⟨by decide +kernel, Or.inr (Or.inr ⟨rfl, js_wm (i := 1292) rfl rfl, by decide, ⟨TX12, 50, rfl⟩, by decide, js_wp (i := 59) rfl⟩)⟩, List.forall_mem_cons.mpr ⟨⟨by decide +kernel, Or.inr (Or.inr ⟨rfl, js_wm (i := 1296) rfl rfl, by decide, ⟨TX12, 50, rfl⟩, by decide, js_wp (i := 60) rfl⟩)⟩, List.forall_mem_cons.mpr ⟨⟨by decide +kernel, Or.inr (Or.inr ⟨rfl, js_wm (i := 1299) rfl rfl, by decide, ⟨TX12, 50, rfl⟩, by decide, js_wm (i := 1300) rfl rfl⟩)⟩, List.forall_mem_cons.mpr ⟨⟨by decide +kernel, Or.inr (Or.inr ⟨rfl, js_wm (i := 1304) rfl rfl, by decide, ⟨TX12, 50, rfl⟩, by decide, js_wp (i := 61) rfl⟩)⟩, List.forall_mem_cons.mpr ⟨⟨by decide +kernel, Or.inr (Or.inr ⟨rfl, js_wm (i := 1307) rfl rfl, by decide, ⟨TX12, 50, rfl⟩, by decide, js_wm (i := 1308) rfl rfl⟩)⟩, List.forall_mem_cons.mpr ⟨⟨by decide +kernel, Or.inr (Or.inr ⟨rfl, js_wm (i := 1312) rfl rfl, by decide, ⟨TX12, 50, rfl⟩, by decide, js_wp (i := 62) rfl⟩)⟩, List.forall_mem_cons.mpr ⟨⟨by decide +kernel, Or.inr (Or.inr ⟨rfl, js_wm (i := 1315) rfl rfl, by decide, ⟨TX12, 50, rfl⟩, by decide, js_wm (i := 1316) rfl rfl⟩)⟩, List.forall_mem_cons.mpr ⟨⟨by decide +kernel, Or.inr (Or.inr ⟨rfl, js_wm (i := 1320) rfl rfl, by decide, ⟨TX12, 50, rfl⟩, by decide, js_wp (i := 63) rfl⟩)⟩, List.forall_mem_cons.mpr ⟨⟨by decide +kernel, Or.inr (Or.inr ⟨rfl, js_wm (i := 1324) rfl rfl, by decide, ⟨TX12, 50, rfl⟩, by decide, js_wp (i := 64) rfl⟩)⟩, List.forall_mem_cons.mpr ⟨⟨by decide +kernel, Or.inr (Or.inr ⟨rfl, js_wm (i := 1328) rfl rfl, by decide, ⟨TX12, 50, rfl⟩, by decide, js_wp (i := 65) rfl⟩)⟩, List.forall_mem_cons.mpr ⟨⟨by decide +kernel, Or.inr (Or.inr ⟨rfl, js_wm (i := 1331) rfl rfl, by decide, ⟨TX12, 50, rfl⟩, by decide, js_wm (i := 1332) rfl rfl⟩)⟩, List.forall_mem_cons.mpr ⟨⟨by decide +kernel, Or.inr (Or.inr ⟨rfl, js_wm (i := 1335) rfl rfl, by decide, ⟨TX12, 50, rfl⟩, by decide, js_wm (i := 1336) rfl rfl⟩)⟩, List.forall_mem_cons.mpr ⟨⟨by decide +kernel, Or.inr (Or.inr ⟨rfl, js_wm (i := 1340) rfl rfl, by decide, ⟨TX12, 50, rfl⟩, by decide, js_wp (i := 66) rfl⟩)⟩, List.forall_mem_cons.mpr ⟨⟨by decide +kernel, Or.inr (Or.inr ⟨rfl, js_wm (i := 1344) rfl rfl, by decide, ⟨TX12, 50, rfl⟩, by decide, js_wp (i := 67) rfl⟩)⟩, List.forall_mem_cons.mpr ⟨⟨by decide +kernel, Or.inl ⟨rfl, js_wm (i := 1347) rfl rfl, rfl⟩⟩, List.forall_mem_cons.mpr ⟨⟨by decide +kernel, Or.inr (Or.inr ⟨rfl, js_wm (i := 1351) rfl rfl, by decide, ⟨TX12, 50, rfl⟩, by decide, js_wp (i := 68) rfl⟩)⟩, List.forall_mem_cons.mpr ⟨⟨by decide +kernel, Or.inr (Or.inr ⟨rfl, js_wm (i := 1354) rfl rfl, by decide, ⟨TX12, 50, rfl⟩, by decide, js_wm (i := 1355) rfl rfl⟩)⟩, fun _ h => absurd h List.not_mem_nil⟩⟩⟩⟩⟩⟩⟩⟩⟩⟩⟩⟩⟩⟩⟩⟩⟩⟩⟩⟩⟩⟩⟩⟩⟩⟩⟩⟩⟩⟩
def js_MK_6 : List (Nat × Nat × Nat × Nat) := [(180, 0, 0, 23), (181, 0, 2, 23), (182, 0, 1, 23), (183, 0, 1, 23), (184, 0, 4, 23), (185, 2, 1, 0), (186, 0, 1, 23), (187, 0, 3, 23), (188, 0, 2, 23), (189, 0, 2, 23), (190, 0, 1, 23), (191, 0, 1, 23), (192, 0, 1, 23), (193, 0, 1, 23), (194, 0, 2, 23), (195, 0, 1, 23), (196, 0, 0, 23), (197, 0, 2, 23), (198, 0, 1, 23), (199, 0, 0, 23), (200, 0, 0, 23), (201, 0, 0, 23), (202, 0, 0, 23), (203, 0, 1, 23), (204, 0, 2, 23), (205, 0, 0, 23), (206, 0, 2, 23), (207, 0, 3, 23), (208, 2, 5, 0), (209, 2, 2, 0)]
set_option maxRecDepth 1000000 in
set_option maxHeartbeats 8000000 in
theorem js_MK_6_ok : ∀ q ∈ js_MK_6, (parseMethodDescriptor (jm_y q.1).desc).map (fun d => d.parameters.length) = some q.2.2.1 ∧ ((q.2.1 = 2 ∧ Cond.static (jm_y q.1) ∈ jm_ws ∧ q.2.2.2 = 0) ∨ (q.2.1 = 1 ∧ Cond.instanceMethod (jm_y q.1) ∈ jm_ws ∧ 10 < q.2.2.2 ∧ (∃ (T : u_T) (N : Nat), vwCl[q.2.2.2 - 11]? = some ((jm_y q.1).cls, T, N)) ∧ (jm_y q.1).name = "<init>" ∧ jm_ret q.1 = none) ∨ (q.2.1 = 0 ∧ Cond.instanceMethod (jm_y q.1) ∈ jm_ws ∧ 10 < q.2.2.2 ∧ (∃ (T : u_T) (N : Nat), vwCl[q.2.2.2 - 11]? = some ((jm_y q.1).cls, T, N)) ∧ q.2.2.2 ≠ 12 ∧ Cond.selects (jm_y q.1).cls (jm_y q.1) (jm_y q.1) ∈ jm_ws)) := List.forall_mem_cons.mpr ⟨⟨by decide +kernel, Or.inr (Or.inr ⟨rfl, js_wm (i := 1359) rfl rfl, by decide, ⟨TX12, 50, rfl⟩, by decide, js_wp (i := 69) rfl⟩)⟩, List.forall_mem_cons.mpr ⟨⟨by decide +kernel, Or.inr (Or.inr ⟨rfl, js_wm (i := 1363) rfl rfl, by decide, ⟨TX12, 50, rfl⟩, by decide, js_wp (i := 70) rfl⟩)⟩, List.forall_mem_cons.mpr ⟨⟨by decide +kernel, Or.inr (Or.inr ⟨rfl, js_wm (i := 1367) rfl rfl, by decide, ⟨TX12, 50, rfl⟩, by decide, js_wp (i := 71) rfl⟩)⟩, List.forall_mem_cons.mpr ⟨⟨by decide +kernel, Or.inr (Or.inr ⟨rfl, js_wm (i := 1371) rfl rfl, by decide, ⟨TX12, 50, rfl⟩, by decide, js_wp (i := 72) rfl⟩)⟩, List.forall_mem_cons.mpr ⟨⟨by decide +kernel, Or.inr (Or.inr ⟨rfl, js_wm (i := 1375) rfl rfl, by decide, ⟨TX12, 50, rfl⟩, by decide, js_wp (i := 73) rfl⟩)⟩, List.forall_mem_cons.mpr ⟨⟨by decide +kernel, Or.inl ⟨rfl, js_wm (i := 1378) rfl rfl, rfl⟩⟩, List.forall_mem_cons.mpr ⟨⟨by decide +kernel, Or.inr (Or.inr ⟨rfl, js_wm (i := 1382) rfl rfl, by decide, ⟨TX12, 50, rfl⟩, by decide, js_wp (i := 74) rfl⟩)⟩, List.forall_mem_cons.mpr ⟨⟨by decide +kernel, Or.inr (Or.inr ⟨rfl, js_wm (i := 1385) rfl rfl, by decide, ⟨TX12, 50, rfl⟩, by decide, js_wm (i := 1386) rfl rfl⟩)⟩, List.forall_mem_cons.mpr ⟨⟨by decide +kernel, Or.inr (Or.inr ⟨rfl, js_wm (i := 1390) rfl rfl, by decide, ⟨TX12, 50, rfl⟩, by decide, js_wp (i := 75) rfl⟩)⟩, List.forall_mem_cons.mpr ⟨⟨by decide +kernel, Or.inr (Or.inr ⟨rfl, js_wm (i := 1394) rfl rfl, by decide, ⟨TX12, 50, rfl⟩, by decide, js_wp (i := 76) rfl⟩)⟩, List.forall_mem_cons.mpr ⟨⟨by decide +kernel, Or.inr (Or.inr ⟨rfl, js_wm (i := 1397) rfl rfl, by decide, ⟨TX12, 50, rfl⟩, by decide, js_wm (i := 1398) rfl rfl⟩)⟩, List.forall_mem_cons.mpr ⟨⟨by decide +kernel, Or.inr (Or.inr ⟨rfl, js_wm (i := 1402) rfl rfl, by decide, ⟨TX12, 50, rfl⟩, by decide, js_wp (i := 77) rfl⟩)⟩, List.forall_mem_cons.mpr ⟨⟨by decide +kernel, Or.inr (Or.inr ⟨rfl, js_wm (i := 1406) rfl rfl, by decide, ⟨TX12, 50, rfl⟩, by decide, js_wp (i := 78) rfl⟩)⟩, List.forall_mem_cons.mpr ⟨⟨by decide +kernel, Or.inr (Or.inr ⟨rfl, js_wm (i := 1410) rfl rfl, by decide, ⟨TX12, 50, rfl⟩, by decide, js_wp (i := 79) rfl⟩)⟩, List.forall_mem_cons.mpr ⟨⟨by decide +kernel, Or.inr (Or.inr ⟨rfl, js_wm (i := 1413) rfl rfl, by decide, ⟨TX12, 50, rfl⟩, by decide, js_wm (i := 1414) rfl rfl⟩)⟩, List.forall_mem_cons.mpr ⟨⟨by decide +kernel, Or.inr (Or.inr ⟨rfl, js_wm (i := 1418) rfl rfl, by decide, ⟨TX12, 50, rfl⟩, by decide, js_wp (i := 80) rfl⟩)⟩, List.forall_mem_cons.mpr ⟨⟨by decide +kernel, Or.inr (Or.inr ⟨rfl, js_wm (i := 1421) rfl rfl, by decide, ⟨TX12, 50, rfl⟩, by decide, js_wm (i := 1422) rfl rfl⟩)⟩, List.forall_mem_cons.mpr ⟨⟨by decide +kernel, Or.inr (Or.inr ⟨rfl, js_wm (i := 1426) rfl rfl, by decide, ⟨TX12, 50, rfl⟩, by decide, js_wp (i := 81) rfl⟩)⟩, List.forall_mem_cons.mpr ⟨⟨by decide +kernel, Or.inr (Or.inr ⟨rfl, js_wm (i := 1429) rfl rfl, by decide, ⟨TX12, 50, rfl⟩, by decide, js_wm (i := 1430) rfl rfl⟩)⟩, List.forall_mem_cons.mpr ⟨⟨by decide +kernel, Or.inr (Or.inr ⟨rfl, js_wm (i := 1434) rfl rfl, by decide, ⟨TX12, 50, rfl⟩, by decide, js_wp (i := 82) rfl⟩)⟩, List.forall_mem_cons.mpr ⟨⟨by decide +kernel, Or.inr (Or.inr ⟨rfl, js_wm (i := 1438) rfl rfl, by decide, ⟨TX12, 50, rfl⟩, by decide, js_wp (i := 83) rfl⟩)⟩, List.forall_mem_cons.mpr ⟨⟨by decide +kernel, Or.inr (Or.inr ⟨rfl, js_wm (i := 1442) rfl rfl, by decide, ⟨TX12, 50, rfl⟩, by decide, js_wp (i := 84) rfl⟩)⟩, List.forall_mem_cons.mpr ⟨⟨by decide +kernel, Or.inr (Or.inr ⟨rfl, js_wm (i := 1446) rfl rfl, by decide, ⟨TX12, 50, rfl⟩, by decide, js_wp (i := 85) rfl⟩)⟩, List.forall_mem_cons.mpr ⟨⟨by decide +kernel, Or.inr (Or.inr ⟨rfl, js_wm (i := 1450) rfl rfl, by decide, ⟨TX12, 50, rfl⟩, by decide, js_wp (i := 86) rfl⟩)⟩, List.forall_mem_cons.mpr ⟨⟨by decide +kernel, Or.inr (Or.inr ⟨rfl, js_wm (i := 1453) rfl rfl, by decide, ⟨TX12, 50, rfl⟩, by decide, js_wm (i := 1454) rfl rfl⟩)⟩, List.forall_mem_cons.mpr ⟨⟨by decide +kernel, Or.inr (Or.inr ⟨rfl, js_wm (i := 1459) rfl rfl, by decide, ⟨TX12, 50, rfl⟩, by decide, js_wp (i := 87) rfl⟩)⟩, List.forall_mem_cons.mpr ⟨⟨by decide +kernel, Or.inr (Or.inr ⟨rfl, js_wm (i := 1463) rfl rfl, by decide, ⟨TX12, 50, rfl⟩, by decide, js_wp (i := 88) rfl⟩)⟩, List.forall_mem_cons.mpr ⟨⟨by decide +kernel, Or.inr (Or.inr ⟨rfl, js_wm (i := 1467) rfl rfl, by decide, ⟨TX12, 50, rfl⟩, by decide, js_wp (i := 89) rfl⟩)⟩, List.forall_mem_cons.mpr ⟨⟨by decide +kernel, Or.inl ⟨rfl, js_wm (i := 1470) rfl rfl, rfl⟩⟩, List.forall_mem_cons.mpr ⟨⟨by decide +kernel, Or.inl ⟨rfl, js_wm (i := 1473) rfl rfl, rfl⟩⟩, fun _ h => absurd h List.not_mem_nil⟩⟩⟩⟩⟩⟩⟩⟩⟩⟩⟩⟩⟩⟩⟩⟩⟩⟩⟩⟩⟩⟩⟩⟩⟩⟩⟩⟩⟩⟩
def js_MK_7 : List (Nat × Nat × Nat × Nat) := [(210, 0, 0, 23), (211, 0, 0, 23), (212, 0, 3, 23), (213, 0, 1, 23), (214, 0, 3, 23), (215, 0, 3, 23), (216, 0, 1, 23), (217, 0, 5, 23), (218, 0, 1, 23), (219, 0, 1, 23), (220, 0, 1, 23), (221, 0, 2, 23), (222, 0, 0, 23), (223, 0, 0, 23), (224, 0, 1, 23)]
set_option maxRecDepth 1000000 in
set_option maxHeartbeats 8000000 in
theorem js_MK_7_ok : ∀ q ∈ js_MK_7, (parseMethodDescriptor (jm_y q.1).desc).map (fun d => d.parameters.length) = some q.2.2.1 ∧ ((q.2.1 = 2 ∧ Cond.static (jm_y q.1) ∈ jm_ws ∧ q.2.2.2 = 0) ∨ (q.2.1 = 1 ∧ Cond.instanceMethod (jm_y q.1) ∈ jm_ws ∧ 10 < q.2.2.2 ∧ (∃ (T : u_T) (N : Nat), vwCl[q.2.2.2 - 11]? = some ((jm_y q.1).cls, T, N)) ∧ (jm_y q.1).name = "<init>" ∧ jm_ret q.1 = none) ∨ (q.2.1 = 0 ∧ Cond.instanceMethod (jm_y q.1) ∈ jm_ws ∧ 10 < q.2.2.2 ∧ (∃ (T : u_T) (N : Nat), vwCl[q.2.2.2 - 11]? = some ((jm_y q.1).cls, T, N)) ∧ q.2.2.2 ≠ 12 ∧ Cond.selects (jm_y q.1).cls (jm_y q.1) (jm_y q.1) ∈ jm_ws)) := List.forall_mem_cons.mpr ⟨⟨by decide +kernel, Or.inr (Or.inr ⟨rfl, js_wm (i := 1477) rfl rfl, by decide, ⟨TX12, 50, rfl⟩, by decide, js_wp (i := 90) rfl⟩)⟩, List.forall_mem_cons.mpr ⟨⟨by decide +kernel, Or.inr (Or.inr ⟨rfl, js_wm (i := 1480) rfl rfl, by decide, ⟨TX12, 50, rfl⟩, by decide, js_wm (i := 1481) rfl rfl⟩)⟩, List.forall_mem_cons.mpr ⟨⟨by decide +kernel, Or.inr (Or.inr ⟨rfl, js_wm (i := 1484) rfl rfl, by decide, ⟨TX12, 50, rfl⟩, by decide, js_wm (i := 1485) rfl rfl⟩)⟩, List.forall_mem_cons.mpr ⟨⟨by decide +kernel, Or.inr (Or.inr ⟨rfl, js_wm (i := 1488) rfl rfl, by decide, ⟨TX12, 50, rfl⟩, by decide, js_wm (i := 1489) rfl rfl⟩)⟩, List.forall_mem_cons.mpr ⟨⟨by decide +kernel, Or.inr (Or.inr ⟨rfl, js_wm (i := 1492) rfl rfl, by decide, ⟨TX12, 50, rfl⟩, by decide, js_wm (i := 1493) rfl rfl⟩)⟩, List.forall_mem_cons.mpr ⟨⟨by decide +kernel, Or.inr (Or.inr ⟨rfl, js_wm (i := 1496) rfl rfl, by decide, ⟨TX12, 50, rfl⟩, by decide, js_wm (i := 1497) rfl rfl⟩)⟩, List.forall_mem_cons.mpr ⟨⟨by decide +kernel, Or.inr (Or.inr ⟨rfl, js_wm (i := 1501) rfl rfl, by decide, ⟨TX12, 50, rfl⟩, by decide, js_wp (i := 91) rfl⟩)⟩, List.forall_mem_cons.mpr ⟨⟨by decide +kernel, Or.inr (Or.inr ⟨rfl, js_wm (i := 1504) rfl rfl, by decide, ⟨TX12, 50, rfl⟩, by decide, js_wm (i := 1505) rfl rfl⟩)⟩, List.forall_mem_cons.mpr ⟨⟨by decide +kernel, Or.inr (Or.inr ⟨rfl, js_wm (i := 1508) rfl rfl, by decide, ⟨TX12, 50, rfl⟩, by decide, js_wm (i := 1509) rfl rfl⟩)⟩, List.forall_mem_cons.mpr ⟨⟨by decide +kernel, Or.inr (Or.inr ⟨rfl, js_wm (i := 1513) rfl rfl, by decide, ⟨TX12, 50, rfl⟩, by decide, js_wp (i := 92) rfl⟩)⟩, List.forall_mem_cons.mpr ⟨⟨by decide +kernel, Or.inr (Or.inr ⟨rfl, js_wm (i := 1516) rfl rfl, by decide, ⟨TX12, 50, rfl⟩, by decide, js_wm (i := 1517) rfl rfl⟩)⟩, List.forall_mem_cons.mpr ⟨⟨by decide +kernel, Or.inr (Or.inr ⟨rfl, js_wm (i := 1520) rfl rfl, by decide, ⟨TX12, 50, rfl⟩, by decide, js_wm (i := 1521) rfl rfl⟩)⟩, List.forall_mem_cons.mpr ⟨⟨by decide +kernel, Or.inr (Or.inr ⟨rfl, js_wm (i := 1524) rfl rfl, by decide, ⟨TX12, 50, rfl⟩, by decide, js_wm (i := 1525) rfl rfl⟩)⟩, List.forall_mem_cons.mpr ⟨⟨by decide +kernel, Or.inr (Or.inr ⟨rfl, js_wm (i := 1528) rfl rfl, by decide, ⟨TX12, 50, rfl⟩, by decide, js_wm (i := 1529) rfl rfl⟩)⟩, List.forall_mem_cons.mpr ⟨⟨by decide +kernel, Or.inr (Or.inr ⟨rfl, js_wm (i := 1532) rfl rfl, by decide, ⟨TX12, 50, rfl⟩, by decide, js_wm (i := 1533) rfl rfl⟩)⟩, fun _ h => absurd h List.not_mem_nil⟩⟩⟩⟩⟩⟩⟩⟩⟩⟩⟩⟩⟩⟩⟩
def js_MK : List (Nat × Nat × Nat × Nat) := js_MK_0 ++ js_MK_1 ++ js_MK_2 ++ js_MK_3 ++ js_MK_4 ++ js_MK_5 ++ js_MK_6 ++ js_MK_7
theorem js_MK_ok : ∀ q ∈ js_MK, (parseMethodDescriptor (jm_y q.1).desc).map (fun d => d.parameters.length) = some q.2.2.1 ∧ ((q.2.1 = 2 ∧ Cond.static (jm_y q.1) ∈ jm_ws ∧ q.2.2.2 = 0) ∨ (q.2.1 = 1 ∧ Cond.instanceMethod (jm_y q.1) ∈ jm_ws ∧ 10 < q.2.2.2 ∧ (∃ (T : u_T) (N : Nat), vwCl[q.2.2.2 - 11]? = some ((jm_y q.1).cls, T, N)) ∧ (jm_y q.1).name = "<init>" ∧ jm_ret q.1 = none) ∨ (q.2.1 = 0 ∧ Cond.instanceMethod (jm_y q.1) ∈ jm_ws ∧ 10 < q.2.2.2 ∧ (∃ (T : u_T) (N : Nat), vwCl[q.2.2.2 - 11]? = some ((jm_y q.1).cls, T, N)) ∧ q.2.2.2 ≠ 12 ∧ Cond.selects (jm_y q.1).cls (jm_y q.1) (jm_y q.1) ∈ jm_ws)) := fun q h => by
  unfold js_MK at h
  simp only [List.mem_append] at h
  rcases h with ((((((h | h) | h) | h) | h) | h) | h) | h
  · exact js_MK_0_ok q h
  · exact js_MK_1_ok q h
  · exact js_MK_2_ok q h
  · exact js_MK_3_ok q h
  · exact js_MK_4_ok q h
  · exact js_MK_5_ok q h
  · exact js_MK_6_ok q h
  · exact js_MK_7_ok q h
def js_MC_0 : List (Nat) := [0, 1, 2, 3, 4, 5, 6, 7, 8, 9, 10, 11, 12, 13, 14, 15, 16, 17, 18, 19, 20, 21, 22, 23, 24, 25, 26, 27, 28, 29]
set_option maxRecDepth 1000000 in
set_option maxHeartbeats 8000000 in
theorem js_MC_0_ok : ∀ q ∈ js_MC_0, Cond.code (jm_y q) (jm_c q) (jv_ml q) (jm_ret q) ∈ jm_ws ∧ Cond.initialized (jm_y q).cls ∈ jm_ws ∧ ((jm_y q).cls ≠ "java/lang/invoke/MethodHandle" ∧ (jm_y q).cls ≠ "java/lang/invoke/VarHandle") ∧ plainName (jm_y q).cls = true ∧ jm_own q = (jm_y q).cls := List.forall_mem_cons.mpr ⟨⟨js_wm (i := 22) rfl rfl, js_wm (i := 1) rfl rfl, by decide +kernel, by decide +kernel, rfl⟩, List.forall_mem_cons.mpr ⟨⟨js_wm (i := 30) rfl rfl, js_wm (i := 2) rfl rfl, by decide +kernel, by decide +kernel, rfl⟩, List.forall_mem_cons.mpr ⟨⟨js_wm (i := 51) rfl rfl, js_wm (i := 3) rfl rfl, by decide +kernel, by decide +kernel, rfl⟩, List.forall_mem_cons.mpr ⟨⟨js_wm (i := 81) rfl rfl, js_wm (i := 4) rfl rfl, by decide +kernel, by decide +kernel, rfl⟩, List.forall_mem_cons.mpr ⟨⟨js_wm (i := 144) rfl rfl, js_wm (i := 5) rfl rfl, by decide +kernel, by decide +kernel, rfl⟩, List.forall_mem_cons.mpr ⟨⟨js_wm (i := 186) rfl rfl, js_wm (i := 6) rfl rfl, by decide +kernel, by decide +kernel, rfl⟩, List.forall_mem_cons.mpr ⟨⟨js_wm (i := 237) rfl rfl, js_wm (i := 7) rfl rfl, by decide +kernel, by decide +kernel, rfl⟩, List.forall_mem_cons.mpr ⟨⟨js_wm (i := 271) rfl rfl, js_wm (i := 8) rfl rfl, by decide +kernel, by decide +kernel, rfl⟩, List.forall_mem_cons.mpr ⟨⟨js_wm (i := 320) rfl rfl, js_wm (i := 9) rfl rfl, by decide +kernel, by decide +kernel, rfl⟩, List.forall_mem_cons.mpr ⟨⟨js_wm (i := 354) rfl rfl, js_wm (i := 10) rfl rfl, by decide +kernel, by decide +kernel, rfl⟩, List.forall_mem_cons.mpr ⟨⟨js_wm (i := 394) rfl rfl, js_wm (i := 11) rfl rfl, by decide +kernel, by decide +kernel, rfl⟩, List.forall_mem_cons.mpr ⟨⟨js_wm (i := 464) rfl rfl, js_wm (i := 1) rfl rfl, by decide +kernel, by decide +kernel, rfl⟩, List.forall_mem_cons.mpr ⟨⟨js_wm (i := 468) rfl rfl, js_wm (i := 2) rfl rfl, by decide +kernel, by decide +kernel, rfl⟩, List.forall_mem_cons.mpr ⟨⟨js_wm (i := 472) rfl rfl, js_wm (i := 2) rfl rfl, by decide +kernel, by decide +kernel, rfl⟩, List.forall_mem_cons.mpr ⟨⟨js_wm (i := 476) rfl rfl, js_wm (i := 2) rfl rfl, by decide +kernel, by decide +kernel, rfl⟩, List.forall_mem_cons.mpr ⟨⟨js_wm (i := 480) rfl rfl, js_wm (i := 2) rfl rfl, by decide +kernel, by decide +kernel, rfl⟩, List.forall_mem_cons.mpr ⟨⟨js_wm (i := 484) rfl rfl, js_wm (i := 1) rfl rfl, by decide +kernel, by decide +kernel, rfl⟩, List.forall_mem_cons.mpr ⟨⟨js_wm (i := 489) rfl rfl, js_wm (i := 2) rfl rfl, by decide +kernel, by decide +kernel, rfl⟩, List.forall_mem_cons.mpr ⟨⟨js_wm (i := 493) rfl rfl, js_wm (i := 3) rfl rfl, by decide +kernel, by decide +kernel, rfl⟩, List.forall_mem_cons.mpr ⟨⟨js_wm (i := 497) rfl rfl, js_wm (i := 3) rfl rfl, by decide +kernel, by decide +kernel, rfl⟩, List.forall_mem_cons.mpr ⟨⟨js_wm (i := 501) rfl rfl, js_wm (i := 3) rfl rfl, by decide +kernel, by decide +kernel, rfl⟩, List.forall_mem_cons.mpr ⟨⟨js_wm (i := 505) rfl rfl, js_wm (i := 3) rfl rfl, by decide +kernel, by decide +kernel, rfl⟩, List.forall_mem_cons.mpr ⟨⟨js_wm (i := 509) rfl rfl, js_wm (i := 3) rfl rfl, by decide +kernel, by decide +kernel, rfl⟩, List.forall_mem_cons.mpr ⟨⟨js_wm (i := 513) rfl rfl, js_wm (i := 3) rfl rfl, by decide +kernel, by decide +kernel, rfl⟩, List.forall_mem_cons.mpr ⟨⟨js_wm (i := 517) rfl rfl, js_wm (i := 3) rfl rfl, by decide +kernel, by decide +kernel, rfl⟩, List.forall_mem_cons.mpr ⟨⟨js_wm (i := 521) rfl rfl, js_wm (i := 3) rfl rfl, by decide +kernel, by decide +kernel, rfl⟩, List.forall_mem_cons.mpr ⟨⟨js_wm (i := 525) rfl rfl, js_wm (i := 4) rfl rfl, by decide +kernel, by decide +kernel, rfl⟩, List.forall_mem_cons.mpr ⟨⟨js_wm (i := 532) rfl rfl, js_wm (i := 4) rfl rfl, by decide +kernel, by decide +kernel, rfl⟩, List.forall_mem_cons.mpr ⟨⟨js_wm (i := 536) rfl rfl, js_wm (i := 4) rfl rfl, by decide +kernel, by decide +kernel, rfl⟩, List.forall_mem_cons.mpr ⟨⟨js_wm (i := 540) rfl rfl, js_wm (i := 5) rfl rfl, by decide +kernel, by decide +kernel, rfl⟩, fun _ h => absurd h List.not_mem_nil⟩⟩⟩⟩⟩⟩⟩⟩⟩⟩⟩⟩⟩⟩⟩⟩⟩⟩⟩⟩⟩⟩⟩⟩⟩⟩⟩⟩⟩⟩
def js_MC_1 : List (Nat) := [30, 31, 32, 33, 34, 35, 36, 37, 38, 39, 40, 41, 42, 43, 44, 45, 46, 47, 48, 49, 50, 51, 52, 53, 54, 55, 56, 57, 58, 59]
set_option maxRecDepth 1000000 in
set_option maxHeartbeats 8000000 in
theorem js_MC_1_ok : ∀ q ∈ js_MC_1, Cond.code (jm_y q) (jm_c q) (jv_ml q) (jm_ret q) ∈ jm_ws ∧ Cond.initialized (jm_y q).cls ∈ jm_ws ∧ ((jm_y q).cls ≠ "java/lang/invoke/MethodHandle" ∧ (jm_y q).cls ≠ "java/lang/invoke/VarHandle") ∧ plainName (jm_y q).cls = true ∧ jm_own q = (jm_y q).cls := List.forall_mem_cons.mpr ⟨⟨js_wm (i := 543) rfl rfl, js_wm (i := 14) rfl rfl, by decide +kernel, by decide +kernel, rfl⟩, List.forall_mem_cons.mpr ⟨⟨js_wm (i := 547) rfl rfl, js_wm (i := 5) rfl rfl, by decide +kernel, by decide +kernel, rfl⟩, List.forall_mem_cons.mpr ⟨⟨js_wm (i := 551) rfl rfl, js_wm (i := 5) rfl rfl, by decide +kernel, by decide +kernel, rfl⟩, List.forall_mem_cons.mpr ⟨⟨js_wm (i := 555) rfl rfl, js_wm (i := 5) rfl rfl, by decide +kernel, by decide +kernel, rfl⟩, List.forall_mem_cons.mpr ⟨⟨js_wm (i := 559) rfl rfl, js_wm (i := 9) rfl rfl, by decide +kernel, by decide +kernel, rfl⟩, List.forall_mem_cons.mpr ⟨⟨js_wm (i := 564) rfl rfl, js_wm (i := 1) rfl rfl, by decide +kernel, by decide +kernel, rfl⟩, List.forall_mem_cons.mpr ⟨⟨js_wm (i := 568) rfl rfl, js_wm (i := 4) rfl rfl, by decide +kernel, by decide +kernel, rfl⟩, List.forall_mem_cons.mpr ⟨⟨js_wm (i := 572) rfl rfl, js_wm (i := 9) rfl rfl, by decide +kernel, by decide +kernel, rfl⟩, List.forall_mem_cons.mpr ⟨⟨js_wm (i := 576) rfl rfl, js_wm (i := 1) rfl rfl, by decide +kernel, by decide +kernel, rfl⟩, List.forall_mem_cons.mpr ⟨⟨js_wm (i := 580) rfl rfl, js_wm (i := 4) rfl rfl, by decide +kernel, by decide +kernel, rfl⟩, List.forall_mem_cons.mpr ⟨⟨js_wm (i := 584) rfl rfl, js_wm (i := 4) rfl rfl, by decide +kernel, by decide +kernel, rfl⟩, List.forall_mem_cons.mpr ⟨⟨js_wm (i := 588) rfl rfl, js_wm (i := 1) rfl rfl, by decide +kernel, by decide +kernel, rfl⟩, List.forall_mem_cons.mpr ⟨⟨js_wm (i := 592) rfl rfl, js_wm (i := 5) rfl rfl, by decide +kernel, by decide +kernel, rfl⟩, List.forall_mem_cons.mpr ⟨⟨js_wm (i := 596) rfl rfl, js_wm (i := 1) rfl rfl, by decide +kernel, by decide +kernel, rfl⟩, List.forall_mem_cons.mpr ⟨⟨js_wm (i := 600) rfl rfl, js_wm (i := 5) rfl rfl, by decide +kernel, by decide +kernel, rfl⟩, List.forall_mem_cons.mpr ⟨⟨js_wm (i := 603) rfl rfl, js_wm (i := 1) rfl rfl, by decide +kernel, by decide +kernel, rfl⟩, List.forall_mem_cons.mpr ⟨⟨js_wm (i := 607) rfl rfl, js_wm (i := 5) rfl rfl, by decide +kernel, by decide +kernel, rfl⟩, List.forall_mem_cons.mpr ⟨⟨js_wm (i := 611) rfl rfl, js_wm (i := 1) rfl rfl, by decide +kernel, by decide +kernel, rfl⟩, List.forall_mem_cons.mpr ⟨⟨js_wm (i := 616) rfl rfl, js_wm (i := 1) rfl rfl, by decide +kernel, by decide +kernel, rfl⟩, List.forall_mem_cons.mpr ⟨⟨js_wm (i := 620) rfl rfl, js_wm (i := 1) rfl rfl, by decide +kernel, by decide +kernel, rfl⟩, List.forall_mem_cons.mpr ⟨⟨js_wm (i := 624) rfl rfl, js_wm (i := 6) rfl rfl, by decide +kernel, by decide +kernel, rfl⟩, List.forall_mem_cons.mpr ⟨⟨js_wm (i := 628) rfl rfl, js_wm (i := 6) rfl rfl, by decide +kernel, by decide +kernel, rfl⟩, List.forall_mem_cons.mpr ⟨⟨js_wm (i := 633) rfl rfl, js_wm (i := 6) rfl rfl, by decide +kernel, by decide +kernel, rfl⟩, List.forall_mem_cons.mpr ⟨⟨js_wm (i := 636) rfl rfl, js_wm (i := 1) rfl rfl, by decide +kernel, by decide +kernel, rfl⟩, List.forall_mem_cons.mpr ⟨⟨js_wm (i := 640) rfl rfl, js_wm (i := 1) rfl rfl, by decide +kernel, by decide +kernel, rfl⟩, List.forall_mem_cons.mpr ⟨⟨js_wm (i := 644) rfl rfl, js_wm (i := 6) rfl rfl, by decide +kernel, by decide +kernel, rfl⟩, List.forall_mem_cons.mpr ⟨⟨js_wm (i := 649) rfl rfl, js_wm (i := 6) rfl rfl, by decide +kernel, by decide +kernel, rfl⟩, List.forall_mem_cons.mpr ⟨⟨js_wm (i := 653) rfl rfl, js_wm (i := 6) rfl rfl, by decide +kernel, by decide +kernel, rfl⟩, List.forall_mem_cons.mpr ⟨⟨js_wm (i := 657) rfl rfl, js_wm (i := 6) rfl rfl, by decide +kernel, by decide +kernel, rfl⟩, List.forall_mem_cons.mpr ⟨⟨js_wm (i := 661) rfl rfl, js_wm (i := 6) rfl rfl, by decide +kernel, by decide +kernel, rfl⟩, fun _ h => absurd h List.not_mem_nil⟩⟩⟩⟩⟩⟩⟩⟩⟩⟩⟩⟩⟩⟩⟩⟩⟩⟩⟩⟩⟩⟩⟩⟩⟩⟩⟩⟩⟩⟩
def js_MC_2 : List (Nat) := [60, 61, 62, 63, 64, 65, 66, 67, 68, 69, 70, 71, 72, 73, 74, 75, 76, 77, 78, 79, 80, 81, 82, 83, 84, 85, 86, 87, 88, 89]
set_option maxRecDepth 1000000 in
set_option maxHeartbeats 8000000 in
theorem js_MC_2_ok : ∀ q ∈ js_MC_2, Cond.code (jm_y q) (jm_c q) (jv_ml q) (jm_ret q) ∈ jm_ws ∧ Cond.initialized (jm_y q).cls ∈ jm_ws ∧ ((jm_y q).cls ≠ "java/lang/invoke/MethodHandle" ∧ (jm_y q).cls ≠ "java/lang/invoke/VarHandle") ∧ plainName (jm_y q).cls = true ∧ jm_own q = (jm_y q).cls := List.forall_mem_cons.mpr ⟨⟨js_wm (i := 665) rfl rfl, js_wm (i := 6) rfl rfl, by decide +kernel, by decide +kernel, rfl⟩, List.forall_mem_cons.mpr ⟨⟨js_wm (i := 673) rfl rfl, js_wm (i := 1) rfl rfl, by decide +kernel, by decide +kernel, rfl⟩, List.forall_mem_cons.mpr ⟨⟨js_wm (i := 677) rfl rfl, js_wm (i := 1) rfl rfl, by decide +kernel, by decide +kernel, rfl⟩, List.forall_mem_cons.mpr ⟨⟨js_wm (i := 681) rfl rfl, js_wm (i := 1) rfl rfl, by decide +kernel, by decide +kernel, rfl⟩, List.forall_mem_cons.mpr ⟨⟨js_wm (i := 685) rfl rfl, js_wm (i := 1) rfl rfl, by decide +kernel, by decide +kernel, rfl⟩, List.forall_mem_cons.mpr ⟨⟨js_wm (i := 689) rfl rfl, js_wm (i := 7) rfl rfl, by decide +kernel, by decide +kernel, rfl⟩, List.forall_mem_cons.mpr ⟨⟨js_wm (i := 694) rfl rfl, js_wm (i := 7) rfl rfl, by decide +kernel, by decide +kernel, rfl⟩, List.forall_mem_cons.mpr ⟨⟨js_wm (i := 699) rfl rfl, js_wm (i := 7) rfl rfl, by decide +kernel, by decide +kernel, rfl⟩, List.forall_mem_cons.mpr ⟨⟨js_wm (i := 703) rfl rfl, js_wm (i := 7) rfl rfl, by decide +kernel, by decide +kernel, rfl⟩, List.forall_mem_cons.mpr ⟨⟨js_wm (i := 707) rfl rfl, js_wm (i := 7) rfl rfl, by decide +kernel, by decide +kernel, rfl⟩, List.forall_mem_cons.mpr ⟨⟨js_wm (i := 710) rfl rfl, js_wm (i := 16) rfl rfl, by decide +kernel, by decide +kernel, rfl⟩, List.forall_mem_cons.mpr ⟨⟨js_wm (i := 717) rfl rfl, js_wm (i := 7) rfl rfl, by decide +kernel, by decide +kernel, rfl⟩, List.forall_mem_cons.mpr ⟨⟨js_wm (i := 721) rfl rfl, js_wm (i := 1) rfl rfl, by decide +kernel, by decide +kernel, rfl⟩, List.forall_mem_cons.mpr ⟨⟨js_wm (i := 725) rfl rfl, js_wm (i := 8) rfl rfl, by decide +kernel, by decide +kernel, rfl⟩, List.forall_mem_cons.mpr ⟨⟨js_wm (i := 729) rfl rfl, js_wm (i := 8) rfl rfl, by decide +kernel, by decide +kernel, rfl⟩, List.forall_mem_cons.mpr ⟨⟨js_wm (i := 733) rfl rfl, js_wm (i := 8) rfl rfl, by decide +kernel, by decide +kernel, rfl⟩, List.forall_mem_cons.mpr ⟨⟨js_wm (i := 738) rfl rfl, js_wm (i := 8) rfl rfl, by decide +kernel, by decide +kernel, rfl⟩, List.forall_mem_cons.mpr ⟨⟨js_wm (i := 743) rfl rfl, js_wm (i := 8) rfl rfl, by decide +kernel, by decide +kernel, rfl⟩, List.forall_mem_cons.mpr ⟨⟨js_wm (i := 746) rfl rfl, js_wm (i := 16) rfl rfl, by decide +kernel, by decide +kernel, rfl⟩, List.forall_mem_cons.mpr ⟨⟨js_wm (i := 751) rfl rfl, js_wm (i := 8) rfl rfl, by decide +kernel, by decide +kernel, rfl⟩, List.forall_mem_cons.mpr ⟨⟨js_wm (i := 755) rfl rfl, js_wm (i := 8) rfl rfl, by decide +kernel, by decide +kernel, rfl⟩, List.forall_mem_cons.mpr ⟨⟨js_wm (i := 760) rfl rfl, js_wm (i := 8) rfl rfl, by decide +kernel, by decide +kernel, rfl⟩, List.forall_mem_cons.mpr ⟨⟨js_wm (i := 764) rfl rfl, js_wm (i := 8) rfl rfl, by decide +kernel, by decide +kernel, rfl⟩, List.forall_mem_cons.mpr ⟨⟨js_wm (i := 768) rfl rfl, js_wm (i := 1) rfl rfl, by decide +kernel, by decide +kernel, rfl⟩, List.forall_mem_cons.mpr ⟨⟨js_wm (i := 771) rfl rfl, js_wm (i := 1) rfl rfl, by decide +kernel, by decide +kernel, rfl⟩, List.forall_mem_cons.mpr ⟨⟨js_wm (i := 775) rfl rfl, js_wm (i := 9) rfl rfl, by decide +kernel, by decide +kernel, rfl⟩, List.forall_mem_cons.mpr ⟨⟨js_wm (i := 780) rfl rfl, js_wm (i := 9) rfl rfl, by decide +kernel, by decide +kernel, rfl⟩, List.forall_mem_cons.mpr ⟨⟨js_wm (i := 784) rfl rfl, js_wm (i := 9) rfl rfl, by decide +kernel, by decide +kernel, rfl⟩, List.forall_mem_cons.mpr ⟨⟨js_wm (i := 788) rfl rfl, js_wm (i := 17) rfl rfl, by decide +kernel, by decide +kernel, rfl⟩, List.forall_mem_cons.mpr ⟨⟨js_wm (i := 831) rfl rfl, js_wm (i := 9) rfl rfl, by decide +kernel, by decide +kernel, rfl⟩, fun _ h => absurd h List.not_mem_nil⟩⟩⟩⟩⟩⟩⟩⟩⟩⟩⟩⟩⟩⟩⟩⟩⟩⟩⟩⟩⟩⟩⟩⟩⟩⟩⟩⟩⟩⟩
def js_MC_3 : List (Nat) := [90, 91, 92, 93, 94, 95, 96, 97, 98, 99, 100, 101, 102, 103, 104, 105, 106, 107, 108, 109, 110, 111, 112, 113, 114, 115, 116, 117, 118, 119]
set_option maxRecDepth 1000000 in
set_option maxHeartbeats 8000000 in
theorem js_MC_3_ok : ∀ q ∈ js_MC_3, Cond.code (jm_y q) (jm_c q) (jv_ml q) (jm_ret q) ∈ jm_ws ∧ Cond.initialized (jm_y q).cls ∈ jm_ws ∧ ((jm_y q).cls ≠ "java/lang/invoke/MethodHandle" ∧ (jm_y q).cls ≠ "java/lang/invoke/VarHandle") ∧ plainName (jm_y q).cls = true ∧ jm_own q = (jm_y q).cls := List.forall_mem_cons.mpr ⟨⟨js_wm (i := 835) rfl rfl, js_wm (i := 1) rfl rfl, by decide +kernel, by decide +kernel, rfl⟩, List.forall_mem_cons.mpr ⟨⟨js_wm (i := 839) rfl rfl, js_wm (i := 9) rfl rfl, by decide +kernel, by decide +kernel, rfl⟩, List.forall_mem_cons.mpr ⟨⟨js_wm (i := 843) rfl rfl, js_wm (i := 9) rfl rfl, by decide +kernel, by decide +kernel, rfl⟩, List.forall_mem_cons.mpr ⟨⟨js_wm (i := 848) rfl rfl, js_wm (i := 9) rfl rfl, by decide +kernel, by decide +kernel, rfl⟩, List.forall_mem_cons.mpr ⟨⟨js_wm (i := 852) rfl rfl, js_wm (i := 9) rfl rfl, by decide +kernel, by decide +kernel, rfl⟩, List.forall_mem_cons.mpr ⟨⟨js_wm (i := 858) rfl rfl, js_wm (i := 1) rfl rfl, by decide +kernel, by decide +kernel, rfl⟩, List.forall_mem_cons.mpr ⟨⟨js_wm (i := 863) rfl rfl, js_wm (i := 1) rfl rfl, by decide +kernel, by decide +kernel, rfl⟩, List.forall_mem_cons.mpr ⟨⟨js_wm (i := 867) rfl rfl, js_wm (i := 9) rfl rfl, by decide +kernel, by decide +kernel, rfl⟩, List.forall_mem_cons.mpr ⟨⟨js_wm (i := 871) rfl rfl, js_wm (i := 9) rfl rfl, by decide +kernel, by decide +kernel, rfl⟩, List.forall_mem_cons.mpr ⟨⟨js_wm (i := 875) rfl rfl, js_wm (i := 9) rfl rfl, by decide +kernel, by decide +kernel, rfl⟩, List.forall_mem_cons.mpr ⟨⟨js_wm (i := 878) rfl rfl, js_wm (i := 16) rfl rfl, by decide +kernel, by decide +kernel, rfl⟩, List.forall_mem_cons.mpr ⟨⟨js_wm (i := 882) rfl rfl, js_wm (i := 1) rfl rfl, by decide +kernel, by decide +kernel, rfl⟩, List.forall_mem_cons.mpr ⟨⟨js_wm (i := 886) rfl rfl, js_wm (i := 10) rfl rfl, by decide +kernel, by decide +kernel, rfl⟩, List.forall_mem_cons.mpr ⟨⟨js_wm (i := 891) rfl rfl, js_wm (i := 5) rfl rfl, by decide +kernel, by decide +kernel, rfl⟩, List.forall_mem_cons.mpr ⟨⟨js_wm (i := 897) rfl rfl, js_wm (i := 10) rfl rfl, by decide +kernel, by decide +kernel, rfl⟩, List.forall_mem_cons.mpr ⟨⟨js_wm (i := 902) rfl rfl, js_wm (i := 10) rfl rfl, by decide +kernel, by decide +kernel, rfl⟩, List.forall_mem_cons.mpr ⟨⟨js_wm (i := 906) rfl rfl, js_wm (i := 10) rfl rfl, by decide +kernel, by decide +kernel, rfl⟩, List.forall_mem_cons.mpr ⟨⟨js_wm (i := 911) rfl rfl, js_wm (i := 6) rfl rfl, by decide +kernel, by decide +kernel, rfl⟩, List.forall_mem_cons.mpr ⟨⟨js_wm (i := 915) rfl rfl, js_wm (i := 1) rfl rfl, by decide +kernel, by decide +kernel, rfl⟩, List.forall_mem_cons.mpr ⟨⟨js_wm (i := 920) rfl rfl, js_wm (i := 11) rfl rfl, by decide +kernel, by decide +kernel, rfl⟩, List.forall_mem_cons.mpr ⟨⟨js_wm (i := 923) rfl rfl, js_wm (i := 14) rfl rfl, by decide +kernel, by decide +kernel, rfl⟩, List.forall_mem_cons.mpr ⟨⟨js_wm (i := 927) rfl rfl, js_wm (i := 11) rfl rfl, by decide +kernel, by decide +kernel, rfl⟩, List.forall_mem_cons.mpr ⟨⟨js_wm (i := 931) rfl rfl, js_wm (i := 11) rfl rfl, by decide +kernel, by decide +kernel, rfl⟩, List.forall_mem_cons.mpr ⟨⟨js_wm (i := 936) rfl rfl, js_wm (i := 11) rfl rfl, by decide +kernel, by decide +kernel, rfl⟩, List.forall_mem_cons.mpr ⟨⟨js_wm (i := 939) rfl rfl, js_wm (i := 11) rfl rfl, by decide +kernel, by decide +kernel, rfl⟩, List.forall_mem_cons.mpr ⟨⟨js_wm (i := 949) rfl rfl, js_wm (i := 11) rfl rfl, by decide +kernel, by decide +kernel, rfl⟩, List.forall_mem_cons.mpr ⟨⟨js_wm (i := 953) rfl rfl, js_wm (i := 1) rfl rfl, by decide +kernel, by decide +kernel, rfl⟩, List.forall_mem_cons.mpr ⟨⟨js_wm (i := 957) rfl rfl, js_wm (i := 11) rfl rfl, by decide +kernel, by decide +kernel, rfl⟩, List.forall_mem_cons.mpr ⟨⟨js_wm (i := 961) rfl rfl, js_wm (i := 1) rfl rfl, by decide +kernel, by decide +kernel, rfl⟩, List.forall_mem_cons.mpr ⟨⟨js_wm (i := 965) rfl rfl, js_wm (i := 2) rfl rfl, by decide +kernel, by decide +kernel, rfl⟩, fun _ h => absurd h List.not_mem_nil⟩⟩⟩⟩⟩⟩⟩⟩⟩⟩⟩⟩⟩⟩⟩⟩⟩⟩⟩⟩⟩⟩⟩⟩⟩⟩⟩⟩⟩⟩
def js_MC_4 : List (Nat) := [120, 121, 122, 123, 124, 125, 126, 127, 128, 129, 130, 131, 132, 133, 134, 135, 136, 137, 138, 139, 140, 141, 142, 143, 144, 145, 146, 147, 148, 149]
set_option maxRecDepth 1000000 in
set_option maxHeartbeats 8000000 in
theorem js_MC_4_ok : ∀ q ∈ js_MC_4, Cond.code (jm_y q) (jm_c q) (jv_ml q) (jm_ret q) ∈ jm_ws ∧ Cond.initialized (jm_y q).cls ∈ jm_ws ∧ ((jm_y q).cls ≠ "java/lang/invoke/MethodHandle" ∧ (jm_y q).cls ≠ "java/lang/invoke/VarHandle") ∧ plainName (jm_y q).cls = true ∧ jm_own q = (jm_y q).cls := List.forall_mem_cons.mpr ⟨⟨js_wm (i := 970) rfl rfl, js_wm (i := 1) rfl rfl, by decide +kernel, by decide +kernel, rfl⟩, List.forall_mem_cons.mpr ⟨⟨js_wm (i := 974) rfl rfl, js_wm (i := 2) rfl rfl, by decide +kernel, by decide +kernel, rfl⟩, List.forall_mem_cons.mpr ⟨⟨js_wm (i := 978) rfl rfl, js_wm (i := 1) rfl rfl, by decide +kernel, by decide +kernel, rfl⟩, List.forall_mem_cons.mpr ⟨⟨js_wm (i := 982) rfl rfl, js_wm (i := 2) rfl rfl, by decide +kernel, by decide +kernel, rfl⟩, List.forall_mem_cons.mpr ⟨⟨js_wm (i := 986) rfl rfl, js_wm (i := 2) rfl rfl, by decide +kernel, by decide +kernel, rfl⟩, List.forall_mem_cons.mpr ⟨⟨js_wm (i := 990) rfl rfl, js_wm (i := 1) rfl rfl, by decide +kernel, by decide +kernel, rfl⟩, List.forall_mem_cons.mpr ⟨⟨js_wm (i := 994) rfl rfl, js_wm (i := 1) rfl rfl, by decide +kernel, by decide +kernel, rfl⟩, List.forall_mem_cons.mpr ⟨⟨js_wm (i := 998) rfl rfl, js_wm (i := 1) rfl rfl, by decide +kernel, by decide +kernel, rfl⟩, List.forall_mem_cons.mpr ⟨⟨js_wm (i := 1003) rfl rfl, js_wm (i := 1) rfl rfl, by decide +kernel, by decide +kernel, rfl⟩, List.forall_mem_cons.mpr ⟨⟨js_wm (i := 1007) rfl rfl, js_wm (i := 1) rfl rfl, by decide +kernel, by decide +kernel, rfl⟩, List.forall_mem_cons.mpr ⟨⟨js_wm (i := 1011) rfl rfl, js_wm (i := 1) rfl rfl, by decide +kernel, by decide +kernel, rfl⟩, List.forall_mem_cons.mpr ⟨⟨js_wm (i := 1015) rfl rfl, js_wm (i := 1) rfl rfl, by decide +kernel, by decide +kernel, rfl⟩, List.forall_mem_cons.mpr ⟨⟨js_wm (i := 1019) rfl rfl, js_wm (i := 1) rfl rfl, by decide +kernel, by decide +kernel, rfl⟩, List.forall_mem_cons.mpr ⟨⟨js_wm (i := 1023) rfl rfl, js_wm (i := 1) rfl rfl, by decide +kernel, by decide +kernel, rfl⟩, List.forall_mem_cons.mpr ⟨⟨js_wm (i := 1027) rfl rfl, js_wm (i := 1) rfl rfl, by decide +kernel, by decide +kernel, rfl⟩, List.forall_mem_cons.mpr ⟨⟨js_wm (i := 1031) rfl rfl, js_wm (i := 1) rfl rfl, by decide +kernel, by decide +kernel, rfl⟩, List.forall_mem_cons.mpr ⟨⟨js_wm (i := 1035) rfl rfl, js_wm (i := 1) rfl rfl, by decide +kernel, by decide +kernel, rfl⟩, List.forall_mem_cons.mpr ⟨⟨js_wm (i := 1039) rfl rfl, js_wm (i := 1) rfl rfl, by decide +kernel, by decide +kernel, rfl⟩, List.forall_mem_cons.mpr ⟨⟨js_wm (i := 1043) rfl rfl, js_wm (i := 1) rfl rfl, by decide +kernel, by decide +kernel, rfl⟩, List.forall_mem_cons.mpr ⟨⟨js_wm (i := 1047) rfl rfl, js_wm (i := 1) rfl rfl, by decide +kernel, by decide +kernel, rfl⟩, List.forall_mem_cons.mpr ⟨⟨js_wm (i := 1051) rfl rfl, js_wm (i := 9) rfl rfl, by decide +kernel, by decide +kernel, rfl⟩, List.forall_mem_cons.mpr ⟨⟨js_wm (i := 1055) rfl rfl, js_wm (i := 5) rfl rfl, by decide +kernel, by decide +kernel, rfl⟩, List.forall_mem_cons.mpr ⟨⟨js_wm (i := 1061) rfl rfl, js_wm (i := 12) rfl rfl, by decide +kernel, by decide +kernel, rfl⟩, List.forall_mem_cons.mpr ⟨⟨js_wm (i := 1217) rfl rfl, js_wm (i := 12) rfl rfl, by decide +kernel, by decide +kernel, rfl⟩, List.forall_mem_cons.mpr ⟨⟨js_wm (i := 1220) rfl rfl, js_wm (i := 12) rfl rfl, by decide +kernel, by decide +kernel, rfl⟩, List.forall_mem_cons.mpr ⟨⟨js_wm (i := 1223) rfl rfl, js_wm (i := 12) rfl rfl, by decide +kernel, by decide +kernel, rfl⟩, List.forall_mem_cons.mpr ⟨⟨js_wm (i := 1226) rfl rfl, js_wm (i := 12) rfl rfl, by decide +kernel, by decide +kernel, rfl⟩, List.forall_mem_cons.mpr ⟨⟨js_wm (i := 1230) rfl rfl, js_wm (i := 12) rfl rfl, by decide +kernel, by decide +kernel, rfl⟩, List.forall_mem_cons.mpr ⟨⟨js_wm (i := 1234) rfl rfl, js_wm (i := 12) rfl rfl, by decide +kernel, by decide +kernel, rfl⟩, List.forall_mem_cons.mpr ⟨⟨js_wm (i := 1238) rfl rfl, js_wm (i := 12) rfl rfl, by decide +kernel, by decide +kernel, rfl⟩, fun _ h => absurd h List.not_mem_nil⟩⟩⟩⟩⟩⟩⟩⟩⟩⟩⟩⟩⟩⟩⟩⟩⟩⟩⟩⟩⟩⟩⟩⟩⟩⟩⟩⟩⟩⟩
def js_MC_5 : List (Nat) := [150, 151, 152, 153, 154, 155, 156, 157, 158, 159, 160, 161, 162, 163, 164, 165, 166, 167, 168, 169, 170, 171, 172, 173, 174, 175, 176, 177, 178, 179]
set_option maxRecDepth 1000000 in
set_option maxHeartbeats 8000000 in
theorem js_MC_5_ok : ∀ q ∈ js_MC_5, Cond.code (jm_y q) (jm_c q) (jv_ml q) (jm_ret q) ∈ jm_ws ∧ Cond.initialized (jm_y q).cls ∈ jm_ws ∧ ((jm_y q).cls ≠ "java/lang/invoke/MethodHandle" ∧ (jm_y q).cls ≠ "java/lang/invoke/VarHandle") ∧ plainName (jm_y q).cls = true ∧ jm_own q = (jm_y q).cls := List.forall_mem_cons.mpr ⟨⟨js_wm (i := 1242) rfl rfl, js_wm (i := 12) rfl rfl, by decide +kernel, by decide +kernel, rfl⟩, List.forall_mem_cons.mpr ⟨⟨js_wm (i := 1246) rfl rfl, js_wm (i := 12) rfl rfl, by decide +kernel, by decide +kernel, rfl⟩, List.forall_mem_cons.mpr ⟨⟨js_wm (i := 1250) rfl rfl, js_wm (i := 12) rfl rfl, by decide +kernel, by decide +kernel, rfl⟩, List.forall_mem_cons.mpr ⟨⟨js_wm (i := 1254) rfl rfl, js_wm (i := 12) rfl rfl, by decide +kernel, by decide +kernel, rfl⟩, List.forall_mem_cons.mpr ⟨⟨js_wm (i := 1258) rfl rfl, js_wm (i := 12) rfl rfl, by decide +kernel, by decide +kernel, rfl⟩, List.forall_mem_cons.mpr ⟨⟨js_wm (i := 1262) rfl rfl, js_wm (i := 12) rfl rfl, by decide +kernel, by decide +kernel, rfl⟩, List.forall_mem_cons.mpr ⟨⟨js_wm (i := 1266) rfl rfl, js_wm (i := 12) rfl rfl, by decide +kernel, by decide +kernel, rfl⟩, List.forall_mem_cons.mpr ⟨⟨js_wm (i := 1270) rfl rfl, js_wm (i := 12) rfl rfl, by decide +kernel, by decide +kernel, rfl⟩, List.forall_mem_cons.mpr ⟨⟨js_wm (i := 1274) rfl rfl, js_wm (i := 12) rfl rfl, by decide +kernel, by decide +kernel, rfl⟩, List.forall_mem_cons.mpr ⟨⟨js_wm (i := 1277) rfl rfl, js_wm (i := 12) rfl rfl, by decide +kernel, by decide +kernel, rfl⟩, List.forall_mem_cons.mpr ⟨⟨js_wm (i := 1281) rfl rfl, js_wm (i := 12) rfl rfl, by decide +kernel, by decide +kernel, rfl⟩, List.forall_mem_cons.mpr ⟨⟨js_wm (i := 1285) rfl rfl, js_wm (i := 12) rfl rfl, by decide +kernel, by decide +kernel, rfl⟩, List.forall_mem_cons.mpr ⟨⟨js_wm (i := 1289) rfl rfl, js_wm (i := 12) rfl rfl, by decide +kernel, by decide +kernel, rfl⟩, List.forall_mem_cons.mpr ⟨⟨js_wm (i := 1293) rfl rfl, js_wm (i := 12) rfl rfl, by decide +kernel, by decide +kernel, rfl⟩, List.forall_mem_cons.mpr ⟨⟨js_wm (i := 1297) rfl rfl, js_wm (i := 12) rfl rfl, by decide +kernel, by decide +kernel, rfl⟩, List.forall_mem_cons.mpr ⟨⟨js_wm (i := 1301) rfl rfl, js_wm (i := 12) rfl rfl, by decide +kernel, by decide +kernel, rfl⟩, List.forall_mem_cons.mpr ⟨⟨js_wm (i := 1305) rfl rfl, js_wm (i := 12) rfl rfl, by decide +kernel, by decide +kernel, rfl⟩, List.forall_mem_cons.mpr ⟨⟨js_wm (i := 1309) rfl rfl, js_wm (i := 12) rfl rfl, by decide +kernel, by decide +kernel, rfl⟩, List.forall_mem_cons.mpr ⟨⟨js_wm (i := 1313) rfl rfl, js_wm (i := 12) rfl rfl, by decide +kernel, by decide +kernel, rfl⟩, List.forall_mem_cons.mpr ⟨⟨js_wm (i := 1317) rfl rfl, js_wm (i := 12) rfl rfl, by decide +kernel, by decide +kernel, rfl⟩, List.forall_mem_cons.mpr ⟨⟨js_wm (i := 1321) rfl rfl, js_wm (i := 12) rfl rfl, by decide +kernel, by decide +kernel, rfl⟩, List.forall_mem_cons.mpr ⟨⟨js_wm (i := 1325) rfl rfl, js_wm (i := 12) rfl rfl, by decide +kernel, by decide +kernel, rfl⟩, List.forall_mem_cons.mpr ⟨⟨js_wm (i := 1329) rfl rfl, js_wm (i := 12) rfl rfl, by decide +kernel, by decide +kernel, rfl⟩, List.forall_mem_cons.mpr ⟨⟨js_wm (i := 1333) rfl rfl, js_wm (i := 12) rfl rfl, by decide +kernel, by decide +kernel, rfl⟩, List.forall_mem_cons.mpr ⟨⟨js_wm (i := 1337) rfl rfl, js_wm (i := 12) rfl rfl, by decide +kernel, by decide +kernel, rfl⟩, List.forall_mem_cons.mpr ⟨⟨js_wm (i := 1341) rfl rfl, js_wm (i := 12) rfl rfl, by decide +kernel, by decide +kernel, rfl⟩, List.forall_mem_cons.mpr ⟨⟨js_wm (i := 1345) rfl rfl, js_wm (i := 12) rfl rfl, by decide +kernel, by decide +kernel, rfl⟩, List.forall_mem_cons.mpr ⟨⟨js_wm (i := 1348) rfl rfl, js_wm (i := 12) rfl rfl, by decide +kernel, by decide +kernel, rfl⟩, List.forall_mem_cons.mpr ⟨⟨js_wm (i := 1352) rfl rfl, js_wm (i := 12) rfl rfl, by decide +kernel, by decide +kernel, rfl⟩, List.forall_mem_cons.mpr ⟨⟨js_wm (i := 1356) rfl rfl, js_wm (i := 12) rfl rfl, by decide +kernel, by decide +kernel, rfl⟩, fun _ h => absurd h List.not_mem_nil⟩⟩⟩⟩⟩⟩⟩⟩⟩⟩⟩⟩⟩⟩⟩⟩⟩⟩⟩⟩⟩⟩⟩⟩⟩⟩⟩⟩⟩⟩
def js_MC_6 : List (Nat) := [180, 181, 182, 183, 184, 185, 186, 187, 188, 189, 190, 191, 192, 193, 194, 195, 196, 197, 198, 199, 200, 201, 202, 203, 204, 205, 206, 207, 208, 209]
set_option maxRecDepth 1000000 in
set_option maxHeartbeats 8000000 in
theorem js_MC_6_ok : ∀ q ∈ js_MC_6, Cond.code (jm_y q) (jm_c q) (jv_ml q) (jm_ret q) ∈ jm_ws ∧ Cond.initialized (jm_y q).cls ∈ jm_ws ∧ ((jm_y q).cls ≠ "java/lang/invoke/MethodHandle" ∧ (jm_y q).cls ≠ "java/lang/invoke/VarHandle") ∧ plainName (jm_y q).cls = true ∧ jm_own q = (jm_y q).cls := List.forall_mem_cons.mpr ⟨⟨js_wm (i := 1360) rfl rfl, js_wm (i := 12) rfl rfl, by decide +kernel, by decide +kernel, rfl⟩, List.forall_mem_cons.mpr ⟨⟨js_wm (i := 1364) rfl rfl, js_wm (i := 12) rfl rfl, by decide +kernel, by decide +kernel, rfl⟩, List.forall_mem_cons.mpr ⟨⟨js_wm (i := 1368) rfl rfl, js_wm (i := 12) rfl rfl, by decide +kernel, by decide +kernel, rfl⟩, List.forall_mem_cons.mpr ⟨⟨js_wm (i := 1372) rfl rfl, js_wm (i := 12) rfl rfl, by decide +kernel, by decide +kernel, rfl⟩, List.forall_mem_cons.mpr ⟨⟨js_wm (i := 1376) rfl rfl, js_wm (i := 12) rfl rfl, by decide +kernel, by decide +kernel, rfl⟩, List.forall_mem_cons.mpr ⟨⟨js_wm (i := 1379) rfl rfl, js_wm (i := 12) rfl rfl, by decide +kernel, by decide +kernel, rfl⟩, List.forall_mem_cons.mpr ⟨⟨js_wm (i := 1383) rfl rfl, js_wm (i := 12) rfl rfl, by decide +kernel, by decide +kernel, rfl⟩, List.forall_mem_cons.mpr ⟨⟨js_wm (i := 1387) rfl rfl, js_wm (i := 12) rfl rfl, by decide +kernel, by decide +kernel, rfl⟩, List.forall_mem_cons.mpr ⟨⟨js_wm (i := 1391) rfl rfl, js_wm (i := 12) rfl rfl, by decide +kernel, by decide +kernel, rfl⟩, List.forall_mem_cons.mpr ⟨⟨js_wm (i := 1395) rfl rfl, js_wm (i := 12) rfl rfl, by decide +kernel, by decide +kernel, rfl⟩, List.forall_mem_cons.mpr ⟨⟨js_wm (i := 1399) rfl rfl, js_wm (i := 12) rfl rfl, by decide +kernel, by decide +kernel, rfl⟩, List.forall_mem_cons.mpr ⟨⟨js_wm (i := 1403) rfl rfl, js_wm (i := 12) rfl rfl, by decide +kernel, by decide +kernel, rfl⟩, List.forall_mem_cons.mpr ⟨⟨js_wm (i := 1407) rfl rfl, js_wm (i := 12) rfl rfl, by decide +kernel, by decide +kernel, rfl⟩, List.forall_mem_cons.mpr ⟨⟨js_wm (i := 1411) rfl rfl, js_wm (i := 12) rfl rfl, by decide +kernel, by decide +kernel, rfl⟩, List.forall_mem_cons.mpr ⟨⟨js_wm (i := 1415) rfl rfl, js_wm (i := 12) rfl rfl, by decide +kernel, by decide +kernel, rfl⟩, List.forall_mem_cons.mpr ⟨⟨js_wm (i := 1419) rfl rfl, js_wm (i := 12) rfl rfl, by decide +kernel, by decide +kernel, rfl⟩, List.forall_mem_cons.mpr ⟨⟨js_wm (i := 1423) rfl rfl, js_wm (i := 12) rfl rfl, by decide +kernel, by decide +kernel, rfl⟩, List.forall_mem_cons.mpr ⟨⟨js_wm (i := 1427) rfl rfl, js_wm (i := 12) rfl rfl, by decide +kernel, by decide +kernel, rfl⟩, List.forall_mem_cons.mpr ⟨⟨js_wm (i := 1431) rfl rfl, js_wm (i := 12) rfl rfl, by decide +kernel, by decide +kernel, rfl⟩, List.forall_mem_cons.mpr ⟨⟨js_wm (i := 1435) rfl rfl, js_wm (i := 12) rfl rfl, by decide +kernel, by decide +kernel, rfl⟩, List.forall_mem_cons.mpr ⟨⟨js_wm (i := 1439) rfl rfl, js_wm (i := 12) rfl rfl, by decide +kernel, by decide +kernel, rfl⟩, List.forall_mem_cons.mpr ⟨⟨js_wm (i := 1443) rfl rfl, js_wm (i := 12) rfl rfl, by decide +kernel, by decide +kernel, rfl⟩, List.forall_mem_cons.mpr ⟨⟨js_wm (i := 1447) rfl rfl, js_wm (i := 12) rfl rfl, by decide +kernel, by decide +kernel, rfl⟩, List.forall_mem_cons.mpr ⟨⟨js_wm (i := 1451) rfl rfl, js_wm (i := 12) rfl rfl, by decide +kernel, by decide +kernel, rfl⟩, List.forall_mem_cons.mpr ⟨⟨js_wm (i := 1455) rfl rfl, js_wm (i := 12) rfl rfl, by decide +kernel, by decide +kernel, rfl⟩, List.forall_mem_cons.mpr ⟨⟨js_wm (i := 1460) rfl rfl, js_wm (i := 12) rfl rfl, by decide +kernel, by decide +kernel, rfl⟩, List.forall_mem_cons.mpr ⟨⟨js_wm (i := 1464) rfl rfl, js_wm (i := 12) rfl rfl, by decide +kernel, by decide +kernel, rfl⟩, List.forall_mem_cons.mpr ⟨⟨js_wm (i := 1468) rfl rfl, js_wm (i := 12) rfl rfl, by decide +kernel, by decide +kernel, rfl⟩, List.forall_mem_cons.mpr ⟨⟨js_wm (i := 1471) rfl rfl, js_wm (i := 12) rfl rfl, by decide +kernel, by decide +kernel, rfl⟩, List.forall_mem_cons.mpr ⟨⟨js_wm (i := 1474) rfl rfl, js_wm (i := 12) rfl rfl, by decide +kernel, by decide +kernel, rfl⟩, fun _ h => absurd h List.not_mem_nil⟩⟩⟩⟩⟩⟩⟩⟩⟩⟩⟩⟩⟩⟩⟩⟩⟩⟩⟩⟩⟩⟩⟩⟩⟩⟩⟩⟩⟩⟩
def js_MC_7 : List (Nat) := [210, 211, 212, 213, 214, 215, 216, 217, 218, 219, 220, 221, 222, 223, 224]
set_option maxRecDepth 1000000 in
set_option maxHeartbeats 8000000 in
theorem js_MC_7_ok : ∀ q ∈ js_MC_7, Cond.code (jm_y q) (jm_c q) (jv_ml q) (jm_ret q) ∈ jm_ws ∧ Cond.initialized (jm_y q).cls ∈ jm_ws ∧ ((jm_y q).cls ≠ "java/lang/invoke/MethodHandle" ∧ (jm_y q).cls ≠ "java/lang/invoke/VarHandle") ∧ plainName (jm_y q).cls = true ∧ jm_own q = (jm_y q).cls := List.forall_mem_cons.mpr ⟨⟨js_wm (i := 1478) rfl rfl, js_wm (i := 12) rfl rfl, by decide +kernel, by decide +kernel, rfl⟩, List.forall_mem_cons.mpr ⟨⟨js_wm (i := 1482) rfl rfl, js_wm (i := 12) rfl rfl, by decide +kernel, by decide +kernel, rfl⟩, List.forall_mem_cons.mpr ⟨⟨js_wm (i := 1486) rfl rfl, js_wm (i := 12) rfl rfl, by decide +kernel, by decide +kernel, rfl⟩, List.forall_mem_cons.mpr ⟨⟨js_wm (i := 1490) rfl rfl, js_wm (i := 12) rfl rfl, by decide +kernel, by decide +kernel, rfl⟩, List.forall_mem_cons.mpr ⟨⟨js_wm (i := 1494) rfl rfl, js_wm (i := 12) rfl rfl, by decide +kernel, by decide +kernel, rfl⟩, List.forall_mem_cons.mpr ⟨⟨js_wm (i := 1498) rfl rfl, js_wm (i := 12) rfl rfl, by decide +kernel, by decide +kernel, rfl⟩, List.forall_mem_cons.mpr ⟨⟨js_wm (i := 1502) rfl rfl, js_wm (i := 12) rfl rfl, by decide +kernel, by decide +kernel, rfl⟩, List.forall_mem_cons.mpr ⟨⟨js_wm (i := 1506) rfl rfl, js_wm (i := 12) rfl rfl, by decide +kernel, by decide +kernel, rfl⟩, List.forall_mem_cons.mpr ⟨⟨js_wm (i := 1510) rfl rfl, js_wm (i := 12) rfl rfl, by decide +kernel, by decide +kernel, rfl⟩, List.forall_mem_cons.mpr ⟨⟨js_wm (i := 1514) rfl rfl, js_wm (i := 12) rfl rfl, by decide +kernel, by decide +kernel, rfl⟩, List.forall_mem_cons.mpr ⟨⟨js_wm (i := 1518) rfl rfl, js_wm (i := 12) rfl rfl, by decide +kernel, by decide +kernel, rfl⟩, List.forall_mem_cons.mpr ⟨⟨js_wm (i := 1522) rfl rfl, js_wm (i := 12) rfl rfl, by decide +kernel, by decide +kernel, rfl⟩, List.forall_mem_cons.mpr ⟨⟨js_wm (i := 1526) rfl rfl, js_wm (i := 12) rfl rfl, by decide +kernel, by decide +kernel, rfl⟩, List.forall_mem_cons.mpr ⟨⟨js_wm (i := 1530) rfl rfl, js_wm (i := 12) rfl rfl, by decide +kernel, by decide +kernel, rfl⟩, List.forall_mem_cons.mpr ⟨⟨js_wm (i := 1534) rfl rfl, js_wm (i := 12) rfl rfl, by decide +kernel, by decide +kernel, rfl⟩, fun _ h => absurd h List.not_mem_nil⟩⟩⟩⟩⟩⟩⟩⟩⟩⟩⟩⟩⟩⟩⟩
def js_MC : List (Nat) := js_MC_0 ++ js_MC_1 ++ js_MC_2 ++ js_MC_3 ++ js_MC_4 ++ js_MC_5 ++ js_MC_6 ++ js_MC_7
theorem js_MC_ok : ∀ q ∈ js_MC, Cond.code (jm_y q) (jm_c q) (jv_ml q) (jm_ret q) ∈ jm_ws ∧ Cond.initialized (jm_y q).cls ∈ jm_ws ∧ ((jm_y q).cls ≠ "java/lang/invoke/MethodHandle" ∧ (jm_y q).cls ≠ "java/lang/invoke/VarHandle") ∧ plainName (jm_y q).cls = true ∧ jm_own q = (jm_y q).cls := fun q h => by
  unfold js_MC at h
  simp only [List.mem_append] at h
  rcases h with ((((((h | h) | h) | h) | h) | h) | h) | h
  · exact js_MC_0_ok q h
  · exact js_MC_1_ok q h
  · exact js_MC_2_ok q h
  · exact js_MC_3_ok q h
  · exact js_MC_4_ok q h
  · exact js_MC_5_ok q h
  · exact js_MC_6_ok q h
  · exact js_MC_7_ok q h
end
section
/-! ===== a check of each instruction against the links ===== -/
def jm_oc (k : Nat) : Nat := (jm_e k).1
def js_fin (ci f : Nat) : Bool := match vwCl[ci]? with
  | some r => (r.2.1 f).2.2.2
  | none => false
def js_ckI (k i x : Nat) (r : List Nat) : Bool := match r with
  | [k', c, rc] => decide (k' < 225 ∧ jm_ht k' + 1 ≤ jm_ht k ∧ 8 + (jv_ml k' + 11) + jm_rl k' ≤ jm_rl k ∧ (jm_oc k, x, k') ∈ js_ML ∧ (k', i, c - (if rc = 0 then 0 else 1), rc) ∈ js_MK ∧ (rc = 0 ∨ 0 < c))
  | _ => true
def js_ck (k pc : Nat) (i : Instr) (len : Nat) (r : List Nat) (z : Int) : Bool := match i with
  | .iconst n => decide (len = 1 ∧ (Int32.ofInt n).toInt = z)
  | .bipush n => decide (len = 2 ∧ (Int8.ofInt n).toInt32.toInt = z)
  | .sipush n => decide (len = 3 ∧ (Int16.ofInt n).toInt32.toInt = z)
  | .ldc_w x => decide (len = 3 ∧ (jm_oc k, x, z) ∈ js_KI)
  | .lconst n => decide (len = 1 ∧ (Int64.ofNat n.val).toInt = z)
  | .ldc2_w x => decide (len = 3 ∧ (jm_oc k, x, z) ∈ js_KJ)
  | .iload _ | .lload _ | .aload _ | .istore _ | .lstore _ | .astore _ => decide (len = 2)
  | .iinc _ c => decide (len = 3 ∧ (Int32.ofInt c).toInt = c)
  | .goto off | .ifCond _ off | .if_icmp _ off | .ifnull off | .ifnonnull off => decide (len = 3) && (match r with
    | [t] => decide ((pc : Int) + off = (t : Int))
    | _ => true)
  | .tableswitch dflt lo hi offs => match r with
    | d :: ts => decide ((pc : Int) + dflt = (d : Int) ∧ ts.length = offs.size ∧ hi = lo + (ts.length : Int) - 1) && (ts.zip offs.toList).all (fun q => decide ((pc : Int) + q.2 = (q.1 : Int)))
    | [] => true
  | .lookupswitch dflt ps => (ps.toList.zip (ps.toList.drop 1)).all (fun (a, next) => a.1 < next.1) && (match r with
    | d :: ts => decide ((pc : Int) + dflt = (d : Int) ∧ ts.length = ps.toList.length) && (ts.zip ps.toList).all (fun q => decide ((pc : Int) + q.2.2 = (q.1 : Int)))
    | [] => true)
  | .getfield x => match r with
    | [kd, f, ty] => decide (len = 3 ∧ (jm_oc k, x, kd, f) ∈ js_FL ∧ jv_ft (kd - 10) f = ty)
    | _ => decide (len = 3)
  | .putfield x => match r with
    | [kd, f, ty] => decide (len = 3 ∧ (jm_oc k, x, kd, f) ∈ js_FL ∧ jv_ft (kd - 10) f = ty ∧ (js_fin (kd - 10) f = true → (jm_y k).name = "<init>" ∧ jm_oc k = kd - 10))
    | _ => decide (len = 3)
  | .invokevirtual x => decide (len = 3 ∧ r.length ≠ 1) && js_ckI k 0 x r
  | .invokespecial x => decide (len = 3) && js_ckI k 1 x r && decide ((r = [1001] → (jm_oc k, x) ∈ js_OL ∧ 1 ≤ jm_ht k ∧ 20 ≤ jm_rl k) ∧ (r.length = 1 → r = [1001]))
  | .invokestatic x => decide (len = 3) && js_ckI k 2 x r && decide ((r = [1000] → (jm_oc k, x) ∈ js_AL ∧ 1 ≤ jm_ht k ∧ 60 ≤ jm_rl k) ∧ r ≠ [1001] ∧ (r = [1002] → (jm_oc k, x) ∈ js_X2 ∧ 1 ≤ jm_ht k ∧ 30 ≤ jm_rl k) ∧ (r = [1003] → (jm_oc k, x) ∈ js_X3 ∧ 1 ≤ jm_ht k ∧ 30 ≤ jm_rl k) ∧ (r = [1004] → (jm_oc k, x) ∈ js_X4 ∧ 1 ≤ jm_ht k ∧ 30 ≤ jm_rl k))
  | .new x => match r with
    | [ci, ns] => decide (len = 3 ∧ (jm_oc k, x, ci) ∈ js_CL ∧ ((vwCl[ci]?).map (fun r => r.2.2)) = some ns)
    | _ => decide (len = 3)
  | .newarray .int => decide (len = 2)
  | .newarray .long => decide (len = 2)
  | .anewarray x => decide (len = 3 ∧ (jm_oc k, x) ∈ js_LL)
  | .multianewarray x d => decide (len = 4 ∧ d = 2 ∧ (jm_oc k, x) ∈ js_RL)
  | .ireturn => decide (len = 1 ∧ (r = [0] → jm_ret k = some .int) ∧ (r = [1] → jm_ret k = some .boolean))
  | .lreturn => decide (len = 1 ∧ jm_ret k = some .long)
  | .areturn => decide (len = 1 ∧ jm_ret k = some (.object "LaneWaits$Load"))
  | .return_ => decide (len = 1 ∧ jm_ret k = none)
  | _ => decide (len = 1)
theorem js_zip {α β : Type} {P : α × β → Prop} : ∀ (l : List α) (m : List β), (∀ q ∈ l.zip m, P q) → ∀ (j : Nat) (a : α) (c : β), l[j]? = some a → m[j]? = some c → P (a, c)
  | [], _, _, j, a, c, h, _ => by cases h
  | _ :: _, [], _, j, a, c, _, h => by cases h
  | x :: l, y :: m, hP, 0, a, c, h1, h2 => by
    cases h1
    cases h2
    exact hP _ List.mem_cons_self
  | x :: l, y :: m, hP, j + 1, a, c, h1, h2 => js_zip l m (fun q hq => hP q (List.mem_cons_of_mem _ hq)) j a c h1 h2
theorem js_on_vw : ∀ (ci : Nat) (C : String) (T : u_T) (N : Nat), vwCl[ci]? = some (C, T, N) → jm_on.getD ci "" = C := by
  intro ci C T N h
  have hl : ci < 13 := (List.getElem?_eq_some_iff.mp h).1
  rcases (show ci = 0 ∨ ci = 1 ∨ ci = 2 ∨ ci = 3 ∨ ci = 4 ∨ ci = 5 ∨ ci = 6 ∨ ci = 7 ∨ ci = 8 ∨ ci = 9 ∨ ci = 10 ∨ ci = 11 ∨ ci = 12 by omega) with rfl | rfl | rfl | rfl | rfl | rfl | rfl | rfl | rfl | rfl | rfl | rfl | rfl <;> cases h <;> rfl
theorem js_ckI_ok {k i x : Nat} {r : List Nat} (hi : i ≤ 2) (h : js_ckI k i x r = true) : ∀ k' c rc : Nat, r = [k', c, rc] → js_iv k x i k' c rc := by
  rintro k' c rc rfl
  have h := of_decide_eq_true (show decide _ = true from h)
  obtain ⟨h1, h2, h3, h4, h5, h6⟩ := h
  have m1 := js_ML_ok _ h4
  have m2 := js_MK_ok _ h5
  dsimp only at m1 m2
  refine ⟨h1, trivial, h2, h3, m1, m2.1, ?_⟩
  rcases m2.2 with ⟨rfl, a2, a3⟩ | ⟨rfl, a2, a3, a4, a5, a6⟩ | ⟨rfl, a2, a3, a4, a5, a6⟩
  · rw [if_pos rfl]
    exact ⟨a3, a2⟩
  · rw [if_neg (by decide)]
    refine ⟨by omega, a3, a2, a4, ?_⟩
    rw [if_pos rfl]
    exact ⟨a5, a6⟩
  · rw [if_neg (by decide)]
    refine ⟨by omega, a3, a2, a4, ?_⟩
    rw [if_neg (by decide)]
    exact ⟨a5, a6⟩
theorem js_fl_of {k x kd f ty : Nat} (h : (jm_oc k, x, kd, f) ∈ js_FL) (ht : jv_ft (kd - 10) f = ty) : js_fl k x kd f ty := by
  obtain ⟨h1, C, T, N, h2, h3, h4, h5⟩ := js_FL_ok _ h
  exact ⟨h1, C, T, N, h2, h3, h4, h5, ht⟩
theorem js_ck_br {pc len : Nat} {r : List Nat} {off : Int} (h : (decide (len = 3) && (match r with
    | [t] => decide ((pc : Int) + off = (t : Int))
    | _ => true)) = true) : len = 3 ∧ ∀ t : Nat, r = [t] → (pc : Int) + off = (t : Int) := by
  rw [Bool.and_eq_true] at h
  obtain ⟨h1, h2⟩ := h
  refine ⟨of_decide_eq_true h1, ?_⟩
  rintro t rfl
  exact of_decide_eq_true h2
theorem js_ck_ok {k pc : Nat} {i : Instr} {len : Nat} {r : List Nat} {z : Int} (h : js_ck k pc i len r z = true) : js_i1 k pc i len r z := by
  cases i with
  | iconst n =>
    have h2 := of_decide_eq_true (show decide _ = true from h)
    exact h2
  | bipush n =>
    have h2 := of_decide_eq_true (show decide _ = true from h)
    exact h2
  | sipush n =>
    have h2 := of_decide_eq_true (show decide _ = true from h)
    exact h2
  | ldc_w x =>
    obtain ⟨h1, h2⟩ := of_decide_eq_true (show decide _ = true from h)
    exact ⟨h1, js_KI_ok _ h2⟩
  | lconst n =>
    have h2 := of_decide_eq_true (show decide _ = true from h)
    exact h2
  | ldc2_w x =>
    obtain ⟨h1, h2⟩ := of_decide_eq_true (show decide _ = true from h)
    exact ⟨h1, js_KJ_ok _ h2⟩
  | iinc a c =>
    have h2 := of_decide_eq_true (show decide _ = true from h)
    exact h2
  | goto off => exact js_ck_br h
  | ifCond c off => exact js_ck_br h
  | if_icmp c off => exact js_ck_br h
  | ifnull off => exact js_ck_br h
  | ifnonnull off => exact js_ck_br h
  | tableswitch df lo hi offs =>
    rintro d ts rfl
    have h : (decide ((pc : Int) + df = (d : Int) ∧ ts.length = offs.size ∧ hi = lo + (ts.length : Int) - 1) && (ts.zip offs.toList).all (fun q => decide ((pc : Int) + q.2 = (q.1 : Int)))) = true := h
    rw [Bool.and_eq_true] at h
    obtain ⟨h1, h2, h3⟩ := of_decide_eq_true h.1
    refine ⟨h1, h2, h3, fun j t off a b => ?_⟩
    exact js_zip (P := fun (q : Nat × Int) => (pc : Int) + q.2 = (q.1 : Int)) ts offs.toList (fun q hq => of_decide_eq_true (List.all_eq_true.mp h.2 q hq)) j t off a (by rw [Array.getElem?_toList]; exact b)
  | lookupswitch df ps =>
    unfold js_ck at h
    dsimp only at h
    rw [Bool.and_eq_true] at h
    refine ⟨h.1, ?_⟩
    rintro d ts rfl
    have h2 := h.2
    dsimp only at h2
    rw [Bool.and_eq_true] at h2
    obtain ⟨a1, a2⟩ := of_decide_eq_true h2.1
    exact ⟨a1, a2, fun j t q a b => js_zip (P := fun (q : Nat × Int × Int) => (pc : Int) + q.2.2 = (q.1 : Int)) ts ps.toList (fun q hq => of_decide_eq_true (List.all_eq_true.mp h2.2 q hq)) j t q a b⟩
  | getfield x =>
    have hlen : len = 3 := by
      unfold js_ck at h
      dsimp only at h
      split at h
      · exact (of_decide_eq_true h).1
      · exact of_decide_eq_true h
    refine ⟨hlen, ?_⟩
    rintro kd f ty rfl
    obtain ⟨-, h2, h3⟩ := of_decide_eq_true (show decide _ = true from h)
    exact js_fl_of h2 h3
  | putfield x =>
    have hlen : len = 3 := by
      unfold js_ck at h
      dsimp only at h
      split at h
      · exact (of_decide_eq_true h).1
      · exact of_decide_eq_true h
    refine ⟨hlen, ?_⟩
    rintro kd f ty rfl
    obtain ⟨-, h2, h3, h4⟩ := of_decide_eq_true (show decide _ = true from h)
    refine ⟨js_fl_of h2 h3, fun C T N hc hf => ?_⟩
    have hfin : js_fin (kd - 10) f = true := by
      unfold js_fin
      rw [hc]
      exact hf
    obtain ⟨a1, a2⟩ := h4 hfin
    refine ⟨a1, ?_⟩
    have := js_on_vw _ _ _ _ hc
    rw [← a2] at this
    exact this
  | invokevirtual x =>
    have h : (decide (len = 3 ∧ r.length ≠ 1) && js_ckI k 0 x r) = true := h
    rw [Bool.and_eq_true] at h
    obtain ⟨h1, h2⟩ := of_decide_eq_true h.1
    exact ⟨h1, js_ckI_ok (by decide) h.2, h2⟩
  | invokespecial x =>
    have h : (decide (len = 3) && js_ckI k 1 x r && decide ((r = [1001] → (jm_oc k, x) ∈ js_OL ∧ 1 ≤ jm_ht k ∧ 20 ≤ jm_rl k) ∧ (r.length = 1 → r = [1001]))) = true := h
    rw [Bool.and_eq_true, Bool.and_eq_true] at h
    obtain ⟨⟨h1, h2⟩, h3⟩ := h
    obtain ⟨h4, h5⟩ := of_decide_eq_true h3
    exact ⟨of_decide_eq_true h1, js_ckI_ok (by decide) h2, fun hr => ⟨js_OL_ok _ (h4 hr).1, (h4 hr).2⟩, h5⟩
  | invokestatic x =>
    have h : (decide (len = 3) && js_ckI k 2 x r && decide ((r = [1000] → (jm_oc k, x) ∈ js_AL ∧ 1 ≤ jm_ht k ∧ 60 ≤ jm_rl k) ∧ r ≠ [1001] ∧ (r = [1002] → (jm_oc k, x) ∈ js_X2 ∧ 1 ≤ jm_ht k ∧ 30 ≤ jm_rl k) ∧ (r = [1003] → (jm_oc k, x) ∈ js_X3 ∧ 1 ≤ jm_ht k ∧ 30 ≤ jm_rl k) ∧ (r = [1004] → (jm_oc k, x) ∈ js_X4 ∧ 1 ≤ jm_ht k ∧ 30 ≤ jm_rl k))) = true := h
    rw [Bool.and_eq_true, Bool.and_eq_true] at h
    obtain ⟨⟨h1, h2⟩, h3⟩ := h
    obtain ⟨h4, h5, h6, h7, h8⟩ := of_decide_eq_true h3
    exact ⟨of_decide_eq_true h1, js_ckI_ok (by decide) h2, fun hr => ⟨js_AL_ok _ (h4 hr).1, (h4 hr).2⟩, h5, fun hr => ⟨js_X2_ok _ (h6 hr).1, (h6 hr).2⟩, fun hr => ⟨js_X3_ok _ (h7 hr).1, (h7 hr).2⟩, fun hr => ⟨js_X4_ok _ (h8 hr).1, (h8 hr).2⟩⟩
  | new x =>
    have hlen : len = 3 := by
      unfold js_ck at h
      dsimp only at h
      split at h
      · exact (of_decide_eq_true h).1
      · exact of_decide_eq_true h
    refine ⟨hlen, ?_⟩
    rintro ci ns rfl
    obtain ⟨-, h2, h3⟩ := of_decide_eq_true (show decide _ = true from h)
    obtain ⟨C, T, ns', a1, a2, a3, a4⟩ := js_CL_ok _ h2
    dsimp only at a1 a2
    rw [a1] at h3
    cases h3
    exact ⟨C, T, a1, a2, a3, a4⟩
  | newarray t =>
    cases t with
    | int => exact ⟨of_decide_eq_true (show decide _ = true from h), js_aI⟩
    | long => exact ⟨of_decide_eq_true (show decide _ = true from h), js_aJ⟩
    | _ =>
    have h2 := of_decide_eq_true (show decide _ = true from h)
    exact h2
  | anewarray x =>
    obtain ⟨h1, h2⟩ := of_decide_eq_true (show decide _ = true from h)
    exact ⟨h1, js_LL_ok _ h2⟩
  | multianewarray x d =>
    obtain ⟨h1, h2, h3⟩ := of_decide_eq_true (show decide _ = true from h)
    exact ⟨h1, h2, js_RL_ok _ h3, js_aI⟩
  | ireturn =>
    have h2 := of_decide_eq_true (show decide _ = true from h)
    exact h2
  | lreturn =>
    have h2 := of_decide_eq_true (show decide _ = true from h)
    exact h2
  | areturn =>
    obtain ⟨h1, h2⟩ := of_decide_eq_true (show decide _ = true from h)
    exact ⟨h1, _, h2⟩
  | return_ =>
    have h2 := of_decide_eq_true (show decide _ = true from h)
    exact h2
  | _ =>
    have h2 := of_decide_eq_true (show decide _ = true from h)
    exact h2
/-- all of one method -/
def js_okm (k : Nat) (t : List jv_E) : Bool := t.all (fun q => js_ck k q.1 q.2.1 q.2.2.1 q.2.2.2.1 q.2.2.2.2)
def js_dec (cc : ByteArray) (t : List jv_E) : Bool := t.all (fun q => decide (decode cc q.1 = .ok (q.2.1, q.2.2.1)))
theorem js_okm_ok {k : Nat} {t : List jv_E} (h1 : js_okm k t = true) (h2 : js_dec (jm_c k) t = true) : ∀ q ∈ t, js_ie k q := fun q hq => ⟨of_decide_eq_true (List.all_eq_true.mp h2 q hq), js_ck_ok (List.all_eq_true.mp h1 q hq)⟩
end
section
/-! ===== each method as the tables have it (written by a program), 0 ===== -/
set_option maxRecDepth 1000000 in
set_option maxHeartbeats 16000000 in
theorem js_a_X_init_0 : ∀ q ∈ jt_X_init_0, js_ie kX_init q := js_okm_ok (by decide +kernel) (by decide +kernel)
set_option maxRecDepth 1000000 in
set_option maxHeartbeats 16000000 in
theorem js_a_X_init_1 : ∀ q ∈ jt_X_init_1, js_ie kX_init q := js_okm_ok (by decide +kernel) (by decide +kernel)
theorem js_a_X_init : ∀ q ∈ jt_X_init, js_ie kX_init q := fun q h => (List.mem_append.mp h).elim (fun h => js_a_X_init_0 q h) (fun h => js_a_X_init_1 q h)
set_option maxRecDepth 1000000 in
set_option maxHeartbeats 16000000 in
theorem js_a_Sh_init : ∀ q ∈ jt_Sh_init, js_ie kSh_init q := js_okm_ok (by decide +kernel) (by decide +kernel)
set_option maxRecDepth 1000000 in
set_option maxHeartbeats 16000000 in
theorem js_a_Tx_init : ∀ q ∈ jt_Tx_init, js_ie kTx_init q := js_okm_ok (by decide +kernel) (by decide +kernel)
set_option maxRecDepth 1000000 in
set_option maxHeartbeats 16000000 in
theorem js_a_N_init : ∀ q ∈ jt_N_init, js_ie kN_init q := js_okm_ok (by decide +kernel) (by decide +kernel)
set_option maxRecDepth 1000000 in
set_option maxHeartbeats 16000000 in
theorem js_a_Wy_init : ∀ q ∈ jt_Wy_init, js_ie kWy_init q := js_okm_ok (by decide +kernel) (by decide +kernel)
set_option maxRecDepth 1000000 in
set_option maxHeartbeats 16000000 in
theorem js_a_Wa_init : ∀ q ∈ jt_Wa_init, js_ie kWa_init q := js_okm_ok (by decide +kernel) (by decide +kernel)
set_option maxRecDepth 1000000 in
set_option maxHeartbeats 16000000 in
theorem js_a_Sl_init : ∀ q ∈ jt_Sl_init, js_ie kSl_init q := js_okm_ok (by decide +kernel) (by decide +kernel)
set_option maxRecDepth 1000000 in
set_option maxHeartbeats 16000000 in
theorem js_a_Sa_init : ∀ q ∈ jt_Sa_init, js_ie kSa_init q := js_okm_ok (by decide +kernel) (by decide +kernel)
set_option maxRecDepth 1000000 in
set_option maxHeartbeats 16000000 in
theorem js_a_Tr_init : ∀ q ∈ jt_Tr_init, js_ie kTr_init q := js_okm_ok (by decide +kernel) (by decide +kernel)
set_option maxRecDepth 1000000 in
set_option maxHeartbeats 16000000 in
theorem js_a_M_init : ∀ q ∈ jt_M_init, js_ie kM_init q := js_okm_ok (by decide +kernel) (by decide +kernel)
set_option maxRecDepth 1000000 in
set_option maxHeartbeats 16000000 in
theorem js_a_B_init : ∀ q ∈ jt_B_init, js_ie kB_init q := js_okm_ok (by decide +kernel) (by decide +kernel)
set_option maxRecDepth 1000000 in
set_option maxHeartbeats 16000000 in
theorem js_a_X_net_0 : ∀ q ∈ jt_X_net_0, js_ie kX_net q := js_okm_ok (by decide +kernel) (by decide +kernel)
set_option maxRecDepth 1000000 in
set_option maxHeartbeats 16000000 in
theorem js_a_X_net_1 : ∀ q ∈ jt_X_net_1, js_ie kX_net q := js_okm_ok (by decide +kernel) (by decide +kernel)
theorem js_a_X_net : ∀ q ∈ jt_X_net, js_ie kX_net q := fun q h => (List.mem_append.mp h).elim (fun h => js_a_X_net_0 q h) (fun h => js_a_X_net_1 q h)
set_option maxRecDepth 1000000 in
set_option maxHeartbeats 16000000 in
theorem js_a_Sh_isSheet : ∀ q ∈ jt_Sh_isSheet, js_ie kSh_isSheet q := js_okm_ok (by decide +kernel) (by decide +kernel)
set_option maxRecDepth 1000000 in
set_option maxHeartbeats 16000000 in
theorem js_a_Sh_isSort : ∀ q ∈ jt_Sh_isSort, js_ie kSh_isSort q := js_okm_ok (by decide +kernel) (by decide +kernel)
set_option maxRecDepth 1000000 in
set_option maxHeartbeats 16000000 in
theorem js_a_Sh_isOfAnother : ∀ q ∈ jt_Sh_isOfAnother, js_ie kSh_isOfAnother q := js_okm_ok (by decide +kernel) (by decide +kernel)
set_option maxRecDepth 1000000 in
set_option maxHeartbeats 16000000 in
theorem js_a_Sh_hasRow : ∀ q ∈ jt_Sh_hasRow, js_ie kSh_hasRow q := js_okm_ok (by decide +kernel) (by decide +kernel)
set_option maxRecDepth 1000000 in
set_option maxHeartbeats 16000000 in
theorem js_a_X_fail : ∀ q ∈ jt_X_fail, js_ie kX_fail q := js_okm_ok (by decide +kernel) (by decide +kernel)
set_option maxRecDepth 1000000 in
set_option maxHeartbeats 16000000 in
theorem js_a_Sh_hasCells : ∀ q ∈ jt_Sh_hasCells, js_ie kSh_hasCells q := js_okm_ok (by decide +kernel) (by decide +kernel)
set_option maxRecDepth 1000000 in
set_option maxHeartbeats 16000000 in
theorem js_a_Tx_firstFault : ∀ q ∈ jt_Tx_firstFault, js_ie kTx_firstFault q := js_okm_ok (by decide +kernel) (by decide +kernel)
set_option maxRecDepth 1000000 in
set_option maxHeartbeats 16000000 in
theorem js_a_Tx_takes_0 : ∀ q ∈ jt_Tx_takes_0, js_ie kTx_takes q := js_okm_ok (by decide +kernel) (by decide +kernel)
set_option maxRecDepth 1000000 in
set_option maxHeartbeats 16000000 in
theorem js_a_Tx_takes_1 : ∀ q ∈ jt_Tx_takes_1, js_ie kTx_takes q := js_okm_ok (by decide +kernel) (by decide +kernel)
theorem js_a_Tx_takes : ∀ q ∈ jt_Tx_takes, js_ie kTx_takes q := fun q h => (List.mem_append.mp h).elim (fun h => js_a_Tx_takes_0 q h) (fun h => js_a_Tx_takes_1 q h)
set_option maxRecDepth 1000000 in
set_option maxHeartbeats 16000000 in
theorem js_a_Tx_goesOn : ∀ q ∈ jt_Tx_goesOn, js_ie kTx_goesOn q := js_okm_ok (by decide +kernel) (by decide +kernel)
set_option maxRecDepth 1000000 in
set_option maxHeartbeats 16000000 in
theorem js_a_Tx_takesNodes : ∀ q ∈ jt_Tx_takesNodes, js_ie kTx_takesNodes q := js_okm_ok (by decide +kernel) (by decide +kernel)
set_option maxRecDepth 1000000 in
set_option maxHeartbeats 16000000 in
theorem js_a_Tx_takesFrom : ∀ q ∈ jt_Tx_takesFrom, js_ie kTx_takesFrom q := js_okm_ok (by decide +kernel) (by decide +kernel)
set_option maxRecDepth 1000000 in
set_option maxHeartbeats 16000000 in
theorem js_a_Tx_takesTo : ∀ q ∈ jt_Tx_takesTo, js_ie kTx_takesTo q := js_okm_ok (by decide +kernel) (by decide +kernel)
set_option maxRecDepth 1000000 in
set_option maxHeartbeats 16000000 in
theorem js_a_Tx_opensLane : ∀ q ∈ jt_Tx_opensLane, js_ie kTx_opensLane q := js_okm_ok (by decide +kernel) (by decide +kernel)
set_option maxRecDepth 1000000 in
set_option maxHeartbeats 16000000 in
theorem js_a_Tx_takesCells : ∀ q ∈ jt_Tx_takesCells, js_ie kTx_takesCells q := js_okm_ok (by decide +kernel) (by decide +kernel)
set_option maxRecDepth 1000000 in
set_option maxHeartbeats 16000000 in
theorem js_a_N_build : ∀ q ∈ jt_N_build, js_ie kN_build q := js_okm_ok (by decide +kernel) (by decide +kernel)
set_option maxRecDepth 1000000 in
set_option maxHeartbeats 16000000 in
theorem js_a_N_measure_0 : ∀ q ∈ jt_N_measure_0, js_ie kN_measure q := js_okm_ok (by decide +kernel) (by decide +kernel)
set_option maxRecDepth 1000000 in
set_option maxHeartbeats 16000000 in
theorem js_a_N_measure_1 : ∀ q ∈ jt_N_measure_1, js_ie kN_measure q := js_okm_ok (by decide +kernel) (by decide +kernel)
theorem js_a_N_measure : ∀ q ∈ jt_N_measure, js_ie kN_measure q := fun q h => (List.mem_append.mp h).elim (fun h => js_a_N_measure_0 q h) (fun h => js_a_N_measure_1 q h)
set_option maxRecDepth 1000000 in
set_option maxHeartbeats 16000000 in
theorem js_a_N_collect_0 : ∀ q ∈ jt_N_collect_0, js_ie kN_collect q := js_okm_ok (by decide +kernel) (by decide +kernel)
set_option maxRecDepth 1000000 in
set_option maxHeartbeats 16000000 in
theorem js_a_N_collect_1 : ∀ q ∈ jt_N_collect_1, js_ie kN_collect q := js_okm_ok (by decide +kernel) (by decide +kernel)
theorem js_a_N_collect : ∀ q ∈ jt_N_collect, js_ie kN_collect q := fun q h => (List.mem_append.mp h).elim (fun h => js_a_N_collect_0 q h) (fun h => js_a_N_collect_1 q h)
set_option maxRecDepth 1000000 in
set_option maxHeartbeats 16000000 in
theorem js_a_Wy_unbarAll : ∀ q ∈ jt_Wy_unbarAll, js_ie kWy_unbarAll q := js_okm_ok (by decide +kernel) (by decide +kernel)
set_option maxRecDepth 1000000 in
set_option maxHeartbeats 16000000 in
theorem js_a_Ar_fill : ∀ q ∈ jt_Ar_fill, js_ie kAr_fill q := js_okm_ok (by decide +kernel) (by decide +kernel)
set_option maxRecDepth 1000000 in
set_option maxHeartbeats 16000000 in
theorem js_a_Wy_layAll : ∀ q ∈ jt_Wy_layAll, js_ie kWy_layAll q := js_okm_ok (by decide +kernel) (by decide +kernel)
set_option maxRecDepth 1000000 in
set_option maxHeartbeats 16000000 in
theorem js_a_Wy_ruled : ∀ q ∈ jt_Wy_ruled, js_ie kWy_ruled q := js_okm_ok (by decide +kernel) (by decide +kernel)
set_option maxRecDepth 1000000 in
set_option maxHeartbeats 16000000 in
theorem js_a_Wy_layLane : ∀ q ∈ jt_Wy_layLane, js_ie kWy_layLane q := js_okm_ok (by decide +kernel) (by decide +kernel)
set_option maxRecDepth 1000000 in
set_option maxHeartbeats 16000000 in
theorem js_a_Tr_clear : ∀ q ∈ jt_Tr_clear, js_ie kTr_clear q := js_okm_ok (by decide +kernel) (by decide +kernel)
set_option maxRecDepth 1000000 in
set_option maxHeartbeats 16000000 in
theorem js_a_X_ofLane : ∀ q ∈ jt_X_ofLane, js_ie kX_ofLane q := js_okm_ok (by decide +kernel) (by decide +kernel)
set_option maxRecDepth 1000000 in
set_option maxHeartbeats 16000000 in
theorem js_a_N_isLane : ∀ q ∈ jt_N_isLane, js_ie kN_isLane q := js_okm_ok (by decide +kernel) (by decide +kernel)
set_option maxRecDepth 1000000 in
set_option maxHeartbeats 16000000 in
theorem js_a_Tr_standsIn : ∀ q ∈ jt_Tr_standsIn, js_ie kTr_standsIn q := js_okm_ok (by decide +kernel) (by decide +kernel)
set_option maxRecDepth 1000000 in
set_option maxHeartbeats 16000000 in
theorem js_a_X_far : ∀ q ∈ jt_X_far, js_ie kX_far q := js_okm_ok (by decide +kernel) (by decide +kernel)
set_option maxRecDepth 1000000 in
set_option maxHeartbeats 16000000 in
theorem js_a_N_areNodes : ∀ q ∈ jt_N_areNodes, js_ie kN_areNodes q := js_okm_ok (by decide +kernel) (by decide +kernel)
set_option maxRecDepth 1000000 in
set_option maxHeartbeats 16000000 in
theorem js_a_N_isNode : ∀ q ∈ jt_N_isNode, js_ie kN_isNode q := js_okm_ok (by decide +kernel) (by decide +kernel)
set_option maxRecDepth 1000000 in
set_option maxHeartbeats 16000000 in
theorem js_a_X_rule : ∀ q ∈ jt_X_rule, js_ie kX_rule q := js_okm_ok (by decide +kernel) (by decide +kernel)
set_option maxRecDepth 1000000 in
set_option maxHeartbeats 16000000 in
theorem js_a_Wy_ruleBy : ∀ q ∈ jt_Wy_ruleBy, js_ie kWy_ruleBy q := js_okm_ok (by decide +kernel) (by decide +kernel)
set_option maxRecDepth 1000000 in
set_option maxHeartbeats 16000000 in
theorem js_a_X_bar : ∀ q ∈ jt_X_bar, js_ie kX_bar q := js_okm_ok (by decide +kernel) (by decide +kernel)
set_option maxRecDepth 1000000 in
set_option maxHeartbeats 16000000 in
theorem js_a_Wy_isBarred : ∀ q ∈ jt_Wy_isBarred, js_ie kWy_isBarred q := js_okm_ok (by decide +kernel) (by decide +kernel)
set_option maxRecDepth 1000000 in
set_option maxHeartbeats 16000000 in
theorem js_a_X_has : ∀ q ∈ jt_X_has, js_ie kX_has q := js_okm_ok (by decide +kernel) (by decide +kernel)
set_option maxRecDepth 1000000 in
set_option maxHeartbeats 16000000 in
theorem js_a_Wy_setBarred : ∀ q ∈ jt_Wy_setBarred, js_ie kWy_setBarred q := js_okm_ok (by decide +kernel) (by decide +kernel)
set_option maxRecDepth 1000000 in
set_option maxHeartbeats 16000000 in
theorem js_a_X_may : ∀ q ∈ jt_X_may, js_ie kX_may q := js_okm_ok (by decide +kernel) (by decide +kernel)
set_option maxRecDepth 1000000 in
set_option maxHeartbeats 16000000 in
theorem js_a_X_out : ∀ q ∈ jt_X_out, js_ie kX_out q := js_okm_ok (by decide +kernel) (by decide +kernel)
set_option maxRecDepth 1000000 in
set_option maxHeartbeats 16000000 in
theorem js_a_X_comes : ∀ q ∈ jt_X_comes, js_ie kX_comes q := js_okm_ok (by decide +kernel) (by decide +kernel)
set_option maxRecDepth 1000000 in
set_option maxHeartbeats 16000000 in
theorem js_a_Wa_howItComes : ∀ q ∈ jt_Wa_howItComes, js_ie kWa_howItComes q := js_okm_ok (by decide +kernel) (by decide +kernel)
set_option maxRecDepth 1000000 in
set_option maxHeartbeats 16000000 in
theorem js_a_Wa_reach : ∀ q ∈ jt_Wa_reach, js_ie kWa_reach q := js_okm_ok (by decide +kernel) (by decide +kernel)
set_option maxRecDepth 1000000 in
set_option maxHeartbeats 16000000 in
theorem js_a_Wa_endsWell : ∀ q ∈ jt_Wa_endsWell, js_ie kWa_endsWell q := js_okm_ok (by decide +kernel) (by decide +kernel)
set_option maxRecDepth 1000000 in
set_option maxHeartbeats 16000000 in
theorem js_a_X_knot : ∀ q ∈ jt_X_knot, js_ie kX_knot q := js_okm_ok (by decide +kernel) (by decide +kernel)
set_option maxRecDepth 1000000 in
set_option maxHeartbeats 16000000 in
theorem js_a_X_carries : ∀ q ∈ jt_X_carries, js_ie kX_carries q := js_okm_ok (by decide +kernel) (by decide +kernel)
set_option maxRecDepth 1000000 in
set_option maxHeartbeats 16000000 in
theorem js_a_Wa_work : ∀ q ∈ jt_Wa_work, js_ie kWa_work q := js_okm_ok (by decide +kernel) (by decide +kernel)
set_option maxRecDepth 1000000 in
set_option maxHeartbeats 16000000 in
theorem js_a_Wa_survey_0 : ∀ q ∈ jt_Wa_survey_0, js_ie kWa_survey q := js_okm_ok (by decide +kernel) (by decide +kernel)
set_option maxRecDepth 1000000 in
set_option maxHeartbeats 16000000 in
theorem js_a_Wa_survey_1 : ∀ q ∈ jt_Wa_survey_1, js_ie kWa_survey q := js_okm_ok (by decide +kernel) (by decide +kernel)
theorem js_a_Wa_survey : ∀ q ∈ jt_Wa_survey, js_ie kWa_survey q := fun q h => (List.mem_append.mp h).elim (fun h => js_a_Wa_survey_0 q h) (fun h => js_a_Wa_survey_1 q h)
set_option maxRecDepth 1000000 in
set_option maxHeartbeats 16000000 in
theorem js_a_Wa_findRing : ∀ q ∈ jt_Wa_findRing, js_ie kWa_findRing q := js_okm_ok (by decide +kernel) (by decide +kernel)
set_option maxRecDepth 1000000 in
set_option maxHeartbeats 16000000 in
theorem js_a_Wa_measureRing_0 : ∀ q ∈ jt_Wa_measureRing_0, js_ie kWa_measureRing q := js_okm_ok (by decide +kernel) (by decide +kernel)
set_option maxRecDepth 1000000 in
set_option maxHeartbeats 16000000 in
theorem js_a_Wa_measureRing_1 : ∀ q ∈ jt_Wa_measureRing_1, js_ie kWa_measureRing q := js_okm_ok (by decide +kernel) (by decide +kernel)
theorem js_a_Wa_measureRing : ∀ q ∈ jt_Wa_measureRing, js_ie kWa_measureRing q := fun q h => (List.mem_append.mp h).elim (fun h => js_a_Wa_measureRing_0 q h) (fun h => js_a_Wa_measureRing_1 q h)
set_option maxRecDepth 1000000 in
set_option maxHeartbeats 16000000 in
theorem js_a_Wa_layRing : ∀ q ∈ jt_Wa_layRing, js_ie kWa_layRing q := js_okm_ok (by decide +kernel) (by decide +kernel)
set_option maxRecDepth 1000000 in
set_option maxHeartbeats 16000000 in
theorem js_a_Wa_findRanks : ∀ q ∈ jt_Wa_findRanks, js_ie kWa_findRanks q := js_okm_ok (by decide +kernel) (by decide +kernel)
set_option maxRecDepth 1000000 in
set_option maxHeartbeats 16000000 in
theorem js_a_X_waits : ∀ q ∈ jt_X_waits, js_ie kX_waits q := js_okm_ok (by decide +kernel) (by decide +kernel)
set_option maxRecDepth 1000000 in
set_option maxHeartbeats 16000000 in
theorem js_a_X_ring : ∀ q ∈ jt_X_ring, js_ie kX_ring q := js_okm_ok (by decide +kernel) (by decide +kernel)
set_option maxRecDepth 1000000 in
set_option maxHeartbeats 16000000 in
theorem js_a_X_rank : ∀ q ∈ jt_X_rank, js_ie kX_rank q := js_okm_ok (by decide +kernel) (by decide +kernel)
set_option maxRecDepth 1000000 in
set_option maxHeartbeats 16000000 in
theorem js_a_X_still : ∀ q ∈ jt_X_still, js_ie kX_still q := js_okm_ok (by decide +kernel) (by decide +kernel)
set_option maxRecDepth 1000000 in
set_option maxHeartbeats 16000000 in
theorem js_a_Sl_work : ∀ q ∈ jt_Sl_work, js_ie kSl_work q := js_okm_ok (by decide +kernel) (by decide +kernel)
set_option maxRecDepth 1000000 in
set_option maxHeartbeats 16000000 in
theorem js_a_Sl_findNeeds : ∀ q ∈ jt_Sl_findNeeds, js_ie kSl_findNeeds q := js_okm_ok (by decide +kernel) (by decide +kernel)
set_option maxRecDepth 1000000 in
set_option maxHeartbeats 16000000 in
theorem js_a_Sl_findAll : ∀ q ∈ jt_Sl_findAll, js_ie kSl_findAll q := js_okm_ok (by decide +kernel) (by decide +kernel)
set_option maxRecDepth 1000000 in
set_option maxHeartbeats 16000000 in
theorem js_a_Sl_canStand : ∀ q ∈ jt_Sl_canStand, js_ie kSl_canStand q := js_okm_ok (by decide +kernel) (by decide +kernel)
set_option maxRecDepth 1000000 in
set_option maxHeartbeats 16000000 in
theorem js_a_Sl_findLeast : ∀ q ∈ jt_Sl_findLeast, js_ie kSl_findLeast q := js_okm_ok (by decide +kernel) (by decide +kernel)
set_option maxRecDepth 1000000 in
set_option maxHeartbeats 16000000 in
theorem js_a_In_bitCount : ∀ q ∈ jt_In_bitCount, js_ie kIn_bitCount q := js_okm_ok (by decide +kernel) (by decide +kernel)
set_option maxRecDepth 1000000 in
set_option maxHeartbeats 16000000 in
theorem js_a_Sl_stands : ∀ q ∈ jt_Sl_stands, js_ie kSl_stands q := js_okm_ok (by decide +kernel) (by decide +kernel)
set_option maxRecDepth 1000000 in
set_option maxHeartbeats 16000000 in
theorem js_a_X_states : ∀ q ∈ jt_X_states, js_ie kX_states q := js_okm_ok (by decide +kernel) (by decide +kernel)
set_option maxRecDepth 1000000 in
set_option maxHeartbeats 16000000 in
theorem js_a_Sa_fit : ∀ q ∈ jt_Sa_fit, js_ie kSa_fit q := js_okm_ok (by decide +kernel) (by decide +kernel)
set_option maxRecDepth 1000000 in
set_option maxHeartbeats 16000000 in
theorem js_a_Sa_work : ∀ q ∈ jt_Sa_work, js_ie kSa_work q := js_okm_ok (by decide +kernel) (by decide +kernel)
end
section
/-! ===== each method as the tables have it (written by a program), 1 ===== -/
set_option maxRecDepth 1000000 in
set_option maxHeartbeats 16000000 in
theorem js_a_Sa_prepare_0 : ∀ q ∈ jt_Sa_prepare_0, js_ie kSa_prepare q := js_okm_ok (by decide +kernel) (by decide +kernel)
set_option maxRecDepth 1000000 in
set_option maxHeartbeats 16000000 in
theorem js_a_Sa_prepare_1 : ∀ q ∈ jt_Sa_prepare_1, js_ie kSa_prepare q := js_okm_ok (by decide +kernel) (by decide +kernel)
theorem js_a_Sa_prepare : ∀ q ∈ jt_Sa_prepare, js_ie kSa_prepare q := fun q h => (List.mem_append.mp h).elim (fun h => js_a_Sa_prepare_0 q h) (fun h => js_a_Sa_prepare_1 q h)
set_option maxRecDepth 1000000 in
set_option maxHeartbeats 16000000 in
theorem js_a_Sa_reach : ∀ q ∈ jt_Sa_reach, js_ie kSa_reach q := js_okm_ok (by decide +kernel) (by decide +kernel)
set_option maxRecDepth 1000000 in
set_option maxHeartbeats 16000000 in
theorem js_a_Sa_visitAll : ∀ q ∈ jt_Sa_visitAll, js_ie kSa_visitAll q := js_okm_ok (by decide +kernel) (by decide +kernel)
set_option maxRecDepth 1000000 in
set_option maxHeartbeats 16000000 in
theorem js_a_In_numberOfTrailingZeros : ∀ q ∈ jt_In_numberOfTrailingZeros, js_ie kIn_numberOfTrailingZeros q := js_okm_ok (by decide +kernel) (by decide +kernel)
set_option maxRecDepth 1000000 in
set_option maxHeartbeats 16000000 in
theorem js_a_Sa_visit_0 : ∀ q ∈ jt_Sa_visit_0, js_ie kSa_visit q := js_okm_ok (by decide +kernel) (by decide +kernel)
set_option maxRecDepth 1000000 in
set_option maxHeartbeats 16000000 in
theorem js_a_Sa_visit_1 : ∀ q ∈ jt_Sa_visit_1, js_ie kSa_visit q := js_okm_ok (by decide +kernel) (by decide +kernel)
theorem js_a_Sa_visit : ∀ q ∈ jt_Sa_visit, js_ie kSa_visit q := fun q h => (List.mem_append.mp h).elim (fun h => js_a_Sa_visit_0 q h) (fun h => js_a_Sa_visit_1 q h)
set_option maxRecDepth 1000000 in
set_option maxHeartbeats 16000000 in
theorem js_a_Sa_isDead_0 : ∀ q ∈ jt_Sa_isDead_0, js_ie kSa_isDead q := js_okm_ok (by decide +kernel) (by decide +kernel)
set_option maxRecDepth 1000000 in
set_option maxHeartbeats 16000000 in
theorem js_a_Sa_isDead_1 : ∀ q ∈ jt_Sa_isDead_1, js_ie kSa_isDead q := js_okm_ok (by decide +kernel) (by decide +kernel)
theorem js_a_Sa_isDead : ∀ q ∈ jt_Sa_isDead, js_ie kSa_isDead q := fun q h => (List.mem_append.mp h).elim (fun h => js_a_Sa_isDead_0 q h) (fun h => js_a_Sa_isDead_1 q h)
set_option maxRecDepth 1000000 in
set_option maxHeartbeats 16000000 in
theorem js_a_Sa_setOut : ∀ q ∈ jt_Sa_setOut, js_ie kSa_setOut q := js_okm_ok (by decide +kernel) (by decide +kernel)
set_option maxRecDepth 1000000 in
set_option maxHeartbeats 16000000 in
theorem js_a_Sa_goOn_0 : ∀ q ∈ jt_Sa_goOn_0, js_ie kSa_goOn q := js_okm_ok (by decide +kernel) (by decide +kernel)
set_option maxRecDepth 1000000 in
set_option maxHeartbeats 16000000 in
theorem js_a_Sa_goOn_1 : ∀ q ∈ jt_Sa_goOn_1, js_ie kSa_goOn q := js_okm_ok (by decide +kernel) (by decide +kernel)
theorem js_a_Sa_goOn : ∀ q ∈ jt_Sa_goOn, js_ie kSa_goOn q := fun q h => (List.mem_append.mp h).elim (fun h => js_a_Sa_goOn_0 q h) (fun h => js_a_Sa_goOn_1 q h)
set_option maxRecDepth 1000000 in
set_option maxHeartbeats 16000000 in
theorem js_a_X_send : ∀ q ∈ jt_X_send, js_ie kX_send q := js_okm_ok (by decide +kernel) (by decide +kernel)
set_option maxRecDepth 1000000 in
set_option maxHeartbeats 16000000 in
theorem js_a_X_isKind : ∀ q ∈ jt_X_isKind, js_ie kX_isKind q := js_okm_ok (by decide +kernel) (by decide +kernel)
set_option maxRecDepth 1000000 in
set_option maxHeartbeats 16000000 in
theorem js_a_Tr_choose : ∀ q ∈ jt_Tr_choose, js_ie kTr_choose q := js_okm_ok (by decide +kernel) (by decide +kernel)
set_option maxRecDepth 1000000 in
set_option maxHeartbeats 16000000 in
theorem js_a_Tr_hasRoom : ∀ q ∈ jt_Tr_hasRoom, js_ie kTr_hasRoom q := js_okm_ok (by decide +kernel) (by decide +kernel)
set_option maxRecDepth 1000000 in
set_option maxHeartbeats 16000000 in
theorem js_a_Tr_setOut : ∀ q ∈ jt_Tr_setOut, js_ie kTr_setOut q := js_okm_ok (by decide +kernel) (by decide +kernel)
set_option maxRecDepth 1000000 in
set_option maxHeartbeats 16000000 in
theorem js_a_Ld_init : ∀ q ∈ jt_Ld_init, js_ie kLd_init q := js_okm_ok (by decide +kernel) (by decide +kernel)
set_option maxRecDepth 1000000 in
set_option maxHeartbeats 16000000 in
theorem js_a_Tr_enter : ∀ q ∈ jt_Tr_enter, js_ie kTr_enter q := js_okm_ok (by decide +kernel) (by decide +kernel)
set_option maxRecDepth 1000000 in
set_option maxHeartbeats 16000000 in
theorem js_a_X_ticks : ∀ q ∈ jt_X_ticks, js_ie kX_ticks q := js_okm_ok (by decide +kernel) (by decide +kernel)
set_option maxRecDepth 1000000 in
set_option maxHeartbeats 16000000 in
theorem js_a_Tr_tickOnce : ∀ q ∈ jt_Tr_tickOnce, js_ie kTr_tickOnce q := js_okm_ok (by decide +kernel) (by decide +kernel)
set_option maxRecDepth 1000000 in
set_option maxHeartbeats 16000000 in
theorem js_a_Tr_moveFirsts : ∀ q ∈ jt_Tr_moveFirsts, js_ie kTr_moveFirsts q := js_okm_ok (by decide +kernel) (by decide +kernel)
set_option maxRecDepth 1000000 in
set_option maxHeartbeats 16000000 in
theorem js_a_Tr_numbered : ∀ q ∈ jt_Tr_numbered, js_ie kTr_numbered q := js_okm_ok (by decide +kernel) (by decide +kernel)
set_option maxRecDepth 1000000 in
set_option maxHeartbeats 16000000 in
theorem js_a_Tr_moves_0 : ∀ q ∈ jt_Tr_moves_0, js_ie kTr_moves q := js_okm_ok (by decide +kernel) (by decide +kernel)
set_option maxRecDepth 1000000 in
set_option maxHeartbeats 16000000 in
theorem js_a_Tr_moves_1 : ∀ q ∈ jt_Tr_moves_1, js_ie kTr_moves q := js_okm_ok (by decide +kernel) (by decide +kernel)
theorem js_a_Tr_moves : ∀ q ∈ jt_Tr_moves, js_ie kTr_moves q := fun q h => (List.mem_append.mp h).elim (fun h => js_a_Tr_moves_0 q h) (fun h => js_a_Tr_moves_1 q h)
set_option maxRecDepth 1000000 in
set_option maxHeartbeats 16000000 in
theorem js_a_X_ofLoad : ∀ q ∈ jt_X_ofLoad, js_ie kX_ofLoad q := js_okm_ok (by decide +kernel) (by decide +kernel)
set_option maxRecDepth 1000000 in
set_option maxHeartbeats 16000000 in
theorem js_a_X_frozen : ∀ q ∈ jt_X_frozen, js_ie kX_frozen q := js_okm_ok (by decide +kernel) (by decide +kernel)
set_option maxRecDepth 1000000 in
set_option maxHeartbeats 16000000 in
theorem js_a_Tr_frozenSet_0 : ∀ q ∈ jt_Tr_frozenSet_0, js_ie kTr_frozenSet q := js_okm_ok (by decide +kernel) (by decide +kernel)
set_option maxRecDepth 1000000 in
set_option maxHeartbeats 16000000 in
theorem js_a_Tr_frozenSet_1 : ∀ q ∈ jt_Tr_frozenSet_1, js_ie kTr_frozenSet q := js_okm_ok (by decide +kernel) (by decide +kernel)
theorem js_a_Tr_frozenSet : ∀ q ∈ jt_Tr_frozenSet, js_ie kTr_frozenSet q := fun q h => (List.mem_append.mp h).elim (fun h => js_a_Tr_frozenSet_0 q h) (fun h => js_a_Tr_frozenSet_1 q h)
set_option maxRecDepth 1000000 in
set_option maxHeartbeats 16000000 in
theorem js_a_Tr_thaw : ∀ q ∈ jt_Tr_thaw, js_ie kTr_thaw q := js_okm_ok (by decide +kernel) (by decide +kernel)
set_option maxRecDepth 1000000 in
set_option maxHeartbeats 16000000 in
theorem js_a_Tr_isHeld : ∀ q ∈ jt_Tr_isHeld, js_ie kTr_isHeld q := js_okm_ok (by decide +kernel) (by decide +kernel)
set_option maxRecDepth 1000000 in
set_option maxHeartbeats 16000000 in
theorem js_a_In_lowestOneBit : ∀ q ∈ jt_In_lowestOneBit, js_ie kIn_lowestOneBit q := js_okm_ok (by decide +kernel) (by decide +kernel)
set_option maxRecDepth 1000000 in
set_option maxHeartbeats 16000000 in
theorem js_a_X_mend : ∀ q ∈ jt_X_mend, js_ie kX_mend q := js_okm_ok (by decide +kernel) (by decide +kernel)
set_option maxRecDepth 1000000 in
set_option maxHeartbeats 16000000 in
theorem js_a_M_work : ∀ q ∈ jt_M_work, js_ie kM_work q := js_okm_ok (by decide +kernel) (by decide +kernel)
set_option maxRecDepth 1000000 in
set_option maxHeartbeats 16000000 in
theorem js_a_Wy_takeFrom : ∀ q ∈ jt_Wy_takeFrom, js_ie kWy_takeFrom q := js_okm_ok (by decide +kernel) (by decide +kernel)
set_option maxRecDepth 1000000 in
set_option maxHeartbeats 16000000 in
theorem js_a_M_gather : ∀ q ∈ jt_M_gather, js_ie kM_gather q := js_okm_ok (by decide +kernel) (by decide +kernel)
set_option maxRecDepth 1000000 in
set_option maxHeartbeats 16000000 in
theorem js_a_M_isFound_0 : ∀ q ∈ jt_M_isFound_0, js_ie kM_isFound q := js_okm_ok (by decide +kernel) (by decide +kernel)
set_option maxRecDepth 1000000 in
set_option maxHeartbeats 16000000 in
theorem js_a_M_isFound_1 : ∀ q ∈ jt_M_isFound_1, js_ie kM_isFound q := js_okm_ok (by decide +kernel) (by decide +kernel)
theorem js_a_M_isFound : ∀ q ∈ jt_M_isFound, js_ie kM_isFound q := fun q h => (List.mem_append.mp h).elim (fun h => js_a_M_isFound_0 q h) (fun h => js_a_M_isFound_1 q h)
set_option maxRecDepth 1000000 in
set_option maxHeartbeats 16000000 in
theorem js_a_M_setTried : ∀ q ∈ jt_M_setTried, js_ie kM_setTried q := js_okm_ok (by decide +kernel) (by decide +kernel)
set_option maxRecDepth 1000000 in
set_option maxHeartbeats 16000000 in
theorem js_a_Wa_isSound : ∀ q ∈ jt_Wa_isSound, js_ie kWa_isSound q := js_okm_ok (by decide +kernel) (by decide +kernel)
set_option maxRecDepth 1000000 in
set_option maxHeartbeats 16000000 in
theorem js_a_X_bears : ∀ q ∈ jt_X_bears, js_ie kX_bears q := js_okm_ok (by decide +kernel) (by decide +kernel)
set_option maxRecDepth 1000000 in
set_option maxHeartbeats 16000000 in
theorem js_a_B_work : ∀ q ∈ jt_B_work, js_ie kB_work q := js_okm_ok (by decide +kernel) (by decide +kernel)
set_option maxRecDepth 1000000 in
set_option maxHeartbeats 16000000 in
theorem js_a_Ar_fillJ : ∀ q ∈ jt_Ar_fillJ, js_ie kAr_fillJ q := js_okm_ok (by decide +kernel) (by decide +kernel)
set_option maxRecDepth 1000000 in
set_option maxHeartbeats 16000000 in
theorem js_a_B_pour_0 : ∀ q ∈ jt_B_pour_0, js_ie kB_pour q := js_okm_ok (by decide +kernel) (by decide +kernel)
set_option maxRecDepth 1000000 in
set_option maxHeartbeats 16000000 in
theorem js_a_B_pour_1 : ∀ q ∈ jt_B_pour_1, js_ie kB_pour q := js_okm_ok (by decide +kernel) (by decide +kernel)
theorem js_a_B_pour : ∀ q ∈ jt_B_pour, js_ie kB_pour q := fun q h => (List.mem_append.mp h).elim (fun h => js_a_B_pour_0 q h) (fun h => js_a_B_pour_1 q h)
set_option maxRecDepth 1000000 in
set_option maxHeartbeats 16000000 in
theorem js_a_B_spread : ∀ q ∈ jt_B_spread, js_ie kB_spread q := js_okm_ok (by decide +kernel) (by decide +kernel)
set_option maxRecDepth 1000000 in
set_option maxHeartbeats 16000000 in
theorem js_a_B_add : ∀ q ∈ jt_B_add, js_ie kB_add q := js_okm_ok (by decide +kernel) (by decide +kernel)
set_option maxRecDepth 1000000 in
set_option maxHeartbeats 16000000 in
theorem js_a_B_commonDivisor : ∀ q ∈ jt_B_commonDivisor, js_ie kB_commonDivisor q := js_okm_ok (by decide +kernel) (by decide +kernel)
set_option maxRecDepth 1000000 in
set_option maxHeartbeats 16000000 in
theorem js_a_B_ledToFrom : ∀ q ∈ jt_B_ledToFrom, js_ie kB_ledToFrom q := js_okm_ok (by decide +kernel) (by decide +kernel)
set_option maxRecDepth 1000000 in
set_option maxHeartbeats 16000000 in
theorem js_a_X_busiest : ∀ q ∈ jt_X_busiest, js_ie kX_busiest q := js_okm_ok (by decide +kernel) (by decide +kernel)
set_option maxRecDepth 1000000 in
set_option maxHeartbeats 16000000 in
theorem js_a_B_greatest : ∀ q ∈ jt_B_greatest, js_ie kB_greatest q := js_okm_ok (by decide +kernel) (by decide +kernel)
set_option maxRecDepth 1000000 in
set_option maxHeartbeats 16000000 in
theorem js_a_X_sheet : ∀ q ∈ jt_X_sheet, js_ie kX_sheet q := js_okm_ok (by decide +kernel) (by decide +kernel)
set_option maxRecDepth 1000000 in
set_option maxHeartbeats 16000000 in
theorem js_a_Sh_renew : ∀ q ∈ jt_Sh_renew, js_ie kSh_renew q := js_okm_ok (by decide +kernel) (by decide +kernel)
set_option maxRecDepth 1000000 in
set_option maxHeartbeats 16000000 in
theorem js_a_X_lose : ∀ q ∈ jt_X_lose, js_ie kX_lose q := js_okm_ok (by decide +kernel) (by decide +kernel)
set_option maxRecDepth 1000000 in
set_option maxHeartbeats 16000000 in
theorem js_a_Sh_drop : ∀ q ∈ jt_Sh_drop, js_ie kSh_drop q := js_okm_ok (by decide +kernel) (by decide +kernel)
set_option maxRecDepth 1000000 in
set_option maxHeartbeats 16000000 in
theorem js_a_X_put : ∀ q ∈ jt_X_put, js_ie kX_put q := js_okm_ok (by decide +kernel) (by decide +kernel)
set_option maxRecDepth 1000000 in
set_option maxHeartbeats 16000000 in
theorem js_a_Sh_hasCell : ∀ q ∈ jt_Sh_hasCell, js_ie kSh_hasCell q := js_okm_ok (by decide +kernel) (by decide +kernel)
set_option maxRecDepth 1000000 in
set_option maxHeartbeats 16000000 in
theorem js_a_Sh_cut : ∀ q ∈ jt_Sh_cut, js_ie kSh_cut q := js_okm_ok (by decide +kernel) (by decide +kernel)
set_option maxRecDepth 1000000 in
set_option maxHeartbeats 16000000 in
theorem js_a_X_cell : ∀ q ∈ jt_X_cell, js_ie kX_cell q := js_okm_ok (by decide +kernel) (by decide +kernel)
set_option maxRecDepth 1000000 in
set_option maxHeartbeats 16000000 in
theorem js_a_X_lost : ∀ q ∈ jt_X_lost, js_ie kX_lost q := js_okm_ok (by decide +kernel) (by decide +kernel)
set_option maxRecDepth 1000000 in
set_option maxHeartbeats 16000000 in
theorem js_a_X_copy_0 : ∀ q ∈ jt_X_copy_0, js_ie kX_copy q := js_okm_ok (by decide +kernel) (by decide +kernel)
set_option maxRecDepth 1000000 in
set_option maxHeartbeats 16000000 in
theorem js_a_X_copy_1 : ∀ q ∈ jt_X_copy_1, js_ie kX_copy q := js_okm_ok (by decide +kernel) (by decide +kernel)
theorem js_a_X_copy : ∀ q ∈ jt_X_copy, js_ie kX_copy q := fun q h => (List.mem_append.mp h).elim (fun h => js_a_X_copy_0 q h) (fun h => js_a_X_copy_1 q h)
set_option maxRecDepth 1000000 in
set_option maxHeartbeats 16000000 in
theorem js_a_X_tell : ∀ q ∈ jt_X_tell, js_ie kX_tell q := js_okm_ok (by decide +kernel) (by decide +kernel)
set_option maxRecDepth 1000000 in
set_option maxHeartbeats 16000000 in
theorem js_a_X_sealedTelling : ∀ q ∈ jt_X_sealedTelling, js_ie kX_sealedTelling q := js_okm_ok (by decide +kernel) (by decide +kernel)
set_option maxRecDepth 1000000 in
set_option maxHeartbeats 16000000 in
theorem js_a_X_leave : ∀ q ∈ jt_X_leave, js_ie kX_leave q := js_okm_ok (by decide +kernel) (by decide +kernel)
set_option maxRecDepth 1000000 in
set_option maxHeartbeats 16000000 in
theorem js_a_X_hastyTelling : ∀ q ∈ jt_X_hastyTelling, js_ie kX_hastyTelling q := js_okm_ok (by decide +kernel) (by decide +kernel)
set_option maxRecDepth 1000000 in
set_option maxHeartbeats 16000000 in
theorem js_a_X_plainTelling : ∀ q ∈ jt_X_plainTelling, js_ie kX_plainTelling q := js_okm_ok (by decide +kernel) (by decide +kernel)
set_option maxRecDepth 1000000 in
set_option maxHeartbeats 16000000 in
theorem js_a_X_stamp : ∀ q ∈ jt_X_stamp, js_ie kX_stamp q := js_okm_ok (by decide +kernel) (by decide +kernel)
set_option maxRecDepth 1000000 in
set_option maxHeartbeats 16000000 in
theorem js_a_X_ownStamp : ∀ q ∈ jt_X_ownStamp, js_ie kX_ownStamp q := js_okm_ok (by decide +kernel) (by decide +kernel)
set_option maxRecDepth 1000000 in
set_option maxHeartbeats 16000000 in
theorem js_a_X_lentStamp : ∀ q ∈ jt_X_lentStamp, js_ie kX_lentStamp q := js_okm_ok (by decide +kernel) (by decide +kernel)
set_option maxRecDepth 1000000 in
set_option maxHeartbeats 16000000 in
theorem js_a_X_as : ∀ q ∈ jt_X_as, js_ie kX_as q := js_okm_ok (by decide +kernel) (by decide +kernel)
set_option maxRecDepth 1000000 in
set_option maxHeartbeats 16000000 in
theorem js_a_X_trace : ∀ q ∈ jt_X_trace, js_ie kX_trace q := js_okm_ok (by decide +kernel) (by decide +kernel)
set_option maxRecDepth 1000000 in
set_option maxHeartbeats 16000000 in
theorem js_a_X_fault : ∀ q ∈ jt_X_fault, js_ie kX_fault q := js_okm_ok (by decide +kernel) (by decide +kernel)
set_option maxRecDepth 1000000 in
set_option maxHeartbeats 16000000 in
theorem js_a_X_many : ∀ q ∈ jt_X_many, js_ie kX_many q := js_okm_ok (by decide +kernel) (by decide +kernel)
set_option maxRecDepth 1000000 in
set_option maxHeartbeats 16000000 in
theorem js_a_Tr_countInLanes : ∀ q ∈ jt_Tr_countInLanes, js_ie kTr_countInLanes q := js_okm_ok (by decide +kernel) (by decide +kernel)
set_option maxRecDepth 1000000 in
set_option maxHeartbeats 16000000 in
theorem js_a_Wy_countBarred : ∀ q ∈ jt_Wy_countBarred, js_ie kWy_countBarred q := js_okm_ok (by decide +kernel) (by decide +kernel)
set_option maxRecDepth 1000000 in
set_option maxHeartbeats 16000000 in
theorem js_a_Y_init_0 : ∀ q ∈ jt_Y_init_0, js_ie kY_init q := js_okm_ok (by decide +kernel) (by decide +kernel)
set_option maxRecDepth 1000000 in
set_option maxHeartbeats 16000000 in
theorem js_a_Y_init_1 : ∀ q ∈ jt_Y_init_1, js_ie kY_init q := js_okm_ok (by decide +kernel) (by decide +kernel)
set_option maxRecDepth 1000000 in
set_option maxHeartbeats 16000000 in
theorem js_a_Y_init_2 : ∀ q ∈ jt_Y_init_2, js_ie kY_init q := js_okm_ok (by decide +kernel) (by decide +kernel)
theorem js_a_Y_init : ∀ q ∈ jt_Y_init, js_ie kY_init q := fun q h => (List.mem_append.mp h).elim (fun h => js_a_Y_init_0 q h) (fun h => (List.mem_append.mp h).elim (fun h => js_a_Y_init_1 q h) (fun h => js_a_Y_init_2 q h))
end
section
/-! ===== each method as the tables have it (written by a program), 2 ===== -/
set_option maxRecDepth 1000000 in
set_option maxHeartbeats 16000000 in
theorem js_a_Y_net_0 : ∀ q ∈ jt_Y_net_0, js_ie kY_net q := js_okm_ok (by decide +kernel) (by decide +kernel)
set_option maxRecDepth 1000000 in
set_option maxHeartbeats 16000000 in
theorem js_a_Y_net_1 : ∀ q ∈ jt_Y_net_1, js_ie kY_net q := js_okm_ok (by decide +kernel) (by decide +kernel)
set_option maxRecDepth 1000000 in
set_option maxHeartbeats 16000000 in
theorem js_a_Y_net_2 : ∀ q ∈ jt_Y_net_2, js_ie kY_net q := js_okm_ok (by decide +kernel) (by decide +kernel)
theorem js_a_Y_net : ∀ q ∈ jt_Y_net, js_ie kY_net q := fun q h => (List.mem_append.mp h).elim (fun h => js_a_Y_net_0 q h) (fun h => (List.mem_append.mp h).elim (fun h => js_a_Y_net_1 q h) (fun h => js_a_Y_net_2 q h))
set_option maxRecDepth 1000000 in
set_option maxHeartbeats 16000000 in
theorem js_a_Y_isSheet : ∀ q ∈ jt_Y_isSheet, js_ie kY_isSheet q := js_okm_ok (by decide +kernel) (by decide +kernel)
set_option maxRecDepth 1000000 in
set_option maxHeartbeats 16000000 in
theorem js_a_Y_within : ∀ q ∈ jt_Y_within, js_ie kY_within q := js_okm_ok (by decide +kernel) (by decide +kernel)
set_option maxRecDepth 1000000 in
set_option maxHeartbeats 16000000 in
theorem js_a_Y_isSort : ∀ q ∈ jt_Y_isSort, js_ie kY_isSort q := js_okm_ok (by decide +kernel) (by decide +kernel)
set_option maxRecDepth 1000000 in
set_option maxHeartbeats 16000000 in
theorem js_a_Y_fails : ∀ q ∈ jt_Y_fails, js_ie kY_fails q := js_okm_ok (by decide +kernel) (by decide +kernel)
set_option maxRecDepth 1000000 in
set_option maxHeartbeats 16000000 in
theorem js_a_Y_readNet_0 : ∀ q ∈ jt_Y_readNet_0, js_ie kY_readNet q := js_okm_ok (by decide +kernel) (by decide +kernel)
set_option maxRecDepth 1000000 in
set_option maxHeartbeats 16000000 in
theorem js_a_Y_readNet_1 : ∀ q ∈ jt_Y_readNet_1, js_ie kY_readNet q := js_okm_ok (by decide +kernel) (by decide +kernel)
set_option maxRecDepth 1000000 in
set_option maxHeartbeats 16000000 in
theorem js_a_Y_readNet_2 : ∀ q ∈ jt_Y_readNet_2, js_ie kY_readNet q := js_okm_ok (by decide +kernel) (by decide +kernel)
theorem js_a_Y_readNet : ∀ q ∈ jt_Y_readNet, js_ie kY_readNet q := fun q h => (List.mem_append.mp h).elim (fun h => js_a_Y_readNet_0 q h) (fun h => (List.mem_append.mp h).elim (fun h => js_a_Y_readNet_1 q h) (fun h => js_a_Y_readNet_2 q h))
set_option maxRecDepth 1000000 in
set_option maxHeartbeats 16000000 in
theorem js_a_Y_digitAt : ∀ q ∈ jt_Y_digitAt, js_ie kY_digitAt q := js_okm_ok (by decide +kernel) (by decide +kernel)
set_option maxRecDepth 1000000 in
set_option maxHeartbeats 16000000 in
theorem js_a_Y_layFar_0 : ∀ q ∈ jt_Y_layFar_0, js_ie kY_layFar q := js_okm_ok (by decide +kernel) (by decide +kernel)
set_option maxRecDepth 1000000 in
set_option maxHeartbeats 16000000 in
theorem js_a_Y_layFar_1 : ∀ q ∈ jt_Y_layFar_1, js_ie kY_layFar q := js_okm_ok (by decide +kernel) (by decide +kernel)
theorem js_a_Y_layFar : ∀ q ∈ jt_Y_layFar, js_ie kY_layFar q := fun q h => (List.mem_append.mp h).elim (fun h => js_a_Y_layFar_0 q h) (fun h => js_a_Y_layFar_1 q h)
set_option maxRecDepth 1000000 in
set_option maxHeartbeats 16000000 in
theorem js_a_Y_ofLane : ∀ q ∈ jt_Y_ofLane, js_ie kY_ofLane q := js_okm_ok (by decide +kernel) (by decide +kernel)
set_option maxRecDepth 1000000 in
set_option maxHeartbeats 16000000 in
theorem js_a_Y_isLane : ∀ q ∈ jt_Y_isLane, js_ie kY_isLane q := js_okm_ok (by decide +kernel) (by decide +kernel)
set_option maxRecDepth 1000000 in
set_option maxHeartbeats 16000000 in
theorem js_a_Y_far : ∀ q ∈ jt_Y_far, js_ie kY_far q := js_okm_ok (by decide +kernel) (by decide +kernel)
set_option maxRecDepth 1000000 in
set_option maxHeartbeats 16000000 in
theorem js_a_Y_isNode : ∀ q ∈ jt_Y_isNode, js_ie kY_isNode q := js_okm_ok (by decide +kernel) (by decide +kernel)
set_option maxRecDepth 1000000 in
set_option maxHeartbeats 16000000 in
theorem js_a_Y_rule : ∀ q ∈ jt_Y_rule, js_ie kY_rule q := js_okm_ok (by decide +kernel) (by decide +kernel)
set_option maxRecDepth 1000000 in
set_option maxHeartbeats 16000000 in
theorem js_a_Y_bar_0 : ∀ q ∈ jt_Y_bar_0, js_ie kY_bar q := js_okm_ok (by decide +kernel) (by decide +kernel)
set_option maxRecDepth 1000000 in
set_option maxHeartbeats 16000000 in
theorem js_a_Y_bar_1 : ∀ q ∈ jt_Y_bar_1, js_ie kY_bar q := js_okm_ok (by decide +kernel) (by decide +kernel)
theorem js_a_Y_bar : ∀ q ∈ jt_Y_bar, js_ie kY_bar q := fun q h => (List.mem_append.mp h).elim (fun h => js_a_Y_bar_0 q h) (fun h => js_a_Y_bar_1 q h)
set_option maxRecDepth 1000000 in
set_option maxHeartbeats 16000000 in
theorem js_a_Y_may : ∀ q ∈ jt_Y_may, js_ie kY_may q := js_okm_ok (by decide +kernel) (by decide +kernel)
set_option maxRecDepth 1000000 in
set_option maxHeartbeats 16000000 in
theorem js_a_Y_takes_0 : ∀ q ∈ jt_Y_takes_0, js_ie kY_takes q := js_okm_ok (by decide +kernel) (by decide +kernel)
set_option maxRecDepth 1000000 in
set_option maxHeartbeats 16000000 in
theorem js_a_Y_takes_1 : ∀ q ∈ jt_Y_takes_1, js_ie kY_takes q := js_okm_ok (by decide +kernel) (by decide +kernel)
theorem js_a_Y_takes : ∀ q ∈ jt_Y_takes, js_ie kY_takes q := fun q h => (List.mem_append.mp h).elim (fun h => js_a_Y_takes_0 q h) (fun h => js_a_Y_takes_1 q h)
set_option maxRecDepth 1000000 in
set_option maxHeartbeats 16000000 in
theorem js_a_Y_has : ∀ q ∈ jt_Y_has, js_ie kY_has q := js_okm_ok (by decide +kernel) (by decide +kernel)
set_option maxRecDepth 1000000 in
set_option maxHeartbeats 16000000 in
theorem js_a_Y_out : ∀ q ∈ jt_Y_out, js_ie kY_out q := js_okm_ok (by decide +kernel) (by decide +kernel)
set_option maxRecDepth 1000000 in
set_option maxHeartbeats 16000000 in
theorem js_a_Y_comes : ∀ q ∈ jt_Y_comes, js_ie kY_comes q := js_okm_ok (by decide +kernel) (by decide +kernel)
set_option maxRecDepth 1000000 in
set_option maxHeartbeats 16000000 in
theorem js_a_Y_comesBy_0 : ∀ q ∈ jt_Y_comesBy_0, js_ie kY_comesBy q := js_okm_ok (by decide +kernel) (by decide +kernel)
set_option maxRecDepth 1000000 in
set_option maxHeartbeats 16000000 in
theorem js_a_Y_comesBy_1 : ∀ q ∈ jt_Y_comesBy_1, js_ie kY_comesBy q := js_okm_ok (by decide +kernel) (by decide +kernel)
theorem js_a_Y_comesBy : ∀ q ∈ jt_Y_comesBy, js_ie kY_comesBy q := fun q h => (List.mem_append.mp h).elim (fun h => js_a_Y_comesBy_0 q h) (fun h => js_a_Y_comesBy_1 q h)
set_option maxRecDepth 1000000 in
set_option maxHeartbeats 16000000 in
theorem js_a_Y_comesInto : ∀ q ∈ jt_Y_comesInto, js_ie kY_comesInto q := js_okm_ok (by decide +kernel) (by decide +kernel)
set_option maxRecDepth 1000000 in
set_option maxHeartbeats 16000000 in
theorem js_a_Y_goesRound : ∀ q ∈ jt_Y_goesRound, js_ie kY_goesRound q := js_okm_ok (by decide +kernel) (by decide +kernel)
set_option maxRecDepth 1000000 in
set_option maxHeartbeats 16000000 in
theorem js_a_Y_carries : ∀ q ∈ jt_Y_carries, js_ie kY_carries q := js_okm_ok (by decide +kernel) (by decide +kernel)
set_option maxRecDepth 1000000 in
set_option maxHeartbeats 16000000 in
theorem js_a_Y_layCarried_0 : ∀ q ∈ jt_Y_layCarried_0, js_ie kY_layCarried q := js_okm_ok (by decide +kernel) (by decide +kernel)
set_option maxRecDepth 1000000 in
set_option maxHeartbeats 16000000 in
theorem js_a_Y_layCarried_1 : ∀ q ∈ jt_Y_layCarried_1, js_ie kY_layCarried q := js_okm_ok (by decide +kernel) (by decide +kernel)
theorem js_a_Y_layCarried : ∀ q ∈ jt_Y_layCarried, js_ie kY_layCarried q := fun q h => (List.mem_append.mp h).elim (fun h => js_a_Y_layCarried_0 q h) (fun h => js_a_Y_layCarried_1 q h)
set_option maxRecDepth 1000000 in
set_option maxHeartbeats 16000000 in
theorem js_a_Y_waits : ∀ q ∈ jt_Y_waits, js_ie kY_waits q := js_okm_ok (by decide +kernel) (by decide +kernel)
set_option maxRecDepth 1000000 in
set_option maxHeartbeats 16000000 in
theorem js_a_Y_layWaiting : ∀ q ∈ jt_Y_layWaiting, js_ie kY_layWaiting q := js_okm_ok (by decide +kernel) (by decide +kernel)
set_option maxRecDepth 1000000 in
set_option maxHeartbeats 16000000 in
theorem js_a_Y_ring : ∀ q ∈ jt_Y_ring, js_ie kY_ring q := js_okm_ok (by decide +kernel) (by decide +kernel)
set_option maxRecDepth 1000000 in
set_option maxHeartbeats 16000000 in
theorem js_a_Y_hasRing : ∀ q ∈ jt_Y_hasRing, js_ie kY_hasRing q := js_okm_ok (by decide +kernel) (by decide +kernel)
set_option maxRecDepth 1000000 in
set_option maxHeartbeats 16000000 in
theorem js_a_Y_findRing_0 : ∀ q ∈ jt_Y_findRing_0, js_ie kY_findRing q := js_okm_ok (by decide +kernel) (by decide +kernel)
set_option maxRecDepth 1000000 in
set_option maxHeartbeats 16000000 in
theorem js_a_Y_findRing_1 : ∀ q ∈ jt_Y_findRing_1, js_ie kY_findRing q := js_okm_ok (by decide +kernel) (by decide +kernel)
theorem js_a_Y_findRing : ∀ q ∈ jt_Y_findRing, js_ie kY_findRing q := fun q h => (List.mem_append.mp h).elim (fun h => js_a_Y_findRing_0 q h) (fun h => js_a_Y_findRing_1 q h)
set_option maxRecDepth 1000000 in
set_option maxHeartbeats 16000000 in
theorem js_a_Y_isAhead : ∀ q ∈ jt_Y_isAhead, js_ie kY_isAhead q := js_okm_ok (by decide +kernel) (by decide +kernel)
set_option maxRecDepth 1000000 in
set_option maxHeartbeats 16000000 in
theorem js_a_Y_rank_0 : ∀ q ∈ jt_Y_rank_0, js_ie kY_rank q := js_okm_ok (by decide +kernel) (by decide +kernel)
set_option maxRecDepth 1000000 in
set_option maxHeartbeats 16000000 in
theorem js_a_Y_rank_1 : ∀ q ∈ jt_Y_rank_1, js_ie kY_rank q := js_okm_ok (by decide +kernel) (by decide +kernel)
theorem js_a_Y_rank : ∀ q ∈ jt_Y_rank, js_ie kY_rank q := fun q h => (List.mem_append.mp h).elim (fun h => js_a_Y_rank_0 q h) (fun h => js_a_Y_rank_1 q h)
set_option maxRecDepth 1000000 in
set_option maxHeartbeats 16000000 in
theorem js_a_Y_still : ∀ q ∈ jt_Y_still, js_ie kY_still q := js_okm_ok (by decide +kernel) (by decide +kernel)
set_option maxRecDepth 1000000 in
set_option maxHeartbeats 16000000 in
theorem js_a_Y_allStill : ∀ q ∈ jt_Y_allStill, js_ie kY_allStill q := js_okm_ok (by decide +kernel) (by decide +kernel)
set_option maxRecDepth 1000000 in
set_option maxHeartbeats 16000000 in
theorem js_a_Y_standsStill : ∀ q ∈ jt_Y_standsStill, js_ie kY_standsStill q := js_okm_ok (by decide +kernel) (by decide +kernel)
set_option maxRecDepth 1000000 in
set_option maxHeartbeats 16000000 in
theorem js_a_Y_bitsOf : ∀ q ∈ jt_Y_bitsOf, js_ie kY_bitsOf q := js_okm_ok (by decide +kernel) (by decide +kernel)
set_option maxRecDepth 1000000 in
set_option maxHeartbeats 16000000 in
theorem js_a_Y_isStill : ∀ q ∈ jt_Y_isStill, js_ie kY_isStill q := js_okm_ok (by decide +kernel) (by decide +kernel)
set_option maxRecDepth 1000000 in
set_option maxHeartbeats 16000000 in
theorem js_a_Y_states_0 : ∀ q ∈ jt_Y_states_0, js_ie kY_states q := js_okm_ok (by decide +kernel) (by decide +kernel)
set_option maxRecDepth 1000000 in
set_option maxHeartbeats 16000000 in
theorem js_a_Y_states_1 : ∀ q ∈ jt_Y_states_1, js_ie kY_states q := js_okm_ok (by decide +kernel) (by decide +kernel)
theorem js_a_Y_states : ∀ q ∈ jt_Y_states, js_ie kY_states q := fun q h => (List.mem_append.mp h).elim (fun h => js_a_Y_states_0 q h) (fun h => js_a_Y_states_1 q h)
set_option maxRecDepth 1000000 in
set_option maxHeartbeats 16000000 in
theorem js_a_Y_isSmall : ∀ q ∈ jt_Y_isSmall, js_ie kY_isSmall q := js_okm_ok (by decide +kernel) (by decide +kernel)
set_option maxRecDepth 1000000 in
set_option maxHeartbeats 16000000 in
theorem js_a_Y_enter : ∀ q ∈ jt_Y_enter, js_ie kY_enter q := js_okm_ok (by decide +kernel) (by decide +kernel)
set_option maxRecDepth 1000000 in
set_option maxHeartbeats 16000000 in
theorem js_a_Y_stepFrom_0 : ∀ q ∈ jt_Y_stepFrom_0, js_ie kY_stepFrom q := js_okm_ok (by decide +kernel) (by decide +kernel)
set_option maxRecDepth 1000000 in
set_option maxHeartbeats 16000000 in
theorem js_a_Y_stepFrom_1 : ∀ q ∈ jt_Y_stepFrom_1, js_ie kY_stepFrom q := js_okm_ok (by decide +kernel) (by decide +kernel)
theorem js_a_Y_stepFrom : ∀ q ∈ jt_Y_stepFrom, js_ie kY_stepFrom q := fun q h => (List.mem_append.mp h).elim (fun h => js_a_Y_stepFrom_0 q h) (fun h => js_a_Y_stepFrom_1 q h)
set_option maxRecDepth 1000000 in
set_option maxHeartbeats 16000000 in
theorem js_a_Y_layContent : ∀ q ∈ jt_Y_layContent, js_ie kY_layContent q := js_okm_ok (by decide +kernel) (by decide +kernel)
set_option maxRecDepth 1000000 in
set_option maxHeartbeats 16000000 in
theorem js_a_Y_goOn : ∀ q ∈ jt_Y_goOn, js_ie kY_goOn q := js_okm_ok (by decide +kernel) (by decide +kernel)
set_option maxRecDepth 1000000 in
set_option maxHeartbeats 16000000 in
theorem js_a_Y_fives : ∀ q ∈ jt_Y_fives, js_ie kY_fives q := js_okm_ok (by decide +kernel) (by decide +kernel)
set_option maxRecDepth 1000000 in
set_option maxHeartbeats 16000000 in
theorem js_a_Y_isDead_0 : ∀ q ∈ jt_Y_isDead_0, js_ie kY_isDead q := js_okm_ok (by decide +kernel) (by decide +kernel)
set_option maxRecDepth 1000000 in
set_option maxHeartbeats 16000000 in
theorem js_a_Y_isDead_1 : ∀ q ∈ jt_Y_isDead_1, js_ie kY_isDead q := js_okm_ok (by decide +kernel) (by decide +kernel)
theorem js_a_Y_isDead : ∀ q ∈ jt_Y_isDead, js_ie kY_isDead q := fun q h => (List.mem_append.mp h).elim (fun h => js_a_Y_isDead_0 q h) (fun h => js_a_Y_isDead_1 q h)
set_option maxRecDepth 1000000 in
set_option maxHeartbeats 16000000 in
theorem js_a_Y_send_0 : ∀ q ∈ jt_Y_send_0, js_ie kY_send q := js_okm_ok (by decide +kernel) (by decide +kernel)
set_option maxRecDepth 1000000 in
set_option maxHeartbeats 16000000 in
theorem js_a_Y_send_1 : ∀ q ∈ jt_Y_send_1, js_ie kY_send q := js_okm_ok (by decide +kernel) (by decide +kernel)
theorem js_a_Y_send : ∀ q ∈ jt_Y_send, js_ie kY_send q := fun q h => (List.mem_append.mp h).elim (fun h => js_a_Y_send_0 q h) (fun h => js_a_Y_send_1 q h)
set_option maxRecDepth 1000000 in
set_option maxHeartbeats 16000000 in
theorem js_a_Y_laneFor : ∀ q ∈ jt_Y_laneFor, js_ie kY_laneFor q := js_okm_ok (by decide +kernel) (by decide +kernel)
set_option maxRecDepth 1000000 in
set_option maxHeartbeats 16000000 in
theorem js_a_Y_comesIn : ∀ q ∈ jt_Y_comesIn, js_ie kY_comesIn q := js_okm_ok (by decide +kernel) (by decide +kernel)
set_option maxRecDepth 1000000 in
set_option maxHeartbeats 16000000 in
theorem js_a_Y_ticks_0 : ∀ q ∈ jt_Y_ticks_0, js_ie kY_ticks q := js_okm_ok (by decide +kernel) (by decide +kernel)
set_option maxRecDepth 1000000 in
set_option maxHeartbeats 16000000 in
theorem js_a_Y_ticks_1 : ∀ q ∈ jt_Y_ticks_1, js_ie kY_ticks q := js_okm_ok (by decide +kernel) (by decide +kernel)
theorem js_a_Y_ticks : ∀ q ∈ jt_Y_ticks, js_ie kY_ticks q := fun q h => (List.mem_append.mp h).elim (fun h => js_a_Y_ticks_0 q h) (fun h => js_a_Y_ticks_1 q h)
set_option maxRecDepth 1000000 in
set_option maxHeartbeats 16000000 in
theorem js_a_Y_pass : ∀ q ∈ jt_Y_pass, js_ie kY_pass q := js_okm_ok (by decide +kernel) (by decide +kernel)
set_option maxRecDepth 1000000 in
set_option maxHeartbeats 16000000 in
theorem js_a_Y_goFrom_0 : ∀ q ∈ jt_Y_goFrom_0, js_ie kY_goFrom q := js_okm_ok (by decide +kernel) (by decide +kernel)
set_option maxRecDepth 1000000 in
set_option maxHeartbeats 16000000 in
theorem js_a_Y_goFrom_1 : ∀ q ∈ jt_Y_goFrom_1, js_ie kY_goFrom q := js_okm_ok (by decide +kernel) (by decide +kernel)
theorem js_a_Y_goFrom : ∀ q ∈ jt_Y_goFrom, js_ie kY_goFrom q := fun q h => (List.mem_append.mp h).elim (fun h => js_a_Y_goFrom_0 q h) (fun h => js_a_Y_goFrom_1 q h)
set_option maxRecDepth 1000000 in
set_option maxHeartbeats 16000000 in
theorem js_a_Y_leaves : ∀ q ∈ jt_Y_leaves, js_ie kY_leaves q := js_okm_ok (by decide +kernel) (by decide +kernel)
set_option maxRecDepth 1000000 in
set_option maxHeartbeats 16000000 in
theorem js_a_Y_ofLoad : ∀ q ∈ jt_Y_ofLoad, js_ie kY_ofLoad q := js_okm_ok (by decide +kernel) (by decide +kernel)
set_option maxRecDepth 1000000 in
set_option maxHeartbeats 16000000 in
theorem js_a_Y_isLoad : ∀ q ∈ jt_Y_isLoad, js_ie kY_isLoad q := js_okm_ok (by decide +kernel) (by decide +kernel)
set_option maxRecDepth 1000000 in
set_option maxHeartbeats 16000000 in
theorem js_a_Y_frozen_0 : ∀ q ∈ jt_Y_frozen_0, js_ie kY_frozen q := js_okm_ok (by decide +kernel) (by decide +kernel)
set_option maxRecDepth 1000000 in
set_option maxHeartbeats 16000000 in
theorem js_a_Y_frozen_1 : ∀ q ∈ jt_Y_frozen_1, js_ie kY_frozen q := js_okm_ok (by decide +kernel) (by decide +kernel)
theorem js_a_Y_frozen : ∀ q ∈ jt_Y_frozen, js_ie kY_frozen q := fun q h => (List.mem_append.mp h).elim (fun h => js_a_Y_frozen_0 q h) (fun h => js_a_Y_frozen_1 q h)
set_option maxRecDepth 1000000 in
set_option maxHeartbeats 16000000 in
theorem js_a_Y_isHeld_0 : ∀ q ∈ jt_Y_isHeld_0, js_ie kY_isHeld q := js_okm_ok (by decide +kernel) (by decide +kernel)
set_option maxRecDepth 1000000 in
set_option maxHeartbeats 16000000 in
theorem js_a_Y_isHeld_1 : ∀ q ∈ jt_Y_isHeld_1, js_ie kY_isHeld q := js_okm_ok (by decide +kernel) (by decide +kernel)
theorem js_a_Y_isHeld : ∀ q ∈ jt_Y_isHeld, js_ie kY_isHeld q := fun q h => (List.mem_append.mp h).elim (fun h => js_a_Y_isHeld_0 q h) (fun h => js_a_Y_isHeld_1 q h)
end
section
/-! ===== each method as the tables have it (written by a program), 3 ===== -/
set_option maxRecDepth 1000000 in
set_option maxHeartbeats 16000000 in
theorem js_a_Y_mend : ∀ q ∈ jt_Y_mend, js_ie kY_mend q := js_okm_ok (by decide +kernel) (by decide +kernel)
set_option maxRecDepth 1000000 in
set_option maxHeartbeats 16000000 in
theorem js_a_Y_findMends_0 : ∀ q ∈ jt_Y_findMends_0, js_ie kY_findMends q := js_okm_ok (by decide +kernel) (by decide +kernel)
set_option maxRecDepth 1000000 in
set_option maxHeartbeats 16000000 in
theorem js_a_Y_findMends_1 : ∀ q ∈ jt_Y_findMends_1, js_ie kY_findMends q := js_okm_ok (by decide +kernel) (by decide +kernel)
theorem js_a_Y_findMends : ∀ q ∈ jt_Y_findMends, js_ie kY_findMends q := fun q h => (List.mem_append.mp h).elim (fun h => js_a_Y_findMends_0 q h) (fun h => js_a_Y_findMends_1 q h)
set_option maxRecDepth 1000000 in
set_option maxHeartbeats 16000000 in
theorem js_a_Y_isMended : ∀ q ∈ jt_Y_isMended, js_ie kY_isMended q := js_okm_ok (by decide +kernel) (by decide +kernel)
set_option maxRecDepth 1000000 in
set_option maxHeartbeats 16000000 in
theorem js_a_Y_allCome : ∀ q ∈ jt_Y_allCome, js_ie kY_allCome q := js_okm_ok (by decide +kernel) (by decide +kernel)
set_option maxRecDepth 1000000 in
set_option maxHeartbeats 16000000 in
theorem js_a_Y_layTurns : ∀ q ∈ jt_Y_layTurns, js_ie kY_layTurns q := js_okm_ok (by decide +kernel) (by decide +kernel)
set_option maxRecDepth 1000000 in
set_option maxHeartbeats 16000000 in
theorem js_a_Y_barTurn : ∀ q ∈ jt_Y_barTurn, js_ie kY_barTurn q := js_okm_ok (by decide +kernel) (by decide +kernel)
set_option maxRecDepth 1000000 in
set_option maxHeartbeats 16000000 in
theorem js_a_Y_bears : ∀ q ∈ jt_Y_bears, js_ie kY_bears q := js_okm_ok (by decide +kernel) (by decide +kernel)
set_option maxRecDepth 1000000 in
set_option maxHeartbeats 16000000 in
theorem js_a_Y_layBears_0 : ∀ q ∈ jt_Y_layBears_0, js_ie kY_layBears q := js_okm_ok (by decide +kernel) (by decide +kernel)
set_option maxRecDepth 1000000 in
set_option maxHeartbeats 16000000 in
theorem js_a_Y_layBears_1 : ∀ q ∈ jt_Y_layBears_1, js_ie kY_layBears q := js_okm_ok (by decide +kernel) (by decide +kernel)
theorem js_a_Y_layBears : ∀ q ∈ jt_Y_layBears, js_ie kY_layBears q := fun q h => (List.mem_append.mp h).elim (fun h => js_a_Y_layBears_0 q h) (fun h => js_a_Y_layBears_1 q h)
set_option maxRecDepth 1000000 in
set_option maxHeartbeats 16000000 in
theorem js_a_Y_clear : ∀ q ∈ jt_Y_clear, js_ie kY_clear q := js_okm_ok (by decide +kernel) (by decide +kernel)
set_option maxRecDepth 1000000 in
set_option maxHeartbeats 16000000 in
theorem js_a_Y_part : ∀ q ∈ jt_Y_part, js_ie kY_part q := js_okm_ok (by decide +kernel) (by decide +kernel)
set_option maxRecDepth 1000000 in
set_option maxHeartbeats 16000000 in
theorem js_a_Y_add : ∀ q ∈ jt_Y_add, js_ie kY_add q := js_okm_ok (by decide +kernel) (by decide +kernel)
set_option maxRecDepth 1000000 in
set_option maxHeartbeats 16000000 in
theorem js_a_Y_common : ∀ q ∈ jt_Y_common, js_ie kY_common q := js_okm_ok (by decide +kernel) (by decide +kernel)
set_option maxRecDepth 1000000 in
set_option maxHeartbeats 16000000 in
theorem js_a_Y_takeNext : ∀ q ∈ jt_Y_takeNext, js_ie kY_takeNext q := js_okm_ok (by decide +kernel) (by decide +kernel)
set_option maxRecDepth 1000000 in
set_option maxHeartbeats 16000000 in
theorem js_a_Y_busiest : ∀ q ∈ jt_Y_busiest, js_ie kY_busiest q := js_okm_ok (by decide +kernel) (by decide +kernel)
set_option maxRecDepth 1000000 in
set_option maxHeartbeats 16000000 in
theorem js_a_Y_sheet : ∀ q ∈ jt_Y_sheet, js_ie kY_sheet q := js_okm_ok (by decide +kernel) (by decide +kernel)
set_option maxRecDepth 1000000 in
set_option maxHeartbeats 16000000 in
theorem js_a_Y_lose : ∀ q ∈ jt_Y_lose, js_ie kY_lose q := js_okm_ok (by decide +kernel) (by decide +kernel)
set_option maxRecDepth 1000000 in
set_option maxHeartbeats 16000000 in
theorem js_a_Y_put : ∀ q ∈ jt_Y_put, js_ie kY_put q := js_okm_ok (by decide +kernel) (by decide +kernel)
set_option maxRecDepth 1000000 in
set_option maxHeartbeats 16000000 in
theorem js_a_Y_cell_0 : ∀ q ∈ jt_Y_cell_0, js_ie kY_cell q := js_okm_ok (by decide +kernel) (by decide +kernel)
set_option maxRecDepth 1000000 in
set_option maxHeartbeats 16000000 in
theorem js_a_Y_cell_1 : ∀ q ∈ jt_Y_cell_1, js_ie kY_cell q := js_okm_ok (by decide +kernel) (by decide +kernel)
theorem js_a_Y_cell : ∀ q ∈ jt_Y_cell, js_ie kY_cell q := fun q h => (List.mem_append.mp h).elim (fun h => js_a_Y_cell_0 q h) (fun h => js_a_Y_cell_1 q h)
set_option maxRecDepth 1000000 in
set_option maxHeartbeats 16000000 in
theorem js_a_Y_lost : ∀ q ∈ jt_Y_lost, js_ie kY_lost q := js_okm_ok (by decide +kernel) (by decide +kernel)
set_option maxRecDepth 1000000 in
set_option maxHeartbeats 16000000 in
theorem js_a_Y_copy_0 : ∀ q ∈ jt_Y_copy_0, js_ie kY_copy q := js_okm_ok (by decide +kernel) (by decide +kernel)
set_option maxRecDepth 1000000 in
set_option maxHeartbeats 16000000 in
theorem js_a_Y_copy_1 : ∀ q ∈ jt_Y_copy_1, js_ie kY_copy q := js_okm_ok (by decide +kernel) (by decide +kernel)
set_option maxRecDepth 1000000 in
set_option maxHeartbeats 16000000 in
theorem js_a_Y_copy_2 : ∀ q ∈ jt_Y_copy_2, js_ie kY_copy q := js_okm_ok (by decide +kernel) (by decide +kernel)
theorem js_a_Y_copy : ∀ q ∈ jt_Y_copy, js_ie kY_copy q := fun q h => (List.mem_append.mp h).elim (fun h => js_a_Y_copy_0 q h) (fun h => (List.mem_append.mp h).elim (fun h => js_a_Y_copy_1 q h) (fun h => js_a_Y_copy_2 q h))
set_option maxRecDepth 1000000 in
set_option maxHeartbeats 16000000 in
theorem js_a_Y_tell : ∀ q ∈ jt_Y_tell, js_ie kY_tell q := js_okm_ok (by decide +kernel) (by decide +kernel)
set_option maxRecDepth 1000000 in
set_option maxHeartbeats 16000000 in
theorem js_a_Y_begins : ∀ q ∈ jt_Y_begins, js_ie kY_begins q := js_okm_ok (by decide +kernel) (by decide +kernel)
set_option maxRecDepth 1000000 in
set_option maxHeartbeats 16000000 in
theorem js_a_Y_stamp : ∀ q ∈ jt_Y_stamp, js_ie kY_stamp q := js_okm_ok (by decide +kernel) (by decide +kernel)
set_option maxRecDepth 1000000 in
set_option maxHeartbeats 16000000 in
theorem js_a_Y_as : ∀ q ∈ jt_Y_as, js_ie kY_as q := js_okm_ok (by decide +kernel) (by decide +kernel)
set_option maxRecDepth 1000000 in
set_option maxHeartbeats 16000000 in
theorem js_a_Y_trace : ∀ q ∈ jt_Y_trace, js_ie kY_trace q := js_okm_ok (by decide +kernel) (by decide +kernel)
set_option maxRecDepth 1000000 in
set_option maxHeartbeats 16000000 in
theorem js_a_Y_fault : ∀ q ∈ jt_Y_fault, js_ie kY_fault q := js_okm_ok (by decide +kernel) (by decide +kernel)
set_option maxRecDepth 1000000 in
set_option maxHeartbeats 16000000 in
theorem js_a_Y_many : ∀ q ∈ jt_Y_many, js_ie kY_many q := js_okm_ok (by decide +kernel) (by decide +kernel)
set_option maxRecDepth 1000000 in
set_option maxHeartbeats 16000000 in
theorem js_a_Law_law_0 : ∀ q ∈ jt_Law_law_0, js_ie kLaw_law q := js_okm_ok (by decide +kernel) (by decide +kernel)
set_option maxRecDepth 1000000 in
set_option maxHeartbeats 16000000 in
theorem js_a_Law_law_1 : ∀ q ∈ jt_Law_law_1, js_ie kLaw_law q := js_okm_ok (by decide +kernel) (by decide +kernel)
set_option maxRecDepth 1000000 in
set_option maxHeartbeats 16000000 in
theorem js_a_Law_law_2 : ∀ q ∈ jt_Law_law_2, js_ie kLaw_law q := js_okm_ok (by decide +kernel) (by decide +kernel)
set_option maxRecDepth 1000000 in
set_option maxHeartbeats 16000000 in
theorem js_a_Law_law_3 : ∀ q ∈ jt_Law_law_3, js_ie kLaw_law q := js_okm_ok (by decide +kernel) (by decide +kernel)
set_option maxRecDepth 1000000 in
set_option maxHeartbeats 16000000 in
theorem js_a_Law_law_4 : ∀ q ∈ jt_Law_law_4, js_ie kLaw_law q := js_okm_ok (by decide +kernel) (by decide +kernel)
set_option maxRecDepth 1000000 in
set_option maxHeartbeats 16000000 in
theorem js_a_Law_law_5 : ∀ q ∈ jt_Law_law_5, js_ie kLaw_law q := js_okm_ok (by decide +kernel) (by decide +kernel)
set_option maxRecDepth 1000000 in
set_option maxHeartbeats 16000000 in
theorem js_a_Law_law_6 : ∀ q ∈ jt_Law_law_6, js_ie kLaw_law q := js_okm_ok (by decide +kernel) (by decide +kernel)
set_option maxRecDepth 1000000 in
set_option maxHeartbeats 16000000 in
theorem js_a_Law_law_7 : ∀ q ∈ jt_Law_law_7, js_ie kLaw_law q := js_okm_ok (by decide +kernel) (by decide +kernel)
set_option maxRecDepth 1000000 in
set_option maxHeartbeats 16000000 in
theorem js_a_Law_law_8 : ∀ q ∈ jt_Law_law_8, js_ie kLaw_law q := js_okm_ok (by decide +kernel) (by decide +kernel)
set_option maxRecDepth 1000000 in
set_option maxHeartbeats 16000000 in
theorem js_a_Law_law_9 : ∀ q ∈ jt_Law_law_9, js_ie kLaw_law q := js_okm_ok (by decide +kernel) (by decide +kernel)
set_option maxRecDepth 1000000 in
set_option maxHeartbeats 16000000 in
theorem js_a_Law_law_10 : ∀ q ∈ jt_Law_law_10, js_ie kLaw_law q := js_okm_ok (by decide +kernel) (by decide +kernel)
set_option maxRecDepth 1000000 in
set_option maxHeartbeats 16000000 in
theorem js_a_Law_law_11 : ∀ q ∈ jt_Law_law_11, js_ie kLaw_law q := js_okm_ok (by decide +kernel) (by decide +kernel)
set_option maxRecDepth 1000000 in
set_option maxHeartbeats 16000000 in
theorem js_a_Law_law_12 : ∀ q ∈ jt_Law_law_12, js_ie kLaw_law q := js_okm_ok (by decide +kernel) (by decide +kernel)
set_option maxRecDepth 1000000 in
set_option maxHeartbeats 16000000 in
theorem js_a_Law_law_13 : ∀ q ∈ jt_Law_law_13, js_ie kLaw_law q := js_okm_ok (by decide +kernel) (by decide +kernel)
theorem js_a_Law_law : ∀ q ∈ jt_Law_law, js_ie kLaw_law q := fun q h => (List.mem_append.mp h).elim (fun h => js_a_Law_law_0 q h) (fun h => (List.mem_append.mp h).elim (fun h => js_a_Law_law_1 q h) (fun h => (List.mem_append.mp h).elim (fun h => js_a_Law_law_2 q h) (fun h => (List.mem_append.mp h).elim (fun h => js_a_Law_law_3 q h) (fun h => (List.mem_append.mp h).elim (fun h => js_a_Law_law_4 q h) (fun h => (List.mem_append.mp h).elim (fun h => js_a_Law_law_5 q h) (fun h => (List.mem_append.mp h).elim (fun h => js_a_Law_law_6 q h) (fun h => (List.mem_append.mp h).elim (fun h => js_a_Law_law_7 q h) (fun h => (List.mem_append.mp h).elim (fun h => js_a_Law_law_8 q h) (fun h => (List.mem_append.mp h).elim (fun h => js_a_Law_law_9 q h) (fun h => (List.mem_append.mp h).elim (fun h => js_a_Law_law_10 q h) (fun h => (List.mem_append.mp h).elim (fun h => js_a_Law_law_11 q h) (fun h => (List.mem_append.mp h).elim (fun h => js_a_Law_law_12 q h) (fun h => js_a_Law_law_13 q h)))))))))))))
end
section
/-! ===== all methods ===== -/
set_option maxRecDepth 1000000 in
set_option maxHeartbeats 16000000 in
theorem js_all_0 : ∀ k, 0 ≤ k → k < 16 → ∀ q ∈ jv_T k, js_ie k q := by
  intro k h1 h2
  rcases (show k = 0 ∨ k = 1 ∨ k = 2 ∨ k = 3 ∨ k = 4 ∨ k = 5 ∨ k = 6 ∨ k = 7 ∨ k = 8 ∨ k = 9 ∨ k = 10 ∨ k = 11 ∨ k = 12 ∨ k = 13 ∨ k = 14 ∨ k = 15 by omega) with rfl | rfl | rfl | rfl | rfl | rfl | rfl | rfl | rfl | rfl | rfl | rfl | rfl | rfl | rfl | rfl
  · exact js_a_X_init
  · exact js_a_Sh_init
  · exact js_a_Tx_init
  · exact js_a_N_init
  · exact js_a_Wy_init
  · exact js_a_Wa_init
  · exact js_a_Sl_init
  · exact js_a_Sa_init
  · exact js_a_Tr_init
  · exact js_a_M_init
  · exact js_a_B_init
  · exact js_a_X_net
  · exact js_a_Sh_isSheet
  · exact js_a_Sh_isSort
  · exact js_a_Sh_isOfAnother
  · exact js_a_Sh_hasRow
set_option maxRecDepth 1000000 in
set_option maxHeartbeats 16000000 in
theorem js_all_1 : ∀ k, 16 ≤ k → k < 32 → ∀ q ∈ jv_T k, js_ie k q := by
  intro k h1 h2
  rcases (show k = 16 ∨ k = 17 ∨ k = 18 ∨ k = 19 ∨ k = 20 ∨ k = 21 ∨ k = 22 ∨ k = 23 ∨ k = 24 ∨ k = 25 ∨ k = 26 ∨ k = 27 ∨ k = 28 ∨ k = 29 ∨ k = 30 ∨ k = 31 by omega) with rfl | rfl | rfl | rfl | rfl | rfl | rfl | rfl | rfl | rfl | rfl | rfl | rfl | rfl | rfl | rfl
  · exact js_a_X_fail
  · exact js_a_Sh_hasCells
  · exact js_a_Tx_firstFault
  · exact js_a_Tx_takes
  · exact js_a_Tx_goesOn
  · exact js_a_Tx_takesNodes
  · exact js_a_Tx_takesFrom
  · exact js_a_Tx_takesTo
  · exact js_a_Tx_opensLane
  · exact js_a_Tx_takesCells
  · exact js_a_N_build
  · exact js_a_N_measure
  · exact js_a_N_collect
  · exact js_a_Wy_unbarAll
  · exact js_a_Ar_fill
  · exact js_a_Wy_layAll
set_option maxRecDepth 1000000 in
set_option maxHeartbeats 16000000 in
theorem js_all_2 : ∀ k, 32 ≤ k → k < 48 → ∀ q ∈ jv_T k, js_ie k q := by
  intro k h1 h2
  rcases (show k = 32 ∨ k = 33 ∨ k = 34 ∨ k = 35 ∨ k = 36 ∨ k = 37 ∨ k = 38 ∨ k = 39 ∨ k = 40 ∨ k = 41 ∨ k = 42 ∨ k = 43 ∨ k = 44 ∨ k = 45 ∨ k = 46 ∨ k = 47 by omega) with rfl | rfl | rfl | rfl | rfl | rfl | rfl | rfl | rfl | rfl | rfl | rfl | rfl | rfl | rfl | rfl
  · exact js_a_Wy_ruled
  · exact js_a_Wy_layLane
  · exact js_a_Tr_clear
  · exact js_a_X_ofLane
  · exact js_a_N_isLane
  · exact js_a_Tr_standsIn
  · exact js_a_X_far
  · exact js_a_N_areNodes
  · exact js_a_N_isNode
  · exact js_a_X_rule
  · exact js_a_Wy_ruleBy
  · exact js_a_X_bar
  · exact js_a_Wy_isBarred
  · exact js_a_X_has
  · exact js_a_Wy_setBarred
  · exact js_a_X_may
set_option maxRecDepth 1000000 in
set_option maxHeartbeats 16000000 in
theorem js_all_3 : ∀ k, 48 ≤ k → k < 64 → ∀ q ∈ jv_T k, js_ie k q := by
  intro k h1 h2
  rcases (show k = 48 ∨ k = 49 ∨ k = 50 ∨ k = 51 ∨ k = 52 ∨ k = 53 ∨ k = 54 ∨ k = 55 ∨ k = 56 ∨ k = 57 ∨ k = 58 ∨ k = 59 ∨ k = 60 ∨ k = 61 ∨ k = 62 ∨ k = 63 by omega) with rfl | rfl | rfl | rfl | rfl | rfl | rfl | rfl | rfl | rfl | rfl | rfl | rfl | rfl | rfl | rfl
  · exact js_a_X_out
  · exact js_a_X_comes
  · exact js_a_Wa_howItComes
  · exact js_a_Wa_reach
  · exact js_a_Wa_endsWell
  · exact js_a_X_knot
  · exact js_a_X_carries
  · exact js_a_Wa_work
  · exact js_a_Wa_survey
  · exact js_a_Wa_findRing
  · exact js_a_Wa_measureRing
  · exact js_a_Wa_layRing
  · exact js_a_Wa_findRanks
  · exact js_a_X_waits
  · exact js_a_X_ring
  · exact js_a_X_rank
set_option maxRecDepth 1000000 in
set_option maxHeartbeats 16000000 in
theorem js_all_4 : ∀ k, 64 ≤ k → k < 80 → ∀ q ∈ jv_T k, js_ie k q := by
  intro k h1 h2
  rcases (show k = 64 ∨ k = 65 ∨ k = 66 ∨ k = 67 ∨ k = 68 ∨ k = 69 ∨ k = 70 ∨ k = 71 ∨ k = 72 ∨ k = 73 ∨ k = 74 ∨ k = 75 ∨ k = 76 ∨ k = 77 ∨ k = 78 ∨ k = 79 by omega) with rfl | rfl | rfl | rfl | rfl | rfl | rfl | rfl | rfl | rfl | rfl | rfl | rfl | rfl | rfl | rfl
  · exact js_a_X_still
  · exact js_a_Sl_work
  · exact js_a_Sl_findNeeds
  · exact js_a_Sl_findAll
  · exact js_a_Sl_canStand
  · exact js_a_Sl_findLeast
  · exact js_a_In_bitCount
  · exact js_a_Sl_stands
  · exact js_a_X_states
  · exact js_a_Sa_fit
  · exact js_a_Sa_work
  · exact js_a_Sa_prepare
  · exact js_a_Sa_reach
  · exact js_a_Sa_visitAll
  · exact js_a_In_numberOfTrailingZeros
  · exact js_a_Sa_visit
set_option maxRecDepth 1000000 in
set_option maxHeartbeats 16000000 in
theorem js_all_5 : ∀ k, 80 ≤ k → k < 96 → ∀ q ∈ jv_T k, js_ie k q := by
  intro k h1 h2
  rcases (show k = 80 ∨ k = 81 ∨ k = 82 ∨ k = 83 ∨ k = 84 ∨ k = 85 ∨ k = 86 ∨ k = 87 ∨ k = 88 ∨ k = 89 ∨ k = 90 ∨ k = 91 ∨ k = 92 ∨ k = 93 ∨ k = 94 ∨ k = 95 by omega) with rfl | rfl | rfl | rfl | rfl | rfl | rfl | rfl | rfl | rfl | rfl | rfl | rfl | rfl | rfl | rfl
  · exact js_a_Sa_isDead
  · exact js_a_Sa_setOut
  · exact js_a_Sa_goOn
  · exact js_a_X_send
  · exact js_a_X_isKind
  · exact js_a_Tr_choose
  · exact js_a_Tr_hasRoom
  · exact js_a_Tr_setOut
  · exact js_a_Ld_init
  · exact js_a_Tr_enter
  · exact js_a_X_ticks
  · exact js_a_Tr_tickOnce
  · exact js_a_Tr_moveFirsts
  · exact js_a_Tr_numbered
  · exact js_a_Tr_moves
  · exact js_a_X_ofLoad
set_option maxRecDepth 1000000 in
set_option maxHeartbeats 16000000 in
theorem js_all_6 : ∀ k, 96 ≤ k → k < 112 → ∀ q ∈ jv_T k, js_ie k q := by
  intro k h1 h2
  rcases (show k = 96 ∨ k = 97 ∨ k = 98 ∨ k = 99 ∨ k = 100 ∨ k = 101 ∨ k = 102 ∨ k = 103 ∨ k = 104 ∨ k = 105 ∨ k = 106 ∨ k = 107 ∨ k = 108 ∨ k = 109 ∨ k = 110 ∨ k = 111 by omega) with rfl | rfl | rfl | rfl | rfl | rfl | rfl | rfl | rfl | rfl | rfl | rfl | rfl | rfl | rfl | rfl
  · exact js_a_X_frozen
  · exact js_a_Tr_frozenSet
  · exact js_a_Tr_thaw
  · exact js_a_Tr_isHeld
  · exact js_a_In_lowestOneBit
  · exact js_a_X_mend
  · exact js_a_M_work
  · exact js_a_Wy_takeFrom
  · exact js_a_M_gather
  · exact js_a_M_isFound
  · exact js_a_M_setTried
  · exact js_a_Wa_isSound
  · exact js_a_X_bears
  · exact js_a_B_work
  · exact js_a_Ar_fillJ
  · exact js_a_B_pour
set_option maxRecDepth 1000000 in
set_option maxHeartbeats 16000000 in
theorem js_all_7 : ∀ k, 112 ≤ k → k < 128 → ∀ q ∈ jv_T k, js_ie k q := by
  intro k h1 h2
  rcases (show k = 112 ∨ k = 113 ∨ k = 114 ∨ k = 115 ∨ k = 116 ∨ k = 117 ∨ k = 118 ∨ k = 119 ∨ k = 120 ∨ k = 121 ∨ k = 122 ∨ k = 123 ∨ k = 124 ∨ k = 125 ∨ k = 126 ∨ k = 127 by omega) with rfl | rfl | rfl | rfl | rfl | rfl | rfl | rfl | rfl | rfl | rfl | rfl | rfl | rfl | rfl | rfl
  · exact js_a_B_spread
  · exact js_a_B_add
  · exact js_a_B_commonDivisor
  · exact js_a_B_ledToFrom
  · exact js_a_X_busiest
  · exact js_a_B_greatest
  · exact js_a_X_sheet
  · exact js_a_Sh_renew
  · exact js_a_X_lose
  · exact js_a_Sh_drop
  · exact js_a_X_put
  · exact js_a_Sh_hasCell
  · exact js_a_Sh_cut
  · exact js_a_X_cell
  · exact js_a_X_lost
  · exact js_a_X_copy
set_option maxRecDepth 1000000 in
set_option maxHeartbeats 16000000 in
theorem js_all_8 : ∀ k, 128 ≤ k → k < 144 → ∀ q ∈ jv_T k, js_ie k q := by
  intro k h1 h2
  rcases (show k = 128 ∨ k = 129 ∨ k = 130 ∨ k = 131 ∨ k = 132 ∨ k = 133 ∨ k = 134 ∨ k = 135 ∨ k = 136 ∨ k = 137 ∨ k = 138 ∨ k = 139 ∨ k = 140 ∨ k = 141 ∨ k = 142 ∨ k = 143 by omega) with rfl | rfl | rfl | rfl | rfl | rfl | rfl | rfl | rfl | rfl | rfl | rfl | rfl | rfl | rfl | rfl
  · exact js_a_X_tell
  · exact js_a_X_sealedTelling
  · exact js_a_X_leave
  · exact js_a_X_hastyTelling
  · exact js_a_X_plainTelling
  · exact js_a_X_stamp
  · exact js_a_X_ownStamp
  · exact js_a_X_lentStamp
  · exact js_a_X_as
  · exact js_a_X_trace
  · exact js_a_X_fault
  · exact js_a_X_many
  · exact js_a_Tr_countInLanes
  · exact js_a_Wy_countBarred
  · exact js_a_Y_init
  · exact js_a_Y_net
set_option maxRecDepth 1000000 in
set_option maxHeartbeats 16000000 in
theorem js_all_9 : ∀ k, 144 ≤ k → k < 160 → ∀ q ∈ jv_T k, js_ie k q := by
  intro k h1 h2
  rcases (show k = 144 ∨ k = 145 ∨ k = 146 ∨ k = 147 ∨ k = 148 ∨ k = 149 ∨ k = 150 ∨ k = 151 ∨ k = 152 ∨ k = 153 ∨ k = 154 ∨ k = 155 ∨ k = 156 ∨ k = 157 ∨ k = 158 ∨ k = 159 by omega) with rfl | rfl | rfl | rfl | rfl | rfl | rfl | rfl | rfl | rfl | rfl | rfl | rfl | rfl | rfl | rfl
  · exact js_a_Y_isSheet
  · exact js_a_Y_within
  · exact js_a_Y_isSort
  · exact js_a_Y_fails
  · exact js_a_Y_readNet
  · exact js_a_Y_digitAt
  · exact js_a_Y_layFar
  · exact js_a_Y_ofLane
  · exact js_a_Y_isLane
  · exact js_a_Y_far
  · exact js_a_Y_isNode
  · exact js_a_Y_rule
  · exact js_a_Y_bar
  · exact js_a_Y_may
  · exact js_a_Y_takes
  · exact js_a_Y_has
set_option maxRecDepth 1000000 in
set_option maxHeartbeats 16000000 in
theorem js_all_10 : ∀ k, 160 ≤ k → k < 176 → ∀ q ∈ jv_T k, js_ie k q := by
  intro k h1 h2
  rcases (show k = 160 ∨ k = 161 ∨ k = 162 ∨ k = 163 ∨ k = 164 ∨ k = 165 ∨ k = 166 ∨ k = 167 ∨ k = 168 ∨ k = 169 ∨ k = 170 ∨ k = 171 ∨ k = 172 ∨ k = 173 ∨ k = 174 ∨ k = 175 by omega) with rfl | rfl | rfl | rfl | rfl | rfl | rfl | rfl | rfl | rfl | rfl | rfl | rfl | rfl | rfl | rfl
  · exact js_a_Y_out
  · exact js_a_Y_comes
  · exact js_a_Y_comesBy
  · exact js_a_Y_comesInto
  · exact js_a_Y_goesRound
  · exact js_a_Y_carries
  · exact js_a_Y_layCarried
  · exact js_a_Y_waits
  · exact js_a_Y_layWaiting
  · exact js_a_Y_ring
  · exact js_a_Y_hasRing
  · exact js_a_Y_findRing
  · exact js_a_Y_isAhead
  · exact js_a_Y_rank
  · exact js_a_Y_still
  · exact js_a_Y_allStill
set_option maxRecDepth 1000000 in
set_option maxHeartbeats 16000000 in
theorem js_all_11 : ∀ k, 176 ≤ k → k < 192 → ∀ q ∈ jv_T k, js_ie k q := by
  intro k h1 h2
  rcases (show k = 176 ∨ k = 177 ∨ k = 178 ∨ k = 179 ∨ k = 180 ∨ k = 181 ∨ k = 182 ∨ k = 183 ∨ k = 184 ∨ k = 185 ∨ k = 186 ∨ k = 187 ∨ k = 188 ∨ k = 189 ∨ k = 190 ∨ k = 191 by omega) with rfl | rfl | rfl | rfl | rfl | rfl | rfl | rfl | rfl | rfl | rfl | rfl | rfl | rfl | rfl | rfl
  · exact js_a_Y_standsStill
  · exact js_a_Y_bitsOf
  · exact js_a_Y_isStill
  · exact js_a_Y_states
  · exact js_a_Y_isSmall
  · exact js_a_Y_enter
  · exact js_a_Y_stepFrom
  · exact js_a_Y_layContent
  · exact js_a_Y_goOn
  · exact js_a_Y_fives
  · exact js_a_Y_isDead
  · exact js_a_Y_send
  · exact js_a_Y_laneFor
  · exact js_a_Y_comesIn
  · exact js_a_Y_ticks
  · exact js_a_Y_pass
set_option maxRecDepth 1000000 in
set_option maxHeartbeats 16000000 in
theorem js_all_12 : ∀ k, 192 ≤ k → k < 208 → ∀ q ∈ jv_T k, js_ie k q := by
  intro k h1 h2
  rcases (show k = 192 ∨ k = 193 ∨ k = 194 ∨ k = 195 ∨ k = 196 ∨ k = 197 ∨ k = 198 ∨ k = 199 ∨ k = 200 ∨ k = 201 ∨ k = 202 ∨ k = 203 ∨ k = 204 ∨ k = 205 ∨ k = 206 ∨ k = 207 by omega) with rfl | rfl | rfl | rfl | rfl | rfl | rfl | rfl | rfl | rfl | rfl | rfl | rfl | rfl | rfl | rfl
  · exact js_a_Y_goFrom
  · exact js_a_Y_leaves
  · exact js_a_Y_ofLoad
  · exact js_a_Y_isLoad
  · exact js_a_Y_frozen
  · exact js_a_Y_isHeld
  · exact js_a_Y_mend
  · exact js_a_Y_findMends
  · exact js_a_Y_isMended
  · exact js_a_Y_allCome
  · exact js_a_Y_layTurns
  · exact js_a_Y_barTurn
  · exact js_a_Y_bears
  · exact js_a_Y_layBears
  · exact js_a_Y_clear
  · exact js_a_Y_part
set_option maxRecDepth 1000000 in
set_option maxHeartbeats 16000000 in
theorem js_all_13 : ∀ k, 208 ≤ k → k < 224 → ∀ q ∈ jv_T k, js_ie k q := by
  intro k h1 h2
  rcases (show k = 208 ∨ k = 209 ∨ k = 210 ∨ k = 211 ∨ k = 212 ∨ k = 213 ∨ k = 214 ∨ k = 215 ∨ k = 216 ∨ k = 217 ∨ k = 218 ∨ k = 219 ∨ k = 220 ∨ k = 221 ∨ k = 222 ∨ k = 223 by omega) with rfl | rfl | rfl | rfl | rfl | rfl | rfl | rfl | rfl | rfl | rfl | rfl | rfl | rfl | rfl | rfl
  · exact js_a_Y_add
  · exact js_a_Y_common
  · exact js_a_Y_takeNext
  · exact js_a_Y_busiest
  · exact js_a_Y_sheet
  · exact js_a_Y_lose
  · exact js_a_Y_put
  · exact js_a_Y_cell
  · exact js_a_Y_lost
  · exact js_a_Y_copy
  · exact js_a_Y_tell
  · exact js_a_Y_begins
  · exact js_a_Y_stamp
  · exact js_a_Y_as
  · exact js_a_Y_trace
  · exact js_a_Y_fault
set_option maxRecDepth 1000000 in
set_option maxHeartbeats 16000000 in
theorem js_all_14 : ∀ k, 224 ≤ k → k < 226 → ∀ q ∈ jv_T k, js_ie k q := by
  intro k h1 h2
  rcases (show k = 224 ∨ k = 225 by omega) with rfl | rfl
  · exact js_a_Y_many
  · exact js_a_Law_law
theorem js_all : js_All := by
  intro k hk _
  by_cases h0 : k < 16
  · exact js_all_0 k (by omega) h0
  by_cases h1 : k < 32
  · exact js_all_1 k (by omega) h1
  by_cases h2 : k < 48
  · exact js_all_2 k (by omega) h2
  by_cases h3 : k < 64
  · exact js_all_3 k (by omega) h3
  by_cases h4 : k < 80
  · exact js_all_4 k (by omega) h4
  by_cases h5 : k < 96
  · exact js_all_5 k (by omega) h5
  by_cases h6 : k < 112
  · exact js_all_6 k (by omega) h6
  by_cases h7 : k < 128
  · exact js_all_7 k (by omega) h7
  by_cases h8 : k < 144
  · exact js_all_8 k (by omega) h8
  by_cases h9 : k < 160
  · exact js_all_9 k (by omega) h9
  by_cases h10 : k < 176
  · exact js_all_10 k (by omega) h10
  by_cases h11 : k < 192
  · exact js_all_11 k (by omega) h11
  by_cases h12 : k < 208
  · exact js_all_12 k (by omega) h12
  by_cases h13 : k < 224
  · exact js_all_13 k (by omega) h13
  exact js_all_14 k (by omega) (by omega)
end
