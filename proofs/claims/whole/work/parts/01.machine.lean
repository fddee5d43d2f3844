/-! ===== A SMALL MACHINE: whole numbers, places, a layout L (what each place is) and a store (place, index -> number) ===== -/
/-- a value: an int, a long, a place, a row of a table of rows (place, index), a load (0: null, else place + 1), nothing -/
abbrev jv_V : Type := Int ⊕ Int ⊕ Nat ⊕ (Nat × Int) ⊕ Int ⊕ Unit
abbrev jv_I (i : Int) : jv_V := .inl i
abbrev jv_J (i : Int) : jv_V := .inr (.inl i)
abbrev jv_P (p : Nat) : jv_V := .inr (.inr (.inl p))
abbrev jv_R (p : Nat) (i : Int) : jv_V := .inr (.inr (.inr (.inl (p, i))))
abbrev jv_D (q : Int) : jv_V := .inr (.inr (.inr (.inr (.inl q))))
abbrev jv_U : jv_V := .inr (.inr (.inr (.inr (.inr ()))))
/-- a place: kind (0 int[], 1 long[], 2 int[][], 3 Load[], 4 a row of a kind 2, 5 the script, 10 + ci an object), length, references -/
abbrev jv_L : Type := List (Nat × Nat × List Nat)
abbrev jv_S : Type := Nat → Int → Int
/-- pc, instruction, length, resolved numbers, a constant -/
abbrev jv_E : Type := Nat × Instr × Nat × List Nat × Int
def jv_up (g : jv_S) (p : Nat) (i v : Int) : jv_S := fun q j => if q = p ∧ j = i then v else g q j
def jv_cl (g : jv_S) (p : Nat) : jv_S := fun q j => if q = p then 0 else g q j
def jv_cll (g : jv_S) (q0 : Int) : jv_S := fun q j => if q = 1000 ∧ 8 * q0 ≤ j ∧ j < 8 * q0 + 8 then 0 else g q j
def jv_cp (g : jv_S) (ps : Nat) (os : Int) (pd : Nat) (od n : Int) : jv_S := fun q j => if q = pd ∧ od ≤ j ∧ j < od + n then g ps (os + (j - od)) else g q j
def jv_w32 (z : Int) : Int := (Int32.ofInt z).toInt
def jv_w64 (z : Int) : Int := (Int64.ofInt z).toInt
def jv_r32 (z : Int) : Prop := -2147483648 ≤ z ∧ z ≤ 2147483647
def jv_r64 (z : Int) : Prop := -9223372036854775808 ≤ z ∧ z ≤ 9223372036854775807
def jv_and (a b : Int) : Int := (Int32.ofInt a &&& Int32.ofInt b).toInt
def jv_or (a b : Int) : Int := (Int32.ofInt a ||| Int32.ofInt b).toInt
def jv_xor (a b : Int) : Int := (Int32.ofInt a ^^^ Int32.ofInt b).toInt
def jv_shl (a b : Int) : Int := (Int32.ofInt a <<< (Int32.ofInt b &&& 31)).toInt
def jv_shr (a b : Int) : Int := (Int32.ofInt a >>> (Int32.ofInt b &&& 31)).toInt
def jv_ushr (a b : Int) : Int := ((Int32.ofInt a).toUInt32 >>> ((Int32.ofInt b).toUInt32 &&& Int32.toUInt32 31)).toInt32.toInt
def jv_i2b (a : Int) : Int := (Int32.ofInt a).toInt8.toInt32.toInt
def jv_i2s (a : Int) : Int := (Int32.ofInt a).toInt16.toInt32.toInt
def jv_cmp (a b : Int) : Int := if b < a then 1 else if a = b then 0 else -1
def jv_cat : List jv_V → Nat
  | [] => 0
  | (.inr (.inl _)) :: t => 2 + jv_cat t
  | _ :: t => 1 + jv_cat t
def jv_fl : List jv_V → List jv_V
  | [] => []
  | (.inr (.inl x)) :: t => (.inr (.inl x)) :: jv_U :: jv_fl t
  | x :: t => x :: jv_fl t
def jv_en (ml : Nat) (as : List jv_V) : List jv_V := jv_fl as ++ List.replicate (ml - (jv_fl as).length) jv_U
def jv_s1 (ls : List jv_V) (i : Nat) (v : jv_V) : List jv_V := ls.set i v
def jv_s2 (ls : List jv_V) (i : Nat) (v : jv_V) : List jv_V := (ls.set i v).set (i + 1) jv_U
def jv_pu (r : jv_V) (st : List jv_V) : List jv_V := match r with
  | .inr (.inr (.inr (.inr (.inr _)))) => st
  | v => v :: st
/-- a table's switch, its targets one by one from lo on, else d -/
def jv_sw {α : Type} (br : (c : Prop) → Decidable c → α → α → α) (x : Int) (k : Nat → α) (d : Nat) : Int → List Nat → α
  | _, [] => k d
  | lo, t :: ts => br (x = lo) inferInstance (k t) (jv_sw br x k d (lo + 1) ts)
/-- a lookup's switch: keys and targets -/
def jv_lw {α : Type} (br : (c : Prop) → Decidable c → α → α → α) (x : Int) (k : Nat → α) (d : Nat) : List (Int × Int) → List Nat → α
  | (key, _) :: ps, t :: ts => br (x = key) inferInstance (k t) (jv_lw br x k d ps ts)
  | _, _ => k d
def jv_rows (a n m : Nat) : jv_L := (List.range n).map (fun i => (4, m, [a, i]))
section
variable {α : Type} (ck : (c : Prop) → Decidable c → α → α) (br : (c : Prop) → Decidable c → α → α → α) (a32 a64 : Int → (Int → α) → α) (bad : α)
  (go : Nat → List jv_V → List jv_V → jv_L → jv_S → α) (ret : jv_V → jv_L → jv_S → α) (call : Nat → List jv_V → List jv_V → α)
def jv_ld (i n : Nat) (ty : Nat) (ls st : List jv_V) (L : jv_L) (g : jv_S) : α := match ls[i]?, ty with
  | some (.inl x), 0 => go n ls (.inl x :: st) L g
  | some (.inr (.inl x)), 1 => match ls[i + 1]? with
    | some (.inr (.inr (.inr (.inr (.inr _))))) => go n ls (.inr (.inl x) :: st) L g
    | _ => bad
  | some (.inr (.inr (.inl x))), 2 => go n ls (.inr (.inr (.inl x)) :: st) L g
  | some (.inr (.inr (.inr (.inl x)))), 2 => go n ls (.inr (.inr (.inr (.inl x))) :: st) L g
  | some (.inr (.inr (.inr (.inr (.inl x))))), 2 => go n ls (.inr (.inr (.inr (.inr (.inl x)))) :: st) L g
  | _, _ => bad
def jv_so (i n : Nat) (ty : Nat) (ls st : List jv_V) (L : jv_L) (g : jv_S) : α := match Nat.ble (i + (if ty = 1 then 2 else 1)) ls.length with
  | false => bad
  | true => match st, ty with
    | .inl x :: st, 0 => go n (jv_s1 ls i (.inl x)) st L g
    | .inr (.inl x) :: st, 1 => go n (jv_s2 ls i (.inr (.inl x))) st L g
    | .inr (.inr (.inl x)) :: st, 2 => go n (jv_s1 ls i (.inr (.inr (.inl x)))) st L g
    | .inr (.inr (.inr (.inl x))) :: st, 2 => go n (jv_s1 ls i (.inr (.inr (.inr (.inl x))))) st L g
    | .inr (.inr (.inr (.inr (.inl x)))) :: st, 2 => go n (jv_s1 ls i (.inr (.inr (.inr (.inr (.inl x)))))) st L g
    | _, _ => bad
def jv_b2 (cnd : Jvm.ClassFile.Cond) (a b : Int) (t f : α) : α := match cnd with
  | .eq => br (a = b) inferInstance t f
  | .ne => br (a = b) inferInstance f t
  | .lt => br (a < b) inferInstance t f
  | .ge => br (b ≤ a) inferInstance t f
  | .gt => br (b < a) inferInstance t f
  | .le => br (a ≤ b) inferInstance t f
def jv_gf (n : Nat) (kd k ty : Nat) (ls st : List jv_V) (L : jv_L) (g : jv_S) : α := match st with
  | .inr (.inr (.inl p)) :: st => match L[p]? with
    | some (kd', _, rs) => match Nat.beq kd kd' && !Nat.beq kd 11 with
      | true => match ty with
        | 2 => match rs[k]? with
          | some (q + 1) => go n ls (.inr (.inr (.inl (q + 1))) :: st) L g
          | _ => bad
        | _ => go n ls (.inl (g p (Int.ofNat k)) :: st) L g
      | false => bad
    | none => bad
  | .inr (.inr (.inr (.inr (.inl q)))) :: st => match kd, ty with
    | 11, 0 => ck (0 < q ∧ L[(q - 1).toNat]? = some (11, 8, [])) inferInstance (go n ls (.inl (g 1000 (8 * q + Int.ofNat k)) :: st) L g)
    | _, _ => bad
  | _ => bad
def jv_pf (n : Nat) (kd k ty : Nat) (ls st : List jv_V) (L : jv_L) (g : jv_S) : α := match st with
  | .inl x :: .inr (.inr (.inl p)) :: st => match L[p]? with
    | some (kd', _, _) => match Nat.beq kd kd' && !Nat.beq kd 11 with
      | true => match ty with
        | 0 => go n ls st L (jv_up g p (Int.ofNat k) x)
        | 1 => ck (x = 0 ∨ x = 1) inferInstance (go n ls st L (jv_up g p (Int.ofNat k) x))
        | _ => bad
      | false => bad
    | none => bad
  | .inl x :: .inr (.inr (.inr (.inr (.inl q)))) :: st => match kd, ty with
    | 11, 0 => ck (0 < q ∧ L[(q - 1).toNat]? = some (11, 8, [])) inferInstance (go n ls st L (jv_up g 1000 (8 * q + Int.ofNat k) x))
    | _, _ => bad
  | .inr (.inr (.inl v)) :: .inr (.inr (.inl p)) :: st => match L[p]? with
    | some (kd', len, rs) => match Nat.beq kd kd' && !Nat.beq kd 11 && Nat.blt k rs.length && Nat.ble 10 kd, ty with
      | true, 2 => match v with
        | 0 => bad
        | v + 1 => match Nat.blt (v + 1) L.length with
          | true => go n ls st (L.set p (kd', len, rs.set k (v + 1))) g
          | false => bad
      | _, _ => bad
    | none => bad
  | _ => bad
/-- the number of an element: its place and index -/
def jv_ix (x : jv_V) (i : Int) (L : jv_L) (f : Nat → Nat → Int → α) : α := match x with
  | .inr (.inr (.inl p)) => match L[p]? with
    | some (kd, n, _) => ck (0 ≤ i ∧ i < Int.ofNat n) inferInstance (f kd p i)
    | none => bad
  | .inr (.inr (.inr (.inl (p, j)))) => match L[p]? with
    | some (2, _, [m]) => ck (0 ≤ i ∧ i < Int.ofNat m) inferInstance (f 0 p (j * Int.ofNat m + i))
    | _ => bad
  | _ => bad
def jv_ar (n : Nat) (ld : Nat) (ls st : List jv_V) (L : jv_L) (g : jv_S) : α := match ld, st with
  | 0, .inl i :: x :: st => jv_ix ck bad x i L (fun kd p j => match kd with
    | 0 => go n ls (.inl (g p j) :: st) L g
    | 5 => go n ls (.inl (g p j) :: st) L g
    | _ => bad)
  | 1, .inl i :: x :: st => jv_ix ck bad x i L (fun kd p j => match kd with
    | 1 => go n ls (.inr (.inl (g p j)) :: st) L g
    | _ => bad)
  | 2, .inl i :: x :: st => jv_ix ck bad x i L (fun kd p j => match kd with
    | 2 => go n ls (.inr (.inr (.inr (.inl (p, j)))) :: st) L g
    | 3 => go n ls (.inr (.inr (.inr (.inr (.inl (g p j))))) :: st) L g
    | _ => bad)
  | 3, .inl v :: .inl i :: x :: st => jv_ix ck bad x i L (fun kd p j => match kd with
    | 0 => go n ls st L (jv_up g p j v)
    | _ => bad)
  | 4, .inr (.inl v) :: .inl i :: x :: st => jv_ix ck bad x i L (fun kd p j => match kd with
    | 1 => go n ls st L (jv_up g p j v)
    | _ => bad)
  | 5, .inr (.inr (.inr (.inr (.inl v)))) :: .inl i :: x :: st => jv_ix ck bad x i L (fun kd p j => match kd with
    | 3 => ck (0 < v ∧ L[(v - 1).toNat]? = some (11, 8, [])) inferInstance (go n ls st L (jv_up g p j v))
    | _ => bad)
  | _, _ => bad
def jv_sz (x : jv_V) (L : jv_L) (f : Nat → α) : α := match x with
  | .inr (.inr (.inl p)) => match L[p]? with
    | some (kd, n, _) => match Nat.ble kd 5 with
      | true => f n
      | false => bad
    | none => bad
  | .inr (.inr (.inr (.inl (p, _)))) => match L[p]? with
    | some (2, _, [m]) => f m
    | _ => bad
  | _ => bad
/-- an int array or row: place, first index, length -/
def jv_vw (x : jv_V) (L : jv_L) (f : Nat → Int → Nat → α) : α := match x with
  | .inr (.inr (.inl p)) => match L[p]? with
    | some (0, n, _) => f p 0 n
    | _ => bad
  | .inr (.inr (.inr (.inl (p, j)))) => match L[p]? with
    | some (2, _, [m]) => f p (j * Int.ofNat m) m
    | _ => bad
  | _ => bad
def jv_cy (n : Nat) (ls st : List jv_V) (L : jv_L) (g : jv_S) : α := match st with
  | .inl c :: .inl dp :: y :: .inl sp :: x :: st => jv_vw bad x L (fun ps os ns => jv_vw bad y L (fun pd od nd => match Nat.ble (jv_cat st) 8 with
    | true => ck (0 ≤ sp ∧ 0 ≤ dp ∧ 0 ≤ c ∧ sp + c ≤ Int.ofNat ns ∧ dp + c ≤ Int.ofNat nd) inferInstance (go n ls st L (jv_cp g ps (os + sp) pd (od + dp) c))
    | false => bad))
  | _ => bad
def jv_in (n : Nat) (r : List Nat) (ls st : List jv_V) (L : jv_L) (g : jv_S) : α := match r with
  | [1000] => jv_cy ck bad go n ls st L g
  | [1001] => match st with
    | .inr (.inr (.inl _)) :: st => match Nat.ble (jv_cat st) 8 with
      | true => go n ls st L g
      | false => bad
    | .inr (.inr (.inr (.inr (.inl q)))) :: st => match Nat.ble (jv_cat st) 8 with
      | true => ck (0 < q ∧ L[(q - 1).toNat]? = some (11, 8, [])) inferInstance (go n ls st L g)
      | false => bad
    | _ => bad
  | [1002] => match st with
    | .inl y :: .inl x :: st => match Nat.ble (jv_cat st) 8 with
      | true => go n ls (.inl (if x < y then y else x) :: st) L g
      | false => bad
    | _ => bad
  | [1003] => match st with
    | .inr (.inl x) :: st => match Nat.ble (jv_cat st) 8 with
      | true => ck (-9223372036854775807 ≤ x) inferInstance (go n ls (.inr (.inl (if 0 < x then x else - x)) :: st) L g)
      | false => bad
    | _ => bad
  | [1004] => match st with
    | .inr (.inl y) :: .inr (.inl x) :: st => match Nat.ble (jv_cat st) 8 with
      | true => go n ls (.inr (.inl (if y < x then x else y)) :: st) L g
      | false => bad
    | _ => bad
  | [k, c, rc] => match Nat.ble c st.length, Nat.ble (jv_cat (st.drop c)) 8 with
    | true, true => match rc, (st.take c).reverse with
      | 0, as => call k as (st.drop c)
      | rc + 1, .inr (.inr (.inl p)) :: as => match L[p]? with
        | some (kd, _, _) => match Nat.beq kd rc with
          | true => call k (.inr (.inr (.inl p)) :: as) (st.drop c)
          | false => bad
        | none => bad
      | 12, .inr (.inr (.inr (.inr (.inl q)))) :: as => ck (0 < q ∧ L[(q - 1).toNat]? = some (11, 8, [])) inferInstance (call k (.inr (.inr (.inr (.inr (.inl q)))) :: as) (st.drop c))
      | _, _ => bad
    | _, _ => bad
  | _ => bad
def jv_nw (n : Nat) (r : List Nat) (ls st : List jv_V) (L : jv_L) (g : jv_S) : α := match r with
  | [1, 8] => ck (L.length < 999) inferInstance (go n ls (.inr (.inr (.inr (.inr (.inl (Int.ofNat L.length + 1))))) :: st) (L ++ [(11, 8, [])]) (jv_cll g (Int.ofNat L.length + 1)))
  | [ci, ns] => match Nat.blt L.length 999 with
    | true => go n ls (.inr (.inr (.inl L.length)) :: st) (L ++ [(10 + ci, ns, List.replicate ns 0)]) (jv_cl g L.length)
    | false => bad
  | _ => bad
def jv_na (n kd : Nat) (ls st : List jv_V) (L : jv_L) (g : jv_S) : α := match st with
  | .inl c :: st => match Nat.blt L.length 999 with
    | true => ck (0 ≤ c ∧ c ≤ 100000) inferInstance (go n ls (.inr (.inr (.inl L.length)) :: st) (L ++ [(kd, c.toNat, [])]) (jv_cl g L.length))
    | false => bad
  | _ => bad
def jv_mn (n : Nat) (ls st : List jv_V) (L : jv_L) (g : jv_S) : α := match st with
  | .inl m :: .inl c :: st => match Nat.blt (L.length + c.toNat) 999 with
    | true => ck (0 ≤ c ∧ c ≤ 100 ∧ 0 ≤ m ∧ m ≤ 100) inferInstance (go n ls (.inr (.inr (.inl L.length)) :: st) (L ++ (2, c.toNat, [m.toNat]) :: jv_rows L.length c.toNat m.toNat) (jv_cl g L.length))
    | false => bad
  | _ => bad
/-- one instruction -/
def jv_st (e : jv_E) (ls st : List jv_V) (L : jv_L) (g : jv_S) : α := match e with
  | (pc, i, len, r, z) => match i with
    | .iconst _ | .bipush _ | .sipush _ | .ldc_w _ => go (pc + len) ls (.inl z :: st) L g
    | .lconst _ | .ldc2_w _ => go (pc + len) ls (.inr (.inl z) :: st) L g
    | .aconst_null => go (pc + len) ls (.inr (.inr (.inr (.inr (.inl 0)))) :: st) L g
    | .iload_n k => jv_ld bad go k.val (pc + len) 0 ls st L g
    | .iload k => jv_ld bad go k (pc + len) 0 ls st L g
    | .lload_n k => jv_ld bad go k.val (pc + len) 1 ls st L g
    | .lload k => jv_ld bad go k (pc + len) 1 ls st L g
    | .aload_n k => jv_ld bad go k.val (pc + len) 2 ls st L g
    | .aload k => jv_ld bad go k (pc + len) 2 ls st L g
    | .istore_n k => jv_so bad go k.val (pc + len) 0 ls st L g
    | .istore k => jv_so bad go k (pc + len) 0 ls st L g
    | .lstore_n k => jv_so bad go k.val (pc + len) 1 ls st L g
    | .lstore k => jv_so bad go k (pc + len) 1 ls st L g
    | .astore_n k => jv_so bad go k.val (pc + len) 2 ls st L g
    | .astore k => jv_so bad go k (pc + len) 2 ls st L g
    | .iinc k c => match ls[k]? with
      | some (.inl x) => a32 (x + c) (fun v => go (pc + len) (jv_s1 ls k (.inl v)) st L g)
      | _ => bad
    | .iadd => match st with
      | .inl b :: .inl a :: st => a32 (a + b) (fun v => go (pc + len) ls (.inl v :: st) L g)
      | _ => bad
    | .isub => match st with
      | .inl b :: .inl a :: st => a32 (a - b) (fun v => go (pc + len) ls (.inl v :: st) L g)
      | _ => bad
    | .imul => match st with
      | .inl b :: .inl a :: st => a32 (a * b) (fun v => go (pc + len) ls (.inl v :: st) L g)
      | _ => bad
    | .ineg => match st with
      | .inl a :: st => a32 (- a) (fun v => go (pc + len) ls (.inl v :: st) L g)
      | _ => bad
    | .idiv => match st with
      | .inl b :: .inl a :: st => ck (0 ≤ a ∧ 0 < b) inferInstance (go (pc + len) ls (.inl (a / b) :: st) L g)
      | _ => bad
    | .irem => match st with
      | .inl b :: .inl a :: st => ck (0 ≤ a ∧ 0 < b) inferInstance (go (pc + len) ls (.inl (a % b) :: st) L g)
      | _ => bad
    | .iand => match st with
      | .inl b :: .inl a :: st => go (pc + len) ls (.inl (jv_and a b) :: st) L g
      | _ => bad
    | .ior => match st with
      | .inl b :: .inl a :: st => go (pc + len) ls (.inl (jv_or a b) :: st) L g
      | _ => bad
    | .ixor => match st with
      | .inl b :: .inl a :: st => go (pc + len) ls (.inl (jv_xor a b) :: st) L g
      | _ => bad
    | .ishl => match st with
      | .inl b :: .inl a :: st => go (pc + len) ls (.inl (jv_shl a b) :: st) L g
      | _ => bad
    | .ishr => match st with
      | .inl b :: .inl a :: st => go (pc + len) ls (.inl (jv_shr a b) :: st) L g
      | _ => bad
    | .iushr => match st with
      | .inl b :: .inl a :: st => go (pc + len) ls (.inl (jv_ushr a b) :: st) L g
      | _ => bad
    | .i2b => match st with
      | .inl a :: st => go (pc + len) ls (.inl (jv_i2b a) :: st) L g
      | _ => bad
    | .i2s => match st with
      | .inl a :: st => go (pc + len) ls (.inl (jv_i2s a) :: st) L g
      | _ => bad
    | .i2l => match st with
      | .inl a :: st => go (pc + len) ls (.inr (.inl a) :: st) L g
      | _ => bad
    | .ladd => match st with
      | .inr (.inl b) :: .inr (.inl a) :: st => a64 (a + b) (fun v => go (pc + len) ls (.inr (.inl v) :: st) L g)
      | _ => bad
    | .lmul => match st with
      | .inr (.inl b) :: .inr (.inl a) :: st => a64 (a * b) (fun v => go (pc + len) ls (.inr (.inl v) :: st) L g)
      | _ => bad
    | .lneg => match st with
      | .inr (.inl a) :: st => a64 (- a) (fun v => go (pc + len) ls (.inr (.inl v) :: st) L g)
      | _ => bad
    | .ldiv => match st with
      | .inr (.inl b) :: .inr (.inl a) :: st => ck (0 ≤ a ∧ 0 < b) inferInstance (go (pc + len) ls (.inr (.inl (a / b)) :: st) L g)
      | _ => bad
    | .lrem => match st with
      | .inr (.inl b) :: .inr (.inl a) :: st => ck (0 ≤ a ∧ 0 < b) inferInstance (go (pc + len) ls (.inr (.inl (a % b)) :: st) L g)
      | _ => bad
    | .lcmp => match st with
      | .inr (.inl b) :: .inr (.inl a) :: st => go (pc + len) ls (.inl (jv_cmp a b) :: st) L g
      | _ => bad
    | .dup => match st with
      | .inr (.inl _) :: _ => bad
      | x :: st => go (pc + len) ls (x :: x :: st) L g
      | _ => bad
    | .dup2 => match st with
      | .inl i :: x :: st => match x with
        | .inr (.inl _) => bad
        | x => go (pc + len) ls (.inl i :: x :: .inl i :: x :: st) L g
      | _ => bad
    | .goto _ => match r with
      | [t] => go t ls st L g
      | _ => bad
    | .ifCond cnd _ => match st, r with
      | .inl a :: st, [t] => jv_b2 br cnd a 0 (go t ls st L g) (go (pc + len) ls st L g)
      | _, _ => bad
    | .if_icmp cnd _ => match st, r with
      | .inl b :: .inl a :: st, [t] => jv_b2 br cnd a b (go t ls st L g) (go (pc + len) ls st L g)
      | _, _ => bad
    | .ifnull _ => match st, r with
      | .inr (.inr (.inr (.inr (.inl q)))) :: st, [t] => br (q = 0) inferInstance (go t ls st L g) (go (pc + len) ls st L g)
      | _, _ => bad
    | .ifnonnull _ => match st, r with
      | .inr (.inr (.inr (.inr (.inl q)))) :: st, [t] => br (q = 0) inferInstance (go (pc + len) ls st L g) (go t ls st L g)
      | _, _ => bad
    | .tableswitch _ lo _ _ => match st, r with
      | .inl x :: st, d :: ts => jv_sw br x (fun t => go t ls st L g) d lo ts
      | _, _ => bad
    | .lookupswitch _ ps => match st, r with
      | .inl x :: st, d :: ts => jv_lw br x (fun t => go t ls st L g) d ps.toList ts
      | _, _ => bad
    | .getfield _ => match r with
      | [kd, k, ty] => jv_gf ck bad go (pc + len) kd k ty ls st L g
      | _ => bad
    | .putfield _ => match r with
      | [kd, k, ty] => jv_pf ck bad go (pc + len) kd k ty ls st L g
      | _ => bad
    | .iaload => jv_ar ck bad go (pc + len) 0 ls st L g
    | .laload => jv_ar ck bad go (pc + len) 1 ls st L g
    | .aaload => jv_ar ck bad go (pc + len) 2 ls st L g
    | .iastore => jv_ar ck bad go (pc + len) 3 ls st L g
    | .lastore => jv_ar ck bad go (pc + len) 4 ls st L g
    | .aastore => jv_ar ck bad go (pc + len) 5 ls st L g
    | .arraylength => match st with
      | x :: st => jv_sz bad x L (fun n => go (pc + len) ls (.inl (Int.ofNat n) :: st) L g)
      | _ => bad
    | .invokevirtual _ | .invokespecial _ | .invokestatic _ => jv_in ck bad go call (pc + len) r ls st L g
    | .new _ => jv_nw ck bad go (pc + len) r ls st L g
    | .newarray .int => jv_na ck bad go (pc + len) 0 ls st L g
    | .newarray .long => jv_na ck bad go (pc + len) 1 ls st L g
    | .anewarray _ => jv_na ck bad go (pc + len) 3 ls st L g
    | .multianewarray _ _ => jv_mn ck bad go (pc + len) ls st L g
    | .ireturn => match st, r with
      | [.inl x], [0] => ret (.inl x) L g
      | [.inl x], [1] => ck (x = 0 ∨ x = 1) inferInstance (ret (.inl x) L g)
      | _, _ => bad
    | .lreturn => match st with
      | [.inr (.inl x)] => ret (.inr (.inl x)) L g
      | _ => bad
    | .areturn => match st with
      | [.inr (.inr (.inr (.inr (.inl x))))] => ret (.inr (.inr (.inr (.inr (.inl x))))) L g
      | _ => bad
    | .return_ => match st with
      | [] => ret jv_U L g
      | _ => bad
    | _ => bad
end
