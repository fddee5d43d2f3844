section
/-! ===== A SMALL MACHINE: whole numbers, places, a layout L (what each place is) and a store (place, index -> number) ===== -/
/-- a value: an int, a long, a place, a row of a table of rows (place, index), a load (0: null, else place + 1), nothing -/
abbrev jv_V : Type := Int ⊕ Int ⊕ Nat ⊕ (Nat × Int) ⊕ Int ⊕ Unit
abbrev jv_I (i : Int) : jv_V := .inl i
abbrev jv_J (i : Int) : jv_V := .inr (.inl i)
abbrev jv_P (p : Nat) : jv_V := .inr (.inr (.inl p))
abbrev jv_R (p : Nat) (i : Int) : jv_V := .inr (.inr (.inr (.inl (p, i))))
abbrev jv_D (q : Int) : jv_V := .inr (.inr (.inr (.inr (.inl q))))
abbrev jv_U : jv_V := .inr (.inr (.inr (.inr (.inr ()))))
/-- a place: kind (0 int[], 1 long[], 2 int[][], 3 Load[], 4 a row of a kind 2, 5 the script, 10 + ci an object), length, references -/
abbrev jv_L : Type := List (Nat × Nat × List Nat)
abbrev jv_S : Type := Nat → Int → Int
/-- pc, instruction, length, resolved numbers, a constant -/
abbrev jv_E : Type := Nat × Instr × Nat × List Nat × Int
def jv_up (g : jv_S) (p : Nat) (i v : Int) : jv_S := fun q j => if q = p ∧ j = i then v else g q j
def jv_cl (g : jv_S) (p : Nat) : jv_S := fun q j => if q = p then 0 else g q j
def jv_cll (g : jv_S) (q0 : Int) : jv_S := fun q j => if q = 1000 ∧ 8 * q0 ≤ j ∧ j < 8 * q0 + 8 then 0 else g q j
def jv_cp (g : jv_S) (ps : Nat) (os : Int) (pd : Nat) (od n : Int) : jv_S := fun q j => if q = pd ∧ od ≤ j ∧ j < od + n then g ps (os + (j - od)) else g q j
def jv_w32 (z : Int) : Int := (Int32.ofInt z).toInt
def jv_w64 (z : Int) : Int := (Int64.ofInt z).toInt
def jv_r32 (z : Int) : Prop := -2147483648 ≤ z ∧ z ≤ 2147483647
def jv_r64 (z : Int) : Prop := -9223372036854775808 ≤ z ∧ z ≤ 9223372036854775807
def jv_and (a b : Int) : Int := (Int32.ofInt a &&& Int32.ofInt b).toInt
def jv_or (a b : Int) : Int := (Int32.ofInt a ||| Int32.ofInt b).toInt
def jv_xor (a b : Int) : Int := (Int32.ofInt a ^^^ Int32.ofInt b).toInt
def jv_shl (a b : Int) : Int := (Int32.ofInt a <<< (Int32.ofInt b &&& 31)).toInt
def jv_shr (a b : Int) : Int := (Int32.ofInt a >>> (Int32.ofInt b &&& 31)).toInt
def jv_ushr (a b : Int) : Int := ((Int32.ofInt a).toUInt32 >>> ((Int32.ofInt b).toUInt32 &&& Int32.toUInt32 31)).toInt32.toInt
def jv_i2b (a : Int) : Int := (Int32.ofInt a).toInt8.toInt32.toInt
def jv_i2s (a : Int) : Int := (Int32.ofInt a).toInt16.toInt32.toInt
def jv_cmp (a b : Int) : Int := if b < a then 1 else if a = b then 0 else -1
def jv_cat : List jv_V → Nat
  | [] => 0
  | (.inr (.inl _)) :: t => 2 + jv_cat t
  | _ :: t => 1 + jv_cat t
def jv_fl : List jv_V → List jv_V
  | [] => []
  | (.inr (.inl x)) :: t => (.inr (.inl x)) :: jv_U :: jv_fl t
  | x :: t => x :: jv_fl t
def jv_en (ml : Nat) (as : List jv_V) : List jv_V := jv_fl as ++ List.replicate (ml - (jv_fl as).length) jv_U
def jv_s1 (ls : List jv_V) (i : Nat) (v : jv_V) : List jv_V := ls.set i v
def jv_s2 (ls : List jv_V) (i : Nat) (v : jv_V) : List jv_V := (ls.set i v).set (i + 1) jv_U
def jv_pu (r : jv_V) (st : List jv_V) : List jv_V := match r with
  | .inr (.inr (.inr (.inr (.inr _)))) => st
  | v => v :: st
/-- a table's switch, its targets one by one from lo on, else d -/
def jv_sw {α : Type} (br : (c : Prop) → Decidable c → α → α → α) (x : Int) (k : Nat → α) (d : Nat) : Int → List Nat → α
  | _, [] => k d
  | lo, t :: ts => br (x = lo) inferInstance (k t) (jv_sw br x k d (lo + 1) ts)
/-- a lookup's switch: keys and targets -/
def jv_lw {α : Type} (br : (c : Prop) → Decidable c → α → α → α) (x : Int) (k : Nat → α) (d : Nat) : List (Int × Int) → List Nat → α
  | (key, _) :: ps, t :: ts => br (x = key) inferInstance (k t) (jv_lw br x k d ps ts)
  | _, _ => k d
def jv_rows (a n m : Nat) : jv_L := (List.range n).map (fun i => (4, m, [a, i]))
section
variable {α : Type} (ck : (c : Prop) → Decidable c → α → α) (br : (c : Prop) → Decidable c → α → α → α) (a32 a64 : Int → (Int → α) → α) (bad : α)
  (go : Nat → List jv_V → List jv_V → jv_L → jv_S → α) (ret : jv_V → jv_L → jv_S → α) (call : Nat → List jv_V → List jv_V → α)
def jv_ld (i n : Nat) (ty : Nat) (ls st : List jv_V) (L : jv_L) (g : jv_S) : α := match ls[i]?, ty with
  | some (.inl x), 0 => go n ls (.inl x :: st) L g
  | some (.inr (.inl x)), 1 => match ls[i + 1]? with
    | some (.inr (.inr (.inr (.inr (.inr _))))) => go n ls (.inr (.inl x) :: st) L g
    | _ => bad
  | some (.inr (.inr (.inl x))), 2 => go n ls (.inr (.inr (.inl x)) :: st) L g
  | some (.inr (.inr (.inr (.inl x)))), 2 => go n ls (.inr (.inr (.inr (.inl x))) :: st) L g
  | some (.inr (.inr (.inr (.inr (.inl x))))), 2 => go n ls (.inr (.inr (.inr (.inr (.inl x)))) :: st) L g
  | _, _ => bad
def jv_so (i n : Nat) (ty : Nat) (ls st : List jv_V) (L : jv_L) (g : jv_S) : α := match Nat.ble (i + (if ty = 1 then 2 else 1)) ls.length with
  | false => bad
  | true => match st, ty with
    | .inl x :: st, 0 => go n (jv_s1 ls i (.inl x)) st L g
    | .inr (.inl x) :: st, 1 => go n (jv_s2 ls i (.inr (.inl x))) st L g
    | .inr (.inr (.inl x)) :: st, 2 => go n (jv_s1 ls i (.inr (.inr (.inl x)))) st L g
    | .inr (.inr (.inr (.inl x))) :: st, 2 => go n (jv_s1 ls i (.inr (.inr (.inr (.inl x))))) st L g
    | .inr (.inr (.inr (.inr (.inl x)))) :: st, 2 => go n (jv_s1 ls i (.inr (.inr (.inr (.inr (.inl x)))))) st L g
    | _, _ => bad
def jv_b2 (cnd : Jvm.ClassFile.Cond) (a b : Int) (t f : α) : α := match cnd with
  | .eq => br (a = b) inferInstance t f
  | .ne => br (a = b) inferInstance f t
  | .lt => br (a < b) inferInstance t f
  | .ge => br (b ≤ a) inferInstance t f
  | .gt => br (b < a) inferInstance t f
  | .le => br (a ≤ b) inferInstance t f
def jv_gf (n : Nat) (kd k ty : Nat) (ls st : List jv_V) (L : jv_L) (g : jv_S) : α := match st with
  | .inr (.inr (.inl p)) :: st => match L[p]? with
    | some (kd', _, rs) => match Nat.beq kd kd' with
      | true => match ty with
        | 2 => match rs[k]? with
          | some (q + 1) => go n ls (.inr (.inr (.inl (q + 1))) :: st) L g
          | _ => bad
        | _ => go n ls (.inl (g p (Int.ofNat k)) :: st) L g
      | false => bad
    | none => bad
  | .inr (.inr (.inr (.inr (.inl q)))) :: st => match kd, ty with
    | 11, 0 => ck (0 < q ∧ L[(q - 1).toNat]? = some (11, 8, [])) inferInstance (go n ls (.inl (g 1000 (8 * q + Int.ofNat k)) :: st) L g)
    | _, _ => bad
  | _ => bad
def jv_pf (n : Nat) (kd k ty : Nat) (ls st : List jv_V) (L : jv_L) (g : jv_S) : α := match st with
  | .inl x :: .inr (.inr (.inl p)) :: st => match L[p]? with
    | some (kd', _, _) => match Nat.beq kd kd' with
      | true => match ty with
        | 0 => go n ls st L (jv_up g p (Int.ofNat k) x)
        | 1 => ck (x = 0 ∨ x = 1) inferInstance (go n ls st L (jv_up g p (Int.ofNat k) x))
        | _ => bad
      | false => bad
    | none => bad
  | .inl x :: .inr (.inr (.inr (.inr (.inl q)))) :: st => match kd, ty with
    | 11, 0 => ck (0 < q ∧ L[(q - 1).toNat]? = some (11, 8, [])) inferInstance (go n ls st L (jv_up g 1000 (8 * q + Int.ofNat k) x))
    | _, _ => bad
  | .inr (.inr (.inl v)) :: .inr (.inr (.inl p)) :: st => match L[p]? with
    | some (kd', len, rs) => match Nat.beq kd kd', ty with
      | true, 2 => match v with
        | 0 => bad
        | v + 1 => match Nat.blt (v + 1) L.length with
          | true => go n ls st (L.set p (kd', len, rs.set k (v + 1))) g
          | false => bad
      | _, _ => bad
    | none => bad
  | _ => bad
/-- the number of an element: its place and index -/
def jv_ix (x : jv_V) (i : Int) (L : jv_L) (f : Nat → Nat → Int → α) : α := match x with
  | .inr (.inr (.inl p)) => match L[p]? with
    | some (kd, n, _) => ck (0 ≤ i ∧ i < Int.ofNat n) inferInstance (f kd p i)
    | none => bad
  | .inr (.inr (.inr (.inl (p, j)))) => match L[p]? with
    | some (2, _, [m]) => ck (0 ≤ i ∧ i < Int.ofNat m) inferInstance (f 0 p (j * Int.ofNat m + i))
    | _ => bad
  | _ => bad
def jv_ar (n : Nat) (ld : Nat) (ls st : List jv_V) (L : jv_L) (g : jv_S) : α := match ld, st with
  | 0, .inl i :: x :: st => jv_ix ck bad x i L (fun kd p j => match kd with
    | 0 => go n ls (.inl (g p j) :: st) L g
    | 5 => go n ls (.inl (g p j) :: st) L g
    | _ => bad)
  | 1, .inl i :: x :: st => jv_ix ck bad x i L (fun kd p j => match kd with
    | 1 => go n ls (.inr (.inl (g p j)) :: st) L g
    | _ => bad)
  | 2, .inl i :: x :: st => jv_ix ck bad x i L (fun kd p j => match kd with
    | 2 => go n ls (.inr (.inr (.inr (.inl (p, j)))) :: st) L g
    | 3 => go n ls (.inr (.inr (.inr (.inr (.inl (g p j))))) :: st) L g
    | _ => bad)
  | 3, .inl v :: .inl i :: x :: st => jv_ix ck bad x i L (fun kd p j => match kd with
    | 0 => go n ls st L (jv_up g p j v)
    | _ => bad)
  | 4, .inr (.inl v) :: .inl i :: x :: st => jv_ix ck bad x i L (fun kd p j => match kd with
    | 1 => go n ls st L (jv_up g p j v)
    | _ => bad)
  | 5, .inr (.inr (.inr (.inr (.inl v)))) :: .inl i :: x :: st => jv_ix ck bad x i L (fun kd p j => match kd with
    | 3 => ck (0 < v ∧ L[(v - 1).toNat]? = some (11, 8, [])) inferInstance (go n ls st L (jv_up g p j v))
    | _ => bad)
  | _, _ => bad
def jv_sz (x : jv_V) (L : jv_L) (f : Nat → α) : α := match x with
  | .inr (.inr (.inl p)) => match L[p]? with
    | some (kd, n, _) => match Nat.ble kd 5 with
      | true => f n
      | false => bad
    | none => bad
  | .inr (.inr (.inr (.inl (p, _)))) => match L[p]? with
    | some (2, _, [m]) => f m
    | _ => bad
  | _ => bad
/-- an int array or row: place, first index, length -/
def jv_vw (x : jv_V) (L : jv_L) (f : Nat → Int → Nat → α) : α := match x with
  | .inr (.inr (.inl p)) => match L[p]? with
    | some (0, n, _) => f p 0 n
    | _ => bad
  | .inr (.inr (.inr (.inl (p, j)))) => match L[p]? with
    | some (2, _, [m]) => f p (j * Int.ofNat m) m
    | _ => bad
  | _ => bad
def jv_cy (n : Nat) (ls st : List jv_V) (L : jv_L) (g : jv_S) : α := match st with
  | .inl c :: .inl dp :: y :: .inl sp :: x :: st => jv_vw bad x L (fun ps os ns => jv_vw bad y L (fun pd od nd => match Nat.ble (jv_cat st) 8 with
    | true => ck (0 ≤ sp ∧ 0 ≤ dp ∧ 0 ≤ c ∧ sp + c ≤ Int.ofNat ns ∧ dp + c ≤ Int.ofNat nd) inferInstance (go n ls st L (jv_cp g ps (os + sp) pd (od + dp) c))
    | false => bad))
  | _ => bad
def jv_in (n : Nat) (r : List Nat) (ls st : List jv_V) (L : jv_L) (g : jv_S) : α := match r with
  | [1000] => jv_cy ck bad go n ls st L g
  | [1001] => match st with
    | .inr (.inr (.inl _)) :: st => match Nat.ble (jv_cat st) 8 with
      | true => go n ls st L g
      | false => bad
    | .inr (.inr (.inr (.inr (.inl q)))) :: st => match Nat.ble (jv_cat st) 8 with
      | true => ck (0 < q ∧ L[(q - 1).toNat]? = some (11, 8, [])) inferInstance (go n ls st L g)
      | false => bad
    | _ => bad
  | [k, c, rc] => match Nat.ble c st.length, Nat.ble (jv_cat (st.drop c)) 8 with
    | true, true => match rc, (st.take c).reverse with
      | 0, as => call k as (st.drop c)
      | rc + 1, .inr (.inr (.inl p)) :: as => match L[p]? with
        | some (kd, _, _) => match Nat.beq kd rc with
          | true => call k (.inr (.inr (.inl p)) :: as) (st.drop c)
          | false => bad
        | none => bad
      | 12, .inr (.inr (.inr (.inr (.inl q)))) :: as => ck (0 < q ∧ L[(q - 1).toNat]? = some (11, 8, [])) inferInstance (call k (.inr (.inr (.inr (.inr (.inl q)))) :: as) (st.drop c))
      | _, _ => bad
    | _, _ => bad
  | _ => bad
def jv_nw (n : Nat) (r : List Nat) (ls st : List jv_V) (L : jv_L) (g : jv_S) : α := match r with
  | [1, 8] => ck (L.length < 999) inferInstance (go n ls (.inr (.inr (.inr (.inr (.inl (Int.ofNat L.length + 1))))) :: st) (L ++ [(11, 8, [])]) (jv_cll g (Int.ofNat L.length + 1)))
  | [ci, ns] => match Nat.blt L.length 999 with
    | true => go n ls (.inr (.inr (.inl L.length)) :: st) (L ++ [(10 + ci, ns, List.replicate ns 0)]) (jv_cl g L.length)
    | false => bad
  | _ => bad
def jv_na (n kd : Nat) (ls st : List jv_V) (L : jv_L) (g : jv_S) : α := match st with
  | .inl c :: st => match Nat.blt L.length 999 with
    | true => ck (0 ≤ c ∧ c ≤ 100000) inferInstance (go n ls (.inr (.inr (.inl L.length)) :: st) (L ++ [(kd, c.toNat, [])]) (jv_cl g L.length))
    | false => bad
  | _ => bad
def jv_mn (n : Nat) (ls st : List jv_V) (L : jv_L) (g : jv_S) : α := match st with
  | .inl m :: .inl c :: st => match Nat.blt (L.length + c.toNat) 999 with
    | true => ck (0 ≤ c ∧ c ≤ 100 ∧ 0 ≤ m ∧ m ≤ 100) inferInstance (go n ls (.inr (.inr (.inl L.length)) :: st) (L ++ (2, c.toNat, [m.toNat]) :: jv_rows L.length c.toNat m.toNat) (jv_cl g L.length))
    | false => bad
  | _ => bad
/-- one instruction -/
def jv_st (e : jv_E) (ls st : List jv_V) (L : jv_L) (g : jv_S) : α := match e with
  | (pc, i, len, r, z) => match i with
    | .iconst _ | .bipush _ | .sipush _ | .ldc_w _ => go (pc + len) ls (.inl z :: st) L g
    | .lconst _ | .ldc2_w _ => go (pc + len) ls (.inr (.inl z) :: st) L g
    | .aconst_null => go (pc + len) ls (.inr (.inr (.inr (.inr (.inl 0)))) :: st) L g
    | .iload_n k => jv_ld bad go k.val (pc + len) 0 ls st L g
    | .iload k => jv_ld bad go k (pc + len) 0 ls st L g
    | .lload_n k => jv_ld bad go k.val (pc + len) 1 ls st L g
    | .lload k => jv_ld bad go k (pc + len) 1 ls st L g
    | .aload_n k => jv_ld bad go k.val (pc + len) 2 ls st L g
    | .aload k => jv_ld bad go k (pc + len) 2 ls st L g
    | .istore_n k => jv_so bad go k.val (pc + len) 0 ls st L g
    | .istore k => jv_so bad go k (pc + len) 0 ls st L g
    | .lstore_n k => jv_so bad go k.val (pc + len) 1 ls st L g
    | .lstore k => jv_so bad go k (pc + len) 1 ls st L g
    | .astore_n k => jv_so bad go k.val (pc + len) 2 ls st L g
    | .astore k => jv_so bad go k (pc + len) 2 ls st L g
    | .iinc k c => match ls[k]? with
      | some (.inl x) => a32 (x + c) (fun v => go (pc + len) (jv_s1 ls k (.inl v)) st L g)
      | _ => bad
    | .iadd => match st with
      | .inl b :: .inl a :: st => a32 (a + b) (fun v => go (pc + len) ls (.inl v :: st) L g)
      | _ => bad
    | .isub => match st with
      | .inl b :: .inl a :: st => a32 (a - b) (fun v => go (pc + len) ls (.inl v :: st) L g)
      | _ => bad
    | .imul => match st with
      | .inl b :: .inl a :: st => a32 (a * b) (fun v => go (pc + len) ls (.inl v :: st) L g)
      | _ => bad
    | .ineg => match st with
      | .inl a :: st => a32 (- a) (fun v => go (pc + len) ls (.inl v :: st) L g)
      | _ => bad
    | .idiv => match st with
      | .inl b :: .inl a :: st => ck (0 ≤ a ∧ 0 < b) inferInstance (go (pc + len) ls (.inl (a / b) :: st) L g)
      | _ => bad
    | .irem => match st with
      | .inl b :: .inl a :: st => ck (0 ≤ a ∧ 0 < b) inferInstance (go (pc + len) ls (.inl (a % b) :: st) L g)
      | _ => bad
    | .iand => match st with
      | .inl b :: .inl a :: st => go (pc + len) ls (.inl (jv_and a b) :: st) L g
      | _ => bad
    | .ior => match st with
      | .inl b :: .inl a :: st => go (pc + len) ls (.inl (jv_or a b) :: st) L g
      | _ => bad
    | .ixor => match st with
      | .inl b :: .inl a :: st => go (pc + len) ls (.inl (jv_xor a b) :: st) L g
      | _ => bad
    | .ishl => match st with
      | .inl b :: .inl a :: st => go (pc + len) ls (.inl (jv_shl a b) :: st) L g
      | _ => bad
    | .ishr => match st with
      | .inl b :: .inl a :: st => go (pc + len) ls (.inl (jv_shr a b) :: st) L g
      | _ => bad
    | .iushr => match st with
      | .inl b :: .inl a :: st => go (pc + len) ls (.inl (jv_ushr a b) :: st) L g
      | _ => bad
    | .i2b => match st with
      | .inl a :: st => go (pc + len) ls (.inl (jv_i2b a) :: st) L g
      | _ => bad
    | .i2s => match st with
      | .inl a :: st => go (pc + len) ls (.inl (jv_i2s a) :: st) L g
      | _ => bad
    | .i2l => match st with
      | .inl a :: st => go (pc + len) ls (.inr (.inl a) :: st) L g
      | _ => bad
    | .ladd => match st with
      | .inr (.inl b) :: .inr (.inl a) :: st => a64 (a + b) (fun v => go (pc + len) ls (.inr (.inl v) :: st) L g)
      | _ => bad
    | .lmul => match st with
      | .inr (.inl b) :: .inr (.inl a) :: st => a64 (a * b) (fun v => go (pc + len) ls (.inr (.inl v) :: st) L g)
      | _ => bad
    | .lneg => match st with
      | .inr (.inl a) :: st => a64 (- a) (fun v => go (pc + len) ls (.inr (.inl v) :: st) L g)
      | _ => bad
    | .ldiv => match st with
      | .inr (.inl b) :: .inr (.inl a) :: st => ck (0 ≤ a ∧ 0 < b) inferInstance (go (pc + len) ls (.inr (.inl (a / b)) :: st) L g)
      | _ => bad
    | .lrem => match st with
      | .inr (.inl b) :: .inr (.inl a) :: st => ck (0 ≤ a ∧ 0 < b) inferInstance (go (pc + len) ls (.inr (.inl (a % b)) :: st) L g)
      | _ => bad
    | .lcmp => match st with
      | .inr (.inl b) :: .inr (.inl a) :: st => go (pc + len) ls (.inl (jv_cmp a b) :: st) L g
      | _ => bad
    | .dup => match st with
      | .inr (.inl _) :: _ => bad
      | x :: st => go (pc + len) ls (x :: x :: st) L g
      | _ => bad
    | .dup2 => match st with
      | .inl i :: x :: st => match x with
        | .inr (.inl _) => bad
        | x => go (pc + len) ls (.inl i :: x :: .inl i :: x :: st) L g
      | _ => bad
    | .goto _ => match r with
      | [t] => go t ls st L g
      | _ => bad
    | .ifCond cnd _ => match st, r with
      | .inl a :: st, [t] => jv_b2 br cnd a 0 (go t ls st L g) (go (pc + len) ls st L g)
      | _, _ => bad
    | .if_icmp cnd _ => match st, r with
      | .inl b :: .inl a :: st, [t] => jv_b2 br cnd a b (go t ls st L g) (go (pc + len) ls st L g)
      | _, _ => bad
    | .ifnull _ => match st, r with
      | .inr (.inr (.inr (.inr (.inl q)))) :: st, [t] => br (q = 0) inferInstance (go t ls st L g) (go (pc + len) ls st L g)
      | _, _ => bad
    | .ifnonnull _ => match st, r with
      | .inr (.inr (.inr (.inr (.inl q)))) :: st, [t] => br (q = 0) inferInstance (go (pc + len) ls st L g) (go t ls st L g)
      | _, _ => bad
    | .tableswitch _ lo _ _ => match st, r with
      | .inl x :: st, d :: ts => jv_sw br x (fun t => go t ls st L g) d lo ts
      | _, _ => bad
    | .lookupswitch _ ps => match st, r with
      | .inl x :: st, d :: ts => jv_lw br x (fun t => go t ls st L g) d ps.toList ts
      | _, _ => bad
    | .getfield _ => match r with
      | [kd, k, ty] => jv_gf ck bad go (pc + len) kd k ty ls st L g
      | _ => bad
    | .putfield _ => match r with
      | [kd, k, ty] => jv_pf ck bad go (pc + len) kd k ty ls st L g
      | _ => bad
    | .iaload => jv_ar ck bad go (pc + len) 0 ls st L g
    | .laload => jv_ar ck bad go (pc + len) 1 ls st L g
    | .aaload => jv_ar ck bad go (pc + len) 2 ls st L g
    | .iastore => jv_ar ck bad go (pc + len) 3 ls st L g
    | .lastore => jv_ar ck bad go (pc + len) 4 ls st L g
    | .aastore => jv_ar ck bad go (pc + len) 5 ls st L g
    | .arraylength => match st with
      | x :: st => jv_sz bad x L (fun n => go (pc + len) ls (.inl (Int.ofNat n) :: st) L g)
      | _ => bad
    | .invokevirtual _ | .invokespecial _ | .invokestatic _ => jv_in ck bad go call (pc + len) r ls st L g
    | .new _ => jv_nw ck bad go (pc + len) r ls st L g
    | .newarray .int => jv_na ck bad go (pc + len) 0 ls st L g
    | .newarray .long => jv_na ck bad go (pc + len) 1 ls st L g
    | .anewarray _ => jv_na ck bad go (pc + len) 3 ls st L g
    | .multianewarray _ _ => jv_mn ck bad go (pc + len) ls st L g
    | .ireturn => match st, r with
      | [.inl x], [0] => ret (.inl x) L g
      | [.inl x], [1] => ck (x = 0 ∨ x = 1) inferInstance (ret (.inl x) L g)
      | _, _ => bad
    | .lreturn => match st with
      | [.inr (.inl x)] => ret (.inr (.inl x)) L g
      | _ => bad
    | .areturn => match st with
      | [.inr (.inr (.inr (.inr (.inl x))))] => ret (.inr (.inr (.inr (.inr (.inl x))))) L g
      | _ => bad
    | .return_ => match st with
      | [] => ret jv_U L g
      | _ => bad
    | _ => bad
end
end
section
/-! ===== the machine's step as data, its run, and what is to be shown of it ===== -/
abbrev jv_C : Type := (c : Prop) × Decidable c
abbrev jv_Go : Type := Nat × List jv_V × List jv_V × jv_L × jv_S
abbrev jv_N : Type := (List (jv_C × jv_Go) × jv_Go) ⊕ (Int × (Int → jv_Go)) ⊕ (Int × (Int → jv_Go)) ⊕ (jv_V × jv_L × jv_S) ⊕ (Nat × List jv_V × List jv_V)
abbrev jv_X : Type := Option (List jv_C × jv_N)
def jv_un (x : jv_X) : jv_Go := match x with
  | some ([], .inl ([], go)) => go
  | _ => (0, [], [], [], fun _ _ => 0)
def jv_ckR (c : Prop) (d : Decidable c) (x : jv_X) : jv_X := match x with
  | some (cs, n) => some (⟨c, d⟩ :: cs, n)
  | none => none
def jv_brR (c : Prop) (d : Decidable c) (a b : jv_X) : jv_X := match a, b with
  | some ([], .inl ([], ga)), some ([], .inl (l, gb)) => some ([], .inl ((⟨c, d⟩, ga) :: l, gb))
  | _, _ => none
def jv_aR32 (z : Int) (f : Int → jv_X) : jv_X := some ([], .inr (.inl (z, fun v => jv_un (f v))))
def jv_aR64 (z : Int) (f : Int → jv_X) : jv_X := some ([], .inr (.inr (.inl (z, fun v => jv_un (f v)))))
def jv_goR (pc : Nat) (ls st : List jv_V) (L : jv_L) (g : jv_S) : jv_X := some ([], .inl ([], (pc, ls, st, L, g)))
def jv_reR (r : jv_V) (L : jv_L) (g : jv_S) : jv_X := some ([], .inr (.inr (.inr (.inl (r, L, g)))))
def jv_caR (k : Nat) (as rest : List jv_V) : jv_X := some ([], .inr (.inr (.inr (.inr (k, as, rest)))))
def jv_sx (e : jv_E) (ls st : List jv_V) (L : jv_L) (g : jv_S) : jv_X := jv_st jv_ckR jv_brR jv_aR32 jv_aR64 none jv_goR jv_reR jv_caR e ls st L g
def jv_fi : List jv_E → Nat → Option jv_E
  | [], _ => none
  | e :: t, pc => match Nat.beq e.1 pc with
    | true => some e
    | false => jv_fi t pc
def jv_ok : List jv_C → Bool
  | [] => true
  | c :: t => @ite _ c.1 c.2 (jv_ok t) false
def jv_dl {α : Type} (f : jv_Go → α) : List (jv_C × jv_Go) → jv_Go → α
  | [], d => f d
  | (c, a) :: t, d => @ite _ c.1 c.2 (f a) (jv_dl f t d)
def jv_cks : List jv_C → Prop → Prop
  | [], p => p
  | c :: t, p => c.1 ∧ jv_cks t p
def jv_dlP (f : jv_Go → Prop) : List (jv_C × jv_Go) → jv_Go → Prop
  | [], d => f d
  | (c, a) :: t, d => (c.1 → f a) ∧ (¬ c.1 → jv_dlP f t d)
section
variable (T : Nat → List jv_E) (ML : Nat → Nat)
def jv_nx (E : Nat → Nat → List jv_V → List jv_V → jv_L → jv_S → Option (jv_V × jv_L × jv_S)) (k pc : Nat) (ls : List jv_V) (L : jv_L) (g : jv_S) (nx : jv_N) : Option (jv_V × jv_L × jv_S) := match nx with
  | .inl (l, d) => jv_dl (fun q => E k q.1 q.2.1 q.2.2.1 q.2.2.2.1 q.2.2.2.2) l d
  | .inr (.inl (z, f)) => E k (f (jv_w32 z)).1 (f (jv_w32 z)).2.1 (f (jv_w32 z)).2.2.1 (f (jv_w32 z)).2.2.2.1 (f (jv_w32 z)).2.2.2.2
  | .inr (.inr (.inl (z, f))) => E k (f (jv_w64 z)).1 (f (jv_w64 z)).2.1 (f (jv_w64 z)).2.2.1 (f (jv_w64 z)).2.2.2.1 (f (jv_w64 z)).2.2.2.2
  | .inr (.inr (.inr (.inl r))) => some r
  | .inr (.inr (.inr (.inr (k', as, rest)))) => match E k' 0 (jv_en (ML k') as) [] L g with
    | none => none
    | some (r, L', g') => E k (pc + 3) ls (jv_pu r rest) L' g'
def jv_ex : Nat → Nat → Nat → List jv_V → List jv_V → jv_L → jv_S → Option (jv_V × jv_L × jv_S)
  | 0, _, _, _, _, _, _ => none
  | n + 1, k, pc, ls, st, L, g => match jv_fi (T k) pc with
    | none => none
    | some e => match jv_sx e ls st L g with
      | none => none
      | some (cs, nx) => match jv_ok cs with
        | false => none
        | true => jv_nx ML (jv_ex n) k pc ls L g nx
/-- from here the method k comes to its end, with Q -/
def jv_At (k pc : Nat) (ls st : List jv_V) (L : jv_L) (g : jv_S) (Q : jv_V → jv_L → jv_S → Prop) : Prop := ∃ (n : Nat) (r : jv_V) (L' : jv_L) (g' : jv_S), jv_ex T ML n k pc ls st L g = some (r, L', g') ∧ Q r L' g'
/-- the call of method k comes to its end, with Q -/
def jv_Ca (k : Nat) (as : List jv_V) (L : jv_L) (g : jv_S) (Q : jv_V → jv_L → jv_S → Prop) : Prop := jv_At T ML k 0 (jv_en (ML k) as) [] L g Q
abbrev jv_G : Type := List (Nat × (List jv_V → jv_L → jv_S → Prop) × (List jv_V → jv_S → jv_V))
def jv_gf1 : jv_G → Nat → Option ((List jv_V → jv_L → jv_S → Prop) × (List jv_V → jv_S → jv_V))
  | [], _ => none
  | e :: t, k => match Nat.beq e.1 k with
    | true => some e.2
    | false => jv_gf1 t k
/-- what is to be shown, from pc on up to the stops -/
def jv_wp (G : jv_G) (md stop : List Nat) (k : Nat) (tab : List jv_E) (Q : jv_V → jv_L → jv_S → Prop) : Nat → Nat → List jv_V → List jv_V → jv_L → jv_S → Prop
  | 0, pc, ls, st, L, g => jv_At T ML k pc ls st L g Q
  | n + 1, pc, ls, st, L, g => match jv_fi tab pc with
    | none => False
    | some e => match jv_sx e ls st L g with
      | none => False
      | some (cs, nx) => jv_cks cs (match nx with
          | .inl (l, d) => jv_dlP (fun q => match stop.contains q.1 with
            | true => jv_At T ML k q.1 q.2.1 q.2.2.1 q.2.2.2.1 q.2.2.2.2 Q
            | false => jv_wp G md stop k tab Q n q.1 q.2.1 q.2.2.1 q.2.2.2.1 q.2.2.2.2) l d
          | .inr (.inl (z, f)) => match md.contains pc with
            | true => jv_wp G md stop k tab Q n (f (jv_w32 z)).1 (f (jv_w32 z)).2.1 (f (jv_w32 z)).2.2.1 (f (jv_w32 z)).2.2.2.1 (f (jv_w32 z)).2.2.2.2
            | false => jv_r32 z ∧ jv_wp G md stop k tab Q n (f z).1 (f z).2.1 (f z).2.2.1 (f z).2.2.2.1 (f z).2.2.2.2
          | .inr (.inr (.inl (z, f))) => match md.contains pc with
            | true => jv_wp G md stop k tab Q n (f (jv_w64 z)).1 (f (jv_w64 z)).2.1 (f (jv_w64 z)).2.2.1 (f (jv_w64 z)).2.2.2.1 (f (jv_w64 z)).2.2.2.2
            | false => jv_r64 z ∧ jv_wp G md stop k tab Q n (f z).1 (f z).2.1 (f z).2.2.1 (f z).2.2.2.1 (f z).2.2.2.2
          | .inr (.inr (.inr (.inl (r, L', g')))) => Q r L' g'
          | .inr (.inr (.inr (.inr (k', as, rest)))) => match jv_gf1 G k' with
            | some (pre, res) => pre as L g ∧ (match stop.contains (pc + 3) with
              | true => jv_At T ML k (pc + 3) ls (jv_pu (res as g) rest) L g Q
              | false => jv_wp G md stop k tab Q n (pc + 3) ls (jv_pu (res as g) rest) L g)
            | none => jv_Ca T ML k' as L g (fun r L' g' => jv_At T ML k (pc + 3) ls (jv_pu r rest) L' g' Q))
end
section
variable {T : Nat → List jv_E} {ML : Nat → Nat}
theorem jv_dl_some {α : Type} {f f' : jv_Go → Option α} {x : α} (h : ∀ q, f q = some x → f' q = some x) : ∀ (l : List (jv_C × jv_Go)) (d : jv_Go), jv_dl f l d = some x → jv_dl f' l d = some x
  | [], d, hd => h d hd
  | (c, a) :: t, d, hd => by
    obtain ⟨c, dc⟩ := c
    unfold jv_dl at hd ⊢
    by_cases hc : c
    · rw [if_pos hc] at hd ⊢
      exact h a hd
    · rw [if_neg hc] at hd ⊢
      exact jv_dl_some h t d hd
theorem jv_ex_mono : ∀ (n : Nat) (k pc : Nat) (ls st : List jv_V) (L : jv_L) (g : jv_S) (x : jv_V × jv_L × jv_S), jv_ex T ML n k pc ls st L g = some x → jv_ex T ML (n + 1) k pc ls st L g = some x := by
  intro n
  induction n with
  | zero => intro k pc ls st L g x h; cases h
  | succ n ih =>
    intro k pc ls st L g x h
    rw [jv_ex] at h ⊢
    cases he : jv_fi (T k) pc with
    | none => rw [he] at h; cases h
    | some e =>
      rw [he] at h
      dsimp only at h ⊢
      cases hs : jv_sx e ls st L g with
      | none => rw [hs] at h; cases h
      | some y =>
        obtain ⟨cs, nx⟩ := y
        rw [hs] at h
        dsimp only at h ⊢
        cases hk : jv_ok cs with
        | false => rw [hk] at h; cases h
        | true =>
          rw [hk] at h
          dsimp only at h ⊢
          rcases nx with ⟨l, d⟩ | ⟨z, f⟩ | ⟨z, f⟩ | r | ⟨k', as, rest⟩ <;> unfold jv_nx at h ⊢
          · exact jv_dl_some (fun q hq => ih _ _ _ _ _ _ _ hq) l d h
          · exact ih _ _ _ _ _ _ _ h
          · exact ih _ _ _ _ _ _ _ h
          · exact h
          · dsimp only at h ⊢
            cases hc : jv_ex T ML n k' 0 (jv_en (ML k') as) [] L g with
            | none => rw [hc] at h; cases h
            | some w =>
              obtain ⟨r, L', g'⟩ := w
              rw [hc] at h
              rw [ih _ _ _ _ _ _ _ hc]
              exact ih _ _ _ _ _ _ _ h
theorem jv_ex_le {n m : Nat} (hm : n ≤ m) {k pc : Nat} {ls st : List jv_V} {L : jv_L} {g : jv_S} {x : jv_V × jv_L × jv_S} (h : jv_ex T ML n k pc ls st L g = some x) : jv_ex T ML m k pc ls st L g = some x := by
  induction hm with
  | refl => exact h
  | step _ ih => exact jv_ex_mono _ _ _ _ _ _ _ _ ih
theorem jv_At.mono {k pc : Nat} {ls st : List jv_V} {L : jv_L} {g : jv_S} {Q Q' : jv_V → jv_L → jv_S → Prop} (h : jv_At T ML k pc ls st L g Q) (hq : ∀ r L' g', Q r L' g' → Q' r L' g') : jv_At T ML k pc ls st L g Q' := by
  obtain ⟨n, r, L', g', h1, h2⟩ := h
  exact ⟨n, r, L', g', h1, hq _ _ _ h2⟩
theorem jv_cks_ok : ∀ (cs : List jv_C) {p : Prop}, jv_cks cs p → jv_ok cs = true ∧ p
  | [], _, h => ⟨rfl, h⟩
  | c :: t, _, h => by
    obtain ⟨h1, h2⟩ := h
    obtain ⟨h3, h4⟩ := jv_cks_ok t h2
    refine ⟨?_, h4⟩
    unfold jv_ok
    rw [if_pos h1]
    exact h3
theorem jv_dlP_dl {α : Type} {F : jv_Go → Prop} {f : jv_Go → Option α} {x : Nat → jv_Go → Option α} {Qx : α → Prop} (h : ∀ q, F q → ∃ n y, x n q = some y ∧ Qx y) : ∀ (l : List (jv_C × jv_Go)) (d : jv_Go), jv_dlP F l d → ∃ n y, jv_dl (x n) l d = some y ∧ Qx y
  | [], d, hd => h d hd
  | (c, a) :: t, d, hd => by
    obtain ⟨c, dc⟩ := c
    obtain ⟨h1, h2⟩ := hd
    by_cases hc : c
    · obtain ⟨n, y, e1, e2⟩ := h a (h1 hc)
      refine ⟨n, y, ?_, e2⟩
      unfold jv_dl
      rw [if_pos hc]
      exact e1
    · obtain ⟨n, y, e1, e2⟩ := jv_dlP_dl (f := f) h t d (h2 hc)
      refine ⟨n, y, ?_, e2⟩
      unfold jv_dl
      rw [if_neg hc]
      exact e1
theorem jv_w32_eq {z : Int} (h : jv_r32 z) : jv_w32 z = z := by
  unfold jv_w32
  have h := h
  unfold jv_r32 at h
  rw [Int32.toInt_ofInt]
  rw [Int.bmod_eq_of_le] <;> (show _ ; simp [Int32.size] ; omega)
theorem jv_w64_eq {z : Int} (h : jv_r64 z) : jv_w64 z = z := by
  unfold jv_w64
  unfold jv_r64 at h
  rw [Int64.toInt_ofInt]
  rw [Int.bmod_eq_of_le] <;> (show _ ; simp [Int64.size] ; omega)
/-- what the pure calls of G answer is so -/
def jv_GOk (T : Nat → List jv_E) (ML : Nat → Nat) (G : jv_G) : Prop := ∀ (k : Nat) (pre : List jv_V → jv_L → jv_S → Prop) (res : List jv_V → jv_S → jv_V), jv_gf1 G k = some (pre, res) → ∀ (as : List jv_V) (L : jv_L) (g : jv_S), pre as L g → ∃ n, jv_ex T ML n k 0 (jv_en (ML k) as) [] L g = some (res as g, L, g)
theorem jv_of_wp {G : jv_G} (hG : jv_GOk T ML G) {md stop : List Nat} {k : Nat} {tab : List jv_E} (ht : T k = tab) {Q : jv_V → jv_L → jv_S → Prop} : ∀ (n pc : Nat) (ls st : List jv_V) (L : jv_L) (g : jv_S), jv_wp T ML G md stop k tab Q n pc ls st L g → jv_At T ML k pc ls st L g Q := by
  intro n
  induction n with
  | zero => intro pc ls st L g h; exact h
  | succ n ih =>
    intro pc ls st L g h
    rw [jv_wp] at h
    cases he : jv_fi tab pc with
    | none => rw [he] at h; exact h.elim
    | some e =>
      rw [he] at h
      dsimp only at h
      cases hs : jv_sx e ls st L g with
      | none => rw [hs] at h; exact h.elim
      | some y =>
        obtain ⟨cs, nx⟩ := y
        rw [hs] at h
        dsimp only at h
        obtain ⟨hok, h⟩ := jv_cks_ok cs h
        have key : (∃ (n : Nat) (y : jv_V × jv_L × jv_S), jv_nx ML (jv_ex T ML n) k pc ls L g nx = some y ∧ Q y.1 y.2.1 y.2.2) → jv_At T ML k pc ls st L g Q := by
          rintro ⟨n, ⟨r, L', g'⟩, e1, e2⟩
          refine ⟨n + 1, r, L', g', ?_, e2⟩
          rw [jv_ex, ht, he]
          dsimp only
          rw [hs]
          dsimp only
          rw [hok]
          exact e1
        have at_ : ∀ {pc : Nat} {ls st : List jv_V} {L : jv_L} {g : jv_S}, jv_At T ML k pc ls st L g Q → ∃ (n : Nat) (y : jv_V × jv_L × jv_S), jv_ex T ML n k pc ls st L g = some y ∧ Q y.1 y.2.1 y.2.2 := by
          rintro pc ls st L g ⟨n, r, L', g', e1, e2⟩
          exact ⟨n, (r, L', g'), e1, e2⟩
        apply key
        rcases nx with ⟨l, d⟩ | ⟨z, f⟩ | ⟨z, f⟩ | ⟨r, L', g'⟩ | ⟨k', as, rest⟩
        · refine jv_dlP_dl (F := _) (f := fun _ => none) (x := fun n q => jv_ex T ML n k q.1 q.2.1 q.2.2.1 q.2.2.2.1 q.2.2.2.2) (Qx := fun y => Q y.1 y.2.1 y.2.2) (fun q hq => ?_) l d h
          split at hq
          · exact at_ hq
          · exact at_ (ih _ _ _ _ _ hq)
        · unfold jv_nx
          dsimp only at h ⊢
          split at h
          · exact at_ (ih _ _ _ _ _ h)
          · obtain ⟨hr, h⟩ := h
            rw [jv_w32_eq hr]
            exact at_ (ih _ _ _ _ _ h)
        · unfold jv_nx
          dsimp only at h ⊢
          split at h
          · exact at_ (ih _ _ _ _ _ h)
          · obtain ⟨hr, h⟩ := h
            rw [jv_w64_eq hr]
            exact at_ (ih _ _ _ _ _ h)
        · exact ⟨0, (r, L', g'), rfl, h⟩
        · dsimp only at h ⊢
          split at h
          · next pre res hg =>
            obtain ⟨hp, h⟩ := h
            obtain ⟨n1, e1⟩ := hG k' pre res hg as L g hp
            have h2 : jv_At T ML k (pc + 3) ls (jv_pu (res as g) rest) L g Q := by
              split at h
              · exact h
              · exact ih _ _ _ _ _ h
            obtain ⟨n2, y, e2, e3⟩ := at_ h2
            refine ⟨max n1 n2, y, ?_, e3⟩
            unfold jv_nx
            dsimp only
            rw [jv_ex_le (Nat.le_max_left n1 n2) e1]
            exact jv_ex_le (Nat.le_max_right n1 n2) e2
          · obtain ⟨n1, r, L', g', e1, n2, r2, L2, g2, e2, e3⟩ := h
            refine ⟨max n1 n2, (r2, L2, g2), ?_, e3⟩
            unfold jv_nx
            dsimp only
            rw [jv_ex_le (Nat.le_max_left n1 n2) e1]
            exact jv_ex_le (Nat.le_max_right n1 n2) e2
end
end
