-- THE ABSTRACT MACHINE: a pure picture of the bytecode of both classes over a store of numbers; refs are (group, row)
abbrev jm_V : Type := (Int32 ⊕ Int64) ⊕ (Nat × Nat)
abbrev jm_I (x : Int32) : jm_V := .inl (.inl x)
abbrev jm_L (x : Int64) : jm_V := .inl (.inr x)
abbrev jm_R (k r : Nat) : jm_V := .inr (k, r)
abbrev jm_S : Type := (Nat → Nat → Nat → Int32) × (Nat → Nat → Nat → Int64)
def jm_wr (σ : jm_S) (k r : Nat) (f : Nat → Int32) : jm_S := (fun k' r' => if k' = k ∧ r' = r then f else σ.1 k' r', σ.2)
def jm_wl (σ : jm_S) (k r : Nat) (f : Nat → Int64) : jm_S := (σ.1, fun k' r' => if k' = k ∧ r' = r then f else σ.2 k' r')
def jm_wi (σ : jm_S) (k r j : Nat) (x : Int32) : jm_S := jm_wr σ k r (upd (σ.1 k r) j x)
def jm_wj (σ : jm_S) (k r j : Nat) (x : Int64) : jm_S := jm_wl σ k r (vp_updL (σ.2 k r) j x)
def jm_wc (σ : jm_S) (k1 r1 k0 r0 sp dp n : Nat) : jm_S := jm_wr σ k1 r1 (va_cpy (σ.1 k0 r0) (σ.1 k1 r1) sp dp n)
def jm_lk : List (Nat × Instr × Nat) → Nat → Option (Instr × Nat)
  | [], _ => none
  | (a, i) :: t, pc => match Nat.beq a pc with
    | true => some i
    | false => jm_lk t pc
def jm_gl : List (Option jm_V) → Nat → Option jm_V
  | [], _ => none
  | o :: _, 0 => o
  | _ :: l, n + 1 => jm_gl l n
def jm_kl (o : Option jm_V) : Option jm_V := match o with
  | some (.inl (.inr _)) => none
  | some (.inl (.inl x)) => some (.inl (.inl x))
  | some (.inr q) => some (.inr q)
  | none => none
def jm_t0 : List (Option jm_V) → List (Option jm_V)
  | [] => []
  | _ :: l => none :: l
def jm_s1 : List (Option jm_V) → Nat → jm_V → List (Option jm_V)
  | [], _, _ => []
  | _ :: l, 0, v => some v :: l
  | o :: l, 1, v => jm_kl o :: jm_s1 l 0 v
  | o :: l, n + 2, v => o :: jm_s1 l (n + 1) v
def jm_s2 : List (Option jm_V) → Nat → jm_V → List (Option jm_V)
  | [], _, _ => []
  | _ :: l, 0, v => some v :: jm_t0 l
  | o :: l, 1, v => jm_kl o :: jm_s2 l 0 v
  | o :: l, n + 2, v => o :: jm_s2 l (n + 1) v
abbrev jm_F : Type := jm_M × Nat × List (Option jm_V) × List jm_V × jm_S
abbrev jm_Rs : Type := Option jm_V × jm_S
abbrev jm_A : Type := Option ((List (Bool × jm_F) × Option jm_F) ⊕ ((Bool × jm_Rs) ⊕ (jm_M × List jm_V × jm_F)))
def jm_go (f : jm_F) : jm_A := some (.inl ([], some f))
def jm_if (b : Bool) (f : jm_F) : jm_A := some (.inl ([(b, f)], none))
def jm_br (b : Bool) (f g : jm_F) : jm_A := some (.inl ([(b, f)], some g))
def jm_p1 (st : List jm_V) (k : Int32 → List jm_V → jm_A) : jm_A := match st with
  | .inl (.inl x) :: st => k x st
  | _ => none
def jm_p2 (st : List jm_V) (k : Int32 → Int32 → List jm_V → jm_A) : jm_A := match st with
  | .inl (.inl y) :: .inl (.inl x) :: st => k x y st
  | _ => none
def jm_q1 (st : List jm_V) (k : Int64 → List jm_V → jm_A) : jm_A := match st with
  | .inl (.inr x) :: st => k x st
  | _ => none
def jm_q2 (st : List jm_V) (k : Int64 → Int64 → List jm_V → jm_A) : jm_A := match st with
  | .inl (.inr y) :: .inl (.inr x) :: st => k x y st
  | _ => none
def jm_pr (st : List jm_V) (k : Nat → Nat → List jm_V → jm_A) : jm_A := match st with
  | .inr (g, r) :: st => k g r st
  | _ => none
def jm_ix (st : List jm_V) (k : Int32 → Nat → Nat → List jm_V → jm_A) : jm_A := match st with
  | .inl (.inl i) :: .inr (g, r) :: st => k i g r st
  | _ => none
def jm_in3 (i : Int32) (n : Nat) : Bool := decide (¬ (i < 0 ∨ n ≤ i.toNatClampNeg))
def jm_b01 (x : Int32) : Bool := decide (x = 0 ∨ x = 1)
def jm_cat (v : jm_V) : Nat := match v with
  | .inl (.inr _) => 2
  | .inl (.inl _) => 1
  | .inr _ => 1
def jm_cats : List jm_V → Nat
  | [] => 0
  | v :: l => jm_cat v + jm_cats l
/-- the first n of a stack, in the order of the arguments, and the rest -/
def jm_take : Nat → List jm_V → List jm_V → Option (List jm_V × List jm_V)
  | 0, acc, st => some (acc, st)
  | _ + 1, _, [] => none
  | n + 1, acc, v :: st => jm_take n (v :: acc) st
/-- locals at the entry -/
def jm_lo : List jm_V → Nat → List (Option jm_V)
  | [], n => List.replicate n none
  | .inl (.inr x) :: l, n => some (.inl (.inr x)) :: none :: jm_lo l (n - 2)
  | .inl (.inl x) :: l, n => some (.inl (.inl x)) :: jm_lo l (n - 1)
  | .inr q :: l, n => some (.inr q) :: jm_lo l (n - 1)
def jm_tg (pc : Nat) (off : Int) : Nat := ((pc : Int) + off).toNat
def jm_cmp (c : Jvm.ClassFile.Cond) (x y : Int32) : Bool := match c with
  | .eq => decide (x = y)
  | .ne => decide (¬ x = y)
  | .lt => decide (x < y)
  | .ge => decide (y ≤ x)
  | .gt => decide (y < x)
  | .le => decide (x ≤ y)
def jm_ts (M : jm_M) (pc : Nat) (ls : List (Option jm_V)) (st : List jm_V) (σ : jm_S) (x : Int) : Int → List Int → List (Bool × jm_F)
  | _, [] => []
  | v, off :: l => (decide (x = v), (M, jm_tg pc off, ls, st, σ)) :: jm_ts M pc ls st σ x (v + 1) l
def jm_ls (M : jm_M) (pc : Nat) (ls : List (Option jm_V)) (st : List jm_V) (σ : jm_S) (x : Int) : List (Int × Int) → List (Bool × jm_F)
  | [] => []
  | (v, off) :: l => (decide (x = v), (M, jm_tg pc off, ls, st, σ)) :: jm_ls M pc ls st σ x l
def jm_push (M : jm_M) (pc : Nat) (ls : List (Option jm_V)) (st : List jm_V) (σ : jm_S) (v : jm_V) : jm_A := jm_go (M, pc, ls, v :: st, σ)
def jm_ild (M : jm_M) (pc : Nat) (ls : List (Option jm_V)) (st : List jm_V) (σ : jm_S) (i : Nat) : jm_A := match jm_gl ls i with
  | some (.inl (.inl x)) => jm_go (M, pc, ls, jm_I x :: st, σ)
  | _ => none
def jm_lld (M : jm_M) (pc : Nat) (ls : List (Option jm_V)) (st : List jm_V) (σ : jm_S) (i : Nat) : jm_A := match jm_gl ls i with
  | some (.inl (.inr x)) => jm_go (M, pc, ls, jm_L x :: st, σ)
  | _ => none
def jm_ald (M : jm_M) (pc : Nat) (ls : List (Option jm_V)) (st : List jm_V) (σ : jm_S) (i : Nat) : jm_A := match jm_gl ls i with
  | some (.inr (k, r)) => jm_go (M, pc, ls, jm_R k r :: st, σ)
  | _ => none
def jm_ist (M : jm_M) (pc : Nat) (ls : List (Option jm_V)) (st : List jm_V) (σ : jm_S) (i : Nat) : jm_A := match Nat.blt i M.2.2.1 with
  | true => jm_p1 st fun x st => jm_go (M, pc, jm_s1 ls i (jm_I x), st, σ)
  | false => none
def jm_lst (M : jm_M) (pc : Nat) (ls : List (Option jm_V)) (st : List jm_V) (σ : jm_S) (i : Nat) : jm_A := match Nat.blt (i + 1) M.2.2.1 with
  | true => jm_q1 st fun x st => jm_go (M, pc, jm_s2 ls i (jm_L x), st, σ)
  | false => none
def jm_inc (M : jm_M) (pc : Nat) (ls : List (Option jm_V)) (st : List jm_V) (σ : jm_S) (i : Nat) (n : Int) : jm_A := match Nat.blt i M.2.2.1 with
  | true => match jm_gl ls i with
    | some (.inl (.inl x)) => jm_go (M, pc, jm_s1 ls i (jm_I (x + Int32.ofInt n)), st, σ)
    | _ => none
  | false => none
def jm_getf (M : jm_M) (pc : Nat) (ls : List (Option jm_V)) (st : List jm_V) (σ : jm_S) (ix : Nat) : jm_A := match jm_lk2 jm_flL M.1 ix with
  | some (ci, j, _) => jm_pr st fun k r st => match jm_sh k with
    | (0, cj) => match Nat.beq cj ci with
      | true => match jm_rf k r j with
        | some (k', r') => jm_go (M, pc, ls, jm_R k' r' :: st, σ)
        | none => jm_go (M, pc, ls, jm_I (σ.1 k r j) :: st, σ)
      | false => none
    | _ => none
  | none => none
def jm_putf (M : jm_M) (pc : Nat) (ls : List (Option jm_V)) (st : List jm_V) (σ : jm_S) (ix : Nat) : jm_A := match jm_lk2 jm_flL M.1 ix with
  | some (ci, j, bz) => jm_p1 st fun x st => jm_pr st fun k r st => match jm_sh k with
    | (0, cj) => match Nat.beq cj ci with
      | true => match jm_rf k r j with
        | some _ => none
        | none => match bz with
          | 0 => jm_go (M, pc, ls, st, jm_wi σ k r j x)
          | 1 => jm_if (jm_b01 x) (M, pc, ls, st, jm_wi σ k r j x)
          | _ => none
      | false => none
    | _ => none
  | none => none
def jm_iald (M : jm_M) (pc : Nat) (ls : List (Option jm_V)) (st : List jm_V) (σ : jm_S) : jm_A := jm_ix st fun i k r st => match jm_sh k with
  | (1, n) => jm_if (jm_in3 i n) (M, pc, ls, jm_I (σ.1 k r i.toNatClampNeg) :: st, σ)
  | (5, n) => jm_if (jm_in3 i n) (M, pc, ls, jm_I ((jm_tb k).getD i.toNatClampNeg 0) :: st, σ)
  | _ => none
def jm_lald (M : jm_M) (pc : Nat) (ls : List (Option jm_V)) (st : List jm_V) (σ : jm_S) : jm_A := jm_ix st fun i k r st => match jm_sh k with
  | (2, n) => jm_if (jm_in3 i n) (M, pc, ls, jm_L (σ.2 k r i.toNatClampNeg) :: st, σ)
  | _ => none
def jm_zald (M : jm_M) (pc : Nat) (ls : List (Option jm_V)) (st : List jm_V) (σ : jm_S) : jm_A := jm_ix st fun i k r st => match jm_sh k with
  | (3, n) => jm_if (jm_in3 i n) (M, pc, ls, jm_I (σ.1 k r i.toNatClampNeg) :: st, σ)
  | _ => none
def jm_aald (M : jm_M) (pc : Nat) (ls : List (Option jm_V)) (st : List jm_V) (σ : jm_S) : jm_A := jm_ix st fun i k r st => match jm_sh k with
  | (4, n) => jm_if (jm_in3 i n) (M, pc, ls, .inr (jm_ra k r i.toNatClampNeg) :: st, σ)
  | _ => none
def jm_iast (M : jm_M) (pc : Nat) (ls : List (Option jm_V)) (st : List jm_V) (σ : jm_S) : jm_A := jm_p1 st fun x st => jm_ix st fun i k r st => match jm_sh k with
  | (1, n) => jm_if (jm_in3 i n) (M, pc, ls, st, jm_wi σ k r i.toNatClampNeg x)
  | _ => none
def jm_last (M : jm_M) (pc : Nat) (ls : List (Option jm_V)) (st : List jm_V) (σ : jm_S) : jm_A := jm_q1 st fun x st => jm_ix st fun i k r st => match jm_sh k with
  | (2, n) => jm_if (jm_in3 i n) (M, pc, ls, st, jm_wj σ k r i.toNatClampNeg x)
  | _ => none
def jm_zast (M : jm_M) (pc : Nat) (ls : List (Option jm_V)) (st : List jm_V) (σ : jm_S) : jm_A := jm_p1 st fun x st => jm_ix st fun i k r st => match jm_sh k with
  | (3, n) => jm_if (jm_in3 i n) (M, pc, ls, st, jm_wi σ k r i.toNatClampNeg (vp_nar .boolean x))
  | _ => none
def jm_slots : List jm_V → Nat := jm_cats
def jm_callv (M : jm_M) (pc : Nat) (ls : List (Option jm_V)) (st : List jm_V) (σ : jm_S) (ix : Nat) : jm_A := match jm_lk2 jm_cvL M.1 ix with
  | some (M', n) => match jm_take n [] st with
    | some (as, st) => jm_pr st fun k r st => match jm_sh k with
      | (0, cj) => match Nat.beq cj M'.1, Nat.ble (jm_cats (jm_R k r :: as)) M'.2.2.1, Nat.ble (jm_cats st) 8 with
        | true, true, true => some (.inr (.inr (M', jm_R k r :: as, (M, pc, ls, st, σ))))
        | _, _, _ => none
      | _ => none
    | none => none
  | none => none
def jm_math (M : jm_M) (pc : Nat) (ls : List (Option jm_V)) (st : List jm_V) (σ : jm_S) (w : Nat) : jm_A := match w with
  | 10 => jm_p1 st fun x st => match Nat.ble (jm_cats st) 8 with
    | true => jm_go (M, pc, ls, jm_I (if 0 ≤ x then x else 0 - x) :: st, σ)
    | false => none
  | 11 => jm_p2 st fun x y st => match Nat.ble (jm_cats st) 8 with
    | true => jm_go (M, pc, ls, jm_I (if y < x then y else x) :: st, σ)
    | false => none
  | 12 => jm_p2 st fun x y st => match Nat.ble (jm_cats st) 8 with
    | true => jm_go (M, pc, ls, jm_I (if x < y then y else x) :: st, σ)
    | false => none
  | 13 => match st with
    | .inl (.inl n) :: .inl (.inl dp) :: .inr (k1, r1) :: .inl (.inl sp) :: .inr (k0, r0) :: st => match jm_sh k0, jm_sh k1, Nat.ble (jm_cats st) 8 with
      | (1, n0), (1, n1), true => jm_if (decide (¬ sp < 0 ∧ ¬ dp < 0 ∧ ¬ n < 0 ∧ sp.toNatClampNeg + n.toNatClampNeg ≤ n0 ∧ dp.toNatClampNeg + n.toNatClampNeg ≤ n1)) (M, pc, ls, st, jm_wc σ k1 r1 k0 r0 sp.toNatClampNeg dp.toNatClampNeg n.toNatClampNeg)
      | _, _, _ => none
    | _ => none
  | _ => none
def jm_calls (M : jm_M) (pc : Nat) (ls : List (Option jm_V)) (st : List jm_V) (σ : jm_S) (ix : Nat) : jm_A := match jm_lk2 jm_csL M.1 ix with
  | some (M', n) => match jm_take n [] st with
    | some (as, st) => match Nat.ble (jm_cats as) M'.2.2.1, Nat.ble (jm_cats st) 8 with
      | true, true => some (.inr (.inr (M', as, (M, pc, ls, st, σ))))
      | _, _ => none
    | none => none
  | none => match jm_lk2 jm_imL M.1 ix with
    | some w => jm_math M pc ls st σ w
    | none => none
def jm_dup (M : jm_M) (pc : Nat) (ls : List (Option jm_V)) (st : List jm_V) (σ : jm_S) : jm_A := match st with
  | .inl (.inl x) :: st => jm_go (M, pc, ls, jm_I x :: jm_I x :: st, σ)
  | .inr q :: st => jm_go (M, pc, ls, .inr q :: .inr q :: st, σ)
  | _ => none
def jm_dup2 (M : jm_M) (pc : Nat) (ls : List (Option jm_V)) (st : List jm_V) (σ : jm_S) : jm_A := match st with
  | .inl (.inr x) :: st => jm_go (M, pc, ls, jm_L x :: jm_L x :: st, σ)
  | .inl (.inl x) :: .inr q :: st => jm_go (M, pc, ls, jm_I x :: .inr q :: jm_I x :: .inr q :: st, σ)
  | _ => none
def jm_ret (M : jm_M) (st : List jm_V) (σ : jm_S) : jm_A := match st with
  | [.inl (.inl x)] => some (.inr (.inl (cond M.2.2.2 (jm_b01 x) true, (some (jm_I x), σ))))
  | _ => none
def jm_act (f : jm_F) : jm_A := match f with
  | (M, pc, ls, st, σ) => match jm_lk M.2.1 pc with
    | none => none
    | some (i, n) => match i with
      | .iconst c => jm_go (M, pc + n, ls, jm_I (Int32.ofInt c) :: st, σ)
      | .bipush c => jm_go (M, pc + n, ls, jm_I (Int8.ofInt c).toInt32 :: st, σ)
      | .sipush c => jm_go (M, pc + n, ls, jm_I (Int16.ofInt c).toInt32 :: st, σ)
      | .lconst c => jm_go (M, pc + n, ls, jm_L (Int64.ofNat (c : Nat)) :: st, σ)
      | .ldc ix => match jm_lk2 jm_kiL M.1 ix with
        | some v => jm_go (M, pc + n, ls, jm_I v :: st, σ)
        | none => none
      | .ldc_w ix => match jm_lk2 jm_kiL M.1 ix with
        | some v => jm_go (M, pc + n, ls, jm_I v :: st, σ)
        | none => none
      | .ldc2_w ix => match jm_lk2 jm_klL M.1 ix with
        | some v => jm_go (M, pc + n, ls, jm_L v :: st, σ)
        | none => none
      | .iload_n k => jm_ild M (pc + n) ls st σ k
      | .iload k => jm_ild M (pc + n) ls st σ k
      | .lload_n k => jm_lld M (pc + n) ls st σ k
      | .lload k => jm_lld M (pc + n) ls st σ k
      | .aload_n k => jm_ald M (pc + n) ls st σ k
      | .aload k => jm_ald M (pc + n) ls st σ k
      | .istore_n k => jm_ist M (pc + n) ls st σ k
      | .istore k => jm_ist M (pc + n) ls st σ k
      | .lstore_n k => jm_lst M (pc + n) ls st σ k
      | .lstore k => jm_lst M (pc + n) ls st σ k
      | .iinc k c => jm_inc M (pc + n) ls st σ k c
      | .iadd => jm_p2 st fun x y st => jm_go (M, pc + n, ls, jm_I (x + y) :: st, σ)
      | .isub => jm_p2 st fun x y st => jm_go (M, pc + n, ls, jm_I (x - y) :: st, σ)
      | .imul => jm_p2 st fun x y st => jm_go (M, pc + n, ls, jm_I (x * y) :: st, σ)
      | .iand => jm_p2 st fun x y st => jm_go (M, pc + n, ls, jm_I (x &&& y) :: st, σ)
      | .ior => jm_p2 st fun x y st => jm_go (M, pc + n, ls, jm_I (x ||| y) :: st, σ)
      | .ishl => jm_p2 st fun x y st => jm_go (M, pc + n, ls, jm_I (x <<< (y &&& 31)) :: st, σ)
      | .ishr => jm_p2 st fun x y st => jm_go (M, pc + n, ls, jm_I (x >>> (y &&& 31)) :: st, σ)
      | .idiv => jm_p2 st fun x y st => jm_if (decide (¬ y = 0)) (M, pc + n, ls, jm_I (x / y) :: st, σ)
      | .ineg => jm_p1 st fun x st => jm_go (M, pc + n, ls, jm_I (-x) :: st, σ)
      | .ladd => jm_q2 st fun x y st => jm_go (M, pc + n, ls, jm_L (x + y) :: st, σ)
      | .lsub => jm_q2 st fun x y st => jm_go (M, pc + n, ls, jm_L (x - y) :: st, σ)
      | .lmul => jm_q2 st fun x y st => jm_go (M, pc + n, ls, jm_L (x * y) :: st, σ)
      | .land => jm_q2 st fun x y st => jm_go (M, pc + n, ls, jm_L (x &&& y) :: st, σ)
      | .lxor => jm_q2 st fun x y st => jm_go (M, pc + n, ls, jm_L (x ^^^ y) :: st, σ)
      | .ldiv => jm_q2 st fun x y st => jm_if (decide (¬ y = 0)) (M, pc + n, ls, jm_L (x / y) :: st, σ)
      | .lrem => jm_q2 st fun x y st => jm_if (decide (¬ y = 0)) (M, pc + n, ls, jm_L (x - x / y * y) :: st, σ)
      | .lcmp => jm_q2 st fun x y st => jm_go (M, pc + n, ls, jm_I (lg_cmp x y) :: st, σ)
      | .i2l => jm_p1 st fun x st => jm_go (M, pc + n, ls, jm_L x.toInt64 :: st, σ)
      | .l2i => jm_q1 st fun x st => jm_go (M, pc + n, ls, jm_I x.toInt32 :: st, σ)
      | .i2b => jm_p1 st fun x st => jm_go (M, pc + n, ls, jm_I x.toInt8.toInt32 :: st, σ)
      | .i2s => jm_p1 st fun x st => jm_go (M, pc + n, ls, jm_I x.toInt16.toInt32 :: st, σ)
      | .dup => jm_dup M (pc + n) ls st σ
      | .dup2 => jm_dup2 M (pc + n) ls st σ
      | .goto off => jm_go (M, jm_tg pc off, ls, st, σ)
      | .ifCond c off => jm_p1 st fun x st => jm_br (jm_cmp c x 0) (M, jm_tg pc off, ls, st, σ) (M, pc + n, ls, st, σ)
      | .if_icmp c off => jm_p2 st fun x y st => jm_br (jm_cmp c x y) (M, jm_tg pc off, ls, st, σ) (M, pc + n, ls, st, σ)
      | .tableswitch d lo _ offs => jm_p1 st fun x st => some (.inl (jm_ts M pc ls st σ x.toInt lo offs.toList, some (M, jm_tg pc d, ls, st, σ)))
      | .lookupswitch d ps => jm_p1 st fun x st => some (.inl (jm_ls M pc ls st σ x.toInt ps.toList, some (M, jm_tg pc d, ls, st, σ)))
      | .getfield ix => jm_getf M (pc + n) ls st σ ix
      | .putfield ix => jm_putf M (pc + n) ls st σ ix
      | .getstatic ix => match jm_lk2 jm_gsL M.1 ix with
        | some k => jm_go (M, pc + n, ls, jm_R (40 + k) 0 :: st, σ)
        | none => none
      | .iaload => jm_iald M (pc + n) ls st σ
      | .laload => jm_lald M (pc + n) ls st σ
      | .baload => jm_zald M (pc + n) ls st σ
      | .aaload => jm_aald M (pc + n) ls st σ
      | .iastore => jm_iast M (pc + n) ls st σ
      | .lastore => jm_last M (pc + n) ls st σ
      | .bastore => jm_zast M (pc + n) ls st σ
      | .invokevirtual ix => jm_callv M (pc + n) ls st σ ix
      | .invokestatic ix => jm_calls M (pc + n) ls st σ ix
      | .ireturn => jm_ret M st σ
      | .lreturn => match st with
        | [.inl (.inr x)] => some (.inr (.inl (true, (some (jm_L x), σ))))
        | _ => none
      | .areturn => match st with
        | [.inr q] => some (.inr (.inl (true, (some (.inr q), σ))))
        | _ => none
      | .return_ => match st with
        | [] => some (.inr (.inl (true, (none, σ))))
        | _ => none
      | _ => none
def jm_sel {β : Type} (k : jm_F → Option β) : List (Bool × jm_F) → Option jm_F → Option β
  | [], some f => k f
  | [], none => none
  | (b, f) :: l, o => cond b (k f) (jm_sel k l o)
def jm_en (M : jm_M) (as : List jm_V) (σ : jm_S) : jm_F := (M, 0, jm_lo as M.2.2.1, [], σ)
def jm_psh (g : jm_F) (r : jm_Rs) : jm_F := match r with
  | (some v, σ) => (g.1, g.2.1, g.2.2.1, v :: g.2.2.2.1, σ)
  | (none, σ) => (g.1, g.2.1, g.2.2.1, g.2.2.2.1, σ)
def jm_cal (rec : Nat → jm_F → Option jm_Rs) (d : Nat) (M : jm_M) (as : List jm_V) (σ : jm_S) : Option jm_Rs := match d with
  | 0 => none
  | d + 1 => rec d (jm_en M as σ)
def jm_ex (rec : Nat → jm_F → Option jm_Rs) (d : Nat) (f : jm_F) : Option jm_Rs := match jm_act f with
  | none => none
  | some (.inl (l, o)) => jm_sel (rec d) l o
  | some (.inr (.inl (b, r))) => cond b (some r) none
  | some (.inr (.inr (M, as, g))) => (jm_cal rec d M as g.2.2.2.2).bind fun r => rec d (jm_psh g r)
def jm_run : Nat → Nat → jm_F → Option jm_Rs
  | 0, _, _ => none
  | n + 1, d, f => jm_ex (jm_run n) d f
