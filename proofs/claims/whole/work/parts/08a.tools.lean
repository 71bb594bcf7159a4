-- MATHS: tools
theorem jm_ps (M : jm_M) (pc : Nat) (ls : List (Option jm_V)) (st : List jm_V) (σ σ' : jm_S) (v : jm_V) : jm_psh (M, pc, ls, st, σ) (some v, σ') = (M, pc, ls, v :: st, σ') := rfl
theorem jm_pn (M : jm_M) (pc : Nat) (ls : List (Option jm_V)) (st : List jm_V) (σ σ' : jm_S) : jm_psh (M, pc, ls, st, σ) (none, σ') = (M, pc, ls, st, σ') := rfl
/-- which cells changed -/
def jm_ag (C : Nat → Nat → Bool) (σ σ' : jm_S) : Prop := ∀ k r, C k r = false → σ'.1 k r = σ.1 k r ∧ σ'.2 k r = σ.2 k r
theorem jm_ag.rf {C : Nat → Nat → Bool} {σ : jm_S} : jm_ag C σ σ := fun _ _ _ => ⟨rfl, rfl⟩
theorem jm_ag.tr {C : Nat → Nat → Bool} {a b c : jm_S} (h : jm_ag C a b) (h' : jm_ag C b c) : jm_ag C a c := fun k r hc => ⟨(h' k r hc).1.trans (h k r hc).1, (h' k r hc).2.trans (h k r hc).2⟩
theorem jm_ag.mo {C C' : Nat → Nat → Bool} {a b : jm_S} (h : jm_ag C a b) (hc : ∀ k r, C' k r = false → C k r = false) : jm_ag C' a b := fun k r h9 => h k r (hc k r h9)
theorem jm_ag.wi {C : Nat → Nat → Bool} {σ : jm_S} {k r j : Nat} {x : Int32} (h : C k r = true) : jm_ag C σ (jm_wi σ k r j x) := fun k' r' hc => ⟨jm_wr_ne (fun q => by rw [q.1, q.2, h] at hc; cases hc), rfl⟩
theorem jm_ag.wj {C : Nat → Nat → Bool} {σ : jm_S} {k r j : Nat} {x : Int64} (h : C k r = true) : jm_ag C σ (jm_wj σ k r j x) := fun k' r' hc => ⟨rfl, jm_wl_ne (fun q => by rw [q.1, q.2, h] at hc; cases hc)⟩
theorem jm_ag.wc {C : Nat → Nat → Bool} {σ : jm_S} {k r k0 r0 a b n : Nat} (h : C k r = true) : jm_ag C σ (jm_wc σ k r k0 r0 a b n) := fun k' r' hc => ⟨jm_wr_ne (fun q => by rw [q.1, q.2, h] at hc; cases hc), rfl⟩
/-- reading behind a write -/
theorem jm_wi1 (σ : jm_S) (k r j : Nat) (x : Int32) (k' r' : Nat) : (jm_wi σ k r j x).1 k' r' = if k' = k ∧ r' = r then upd (σ.1 k r) j x else σ.1 k' r' := rfl
theorem jm_wi2 (σ : jm_S) (k r j : Nat) (x : Int32) : (jm_wi σ k r j x).2 = σ.2 := rfl
theorem jm_wj1 (σ : jm_S) (k r j : Nat) (x : Int64) : (jm_wj σ k r j x).1 = σ.1 := rfl
theorem jm_wj2 (σ : jm_S) (k r j : Nat) (x : Int64) (k' r' : Nat) : (jm_wj σ k r j x).2 k' r' = if k' = k ∧ r' = r then vp_updL (σ.2 k r) j x else σ.2 k' r' := rfl
theorem jm_wc1 (σ : jm_S) (k r k0 r0 a b n k' r' : Nat) : (jm_wc σ k r k0 r0 a b n).1 k' r' = if k' = k ∧ r' = r then va_cpy (σ.1 k0 r0) (σ.1 k r) a b n else σ.1 k' r' := rfl
theorem jm_wc2 (σ : jm_S) (k r k0 r0 a b n : Nat) : (jm_wc σ k r k0 r0 a b n).2 = σ.2 := rfl
-- numbers
theorem jm_b0 : jm_b01 0 = true := by decide
theorem jm_b1 : jm_b01 1 = true := by decide
theorem jm_in_nI {j n : Nat} (h : j < n) (hn : n < 2 ^ 31) : jm_in3 (nI j) n = true := decide_eq_true (vp_in_nI h hn)
theorem jm_cl {n : Nat} (h : n < 2 ^ 31) : (nI n).toNatClampNeg = n := nI_clamp h
/-- literals as nI -/
theorem jm_lit (n : Nat) : (OfNat.ofNat n : Int32) = nI n := rfl
theorem jm_lg_lt {x y : Int64} : lg_cmp x y < 0 ↔ x < y := by
  unfold lg_cmp
  by_cases h1 : x > y
  · rw [if_pos h1]
    constructor
    · intro h; exact absurd h (by decide)
    · intro h; exact absurd h (by have := Int64.lt_iff_toInt_lt.mp h1; intro h2; have := Int64.lt_iff_toInt_lt.mp h2; omega)
  · rw [if_neg h1]
    by_cases h2 : x = y
    · rw [if_pos h2]
      subst h2
      constructor
      · intro h; exact absurd h (by decide)
      · intro h; exact absurd h h1
    · rw [if_neg h2]
      constructor
      · intro _
        have a : ¬ y.toInt < x.toInt := fun q => h1 (Int64.lt_iff_toInt_lt.mpr q)
        have b : ¬ x.toInt = y.toInt := fun q => h2 (Int64.toInt_inj.mp q)
        exact Int64.lt_iff_toInt_lt.mpr (by omega)
      · intro _; decide
theorem jm_lg_eq {x y : Int64} : lg_cmp x y = 0 ↔ x = y := by
  unfold lg_cmp
  by_cases h1 : x > y
  · rw [if_pos h1]
    constructor
    · intro h; exact absurd h (by decide)
    · intro h
      subst h
      have := Int64.lt_iff_toInt_lt.mp h1
      omega
  · rw [if_neg h1]
    by_cases h2 : x = y
    · rw [if_pos h2]; exact ⟨fun _ => h2, fun _ => rfl⟩
    · rw [if_neg h2]
      exact ⟨fun h => absurd h (by decide), fun h => absurd h h2⟩
theorem jm_lg_gt {x y : Int64} : 0 < lg_cmp x y ↔ y < x := by
  unfold lg_cmp
  by_cases h1 : x > y
  · rw [if_pos h1]; exact ⟨fun _ => h1, fun _ => by decide⟩
  · rw [if_neg h1]
    by_cases h2 : x = y
    · rw [if_pos h2]
      exact ⟨fun h => absurd h (by decide), fun h => absurd h h1⟩
    · rw [if_neg h2]
      exact ⟨fun h => absurd h (by decide), fun h => absurd h h1⟩
/-- in(v, low, high) of the reference over ints -/
theorem jm_i64 (x : Int32) : x.toInt64.toInt = x.toInt := by simp
theorem jm_lt64 {x y : Int32} : x.toInt64 < y.toInt64 ↔ x < y := by
  rw [Int64.lt_iff_toInt_lt, Int32.lt_iff_toInt_lt, jm_i64, jm_i64]
theorem jm_ct {α : Type} {c : Prop} [Decidable c] {a b : α} (h : c) : cond (decide c) a b = a := by rw [decide_eq_true h]; rfl
theorem jm_cf {α : Type} {c : Prop} [Decidable c] {a b : α} (h : ¬ c) : cond (decide c) a b = b := by rw [decide_eq_false h]; rfl
theorem jm_ti32 {x y : Int32} : x < y ↔ x.toInt < y.toInt := Int32.lt_iff_toInt_lt
theorem jm_te32 {x y : Int32} : x ≤ y ↔ x.toInt ≤ y.toInt := Int32.le_iff_toInt_le
theorem jm_ti64 {x y : Int64} : x < y ↔ x.toInt < y.toInt := Int64.lt_iff_toInt_lt
theorem jm_te64 {x y : Int64} : x ≤ y ↔ x.toInt ≤ y.toInt := Int64.le_iff_toInt_le
theorem jm_q32 {x y : Int32} : x = y ↔ x.toInt = y.toInt := Int32.toInt_inj.symm
/-- a number in a range is one of these -/
theorem jm_nI_of {x : Int32} {n : Nat} (h0 : 0 ≤ x.toInt) (h1 : x.toInt < n) : ∃ j : Nat, j < n ∧ x = nI j := by
  have hb : x.toInt < 2 ^ 31 := x.toInt_lt
  refine ⟨x.toInt.toNat, by omega, ?_⟩
  rw [jm_q32, nI_toInt (by omega)]
  omega
theorem c_isRow (d : Nat) (σ : jm_S) (x : Int32) : jm_call (d + 1) jD_isRow [jm_I x] σ = some (some (jm_I (if 0 ≤ x.toInt ∧ x.toInt < 8 then 1 else 0)), σ) := by
  simp only [gD_isRow_0, gD_isRow_14, gD_isRow_15, Bool.cond_decide, jm_b0, jm_b1, cond_true, jm_ti32, jm_te32]
  simp only [show (0 : Int32).toInt = 0 from rfl, show (8 : Int32).toInt = 8 from rfl]
  split
  · next h => rw [if_neg (by omega)]
  · split
    · next h => rw [if_neg (by omega)]
    · rw [if_pos (by omega)]
theorem r_in (d : Nat) (σ : jm_S) (x y z : Int64) : jm_call (d + 1) jM_in [jm_L x, jm_L y, jm_L z] σ = some (some (jm_I (if y.toInt ≤ x.toInt ∧ x.toInt ≤ z.toInt then 1 else 0)), σ) := by
  simp only [gM_in_0, gM_in_17, gM_in_18, Bool.cond_decide, jm_b0, jm_b1, cond_true, jm_lg_lt, jm_lg_gt, jm_ti64]
  split
  · next h => rw [if_neg (by omega)]
  · split
    · next h => rw [if_neg (by omega)]
    · rw [if_pos (by omega)]
