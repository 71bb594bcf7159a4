-- METHODS: broken, the numbers and the class
def nL (n : Nat) : Int64 := Int64.ofNat n
theorem nL_add (a b : Nat) : nL a + nL b = nL (a + b) := (Int64.ofNat_add a b).symm
theorem nL_mul (a b : Nat) : nL a * nL b = nL (a * b) := (Int64.ofNat_mul a b).symm
theorem nL_toInt {n : Nat} (h : n < 2 ^ 63) : (nL n).toInt = n := Int64.toInt_ofNat_of_lt h
theorem nL_i {n : Nat} (h : n < 2 ^ 31) : (nI n).toInt64 = nL n := by
  refine Int64.toInt_inj.mp ?_
  rw [jm_i64, nI_toInt h, nL_toInt (by omega)]
theorem nL_ne {n : Nat} (h0 : 0 < n) (h : n < 2 ^ 63) : ¬ nL n = 0 := fun h9 => by
  have := congrArg Int64.toInt h9
  rw [nL_toInt h, show (0 : Int64).toInt = 0 from rfl] at this
  omega
theorem nL_rem {a b : Nat} (ha : a < 2 ^ 63) (hb : b < 2 ^ 63) (h0 : 0 < b) : nL a - nL a / nL b * nL b = nL (a % b) := by
  refine Int64.toInt_inj.mp ?_
  have hm : a % b < 2 ^ 63 := Nat.lt_of_le_of_lt (Nat.mod_le a b) ha
  rw [rem64 (by rw [nL_toInt ha]; omega) (by rw [nL_toInt hb]; omega), nL_toInt ha, nL_toInt hb, nL_toInt hm]
  rfl
def sumTo (g : Nat → Nat) : Nat → Nat
  | 0 => 0
  | k + 1 => sumTo g k + g k
theorem sumTo_s (g : Nat → Nat) (k : Nat) : sumTo g (k + 1) = sumTo g k + g k := rfl
def prodTo (g : Nat → Nat) : Nat → Nat
  | 0 => 1
  | k + 1 => prodTo g k * g k
theorem prodTo_s (g : Nat → Nat) (k : Nat) : prodTo g (k + 1) = prodTo g k * g k := rfl
theorem sumTo_le {g h : Nat → Nat} (hg : ∀ i, g i ≤ h i) : ∀ k, sumTo g k ≤ sumTo h k
  | 0 => Nat.le_refl _
  | k + 1 => Nat.add_le_add (sumTo_le hg k) (hg k)
def wy (p s d : Nat) : Nat := if Nat.testBit s d then p else 10 - p
def wS (p m s : Nat) : Nat := prodTo (wy p s) m
theorem ways_sum : ∀ m, m < 6 → ∀ p, p < 11 → sumTo (wS p m) (2 ^ m) = 10 ^ m := by decide +kernel
theorem bit_ok : ∀ s, s < 32 → ∀ d, d < 5 → (((nI s >>> (nI d &&& 31)) &&& 1 = 1) ↔ Nat.testBit s d = true) := by decide +kernel
theorem ten5 : ∀ m, m < 6 → 0 < 10 ^ m ∧ 10 ^ m ≤ 100000 := by decide
theorem two5 : ∀ m, m < 6 → 2 ^ m ≤ 32 := by decide
/-- the shaft with the springs of a set broken, up to a disc -/
def bkT (S : sS) (s m : Nat) : sS := (S.1, S.2.1, fun v d => if v = 1 ∧ d < m ∧ Nat.testBit s d = true then 0 else S.2.2 v d)
def abC (S : sS) (v p s : Nat) : Nat := if BS (bkT S s (S.1 - 1)) S.2.1 = some v then wS p (S.1 - 1) s else 0
theorem abC_le (S : sS) (v p s : Nat) : abC S v p s ≤ wS p (S.1 - 1) s := by
  unfold abC
  split
  · exact Nat.le_refl _
  · exact Nat.zero_le _
theorem ab_le {S : sS} {v p : Nat} (h6 : S.1 ≤ 6) (h1 : 1 ≤ S.1) (hp : p ≤ 10) : sumTo (abC S v p) (2 ^ (S.1 - 1)) ≤ 100000 := by
  refine Nat.le_trans (sumTo_le (abC_le S v p) _) ?_
  rw [ways_sum (S.1 - 1) (by omega) p (by omega)]
  exact (ten5 _ (by omega)).2
-- Euclid
theorem eu_half {b r : Nat} (h0 : 0 < r) (h : r < b) : 2 * (b % r) < b := by
  have h1 := Nat.mod_lt b h0
  have h2 := Nat.div_add_mod b r
  have h3 : 1 ≤ b / r := (Nat.le_div_iff_mul_le h0).mpr (by omega)
  have h4 : r * 1 ≤ r * (b / r) := Nat.mul_le_mul_left r h3
  omega
theorem eu_gcd (a b : Nat) : Nat.gcd b (a % b) = Nat.gcd a b := by
  rw [Nat.gcd_comm b (a % b), ← Nat.gcd_rec, Nat.gcd_comm]
theorem lg0 {n : Nat} (h0 : 0 < n) (h : n < 2 ^ 63) : ¬ lg_cmp (nL n) 0 = 0 := fun h9 => nL_ne h0 h (jm_lg_eq.mp h9)
theorem c_eu0 (e : Nat) (σ : jm_S) (l0 l2 : Int64) {j a : Nat} (ha0 : 0 < a) (ha : a < 2 ^ 63) (hj : j < 200) (o9 : Option jm_V) : jm_ev e (jD_commonDivisor, 9, [some (jm_L l0), none, some (jm_L l2), none, some (jm_L (nL a)), none, some (jm_L (nL 0)), none, some (jm_I (nI j)), o9, none], [], σ) = some (some (jm_L (nL a)), σ) := by
  rw [gD_commonDivisor_9, jm_cf (show ¬ (200 : Int32) ≤ nI j from nI_ge (b := 200) hj (by decide)), jm_ct (show lg_cmp (nL 0) 0 = 0 from jm_lg_eq.mpr rfl), gD_commonDivisor_45, jm_ct (lg0 ha0 ha), gD_commonDivisor_58]
theorem c_euS (e : Nat) (σ : jm_S) (l0 l2 : Int64) {j a b : Nat} (hb0 : 0 < b) (ha : a < 2 ^ 63) (hb : b < 2 ^ 63) (hj : j < 200) (o9 : Option jm_V) : jm_ev e (jD_commonDivisor, 9, [some (jm_L l0), none, some (jm_L l2), none, some (jm_L (nL a)), none, some (jm_L (nL b)), none, some (jm_I (nI j)), o9, none], [], σ) = jm_ev e (jD_commonDivisor, 9, [some (jm_L l0), none, some (jm_L l2), none, some (jm_L (nL b)), none, some (jm_L (nL (a % b))), none, some (jm_I (nI (j + 1))), some (jm_L (nL (a % b))), none], [], σ) := by
  rw [gD_commonDivisor_9, jm_cf (show ¬ (200 : Int32) ≤ nI j from nI_ge (b := 200) hj (by decide)), jm_cf (lg0 hb0 hb), jm_ct (nL_ne hb0 hb), nL_rem ha hb hb0, nI_1]
theorem c_eu (e : Nat) (σ : jm_S) (l0 l2 : Int64) : ∀ (k j a b : Nat) (o9 : Option jm_V), b < 2 ^ k → j + 2 * k ≤ 100 → 0 < a → a < 2 ^ 63 → b < 2 ^ 63 → jm_ev e (jD_commonDivisor, 9, [some (jm_L l0), none, some (jm_L l2), none, some (jm_L (nL a)), none, some (jm_L (nL b)), none, some (jm_I (nI j)), o9, none], [], σ) = some (some (jm_L (nL (Nat.gcd a b))), σ) := by
  intro k
  induction k with
  | zero =>
    intro j a b o9 hk hj ha0 ha hb
    have : b = 0 := by omega
    subst this
    rw [c_eu0 e σ l0 l2 ha0 ha (by omega), Nat.gcd_zero_right]
  | succ k ih =>
    intro j a b o9 hk hj ha0 ha hb
    by_cases hb0 : b = 0
    · subst hb0
      rw [c_eu0 e σ l0 l2 ha0 ha (by omega), Nat.gcd_zero_right]
    · have hbp : 0 < b := by omega
      have hr := Nat.mod_lt a hbp
      rw [c_euS e σ l0 l2 hbp ha hb (by omega)]
      by_cases hr0 : a % b = 0
      · rw [← eu_gcd a b, hr0, c_eu0 e σ l0 l2 hbp hb (by omega), Nat.gcd_zero_right]
      · have hrp : 0 < a % b := by omega
        have hh := eu_half hrp hr
        rw [c_euS e σ l0 l2 hrp hb (by omega) (by omega), ih (j + 1 + 1) (a % b) (b % (a % b)) _ (by rw [Nat.pow_succ] at hk; omega) (by omega) hrp (by omega) (by omega), eu_gcd, eu_gcd]
theorem c_cd (e : Nat) (σ : jm_S) {a b : Nat} (ha0 : 0 < a) (ha : a ≤ 100000) (hb : b ≤ 100000) : jm_call (e + 1) jD_commonDivisor [jm_L (nL a), jm_L (nL b)] σ = some (some (jm_L (nL (Nat.gcd a b))), σ) := by
  rw [gD_commonDivisor_0]
  exact c_eu e σ _ _ 17 0 a b none (Nat.lt_of_le_of_lt hb (by decide)) (by decide) ha0 (by omega) (by omega)
-- a set
def bkI (σ : jm_S) (S : sS) (s i : Nat) : Prop := σ.1 7 1 1 = nI S.1 ∧ σ.1 7 1 2 = S.2.1 ∧ ∀ w, w < 4 → ∀ d, d < S.1 → ¬ (w = 1 ∧ i ≤ d ∧ d < S.1 - 1) → σ.1 9 (4 * 1 + w) d = (bkT S s (S.1 - 1)).2.2 w d
theorem bkI.fin {σ : jm_S} {S : sS} {s : Nat} (h : bkI σ S s (S.1 - 1)) : cS σ 1 (bkT S s (S.1 - 1)) := ⟨h.1, h.2.1, fun w hw d hd => h.2.2 w hw d hd (fun h9 => by omega)⟩
theorem bkI.st {σ : jm_S} {S : sS} {s s' : Nat} (h : cS σ 1 (bkT S s (S.1 - 1))) : bkI σ S s' 0 := ⟨h.1, h.2.1, fun w hw d hd h9 => by
  refine (h.2.2 w hw d hd).trans ?_
  show (if w = 1 ∧ d < S.1 - 1 ∧ Nat.testBit s d = true then 0 else S.2.2 w d) = (if w = 1 ∧ d < S.1 - 1 ∧ Nat.testBit s' d = true then 0 else S.2.2 w d)
  rw [if_neg (fun h8 => h9 ⟨h8.1, Nat.zero_le _, h8.2.1⟩), if_neg (fun h8 => h9 ⟨h8.1, Nat.zero_le _, h8.2.1⟩)]⟩
theorem bkI.wr {σ : jm_S} {S : sS} {s i : Nat} (h : bkI σ S s i) (hi : i < S.1 - 1) {x : Int32} (hx : x = if Nat.testBit s i then 0 else S.2.2 1 i) : bkI (jm_wi σ 9 5 i x) S s (i + 1) := by
  refine ⟨h.1, h.2.1, fun w hw d hd h9 => ?_⟩
  by_cases hw1 : w = 1
  · subst hw1
    show (jm_wi σ 9 5 i x).1 9 5 d = _
    rw [jm_w_s]
    by_cases hd1 : d = i
    · subst hd1
      rw [pk_us, hx]
      show _ = if 1 = 1 ∧ d < S.1 - 1 ∧ Nat.testBit s d = true then 0 else S.2.2 1 d
      by_cases hb : Nat.testBit s d = true
      · rw [if_pos hb, if_pos ⟨rfl, hi, hb⟩]
      · rw [if_neg hb, if_neg (fun h8 => hb h8.2.2)]
    · rw [pk_un hd1]
      exact h.2.2 1 hw d hd (fun h8 => h9 ⟨rfl, by omega, h8.2.2⟩)
  · rw [jm_w_n _ _ _ (fun h8 => hw1 (by omega))]
    exact h.2.2 w hw d hd (fun h8 => hw1 h8.1)
theorem nI_10 {p : Nat} (hp : p ≤ 10) : ((10 : Int32) - nI p).toInt64 = nL (10 - p) := by
  refine Int64.toInt_inj.mp ?_
  rw [jm_i64, show (10 : Int32) = nI 10 from rfl, pk_sub_toInt (by omega) (by omega), nL_toInt (by omega)]
  omega
theorem c_coS {s v p i : Nat} {S : sS} (hi : i < S.1 - 1) (h6 : S.1 ≤ 6) (hs : s < 32) (hp : p ≤ 10) {l4 : Nat} (o7 : Option jm_V) (σ : jm_S) (h7 : σ.1 7 0 1 = nI S.1) (hk : σ.1 9 1 i = S.2.2 1 i) : ∃ o7', jm_ev 58 (jD_casesOf, 6, [some (jm_R 0 0), some (jm_I (nI s)), some (jm_I (nI v)), some (jm_I (nI p)), some (jm_L (nL l4)), none, some (jm_I (nI i)), o7], [], σ) = jm_ev 58 (jD_casesOf, 6, [some (jm_R 0 0), some (jm_I (nI s)), some (jm_I (nI v)), some (jm_I (nI p)), some (jm_L (nL (l4 * wy p s i))), none, some (jm_I (nI (i + 1))), o7'], [], jm_wi σ 9 5 i (if Nat.testBit s i then 0 else S.2.2 1 i)) := by
  obtain ⟨m, hm⟩ : ∃ m, S.1 = m + 1 := ⟨S.1 - 1, by omega⟩
  have hb := bit_ok s hs i (by omega)
  unfold wy
  rw [gD_casesOf_6, h7, hm, nI_p1, jm_cf (nI_ge (show i < m by omega) (by omega)), gD_casesOf_35, gD_casesOf_35, jm_in_nI (show i < 6 by omega) (by decide), cond_true, gD_casesOf_69, gD_casesOf_69, gD_casesOf_69, gD_casesOf_69, jm_in_nI (show i < 6 by omega) (by decide), cond_true, cond_true, cond_true, cond_true, gD_casesOf_87, gD_casesOf_87, gD_casesOf_87, gD_casesOf_87, gD_casesOf_87, gD_casesOf_87, gD_casesOf_87, gD_casesOf_87, jm_cl (show i < 2 ^ 31 by omega), hk, nI_1, nI_10 hp, nL_i (show p < 2 ^ 31 by omega), nL_mul, nL_mul]
  by_cases ht : Nat.testBit s i = true
  · rw [jm_cf (fun h9 => h9 (hb.mpr ht)), jm_cf (show ¬ (1 : Int32) = 0 by decide), jm_cf (show ¬ (1 : Int32) = 0 by decide), if_pos ht, if_pos ht]
    exact ⟨_, rfl⟩
  · rw [jm_ct (show ¬ ((nI s >>> (nI i &&& 31)) &&& 1 = 1) from fun h9 => ht (hb.mp h9)), jm_ct (show (0 : Int32) = 0 from rfl), jm_ct (show (0 : Int32) = 0 from rfl), if_neg ht, if_neg ht]
    exact ⟨_, rfl⟩
