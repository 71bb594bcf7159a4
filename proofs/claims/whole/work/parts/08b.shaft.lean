-- MATHS: the shaft of the class
/-- a shaft: how many discs, the mark, what is told (0 J, 1 K, 2 N, 3 kind) -/
abbrev sS : Type := Nat × Int32 × (Nat → Nat → Int32)
def ratS (kd : Nat → Int32) : Nat → Int32
  | 0 => 1
  | d + 1 => if kd d = 2 then ratS kd d * 2 else ratS kd d
def rtS (S : sS) (d : Nat) : Int32 := ratS (S.2.2 3) (d + 1)
def weiS (S : sS) (d : Nat) : Int32 := (S.2.2 0 d + (if S.2.2 3 d = 3 then S.2.2 2 d else 0)) * rtS S d * rtS S d
def sprS (S : sS) (d : Nat) : Int32 := if d + 1 = S.1 then 0 else (if S.2.2 3 d = 5 then S.2.2 1 d / 2 else S.2.2 1 d) * rtS S d * rtS S d
def tieS (S : sS) (d : Nat) : Int32 := if S.2.2 3 d = 4 ∨ S.2.2 3 d = 5 then S.2.2 2 d * rtS S d * rtS S d else 0
/-- shaft number q of the class's store is S -/
def cS (σ : jm_S) (q : Nat) (S : sS) : Prop := σ.1 7 q 1 = nI S.1 ∧ σ.1 7 q 2 = S.2.1 ∧ ∀ w, w < 4 → ∀ d, d < S.1 → σ.1 9 (4 * q + w) d = S.2.2 w d
theorem c_has (e : Nat) (σ : jm_S) (q : Nat) (x : Int32) {n : Nat} (hn : σ.1 7 q 1 = nI n) (h6 : n ≤ 6) : jm_call (e + 1) jS_has [jm_R 7 q, jm_I x] σ = some (some (jm_I (if 0 ≤ x.toInt ∧ x.toInt < n then 1 else 0)), σ) := by
  simp only [gS_has_0, gS_has_16, gS_has_17, Bool.cond_decide, jm_b0, jm_b1, cond_true, jm_ti32, jm_te32, hn]
  simp only [show (0 : Int32).toInt = 0 from rfl, nI_toInt (show n < 2 ^ 31 by omega)]
  split
  · next h => rw [if_neg (by omega)]
  · split
    · next h => rw [if_neg (by omega)]
    · rw [if_pos (by omega)]
theorem c_ratioL (e : Nat) (σ : jm_S) (q d : Nat) {S : sS} (hS : cS σ q S) (h6 : S.1 ≤ 6) (hd : d < S.1) : ∀ (m i : Nat), i + m = d + 1 → jm_ev e (jS_ratioOf, 4, [some (jm_R 7 q), some (jm_I (nI d)), some (jm_I (ratS (S.2.2 3) i)), some (jm_I (nI i))], [], σ) = some (some (jm_I (rtS S d)), σ)
  | 0, i, h => by
    have hi : i = d + 1 := by omega
    subst hi
    rw [gS_ratioOf_4, jm_ct (nI_lt (Nat.lt_succ_self d) (by omega)), gS_ratioOf_39]
    rfl
  | m + 1, i, h => by
    rw [gS_ratioOf_4, jm_cf (nI_nlt (show i ≤ d by omega) (by omega)), hS.1, jm_cf (nI_ge (show i < S.1 by omega) (by omega)), jm_in_nI (show i < 6 by omega) (by decide), jm_cl (by omega), hS.2.2 3 (by omega) i (by omega), cond_true]
    by_cases hk : S.2.2 3 i = 2
    · rw [jm_cf (fun h9 => h9 hk), gS_ratioOf_33, nI_1]
      have := c_ratioL e σ q d hS h6 hd m (i + 1) (by omega)
      rw [show ratS (S.2.2 3) (i + 1) = ratS (S.2.2 3) i * 2 by simp [ratS, hk]] at this
      exact this
    · rw [jm_ct hk, gS_ratioOf_33, nI_1]
      have := c_ratioL e σ q d hS h6 hd m (i + 1) (by omega)
      rw [show ratS (S.2.2 3) (i + 1) = ratS (S.2.2 3) i by simp [ratS, hk]] at this
      exact this
theorem c_ratioOf (e : Nat) (σ : jm_S) (q d : Nat) {S : sS} (hS : cS σ q S) (h6 : S.1 ≤ 6) (hd : d < S.1) : jm_call (e + 1) jS_ratioOf [jm_R 7 q, jm_I (nI d)] σ = some (some (jm_I (rtS S d)), σ) := by
  rw [gS_ratioOf_0]
  exact c_ratioL e σ q d hS h6 hd (d + 1) 0 (by omega)
theorem c_weightOf (e : Nat) (σ : jm_S) (q d : Nat) {S : sS} (hS : cS σ q S) (h6 : S.1 ≤ 6) (hd : d < S.1) : jm_call (e + 2) jS_weightOf [jm_R 7 q, jm_I (nI d)] σ = some (some (jm_I (weiS S d)), σ) := by
  have h1 := jm_in_nI (show d < 6 by omega) (by decide)
  have h2 := jm_cl (show d < 2 ^ 31 by omega)
  have w0 := hS.2.2 0 (by omega) d hd
  have w2 := hS.2.2 2 (by omega) d hd
  have w3 := hS.2.2 3 (by omega) d hd
  rw [gS_weightOf_0, c_ratioOf e σ q d hS h6 hd, Option.bind_some, jm_ps, gS_weightOf_5, h1, h2, w3, w2, cond_true, cond_true]
  by_cases hk : S.2.2 3 d = 3
  · rw [jm_cf (fun h9 => h9 hk), gS_weightOf_30, h1, h2, w0, cond_true]
    simp [weiS, hk]
  · rw [jm_ct hk, gS_weightOf_30, h1, h2, w0, cond_true]
    simp [weiS, hk]
theorem c_springOf (e : Nat) (σ : jm_S) (q d : Nat) {S : sS} (hS : cS σ q S) (h6 : S.1 ≤ 6) (hd : d < S.1) : jm_call (e + 2) jS_springOf [jm_R 7 q, jm_I (nI d)] σ = some (some (jm_I (sprS S d)), σ) := by
  have h1 := jm_in_nI (show d < 6 by omega) (by decide)
  have h2 := jm_cl (show d < 2 ^ 31 by omega)
  have w1 := hS.2.2 1 (by omega) d hd
  have w3 := hS.2.2 3 (by omega) d hd
  have hm : nI S.1 - 1 = nI (S.1 - 1) := pk_sub (a := S.1) (b := 1) (by omega)
  rw [gS_springOf_0, hS.1, hm, c_ratioOf e σ q d hS h6 hd]
  by_cases hl : d + 1 = S.1
  · rw [jm_cf (fun h9 => h9 (by rw [show d = S.1 - 1 by omega]))]
    simp [sprS, hl]
  · have hne : ¬ nI d = nI (S.1 - 1) := fun h9 => hl (by have := (nI_eq (by omega) (by omega)).mp h9; omega)
    rw [jm_ct hne, Option.bind_some, jm_ps, gS_springOf_17, h1, h2, w3, w1, cond_true, cond_true, cond_true]
    by_cases hk : S.2.2 3 d = 5
    · rw [jm_cf (fun h9 => h9 hk), gS_springOf_51]
      simp [sprS, hk, hl]
    · rw [jm_ct hk, gS_springOf_51]
      simp [sprS, hk, hl]
theorem c_tieOf (e : Nat) (σ : jm_S) (q d : Nat) {S : sS} (hS : cS σ q S) (h6 : S.1 ≤ 6) (hd : d < S.1) : jm_call (e + 2) jS_tieOf [jm_R 7 q, jm_I (nI d)] σ = some (some (jm_I (tieS S d)), σ) := by
  have h1 := jm_in_nI (show d < 6 by omega) (by decide)
  have h2 := jm_cl (show d < 2 ^ 31 by omega)
  have w2 := hS.2.2 2 (by omega) d hd
  have w3 := hS.2.2 3 (by omega) d hd
  rw [gS_tieOf_0, c_ratioOf e σ q d hS h6 hd, Option.bind_some, jm_ps, gS_tieOf_5, h1, h2, w3, cond_true]
  by_cases h4 : S.2.2 3 d = 4
  · rw [jm_ct h4, gS_tieOf_25, h1, h2, w2, cond_true, gS_tieOf_41]
    simp [tieS, h4]
  · rw [jm_cf h4]
    by_cases h5 : S.2.2 3 d = 5
    · rw [jm_cf (fun h9 => h9 h5), gS_tieOf_25, h1, h2, w2, cond_true, gS_tieOf_41]
      simp [tieS, h5]
    · rw [jm_ct h5, gS_tieOf_41]
      simp [tieS, h4, h5]
