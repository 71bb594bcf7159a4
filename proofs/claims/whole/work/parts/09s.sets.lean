-- METHODS: sets
def sumM (f : Nat → Int32) (m : Int32) : Nat → Int32
  | 0 => 0
  | k + 1 => if ((m >>> (nI k &&& 31)) &&& 1) = 1 then sumM f m k + f k else sumM f m k
theorem sumM_s (f : Nat → Int32) (m : Int32) (k : Nat) : sumM f m (k + 1) = if ((m >>> (nI k &&& 31)) &&& 1) = 1 then sumM f m k + f k else sumM f m k := rfl
theorem c_smL (e : Nat) (σ : jm_S) (m : Int32) {q u : Nat} (hu : u < 4) {S : sS} (h6 : S.1 ≤ 6) (hs : cS σ q S) : ∀ (f k : Nat), k + f = S.1 → jm_ev e (jS_sumOf, 5, [some (jm_R 7 q), some (jm_I (nI u)), some (jm_I m), some (jm_I (sumM (S.2.2 u) m k)), some (jm_I (nI k))], [], σ) = some (some (jm_I (sumM (S.2.2 u) m S.1)), σ)
  | 0, k, h => by
    have : k = S.1 := by omega
    subst this
    rw [gS_sumOf_5, hs.1, jm_ct (nI_le (Nat.le_refl _) (by omega))]
  | f + 1, k, h => by
    have ih := c_smL e σ m hu h6 hs f (k + 1) (by omega)
    rw [gS_sumOf_5, hs.1, jm_cf (nI_ge (by omega) (by omega)), jm_in_nI hu (by decide), cond_true, jm_in_nI (show k < 6 by omega) (by decide), cond_true, jm_cl (by omega), jm_cl (by omega), gS_sumOf_36, gS_sumOf_36, nI_1, hs.2.2 u hu k (by omega)]
    rw [sumM_s] at ih
    by_cases hb : ((m >>> (nI k &&& 31)) &&& 1) = 1
    · rw [if_pos hb] at ih
      rw [jm_cf (fun h9 => h9 hb)]
      exact ih
    · rw [if_neg hb] at ih
      rw [jm_ct hb]
      exact ih
def sa (P : Nat → Bool) : Nat → Nat × Int32 × Int32
  | 0 => (0, 0, 0)
  | k + 1 => if P k then ((sa P k).1 + 1, (if (sa P k).1 = 0 then nI k else (sa P k).2.1 &&& nI k), (sa P k).2.2 ||| nI k) else sa P k
theorem sa_s (P : Nat → Bool) (k : Nat) : sa P (k + 1) = if P k then ((sa P k).1 + 1, (if (sa P k).1 = 0 then nI k else (sa P k).2.1 &&& nI k), (sa P k).2.2 ||| nI k) else sa P k := rfl
theorem sa_0 (P : Nat → Bool) : ∀ k, (sa P k).1 ≤ k ∧ ((sa P k).1 = 0 → (sa P k).2.1 = 0)
  | 0 => ⟨Nat.le_refl _, fun _ => rfl⟩
  | k + 1 => by
    have ih := sa_0 P k
    unfold sa
    by_cases h : P k = true
    · rw [if_pos h]
      exact ⟨by show (sa P k).1 + 1 ≤ k + 1; omega, fun h9 => absurd h9 (Nat.succ_ne_zero _)⟩
    · rw [if_neg h]
      exact ⟨by omega, ih.2⟩
def sV (q : Nat × Int32 × Int32) (y : Int32) : Int32 := if y = 0 then nI q.1 else if y = 2 then q.2.2 else q.2.1
theorem shl6 {n : Nat} (h : n ≤ 6) : (1 : Int32) <<< (nI n &&& 31) = nI (2 ^ n) := by
  rcases (show n = 0 ∨ n = 1 ∨ n = 2 ∨ n = 3 ∨ n = 4 ∨ n = 5 ∨ n = 6 by omega) with rfl | rfl | rfl | rfl | rfl | rfl | rfl <;> decide
theorem pow6 {n : Nat} (h : n ≤ 6) : 1 ≤ 2 ^ n ∧ 2 ^ n ≤ 64 := by
  rcases (show n = 0 ∨ n = 1 ∨ n = 2 ∨ n = 3 ∨ n = 4 ∨ n = 5 ∨ n = 6 by omega) with rfl | rfl | rfl | rfl | rfl | rfl | rfl <;> decide
theorem and6a : ∀ n, n < 7 → ∀ k, k < 64 → k < 2 ^ n → nI (2 ^ n - 1) &&& nI k = nI k := by decide +kernel
def sP1 (S : sS) (x : Int32) (k : Nat) : Bool := decide (sumM (S.2.2 0) (nI k) S.1 = x)
theorem c_seL (σ : jm_S) {S : sS} {x y : Int32} (h6 : S.1 ≤ 6) (hs : cS σ 0 S) (hy : y = 0 ∨ y = 1 ∨ y = 2) : ∀ (f k : Nat), k + f = 2 ^ S.1 → jm_ev 59 (jD_sets, 60, [some (jm_R 0 0), some (jm_I x), some (jm_I y), some (jm_I (nI (sa (sP1 S x) k).1)), some (jm_I (nI (2 ^ S.1 - 1))), some (jm_I (if (sa (sP1 S x) k).1 = 0 then nI (2 ^ S.1 - 1) else (sa (sP1 S x) k).2.1)), some (jm_I (sa (sP1 S x) k).2.2), some (jm_I (nI k))], [], σ) = some (some (jm_I (sV (sa (sP1 S x) (2 ^ S.1)) y)), σ)
  | 0, k, h => by
    have hp := pow6 h6
    have : k = 2 ^ S.1 := by omega
    subst this
    obtain ⟨h1, h2⟩ := sa_0 (sP1 S x) (2 ^ S.1)
    rw [gD_sets_60, jm_ct (nI_lt (by omega) (by omega)), gD_sets_128, gD_sets_128]
    rcases hy with rfl | rfl | rfl
    · rw [jm_cf (fun h9 => h9 rfl)]; rfl
    · rw [jm_ct (by decide), jm_ct (by decide)]
      by_cases h0 : (sa (sP1 S x) (2 ^ S.1)).1 = 0
      · rw [h0, jm_cf (fun h9 => h9 rfl)]
        show _ = some (some (jm_I (sa (sP1 S x) (2 ^ S.1)).2.1), σ)
        rw [h2 h0]
      · rw [jm_ct (nI_ne0 (by omega) (by omega)), if_neg h0]; rfl
    · rw [jm_ct (by decide), jm_cf (fun h9 => h9 rfl)]; rfl
  | f + 1, k, h => by
    have hp := pow6 h6
    have ih := c_seL σ (x := x) h6 hs hy f (k + 1) (by omega)
    have w : jm_ev 58 (jS_sumOf, 5, [some (jm_R 7 0), some (jm_I 0), some (jm_I (nI k)), some (jm_I 0), some (jm_I 0)], [], σ) = _ := c_smL 58 σ (nI k) (u := 0) (by omega) h6 hs S.1 0 (by omega)
    rw [gD_sets_60, jm_cf (nI_nlt (by omega) (by omega)), gS_sumOf_0, w, Option.bind_some, jm_ps, gD_sets_77, gD_sets_98, gD_sets_98, nI_1, nI_1]
    rw [sa_s] at ih
    by_cases hP : sP1 S x k = true
    · rw [if_pos hP] at ih
      dsimp only at ih
      rw [if_neg (Nat.succ_ne_zero _)] at ih
      have hx : sumM (S.2.2 0) (nI k) S.1 = x := of_decide_eq_true hP
      rw [jm_cf (fun h9 => h9 hx)]
      by_cases h0 : (sa (sP1 S x) k).1 = 0
      · rw [if_pos h0] at ih
        rw [if_pos h0, and6a S.1 (by omega) k (by omega) (by omega)]
        exact ih
      · rw [if_neg h0] at ih
        rw [if_neg h0]
        exact ih
    · rw [if_neg hP] at ih
      have hx : ¬ sumM (S.2.2 0) (nI k) S.1 = x := fun h9 => hP (decide_eq_true h9)
      rw [jm_ct hx]
      exact ih
theorem r_has (e : Nat) (σ : jm_S) (m x : Int32) : jm_call (e + 1) jM_has [jm_I m, jm_I x] σ = some (some (jm_I (if ((m >>> (x &&& 31)) &&& 1) = 1 then 1 else 0)), σ) := by
  rw [gM_has_0, gM_has_14, gM_has_14]
  by_cases h : ((m >>> (x &&& 31)) &&& 1) = 1
  · rw [jm_cf (fun h9 => h9 h), if_pos h]; rfl
  · rw [jm_ct h, if_neg h]; rfl
theorem r_siL (σ : jm_S) (x1 x2 x3 x4 x5 : Int32) {k : Nat} {S : sS} (h6 : S.1 ≤ 6) (hs : rS (σ.1 25 0) S) : ∀ (f i : Nat), i + f = S.1 → jm_ev 59 (jM_sets, 72, [some (jm_R 21 0), some (jm_I x1), some (jm_I x2), some (jm_I x3), some (jm_I x4), some (jm_I x5), some (jm_I (nI k)), some (jm_I (sumM (S.2.2 0) (nI k) i)), some (jm_I (nI i))], [], σ) = jm_ev 59 (jM_sets, 72, [some (jm_R 21 0), some (jm_I x1), some (jm_I x2), some (jm_I x3), some (jm_I x4), some (jm_I x5), some (jm_I (nI k)), some (jm_I (sumM (S.2.2 0) (nI k) S.1)), some (jm_I (nI S.1))], [], σ)
  | 0, i, h => by
    have : i = S.1 := by omega
    subst this
    rfl
  | f + 1, i, h => by
    have ih := r_siL σ x1 x2 x3 x4 x5 (k := k) h6 hs f (i + 1) (by omega)
    rw [sumM_s] at ih
    rw [← ih, gM_sets_72, hs.1, jm_cf (nI_ge (by omega) (by omega)), r_has, Option.bind_some, jm_ps, gM_sets_92]
    by_cases hb : ((nI k >>> (nI i &&& 31)) &&& 1) = 1
    · rw [if_pos hb, jm_cf (by decide), r_of1 58 σ 0 (show i < 6 by omega), (hs.2.2 i (by omega)).2.1, Option.bind_some, jm_ps, gM_sets_105, gM_sets_109, nI_1]
      simp only [hb, if_true]
    · rw [if_neg hb, jm_ct rfl, gM_sets_109, nI_1, Int32.add_zero]
      simp only [hb, if_false]
theorem r_seL (σ : jm_S) {S : sS} {x y : Int32} (h6 : S.1 ≤ 6) (hs : rS (σ.1 25 0) S) (hy : y = 0 ∨ y = 1 ∨ y = 2) : ∀ (f k : Nat) (o7 o8 : Option jm_V), k + f = 2 ^ S.1 → jm_ev 59 (jM_sets, 53, [some (jm_R 21 0), some (jm_I x), some (jm_I y), some (jm_I (nI (sa (sP1 S x) k).1)), some (jm_I (sa (sP1 S x) k).2.1), some (jm_I (sa (sP1 S x) k).2.2), some (jm_I (nI k)), o7, o8], [], σ) = some (some (jm_I (sV (sa (sP1 S x) (2 ^ S.1)) y)), σ)
  | 0, k, o7, o8, h => by
    have hp := pow6 h6
    have : k = 2 ^ S.1 := by omega
    subst this
    rw [gM_sets_53, hs.1, shl6 h6, jm_ct (nI_le (Nat.le_refl _) (by omega)), gM_sets_176, gM_sets_176, gM_sets_176]
    rcases hy with rfl | rfl | rfl
    · rw [jm_cf (fun h9 => h9 rfl)]; rfl
    · rw [jm_ct (by decide), jm_cf (fun h9 => h9 rfl)]; rfl
    · rw [jm_ct (by decide), jm_ct (by decide)]; rfl
  | f + 1, k, o7, o8, h => by
    have hp := pow6 h6
    have ih := fun o7 o8 => r_seL σ (x := x) h6 hs hy f (k + 1) o7 o8 (by omega)
    have w := r_siL σ x y (nI (sa (sP1 S x) k).1) (sa (sP1 S x) k).2.1 (sa (sP1 S x) k).2.2 (k := k) h6 hs S.1 0 (by omega)
    have w' : jm_ev 59 (jM_sets, 72, [some (jm_R 21 0), some (jm_I x), some (jm_I y), some (jm_I (nI (sa (sP1 S x) k).1)), some (jm_I (sa (sP1 S x) k).2.1), some (jm_I (sa (sP1 S x) k).2.2), some (jm_I (nI k)), some (jm_I 0), some (jm_I 0)], [], σ) = _ := w
    have h1 := (sa_0 (sP1 S x) k).1
    rw [gM_sets_53, hs.1, shl6 h6, jm_cf (nI_ge (by omega) (by omega)), w', gM_sets_72, hs.1, jm_ct (nI_le (Nat.le_refl _) (by omega)), gM_sets_138, gM_sets_138, gM_sets_150, gM_sets_150, gM_sets_150, nI_1, nI_1]
    simp only [sa_s] at ih
    by_cases hP : sP1 S x k = true
    · simp only [if_pos hP] at ih
      have hx : sumM (S.2.2 0) (nI k) S.1 = x := of_decide_eq_true hP
      rw [jm_cf (fun h9 => h9 hx)]
      by_cases h0 : (sa (sP1 S x) k).1 = 0
      · simp only [if_pos h0] at ih
        rw [jm_cf (fun h9 => h9 (by rw [h0]; rfl))]
        exact ih _ _
      · simp only [if_neg h0] at ih
        rw [jm_ct (nI_ne0 (by omega) (by omega))]
        exact ih _ _
    · simp only [if_neg hP] at ih
      have hx : ¬ sumM (S.2.2 0) (nI k) S.1 = x := fun h9 => hP (decide_eq_true h9)
      rw [jm_ct hx]
      exact ih _ _
theorem P_sets {A : aS} (hA : okA A) (x y : Int32) : Pair A jD_sets jM_sets [jm_I x, jm_I y] := by
  have h6 := hA.2.2.1.1
  have hp := pow6 h6
  have go : ∀ v, (∀ σ, cRel σ A → jm_call 60 jD_sets [jm_R 0 0, jm_I x, jm_I y] σ = some (some (jm_I v), σ)) → (∀ σ, rRel σ A → jm_call 60 jM_sets [jm_R 21 0, jm_I x, jm_I y] σ = some (some (jm_I v), jm_wi σ 21 0 0 0)) → Pair A jD_sets jM_sets [jm_I x, jm_I y] := fun v h1 h2 => ⟨jm_I v, A, hA, fun σ hc => ⟨σ, h1 σ hc, hc, jm_ag.rf⟩, fun σ hr => ⟨jm_wi σ 21 0 0 0, h2 σ hr, hr.th 0, jm_ag.wi rfl⟩⟩
  by_cases h0 : (aSh A).1 = 0
  · refine go (-1000002) (fun σ hc => ?_) (fun σ hr => ?_)
    · rw [gD_sets_0, hc.2.2.1.1, h0, jm_cf (fun h9 => h9 rfl)]
    · rw [gM_sets_0, r_isThere 58 _ (hr.th 0).2.2.1.1 h6, if_pos h0, Option.bind_some, jm_ps, gM_sets_9, jm_cf (fun h9 => h9 rfl)]
  have hne : ¬ nI (aSh A).1 = 0 := nI_ne0 (by omega) (by omega)
  have z0 : (0 : Int32).toInt = 0 := rfl
  have z2 : (2 : Int32).toInt = 2 := rfl
  have z99 : (99 : Int32).toInt = 99 := rfl
  by_cases hx : 0 ≤ x.toInt ∧ x.toInt ≤ (99 : Nat)
  case neg =>
    refine go (-1000001) (fun σ hc => ?_) (fun σ hr => ?_)
    · rw [gD_sets_0, hc.2.2.1.1, jm_ct hne, gD_sets_32]
      by_cases a : x < 0
      · rw [jm_ct a]
      · rw [jm_cf a, jm_ct]
        rw [jm_ti32] at a ⊢
        omega
    · rw [gM_sets_0, r_isThere 58 _ (hr.th 0).2.2.1.1 h6, if_neg h0, Option.bind_some, jm_ps, gM_sets_9, jm_ct (by decide), r_inK 58 _ _ 99 (n := 99) rfl, if_neg hx, Option.bind_some, jm_ps, gM_sets_24, jm_ct rfl, gM_sets_39]
  have hx0 : ¬ x < 0 := by rw [jm_ti32]; omega
  have hx9 : ¬ (99 : Int32) < x := by rw [jm_ti32]; omega
  by_cases hy : 0 ≤ y.toInt ∧ y.toInt ≤ (2 : Nat)
  case neg =>
    refine go (-1000001) (fun σ hc => ?_) (fun σ hr => ?_)
    · rw [gD_sets_0, hc.2.2.1.1, jm_ct hne, jm_cf hx0, jm_cf hx9, gD_sets_32]
      by_cases a : y < 0
      · rw [jm_ct a]
      · rw [jm_cf a, jm_cf]
        rw [jm_ti32] at a
        rw [jm_te32]
        omega
    · rw [gM_sets_0, r_isThere 58 _ (hr.th 0).2.2.1.1 h6, if_neg h0, Option.bind_some, jm_ps, gM_sets_9, jm_ct (by decide), r_inK 58 _ _ 99 (n := 99) rfl, if_pos hx, Option.bind_some, jm_ps, gM_sets_24, jm_cf (by decide), r_inK 58 _ _ 2 (n := 2) rfl, if_neg hy, Option.bind_some, jm_ps, gM_sets_36, jm_cf (fun h9 => h9 rfl), gM_sets_39]
  have hy0 : ¬ y < 0 := by rw [jm_ti32]; omega
  have hy2 : y ≤ 2 := by rw [jm_te32]; omega
  have hy3 : y = 0 ∨ y = 1 ∨ y = 2 := by
    obtain ⟨b, hb, rfl⟩ := jm_nI_of (x := y) (n := 3) hy.1 (by omega)
    rcases (show b = 0 ∨ b = 1 ∨ b = 2 by omega) with rfl | rfl | rfl
    · exact Or.inl rfl
    · exact Or.inr (Or.inl rfl)
    · exact Or.inr (Or.inr rfl)
  refine go (sV (sa (sP1 (aSh A) x) (2 ^ (aSh A).1)) y) (fun σ hc => ?_) (fun σ hr => ?_)
  · rw [gD_sets_0, hc.2.2.1.1, jm_ct hne, jm_cf hx0, jm_cf hx9, jm_cf hy0, jm_ct hy2, shl6 h6, nS1 hp.1]
    exact c_seL σ h6 hc.2.2.1 hy3 (2 ^ (aSh A).1) 0 (by omega)
  · rw [gM_sets_0, r_isThere 58 _ (hr.th 0).2.2.1.1 h6, if_neg h0, Option.bind_some, jm_ps, gM_sets_9, jm_ct (by decide), r_inK 58 _ _ 99 (n := 99) rfl, if_pos hx, Option.bind_some, jm_ps, gM_sets_24, jm_cf (by decide), r_inK 58 _ _ 2 (n := 2) rfl, if_pos hy, Option.bind_some, jm_ps, gM_sets_36, jm_ct (by decide)]
    exact r_seL (jm_wi σ 21 0 0 0) h6 (hr.th 0).2.2.1 hy3 (2 ^ (aSh A).1) 0 none none (by omega)
