-- METHODS: broken, the class's loops
theorem bR_v {o : Option Nat} {v : Nat} (ho : le6 o) (hv : v ≤ 6) : bR o = nI v ↔ o = some v := by
  cases o with
  | none =>
    constructor
    · intro h9
      have h8 := congrArg Int32.toInt h9
      rw [nI_toInt (by omega), show (bR none).toInt = -1000016 from rfl] at h8
      omega
    · intro h9; cases h9
  | some c =>
    have hc := ho c rfl
    show nI c = nI v ↔ _
    rw [nI_eq (by omega) (by omega)]
    exact ⟨fun h => by rw [h], fun h => by cases h; rfl⟩
theorem bk_le {S : sS} (h6 : S.1 ≤ 6) (s m : Nat) : le6 (BS (bkT S s m) S.2.1) := fun c hc => Nat.le_trans (BS_le (S := bkT S s m) hc) h6
theorem c_coL (σ0 : jm_S) {S : sS} (h6 : S.1 ≤ 6) (h1 : 1 ≤ S.1) (hS0 : cS σ0 0 S) {s v p : Nat} (hs : s < 32) (hv : v ≤ 6) (hp : p ≤ 10) : ∀ (f i : Nat) (σ : jm_S) (o7 : Option jm_V), i + f = S.1 - 1 → jm_ag Csc σ0 σ → bkI σ S s i → ∃ σ', jm_ev 58 (jD_casesOf, 6, [some (jm_R 0 0), some (jm_I (nI s)), some (jm_I (nI v)), some (jm_I (nI p)), some (jm_L (nL (prodTo (wy p s) i))), none, some (jm_I (nI i)), o7], [], σ) = some (some (jm_L (nL (abC S v p s))), σ') ∧ jm_ag Csc σ0 σ' ∧ cS σ' 1 (bkT S s (S.1 - 1)) := by
  intro f
  induction f with
  | zero =>
    intro i σ o7 h ha hI
    have hi : i = S.1 - 1 := by omega
    subst hi
    have hs1 := hI.fin
    obtain ⟨σ1, e1, e2⟩ := c_bmt 54 σ (T := bkT S s (S.1 - 1)) h6 hs1
    obtain ⟨m, hm⟩ : ∃ m, S.1 = m + 1 := ⟨S.1 - 1, by omega⟩
    have h7 : σ.1 7 0 1 = nI S.1 := by rw [(ha 7 0 rfl).1]; exact hS0.1
    refine ⟨σ1, ?_, ha.tr (C1418_sc e2), cS_ag hs1 e2 rfl (fun _ _ => rfl)⟩
    have hle : nI S.1 - 1 ≤ nI (S.1 - 1) := by rw [hm, nI_p1]; exact nI_le (Nat.le_refl _) (by omega)
    rw [gD_casesOf_6, h7, jm_ct hle, e1, Option.bind_some, jm_ps, gD_casesOf_100, gD_casesOf_110, gD_casesOf_110]
    unfold abC
    have hb := bR_v (bk_le h6 s (S.1 - 1)) hv
    by_cases hB : BS (bkT S s (S.1 - 1)) S.2.1 = some v
    · rw [if_pos hB, jm_cf (fun h9 => h9 (hb.mpr hB))]; rfl
    · rw [if_neg hB, jm_ct (show ¬ bR (BS (bkT S s (S.1 - 1)) (bkT S s (S.1 - 1)).2.1) = nI v from fun h9 => hB (hb.mp h9))]; rfl
  | succ f ih =>
    intro i σ o7 h ha hI
    have hi : i < S.1 - 1 := by omega
    have h7 : σ.1 7 0 1 = nI S.1 := by rw [(ha 7 0 rfl).1]; exact hS0.1
    have hk : σ.1 9 1 i = S.2.2 1 i := by rw [(ha 9 1 rfl).1]; exact hS0.2.2 1 (by omega) i (by omega)
    obtain ⟨o7', e1⟩ := c_coS (s := s) (v := v) (p := p) hi h6 hs hp (l4 := prodTo (wy p s) i) o7 σ h7 hk
    rw [e1, ← prodTo_s]
    exact ih (i + 1) _ o7' (by omega) (ha.tr (jm_ag.wi rfl)) (hI.wr hi rfl)
def brV (z : Int32) (a b : Nat) : Int64 := if z = 0 then nL a / nL (Nat.gcd b a) else nL b / nL (Nat.gcd b a)
theorem c_brL (σ0 : jm_S) {S : sS} (h6 : S.1 ≤ 6) (h1 : 1 ≤ S.1) (hS0 : cS σ0 0 S) {v p : Nat} (hv : v ≤ 6) (hp : p ≤ 10) (z : Int32) : ∀ (f s : Nat) (σ : jm_S), s + f = 2 ^ (S.1 - 1) → jm_ag Csc σ0 σ → bkI σ S s 0 → ∃ σ', jm_ev 59 (jD_broken, 102, [some (jm_R 0 0), some (jm_I (nI v)), some (jm_I (nI p)), some (jm_I z), some (jm_L (nL (sumTo (abC S v p) s))), none, some (jm_L (nL (10 ^ (S.1 - 1)))), none, some (jm_I (nI (S.1 - 1))), some (jm_I (nI s)), none], [], σ) = some (some (jm_L (brV z (sumTo (abC S v p) (2 ^ (S.1 - 1))) (10 ^ (S.1 - 1)))), σ') ∧ jm_ag Csc σ0 σ' := by
  have h32 := two5 (S.1 - 1) (by omega)
  have h10 := ten5 (S.1 - 1) (by omega)
  have hab := ab_le (v := v) (p := p) h6 h1 hp
  intro f
  induction f with
  | zero =>
    intro s σ h ha hI
    have hs : s = 2 ^ (S.1 - 1) := by omega
    subst hs
    refine ⟨σ, ?_, ha⟩
    have hg : 0 < Nat.gcd (10 ^ (S.1 - 1)) (sumTo (abC S v p) (2 ^ (S.1 - 1))) := Nat.gcd_pos_of_pos_left _ h10.1
    have hg2 : Nat.gcd (10 ^ (S.1 - 1)) (sumTo (abC S v p) (2 ^ (S.1 - 1))) ≤ 10 ^ (S.1 - 1) := Nat.gcd_le_left _ h10.1
    rw [gD_broken_102, shl6 (show S.1 - 1 ≤ 6 by omega), jm_ct (nI_le (Nat.le_refl _) (by omega)), c_cd 58 σ h10.1 h10.2 hab, Option.bind_some, jm_ps, gD_broken_137, jm_ct (nL_ne hg (by omega)), jm_ct (nL_ne hg (by omega)), gD_broken_156, gD_broken_156]
    unfold brV
    by_cases hz : z = 0
    · rw [jm_cf (fun h9 => h9 hz), if_pos hz]
    · rw [jm_ct hz, if_neg hz]
  | succ f ih =>
    intro s σ h ha hI
    obtain ⟨σ1, e1, e2, e3⟩ := c_coL σ0 h6 h1 hS0 (s := s) (v := v) (p := p) (by omega) hv hp (S.1 - 1) 0 σ none (by omega) ha hI
    obtain ⟨σ', g1, g2⟩ := ih (s + 1) σ1 (by omega) e2 (bkI.st e3)
    refine ⟨σ', ?_, g2⟩
    have e0 : jm_call 59 jD_casesOf [jm_R 0 0, jm_I (nI s), jm_I (nI v), jm_I (nI p)] σ = some (some (jm_L (nL (abC S v p s))), σ1) := (gD_casesOf_0 58 σ (nI s) (nI v) (nI p)).trans e1
    rw [gD_broken_102, shl6 (show S.1 - 1 ≤ 6 by omega), jm_cf (nI_ge (show s < 2 ^ (S.1 - 1) by omega) (by omega)), e0, Option.bind_some, jm_ps, gD_broken_121, nI_1, nL_add, ← sumTo_s]
    exact g1
theorem c_67 (σ : jm_S) (x1 x2 x3 : Int32) (l4 : Int64) (m : Nat) (hm : m ≤ 5) : ∀ (f i : Nat), i + f = m → jm_ev 59 (jD_broken, 67, [some (jm_R 0 0), some (jm_I x1), some (jm_I x2), some (jm_I x3), some (jm_L l4), none, some (jm_L (nL (10 ^ i))), none, some (jm_I (nI m)), some (jm_I (nI i)), none], [], σ) = jm_ev 59 (jD_broken, 67, [some (jm_R 0 0), some (jm_I x1), some (jm_I x2), some (jm_I x3), some (jm_L l4), none, some (jm_L (nL (10 ^ m))), none, some (jm_I (nI m)), some (jm_I (nI m)), none], [], σ) := by
  intro f
  induction f with
  | zero =>
    intro i h
    have : i = m := by omega
    rw [this]
  | succ f ih =>
    intro i h
    refine Eq.trans ?_ (ih (i + 1) (by omega))
    rw [gD_broken_67, jm_cf (nI_ge (show i < m by omega) (by omega)), show (10 : Int64) = nL 10 from rfl, nL_mul, nI_1, Nat.pow_succ]
