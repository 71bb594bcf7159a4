-- METHODS: byTurns, the class
def tE (T : sS) : Nat := match BS T T.2.1 with
  | none => T.1
  | some c => c
theorem tE_le {T : sS} (h6 : T.1 ≤ 6) : tE T ≤ 6 := by
  unfold tE
  cases h : BS T T.2.1 with
  | none => exact h6
  | some c => exact Nat.le_trans (BS_le h) h6
def uS (b : Bool) : Nat := cond b 1 0
def mS (b : Bool) : Int32 := cond b 5 1
def tP (b : Bool) (T : sS) (i : Nat) : sS := sPut T (uS b) i (T.2.2 (uS b) i + mS b)
def tm (b : Bool) (a v : Nat) : Nat := cond b (if v < a then v else a) (if a < v then v else a)
def tb (b : Bool) (g : Nat → Nat) : Nat → Nat
  | 0 => cond b 6 0
  | k + 1 => tm b (tb b g k) (g k)
def tv : Nat → Bool → sS → Nat
  | 0, _, T => tE T
  | n + 1, b, T => tb b (fun i => tv n (!b) (tP b T i)) T.1
theorem tm_le {b : Bool} {a v : Nat} (ha : a ≤ 6) (hv : v ≤ 6) : tm b a v ≤ 6 := by
  unfold tm
  cases b with
  | true => show (if v < a then v else a) ≤ 6; split <;> omega
  | false => show (if a < v then v else a) ≤ 6; split <;> omega
theorem tb_le {b : Bool} {g : Nat → Nat} (hg : ∀ i, g i ≤ 6) : ∀ k, tb b g k ≤ 6
  | 0 => by cases b with
    | true => exact Nat.le_refl 6
    | false => exact Nat.zero_le 6
  | k + 1 => tm_le (tb_le hg k) (hg k)
theorem tP_1 (b : Bool) (T : sS) (i : Nat) : (tP b T i).1 = T.1 := rfl
theorem tv_le : ∀ (n : Nat) (b : Bool) (T : sS), T.1 ≤ 6 → tv n b T ≤ 6
  | 0, _, T, h => tE_le h
  | n + 1, b, T, h => tb_le (fun i => tv_le n (!b) (tP b T i) h) _
theorem cS_bk {σ : jm_S} {q : Nat} {T : sS} {u i : Nat} {y : Int32} (h : cS σ q (sPut (sPut T u i y) u i (T.2.2 u i))) : cS σ q T := by
  refine ⟨h.1, h.2.1, fun w hw d hd => ?_⟩
  refine (h.2.2 w hw d hd).trans ?_
  show (if w = u ∧ d = i then T.2.2 u i else if w = u ∧ d = i then y else T.2.2 w d) = T.2.2 w d
  by_cases h9 : w = u ∧ d = i
  · rw [if_pos h9, h9.1, h9.2]
  · rw [if_neg h9, if_neg h9]
theorem uS_4 (b : Bool) : uS b < 4 := by cases b <;> decide
theorem nI_p1 (n : Nat) : nI (n + 1) - 1 = nI n := by rw [← nI_1, Int32.add_sub_cancel]
theorem tm_I {b : Bool} {a v : Nat} (ha : a ≤ 6) (hv : v ≤ 6) : (cond (decide (bI b = 0)) (if nI a < nI v then nI v else nI a) (if nI v < nI a then nI v else nI a)) = nI (tm b a v) := by
  cases b with
  | true =>
    rw [jm_cf (show ¬ bI true = 0 by decide)]
    show _ = nI (if v < a then v else a)
    by_cases h : v < a
    · rw [if_pos h, if_pos (nI_lt h (by omega))]
    · rw [if_neg h, if_neg (nI_nlt (by omega) (by omega))]
  | false =>
    rw [jm_ct (show bI false = 0 from rfl)]
    show _ = nI (if a < v then v else a)
    by_cases h : a < v
    · rw [if_pos h, if_pos (nI_lt h (by omega))]
    · rw [if_neg h, if_neg (nI_nlt (by omega) (by omega))]
theorem c_tnS {e n k : Nat} {b : Bool} {D a v : Nat} (hk : k < D) (hD : D ≤ 6) (ha : a ≤ 6) (hv : v ≤ 6) (o7 : Option jm_V) (σ σ1 : jm_S) (h7 : σ.1 7 1 1 = nI D) (e1 : jm_call e jD_turned [jm_R 0 0, jm_I (nI n), jm_I (bI (!b))] (jm_wi σ 9 (4 + uS b) k (σ.1 9 (4 + uS b) k + mS b)) = some (some (jm_I (nI v)), σ1)) : jm_ev e (jD_turned, 63, [some (jm_R 0 0), some (jm_I (nI (n + 1))), some (jm_I (bI b)), some (jm_I (nI (uS b))), some (jm_I (mS b)), some (jm_I (nI a)), some (jm_I (nI k)), o7], [], σ) = jm_ev e (jD_turned, 63, [some (jm_R 0 0), some (jm_I (nI (n + 1))), some (jm_I (bI b)), some (jm_I (nI (uS b))), some (jm_I (mS b)), some (jm_I (nI (tm b a v))), some (jm_I (nI (k + 1))), some (jm_I (nI v))], [], jm_wi σ1 9 (4 + uS b) k (σ1.1 9 (4 + uS b) k - mS b)) := by
  rw [gD_turned_63, h7, jm_cf (nI_ge hk (by omega)), jm_in_nI (uS_4 b) (by decide), jm_in_nI (show k < 6 by omega) (by decide), cond_true, cond_true, cond_true, jm_cl (show uS b < 2 ^ 31 by have := uS_4 b; omega), jm_cl (show k < 2 ^ 31 by omega), gD_turned_105, gD_turned_105, nI_p1]
  have e2 : (cond (decide (¬ bI b = 0)) ((jm_call e jD_turned [jm_R 0 0, jm_I (nI n), jm_I 0] (jm_wi σ 9 (4 + uS b) k (σ.1 9 (4 + uS b) k + mS b))).bind fun q => jm_ev e (jm_psh (jD_turned, 108, [some (jm_R 0 0), some (jm_I (nI (n + 1))), some (jm_I (bI b)), some (jm_I (nI (uS b))), some (jm_I (mS b)), some (jm_I (nI a)), some (jm_I (nI k)), o7], [], jm_wi σ 9 (4 + uS b) k (σ.1 9 (4 + uS b) k + mS b)) q)) ((jm_call e jD_turned [jm_R 0 0, jm_I (nI n), jm_I 1] (jm_wi σ 9 (4 + uS b) k (σ.1 9 (4 + uS b) k + mS b))).bind fun q => jm_ev e (jm_psh (jD_turned, 108, [some (jm_R 0 0), some (jm_I (nI (n + 1))), some (jm_I (bI b)), some (jm_I (nI (uS b))), some (jm_I (mS b)), some (jm_I (nI a)), some (jm_I (nI k)), o7], [], jm_wi σ 9 (4 + uS b) k (σ.1 9 (4 + uS b) k + mS b)) q))) = ((jm_call e jD_turned [jm_R 0 0, jm_I (nI n), jm_I (bI (!b))] (jm_wi σ 9 (4 + uS b) k (σ.1 9 (4 + uS b) k + mS b))).bind fun q => jm_ev e (jm_psh (jD_turned, 108, [some (jm_R 0 0), some (jm_I (nI (n + 1))), some (jm_I (bI b)), some (jm_I (nI (uS b))), some (jm_I (mS b)), some (jm_I (nI a)), some (jm_I (nI k)), o7], [], jm_wi σ 9 (4 + uS b) k (σ.1 9 (4 + uS b) k + mS b)) q)) := by
    cases b with
    | true => rw [jm_ct (show ¬ bI true = 0 by decide)]; rfl
    | false => rw [jm_cf (fun h9 => h9 rfl)]; rfl
  refine e2.trans ?_
  rw [e1, Option.bind_some, jm_ps, gD_turned_108, jm_in_nI (uS_4 b) (by decide), jm_in_nI (show k < 6 by omega) (by decide), cond_true, cond_true, cond_true, jm_cl (show uS b < 2 ^ 31 by have := uS_4 b; omega), jm_cl (show k < 2 ^ 31 by omega), gD_turned_148, gD_turned_148, nI_1 k, ← tm_I ha hv]
  cases h : decide (bI b = 0) <;> rfl
theorem c_tnL {e n : Nat} {b : Bool} {T : sS} (h6 : T.1 ≤ 6) (IH : ∀ (T : sS) (σ : jm_S), T.1 ≤ 6 → cS σ 1 T → ∃ σ', jm_call e jD_turned [jm_R 0 0, jm_I (nI n), jm_I (bI (!b))] σ = some (some (jm_I (nI (tv n (!b) T))), σ') ∧ cS σ' 1 T ∧ jm_ag Csc σ σ') : ∀ (f k : Nat) (σ : jm_S) (o7 : Option jm_V), k + f = T.1 → cS σ 1 T → ∃ σ', jm_ev e (jD_turned, 63, [some (jm_R 0 0), some (jm_I (nI (n + 1))), some (jm_I (bI b)), some (jm_I (nI (uS b))), some (jm_I (mS b)), some (jm_I (nI (tb b (fun i => tv n (!b) (tP b T i)) k))), some (jm_I (nI k)), o7], [], σ) = some (some (jm_I (nI (tb b (fun i => tv n (!b) (tP b T i)) T.1))), σ') ∧ cS σ' 1 T ∧ jm_ag Csc σ σ' := by
  intro f
  induction f with
  | zero =>
    intro k σ o7 h hs
    have : k = T.1 := by omega
    subst this
    exact ⟨σ, by rw [gD_turned_63, hs.1, jm_ct (nI_le (Nat.le_refl _) (by omega))], hs, jm_ag.rf⟩
  | succ f ih =>
    intro k σ o7 h hs
    have hu := uS_4 b
    have hrd : σ.1 9 (4 + uS b) k = T.2.2 (uS b) k := hs.2.2 (uS b) hu k (by omega)
    have hput : cS (jm_wi σ 9 (4 + uS b) k (σ.1 9 (4 + uS b) k + mS b)) 1 (tP b T k) := by rw [hrd]; exact hs.put _
    obtain ⟨σ1, e1, e2, e3⟩ := IH (tP b T k) _ h6 hput
    have hrd1 : σ1.1 9 (4 + uS b) k = T.2.2 (uS b) k + mS b := (e2.2.2 (uS b) hu k (by show k < T.1; omega)).trans (if_pos ⟨rfl, rfl⟩)
    have hback : cS (jm_wi σ1 9 (4 + uS b) k (σ1.1 9 (4 + uS b) k - mS b)) 1 T := by
      rw [hrd1, Int32.add_sub_cancel]
      exact cS_bk (e2.put _)
    have hg : ∀ i, tv n (!b) (tP b T i) ≤ 6 := fun i => tv_le n (!b) (tP b T i) h6
    obtain ⟨σ', g1, g2, g3⟩ := ih (k + 1) _ (some (jm_I (nI (tv n (!b) (tP b T k))))) (by omega) hback
    refine ⟨σ', ?_, g2, (((jm_ag.wi (sc9 hu)).tr e3).tr (jm_ag.wi (sc9 hu))).tr g3⟩
    rw [c_tnS (show k < T.1 by omega) h6 (tb_le hg k) (hg k) o7 σ σ1 hs.1 e1]
    exact g1
theorem c_turned : ∀ (n : Nat) (e : Nat) (b : Bool) (T : sS) (σ : jm_S), n ≤ 3 → T.1 ≤ 6 → cS σ 1 T → ∃ σ', jm_call (e + 5 + n) jD_turned [jm_R 0 0, jm_I (nI n), jm_I (bI b)] σ = some (some (jm_I (nI (tv n b T))), σ') ∧ cS σ' 1 T ∧ jm_ag Csc σ σ' := by
  intro n
  induction n with
  | zero =>
    intro e b T σ hn h6 hs
    obtain ⟨σ1, e1, e2⟩ := c_bmt e σ h6 hs
    have hs1 : cS σ1 1 T := cS_ag hs e2 rfl (fun _ _ => rfl)
    refine ⟨σ1, ?_, hs1, C1418_sc e2⟩
    show jm_call ((e + 4) + 1) jD_turned _ _ = _
    rw [gD_turned_0, jm_cf (show ¬ (0 : Int32) < nI 0 by decide), e1, Option.bind_some, jm_ps, gD_turned_8, gD_turned_26, gD_turned_26, hs1.1]
    show _ = some (some (jm_I (nI (tE T))), σ1)
    unfold tE
    cases h : BS T T.2.1 with
    | none => rw [jm_cf (fun h9 => h9 rfl)]
    | some c => rw [jm_ct (bR_ne (Nat.le_trans (BS_le h) h6))]; rfl
  | succ n ih =>
    intro e b T σ hn h6 hs
    obtain ⟨σ', g1, g2, g3⟩ := c_tnL (e := e + 5 + n) (n := n) (b := b) h6 (fun T σ h6 hs => ih e (!b) T σ (by omega) h6 hs) T.1 0 σ none (by omega) hs
    refine ⟨σ', ?_, g2, g3⟩
    show jm_call ((e + 5 + n) + 1) jD_turned _ _ = _
    rw [gD_turned_0, jm_ct (show (0 : Int32) < nI (n + 1) from nI_lt (a := 0) (by omega) (by omega)), gD_turned_36, gD_turned_36, gD_turned_46, gD_turned_46, gD_turned_46, gD_turned_46, gD_turned_58, gD_turned_58, gD_turned_58, gD_turned_58, gD_turned_58, gD_turned_58, gD_turned_58, gD_turned_58]
    refine Eq.trans ?_ g1
    cases b with
    | true => rw [jm_cf (show ¬ bI true = 0 by decide), jm_cf (show ¬ bI true = 0 by decide), jm_cf (show ¬ bI true = 0 by decide)]; rfl
    | false => rw [jm_ct (show bI false = 0 from rfl), jm_ct (show bI false = 0 from rfl), jm_ct (show bI false = 0 from rfl)]; rfl
