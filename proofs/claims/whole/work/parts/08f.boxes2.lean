-- MATHS: below and boxes of the reference; all boxes of both
def BS (S : sS) (m : Int32) : Option Nat := blS S.1 (sw S) (ss S) (st S) m
theorem r_belowL (e : Nat) (σ : jm_S) (q : Nat) {n : Nat} {f : Nat → Int64} (h6 : n ≤ 6) (m : Int32) (h5 : σ.1 25 q 0 = nI n) (h19 : σ.1 21 0 19 = 0) (hf : ∀ j, j ≤ n → σ.2 28 0 j = f j) : ∀ (k i : Nat) (o6 : Option jm_V), i + k = n → jm_ev e (jM_belowOf, 17, [some (jm_R 21 0), some (jm_R 25 q), some (jm_I m), some (jm_I (nI (sg f i).1)), some (jm_I (bI (sg f i).2)), some (jm_I (nI (i + 1))), o6], [], σ) = some (some (jm_I (nI (sg f n).1)), σ)
  | 0, i, o6, h => by
    have hi : i = n := by omega
    subst hi
    rw [gM_belowOf_17, h5, jm_ct (nI_lt (Nat.lt_succ_self i) (by omega)), gM_belowOf_93]
  | k + 1, i, o6, h => by
    have ih := fun o6 => r_belowL e σ q h6 m h5 h19 hf k (i + 1) o6 (by omega)
    rw [gM_belowOf_17, h5, jm_cf (nI_nlt (show i + 1 ≤ n by omega) (by omega)), h19, jm_cf (fun h9 => h9 rfl), jm_in_nI (show i + 1 < 7 by omega) (by decide), cond_true, cond_true, jm_cl (by omega), hf (i + 1) (by omega)]
    have fin : ∀ b : Bool, b = (sg f (i + 1)).2 → jm_ev e (jM_belowOf, 66, [some (jm_R 21 0), some (jm_R 25 q), some (jm_I m), some (jm_I (nI (sg f i).1)), some (jm_I (bI (sg f i).2)), some (jm_I (nI (i + 1))), o6], [jm_I (bI b)], σ) = some (some (jm_I (nI (sg f n).1)), σ) := by
      intro b hb
      have h2 : (sg f (i + 1)).1 = if b = (sg f i).2 then (sg f i).1 else (sg f i).1 + 1 := by rw [hb]; rfl
      rw [gM_belowOf_66]
      by_cases hbb : b = (sg f i).2
      · rw [jm_ct (by rw [hbb]), gM_belowOf_81, nI_1, show (0 : Int32) = nI 0 from rfl, nI_add]
        have := ih (some (jm_I (bI b)))
        rw [h2, if_pos hbb, ← hb] at this
        exact this
      · have hne : ¬ bI b = bI (sg f i).2 := by
          intro h9
          apply hbb
          revert h9
          generalize (sg f i).2 = c
          cases b <;> cases c <;> decide
        rw [jm_cf hne, gM_belowOf_81, nI_1, nI_1]
        have := ih (some (jm_I (bI b)))
        rw [h2, if_neg hbb, ← hb] at this
        exact this
    simp only [jm_lg_eq]
    by_cases h0 : f (i + 1) = 0
    · rw [jm_cf (fun h9 => h9 h0)]
      exact fin (sg f i).2 (by simp [sg, h0])
    · rw [jm_ct h0]
      by_cases hn : f (i + 1) < 0
      · rw [jm_cf (fun h9 => jm_lg_ge.mp h9 hn)]
        exact fin true (by simp [sg, h0, hn])
      · rw [jm_ct (jm_lg_ge.mpr hn)]
        exact fin false (by simp [sg, h0, hn])
theorem r_belowOf (e : Nat) (σ : jm_S) (q : Nat) {S : sS} (hK : okK S) (hS : rS (σ.1 25 q) S) (m : Int32) : ∃ σ', jm_call (e + 5) jM_belowOf [jm_R 21 0, jm_R 25 q, jm_I m] σ = some (some (jm_I (nI ((BS S m).getD 0))), σ') ∧ σ'.1 21 0 19 = bI (BS S m).isNone ∧ f19 σ σ' ∧ jm_ag C28 σ σ' := by
  obtain ⟨σ1, e1, e2, e3, e4, e5⟩ := r_reckon e σ q hK hS (Nat.le_refl S.1) m
  have h6 := hK.1
  have hS1 : σ1.1 25 q 0 = nI S.1 := by rw [(e4 25 q rfl).1]; exact hS.1
  rw [gM_belowOf_0, hS.1, e1, Option.bind_some, jm_pn, gM_belowOf_9]
  cases ho : oU (dgS (sw S) (ss S) (st S) m.toInt64) (ss S) S.1 with
  | true =>
    refine ⟨σ1, ?_, by rw [e2, ho]; simp [BS, blS, ho], e3, e4⟩
    rw [gM_belowOf_17, e2, ho, gM_belowOf_93, jm_ct (show ¬ bI true = 0 by decide)]
    simp [BS, blS, ho, show nI 0 = 0 from rfl]
  | false =>
    refine ⟨σ1, ?_, by rw [e2, ho]; simp [BS, blS, ho], e3, e4⟩
    have := r_belowL (e + 4) σ1 q h6 m hS1 (by rw [e2, ho]; rfl) (e5 ho) S.1 0 none (by omega)
    rw [show BS S m = some (sg (dt (dgS (sw S) (ss S) (st S) m.toInt64) (ss S)) S.1).1 by simp [BS, blS, ho]]
    exact this
/-- what the reference lays for a box: NONE too where it is beyond -/
def xN (o : Option (Option Nat)) : Int32 := match o with
  | some (some l) => nI l
  | _ => -1000000
theorem BS_le {S : sS} {m : Int32} {c : Nat} (h : BS S m = some c) : c ≤ S.1 := blS_le h
theorem r_boxL (e : Nat) (q : Nat) {S : sS} (hK : okK S) (k : Nat) (hk : k < 100) (x3 : Int32) : ∀ (f lo hi : Nat) (o6 o7 : Option jm_V) (σ : jm_S), rS (σ.1 25 q) S → hi - lo ≤ f → lo ≤ hi → hi ≤ 200 → σ.1 21 0 19 = 0 → ∃ σ', jm_ev (e + 5) (jM_boxOf, 32, [some (jm_R 21 0), some (jm_R 25 q), some (jm_I (nI k)), some (jm_I x3), some (jm_I (nI lo)), some (jm_I (nI hi)), o6, o7], [], σ) = some (some (jm_I (xN ((bis (BS S) k f lo hi).map some))), σ') ∧ σ'.1 21 0 19 = bI (bis (BS S) k f lo hi).isNone ∧ f19 σ σ' ∧ jm_ag C28 σ σ' := by
  intro f
  induction f with
  | zero =>
    intro lo hi o6 o7 σ hS hf hlh hh h19
    have hlo : hi = lo := by omega
    subst hlo
    rw [gM_boxOf_32, pk_sub (Nat.le_refl _), Nat.sub_self, jm_ct (show nI 0 ≤ 1 by decide)]
    exact ⟨σ, rfl, h19, f19.rf, jm_ag.rf⟩
  | succ f ih =>
    intro lo hi o6 o7 σ hS hf hlh hh h19
    have h6 := hK.1
    rw [gM_boxOf_32, pk_sub hlh]
    by_cases h1 : hi ≤ lo + 1
    · rw [jm_ct (show nI (hi - lo) ≤ 1 from nI_le (b := 1) (by omega) (by omega))]
      refine ⟨σ, ?_, ?_, f19.rf, jm_ag.rf⟩
      · simp [bis, h1, xN]
      · simp [bis, h1, h19, bI]
    · have hdiv : (nI lo + nI hi) / 2 = nI ((lo + hi) / 2) := by
        rw [nI_add]
        exact pk_div (d := 2) (by omega) (by omega) (by omega)
      obtain ⟨σ1, hc, ho1, hf1, ha1⟩ := r_belowOf e σ q hK hS (nI ((lo + hi) / 2))
      rw [jm_cf (show ¬ nI (hi - lo) ≤ 1 from nI_ge (a := 1) (by omega) (by omega)), hdiv, hc, Option.bind_some, jm_ps, gM_boxOf_57, ho1]
      have hS1 : rS (σ1.1 25 q) S := by rw [(ha1 25 q rfl).1]; exact hS
      cases hb : BS S (nI ((lo + hi) / 2)) with
      | none =>
        rw [jm_cf (show ¬ bI (none : Option Nat).isNone = 0 by decide)]
        refine ⟨σ1, ?_, ?_, hf1, ha1⟩
        · simp [bis, h1, hb, xN]
        · rw [ho1, hb]; simp [bis, h1, hb]
      | some c =>
        have hc6 := BS_le hb
        rw [jm_ct (show bI (some c).isNone = 0 from rfl)]
        by_cases hck : c ≤ k
        · rw [jm_cf (show ¬ nI k < nI ((some c).getD 0) from nI_nlt hck (by omega)), gM_boxOf_86]
          obtain ⟨σ2, e1, e2, e3, e4⟩ := ih ((lo + hi) / 2) hi _ _ σ1 hS1 (by omega) (by omega) hh (by rw [ho1, hb]; rfl)
          refine ⟨σ2, ?_, ?_, hf1.tr e3, ha1.tr e4⟩
          · rw [e1]; simp [bis, h1, hb, hck]
          · rw [e2]; simp [bis, h1, hb, hck]
        · rw [jm_ct (show nI k < nI ((some c).getD 0) from nI_lt (Nat.lt_of_not_le hck) (by show c < 2 ^ 31; omega)), gM_boxOf_86]
          obtain ⟨σ2, e1, e2, e3, e4⟩ := ih lo ((lo + hi) / 2) _ _ σ1 hS1 (by omega) (by omega) (by omega) (by rw [ho1, hb]; rfl)
          refine ⟨σ2, ?_, ?_, hf1.tr e3, ha1.tr e4⟩
          · rw [e1]; simp [bis, h1, hb, hck]
          · rw [e2]; simp [bis, h1, hb, hck]
theorem r_boxOf (e : Nat) (σ : jm_S) (q : Nat) {S : sS} (hK : okK S) (hS : rS (σ.1 25 q) S) {k : Nat} (hk : k < 100) : ∃ σ', jm_call (e + 6) jM_boxOf [jm_R 21 0, jm_R 25 q, jm_I (nI k)] σ = some (some (jm_I (xN (boxS (BS S) k))), σ') ∧ σ'.1 21 0 19 = bI (boxS (BS S) k).isNone ∧ f19 σ σ' ∧ jm_ag C28 σ σ' := by
  obtain ⟨σ1, hc, ho1, hf1, ha1⟩ := r_belowOf e σ q hK hS 200
  have h6 := hK.1
  have hS1 : rS (σ1.1 25 q) S := by rw [(ha1 25 q rfl).1]; exact hS
  rw [gM_boxOf_0, hc, Option.bind_some, jm_ps, gM_boxOf_8, ho1]
  cases hb : BS S 200 with
  | none =>
    rw [jm_ct (show ¬ bI (none : Option Nat).isNone = 0 by decide), gM_boxOf_21]
    refine ⟨σ1, ?_, ?_, hf1, ha1⟩
    · simp [boxS, hb, xN]
    · rw [ho1, hb]; simp [boxS, hb]
  | some c =>
    have hc6 := BS_le hb
    rw [jm_cf (fun h9 => h9 (show bI (some c).isNone = 0 from rfl))]
    by_cases hck : c ≤ k
    · rw [jm_cf (show ¬ nI k < nI ((some c).getD 0) from nI_nlt hck (by omega)), gM_boxOf_21]
      refine ⟨σ1, ?_, ?_, hf1, ha1⟩
      · simp [boxS, hb, hck, xN]
      · rw [ho1, hb]; simp [boxS, hb, hck]
    · rw [jm_ct (show nI k < nI ((some c).getD 0) from nI_lt (Nat.lt_of_not_le hck) (by show c < 2 ^ 31; omega))]
      obtain ⟨σ2, e1, e2, e3, e4⟩ := r_boxL e q hK k hk (nI ((some c).getD 0)) 200 0 200 none none σ1 hS1 (by omega) (by omega) (by omega) (by rw [ho1, hb]; rfl)
      have hbx : boxS (BS S) k = (bis (BS S) k 200 0 200).map some := by simp [boxS, hb, hck]
      refine ⟨σ2, ?_, ?_, hf1.tr e3, ha1.tr e4⟩
      · rw [hbx]; exact e1
      · rw [e2, hbx]; simp
-- all boxes
def aO (B : Int32 → Option Nat) : Nat → Bool
  | 0 => false
  | k + 1 => aO B k || (boxS B k).isNone
theorem aO_at {B : Int32 → Option Nat} : ∀ {n : Nat}, aO B n = false → ∀ k, k < n → (boxS B k).isNone = false
  | 0, _, k, hk => absurd hk (Nat.not_lt_zero k)
  | n + 1, h, k, hk => by
    simp only [aO, Bool.or_eq_false_iff] at h
    by_cases hkn : k = n
    · rw [hkn]; exact h.2
    · exact aO_at h.1 k (by omega)
theorem aO_le {B : Int32 → Option Nat} {k : Nat} (h : aO B k = true) : ∀ {n : Nat}, k ≤ n → aO B n = true
  | 0, hk => by
    have : k = 0 := by omega
    subst this
    exact h
  | n + 1, hk => by
    by_cases hkn : k = n + 1
    · rw [← hkn]; exact h
    · simp [aO, aO_le h (show k ≤ n by omega)]
abbrev C29 : Nat → Nat → Bool := fun k _ => k == 21 || k == 28 || k == 29
theorem C28_29 {σ σ' : jm_S} (h : jm_ag C28 σ σ') : jm_ag C29 σ σ' := h.mo (fun k r h9 => by simp [C29] at h9; simp [C28, h9.1])
theorem r_layL (e : Nat) (q : Nat) {S : sS} (hK : okK S) (n : Nat) (hn : n ≤ 6) : ∀ (f k : Nat) (σ : jm_S), k + f = n → rS (σ.1 25 q) S → σ.1 21 0 19 = bI (aO (BS S) k) → (aO (BS S) k = false → ∀ j, j < k → σ.1 29 0 j = xN (boxS (BS S) j)) → ∃ σ', jm_ev (e + 6) (jM_layBoxes, 7, [some (jm_R 21 0), some (jm_R 25 q), some (jm_I (nI n)), some (jm_I (nI k))], [], σ) = some (none, σ') ∧ σ'.1 21 0 19 = bI (aO (BS S) n) ∧ f19 σ σ' ∧ jm_ag C29 σ σ' ∧ (aO (BS S) n = false → ∀ j, j < n → σ'.1 29 0 j = xN (boxS (BS S) j))
  | 0, k, σ, hk, hS, h19, hb => by
    have : k = n := by omega
    subst this
    rw [gM_layBoxes_7, jm_ct (nI_le (Nat.le_refl _) (by omega)), gM_layBoxes_37]
    exact ⟨σ, rfl, h19, f19.rf, jm_ag.rf, hb⟩
  | f + 1, k, σ, hk, hS, h19, hb => by
    rw [gM_layBoxes_7, jm_cf (nI_ge (show k < n by omega) (by omega))]
    cases ho : aO (BS S) k with
    | true =>
      rw [h19, ho, jm_ct (show ¬ bI true = 0 by decide), gM_layBoxes_37]
      have ht := aO_le ho (show k ≤ n by omega)
      exact ⟨σ, rfl, by rw [h19, ho, ht], f19.rf, jm_ag.rf, fun h9 => by rw [ht] at h9; cases h9⟩
    | false =>
      obtain ⟨σ1, hc, ho1, hf1, ha1⟩ := r_boxOf e σ q hK hS (show k < 100 by omega)
      rw [h19, ho, jm_cf (fun h9 => h9 rfl), hc, Option.bind_some, jm_ps, gM_layBoxes_30, jm_in_nI (show k < 6 by omega) (by decide), cond_true, jm_cl (by omega), nI_1]
      obtain ⟨σ2, e1, e2, e3, e4, e5⟩ := r_layL e q hK n hn f (k + 1) (jm_wi σ1 29 0 k (xN (boxS (BS S) k))) (by omega) (by show rS (σ1.1 25 q) S; rw [(ha1 25 q rfl).1]; exact hS) (by
        show σ1.1 21 0 19 = _
        rw [ho1]
        simp [aO, ho]) (by
        intro h9 j hj
        rw [jm_wi1, if_pos ⟨rfl, rfl⟩]
        unfold upd
        by_cases hjk : j = k
        · rw [if_pos hjk, hjk]
        · rw [if_neg hjk, (ha1 29 0 rfl).1]
          exact hb ho j (by omega))
      exact ⟨σ2, e1, e2, (hf1.tr (fun j hj => rfl)).tr e3, ((C28_29 ha1).tr (jm_ag.wi rfl)).tr e4, e5⟩
theorem r_layBoxes (e : Nat) (σ : jm_S) (q : Nat) {S : sS} (hK : okK S) (hS : rS (σ.1 25 q) S) {n : Nat} (hn : n ≤ 6) : ∃ σ', jm_call (e + 7) jM_layBoxes [jm_R 21 0, jm_R 25 q, jm_I (nI n)] σ = some (none, σ') ∧ σ'.1 21 0 19 = bI (aO (BS S) n) ∧ f19 σ σ' ∧ jm_ag C29 σ σ' ∧ (aO (BS S) n = false → ∀ j, j < n → σ'.1 29 0 j = xN (boxS (BS S) j)) := by
  rw [gM_layBoxes_0]
  obtain ⟨σ', e1, e2, e3, e4, e5⟩ := r_layL e q hK n hn n 0 (jm_wi σ 21 0 19 0) (by omega) hS rfl (fun _ j hj => absurd hj (Nat.not_lt_zero j))
  exact ⟨σ', e1, e2, (f19.w (σ := σ) (x := 0)).tr e3, (jm_ag.wi rfl).tr e4, e5⟩
abbrev C19 : Nat → Nat → Bool := fun k _ => k == 14 || k == 18 || k == 19
theorem C18_19 {σ σ' : jm_S} (h : jm_ag C18 σ σ') : jm_ag C19 σ σ' := h.mo (fun k r h9 => by simp [C19] at h9; simp [C18, h9.1])
theorem xR_ov {o : Option (Option Nat)} (h : ∀ l, o = some (some l) → l < 2 ^ 31) : xR o = -1000016 ↔ o.isNone = true := by
  match o with
  | none => exact ⟨fun _ => rfl, fun _ => rfl⟩
  | some none => exact ⟨fun h9 => absurd h9 (by decide), fun h9 => by cases h9⟩
  | some (some l) =>
    constructor
    · intro h9
      have h1 := nI_nneg (h l rfl)
      have h2 : (nI l).toInt = -1000016 := by rw [show nI l = -1000016 from h9]; rfl
      omega
    · intro h9; cases h9
theorem bis_le {B : Int32 → Option Nat} {k : Nat} : ∀ {f lo hi l : Nat}, lo ≤ hi → bis B k f lo hi = some l → lo ≤ l ∧ l ≤ hi
  | 0, lo, hi, l, h, e => by cases e; exact ⟨Nat.le_refl _, h⟩
  | f + 1, lo, hi, l, h, e => by
    unfold bis at e
    split at e
    · cases e; exact ⟨Nat.le_refl _, h⟩
    · split at e
      · cases e
      · split at e
        · obtain ⟨a, b⟩ := bis_le (by omega) e
          exact ⟨by omega, b⟩
        · obtain ⟨a, b⟩ := bis_le (by omega) e
          exact ⟨a, by omega⟩
theorem boxS_le {B : Int32 → Option Nat} {k l : Nat} (h : boxS B k = some (some l)) : l ≤ 200 := by
  unfold boxS at h
  split at h
  · cases h
  · split at h
    · cases h
    · obtain ⟨l', h1, h2⟩ := Option.map_eq_some_iff.mp h
      cases h2
      exact (bis_le (by omega) h1).2
theorem c_layL (e : Nat) {n : Nat} {w s t : Nat → Int64} (h6 : n ≤ 6) : ∀ (f k : Nat) (σ : jm_S), k + f = n → sP σ n w s t → aO (blS n w s t) k = false → (∀ j, j < k → σ.1 19 0 j = xR (boxS (blS n w s t) j)) → ∃ σ', jm_ev (e + 4) (jP_boxesAll, 2, [some (jm_R 14 0), some (jm_I (nI k))], [], σ) = some (some (jm_I (bI (!aO (blS n w s t) n))), σ') ∧ sP σ' n w s t ∧ jm_ag C19 σ σ' ∧ (aO (blS n w s t) n = false → ∀ j, j < n → σ'.1 19 0 j = xR (boxS (blS n w s t) j))
  | 0, k, σ, hk, hP, ho, hb => by
    have : k = n := by omega
    subst this
    rw [gP_boxesAll_2, hP.1, jm_ct (nI_le (Nat.le_refl _) (by omega))]
    exact ⟨σ, by rw [ho]; rfl, hP, jm_ag.rf, fun _ => hb⟩
  | f + 1, k, σ, hk, hP, ho, hb => by
    obtain ⟨σ1, hc, hP1, ha1⟩ := c_boxOf e σ h6 hP (show k < 100 by omega)
    have hin := jm_in_nI (show k < 6 by omega) (by decide)
    have hcl := jm_cl (show k < 2 ^ 31 by omega)
    have hrd : (jm_wi σ1 19 0 k (xR (boxS (blS n w s t) k))).1 19 0 k = xR (boxS (blS n w s t) k) := by simp [jm_wi1, upd]
    rw [gP_boxesAll_2, hP.1, jm_cf (nI_ge (show k < n by omega) (by omega)), hc, Option.bind_some, jm_ps, gP_boxesAll_20, hin, cond_true, cond_true, hcl, hrd, nI_1]
    have hP2 : sP (jm_wi σ1 19 0 k (xR (boxS (blS n w s t) k))) n w s t := hP1
    have ha2 : jm_ag C19 σ (jm_wi σ1 19 0 k (xR (boxS (blS n w s t) k))) := (C18_19 ha1).tr (jm_ag.wi rfl)
    have hov := xR_ov (o := boxS (blS n w s t) k) (fun l h9 => by have := boxS_le h9; omega)
    cases hn : (boxS (blS n w s t) k).isNone with
    | true =>
      rw [jm_cf (fun h9 => h9 (hov.mpr hn))]
      have ht : aO (blS n w s t) n = true := aO_le (k := k + 1) (by simp [aO, hn]) (by omega)
      exact ⟨_, by rw [ht]; rfl, hP2, ha2, fun h9 => by rw [ht] at h9; cases h9⟩
    | false =>
      have hno : ¬ xR (boxS (blS n w s t) k) = -1000016 := fun h9 => by have := hov.mp h9; rw [hn] at this; cases this
      rw [jm_ct hno]
      obtain ⟨σ2, e1, e2, e3, e4⟩ := c_layL e h6 f (k + 1) _ (by omega) hP2 (by simp [aO, ho, hn]) (by
        intro j hj
        rw [jm_wi1, if_pos ⟨rfl, rfl⟩]
        unfold upd
        by_cases hjk : j = k
        · rw [if_pos hjk, hjk]
        · rw [if_neg hjk, (ha1 19 0 rfl).1]
          exact hb j (by omega))
      exact ⟨σ2, e1, e2, ha2.tr e3, e4⟩
theorem c_boxesAll (e : Nat) (σ : jm_S) {n : Nat} {w s t : Nat → Int64} (h6 : n ≤ 6) (hP : sP σ n w s t) : ∃ σ', jm_call (e + 5) jP_boxesAll [jm_R 14 0] σ = some (some (jm_I (bI (!aO (blS n w s t) n))), σ') ∧ sP σ' n w s t ∧ jm_ag C19 σ σ' ∧ (aO (blS n w s t) n = false → ∀ j, j < n → σ'.1 19 0 j = xR (boxS (blS n w s t) j)) := by
  rw [gP_boxesAll_0]
  exact c_layL e h6 n 0 σ (by omega) hP rfl (fun j hj => absurd hj (Nat.not_lt_zero j))
