-- METHODS: shaft, the reference's tokens
def rTq (σ : jm_S) (q : PT) : Prop := σ.1 21 0 11 = nI q.1 ∧ ∀ j, j < q.1 → σ.1 27 0 j = q.2 j
def fR (hi : Nat) (σ σ' : jm_S) : Prop := (∀ j, ¬ (12 ≤ j ∧ j ≤ hi) → σ'.1 21 0 j = σ.1 21 0 j) ∧ jm_ag (fun k _ => k == 21) σ σ'
theorem fR.rf {hi : Nat} {σ : jm_S} : fR hi σ σ := ⟨fun _ _ => rfl, jm_ag.rf⟩
theorem fR.tr {hi : Nat} {a b c : jm_S} (h : fR hi a b) (h' : fR hi b c) : fR hi a c := ⟨fun j hj => (h'.1 j hj).trans (h.1 j hj), h.2.tr h'.2⟩
theorem fR.w {hi i : Nat} {σ : jm_S} {x : Int32} (h : 12 ≤ i) (h' : i ≤ hi) : fR hi σ (jm_wi σ 21 0 i x) := ⟨fun j hj => by rw [jm_w_s, pk_un (fun h9 => hj (by omega))], jm_ag.wi rfl⟩
theorem fR.up {hi hi' : Nat} {σ σ' : jm_S} (h : fR hi σ σ') (hh : hi ≤ hi') : fR hi' σ σ' := ⟨fun j hj => h.1 j (fun h9 => hj (by omega)), h.2⟩
theorem fR.T {hi : Nat} {σ σ' : jm_S} {q : PT} (h : fR hi σ σ') (hT : rTq σ q) : rTq σ' q := ⟨(h.1 11 (by omega)).trans hT.1, fun j hj => by rw [(h.2 27 0 rfl).1]; exact hT.2 j hj⟩
def lt97 (x : Int32) : Prop := 97 ≤ x.toInt ∧ x.toInt ≤ 122
def TS (σ : jm_S) (q : PT) (a : Nat) : Prop := σ.1 21 0 13 = nI a ∧ σ.1 21 0 16 = 0 ∧ ((a = q.1 ∧ σ.1 21 0 14 = 1) ∨ (a < q.1 ∧ lt97 (pB q a) ∧ σ.1 21 0 14 = 2 ∧ σ.1 21 0 15 = pB q a ∧ σ.1 21 0 12 = nI (a + 1)) ∨ (pF q a = true ∧ (pL q a = 1 ∨ pL q a = 2) ∧ σ.1 21 0 14 = 3 ∧ σ.1 21 0 15 = pV q a ∧ σ.1 21 0 12 = nI (a + pL q a)) ∨ (a < q.1 ∧ (pB q a = 44 ∨ pB q a = 59) ∧ σ.1 21 0 14 = 4 ∧ σ.1 21 0 15 = pB q a ∧ σ.1 21 0 12 = nI (a + 1)) ∨ (a < q.1 ∧ σ.1 21 0 14 = 0 ∧ ((pF q a = true ∧ pL q a = 3) ∨ (pF q a = false ∧ ¬ lt97 (pB q a) ∧ ¬ pB q a = 44 ∧ ¬ pB q a = 59))))
theorem r_inL (e : Nat) (σ : jm_S) (x : Int32) : jm_call (e + 1) jM_in [jm_L x.toInt64, jm_L 97, jm_L 122] σ = some (some (jm_I (if 97 ≤ x.toInt ∧ x.toInt ≤ 122 then 1 else 0)), σ) := by
  rw [r_in]
  simp only [jm_i64, show (97 : Int64).toInt = 97 from rfl, show (122 : Int64).toInt = 122 from rfl]
theorem r_inF (e : Nat) (σ : jm_S) (x : Int32) : jm_call (e + 1) jM_in [jm_L x.toInt64, jm_L 48, jm_L 57] σ = some (some (jm_I (bI (pG x))), σ) := by
  rw [r_in]
  simp only [jm_i64, show (48 : Int64).toInt = 48 from rfl, show (57 : Int64).toInt = 57 from rfl]
  unfold pG
  by_cases h : 48 ≤ x.toInt ∧ x.toInt ≤ 57
  · rw [if_pos h, decide_eq_true h]; rfl
  · rw [if_neg h, decide_eq_false h]; rfl
abbrev tkF : List (Option jm_V) := [some (jm_R 21 0)]
theorem nt118 (e : Nat) (σ : jm_S) {a n : Nat} {x : Int32} (h12 : σ.1 21 0 12 = nI a) (h11 : σ.1 21 0 11 = nI n) (hn : n ≤ 80) (ha : a < n) (hx : ¬ x = 3) : jm_ev e (jM_nextToken, 118, tkF, [jm_I x, jm_R 21 0], σ) = some (none, jm_wi (jm_wi σ 21 0 14 x) 21 0 12 (nI (a + 1))) := by
  rw [gM_nextToken_118, h11, h12, jm_cf (nI_ge ha (by omega)), gM_nextToken_142, jm_ct (show ¬ (jm_wi σ 21 0 14 x).1 21 0 14 = 3 from hx), gM_nextToken_277, nI_1]
theorem nt118e (e : Nat) (σ : jm_S) {a : Nat} (h12 : σ.1 21 0 12 = nI a) (h11 : σ.1 21 0 11 = nI a) (hn : a ≤ 80) : jm_ev e (jM_nextToken, 118, tkF, [jm_I 1, jm_R 21 0], σ) = some (none, jm_wi (jm_wi σ 21 0 14 1) 21 0 12 (nI a + 0)) := by
  rw [gM_nextToken_118, h11, h12, jm_ct (nI_le (Nat.le_refl _) (by omega)), gM_nextToken_142, jm_ct (show ¬ (jm_wi σ 21 0 14 1).1 21 0 14 = 3 from show ¬ (1 : Int32) = 3 by decide), gM_nextToken_277]
theorem nt118n (e : Nat) (σ : jm_S) {a n : Nat} (h12 : σ.1 21 0 12 = nI a) (h11 : σ.1 21 0 11 = nI n) (hn : n ≤ 80) (ha : a < n) : jm_ev e (jM_nextToken, 118, tkF, [jm_I 3, jm_R 21 0], σ) = jm_ev e (jM_nextToken, 165, tkF, [], jm_wi (jm_wi (jm_wi σ 21 0 14 3) 21 0 12 (nI (a + 1))) 21 0 15 (σ.1 21 0 15 - 48)) := by
  rw [gM_nextToken_118, h11, h12, jm_cf (nI_ge ha (by omega)), gM_nextToken_142, jm_cf (show ¬ ¬ (jm_wi σ 21 0 14 3).1 21 0 14 = 3 from fun h9 => h9 rfl), nI_1]
  rfl
theorem nt34 (e : Nat) (σ : jm_S) {a n : Nat} (v : Int32) (h12 : σ.1 21 0 12 = nI a) (h11 : σ.1 21 0 11 = nI n) (hn : n ≤ 80) (ha : a < n) : jm_ev (e + 1) (jM_nextToken, 34, tkF, [jm_I v, jm_R 21 0], σ) = jm_ev (e + 1) (jM_nextToken, 118, tkF, [jm_I (if 97 ≤ v.toInt ∧ v.toInt ≤ 122 then 2 else if pG v = true then 3 else if v = 44 ∨ v = 59 then 4 else 0), jm_R 21 0], jm_wi σ 21 0 15 v) := by
  rw [gM_nextToken_34, h12, h11, jm_ct (show ¬ nI a = nI n from fun h9 => by have := (nI_eq (by omega) (by omega)).mp h9; omega), r_inL, Option.bind_some, jm_ps, gM_nextToken_67]
  by_cases h1 : 97 ≤ v.toInt ∧ v.toInt ≤ 122
  · rw [if_pos h1, if_pos h1, jm_cf (show ¬ (1 : Int32) = 0 by decide)]
  · rw [if_neg h1, if_neg h1, jm_ct (show (0 : Int32) = 0 from rfl)]
    have h15 : (jm_wi σ 21 0 15 v).1 21 0 15 = v := rfl
    rw [h15, r_inF, Option.bind_some, jm_ps, gM_nextToken_88, h15, gM_nextToken_113]
    cases h2 : pG v with
    | true => rw [jm_cf (show ¬ bI true = 0 by decide), if_pos rfl]
    | false =>
      rw [jm_ct (show bI false = 0 from rfl), if_neg (by decide)]
      by_cases h3 : v = 44
      · rw [jm_ct h3, if_pos (Or.inl h3)]
      · rw [jm_cf h3]
        by_cases h4 : v = 59
        · rw [jm_cf (fun h9 => h9 h4), if_pos (Or.inr h4)]
        · rw [jm_ct h4, if_neg (fun h9 => h9.elim h3 h4)]
theorem nt165f (e : Nat) (σ : jm_S) {q : PT} {c : Nat} (hT : rTq σ q) (h80 : q.1 ≤ 80) (hc : c ≤ 90) (h12 : σ.1 21 0 12 = nI c) (h : pF q c = false) : jm_ev (e + 1) (jM_nextToken, 165, tkF, [], σ) = jm_ev (e + 1) (jM_nextToken, 255, tkF, [], σ) := by
  rw [gM_nextToken_165, hT.1, h12]
  by_cases hl : c < q.1
  · unfold pF at h
    rw [pB_in hl] at h
    rw [jm_cf (nI_ge hl (by omega)), jm_in_nI (show c < 80 by omega) (by decide), cond_true, jm_cl (show c < 2 ^ 31 by omega), hT.2 c hl, r_inF, h, Option.bind_some, jm_ps, gM_nextToken_195, jm_ct (show bI false = 0 from rfl)]
  · rw [jm_ct (nI_le (by omega) (by omega))]
theorem nt165t (e : Nat) (σ : jm_S) {q : PT} {a c : Nat} (hT : rTq σ q) (h80 : q.1 ≤ 80) (h12 : σ.1 21 0 12 = nI c) (h13 : σ.1 21 0 13 = nI a) (hac : a ≤ c) (h : pF q c = true) : jm_ev (e + 1) (jM_nextToken, 165, tkF, [], σ) = jm_ev (e + 1) (jM_nextToken, 165, tkF, [], jm_wi (jm_wi σ 21 0 15 (if a + 2 ≤ c then σ.1 21 0 15 else 10 * σ.1 21 0 15 + pB q c - 48)) 21 0 12 (nI (c + 1))) := by
  have hl := pF_lt h
  unfold pF at h
  rw [pB_in hl] at h ⊢
  have hsub : (nI c - nI a).toInt = (c : Int) - a := pk_sub_toInt (by omega) (by omega)
  have z2 : (2 : Int32).toInt = 2 := rfl
  rw [gM_nextToken_165, hT.1, h12, jm_cf (nI_ge hl (by omega)), jm_in_nI (show c < 80 by omega) (by decide), cond_true, jm_cl (show c < 2 ^ 31 by omega), hT.2 c hl, r_inF, h, Option.bind_some, jm_ps, gM_nextToken_195, jm_cf (show ¬ bI true = 0 by decide), h12, h13, jm_in_nI (show c < 80 by omega) (by decide), cond_true, jm_cl (show c < 2 ^ 31 by omega), hT.2 c hl, gM_nextToken_239, gM_nextToken_239, h12, nI_1]
  by_cases h9 : a + 2 ≤ c
  · rw [jm_ct (show (2 : Int32) ≤ nI c - nI a by rw [jm_te32]; omega), if_pos h9]
  · rw [jm_cf (show ¬ (2 : Int32) ≤ nI c - nI a by rw [jm_te32]; omega), if_neg h9]
theorem nt255 (e : Nat) (σ : jm_S) {a c : Nat} (h12 : σ.1 21 0 12 = nI c) (h13 : σ.1 21 0 13 = nI a) (hc : c ≤ 90) (hac : a ≤ c) : jm_ev e (jM_nextToken, 255, tkF, [], σ) = some (none, jm_wi σ 21 0 14 (if c ≤ a + 2 then 3 else 0)) := by
  have hsub : (nI c - nI a).toInt = (c : Int) - a := pk_sub_toInt (by omega) (by omega)
  have z2 : (2 : Int32).toInt = 2 := rfl
  rw [gM_nextToken_255, h12, h13, gM_nextToken_274, gM_nextToken_274, gM_nextToken_277, gM_nextToken_277]
  by_cases h9 : c ≤ a + 2
  · rw [jm_ct (show nI c - nI a ≤ (2 : Int32) by rw [jm_te32]; omega), if_pos h9]
  · rw [jm_cf (show ¬ nI c - nI a ≤ (2 : Int32) by rw [jm_te32]; omega), if_neg h9]
theorem nt_tail (e : Nat) {q : PT} {a : Nat} (h80 : q.1 ≤ 80) : ∀ (f c : Nat) (σ : jm_S), q.1 ≤ c + f → c ≤ 85 → a + 3 ≤ c → rTq σ q → σ.1 21 0 12 = nI c → σ.1 21 0 13 = nI a → ∃ σ', jm_ev (e + 1) (jM_nextToken, 165, tkF, [], σ) = some (none, σ') ∧ σ'.1 21 0 13 = nI a ∧ σ'.1 21 0 14 = 0 ∧ fR 15 σ σ' := by
  intro f
  induction f with
  | zero =>
    intro c σ hf hc hac hT h12 h13
    have hF : pF q c = false := by
      cases h : pF q c with
      | false => rfl
      | true => exact absurd (pF_lt h) (by omega)
    refine ⟨jm_wi σ 21 0 14 0, ?_, h13, rfl, fR.w (by omega) (by omega)⟩
    rw [nt165f e σ hT h80 (by omega) h12 hF, nt255 _ σ h12 h13 (by omega) (by omega), if_neg (by omega)]
  | succ f ih =>
    intro c σ hf hc hac hT h12 h13
    cases hF : pF q c with
    | false =>
      refine ⟨jm_wi σ 21 0 14 0, ?_, h13, rfl, fR.w (by omega) (by omega)⟩
      rw [nt165f e σ hT h80 (by omega) h12 hF, nt255 _ σ h12 h13 (by omega) (by omega), if_neg (by omega)]
    | true =>
      have hl := pF_lt hF
      have fr : fR 15 σ (jm_wi (jm_wi σ 21 0 15 (if a + 2 ≤ c then σ.1 21 0 15 else 10 * σ.1 21 0 15 + pB q c - 48)) 21 0 12 (nI (c + 1))) := (fR.w (by omega) (by omega)).tr (fR.w (by omega) (by omega))
      obtain ⟨σ', g1, g2, g3, g4⟩ := ih (c + 1) _ (by omega) (by omega) (by omega) (fr.T hT) rfl (show _ = nI a from h13)
      exact ⟨σ', (nt165t e σ hT h80 h12 h13 (by omega) hF).trans g1, g2, g3, fr.tr g4⟩
theorem nt_num (e : Nat) (σ : jm_S) {q : PT} {a : Nat} (h80 : q.1 ≤ 80) (hT : rTq σ q) (h12 : σ.1 21 0 12 = nI (a + 1)) (h13 : σ.1 21 0 13 = nI a) (h15 : σ.1 21 0 15 = pB q a - 48) (hF : pF q a = true) : ∃ σ', jm_ev (e + 1) (jM_nextToken, 165, tkF, [], σ) = some (none, σ') ∧ σ'.1 21 0 13 = nI a ∧ (((pL q a = 1 ∨ pL q a = 2) ∧ σ'.1 21 0 14 = 3 ∧ σ'.1 21 0 15 = pV q a ∧ σ'.1 21 0 12 = nI (a + pL q a)) ∨ (pL q a = 3 ∧ σ'.1 21 0 14 = 0)) ∧ fR 15 σ σ' := by
  have hl := pF_lt hF
  cases h1 : pF q (a + 1) with
  | false =>
    have hL : pL q a = 1 := by unfold pL; rw [hF, h1]; rfl
    have hV : pV q a = pB q a - 48 := by unfold pV; rw [h1]; rfl
    refine ⟨jm_wi σ 21 0 14 3, ?_, h13, Or.inl ⟨Or.inl hL, rfl, ?_, ?_⟩, fR.w (by omega) (by omega)⟩
    · rw [nt165f e σ hT h80 (by omega) h12 h1, nt255 _ σ h12 h13 (by omega) (by omega), if_pos (by omega)]
    · rw [hV]; exact h15
    · rw [hL]; exact h12
  | true =>
    have hl1 := pF_lt h1
    have s1 := nt165t e σ hT h80 h12 h13 (by omega) h1
    rw [if_neg (by omega), h15] at s1
    have fr : fR 15 σ (jm_wi (jm_wi σ 21 0 15 (10 * (pB q a - 48) + pB q (a + 1) - 48)) 21 0 12 (nI (a + 1 + 1))) := (fR.w (by omega) (by omega)).tr (fR.w (by omega) (by omega))
    have hV : pV q a = 10 * (pB q a - 48) + pB q (a + 1) - 48 := by unfold pV; rw [h1]; rfl
    cases h2 : pF q (a + 2) with
    | false =>
      have hL : pL q a = 2 := by unfold pL; rw [hF, h1, h2]; rfl
      refine ⟨jm_wi (jm_wi (jm_wi σ 21 0 15 (10 * (pB q a - 48) + pB q (a + 1) - 48)) 21 0 12 (nI (a + 1 + 1))) 21 0 14 3, ?_, h13, Or.inl ⟨Or.inr hL, rfl, ?_, ?_⟩, fr.tr (fR.w (by omega) (by omega))⟩
      · rw [s1, nt165f e _ (fr.T hT) h80 (show a + 1 + 1 ≤ 90 by omega) rfl h2, nt255 _ (jm_wi (jm_wi σ 21 0 15 (10 * (pB q a - 48) + pB q (a + 1) - 48)) 21 0 12 (nI (a + 1 + 1))) (a := a) (c := a + 1 + 1) rfl h13 (by omega) (by omega), if_pos (by omega)]
      · rw [hV]; rfl
      · rw [hL]; rfl
    | true =>
      have hL : pL q a = 3 := by unfold pL; rw [hF, h1, h2]; rfl
      have hl2 := pF_lt h2
      have s2 := nt165t e _ (a := a) (c := a + 1 + 1) (fr.T hT) h80 rfl (show _ = nI a from h13) (by omega) h2
      have fr2 := fr.tr ((fR.w (hi := 15) (i := 15) (σ := jm_wi (jm_wi σ 21 0 15 (10 * (pB q a - 48) + pB q (a + 1) - 48)) 21 0 12 (nI (a + 1 + 1))) (x := if a + 2 ≤ a + 1 + 1 then (jm_wi (jm_wi σ 21 0 15 (10 * (pB q a - 48) + pB q (a + 1) - 48)) 21 0 12 (nI (a + 1 + 1))).1 21 0 15 else 10 * (jm_wi (jm_wi σ 21 0 15 (10 * (pB q a - 48) + pB q (a + 1) - 48)) 21 0 12 (nI (a + 1 + 1))).1 21 0 15 + pB q (a + 1 + 1) - 48) (by omega) (by omega)).tr (fR.w (i := 12) (x := nI (a + 1 + 1 + 1)) (by omega) (by omega)))
      obtain ⟨σ', g1, g2, g3, g4⟩ := nt_tail e (a := a) h80 q.1 (a + 1 + 1 + 1) _ (by omega) (by omega) (by omega) (fr2.T hT) rfl (show _ = nI a from h13)
      exact ⟨σ', s1.trans (s2.trans g1), g2, Or.inr ⟨hL, g3⟩, fr2.tr g4⟩
/-- the next token -/
theorem r_next (e : Nat) (σ : jm_S) {q : PT} {a : Nat} (hT : rTq σ q) (h80 : q.1 ≤ 80) (ha : a ≤ q.1) (h12 : σ.1 21 0 12 = nI a) (h16 : σ.1 21 0 16 = 0) : ∃ σ', jm_call (e + 2) jM_nextToken [jm_R 21 0] σ = some (none, σ') ∧ TS σ' q a ∧ fR 15 σ σ' := by
  by_cases hl : a < q.1
  · have s0 : jm_call (e + 2) jM_nextToken [jm_R 21 0] σ = jm_ev (e + 1) (jM_nextToken, 34, tkF, [jm_I (pB q a), jm_R 21 0], jm_wi σ 21 0 13 (nI a)) := by
      rw [gM_nextToken_0, hT.1, h12, jm_cf (nI_ge hl (by omega)), jm_in_nI (show a < 80 by omega) (by decide), cond_true, jm_cl (show a < 2 ^ 31 by omega), hT.2 a hl, pB_in hl]
    have s1 := nt34 e (jm_wi σ 21 0 13 (nI a)) (a := a) (n := q.1) (pB q a) h12 hT.1 h80 hl
    have fr : fR 15 σ (jm_wi (jm_wi σ 21 0 13 (nI a)) 21 0 15 (pB q a)) := (fR.w (by omega) (by omega)).tr (fR.w (by omega) (by omega))
    by_cases h1 : 97 ≤ (pB q a).toInt ∧ (pB q a).toInt ≤ 122
    · rw [if_pos h1, nt118 _ (jm_wi (jm_wi σ 21 0 13 (nI a)) 21 0 15 (pB q a)) (x := 2) (a := a) (n := q.1) h12 hT.1 h80 hl (by decide)] at s1
      exact ⟨_, s0.trans s1, ⟨rfl, h16, Or.inr (Or.inl ⟨hl, h1, rfl, rfl, rfl⟩)⟩, fr.tr ((fR.w (by omega) (by omega)).tr (fR.w (by omega) (by omega)))⟩
    · rw [if_neg h1] at s1
      cases h2 : pG (pB q a) with
      | true =>
        rw [h2, if_pos rfl, nt118n _ (jm_wi (jm_wi σ 21 0 13 (nI a)) 21 0 15 (pB q a)) (a := a) (n := q.1) h12 hT.1 h80 hl] at s1
        have fr2 : fR 15 σ (jm_wi (jm_wi (jm_wi (jm_wi (jm_wi σ 21 0 13 (nI a)) 21 0 15 (pB q a)) 21 0 14 3) 21 0 12 (nI (a + 1))) 21 0 15 ((jm_wi (jm_wi σ 21 0 13 (nI a)) 21 0 15 (pB q a)).1 21 0 15 - 48)) := fr.tr (((fR.w (by omega) (by omega)).tr (fR.w (by omega) (by omega))).tr (fR.w (by omega) (by omega)))
        obtain ⟨σ', g1, g2, g3, g4⟩ := nt_num e (jm_wi (jm_wi (jm_wi (jm_wi (jm_wi σ 21 0 13 (nI a)) 21 0 15 (pB q a)) 21 0 14 3) 21 0 12 (nI (a + 1))) 21 0 15 ((jm_wi (jm_wi σ 21 0 13 (nI a)) 21 0 15 (pB q a)).1 21 0 15 - 48)) (q := q) (a := a) h80 (fr2.T hT) rfl rfl rfl h2
        refine ⟨σ', s0.trans (s1.trans g1), ⟨g2, ?_, ?_⟩, fr2.tr g4⟩
        · exact ((fr2.tr g4).1 16 (by omega)).trans h16
        · rcases g3 with ⟨i1, i2, i3, i4⟩ | ⟨i1, i2⟩
          · exact Or.inr (Or.inr (Or.inl ⟨h2, i1, i2, i3, i4⟩))
          · exact Or.inr (Or.inr (Or.inr (Or.inr ⟨hl, i2, Or.inl ⟨h2, i1⟩⟩)))
      | false =>
        rw [h2, if_neg (by decide)] at s1
        by_cases h3 : pB q a = 44 ∨ pB q a = 59
        · rw [if_pos h3, nt118 _ (jm_wi (jm_wi σ 21 0 13 (nI a)) 21 0 15 (pB q a)) (x := 4) (a := a) (n := q.1) h12 hT.1 h80 hl (by decide)] at s1
          exact ⟨_, s0.trans s1, ⟨rfl, h16, Or.inr (Or.inr (Or.inr (Or.inl ⟨hl, h3, rfl, rfl, rfl⟩)))⟩, fr.tr ((fR.w (by omega) (by omega)).tr (fR.w (by omega) (by omega)))⟩
        · rw [if_neg h3, nt118 _ (jm_wi (jm_wi σ 21 0 13 (nI a)) 21 0 15 (pB q a)) (x := 0) (a := a) (n := q.1) h12 hT.1 h80 hl (by decide)] at s1
          exact ⟨_, s0.trans s1, ⟨rfl, h16, Or.inr (Or.inr (Or.inr (Or.inr ⟨hl, rfl, Or.inr ⟨h2, h1, fun h9 => h3 (Or.inl h9), fun h9 => h3 (Or.inr h9)⟩⟩)))⟩, fr.tr ((fR.w (by omega) (by omega)).tr (fR.w (by omega) (by omega)))⟩
  · have hq : a = q.1 := by omega
    have h11 : σ.1 21 0 11 = nI a := by rw [hq]; exact hT.1
    have s1 := nt118e (e + 1) (jm_wi (jm_wi σ 21 0 13 (nI a)) 21 0 15 (-1000000)) (a := a) h12 h11 (by omega)
    refine ⟨_, Eq.trans ?_ s1, ⟨rfl, h16, Or.inl ⟨hq, rfl⟩⟩, ((fR.w (by omega) (by omega)).tr (fR.w (by omega) (by omega))).tr ((fR.w (by omega) (by omega)).tr (fR.w (by omega) (by omega)))⟩
    have hb : ¬ ¬ (jm_wi σ 21 0 13 (nI a)).1 21 0 12 = (jm_wi σ 21 0 13 (nI a)).1 21 0 11 := fun h9 => h9 (show σ.1 21 0 12 = σ.1 21 0 11 by rw [h12, h11])
    rw [gM_nextToken_0, h11, h12, jm_ct (nI_le (Nat.le_refl _) (by omega)), gM_nextToken_34, jm_cf hb]
