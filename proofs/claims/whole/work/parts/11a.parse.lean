-- METHODS: shaft, what is read, and how the class reads its tokens
abbrev PT : Type := Nat × (Nat → Int32)
abbrev PO (α : Type) : Type := α ⊕ (Nat × Nat)
def pb {α β : Type} (x : PO α) (f : α → PO β) : PO β := match x with
  | .inl a => f a
  | .inr e => .inr e
def okI {α : Type} (x : PO α) : Int32 := match x with
  | .inl _ => 1
  | .inr _ => 0
def okT (q : PT) : Prop := q.1 ≤ 80 ∧ ∀ j, j < q.1 → 0 ≤ (q.2 j).toInt ∧ (q.2 j).toInt ≤ 255
def pB (q : PT) (a : Nat) : Int32 := if a < q.1 then q.2 a else -1
def pG (x : Int32) : Bool := decide (48 ≤ x.toInt ∧ x.toInt ≤ 57)
def pF (q : PT) (a : Nat) : Bool := pG (pB q a)
def pL (q : PT) (a : Nat) : Nat := cond (pF q a) (cond (pF q (a + 1)) (cond (pF q (a + 2)) 3 2) 1) 0
def pV (q : PT) (a : Nat) : Int32 := cond (pF q (a + 1)) (10 * (pB q a - 48) + pB q (a + 1) - 48) (pB q a - 48)
def pS (q : PT) (c : Int32) (a : Nat) : PO Nat := if pB q a = c then .inl (a + 1) else .inr (1, a)
def pN (q : PT) (lo hi : Int32) (a : Nat) : PO (Int32 × Nat) := if pL q a = 0 ∨ pL q a = 3 then .inr (1, a) else if lo.toInt ≤ (pV q a).toInt ∧ (pV q a).toInt ≤ hi.toInt then .inl (pV q a, a + pL q a) else .inr (2, a)
theorem pB_lt {q : PT} {a : Nat} {c : Int32} (h : pB q a = c) (hc : ¬ c = -1) : a < q.1 := by
  unfold pB at h
  by_cases h9 : a < q.1
  · exact h9
  · rw [if_neg h9] at h; exact absurd h.symm hc
theorem pB_in {q : PT} {a : Nat} (h : a < q.1) : pB q a = q.2 a := if_pos h
theorem pF_lt {q : PT} {a : Nat} (h : pF q a = true) : a < q.1 := by
  refine pB_lt rfl (fun h9 => ?_)
  unfold pF pG at h
  rw [h9] at h
  exact absurd h (by decide)
def cTq (σ : jm_S) (q : PT) : Prop := σ.1 5 0 1 = nI q.1 ∧ ∀ j, j < q.1 → σ.1 6 0 j = q.2 j
def cFr (σ σ' : jm_S) : Prop := (∀ j, j < 2 → σ'.1 5 0 j = σ.1 5 0 j) ∧ jm_ag (fun k _ => k == 5) σ σ'
theorem cFr.rf {σ : jm_S} : cFr σ σ := ⟨fun _ _ => rfl, jm_ag.rf⟩
theorem cFr.tr {a b c : jm_S} (h : cFr a b) (h' : cFr b c) : cFr a c := ⟨fun j hj => (h'.1 j hj).trans (h.1 j hj), h.2.tr h'.2⟩
theorem cFr.w {σ : jm_S} {i : Nat} {x : Int32} (h : 2 ≤ i) : cFr σ (jm_wi σ 5 0 i x) := ⟨fun j hj => by rw [jm_w_s, pk_un (by omega)], jm_ag.wi rfl⟩
theorem cFr.T {σ σ' : jm_S} {q : PT} (h : cFr σ σ') (hT : cTq σ q) : cTq σ' q := ⟨(h.1 1 (by omega)).trans hT.1, fun j hj => by rw [(h.2 6 0 rfl).1]; exact hT.2 j hj⟩
def cFl (σ : jm_S) (e : Nat × Nat) : Prop := σ.1 5 0 4 = nI e.1 ∧ σ.1 5 0 5 = nI e.2
theorem c_byte (e : Nat) (σ : jm_S) {q : PT} {a : Nat} (hT : cTq σ q) (h80 : q.1 ≤ 80) (ha : a ≤ q.1) (h2 : σ.1 5 0 2 = nI a) : jm_call (e + 1) jR_byteAtHand [jm_R 5 0] σ = some (some (jm_I (pB q a)), σ) := by
  rw [gR_byteAtHand_0, hT.1, h2]
  unfold pB
  by_cases h : a < q.1
  · rw [jm_cf (nI_ge h (by omega)), jm_in_nI (show a < 80 by omega) (by decide), cond_true, jm_cl (show a < 2 ^ 31 by omega), hT.2 a h, gR_byteAtHand_24, if_pos h]
  · rw [jm_ct (nI_le (by omega) (by omega)), gR_byteAtHand_24, if_neg h]
theorem c_blame (σ : jm_S) {a : Nat} (f : Nat) (h2 : σ.1 5 0 2 = nI a) : cFl (jm_wi (jm_wi σ 5 0 4 (nI f)) 5 0 5 (σ.1 5 0 2)) (f, a) ∧ cFr σ (jm_wi (jm_wi σ 5 0 4 (nI f)) 5 0 5 (σ.1 5 0 2)) := ⟨⟨rfl, h2⟩, (cFr.w (by omega)).tr (cFr.w (by omega))⟩
/-- a sign -/
theorem c_sign (e : Nat) (σ : jm_S) {q : PT} {a : Nat} (c : Int32) (hT : cTq σ q) (h80 : q.1 ≤ 80) (ha : a ≤ q.1) (h2 : σ.1 5 0 2 = nI a) : ∃ σ', jm_call (e + 2) jR_readsSign [jm_R 5 0, jm_I c] σ = some (some (jm_I (okI (pS q c a))), σ') ∧ (∀ a', pS q c a = .inl a' → σ'.1 5 0 2 = nI a') ∧ (∀ x, pS q c a = .inr x → cFl σ' x) ∧ cFr σ σ' := by
  unfold pS
  rw [gR_readsSign_0, c_byte e σ hT h80 ha h2, Option.bind_some, jm_ps, gR_readsSign_4]
  by_cases h : pB q a = c
  · rw [jm_ct h, if_pos h]
    exact ⟨jm_wi σ 5 0 2 (σ.1 5 0 2 + 1), rfl, fun a' h9 => by cases h9; rw [h2, nI_1]; rfl, fun x h9 => (by cases h9), cFr.w (by omega)⟩
  · rw [jm_cf h, if_neg h, gR_blames_0, Option.bind_some, jm_ps, gR_readsSign_13, jm_b0, cond_true]
    exact ⟨jm_wi (jm_wi σ 5 0 4 (nI 1)) 5 0 5 (σ.1 5 0 2), rfl, fun a' h9 => (by cases h9), fun x h9 => by cases h9; exact (c_blame σ 1 h2).1, (c_blame σ 1 h2).2⟩
theorem c_isFig (e : Nat) (σ : jm_S) (x : Int32) : jm_call (e + 1) jR_isFigure [jm_I x] σ = some (some (jm_I (bI (pG x))), σ) := by
  rw [gR_isFigure_0, gR_isFigure_16, gR_isFigure_17, gR_isFigure_17, jm_b0, jm_b1, cond_true, cond_true]
  unfold pG
  have z48 : (48 : Int32).toInt = 48 := rfl
  have z57 : (57 : Int32).toInt = 57 := rfl
  by_cases h1 : x < 48
  · rw [jm_ct h1, decide_eq_false (fun h9 => by rw [jm_ti32] at h1; omega)]; rfl
  · rw [jm_cf h1]
    by_cases h2 : (57 : Int32) < x
    · rw [jm_ct h2, decide_eq_false (fun h9 => by rw [jm_ti32] at h2; omega)]; rfl
    · rw [jm_cf h2, decide_eq_true (by rw [jm_ti32] at h1 h2; omega)]; rfl
abbrev nF (x1 x2 x3 x4 : Int32) : List (Option jm_V) := [some (jm_R 5 0), some (jm_I x1), some (jm_I x2), some (jm_I x3), some (jm_I x4)]
theorem nI_3 (a : Nat) : nI a + 3 = nI (a + 3) := nI_add a 3
theorem c_n8f (e : Nat) (σ : jm_S) {q : PT} {a c : Nat} (hT : cTq σ q) (h80 : q.1 ≤ 80) (h2 : σ.1 5 0 2 = nI a) (ha : a ≤ 80) (hc : c < a + 3) (h : pF q c = false) (x1 x2 x4 : Int32) : jm_ev (e + 1) (jR_readsNumber, 8, nF x1 x2 (nI c) x4, [], σ) = jm_ev (e + 1) (jR_readsNumber, 61, nF x1 x2 (nI c) x4, [], σ) := by
  rw [gR_readsNumber_8, hT.1, h2, nI_3]
  by_cases hl : c < q.1
  · unfold pF at h
    rw [pB_in hl] at h
    rw [jm_cf (nI_ge hl (by omega)), jm_cf (nI_ge hc (by omega)), jm_in_nI (show c < 80 by omega) (by decide), cond_true, jm_cl (show c < 2 ^ 31 by omega), hT.2 c hl, c_isFig, h, Option.bind_some, jm_ps, gR_readsNumber_35, jm_ct (show bI false = 0 from rfl)]
  · rw [jm_ct (nI_le (by omega) (by omega))]
theorem c_n8t (e : Nat) (σ : jm_S) {q : PT} {a c : Nat} (hT : cTq σ q) (h80 : q.1 ≤ 80) (h2 : σ.1 5 0 2 = nI a) (ha : a ≤ 80) (hc : c < a + 3) (h : pF q c = true) (x1 x2 x4 : Int32) : jm_ev (e + 1) (jR_readsNumber, 8, nF x1 x2 (nI c) x4, [], σ) = jm_ev (e + 1) (jR_readsNumber, 8, nF x1 x2 (nI (c + 1)) (10 * x4 + pB q c - 48), [], σ) := by
  have hl := pF_lt h
  unfold pF at h
  rw [pB_in hl] at h ⊢
  rw [gR_readsNumber_8, hT.1, h2, nI_3, jm_cf (nI_ge hl (by omega)), jm_cf (nI_ge hc (by omega)), jm_in_nI (show c < 80 by omega) (by decide), cond_true, jm_cl (show c < 2 ^ 31 by omega), hT.2 c hl, c_isFig, h, Option.bind_some, jm_ps, gR_readsNumber_35, jm_cf (show ¬ bI true = 0 by decide), jm_in_nI (show c < 80 by omega) (by decide), cond_true, jm_cl (show c < 2 ^ 31 by omega), hT.2 c hl, nI_1]
theorem c_n8e (e : Nat) (σ : jm_S) {q : PT} {a : Nat} (hT : cTq σ q) (h80 : q.1 ≤ 80) (h2 : σ.1 5 0 2 = nI a) (ha : a ≤ 80) (x1 x2 x4 : Int32) : jm_ev (e + 1) (jR_readsNumber, 8, nF x1 x2 (nI (a + 3)) x4, [], σ) = jm_ev (e + 1) (jR_readsNumber, 61, nF x1 x2 (nI (a + 3)) x4, [], σ) := by
  rw [gR_readsNumber_8, h2, nI_3, jm_ct (show nI (a + 3) ≤ nI (a + 3) from nI_le (Nat.le_refl _) (by omega))]
  cases decide (σ.1 5 0 1 ≤ nI (a + 3)) <;> rfl
theorem c_61b (e : Nat) (σ : jm_S) {a l : Nat} (h2 : σ.1 5 0 2 = nI a) (ha : a ≤ 80) (hl : l = 0 ∨ l = 3) (x1 x2 x4 : Int32) : ∃ σ', jm_ev (e + 1) (jR_readsNumber, 61, nF x1 x2 (nI (a + l)) x4, [], σ) = some (some (jm_I 0), σ') ∧ cFl σ' (1, a) ∧ cFr σ σ' := by
  refine ⟨jm_wi (jm_wi σ 5 0 4 (nI 1)) 5 0 5 (σ.1 5 0 2), ?_, c_blame σ 1 h2⟩
  rw [gR_readsNumber_61, h2, nI_3, gR_readsNumber_79, gR_blames_0, Option.bind_some, jm_ps, gR_readsNumber_84, jm_b0, cond_true, h2]
  rcases hl with rfl | rfl
  · rw [jm_ct (show nI (a + 0) = nI a from rfl)]; rfl
  · rw [jm_cf (show ¬ nI (a + 3) = nI a from fun h9 => by have := (nI_eq (by omega) (by omega)).mp h9; omega), jm_cf (fun h9 => h9 rfl)]; rfl
theorem c_61g (e : Nat) (σ : jm_S) {a l : Nat} (h2 : σ.1 5 0 2 = nI a) (ha : a ≤ 80) (hl : l = 1 ∨ l = 2) (x1 x2 x4 : Int32) : ∃ σ', jm_ev (e + 1) (jR_readsNumber, 61, nF x1 x2 (nI (a + l)) x4, [], σ) = some (some (jm_I (if x1.toInt ≤ x4.toInt ∧ x4.toInt ≤ x2.toInt then 1 else 0)), σ') ∧ ((x1.toInt ≤ x4.toInt ∧ x4.toInt ≤ x2.toInt) → σ'.1 5 0 2 = nI (a + l) ∧ σ'.1 5 0 3 = x4) ∧ (¬ (x1.toInt ≤ x4.toInt ∧ x4.toInt ≤ x2.toInt) → cFl σ' (2, a)) ∧ cFr σ σ' := by
  have hn0 : ¬ nI (a + l) = nI a := fun h9 => by have := (nI_eq (by omega) (by omega)).mp h9; omega
  have hn3 : ¬ nI (a + l) = nI (a + 3) := fun h9 => by have := (nI_eq (by omega) (by omega)).mp h9; omega
  by_cases h : x1.toInt ≤ x4.toInt ∧ x4.toInt ≤ x2.toInt
  · refine ⟨jm_wi (jm_wi σ 5 0 3 x4) 5 0 2 (nI (a + l)), ?_, fun _ => ⟨rfl, rfl⟩, fun h9 => absurd h h9, (cFr.w (by omega)).tr (cFr.w (by omega))⟩
    rw [gR_readsNumber_61, h2, nI_3, jm_cf hn0, jm_ct hn3, jm_cf (show ¬ x4 < x1 by rw [jm_ti32]; omega), jm_ct (show x4 ≤ x2 by rw [jm_te32]; omega), if_pos h]
  · refine ⟨jm_wi (jm_wi σ 5 0 4 (nI 2)) 5 0 5 (σ.1 5 0 2), ?_, fun h9 => absurd h9 h, fun _ => (c_blame σ 2 h2).1, (c_blame σ 2 h2).2⟩
    rw [gR_readsNumber_61, h2, nI_3, jm_cf hn0, jm_ct hn3, gR_readsNumber_97, gR_blames_0, Option.bind_some, jm_ps, gR_readsNumber_102, jm_b0, cond_true, h2, if_neg h]
    by_cases h3 : x4 < x1
    · rw [jm_ct h3]; rfl
    · rw [jm_cf h3, jm_cf (show ¬ x4 ≤ x2 by rw [jm_ti32] at h3; rw [jm_te32]; omega)]; rfl
/-- a number -/
theorem c_num (e : Nat) (σ : jm_S) {q : PT} {a : Nat} (lo hi : Int32) (hT : cTq σ q) (h80 : q.1 ≤ 80) (ha : a ≤ q.1) (h2 : σ.1 5 0 2 = nI a) : ∃ σ', jm_call (e + 2) jR_readsNumber [jm_R 5 0, jm_I lo, jm_I hi] σ = some (some (jm_I (okI (pN q lo hi a))), σ') ∧ (∀ r, pN q lo hi a = .inl r → σ'.1 5 0 2 = nI r.2 ∧ σ'.1 5 0 3 = r.1) ∧ (∀ x, pN q lo hi a = .inr x → cFl σ' x) ∧ cFr σ σ' := by
  have hs : jm_call (e + 2) jR_readsNumber [jm_R 5 0, jm_I lo, jm_I hi] σ = jm_ev (e + 1) (jR_readsNumber, 8, nF lo hi (nI a) 0, [], σ) := by rw [gR_readsNumber_0, h2]
  have bad : (pL q a = 0 ∨ pL q a = 3) → (∃ x4, jm_ev (e + 1) (jR_readsNumber, 8, nF lo hi (nI a) 0, [], σ) = jm_ev (e + 1) (jR_readsNumber, 61, nF lo hi (nI (a + pL q a)) x4, [], σ)) → ∃ σ', jm_call (e + 2) jR_readsNumber [jm_R 5 0, jm_I lo, jm_I hi] σ = some (some (jm_I (okI (pN q lo hi a))), σ') ∧ (∀ r, pN q lo hi a = .inl r → σ'.1 5 0 2 = nI r.2 ∧ σ'.1 5 0 3 = r.1) ∧ (∀ x, pN q lo hi a = .inr x → cFl σ' x) ∧ cFr σ σ' := by
    intro hl ⟨x4, h9⟩
    have hN : pN q lo hi a = .inr (1, a) := if_pos hl
    obtain ⟨σ', e1, e2, e3⟩ := c_61b e σ h2 (show a ≤ 80 by omega) hl lo hi x4
    exact ⟨σ', by rw [hs, h9, e1, hN]; rfl, fun r h8 => (by rw [hN] at h8; cases h8), fun x h8 => by rw [hN] at h8; cases h8; exact e2, e3⟩
  have good : (pL q a = 1 ∨ pL q a = 2) → jm_ev (e + 1) (jR_readsNumber, 8, nF lo hi (nI a) 0, [], σ) = jm_ev (e + 1) (jR_readsNumber, 61, nF lo hi (nI (a + pL q a)) (pV q a), [], σ) → ∃ σ', jm_call (e + 2) jR_readsNumber [jm_R 5 0, jm_I lo, jm_I hi] σ = some (some (jm_I (okI (pN q lo hi a))), σ') ∧ (∀ r, pN q lo hi a = .inl r → σ'.1 5 0 2 = nI r.2 ∧ σ'.1 5 0 3 = r.1) ∧ (∀ x, pN q lo hi a = .inr x → cFl σ' x) ∧ cFr σ σ' := by
    intro hl h9
    obtain ⟨σ', e1, e2, e3, e4⟩ := c_61g e σ h2 (show a ≤ 80 by omega) hl lo hi (pV q a)
    by_cases hr : lo.toInt ≤ (pV q a).toInt ∧ (pV q a).toInt ≤ hi.toInt
    · have hN : pN q lo hi a = .inl (pV q a, a + pL q a) := (if_neg (by omega)).trans (if_pos hr)
      exact ⟨σ', by rw [hs, h9, e1, hN, if_pos hr]; rfl, fun r h8 => by rw [hN] at h8; cases h8; exact e2 hr, fun x h8 => (by rw [hN] at h8; cases h8), e4⟩
    · have hN : pN q lo hi a = .inr (2, a) := (if_neg (by omega)).trans (if_neg hr)
      exact ⟨σ', by rw [hs, h9, e1, hN, if_neg hr]; rfl, fun r h8 => (by rw [hN] at h8; cases h8), fun x h8 => by rw [hN] at h8; cases h8; exact e3 hr, e4⟩
  have z1 : ∀ x : Int32, (10 : Int32) * 0 + x - 48 = x - 48 := fun x => by rw [show (10 : Int32) * 0 = 0 from rfl, Int32.zero_add]
  have ha8 : a ≤ 80 := by omega
  cases h0 : pF q a with
  | false =>
    have hL : pL q a = 0 := by unfold pL; rw [h0]; rfl
    refine bad (Or.inl hL) ⟨0, ?_⟩
    rw [hL, Nat.add_zero]
    exact c_n8f e σ hT h80 h2 ha8 (by omega) h0 lo hi 0
  | true =>
    have s0 := c_n8t e σ hT h80 h2 ha8 (by omega) h0 lo hi 0
    rw [z1] at s0
    cases h1 : pF q (a + 1) with
    | false =>
      have hL : pL q a = 1 := by unfold pL; rw [h0, h1]; rfl
      have hV : pV q a = pB q a - 48 := by unfold pV; rw [h1]; rfl
      refine good (Or.inl hL) ?_
      rw [hL, hV, s0]
      exact c_n8f e σ hT h80 h2 ha8 (by omega) h1 lo hi _
    | true =>
      have s1 := c_n8t e σ hT h80 h2 ha8 (show a + 1 < a + 3 by omega) h1 lo hi (pB q a - 48)
      cases h3 : pF q (a + 2) with
      | false =>
        have hL : pL q a = 2 := by unfold pL; rw [h0, h1, h3]; rfl
        have hV : pV q a = 10 * (pB q a - 48) + pB q (a + 1) - 48 := by unfold pV; rw [h1]; rfl
        refine good (Or.inr hL) ?_
        rw [hL, hV, s0, s1]
        exact c_n8f e σ hT h80 h2 ha8 (show a + 2 < a + 3 by omega) h3 lo hi _
      | true =>
        have hL : pL q a = 3 := by unfold pL; rw [h0, h1, h3]; rfl
        have s2 := c_n8t e σ hT h80 h2 ha8 (show a + 2 < a + 3 by omega) h3 lo hi (10 * (pB q a - 48) + pB q (a + 1) - 48)
        refine bad (Or.inr hL) ⟨10 * (10 * (pB q a - 48) + pB q (a + 1) - 48) + pB q (a + 2) - 48, ?_⟩
        rw [hL, s0, s1, s2]
        exact c_n8e e σ hT h80 h2 ha8 lo hi _
