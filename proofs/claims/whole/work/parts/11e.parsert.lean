-- METHODS: shaft, the reference: must, numbers, signs
def rDd (σ : jm_S) (x : Nat × Nat) : Prop := σ.1 21 0 16 = nI x.1 ∧ σ.1 21 0 17 = nI x.2 ∧ 1 ≤ x.1 ∧ x.1 ≤ 3
theorem rDd.ne {σ : jm_S} {x : Nat × Nat} (h : rDd σ x) : ¬ σ.1 21 0 16 = 0 := by rw [h.1]; exact nI_ne0 (by have := h.2.2.1; omega) (by have := h.2.2.2; omega)
theorem dd_bad (e : Nat) (σ : jm_S) (x : Int32) (h : ¬ σ.1 21 0 16 = 0) : jm_call (e + 1) jM_bad [jm_R 21 0, jm_I x] σ = some (none, σ) := by
  rw [gM_bad_0, jm_ct h, gM_bad_20]
theorem dd_must (e : Nat) (σ : jm_S) (x : Int32) (h : ¬ σ.1 21 0 16 = 0) : jm_call (e + 2) jM_must [jm_R 21 0, jm_I x] σ = some (none, σ) := by
  rw [gM_must_0, dd_bad e σ 1 h, Option.bind_some, jm_pn, gM_must_9, jm_ct h, gM_must_20]
  cases decide (¬ x = 0) <;> rfl
theorem dd_number (e : Nat) (σ : jm_S) (lo hi : Int32) (h : ¬ σ.1 21 0 16 = 0) : jm_call (e + 3) jM_number [jm_R 21 0, jm_I lo, jm_I hi] σ = some (some (jm_I lo), σ) := by
  rw [gM_number_0, jm_ct h, gM_number_20, jm_ct h, gM_number_47, jm_ct h, gM_number_62, dd_must e σ 1 h, Option.bind_some, jm_pn, gM_number_68]
theorem dd_sign (e : Nat) (σ : jm_S) (c : Int32) (h : ¬ σ.1 21 0 16 = 0) : jm_call (e + 3) jM_mustSign [jm_R 21 0, jm_I c] σ = some (none, σ) := by
  rw [gM_mustSign_0, gM_mustSign_21, gM_mustSign_22, gM_mustSign_22, dd_must e σ 0 h, dd_must e σ 1 h, Option.bind_some, jm_pn, gM_mustSign_25]
  cases decide (¬ σ.1 21 0 14 = 4) <;> cases decide (¬ σ.1 21 0 15 = c) <;> rfl
theorem dd_sort (e : Nat) (σ : jm_S) (h : ¬ σ.1 21 0 16 = 0) : jm_call (e + 1) jM_isSort [jm_R 21 0] σ = some (some (jm_I 0), σ) := by
  rw [gM_isSort_0, jm_ct h, gM_isSort_31, gM_isSort_32]
  rfl
/-- a fault is told -/
def rBl (σ : jm_S) (x : Int32) : jm_S := jm_wi (jm_wi σ 21 0 16 x) 21 0 17 (σ.1 21 0 13)
theorem rBl_d {σ : jm_S} {a f : Nat} (h13 : σ.1 21 0 13 = nI a) (h1 : 1 ≤ f) (h3 : f ≤ 3) : rDd (rBl σ (nI f)) (f, a) := ⟨rfl, h13, h1, h3⟩
theorem rBl_f (σ : jm_S) (x : Int32) : fR 17 σ (rBl σ x) := (fR.w (by omega) (by omega)).tr (fR.w (by omega) (by omega))
theorem lv_bad (e : Nat) (σ : jm_S) (x : Int32) (h : σ.1 21 0 16 = 0) : jm_call (e + 1) jM_bad [jm_R 21 0, jm_I x] σ = some (none, rBl σ x) := by
  rw [gM_bad_0, jm_cf (fun h9 => h9 h), gM_bad_20]
  rfl
theorem r_must1 (e : Nat) (σ : jm_S) {q : PT} {b : Nat} (hT : rTq σ q) (h80 : q.1 ≤ 80) (hb : b ≤ q.1) (h12 : σ.1 21 0 12 = nI b) (h16 : σ.1 21 0 16 = 0) : ∃ σ', jm_call (e + 3) jM_must [jm_R 21 0, jm_I 1] σ = some (none, σ') ∧ TS σ' q b ∧ fR 17 σ σ' := by
  obtain ⟨σ1, e1, e2, e3⟩ := r_next e σ hT h80 hb h12 h16
  refine ⟨σ1, ?_, e2, e3.up (by omega)⟩
  rw [gM_must_0, jm_ct (show ¬ (1 : Int32) = 0 by decide), gM_must_9, jm_cf (fun h9 => h9 h16), e1, Option.bind_some, jm_pn, gM_must_20]
theorem r_must0 (e : Nat) (σ : jm_S) {a : Nat} (h13 : σ.1 21 0 13 = nI a) (h16 : σ.1 21 0 16 = 0) : ∃ σ', jm_call (e + 3) jM_must [jm_R 21 0, jm_I 0] σ = some (none, σ') ∧ rDd σ' (1, a) ∧ fR 17 σ σ' := by
  have hd : rDd (rBl σ 1) (1, a) := rBl_d (f := 1) h13 (by omega) (by omega)
  refine ⟨rBl σ 1, ?_, hd, rBl_f σ 1⟩
  rw [gM_must_0, jm_cf (fun h9 => h9 rfl), lv_bad (e + 1) σ 1 h16, Option.bind_some, jm_pn, gM_must_9, jm_ct hd.ne, gM_must_20]
theorem pL_nf {q : PT} {a : Nat} (h : pF q a = false) : pL q a = 0 := by unfold pL; rw [h]; rfl
theorem pB_end (q : PT) : pB q q.1 = -1 := if_neg (Nat.lt_irrefl _)
theorem pF_l97 {q : PT} {a : Nat} (h : lt97 (pB q a)) : pF q a = false := decide_eq_false (fun h9 => by unfold lt97 at h; omega)
theorem pF_ne {q : PT} {a : Nat} {c : Int32} (h : pB q a = c) (hc : pG c = false) : pF q a = false := by unfold pF; rw [h]; exact hc
theorem pS_no {q : PT} {c : Int32} {a : Nat} (h : ¬ pB q a = c) : pS q c a = .inr (1, a) := if_neg h
theorem pN_no {q : PT} {lo hi : Int32} {a : Nat} (h : pL q a = 0 ∨ pL q a = 3) : pN q lo hi a = .inr (1, a) := if_pos h
theorem r_sign (e : Nat) (σ : jm_S) {q : PT} {a : Nat} {c : Int32} (hc : c = 44 ∨ c = 59) (hT : rTq σ q) (h80 : q.1 ≤ 80) (hS : TS σ q a) : ∃ σ', jm_call (e + 4) jM_mustSign [jm_R 21 0, jm_I c] σ = some (none, σ') ∧ (∀ b, pS q c a = .inl b → TS σ' q b) ∧ (∀ x, pS q c a = .inr x → rDd σ' x) ∧ fR 17 σ σ' := by
  obtain ⟨h13, h16, hcs⟩ := hS
  have bad : ¬ pB q a = c → (¬ σ.1 21 0 14 = 4 ∨ ¬ σ.1 21 0 15 = c) → ∃ σ', jm_call (e + 4) jM_mustSign [jm_R 21 0, jm_I c] σ = some (none, σ') ∧ (∀ b, pS q c a = .inl b → TS σ' q b) ∧ (∀ x, pS q c a = .inr x → rDd σ' x) ∧ fR 17 σ σ' := by
    intro hne hor
    obtain ⟨σ1, e1, e2, e3⟩ := r_must0 e σ h13 h16
    rw [pS_no hne]
    refine ⟨σ1, ?_, fun b h9 => (by cases h9), fun x h9 => (by cases h9; exact e2), e3⟩
    have s : jm_ev (e + 3) (jM_mustSign, 21, [some (jm_R 21 0), some (jm_I c)], [jm_R 21 0], σ) = some (none, σ1) := by
      rw [gM_mustSign_21, gM_mustSign_22, e1, Option.bind_some, jm_pn, gM_mustSign_25]
    rw [gM_mustSign_0, s]
    by_cases h14 : σ.1 21 0 14 = 4
    · rw [jm_cf (fun h9 => h9 h14), jm_ct (hor.resolve_left (fun h9 => h9 h14))]
    · rw [jm_ct h14]
  have hcn : pG c = false := by rcases hc with rfl | rfl <;> decide
  have hcl : ¬ lt97 c := by
    rcases hc with rfl | rfl
    · exact fun h9 => absurd h9.1 (by decide)
    · exact fun h9 => absurd h9.1 (by decide)
  rcases hcs with ⟨h1, h2⟩ | ⟨h1, h2, h3, h4, h5⟩ | ⟨h1, h2, h3, h4, h5⟩ | ⟨h1, h2, h3, h4, h5⟩ | ⟨h1, h2, h3⟩
  · refine bad (fun h9 => ?_) (Or.inl (by rw [h2]; decide))
    rw [h1, pB_end] at h9
    rcases hc with rfl | rfl <;> exact absurd h9 (by decide)
  · exact bad (fun h9 => hcl (by rw [← h9]; exact h2)) (Or.inl (by rw [h3]; decide))
  · exact bad (fun h9 => by rw [pF_ne h9 hcn] at h1; cases h1) (Or.inl (by rw [h3]; decide))
  · by_cases h9 : pB q a = c
    · have hS : pS q c a = .inl (a + 1) := if_pos h9
      obtain ⟨σ1, e1, e2, e3⟩ := r_must1 e σ hT h80 (show a + 1 ≤ q.1 by omega) h5 h16
      refine ⟨σ1, ?_, fun b h8 => (by rw [hS] at h8; cases h8; exact e2), fun x h8 => (by rw [hS] at h8; cases h8), e3⟩
      rw [gM_mustSign_0, jm_cf (fun h8 => h8 h3), jm_cf (fun h8 => h8 (by rw [h4]; exact h9)), gM_mustSign_22, e1, Option.bind_some, jm_pn, gM_mustSign_25]
    · exact bad h9 (Or.inr (by rw [h4]; exact h9))
  · refine bad (fun h9 => ?_) (Or.inl (by rw [h2]; decide))
    rcases h3 with h3 | h3
    · rw [pF_ne h9 hcn] at h3; cases h3.1
    · rcases hc with rfl | rfl
      · exact h3.2.2.1 h9
      · exact h3.2.2.2 h9
theorem r_numb (e : Nat) (σ : jm_S) {q : PT} {a : Nat} (lo hi : Int32) (hT : rTq σ q) (h80 : q.1 ≤ 80) (hS : TS σ q a) : ∃ (σ' : jm_S) (v : Int32), jm_call (e + 4) jM_number [jm_R 21 0, jm_I lo, jm_I hi] σ = some (some (jm_I v), σ') ∧ (∀ r, pN q lo hi a = .inl r → v = r.1 ∧ TS σ' q r.2) ∧ (∀ x, pN q lo hi a = .inr x → rDd σ' x) ∧ fR 17 σ σ' := by
  obtain ⟨h13, h16, hcs⟩ := hS
  have dead : ∀ σ1, ¬ σ1.1 21 0 16 = 0 → jm_ev (e + 3) (jM_number, 47, [some (jm_R 21 0), some (jm_I lo), some (jm_I hi), none], [], σ1) = some (some (jm_I lo), σ1) := fun σ1 h9 => by
    rw [gM_number_47, jm_ct h9, gM_number_62, dd_must (e + 1) σ1 1 h9, Option.bind_some, jm_pn, gM_number_68]
  have bad : (pL q a = 0 ∨ pL q a = 3) → ¬ σ.1 21 0 14 = 3 → ∃ (σ' : jm_S) (v : Int32), jm_call (e + 4) jM_number [jm_R 21 0, jm_I lo, jm_I hi] σ = some (some (jm_I v), σ') ∧ (∀ r, pN q lo hi a = .inl r → v = r.1 ∧ TS σ' q r.2) ∧ (∀ x, pN q lo hi a = .inr x → rDd σ' x) ∧ fR 17 σ σ' := by
    intro hL h14
    have hd : rDd (rBl σ 1) (1, a) := rBl_d (f := 1) h13 (by omega) (by omega)
    rw [pN_no hL]
    refine ⟨rBl σ 1, lo, ?_, fun b h9 => (by cases h9), fun x h9 => (by cases h9; exact hd), rBl_f σ 1⟩
    rw [gM_number_0, jm_cf (fun h9 => h9 h16), jm_cf h14, lv_bad (e + 2) σ 1 h16, Option.bind_some, jm_pn, gM_number_20, jm_ct hd.ne, dead _ hd.ne]
  rcases hcs with ⟨h1, h2⟩ | ⟨h1, h2, h3, h4, h5⟩ | ⟨h1, h2, h3, h4, h5⟩ | ⟨h1, h2, h3, h4, h5⟩ | ⟨h1, h2, h3⟩
  · exact bad (Or.inl (pL_nf (pF_ne (c := -1) (by rw [h1]; exact pB_end q) (by decide)))) (by rw [h2]; decide)
  · exact bad (Or.inl (pL_nf (pF_l97 h2))) (by rw [h3]; decide)
  · have hL : ¬ (pL q a = 0 ∨ pL q a = 3) := by omega
    have s1 : jm_call (e + 4) jM_number [jm_R 21 0, jm_I lo, jm_I hi] σ = jm_ev (e + 3) (jM_number, 39, [some (jm_R 21 0), some (jm_I lo), some (jm_I hi), none], [jm_I (if lo.toInt ≤ (pV q a).toInt ∧ (pV q a).toInt ≤ hi.toInt then 1 else 0)], σ) := by
      rw [gM_number_0, jm_cf (fun h9 => h9 h16), jm_ct h3, gM_number_20, jm_cf (fun h9 => h9 h16), h4, r_in, Option.bind_some, jm_ps, jm_i64, jm_i64, jm_i64]
    by_cases hr : lo.toInt ≤ (pV q a).toInt ∧ (pV q a).toInt ≤ hi.toInt
    · have hN : pN q lo hi a = .inl (pV q a, a + pL q a) := (if_neg hL).trans (if_pos hr)
      obtain ⟨σ1, e1, e2, e3⟩ := r_must1 e σ hT h80 (pN_ok hN).1 h5 h16
      refine ⟨σ1, pV q a, ?_, fun r h8 => (by rw [hN] at h8; cases h8; exact ⟨rfl, e2⟩), fun x h8 => (by rw [hN] at h8; cases h8), e3⟩
      rw [s1, if_pos hr, gM_number_39, jm_ct (show ¬ (1 : Int32) = 0 by decide), gM_number_47, jm_cf (fun h9 => h9 h16), h4, gM_number_62, e1, Option.bind_some, jm_pn, gM_number_68]
    · have hN : pN q lo hi a = .inr (2, a) := (if_neg hL).trans (if_neg hr)
      have hd : rDd (rBl σ 2) (2, a) := rBl_d (f := 2) h13 (by omega) (by omega)
      refine ⟨rBl σ 2, lo, ?_, fun r h8 => (by rw [hN] at h8; cases h8), fun x h8 => (by rw [hN] at h8; cases h8; exact hd), rBl_f σ 2⟩
      rw [s1, if_neg hr, gM_number_39, jm_cf (fun h9 => h9 rfl), lv_bad (e + 2) σ 2 h16, Option.bind_some, jm_pn, dead _ hd.ne]
  · refine bad (Or.inl (pL_nf ?_)) (by rw [h3]; decide)
    rcases h2 with h2 | h2 <;> exact pF_ne h2 (by decide)
  · refine bad ?_ (by rw [h2]; decide)
    rcases h3 with h3 | h3
    · exact Or.inr h3.2
    · exact Or.inl (pL_nf h3.1)
/-- a number, and a sign behind it -/
theorem r_X (e : Nat) (σ : jm_S) {q : PT} {a : Nat} (lo hi : Int32) {c : Int32} (hc : c = 44 ∨ c = 59) (hT : rTq σ q) (h80 : q.1 ≤ 80) (hS : TS σ q a) : ∃ (σ1 σ' : jm_S) (v : Int32), jm_call (e + 4) jM_number [jm_R 21 0, jm_I lo, jm_I hi] σ = some (some (jm_I v), σ1) ∧ jm_call (e + 4) jM_mustSign [jm_R 21 0, jm_I c] σ1 = some (none, σ') ∧ (∀ r, pX q lo hi c a = .inl r → v = r.1 ∧ TS σ' q r.2) ∧ (∀ x, pX q lo hi c a = .inr x → rDd σ' x) ∧ fR 17 σ σ' := by
  obtain ⟨σ1, v, e1, e2, e3, e4⟩ := r_numb e σ lo hi hT h80 hS
  cases hN : pN q lo hi a with
  | inr x =>
    have hX : pX q lo hi c a = .inr x := by unfold pX; rw [hN]; rfl
    have hd := e3 _ hN
    exact ⟨σ1, σ1, v, e1, dd_sign (e + 1) σ1 c hd.ne, fun r h9 => (by rw [hX] at h9; cases h9), fun y h9 => (by rw [hX] at h9; cases h9; exact hd), e4⟩
  | inl s =>
    obtain ⟨hv, hs⟩ := e2 _ hN
    obtain ⟨σ2, f1, f2, f3, f4⟩ := r_sign e σ1 hc (e4.T hT) h80 hs
    cases hG : pS q c s.2 with
    | inr x =>
      have hX : pX q lo hi c a = .inr x := by unfold pX; rw [hN]; show pb (pS q c s.2) _ = _; rw [hG]; rfl
      exact ⟨σ1, σ2, v, e1, f1, fun r h9 => (by rw [hX] at h9; cases h9), fun y h9 => (by rw [hX] at h9; cases h9; exact f3 _ hG), e4.tr f4⟩
    | inl b =>
      have hX : pX q lo hi c a = .inl (s.1, b) := by unfold pX; rw [hN]; show pb (pS q c s.2) _ = _; rw [hG]; rfl
      exact ⟨σ1, σ2, v, e1, f1, fun r h9 => (by rw [hX] at h9; cases h9; exact ⟨hv, f2 _ hG⟩), fun y h9 => (by rw [hX] at h9; cases h9), e4.tr f4⟩
theorem r_kindBy (e : Nat) (σ : jm_S) (x : Int32) : jm_call (e + 1) jM_kindBy [jm_I x] σ = some (some (jm_I (if pK x = 0 then -1000000 else nI (pK x))), σ) := by
  unfold pK
  rw [gM_kindBy_0, gM_kindBy_52, gM_kindBy_52, gM_kindBy_52, gM_kindBy_52, gM_kindBy_52, gM_kindBy_52]
  by_cases h1 : x = 112
  · subst h1; rfl
  · rw [jm_ct h1]
    by_cases h2 : x = 103
    · subst h2; rfl
    · rw [jm_ct h2]
      by_cases h3 : x = 119
      · subst h3; rfl
      · rw [jm_ct h3]
        by_cases h4 : x = 116
        · subst h4; rfl
        · rw [jm_ct h4]
          by_cases h5 : x = 115
          · subst h5; rfl
          · rw [jm_ct h5, if_neg h2, if_neg h1, if_neg h5, if_neg h4, if_neg h3, if_pos rfl]
theorem pK_97 {x : Int32} (h : ¬ pK x = 0) : lt97 x := by
  unfold pK at h
  by_cases h1 : x = 103
  · subst h1; exact ⟨by decide, by decide⟩
  · rw [if_neg h1] at h
    by_cases h2 : x = 112
    · subst h2; exact ⟨by decide, by decide⟩
    · rw [if_neg h2] at h
      by_cases h3 : x = 115
      · subst h3; exact ⟨by decide, by decide⟩
      · rw [if_neg h3] at h
        by_cases h4 : x = 116
        · subst h4; exact ⟨by decide, by decide⟩
        · rw [if_neg h4] at h
          by_cases h5 : x = 119
          · subst h5; exact ⟨by decide, by decide⟩
          · rw [if_neg h5] at h; exact absurd rfl h
theorem G_97 {x : Int32} (h : pG x = true) : ¬ lt97 x := fun h9 => by
  have := of_decide_eq_true h
  unfold lt97 at h9
  omega
theorem TS.let {σ : jm_S} {q : PT} {a : Nat} (h : TS σ q a) (h9 : lt97 (pB q a)) : a < q.1 ∧ σ.1 21 0 14 = 2 ∧ σ.1 21 0 15 = pB q a ∧ σ.1 21 0 12 = nI (a + 1) := by
  rcases h.2.2 with ⟨h1, h2⟩ | ⟨h1, h2, h3, h4, h5⟩ | ⟨h1, h2, h3, h4, h5⟩ | ⟨h1, h2, h3, h4, h5⟩ | ⟨h1, h2, h3⟩
  · rw [h1, pB_end] at h9; exact absurd h9.1 (by decide)
  · exact ⟨h1, h3, h4, h5⟩
  · exact absurd h9 (G_97 h1)
  · rcases h2 with h2 | h2 <;> (rw [h2] at h9; exact absurd h9.1 (by decide))
  · rcases h3 with h3 | h3
    · exact absurd h9 (G_97 h3.1)
    · exact absurd h9 h3.2.1
theorem TS.nol {σ : jm_S} {q : PT} {a : Nat} (h : TS σ q a) (h9 : ¬ lt97 (pB q a)) : ¬ σ.1 21 0 14 = 2 := by
  rcases h.2.2 with ⟨h1, h2⟩ | ⟨h1, h2, h3, h4, h5⟩ | ⟨h1, h2, h3, h4, h5⟩ | ⟨h1, h2, h3, h4, h5⟩ | ⟨h1, h2, h3⟩
  · rw [h2]; decide
  · exact absurd h2 h9
  · rw [h3]; decide
  · rw [h3]; decide
  · rw [h2]; decide
theorem r_sort (e : Nat) (σ : jm_S) {q : PT} {a : Nat} (hS : TS σ q a) : jm_call (e + 2) jM_isSort [jm_R 21 0] σ = some (some (jm_I (if pK (pB q a) = 0 then 0 else 1)), σ) := by
  rw [gM_isSort_0, jm_cf (fun h9 => h9 hS.2.1), gM_isSort_31, gM_isSort_32]
  by_cases hl : lt97 (pB q a)
  · obtain ⟨_, h14, h15, _⟩ := hS.let hl
    rw [jm_cf (fun h9 => h9 h14), h15, r_kindBy, Option.bind_some, jm_ps, gM_isSort_22, gM_isSort_31, gM_isSort_32, gM_isSort_32]
    by_cases hk : pK (pB q a) = 0
    · rw [if_pos hk, if_pos hk]; rfl
    · rw [if_neg hk, if_neg hk, jm_cf (fun h9 => by
        have h8 := congrArg Int32.toInt h9
        rw [nI_toInt (by have := pK_le (pB q a); omega), show (-1000000 : Int32).toInt = -1000000 from rfl] at h8
        omega)]
      rfl
  · rw [jm_ct (hS.nol hl), if_pos (by
      cases h : pK (pB q a) with
      | zero => rfl
      | succ n => exact absurd (pK_97 (x := pB q a) (by omega)) hl)]
    rfl
