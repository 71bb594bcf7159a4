-- METHODS: shaft, the reference: law, all discs, the end
abbrev shF (x1 : Int32) (o2 : Option jm_V) : List (Option jm_V) := [some (jm_R 21 0), some (jm_I x1), o2]
theorem r_zero : ∀ (f k : Nat) (σ : jm_S), k + f = 26 → (∀ j, j < k → σ.1 25 1 j = 0) → ∃ σ', jm_ev 59 (jM_shaft, 11, shF (nI k) none, [], σ) = jm_ev 59 (jM_shaft, 11, shF (nI 26) none, [], σ') ∧ (∀ j, j < 26 → σ'.1 25 1 j = 0) ∧ jm_ag (fun k r => k == 25 && r == 1) σ σ' := by
  intro f
  induction f with
  | zero =>
    intro k σ h h1
    have : k = 26 := by omega
    subst this
    exact ⟨σ, rfl, h1, jm_ag.rf⟩
  | succ f ih =>
    intro k σ h h1
    obtain ⟨σ', e1, e2, e3⟩ := ih (k + 1) (jm_wi σ 25 1 k 0) (by omega) (fun j hj => by
      rw [jm_w_s]
      by_cases hk : j = k
      · subst hk; rw [pk_us]
      · rw [pk_un hk]; exact h1 j (by omega))
    refine ⟨σ', ?_, e2, (jm_ag.wi rfl).tr e3⟩
    rw [gM_shaft_11, jm_cf (show ¬ (26 : Int32) ≤ nI k from nI_ge (b := 26) (by omega) (by decide)), jm_in_nI (show k < 26 by omega) (by decide), cond_true, jm_cl (show k < 2 ^ 31 by omega), nI_1]
    exact e1
theorem r_letm (e : Nat) (σ : jm_S) {q : PT} {a : Nat} (hS : TS σ q a) : jm_call (e + 1) jM_isLetter [jm_R 21 0, jm_I 109] σ = some (some (jm_I (if pB q a = 109 then 1 else 0)), σ) := by
  rw [gM_isLetter_0, jm_cf (fun h9 => h9 hS.2.1), gM_isLetter_27, gM_isLetter_28, gM_isLetter_28]
  by_cases hl : lt97 (pB q a)
  · obtain ⟨_, h14, h15, _⟩ := hS.let hl
    rw [jm_cf (fun h9 => h9 h14), h15]
    by_cases h9 : pB q a = 109
    · rw [jm_cf (fun h8 => h8 h9), if_pos h9]; rfl
    · rw [jm_ct h9, if_neg h9]; rfl
  · rw [jm_ct (hS.nol hl), if_neg (fun h9 => hl (by rw [h9]; exact ⟨by decide, by decide⟩))]
    rfl
theorem TS.w5 {σ : jm_S} {q : PT} {a i : Nat} {x : Int32} (h : TS σ q a) : TS (jm_wi σ 25 1 i x) q a := h
theorem rDd.w5 {σ : jm_S} {x : Nat × Nat} {i : Nat} {y : Int32} (h : rDd σ x) : rDd (jm_wi σ 25 1 i y) x := h
theorem r_law (σ : jm_S) {q : PT} (hT : rTq σ q) (h80 : q.1 ≤ 80) : ∃ (σ' : jm_S) (x1 : Int32), jm_call 60 jM_shaft [jm_R 21 0] σ = jm_ev 59 (jM_shaft, 90, shF x1 (some (jm_I (nI 0))), [], σ') ∧ (∀ m, pW q = .inl m → TS σ' q m.2 ∧ rS (σ'.1 25 1) (0, m.1, fun _ _ => 0)) ∧ (∀ x, pW q = .inr x → rDd σ' x) ∧ fZ (jm_wi σ 21 0 0 0) σ' := by
  have fb : fR 17 (jm_wi σ 21 0 0 0) (jm_wi (jm_wi (jm_wi σ 21 0 0 0) 21 0 12 0) 21 0 16 0) := (fR.w (by omega) (by omega)).tr (fR.w (by omega) (by omega))
  obtain ⟨σ1, b1, b2, b3⟩ := r_next 56 (jm_wi (jm_wi (jm_wi σ 21 0 0 0) 21 0 12 0) 21 0 16 0) (q := q) (a := 0) (fb.T hT) h80 (Nat.zero_le _) rfl rfl
  have z1 : fR 17 (jm_wi σ 21 0 0 0) σ1 := fb.tr (b3.up (by omega))
  obtain ⟨σ2, c1, c2, c3⟩ := r_zero 26 0 σ1 rfl (fun j hj => absurd hj (Nat.not_lt_zero j))
  have zc : fZ σ1 σ2 := ⟨fun j _ => by rw [(c3 21 0 rfl).1], c3.mo (fun k r h9 => by simp only [C251, Bool.or_eq_false_iff] at h9; exact h9.2)⟩
  have z2 : fZ (jm_wi σ 21 0 0 0) σ2 := z1.z.tr zc
  have hT2 : rTq σ2 q := z2.T hT
  have hS2 : TS σ2 q 0 := by
    unfold TS at b2 ⊢
    rw [(c3 21 0 rfl).1]
    exact b2
  have s0 : jm_call 60 jM_shaft [jm_R 21 0] σ = jm_ev 59 (jM_shaft, 37, shF (nI 26) none, [jm_I (if pB q 0 = 109 then 1 else 0), jm_R 21 0], σ2) := by
    have hb : jm_call 59 jM_begin [jm_R 21 0] (jm_wi σ 21 0 0 0) = some (none, σ1) := by
      rw [gM_begin_0, b1, Option.bind_some, jm_pn, gM_begin_14]
    rw [gM_shaft_0, hb, Option.bind_some, jm_pn, gM_shaft_9]
    refine c1.trans ?_
    rw [gM_shaft_11, jm_ct (show (26 : Int32) ≤ nI 26 by decide), r_letm 58 σ2 hS2, Option.bind_some, jm_ps]
  have fin : ∀ (σ3 : jm_S) (x1 : Int32), ¬ σ3.1 21 0 16 = 0 → ∃ σ', jm_ev 59 (jM_shaft, 54, shF x1 none, [], σ3) = jm_ev 59 (jM_shaft, 90, shF x1 (some (jm_I (nI 0))), [], σ') ∧ (∀ x, rDd σ3 x → rDd σ' x) ∧ fZ σ3 σ' := fun σ3 x1 hd => by
    refine ⟨jm_wi σ3 25 1 1 (10 * x1 + 0), ?_, fun x h9 => h9.w5, fZ.w5⟩
    have hd' : ¬ (jm_wi σ3 25 1 1 (10 * x1 + 0)).1 21 0 16 = 0 := hd
    have t : ∀ hi : Int32, jm_ev 59 (jM_shaft, 77, shF x1 none, [jm_I hi, jm_I 0, jm_R 21 0, jm_I (10 * x1), jm_I 1, jm_R 25 1], σ3) = jm_ev 59 (jM_shaft, 90, shF x1 (some (jm_I (nI 0))), [], jm_wi σ3 25 1 1 (10 * x1 + 0)) := fun hi => by
      rw [gM_shaft_77, dd_number 56 σ3 0 hi hd, Option.bind_some, jm_ps, gM_shaft_80, show jm_in3 1 26 = true from rfl, cond_true, show (1 : Int32).toNatClampNeg = 1 from rfl, dd_sign 56 _ 59 hd', Option.bind_some, jm_pn, gM_shaft_88]
      rfl
    rw [gM_shaft_54, t, t]
    cases decide (¬ x1 = 20) <;> rfl
  by_cases hm : pB q 0 = 109
  case neg =>
    obtain ⟨σ3, e1, e2, e3⟩ := r_must0 56 σ2 hS2.1 hS2.2.1
    have hW : pW q = .inr (1, 0) := by unfold pW; rw [pS_no hm]; rfl
    obtain ⟨σ', g1, g2, g3⟩ := fin σ3 0 e2.ne
    refine ⟨σ', 0, ?_, fun m h9 => (by rw [hW] at h9; cases h9), fun x h9 => (by rw [hW] at h9; cases h9; exact g2 _ e2), (z2.tr e3.z).tr g3⟩
    rw [s0, if_neg hm, gM_shaft_37, e1, Option.bind_some, jm_pn, gM_shaft_40, dd_number 56 σ3 0 20 e2.ne, Option.bind_some, jm_ps, gM_shaft_47, dd_sign 56 σ3 44 e2.ne, Option.bind_some, jm_pn]
    exact g1
  have hPS : pS q 109 0 = .inl 1 := if_pos hm
  have h1q : 1 ≤ q.1 := pB_lt hm (by decide)
  obtain ⟨_, _, _, h12⟩ := hS2.let (by rw [hm]; exact ⟨by decide, by decide⟩)
  obtain ⟨σ3, e1, e2, e3⟩ := r_must1 56 σ2 hT2 h80 h1q h12 hS2.2.1
  have z3 : fZ (jm_wi σ 21 0 0 0) σ3 := z2.tr e3.z
  obtain ⟨σ4, σ5, v, f1, f2, f3, f4, f5⟩ := r_X 55 σ3 0 20 (c := 44) (Or.inl rfl) (z3.T hT) h80 e2
  have z5 : fZ (jm_wi σ 21 0 0 0) σ5 := z3.tr f5.z
  have s1 : jm_call 60 jM_shaft [jm_R 21 0] σ = jm_ev 59 (jM_shaft, 54, shF v none, [], σ5) := by
    rw [s0, if_pos hm, gM_shaft_37, e1, Option.bind_some, jm_pn, gM_shaft_40, f1, Option.bind_some, jm_ps, gM_shaft_47, f2, Option.bind_some, jm_pn]
  cases ht : pX q 0 20 44 1 with
  | inr x =>
    have hW : pW q = .inr x := by unfold pW; rw [hPS]; show pb (pX q 0 20 44 1) _ = _; rw [ht]; rfl
    have hd := f4 _ ht
    obtain ⟨σ', g1, g2, g3⟩ := fin σ5 v hd.ne
    exact ⟨σ', v, s1.trans g1, fun m h9 => (by rw [hW] at h9; cases h9), fun y h9 => (by rw [hW] at h9; cases h9; exact g2 _ hd), z5.tr g3⟩
  | inl t =>
    obtain ⟨hv, hS5⟩ := f3 _ ht
    subst hv
    have hWs : pW q = pb (pX q 0 (if t.1 = 20 then 0 else 9) 59 t.2) fun w => .inl (10 * t.1 + w.1, w.2) := by unfold pW; rw [hPS]; show pb (pX q 0 20 44 1) _ = _; rw [ht]; rfl
    obtain ⟨σ6, w, i1, i2, i3, i4⟩ := r_numb 55 σ5 0 (if t.1 = 20 then 0 else 9) (z5.T hT) h80 hS5
    have s2 : jm_call 60 jM_shaft [jm_R 21 0] σ = (jm_call 59 jM_mustSign [jm_R 21 0, jm_I 59] (jm_wi σ6 25 1 1 (10 * t.1 + w))).bind fun p => jm_ev 59 (jm_psh (jM_shaft, 88, shF t.1 none, [], jm_wi σ6 25 1 1 (10 * t.1 + w)) p) := by
      have tt : jm_ev 59 (jM_shaft, 77, shF t.1 none, [jm_I (if t.1 = 20 then 0 else 9), jm_I 0, jm_R 21 0, jm_I (10 * t.1), jm_I 1, jm_R 25 1], σ5) = (jm_call 59 jM_mustSign [jm_R 21 0, jm_I 59] (jm_wi σ6 25 1 1 (10 * t.1 + w))).bind fun p => jm_ev 59 (jm_psh (jM_shaft, 88, shF t.1 none, [], jm_wi σ6 25 1 1 (10 * t.1 + w)) p) := by
        rw [gM_shaft_77, i1, Option.bind_some, jm_ps, gM_shaft_80, show jm_in3 1 26 = true from rfl, cond_true, show (1 : Int32).toNatClampNeg = 1 from rfl]
      rw [s1, gM_shaft_54, ← tt]
      by_cases h20 : t.1 = 20
      · rw [jm_cf (fun h9 => h9 h20), if_pos h20]
      · rw [jm_ct h20, if_neg h20]
    have z6 : fZ (jm_wi σ 21 0 0 0) (jm_wi σ6 25 1 1 (10 * t.1 + w)) := (z5.tr i4.z).tr fZ.w5
    cases hN : pN q 0 (if t.1 = 20 then 0 else 9) t.2 with
    | inr x =>
      have hW : pW q = .inr x := by rw [hWs]; unfold pX; rw [hN]; rfl
      have hd := (i3 _ hN).w5 (i := 1) (y := 10 * t.1 + w)
      refine ⟨jm_wi σ6 25 1 1 (10 * t.1 + w), t.1, ?_, fun m h9 => (by rw [hW] at h9; cases h9), fun y h9 => (by rw [hW] at h9; cases h9; exact hd), z6⟩
      rw [s2, dd_sign 56 _ 59 hd.ne, Option.bind_some, jm_pn, gM_shaft_88]
      rfl
    | inl s =>
      obtain ⟨hw, hS6⟩ := i2 _ hN
      subst hw
      obtain ⟨σ7, k1, k2, k3, k4⟩ := r_sign 55 (jm_wi σ6 25 1 1 (10 * t.1 + s.1)) (c := 59) (Or.inr rfl) (z6.T hT) h80 (hS6.w5)
      have s3 : jm_call 60 jM_shaft [jm_R 21 0] σ = jm_ev 59 (jM_shaft, 90, shF t.1 (some (jm_I (nI 0))), [], σ7) := by
        rw [s2, k1, Option.bind_some, jm_pn, gM_shaft_88]
        rfl
      cases hG : pS q 59 s.2 with
      | inr x =>
        have hW : pW q = .inr x := by rw [hWs]; unfold pX; rw [hN]; show pb (pb (pS q 59 s.2) _) _ = _; rw [hG]; rfl
        exact ⟨σ7, t.1, s3, fun m h9 => (by rw [hW] at h9; cases h9), fun y h9 => (by rw [hW] at h9; cases h9; exact k3 _ hG), z6.tr k4.z⟩
      | inl b =>
        have hW : pW q = .inl (10 * t.1 + s.1, b) := by rw [hWs]; unfold pX; rw [hN]; show pb (pb (pS q 59 s.2) _) _ = _; rw [hG]; rfl
        refine ⟨σ7, t.1, s3, fun m h9 => ?_, fun y h9 => (by rw [hW] at h9; cases h9), z6.tr k4.z⟩
        rw [hW] at h9
        cases h9
        refine ⟨k2 _ hG, ?_, ?_, fun d hd => absurd hd (Nat.not_lt_zero d)⟩
        · have a0 : σ7.1 25 1 0 = (jm_wi σ6 25 1 1 (10 * t.1 + s.1)).1 25 1 0 := by rw [(k4.2 25 1 rfl).1]
          have a1 : σ6.1 25 1 0 = σ2.1 25 1 0 := by rw [(i4.2 25 1 rfl).1, (f5.2 25 1 rfl).1, (e3.2 25 1 rfl).1]
          refine a0.trans ?_
          show σ6.1 25 1 0 = nI 0
          rw [a1, c2 0 (by omega)]
          rfl
        · rw [(k4.2 25 1 rfl).1]
          rfl
-- the end
def oNO (σ0 : jm_S) (x : Nat × Nat) (σ' : jm_S) : Prop := σ'.1 21 0 11 = 0 ∧ σ'.1 21 0 18 = nI x.1 ∧ (∀ j, j = 1 ∨ j = 9 ∨ j = 25 → σ'.1 21 0 j = σ0.1 21 0 j) ∧ jm_ag C251 σ0 σ'
def oOK (σ0 : jm_S) (T : sS) (σ' : jm_S) : Prop := rS (σ'.1 25 0) T ∧ σ'.1 21 0 11 = 0 ∧ σ'.1 21 0 9 = 0 ∧ (∀ j, j = 1 ∨ j = 18 ∨ j = 25 → σ'.1 21 0 j = σ0.1 21 0 j) ∧ jm_ag (fun k _ => k == 21 || k == 25) σ0 σ'
theorem r_end_no (σ0 σ : jm_S) {x : Nat × Nat} (hd : rDd σ x) (hz : fZ σ0 σ) (x1 x2 : Int32) : ∃ σ', (jm_call 59 jM_failed [jm_R 21 0] σ).bind (fun p => jm_ev 59 (jm_psh (jM_shaft, 138, shF x1 (some (jm_I x2)), [], σ) p)) = some (some (jm_I (-1000100 - nI x.2)), σ') ∧ oNO σ0 x σ' := by
  have hn : ¬ σ.1 21 0 16 ≤ 0 := by
    rw [hd.1, jm_te32, nI_toInt (by have := hd.2.2.2; omega), show (0 : Int32).toInt = 0 from rfl]
    have := hd.2.2.1
    omega
  have hn' : ¬ (jm_wi σ 21 0 11 0).1 21 0 16 ≤ 0 := hn
  refine ⟨jm_wi (jm_wi σ 21 0 11 0) 21 0 18 (σ.1 21 0 16), ?_, rfl, hd.1, fun j hj => ?_, (hz.2.tr (jm_ag.wi rfl)).tr (jm_ag.wi rfl)⟩
  · rw [gM_failed_0, jm_ct hd.ne, gM_failed_20, jm_cf hn, gM_failed_44, jm_cf hn', gM_failed_59, jm_b1, cond_true, Option.bind_some, jm_ps, gM_shaft_138, jm_cf (show ¬ (1 : Int32) = 0 by decide), ← hd.2.1]
    rfl
  · rw [jm_w_s, pk_un (by omega), jm_w_s, pk_un (by omega)]
    exact hz.1 j (by omega)
theorem r_freshL (σ0 : jm_S) (x1 : Int32) : ∀ (f k : Nat) (σ : jm_S), k + f = 26 → jm_ag (fun k r => k == 25 && r == 0) σ0 σ → (∀ j, j < k → σ.1 25 0 j = σ0.1 25 1 j) → ∃ σ', jm_ev 59 (jM_shaft, 156, shF x1 (some (jm_I (nI k))), [], σ) = some (some (jm_I (σ0.1 25 1 0)), σ') ∧ jm_ag (fun k r => k == 25 && r == 0) σ0 σ' ∧ ∀ j, j < 26 → σ'.1 25 0 j = σ0.1 25 1 j := by
  intro f
  induction f with
  | zero =>
    intro k σ h ha h1
    have : k = 26 := by omega
    subst this
    exact ⟨σ, by rw [gM_shaft_156, jm_ct (show (26 : Int32) ≤ nI 26 by decide), h1 0 (by omega)], ha, h1⟩
  | succ f ih =>
    intro k σ h ha h1
    obtain ⟨σ', e1, e2⟩ := ih (k + 1) (jm_wi σ 25 0 k (σ.1 25 1 k)) (by omega) (ha.tr (jm_ag.wi rfl)) (fun j hj => by
      rw [jm_w_s]
      by_cases hk : j = k
      · subst hk; rw [pk_us, (ha 25 1 rfl).1]
      · rw [pk_un hk]; exact h1 j (by omega))
    refine ⟨σ', ?_, e2⟩
    rw [gM_shaft_156, jm_cf (show ¬ (26 : Int32) ≤ nI k from nI_ge (b := 26) (by omega) (by decide)), jm_in_nI (show k < 26 by omega) (by decide), cond_true, cond_true, jm_cl (show k < 2 ^ 31 by omega), nI_1]
    exact e1
theorem r_end_ok (σ0 σ : jm_S) {T : sS} (h16 : σ.1 21 0 16 = 0) (h14 : σ.1 21 0 14 = 1) (hR : rS (σ.1 25 1) T) (h6 : T.1 ≤ 6) (hz : fZ σ0 σ) (x1 x2 : Int32) : ∃ σ', (jm_call 59 jM_failed [jm_R 21 0] σ).bind (fun p => jm_ev 59 (jm_psh (jM_shaft, 138, shF x1 (some (jm_I x2)), [], σ) p)) = some (some (jm_I (nI T.1)), σ') ∧ oOK σ0 T σ' := by
  have hn : σ.1 21 0 16 ≤ 0 := by rw [h16]; decide
  have hn' : (jm_wi σ 21 0 11 0).1 21 0 16 ≤ 0 := hn
  obtain ⟨σ', e1, e2, e3⟩ := r_freshL (jm_wi (jm_wi (jm_wi σ 21 0 11 0) 21 0 18 (σ.1 21 0 18)) 21 0 9 0) x1 26 0 (jm_wi (jm_wi (jm_wi σ 21 0 11 0) 21 0 18 (σ.1 21 0 18)) 21 0 9 0) rfl jm_ag.rf (fun j hj => absurd hj (Nat.not_lt_zero j))
  have hR' : (jm_wi (jm_wi (jm_wi σ 21 0 11 0) 21 0 18 (σ.1 21 0 18)) 21 0 9 0).1 25 1 0 = nI T.1 := hR.1
  rw [hR'] at e1
  have hm : jm_ag (fun k _ => k == 21 || k == 25) σ0 σ' := by
    have m1 : jm_ag C251 σ0 (jm_wi (jm_wi (jm_wi σ 21 0 11 0) 21 0 18 (σ.1 21 0 18)) 21 0 9 0) := ((hz.2.tr (jm_ag.wi rfl)).tr (jm_ag.wi rfl)).tr (jm_ag.wi rfl)
    refine (m1.mo (fun k r h9 => ?_)).tr (e2.mo (fun k r h9 => ?_))
    · simp only [Bool.or_eq_false_iff] at h9
      simp only [C251, h9.1, h9.2, Bool.false_and, Bool.or_self]
    · simp only [Bool.or_eq_false_iff] at h9
      simp only [h9.2, Bool.false_and]
  refine ⟨σ', ?_, rS_cg hR h6 e3, ?_, ?_, fun j hj => ?_, hm⟩
  · rw [gM_failed_0, jm_cf (fun h9 => h9 h16), jm_ct h14, gM_failed_20, jm_ct hn, gM_failed_44, jm_ct hn', gM_failed_59, jm_b0, cond_true, Option.bind_some, jm_ps, gM_shaft_138, jm_ct (show (0 : Int32) = 0 from rfl)]
    exact e1
  · rw [(e2 21 0 rfl).1]; rfl
  · rw [(e2 21 0 rfl).1]; rfl
  · rw [(e2 21 0 rfl).1]
    rcases hj with rfl | rfl | rfl
    · exact hz.1 1 (by omega)
    · exact hz.1 18 (by omega)
    · exact hz.1 25 (by omega)
