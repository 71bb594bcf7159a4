-- METHODS: shaft, the reference: discs
abbrev C251 : Nat → Nat → Bool := fun k r => k == 21 || (k == 25 && r == 1)
def fZ (σ σ' : jm_S) : Prop := (∀ j, ¬ (12 ≤ j ∧ j ≤ 17) → σ'.1 21 0 j = σ.1 21 0 j) ∧ jm_ag C251 σ σ'
theorem fZ.rf {σ : jm_S} : fZ σ σ := ⟨fun _ _ => rfl, jm_ag.rf⟩
theorem fZ.tr {a b c : jm_S} (h : fZ a b) (h' : fZ b c) : fZ a c := ⟨fun j hj => (h'.1 j hj).trans (h.1 j hj), h.2.tr h'.2⟩
theorem fR.z {σ σ' : jm_S} (h : fR 17 σ σ') : fZ σ σ' := ⟨h.1, h.2.mo (fun k r h9 => by simp only [C251, Bool.or_eq_false_iff] at h9; exact h9.1)⟩
theorem fZ.w5 {σ : jm_S} {i : Nat} {x : Int32} : fZ σ (jm_wi σ 25 1 i x) := ⟨fun _ _ => rfl, jm_ag.wi rfl⟩
theorem fZ.T {σ σ' : jm_S} {q : PT} (h : fZ σ σ') (hT : rTq σ q) : rTq σ' q := ⟨(h.1 11 (by omega)).trans hT.1, fun j hj => by rw [(h.2 27 0 rfl).1]; exact hT.2 j hj⟩
theorem fR.r5 {hi : Nat} {σ σ' : jm_S} {T : sS} (h : fR hi σ σ') (hR : rS (σ.1 25 1) T) : rS (σ'.1 25 1) T := by rw [(h.2 25 1 rfl).1]; exact hR
theorem rS_push {R : Nat → Int32} {T : sS} (h : rS R T) (k : Nat) (r : Int32 × Int32 × Int32) : rS (upd (upd (upd (upd (upd R (2 + 4 * T.1) (nI k)) (2 + 4 * T.1 + 1) r.1) (2 + 4 * T.1 + 2) r.2.1) (2 + 4 * T.1 + 3) r.2.2) 0 (nI (T.1 + 1))) (pU T k r) := by
  refine ⟨pk_us, ?_, fun d hd => ?_⟩
  · rw [pk_un (by omega), pk_un (by omega), pk_un (by omega), pk_un (by omega), pk_un (by omega)]; exact h.2.1
  · have hd' : d < T.1 + 1 := hd
    by_cases hd1 : d = T.1
    · have hu : ∀ w, (pU T k r).2.2 w d = (if w = 0 then r.1 else if w = 1 then r.2.1 else if w = 2 then r.2.2 else nI k) := fun w => if_pos hd1
      rw [hu 3, hu 0, hu 1, hu 2, hd1]
      refine ⟨?_, ?_, ?_, ?_⟩
      · rw [pk_un (by omega), pk_un (by omega), pk_un (by omega), pk_un (by omega), pk_us]; rfl
      · rw [pk_un (by omega), pk_un (by omega), pk_un (by omega), pk_us]; rfl
      · rw [pk_un (by omega), pk_un (by omega), pk_us]; rfl
      · rw [pk_un (by omega), pk_us]; rfl
    · have hu : ∀ w, (pU T k r).2.2 w d = T.2.2 w d := fun w => if_neg hd1
      rw [hu 3, hu 0, hu 1, hu 2]
      obtain ⟨a, b, c, g⟩ := h.2.2 d (by omega)
      refine ⟨?_, ?_, ?_, ?_⟩
      · rw [pk_un (by omega), pk_un (by omega), pk_un (by omega), pk_un (by omega), pk_un (by omega)]; exact a
      · rw [pk_un (by omega), pk_un (by omega), pk_un (by omega), pk_un (by omega), pk_un (by omega)]; exact b
      · rw [pk_un (by omega), pk_un (by omega), pk_un (by omega), pk_un (by omega), pk_un (by omega)]; exact c
      · rw [pk_un (by omega), pk_un (by omega), pk_un (by omega), pk_un (by omega), pk_un (by omega)]; exact g
abbrev rdF (x1 : Int32) (o2 o3 o4 o5 : Option jm_V) : List (Option jm_V) := [some (jm_R 21 0), some (jm_I x1), o2, o3, o4, o5]
theorem dd71 (e : Nat) (σ : jm_S) (h : ¬ σ.1 21 0 16 = 0) (x1 x2 x3 x4 : Int32) : jm_ev e (jM_readDisc, 71, rdF x1 (some (jm_I x2)) (some (jm_I x3)) (some (jm_I x4)) none, [], σ) = some (none, σ) := by
  rw [gM_readDisc_71, jm_ct h, gM_readDisc_141]
theorem dd56 (e : Nat) (σ : jm_S) (h : ¬ σ.1 21 0 16 = 0) (x1 x2 x3 : Int32) : jm_ev (e + 4) (jM_readDisc, 56, rdF x1 (some (jm_I x2)) (some (jm_I x3)) none none, [], σ) = some (none, σ) := by
  rw [gM_readDisc_56, dd_number (e + 1) σ 0 9 h, Option.bind_some, jm_ps, gM_readDisc_63, dd_sign (e + 1) σ 59 h, Option.bind_some, jm_pn, dd71 _ σ h]
theorem dd42 (e : Nat) (σ : jm_S) (h : ¬ σ.1 21 0 16 = 0) (x1 x2 : Int32) : jm_ev (e + 4) (jM_readDisc, 42, rdF x1 (some (jm_I x2)) none none none, [], σ) = some (none, σ) := by
  rw [gM_readDisc_42, dd_number (e + 1) σ 0 40 h, Option.bind_some, jm_ps, gM_readDisc_49, dd_sign (e + 1) σ 44 h, Option.bind_some, jm_pn, dd56 _ σ h]
theorem dd24 (e : Nat) (σ : jm_S) (h : ¬ σ.1 21 0 16 = 0) (x1 : Int32) : jm_ev (e + 4) (jM_readDisc, 24, rdF x1 none none none none, [], σ) = some (none, σ) := by
  rw [gM_readDisc_24, dd_must (e + 2) σ 1 h, Option.bind_some, jm_pn, gM_readDisc_29, dd_number (e + 1) σ 1 5 h, Option.bind_some, jm_ps, gM_readDisc_35, dd_sign (e + 1) σ 44 h, Option.bind_some, jm_pn, dd42 _ σ h]
theorem r_put71 (e : Nat) (σ : jm_S) {T : sS} (hR : rS (σ.1 25 1) T) (h6 : T.1 < 6) (h16 : σ.1 21 0 16 = 0) (k : Nat) (r : Int32 × Int32 × Int32) : ∃ σ', jm_ev e (jM_readDisc, 71, rdF (nI k) (some (jm_I r.1)) (some (jm_I r.2.1)) (some (jm_I r.2.2)) none, [], σ) = some (none, σ') ∧ rS (σ'.1 25 1) (pU T k r) ∧ jm_ag (fun k r => k == 25 && r == 1) σ σ' := by
  have i0 : (2 : Int32) + 4 * nI T.1 + 0 = nI (2 + 4 * T.1) := by rw [ix42, Int32.add_zero]
  have i1 : (2 : Int32) + 4 * nI T.1 + 1 = nI (2 + 4 * T.1 + 1) := by rw [ix42, nI_1]
  have i2 : (2 : Int32) + 4 * nI T.1 + 2 = nI (2 + 4 * T.1 + 2) := ixK T.1
  have i3 : (2 : Int32) + 4 * nI T.1 + 3 = nI (2 + 4 * T.1 + 3) := by rw [ix42, nI_3]
  have hv : (jm_wi (jm_wi (jm_wi (jm_wi σ 25 1 (2 + 4 * T.1) (nI k)) 25 1 (2 + 4 * T.1 + 1) r.1) 25 1 (2 + 4 * T.1 + 2) r.2.1) 25 1 (2 + 4 * T.1 + 3) r.2.2).1 25 1 0 + 1 = nI (T.1 + 1) := by
    rw [jm_w_s, pk_un (by omega), jm_w_s, pk_un (by omega), jm_w_s, pk_un (by omega), jm_w_s, pk_un (by omega), hR.1, nI_1]
  refine ⟨jm_wi (jm_wi (jm_wi (jm_wi (jm_wi σ 25 1 (2 + 4 * T.1) (nI k)) 25 1 (2 + 4 * T.1 + 1) r.1) 25 1 (2 + 4 * T.1 + 2) r.2.1) 25 1 (2 + 4 * T.1 + 3) r.2.2) 25 1 0 (nI (T.1 + 1)), ?_, ?_, (((((jm_ag.wi rfl).tr (jm_ag.wi rfl)).tr (jm_ag.wi rfl)).tr (jm_ag.wi rfl)).tr (jm_ag.wi rfl))⟩
  · rw [gM_readDisc_71, jm_cf (fun h9 => h9 h16), hR.1, i0, i1, i2, i3, jm_in_nI (show 2 + 4 * T.1 < 26 by omega) (by decide), jm_in_nI (show 2 + 4 * T.1 + 1 < 26 by omega) (by decide), jm_in_nI (show 2 + 4 * T.1 + 2 < 26 by omega) (by decide), jm_in_nI (show 2 + 4 * T.1 + 3 < 26 by omega) (by decide), cond_true, cond_true, cond_true, cond_true, jm_cl (show 2 + 4 * T.1 < 2 ^ 31 by omega), jm_cl (show 2 + 4 * T.1 + 1 < 2 ^ 31 by omega), jm_cl (show 2 + 4 * T.1 + 2 < 2 ^ 31 by omega), jm_cl (show 2 + 4 * T.1 + 3 < 2 ^ 31 by omega), hv, gM_readDisc_141]
  · rw [jm_w_s, jm_w_s, jm_w_s, jm_w_s, jm_w_s]
    exact rS_push hR k r
theorem r_rd (e : Nat) (σ : jm_S) {q : PT} {a : Nat} {T : sS} (hT : rTq σ q) (h80 : q.1 ≤ 80) (hS : TS σ q a) (hk : ¬ pK (pB q a) = 0) (hR : rS (σ.1 25 1) T) (hT6 : T.1 ≤ 6) :
    (T.1 = 6 → ∃ σ', jm_call (e + 5) jM_readDisc [jm_R 21 0] σ = some (none, σ') ∧ rDd σ' (3, a) ∧ fZ σ σ') ∧
    (¬ T.1 = 6 → (∀ r, pD q (a + 1) = .inl r → ∃ σ', jm_call (e + 5) jM_readDisc [jm_R 21 0] σ = some (none, σ') ∧ TS σ' q r.2 ∧ rS (σ'.1 25 1) (pU T (pK (pB q a)) r.1) ∧ fZ σ σ') ∧ (∀ x, pD q (a + 1) = .inr x → ∃ σ', jm_call (e + 5) jM_readDisc [jm_R 21 0] σ = some (none, σ') ∧ rDd σ' x ∧ fZ σ σ')) := by
  obtain ⟨hal, h14, h15, h12⟩ := hS.let (pK_97 hk)
  have s0 : jm_call (e + 5) jM_readDisc [jm_R 21 0] σ = jm_ev (e + 4) (jM_readDisc, 7, [some (jm_R 21 0), none, none, none, none, none], [jm_I (nI (pK (pB q a)))], σ) := by
    rw [gM_readDisc_0, h15, r_kindBy, if_neg hk, Option.bind_some, jm_ps]
  constructor
  · intro h6
    have hd : rDd (rBl σ 3) (3, a) := rBl_d (f := 3) hS.1 (by omega) (by omega)
    refine ⟨rBl σ 3, ?_, hd, (rBl_f σ 3).z⟩
    rw [s0, gM_readDisc_7, hR.1, h6, jm_cf (fun h9 => h9 rfl), lv_bad (e + 3) σ 3 hS.2.1, Option.bind_some, jm_pn, dd24 e _ hd.ne]
  · intro h6
    obtain ⟨σ1, e1, e2, e3⟩ := r_must1 (e + 1) σ hT h80 (show a + 1 ≤ q.1 by omega) h12 hS.2.1
    obtain ⟨σ2, σ3, v1, f1, f2, f3, f4, f5⟩ := r_X e σ1 1 5 (c := 44) (Or.inl rfl) (e3.T hT) h80 e2
    have s1 : jm_call (e + 5) jM_readDisc [jm_R 21 0] σ = jm_ev (e + 4) (jM_readDisc, 42, rdF (nI (pK (pB q a))) (some (jm_I v1)) none none none, [], σ3) := by
      rw [s0, gM_readDisc_7, hR.1, jm_ct (show ¬ nI T.1 = 6 from fun h9 => h6 ((nI_eq (b := 6) (by omega) (by decide)).mp h9)), gM_readDisc_24, e1, Option.bind_some, jm_pn, gM_readDisc_29, f1, Option.bind_some, jm_ps, gM_readDisc_35, f2, Option.bind_some, jm_pn]
    have z3 : fR 17 σ σ3 := e3.tr f5
    cases hj : pX q 1 5 44 (a + 1) with
    | inr x =>
      have hD : pD q (a + 1) = .inr x := by unfold pD; rw [hj]; rfl
      have hd := f4 _ hj
      exact ⟨fun r h9 => (by rw [hD] at h9; cases h9), fun y h9 => (by rw [hD] at h9; cases h9; exact ⟨σ3, s1.trans (dd42 e σ3 hd.ne _ _), hd, z3.z⟩)⟩
    | inl j =>
      obtain ⟨hv1, hS3⟩ := f3 _ hj
      obtain ⟨σ4, σ5, v2, g1, g2, g3, g4, g5⟩ := r_X e σ3 0 40 (c := 44) (Or.inl rfl) (z3.T hT) h80 hS3
      have s2 : jm_call (e + 5) jM_readDisc [jm_R 21 0] σ = jm_ev (e + 4) (jM_readDisc, 56, rdF (nI (pK (pB q a))) (some (jm_I v1)) (some (jm_I v2)) none none, [], σ5) := by
        rw [s1, gM_readDisc_42, g1, Option.bind_some, jm_ps, gM_readDisc_49, g2, Option.bind_some, jm_pn]
      have z5 : fR 17 σ σ5 := z3.tr g5
      cases hkk : pX q 0 40 44 j.2 with
      | inr x =>
        have hD : pD q (a + 1) = .inr x := by unfold pD; rw [hj]; show pb (pX q 0 40 44 j.2) _ = _; rw [hkk]; rfl
        have hd := g4 _ hkk
        exact ⟨fun r h9 => (by rw [hD] at h9; cases h9), fun y h9 => (by rw [hD] at h9; cases h9; exact ⟨σ5, s2.trans (dd56 e σ5 hd.ne _ _ _), hd, z5.z⟩)⟩
      | inl k =>
        obtain ⟨hv2, hS5⟩ := g3 _ hkk
        obtain ⟨σ6, σ7, v3, i1, i2, i3, i4, i5⟩ := r_X e σ5 0 9 (c := 59) (Or.inr rfl) (z5.T hT) h80 hS5
        have s3 : jm_call (e + 5) jM_readDisc [jm_R 21 0] σ = jm_ev (e + 4) (jM_readDisc, 71, rdF (nI (pK (pB q a))) (some (jm_I v1)) (some (jm_I v2)) (some (jm_I v3)) none, [], σ7) := by
          rw [s2, gM_readDisc_56, i1, Option.bind_some, jm_ps, gM_readDisc_63, i2, Option.bind_some, jm_pn]
        have z7 : fR 17 σ σ7 := z5.tr i5
        cases hn : pX q 0 9 59 k.2 with
        | inr x =>
          have hD : pD q (a + 1) = .inr x := by unfold pD; rw [hj]; show pb (pX q 0 40 44 j.2) _ = _; rw [hkk]; show pb (pX q 0 9 59 k.2) _ = _; rw [hn]; rfl
          have hd := i4 _ hn
          exact ⟨fun r h9 => (by rw [hD] at h9; cases h9), fun y h9 => (by rw [hD] at h9; cases h9; exact ⟨σ7, s3.trans (dd71 _ σ7 hd.ne _ _ _ _), hd, z7.z⟩)⟩
        | inl n =>
          have hD : pD q (a + 1) = .inl ((j.1, k.1, n.1), n.2) := by unfold pD; rw [hj]; show pb (pX q 0 40 44 j.2) _ = _; rw [hkk]; show pb (pX q 0 9 59 k.2) _ = _; rw [hn]; rfl
          obtain ⟨hv3, hS7⟩ := i3 _ hn
          refine ⟨fun r h9 => ?_, fun y h9 => (by rw [hD] at h9; cases h9)⟩
          rw [hD] at h9
          cases h9
          obtain ⟨σ8, k1, k2, k3⟩ := r_put71 (e + 4) σ7 (z7.r5 hR) (by omega) hS7.2.1 (pK (pB q a)) (j.1, k.1, n.1)
          refine ⟨σ8, ?_, ?_, k2, z7.z.tr ⟨fun j _ => by rw [(k3 21 0 rfl).1], k3.mo (fun k r h9 => by simp only [C251, Bool.or_eq_false_iff] at h9; exact h9.2)⟩⟩
          · rw [s3, hv1, hv2, hv3]; exact k1
          · unfold TS at hS7 ⊢
            rw [(k3 21 0 rfl).1]
            exact hS7
