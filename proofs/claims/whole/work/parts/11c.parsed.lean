-- METHODS: shaft, how the class reads: discs, law, all
theorem c_kindOf (e : Nat) (σ : jm_S) (x : Int32) : jm_call (e + 1) jR_kindOf [jm_I x] σ = some (some (jm_I (nI (pK x))), σ) := by
  have hq : ∀ (c : Int32) (n : Int), c.toInt = n → (x.toInt = n ↔ x = c) := fun c n h => by rw [← h]; exact Int32.toInt_inj
  unfold pK
  rw [gR_kindOf_0]
  by_cases h1 : x = 103
  · rw [jm_ct ((hq 103 103 rfl).mpr h1), if_pos h1]; rfl
  · rw [jm_cf (fun h9 => h1 ((hq 103 103 rfl).mp h9)), if_neg h1]
    by_cases h2 : x = 112
    · rw [jm_ct ((hq 112 112 rfl).mpr h2), if_pos h2]; rfl
    · rw [jm_cf (fun h9 => h2 ((hq 112 112 rfl).mp h9)), if_neg h2]
      by_cases h3 : x = 115
      · rw [jm_ct ((hq 115 115 rfl).mpr h3), if_pos h3]; rfl
      · rw [jm_cf (fun h9 => h3 ((hq 115 115 rfl).mp h9)), if_neg h3]
        by_cases h4 : x = 116
        · rw [jm_ct ((hq 116 116 rfl).mpr h4), if_pos h4]; rfl
        · rw [jm_cf (fun h9 => h4 ((hq 116 116 rfl).mp h9)), if_neg h4]
          by_cases h5 : x = 119
          · rw [jm_ct ((hq 119 119 rfl).mpr h5), if_pos h5]; rfl
          · rw [jm_cf (fun h9 => h5 ((hq 119 119 rfl).mp h9)), if_neg h5]; rfl
theorem pK_le (x : Int32) : pK x ≤ 5 := by unfold pK; split <;> (try split) <;> (try split) <;> (try split) <;> (try split) <;> omega
theorem pK_lt {q : PT} {a : Nat} (h : ¬ pK (pB q a) = 0) : a < q.1 := pB_lt rfl (fun h9 => h (by rw [h9]; decide))
def cQ (σ : jm_S) (T : sS) : Prop := σ.1 7 1 2 = T.2.1 ∧ ∀ w, w < 4 → ∀ i, i < T.1 → σ.1 9 (4 * 1 + w) i = T.2.2 w i
abbrev C579 : Nat → Nat → Bool := fun k r => k == 5 || (k == 7 && r == 1) || (k == 9 && (Nat.ble 4 r && Nat.blt r 8))
def cFz (σ σ' : jm_S) : Prop := (∀ j, j < 2 → σ'.1 5 0 j = σ.1 5 0 j) ∧ jm_ag C579 σ σ'
theorem cFz.tr {a b c : jm_S} (h : cFz a b) (h' : cFz b c) : cFz a c := ⟨fun j hj => (h'.1 j hj).trans (h.1 j hj), h.2.tr h'.2⟩
theorem cFd.z {d : Nat} {σ σ' : jm_S} (h : cFd d σ σ') : cFz σ σ' := ⟨h.1, h.2.1.mo (fun k r h9 => by simp only [C579, Bool.or_eq_false_iff] at h9; simp only [C59, Bool.or_eq_false_iff]; exact ⟨h9.1.1, h9.2⟩)⟩
theorem cFr.z {σ σ' : jm_S} (h : cFr σ σ') : cFz σ σ' := (h.d 0).z
theorem cFz.w7 {σ : jm_S} {i : Nat} {x : Int32} : cFz σ (jm_wi σ 7 1 i x) := ⟨fun _ _ => rfl, jm_ag.wi rfl⟩
theorem cFz.T {σ σ' : jm_S} {q : PT} (h : cFz σ σ') (hT : cTq σ q) : cTq σ' q := ⟨(h.1 1 (by omega)).trans hT.1, fun j hj => by rw [(h.2 6 0 rfl).1]; exact hT.2 j hj⟩
theorem pC_s (q : PT) (f : Nat) (T : sS) (a : Nat) : pC q (f + 1) T a = if a = q.1 ∧ 2 ≤ T.1 then .inl T else if pK (pB q a) = 0 then .inr (1, a) else if T.1 = 6 then .inr (3, a) else pb (pD q (a + 1)) fun r => pC q f (pU T (pK (pB q a)) r.1) r.2 := rfl
abbrev dF (d : Nat) (o3 : Option jm_V) : List (Option jm_V) := [some (jm_R 5 0), some (jm_R 7 1), some (jm_I (nI d)), o3]
theorem c_dl (e : Nat) {q : PT} (h80 : q.1 ≤ 80) : ∀ (f : Nat) (T : sS) (a : Nat) (σ : jm_S) (o3 : Option jm_V), T.1 + f = 7 → a ≤ q.1 → cTq σ q → σ.1 5 0 2 = nI a → cQ σ T →
    (∀ T', pC q f T a = .inl T' → ∃ σ', jm_ev (e + 3) (jR_readsDiscs, 2, dF T.1 o3, [], σ) = some (some (jm_I 1), σ') ∧ cS σ' 1 T' ∧ cFz σ σ') ∧
    (∀ x, pC q f T a = .inr x → 0 < f → ∃ σ', jm_ev (e + 3) (jR_readsDiscs, 2, dF T.1 o3, [], σ) = some (some (jm_I 0), σ') ∧ cFl σ' x ∧ cFz σ σ') := by
  intro f
  induction f with
  | zero => exact fun T a σ o3 h ha hT h2 hQ => ⟨fun T' h9 => (by cases h9), fun x _ h9 => absurd h9 (by omega)⟩
  | succ f ih =>
    intro T a σ o3 h ha hT h2 hQ
    have hT6 : T.1 ≤ 6 := by omega
    have h6 : ¬ (6 : Int32) < nI T.1 := nI_nlt (a := 6) (by omega) (by decide)
    rw [pC_s]
    by_cases hend : a = q.1 ∧ 2 ≤ T.1
    · rw [if_pos hend]
      refine ⟨fun T' h9 => ?_, fun x h9 => (by cases h9)⟩
      cases h9
      refine ⟨jm_wi σ 7 1 1 (nI T.1), ?_, ⟨rfl, hQ.1, hQ.2⟩, cFz.w7⟩
      rw [gR_readsDiscs_2, jm_cf h6, h2, hT.1, hend.1, jm_cf (fun h9 => h9 rfl), jm_cf (show ¬ nI T.1 < 2 from nI_nlt (b := 2) hend.2 (by omega))]
    · rw [if_neg hend]
      have s1 : jm_ev (e + 3) (jR_readsDiscs, 2, dF T.1 o3, [], σ) = jm_ev (e + 3) (jR_readsDiscs, 38, dF T.1 o3, [jm_I (nI (pK (pB q a)))], σ) := by
        have t1 : jm_ev (e + 3) (jR_readsDiscs, 31, dF T.1 o3, [], σ) = jm_ev (e + 3) (jR_readsDiscs, 38, dF T.1 o3, [jm_I (nI (pK (pB q a)))], σ) := by
          rw [gR_readsDiscs_31, c_byte (e + 2) σ hT h80 ha h2, Option.bind_some, jm_ps, gR_readsDiscs_35, c_kindOf (e + 2), Option.bind_some, jm_ps]
        rw [gR_readsDiscs_2, jm_cf h6, h2, hT.1, t1]
        by_cases han : a = q.1
        · rw [han, jm_cf (fun h9 => h9 rfl), jm_ct (show nI T.1 < 2 from nI_lt (b := 2) (by omega) (by decide))]
        · rw [jm_ct (show ¬ nI a = nI q.1 from fun h9 => han ((nI_eq (by omega) (by omega)).mp h9))]
      have hk5 := pK_le (pB q a)
      rw [s1, gR_readsDiscs_38]
      by_cases hk : pK (pB q a) = 0
      · rw [if_pos hk]
        refine ⟨fun T' h9 => (by cases h9), fun x h9 _ => ?_⟩
        cases h9
        refine ⟨jm_wi (jm_wi σ 5 0 4 (nI 1)) 5 0 5 (σ.1 5 0 2), ?_, (c_blame σ 1 h2).1, (c_blame σ 1 h2).2.z⟩
        rw [hk, jm_cf (fun h9 => h9 rfl), gR_blames_0, Option.bind_some, jm_ps, gR_readsDiscs_48, jm_b0, cond_true]
        rfl
      · rw [if_neg hk, jm_ct (nI_ne0 (by omega) (by omega))]
        have hal := pK_lt hk
        by_cases h7 : T.1 = 6
        · rw [if_pos h7]
          refine ⟨fun T' h9 => (by cases h9), fun x h9 _ => ?_⟩
          cases h9
          refine ⟨jm_wi (jm_wi σ 5 0 4 (nI 3)) 5 0 5 (σ.1 5 0 2), ?_, (c_blame σ 3 h2).1, (c_blame σ 3 h2).2.z⟩
          rw [h7, jm_cf (fun h9 => h9 rfl), gR_blames_0, Option.bind_some, jm_ps, gR_readsDiscs_60, jm_b0, cond_true]
          rfl
        · have hd : T.1 < 6 := by omega
          rw [if_neg h7, jm_ct (show ¬ nI T.1 = 6 from fun h9 => h7 ((nI_eq (b := 6) (by omega) (by decide)).mp h9)), jm_in_nI hd (by decide), cond_true, jm_cl (show T.1 < 2 ^ 31 by omega), h2, nI_1]
          have f0 : cFd T.1 σ (jm_wi (jm_wi σ 5 0 2 (nI (a + 1))) 9 (4 + 3) T.1 (nI (pK (pB q a)))) := (cFr.d (cFr.w (by omega)) T.1).tr (cFd.w (by omega))
          obtain ⟨g1, b1⟩ := c_rd e (jm_wi (jm_wi σ 5 0 2 (nI (a + 1))) 9 (4 + 3) T.1 (nI (pK (pB q a)))) (q := q) (a := a + 1) hd (f0.T hT) h80 hal rfl
          cases hD : pD q (a + 1) with
          | inr y =>
            obtain ⟨σ1, i1, i2, i3⟩ := b1 _ hD
            refine ⟨fun T' h9 => (by cases h9), fun x h9 _ => ?_⟩
            cases h9
            refine ⟨σ1, ?_, i2, (f0.tr i3).z⟩
            refine (congrArg (fun z => Option.bind z _) i1).trans ?_
            rw [Option.bind_some, jm_ps, gR_readsDiscs_86]
            rfl
          | inl r =>
            obtain ⟨σ1, i1, i2, i3, i4, i5, i6, i7, i8⟩ := g1 _ hD
            have hfr := f0.tr i8
            have hQ1 : cQ σ1 (pU T (pK (pB q a)) r.1) := by
              refine ⟨?_, fun w hw i hi => ?_⟩
              · rw [(hfr.2.1 7 1 rfl).1]; exact hQ.1
              · show σ1.1 9 (4 + w) i = if i = T.1 then (if w = 0 then r.1.1 else if w = 1 then r.1.2.1 else if w = 2 then r.1.2.2 else nI (pK (pB q a))) else T.2.2 w i
                by_cases hi1 : i = T.1
                · rw [if_pos hi1, hi1]
                  rcases (show w = 0 ∨ w = 1 ∨ w = 2 ∨ w = 3 by omega) with rfl | rfl | rfl | rfl
                  · exact i4
                  · exact i5
                  · exact i6
                  · refine i7.trans ?_
                    show (jm_wi (jm_wi σ 5 0 2 (nI (a + 1))) 9 (4 + 3) T.1 (nI (pK (pB q a)))).1 9 (4 + 3) T.1 = _
                    rw [jm_w_s, pk_us]
                    rfl
                · rw [if_neg hi1, hfr.2.2 _ _ hi1]
                  have hi' : i < T.1 + 1 := hi
                  exact hQ.2 w hw i (by omega)
            have hst : ∀ z, (jm_call (e + 3) jR_readsNumbers [jm_R 5 0, jm_R 7 1, jm_I (nI T.1)] (jm_wi (jm_wi σ 5 0 2 (nI (a + 1))) 9 (4 + 3) T.1 (nI (pK (pB q a))))).bind (fun p => jm_ev (e + 3) (jm_psh (jR_readsDiscs, 86, dF T.1 (some (jm_I (nI (pK (pB q a))))), [], z) p)) = jm_ev (e + 3) (jR_readsDiscs, 2, dF (T.1 + 1) (some (jm_I (nI (pK (pB q a))))), [], σ1) := fun z => by
              rw [i1, Option.bind_some, jm_ps, gR_readsDiscs_86, jm_ct (show ¬ (1 : Int32) = 0 by decide), nI_1]
            obtain ⟨u1, u2⟩ := ih (pU T (pK (pB q a)) r.1) r.2 σ1 (some (jm_I (nI (pK (pB q a))))) (by show T.1 + 1 + f = 7; omega) i3 (hfr.T hT) i2 hQ1
            refine ⟨fun T' h9 => ?_, fun x h9 _ => ?_⟩
            · obtain ⟨σ', v1, v2, v3⟩ := u1 T' h9
              exact ⟨σ', (hst _).trans v1, v2, hfr.z.tr v3⟩
            · obtain ⟨σ', v1, v2, v3⟩ := u2 x h9 (by omega)
              exact ⟨σ', (hst _).trans v1, v2, hfr.z.tr v3⟩
theorem law_hi : ∀ k, k < 21 → (if (200 : Int32) - 10 * nI k < 9 then 200 - 10 * nI k else 9) = if nI k = 20 then 0 else 9 := by decide +kernel
theorem c_law (e : Nat) (σ : jm_S) {q : PT} (hT : cTq σ q) (h80 : q.1 ≤ 80) (h2 : σ.1 5 0 2 = nI 0) :
    (∀ m, pW q = .inl m → ∃ σ', jm_call (e + 3) jR_readsLaw [jm_R 5 0, jm_R 7 1] σ = some (some (jm_I 1), σ') ∧ σ'.1 7 1 2 = m.1 ∧ σ'.1 5 0 2 = nI m.2 ∧ m.2 ≤ q.1 ∧ cFz σ σ') ∧
    (∀ x, pW q = .inr x → ∃ σ', jm_call (e + 3) jR_readsLaw [jm_R 5 0, jm_R 7 1] σ = some (some (jm_I 0), σ') ∧ cFl σ' x ∧ cFz σ σ') := by
  obtain ⟨σ1, e1, e2, e3, e4⟩ := c_sign e σ 109 hT h80 (Nat.zero_le _) h2
  have s1 : jm_call (e + 3) jR_readsLaw [jm_R 5 0, jm_R 7 1] σ = jm_ev (e + 2) (jR_readsLaw, 6, [some (jm_R 5 0), some (jm_R 7 1), none], [jm_I (okI (pS q 109 0))], σ1) := by
    rw [gR_readsLaw_0, e1, Option.bind_some, jm_ps]
  cases h1 : pS q 109 0 with
  | inr x =>
    have hW : pW q = .inr x := by unfold pW; rw [h1]; rfl
    refine ⟨fun m h9 => (by rw [hW] at h9; cases h9), fun y h9 => ?_⟩
    rw [hW] at h9
    cases h9
    refine ⟨σ1, ?_, e3 _ h1, e4.z⟩
    rw [s1, h1, gR_readsLaw_6, gR_readsLaw_19]
    rfl
  | inl a1 =>
    have p1 := pS_ok (by decide) h1
    obtain ⟨σ2, f1, f2, f3, f4⟩ := c_num e σ1 0 20 (e4.T hT) h80 p1 (e2 _ h1)
    have s2 : jm_call (e + 3) jR_readsLaw [jm_R 5 0, jm_R 7 1] σ = jm_ev (e + 2) (jR_readsLaw, 16, [some (jm_R 5 0), some (jm_R 7 1), none], [jm_I (okI (pN q 0 20 a1))], σ2) := by
      rw [s1, h1, gR_readsLaw_6]
      show cond (decide ((1 : Int32) = 0)) _ _ = _
      rw [jm_cf (show ¬ (1 : Int32) = 0 by decide), f1, Option.bind_some, jm_ps]
    cases h3 : pN q 0 20 a1 with
    | inr x =>
      have hW : pW q = .inr x := by unfold pW; rw [h1]; show pb (pX q 0 20 44 a1) _ = _; unfold pX; rw [h3]; rfl
      refine ⟨fun m h9 => (by rw [hW] at h9; cases h9), fun y h9 => ?_⟩
      rw [hW] at h9
      cases h9
      refine ⟨σ2, ?_, f3 _ h3, (e4.tr f4).z⟩
      rw [s2, h3, gR_readsLaw_16, gR_readsLaw_19]
      rfl
    | inl t =>
      obtain ⟨p2, p3, p4⟩ := pN_ok h3
      obtain ⟨q2, q3⟩ := f2 _ h3
      obtain ⟨σ3, g1, g2, g3, g4⟩ := c_sign e σ2 44 (f4.T (e4.T hT)) h80 p2 q2
      have s3 : jm_call (e + 3) jR_readsLaw [jm_R 5 0, jm_R 7 1] σ = jm_ev (e + 2) (jR_readsLaw, 35, [some (jm_R 5 0), some (jm_R 7 1), some (jm_I (10 * t.1))], [jm_I (okI (pS q 44 t.2))], σ3) := by
        rw [s2, h3, gR_readsLaw_16]
        show cond (decide (¬ (1 : Int32) = 0)) _ _ = _
        rw [jm_ct (show ¬ (1 : Int32) = 0 by decide), q3, g1, Option.bind_some, jm_ps]
      cases h4 : pS q 44 t.2 with
      | inr x =>
        have hW : pW q = .inr x := by unfold pW; rw [h1]; show pb (pX q 0 20 44 a1) _ = _; unfold pX; rw [h3]; show pb (pb (pS q 44 t.2) _) _ = _; rw [h4]; rfl
        refine ⟨fun m h9 => (by rw [hW] at h9; cases h9), fun y h9 => ?_⟩
        rw [hW] at h9
        cases h9
        refine ⟨σ3, ?_, g3 _ h4, ((e4.tr f4).tr g4).z⟩
        rw [s3, h4, gR_readsLaw_35, gR_readsLaw_56]
        rfl
      | inl a3 =>
        have p5 := pS_ok (by decide) h4
        have hX1 : pX q 0 20 44 a1 = .inl (t.1, a3) := by unfold pX; rw [h3]; show pb (pS q 44 t.2) _ = _; rw [h4]; rfl
        have hWs : pW q = pb (pX q 0 (if t.1 = 20 then 0 else 9) 59 a3) fun w => .inl (10 * t.1 + w.1, w.2) := by unfold pW; rw [h1]; show pb (pX q 0 20 44 a1) _ = _; rw [hX1]; rfl
        have hhi : (if (200 : Int32) - 10 * t.1 < 9 then 200 - 10 * t.1 else 9) = if t.1 = 20 then 0 else 9 := by
          obtain ⟨k, hk, hk2⟩ := jm_nI_of (x := t.1) (n := 21) p3 (by have : (20 : Int32).toInt = 20 := rfl; omega)
          rw [hk2]
          exact law_hi k hk
        obtain ⟨σ4, i1, i2, i3, i4⟩ := c_num e σ3 0 (if t.1 = 20 then 0 else 9) (g4.T (f4.T (e4.T hT))) h80 p5 (g2 _ h4)
        have s4 : jm_call (e + 3) jR_readsLaw [jm_R 5 0, jm_R 7 1] σ = jm_ev (e + 2) (jR_readsLaw, 53, [some (jm_R 5 0), some (jm_R 7 1), some (jm_I (10 * t.1))], [jm_I (okI (pN q 0 (if t.1 = 20 then 0 else 9) a3))], σ4) := by
          rw [s3, h4, gR_readsLaw_35]
          show cond (decide ((1 : Int32) = 0)) _ _ = _
          rw [jm_cf (show ¬ (1 : Int32) = 0 by decide), hhi, i1, Option.bind_some, jm_ps]
        cases h5 : pN q 0 (if t.1 = 20 then 0 else 9) a3 with
        | inr x =>
          have hW : pW q = .inr x := by rw [hWs]; unfold pX; rw [h5]; rfl
          refine ⟨fun m h9 => (by rw [hW] at h9; cases h9), fun y h9 => ?_⟩
          rw [hW] at h9
          cases h9
          refine ⟨σ4, ?_, i3 _ h5, (((e4.tr f4).tr g4).tr i4).z⟩
          rw [s4, h5, gR_readsLaw_53, gR_readsLaw_56]
          rfl
        | inl w =>
          obtain ⟨r2, r3⟩ := i2 _ h5
          have p6 := (pN_ok h5).1
          have z0 : cFz σ (jm_wi σ4 7 1 2 (10 * t.1 + w.1)) := ((((e4.tr f4).tr g4).tr i4).z).tr cFz.w7
          obtain ⟨σ5, k1, k2, k3, k4⟩ := c_sign e (jm_wi σ4 7 1 2 (10 * t.1 + w.1)) 59 (z0.T hT) h80 p6 r2
          have s5 : jm_call (e + 3) jR_readsLaw [jm_R 5 0, jm_R 7 1] σ = some (some (jm_I (okI (pS q 59 w.2))), σ5) := by
            rw [s4, h5, gR_readsLaw_53]
            show cond (decide (¬ (1 : Int32) = 0)) _ _ = _
            rw [jm_ct (show ¬ (1 : Int32) = 0 by decide), r3, k1, Option.bind_some, jm_ps, gR_readsLaw_74]
            cases pS q 59 w.2 <;> rfl
          cases h6 : pS q 59 w.2 with
          | inr x =>
            have hW : pW q = .inr x := by rw [hWs]; unfold pX; rw [h5]; show pb (pb (pS q 59 w.2) _) _ = _; rw [h6]; rfl
            refine ⟨fun m h9 => (by rw [hW] at h9; cases h9), fun y h9 => ?_⟩
            rw [hW] at h9
            cases h9
            refine ⟨σ5, ?_, k3 _ h6, z0.tr k4.z⟩
            rw [s5, h6]
            rfl
          | inl a5 =>
            have hW : pW q = .inl (10 * t.1 + w.1, a5) := by rw [hWs]; unfold pX; rw [h5]; show pb (pb (pS q 59 w.2) _) _ = _; rw [h6]; rfl
            refine ⟨fun m h9 => ?_, fun x h9 => (by rw [hW] at h9; cases h9)⟩
            rw [hW] at h9
            cases h9
            refine ⟨σ5, ?_, ?_, k2 _ h6, pS_ok (by decide) h6, z0.tr k4.z⟩
            · rw [s5, h6]; rfl
            · rw [(k4.2 7 1 rfl).1]; rfl
theorem c_reads (e : Nat) (σ : jm_S) {q : PT} (hT : cTq σ q) (h80 : q.1 ≤ 80) :
    (∀ T, pA q = .inl T → ∃ σ', jm_call (e + 5) jR_reads [jm_R 5 0, jm_R 7 1] σ = some (some (jm_I 1), σ') ∧ cS σ' 1 T ∧ cFz σ σ') ∧
    (∀ x, pA q = .inr x → ∃ σ', jm_call (e + 5) jR_reads [jm_R 5 0, jm_R 7 1] σ = some (some (jm_I 0), σ') ∧ cFl σ' x ∧ cFz σ σ') := by
  have z0 : cFz σ (jm_wi σ 5 0 2 0) := (cFr.w (by omega)).z
  obtain ⟨g1, b1⟩ := c_law (e + 1) (jm_wi σ 5 0 2 0) (z0.T hT) h80 rfl
  cases hW : pW q with
  | inr y =>
    have hA : pA q = .inr y := by unfold pA; rw [hW]; rfl
    refine ⟨fun T h9 => (by rw [hA] at h9; cases h9), fun x h9 => ?_⟩
    rw [hA] at h9
    cases h9
    obtain ⟨σ1, i1, i2, i3⟩ := b1 _ hW
    refine ⟨σ1, ?_, i2, z0.tr i3⟩
    rw [gR_reads_0, i1, Option.bind_some, jm_ps, gR_reads_10, jm_ct rfl, gR_reads_25, gR_reads_26]
    rfl
  | inl m =>
    have hA : pA q = pC q 7 (0, m.1, fun _ _ => 0) m.2 := by unfold pA; rw [hW]; rfl
    obtain ⟨σ1, i1, i2, i3, i4, i5⟩ := g1 _ hW
    have zz := z0.tr i5
    obtain ⟨u1, u2⟩ := c_dl e h80 7 (0, m.1, fun _ _ => 0) m.2 σ1 none rfl i4 (zz.T hT) i3 ⟨i2, fun w hw i hi => absurd hi (Nat.not_lt_zero i)⟩
    rw [hA]
    have s1 : ∀ (v : Int32) (σ' : jm_S), jm_ev (e + 3) (jR_readsDiscs, 2, dF 0 none, [], σ1) = some (some (jm_I v), σ') → (v = 0 ∨ v = 1) → jm_call (e + 5) jR_reads [jm_R 5 0, jm_R 7 1] σ = some (some (jm_I v), σ') := fun v σ' h9 hv => by
      have h8 : jm_call (e + 4) jR_readsDiscs [jm_R 5 0, jm_R 7 1] σ1 = some (some (jm_I v), σ') := (gR_readsDiscs_0 (e + 3) σ1 1).trans h9
      rw [gR_reads_0, i1, Option.bind_some, jm_ps, gR_reads_10, jm_cf (show ¬ (1 : Int32) = 0 by decide), h8, Option.bind_some, jm_ps, gR_reads_18, gR_reads_25, gR_reads_26, gR_reads_26]
      rcases hv with rfl | rfl <;> rfl
    refine ⟨fun T h9 => ?_, fun x h9 => ?_⟩
    · obtain ⟨σ', v1, v2, v3⟩ := u1 T h9
      exact ⟨σ', s1 1 σ' v1 (Or.inr rfl), v2, zz.tr v3⟩
    · obtain ⟨σ', v1, v2, v3⟩ := u2 x h9 (by omega)
      exact ⟨σ', s1 0 σ' v1 (Or.inl rfl), v2, zz.tr v3⟩
