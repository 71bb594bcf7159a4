-- METHODS: shaft, how the class reads
def pX (q : PT) (lo hi c : Int32) (a : Nat) : PO (Int32 × Nat) := pb (pN q lo hi a) fun r => pb (pS q c r.2) fun a' => .inl (r.1, a')
def pD (q : PT) (a : Nat) : PO ((Int32 × Int32 × Int32) × Nat) := pb (pX q 1 5 44 a) fun j => pb (pX q 0 40 44 j.2) fun k => pb (pX q 0 9 59 k.2) fun n => .inl ((j.1, k.1, n.1), n.2)
def pK (x : Int32) : Nat := if x = 103 then 2 else if x = 112 then 1 else if x = 115 then 5 else if x = 116 then 4 else if x = 119 then 3 else 0
def pU (T : sS) (k : Nat) (r : Int32 × Int32 × Int32) : sS := (T.1 + 1, T.2.1, fun w i => if i = T.1 then (if w = 0 then r.1 else if w = 1 then r.2.1 else if w = 2 then r.2.2 else nI k) else T.2.2 w i)
def pC (q : PT) : Nat → sS → Nat → PO sS
  | 0, _, a => .inr (1, a)
  | f + 1, T, a => if a = q.1 ∧ 2 ≤ T.1 then .inl T else if pK (pB q a) = 0 then .inr (1, a) else if T.1 = 6 then .inr (3, a) else pb (pD q (a + 1)) fun r => pC q f (pU T (pK (pB q a)) r.1) r.2
def pW (q : PT) : PO (Int32 × Nat) := pb (pS q 109 0) fun a1 => pb (pX q 0 20 44 a1) fun t => pb (pX q 0 (if t.1 = 20 then 0 else 9) 59 t.2) fun w => .inl (10 * t.1 + w.1, w.2)
def pA (q : PT) : PO sS := pb (pW q) fun m => pC q 7 (0, m.1, fun _ _ => 0) m.2
theorem pS_ok {q : PT} {c : Int32} {a a' : Nat} (hc : ¬ c = -1) (h : pS q c a = .inl a') : a' ≤ q.1 := by
  unfold pS at h
  by_cases h9 : pB q a = c
  · rw [if_pos h9] at h
    cases h
    exact pB_lt h9 hc
  · rw [if_neg h9] at h; cases h
theorem pN_ok {q : PT} {lo hi : Int32} {a : Nat} {r : Int32 × Nat} (h : pN q lo hi a = .inl r) : r.2 ≤ q.1 ∧ lo.toInt ≤ r.1.toInt ∧ r.1.toInt ≤ hi.toInt := by
  unfold pN at h
  by_cases h1 : pL q a = 0 ∨ pL q a = 3
  · rw [if_pos h1] at h; cases h
  · rw [if_neg h1] at h
    by_cases h2 : lo.toInt ≤ (pV q a).toInt ∧ (pV q a).toInt ≤ hi.toInt
    · rw [if_pos h2] at h
      cases h
      refine ⟨?_, h2⟩
      show a + pL q a ≤ q.1
      unfold pL at h1 ⊢
      cases e0 : pF q a with
      | false => rw [e0] at h1; exact absurd (Or.inl rfl) h1
      | true =>
        have := pF_lt e0
        cases e1 : pF q (a + 1) with
        | false => exact this
        | true =>
          have := pF_lt e1
          cases e2 : pF q (a + 2) with
          | false => exact this
          | true => exact pF_lt e2
    · rw [if_neg h2] at h; cases h
theorem pX_ok {q : PT} {lo hi c : Int32} {a : Nat} {r : Int32 × Nat} (hc : ¬ c = -1) (h : pX q lo hi c a = .inl r) : r.2 ≤ q.1 ∧ lo.toInt ≤ r.1.toInt ∧ r.1.toInt ≤ hi.toInt := by
  unfold pX at h
  cases h1 : pN q lo hi a with
  | inr x => rw [h1] at h; cases h
  | inl s =>
    rw [h1] at h
    have h : pb (pS q c s.2) (fun a' => .inl (s.1, a')) = .inl r := h
    cases h2 : pS q c s.2 with
    | inr x => rw [h2] at h; cases h
    | inl b =>
      rw [h2] at h
      cases h
      exact ⟨pS_ok hc h2, (pN_ok h1).2⟩
abbrev C59 : Nat → Nat → Bool := fun k r => k == 5 || (k == 9 && (Nat.ble 4 r && Nat.blt r 8))
def cFd (d : Nat) (σ σ' : jm_S) : Prop := (∀ j, j < 2 → σ'.1 5 0 j = σ.1 5 0 j) ∧ jm_ag C59 σ σ' ∧ ∀ w i, i ≠ d → σ'.1 9 w i = σ.1 9 w i
theorem cFd.tr {d : Nat} {a b c : jm_S} (h : cFd d a b) (h' : cFd d b c) : cFd d a c := ⟨fun j hj => (h'.1 j hj).trans (h.1 j hj), h.2.1.tr h'.2.1, fun w i hi => (h'.2.2 w i hi).trans (h.2.2 w i hi)⟩
theorem C59_9 {w : Nat} (hw : w < 4) : C59 9 (4 + w) = true := by
  rcases (show w = 0 ∨ w = 1 ∨ w = 2 ∨ w = 3 by omega) with rfl | rfl | rfl | rfl <;> rfl
theorem cFr.d {σ σ' : jm_S} (h : cFr σ σ') (d : Nat) : cFd d σ σ' := ⟨h.1, h.2.mo (fun k r h9 => by simp only [C59, Bool.or_eq_false_iff] at h9; exact h9.1), fun w i _ => by rw [(h.2 9 w rfl).1]⟩
theorem cFd.w {σ : jm_S} {w d : Nat} {x : Int32} (hw : w < 4) : cFd d σ (jm_wi σ 9 (4 + w) d x) := ⟨fun j hj => rfl, jm_ag.wi (C59_9 hw), fun w' i hi => by
  by_cases h9 : w' = 4 + w
  · subst h9; rw [jm_w_s, pk_un hi]
  · rw [jm_w_n _ _ _ (fun h8 => h9 h8.2)]⟩
theorem cFd.T {d : Nat} {σ σ' : jm_S} {q : PT} (h : cFd d σ σ') (hT : cTq σ q) : cTq σ' q := ⟨(h.1 1 (by omega)).trans hT.1, fun j hj => by rw [(h.2.1 6 0 rfl).1]; exact hT.2 j hj⟩
abbrev rN (d w : Nat) : List (Option jm_V) := [some (jm_R 5 0), some (jm_R 7 1), some (jm_I (nI d)), some (jm_I (nI w))]
theorem c_rn (e : Nat) (σ : jm_S) {q : PT} {a w d : Nat} {lo hi c : Int32} (hw : w < 3) (hd : d < 6) (hlo : (jm_tb 40).getD w 0 = lo) (hhi : (jm_tb 41).getD w 0 = hi) (hc : c = if w = 2 then 59 else 44) (hT : cTq σ q) (h80 : q.1 ≤ 80) (ha : a ≤ q.1) (h2 : σ.1 5 0 2 = nI a) :
    (∀ r, pX q lo hi c a = .inl r → ∃ σ', jm_ev (e + 2) (jR_readsNumbers, 2, rN d w, [], σ) = jm_ev (e + 2) (jR_readsNumbers, 2, rN d (w + 1), [], σ') ∧ σ'.1 5 0 2 = nI r.2 ∧ σ'.1 9 (4 + w) d = r.1 ∧ cFd d σ σ' ∧ ∀ w', w' ≠ w → σ'.1 9 (4 + w') d = σ.1 9 (4 + w') d) ∧
    (∀ x, pX q lo hi c a = .inr x → ∃ σ', jm_ev (e + 2) (jR_readsNumbers, 2, rN d w, [], σ) = some (some (jm_I 0), σ') ∧ cFl σ' x ∧ cFd d σ σ') := by
  obtain ⟨σ1, e1, e2, e3, e4⟩ := c_num e σ lo hi hT h80 ha h2
  have hcn : ¬ c = -1 := by rw [hc]; split <;> decide
  have s1 : jm_ev (e + 2) (jR_readsNumbers, 2, rN d w, [], σ) = jm_ev (e + 2) (jR_readsNumbers, 21, rN d w, [jm_I (okI (pN q lo hi a))], σ1) := by
    rw [gR_readsNumbers_2, jm_cf (show ¬ (2 : Int32) < nI w from nI_nlt (a := 2) (by omega) (by decide)), jm_in_nI (show w < 4 by omega) (by decide), cond_true, cond_true, jm_cl (show w < 2 ^ 31 by omega), hlo, hhi, e1, Option.bind_some, jm_ps]
  cases hN : pN q lo hi a with
  | inr x =>
    have hX : pX q lo hi c a = .inr x := by unfold pX; rw [hN]; rfl
    refine ⟨fun r h9 => (by rw [hX] at h9; cases h9), fun y h9 => ?_⟩
    rw [hX] at h9
    cases h9
    refine ⟨σ1, ?_, e3 _ hN, e4.d d⟩
    rw [s1, hN, gR_readsNumbers_21]
    rfl
  | inl s =>
    obtain ⟨p1, p2⟩ := e2 s hN
    have hp := (pN_ok hN).1
    obtain ⟨σ2, f1, f2, f3, f4⟩ := c_sign e (jm_wi σ1 9 (4 + w) d s.1) c ((cFd.w (by omega)).T (e4.T hT)) h80 hp p1
    have s2 : jm_ev (e + 2) (jR_readsNumbers, 2, rN d w, [], σ) = jm_ev (e + 2) (jR_readsNumbers, 54, rN d w, [jm_I (okI (pS q c s.2))], σ2) := by
      rw [s1, hN, gR_readsNumbers_21]
      show cond (decide (¬ (1 : Int32) = 0)) _ _ = _
      rw [jm_ct (show ¬ (1 : Int32) = 0 by decide), jm_in_nI (show w < 4 by omega) (by decide), jm_in_nI (show d < 6 by omega) (by decide), cond_true, cond_true, jm_cl (show w < 2 ^ 31 by omega), jm_cl (show d < 2 ^ 31 by omega), gR_readsNumbers_51, gR_readsNumbers_51, p2]
      have hcc : cond (decide (¬ nI w = 2)) ((jm_call (e + 2) jR_readsSign [jm_R 5 0, jm_I 44] (jm_wi σ1 9 (4 * 1 + w) d s.1)).bind fun q => jm_ev (e + 2) (jm_psh (jR_readsNumbers, 54, rN d w, [], jm_wi σ1 9 (4 * 1 + w) d s.1) q)) ((jm_call (e + 2) jR_readsSign [jm_R 5 0, jm_I 59] (jm_wi σ1 9 (4 * 1 + w) d s.1)).bind fun q => jm_ev (e + 2) (jm_psh (jR_readsNumbers, 54, rN d w, [], jm_wi σ1 9 (4 * 1 + w) d s.1) q)) = (jm_call (e + 2) jR_readsSign [jm_R 5 0, jm_I c] (jm_wi σ1 9 (4 + w) d s.1)).bind fun q => jm_ev (e + 2) (jm_psh (jR_readsNumbers, 54, rN d w, [], jm_wi σ1 9 (4 + w) d s.1) q) := by
        by_cases hw2 : w = 2
        · subst hw2
          rw [hc, jm_cf (fun h9 => h9 rfl)]
          rfl
        · rw [hc, if_neg hw2, jm_ct (show ¬ nI w = 2 from fun h9 => hw2 ((nI_eq (b := 2) (by omega) (by decide)).mp h9))]
      refine hcc.trans ?_
      rw [f1, Option.bind_some, jm_ps]
    have hfr : cFd d σ σ2 := ((e4.d d).tr (cFd.w (by omega))).tr (f4.d d)
    cases hS : pS q c s.2 with
    | inr x =>
      have hX : pX q lo hi c a = .inr x := by unfold pX; rw [hN]; show pb (pS q c s.2) _ = _; rw [hS]; rfl
      refine ⟨fun r h9 => (by rw [hX] at h9; cases h9), fun y h9 => ?_⟩
      rw [hX] at h9
      cases h9
      refine ⟨σ2, ?_, f3 _ hS, hfr⟩
      rw [s2, hS, gR_readsNumbers_54]
      rfl
    | inl b =>
      have hX : pX q lo hi c a = .inl (s.1, b) := by unfold pX; rw [hN]; show pb (pS q c s.2) _ = _; rw [hS]; rfl
      refine ⟨fun r h9 => ?_, fun x h9 => (by rw [hX] at h9; cases h9)⟩
      rw [hX] at h9
      cases h9
      refine ⟨σ2, ?_, f2 _ hS, ?_, hfr, fun w' hw' => ?_⟩
      · rw [s2, hS, gR_readsNumbers_54]
        show cond (decide (¬ (1 : Int32) = 0)) _ _ = _
        rw [jm_ct (show ¬ (1 : Int32) = 0 by decide), nI_1]
      · rw [(f4.2 9 _ rfl).1, jm_w_s, pk_us]
      · rw [(f4.2 9 _ rfl).1, jm_w_n _ _ _ (fun h8 => hw' (by omega)), (e4.2 9 _ rfl).1]
/-- the numbers of a disc -/
theorem c_rd (e : Nat) (σ : jm_S) {q : PT} {a d : Nat} (hd : d < 6) (hT : cTq σ q) (h80 : q.1 ≤ 80) (ha : a ≤ q.1) (h2 : σ.1 5 0 2 = nI a) :
    (∀ r, pD q a = .inl r → ∃ σ', jm_call (e + 3) jR_readsNumbers [jm_R 5 0, jm_R 7 1, jm_I (nI d)] σ = some (some (jm_I 1), σ') ∧ σ'.1 5 0 2 = nI r.2 ∧ r.2 ≤ q.1 ∧ σ'.1 9 4 d = r.1.1 ∧ σ'.1 9 5 d = r.1.2.1 ∧ σ'.1 9 6 d = r.1.2.2 ∧ σ'.1 9 7 d = σ.1 9 7 d ∧ cFd d σ σ') ∧
    (∀ x, pD q a = .inr x → ∃ σ', jm_call (e + 3) jR_readsNumbers [jm_R 5 0, jm_R 7 1, jm_I (nI d)] σ = some (some (jm_I 0), σ') ∧ cFl σ' x ∧ cFd d σ σ') := by
  have s0 : jm_call (e + 3) jR_readsNumbers [jm_R 5 0, jm_R 7 1, jm_I (nI d)] σ = jm_ev (e + 2) (jR_readsNumbers, 2, rN d 0, [], σ) := gR_readsNumbers_0 (e + 2) σ 1 (nI d)
  obtain ⟨g1, b1⟩ := c_rn e σ (q := q) (a := a) (w := 0) (d := d) (lo := 1) (hi := 5) (c := 44) (by omega) hd rfl rfl rfl hT h80 ha h2
  cases h1 : pX q 1 5 44 a with
  | inr x =>
    have hD : pD q a = .inr x := by unfold pD; rw [h1]; rfl
    refine ⟨fun r h9 => (by rw [hD] at h9; cases h9), fun y h9 => ?_⟩
    rw [hD] at h9
    cases h9
    obtain ⟨σ', i1, i2, i3⟩ := b1 _ h1
    exact ⟨σ', s0.trans i1, i2, i3⟩
  | inl j =>
    obtain ⟨σ1, i1, i2, i3, i4, i5⟩ := g1 _ h1
    have p1 := (pX_ok (by decide) h1).1
    obtain ⟨g2, b2⟩ := c_rn e σ1 (q := q) (a := j.2) (w := 1) (d := d) (lo := 0) (hi := 40) (c := 44) (by omega) hd rfl rfl rfl (i4.T hT) h80 p1 i2
    cases h3 : pX q 0 40 44 j.2 with
    | inr x =>
      have hD : pD q a = .inr x := by unfold pD; rw [h1]; show pb (pX q 0 40 44 j.2) _ = _; rw [h3]; rfl
      refine ⟨fun r h9 => (by rw [hD] at h9; cases h9), fun y h9 => ?_⟩
      rw [hD] at h9
      cases h9
      obtain ⟨σ', k1, k2, k3⟩ := b2 _ h3
      exact ⟨σ', s0.trans (i1.trans k1), k2, i4.tr k3⟩
    | inl k =>
      obtain ⟨σ2, k1, k2, k3, k4, k5⟩ := g2 _ h3
      have p2 := (pX_ok (by decide) h3).1
      obtain ⟨g3, b3⟩ := c_rn e σ2 (q := q) (a := k.2) (w := 2) (d := d) (lo := 0) (hi := 9) (c := 59) (by omega) hd rfl rfl rfl (k4.T (i4.T hT)) h80 p2 k2
      cases h4 : pX q 0 9 59 k.2 with
      | inr x =>
        have hD : pD q a = .inr x := by unfold pD; rw [h1]; show pb (pX q 0 40 44 j.2) _ = _; rw [h3]; show pb (pX q 0 9 59 k.2) _ = _; rw [h4]; rfl
        refine ⟨fun r h9 => (by rw [hD] at h9; cases h9), fun y h9 => ?_⟩
        rw [hD] at h9
        cases h9
        obtain ⟨σ', l1, l2, l3⟩ := b3 _ h4
        exact ⟨σ', s0.trans (i1.trans (k1.trans l1)), l2, (i4.tr k4).tr l3⟩
      | inl n =>
        have hD : pD q a = .inl ((j.1, k.1, n.1), n.2) := by unfold pD; rw [h1]; show pb (pX q 0 40 44 j.2) _ = _; rw [h3]; show pb (pX q 0 9 59 k.2) _ = _; rw [h4]; rfl
        refine ⟨fun r h9 => ?_, fun x h9 => (by rw [hD] at h9; cases h9)⟩
        rw [hD] at h9
        cases h9
        obtain ⟨σ3, l1, l2, l3, l4, l5⟩ := g3 _ h4
        refine ⟨σ3, ?_, l2, (pX_ok (by decide) h4).1, ?_, ?_, l3, ?_, (i4.tr k4).tr l4⟩
        · rw [s0, i1, k1, l1, gR_readsNumbers_2]; rfl
        · exact (l5 0 (by omega)).trans ((k5 0 (by omega)).trans i3)
        · exact (l5 1 (by omega)).trans k3
        · exact (l5 3 (by omega)).trans ((k5 3 (by omega)).trans (i5 3 (by omega)))
