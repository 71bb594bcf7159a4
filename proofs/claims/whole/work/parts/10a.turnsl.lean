-- METHODS: byTurns, the reference's loops
theorem hi_I (n l D : Nat) (x : Int32) (hx : x = nI l) (hn : n ≤ 3) (hl : l ≤ 3) {α : Type} (F : Int32 → α) : cond (decide (nI n ≤ x)) (F (nI D + 1)) (F (nI D)) = F (nI (lo n l D + ht n l D)) := by
  subst hx
  unfold lo ht
  by_cases h : n ≤ l
  · rw [jm_ct (nI_le h (by omega)), if_pos h, if_pos h, nI_1]
  · rw [jm_cf (nI_ge (by omega) (by omega)), if_neg h, if_neg h, Nat.zero_add]
theorem lo_I (n l D : Nat) (x : Int32) (hx : x = nI l) (hn : n ≤ 3) (hl : l ≤ 3) {α : Type} (F : Int32 → α) : cond (decide (nI n ≤ x)) (F (nI D)) (F 0) = F (nI (lo n l D)) := by
  subst hx
  unfold lo
  by_cases h : n ≤ l
  · rw [jm_ct (nI_le h (by omega)), if_pos h]
  · rw [jm_cf (nI_ge (by omega) (by omega)), if_neg h]; rfl
theorem hi_7 {n l D : Nat} (h : D ≤ 6) : lo n l D + ht n l D ≤ 7 := by unfold lo ht; split <;> omega
theorem ht_0 {n l D : Nat} (h : 1 ≤ D) : 0 < ht n l D := by unfold ht; split <;> omega
abbrev tF (n D : Nat) (x3 x4 : Int32) (o5 o6 o7 o8 o9 : Option jm_V) : List (Option jm_V) := [some (jm_R 21 0), some (jm_I (nI n)), some (jm_I (nI D)), some (jm_I x3), some (jm_I x4), o5, o6, o7, o8, o9]
theorem mx_I {o : Option Nat} {c : Nat} (ho : le6 o) (hc : c ≤ 6) {α : Type} (F : Int32 → α) : cond (decide (nI c ≤ oR o)) (F (oR o)) (F (nI c)) = F (oR (mx o c)) := by
  cases o with
  | none =>
    rw [jm_cf]
    · rfl
    · show ¬ nI c ≤ -1000000
      rw [jm_te32, nI_toInt (by omega), show (-1000000 : Int32).toInt = -1000000 from rfl]
      omega
  | some x =>
    have hx := ho x rfl
    show cond (decide (nI c ≤ nI x)) (F (nI x)) (F (nI c)) = F (oR (if x < c then some c else some x))
    by_cases h : x < c
    · rw [jm_cf (nI_ge h (by omega)), if_pos h]; rfl
    · rw [jm_ct (nI_le (by omega) (by omega)), if_neg h]; rfl
theorem mn_I {o : Option Nat} {v : Nat} (ho : le6 o) (hv : v ≤ 6) {α : Type} (F : Int32 → α) : cond (decide (oR o = -1000000)) (F (nI v)) (cond (decide (oR o ≤ nI v)) (F (oR o)) (F (nI v))) = F (oR (mn o v)) := by
  cases o with
  | none => rw [jm_ct (show oR none = -1000000 from rfl)]; rfl
  | some x =>
    have hx := ho x rfl
    rw [jm_cf (oR_ne hx)]
    show cond (decide (nI x ≤ nI v)) (F (nI x)) (F (nI v)) = F (oR (if v < x then some v else some x))
    by_cases h : v < x
    · rw [jm_cf (nI_ge h (by omega)), if_pos h]; rfl
    · rw [jm_ct (nI_le (by omega) (by omega)), if_neg h]; rfl
theorem r_L3 (σ0 : jm_S) {n : Nat} (hn : n ≤ 3) {S : sS} (hK : okK S) (hS0 : rS (σ0.1 25 0) S) {a b : Nat} (ha : a ≤ 6) (hb : b ≤ 6) (x3 : Int32) {o5 : Option Nat} (h5 : le6 o5) : ∀ (f k : Nat) (o : Option Nat) (o9 : Option jm_V) (σ : jm_S), k + f = lo n 2 S.1 + ht n 2 S.1 → le6 o → (o = none → 0 < f) → jm_ag Crs σ0 σ → f19 σ0 σ → ∃ (σ' : jm_S) (q7 q8 q9 : Option jm_V), jm_ev 59 (jM_byTurns, 116, tF n S.1 x3 (nI a) (some (jm_I (oR o5))) (some (jm_I (nI b))) (some (jm_I (oR o))) (some (jm_I (nI k))) o9, [], σ) = jm_ev 59 (jM_byTurns, 83, tF n S.1 x3 (nI a) (some (jm_I (oR (mx o5 ((fo mn (fun c => tE (t3 S a b c)) f k o).getD 0))))) (some (jm_I (nI (b + 1)))) q7 q8 q9, [], σ') ∧ jm_ag Crs σ0 σ' ∧ f19 σ0 σ' := by
  intro f
  induction f with
  | zero =>
    intro k o o9 σ h ho hne hag hf
    have h6 := hK.1
    have h7 := hi_7 (n := n) (l := 2) h6
    cases o with
    | none => exact absurd (hne rfl) (by omega)
    | some c =>
      refine ⟨σ, some (jm_I (nI c)), some (jm_I (nI k)), o9, ?_, hag, hf⟩
      rw [gM_byTurns_116, hi_I n 2 S.1 2 rfl hn (by omega) (fun x => jm_ev 59 (jM_byTurns, 130, [some (jm_R 21 0), some (jm_I (nI n)), some (jm_I (nI S.1)), some (jm_I x3), some (jm_I (nI a)), some (jm_I (oR o5)), some (jm_I (nI b)), some (jm_I (oR (some c))), some (jm_I (nI k)), o9], [jm_I x, jm_I (nI k)], σ)), gM_byTurns_130, jm_ct (nI_le (by omega) (by omega)), gM_byTurns_188, gM_byTurns_188, nI_1]
      exact mx_I h5 (ho c rfl) (fun x => jm_ev 59 (jM_byTurns, 83, [some (jm_R 21 0), some (jm_I (nI n)), some (jm_I (nI S.1)), some (jm_I x3), some (jm_I (nI a)), some (jm_I x), some (jm_I (nI (b + 1))), some (jm_I (nI c)), some (jm_I (nI k)), o9], [], σ))
  | succ f ih =>
    intro k o o9 σ h ho hne hag hf
    have h6 := hK.1
    have h7 := hi_7 (n := n) (l := 2) h6
    have hS : rS (σ.1 25 0) S := by rw [(hag 25 0 rfl).1]; exact hS0
    have hv : tE (t3 S a b k) ≤ 6 := t3_le h6 a b k
    obtain ⟨σ1, e1, e2, e3⟩ := r_after 53 σ hS hK ha hb (show k ≤ 6 by omega)
    obtain ⟨σ', q7, q8, q9, g1, g2, g3⟩ := ih (k + 1) (mn o (tE (t3 S a b k))) (some (jm_I (nI (tE (t3 S a b k))))) σ1 (by omega) (le6_mn ho hv) (fun h9 => by
      cases o with
      | none => cases h9
      | some x =>
        have h9 : (if tE (t3 S a b k) < x then some (tE (t3 S a b k)) else some x) = none := h9
        split at h9 <;> cases h9) (hag.tr e2) (f19.tr hf e3)
    refine ⟨σ', q7, q8, q9, ?_, g2, g3⟩
    refine Eq.trans ?_ g1
    rw [gM_byTurns_116, hi_I n 2 S.1 2 rfl hn (by omega) (fun x => jm_ev 59 (jM_byTurns, 130, [some (jm_R 21 0), some (jm_I (nI n)), some (jm_I (nI S.1)), some (jm_I x3), some (jm_I (nI a)), some (jm_I (oR o5)), some (jm_I (nI b)), some (jm_I (oR o)), some (jm_I (nI k)), o9], [jm_I x, jm_I (nI k)], σ)), gM_byTurns_130, jm_cf (nI_ge (show k < lo n 2 S.1 + ht n 2 S.1 by omega) (by omega)), e1, Option.bind_some, jm_ps, gM_byTurns_143, gM_byTurns_159, gM_byTurns_166, gM_byTurns_166, nI_1]
    exact mn_I ho hv (fun x => jm_ev 59 (jM_byTurns, 116, [some (jm_R 21 0), some (jm_I (nI n)), some (jm_I (nI S.1)), some (jm_I x3), some (jm_I (nI a)), some (jm_I (oR o5)), some (jm_I (nI b)), some (jm_I x), some (jm_I (nI (k + 1))), some (jm_I (nI (tE (t3 S a b k))))], [], σ1))
theorem mx_some (o : Option Nat) (v : Nat) : ∃ c, mx o v = some c := by
  cases o with
  | none => exact ⟨v, rfl⟩
  | some x =>
    show ∃ c, (if x < v then some v else some x) = some c
    split <;> exact ⟨_, rfl⟩
theorem mn_some (o : Option Nat) (v : Nat) : ∃ c, mn o v = some c := by
  cases o with
  | none => exact ⟨v, rfl⟩
  | some x =>
    show ∃ c, (if v < x then some v else some x) = some c
    split <;> exact ⟨_, rfl⟩
theorem r_L2 (σ0 : jm_S) {n : Nat} (hn : n ≤ 3) {S : sS} (hK : okK S) (h1 : 1 ≤ S.1) (hS0 : rS (σ0.1 25 0) S) {a : Nat} (ha : a ≤ 6) {o3 : Option Nat} (h3 : le6 o3) : ∀ (f b : Nat) (o : Option Nat) (q7 q8 q9 : Option jm_V) (σ : jm_S), b + f = lo n 1 S.1 + ht n 1 S.1 → le6 o → (o = none → 0 < f) → jm_ag Crs σ0 σ → f19 σ0 σ → ∃ (σ' : jm_S) (p5 p6 p7 p8 p9 : Option jm_V), jm_ev 59 (jM_byTurns, 83, tF n S.1 (oR o3) (nI a) (some (jm_I (oR o))) (some (jm_I (nI b))) q7 q8 q9, [], σ) = jm_ev 59 (jM_byTurns, 51, tF n S.1 (oR (mn o3 ((fo mx (fun b => (w2 n S a b).getD 0) f b o).getD 0))) (nI (a + 1)) p5 p6 p7 p8 p9, [], σ') ∧ jm_ag Crs σ0 σ' ∧ f19 σ0 σ' := by
  intro f
  induction f with
  | zero =>
    intro b o q7 q8 q9 σ h ho hne hag hf
    have h6 := hK.1
    have h7 := hi_7 (n := n) (l := 1) h6
    cases o with
    | none => exact absurd (hne rfl) (by omega)
    | some c =>
      refine ⟨σ, some (jm_I (nI c)), some (jm_I (nI b)), q7, q8, q9, ?_, hag, hf⟩
      rw [gM_byTurns_83, hi_I n 1 S.1 1 rfl hn (by omega) (fun x => jm_ev 59 (jM_byTurns, 97, [some (jm_R 21 0), some (jm_I (nI n)), some (jm_I (nI S.1)), some (jm_I (oR o3)), some (jm_I (nI a)), some (jm_I (oR (some c))), some (jm_I (nI b)), q7, q8, q9], [jm_I x, jm_I (nI b)], σ)), gM_byTurns_97, jm_ct (nI_le (by omega) (by omega)), gM_byTurns_208, gM_byTurns_214, gM_byTurns_214, nI_1]
      exact mn_I h3 (ho c rfl) (fun x => jm_ev 59 (jM_byTurns, 51, [some (jm_R 21 0), some (jm_I (nI n)), some (jm_I (nI S.1)), some (jm_I x), some (jm_I (nI (a + 1))), some (jm_I (nI c)), some (jm_I (nI b)), q7, q8, q9], [], σ))
  | succ f ih =>
    intro b o q7 q8 q9 σ h ho hne hag hf
    have h6 := hK.1
    have h7 := hi_7 (n := n) (l := 1) h6
    obtain ⟨σ1, r7, r8, r9, e1, e2, e3⟩ := r_L3 σ0 hn hK hS0 ha (show b ≤ 6 by omega) (oR o3) ho (ht n 2 S.1) (lo n 2 S.1) none q9 σ (by omega) (fun c hc => by cases hc) (fun _ => ht_0 h1) hag hf
    obtain ⟨σ', p5, p6, p7, p8, p9, g1, g2, g3⟩ := ih (b + 1) (mx o ((w2 n S a b).getD 0)) r7 r8 r9 σ1 (by omega) (le6_mx ho (le6_getD (w2_le h6 a b))) (fun h9 => by
      obtain ⟨c, hc⟩ := mx_some o ((w2 n S a b).getD 0)
      rw [hc] at h9; cases h9) e2 e3
    refine ⟨σ', p5, p6, p7, p8, p9, ?_, g2, g3⟩
    refine Eq.trans ?_ g1
    refine Eq.trans ?_ e1
    rw [gM_byTurns_83, hi_I n 1 S.1 1 rfl hn (by omega) (fun x => jm_ev 59 (jM_byTurns, 97, [some (jm_R 21 0), some (jm_I (nI n)), some (jm_I (nI S.1)), some (jm_I (oR o3)), some (jm_I (nI a)), some (jm_I (oR o)), some (jm_I (nI b)), q7, q8, q9], [jm_I x, jm_I (nI b)], σ)), gM_byTurns_97, jm_cf (nI_ge (show b < lo n 1 S.1 + ht n 1 S.1 by omega) (by omega)), gM_byTurns_114, gM_byTurns_114]
    exact lo_I n 2 S.1 2 rfl hn (by omega) (fun x => jm_ev 59 (jM_byTurns, 116, [some (jm_R 21 0), some (jm_I (nI n)), some (jm_I (nI S.1)), some (jm_I (oR o3)), some (jm_I (nI a)), some (jm_I (oR o)), some (jm_I (nI b)), some (jm_I (-1000000)), some (jm_I x), q9], [], σ))
theorem r_L1 (σ0 : jm_S) {n : Nat} (hn : n ≤ 3) {S : sS} (hK : okK S) (h1 : 1 ≤ S.1) (hS0 : rS (σ0.1 25 0) S) : ∀ (f a : Nat) (o : Option Nat) (q5 q6 q7 q8 q9 : Option jm_V) (σ : jm_S), a + f = lo n 0 S.1 + ht n 0 S.1 → le6 o → jm_ag Crs σ0 σ → f19 σ0 σ → ∃ (σ' : jm_S), jm_ev 59 (jM_byTurns, 51, tF n S.1 (oR o) (nI a) q5 q6 q7 q8 q9, [], σ) = some (some (jm_I (oR (fo mn (fun a => (w1 n S a).getD 0) f a o))), σ') ∧ jm_ag Crs σ0 σ' ∧ f19 σ0 σ' := by
  intro f
  induction f with
  | zero =>
    intro a o q5 q6 q7 q8 q9 σ h ho hag hf
    have h6 := hK.1
    have h7 := hi_7 (n := n) (l := 0) h6
    refine ⟨σ, ?_, hag, hf⟩
    rw [gM_byTurns_51, hi_I n 0 S.1 0 rfl hn (by omega) (fun x => jm_ev 59 (jM_byTurns, 64, [some (jm_R 21 0), some (jm_I (nI n)), some (jm_I (nI S.1)), some (jm_I (oR o)), some (jm_I (nI a)), q5, q6, q7, q8, q9], [jm_I x, jm_I (nI a)], σ)), gM_byTurns_64, jm_ct (nI_le (by omega) (by omega))]
    rfl
  | succ f ih =>
    intro a o q5 q6 q7 q8 q9 σ h ho hag hf
    have h6 := hK.1
    have h7 := hi_7 (n := n) (l := 0) h6
    obtain ⟨σ1, r5, r6, r7, r8, r9, e1, e2, e3⟩ := r_L2 σ0 hn hK h1 hS0 (show a ≤ 6 by omega) ho (ht n 1 S.1) (lo n 1 S.1) none q7 q8 q9 σ (by omega) (fun c hc => by cases hc) (fun _ => ht_0 h1) hag hf
    obtain ⟨σ', g1, g2, g3⟩ := ih (a + 1) (mn o ((w1 n S a).getD 0)) r5 r6 r7 r8 r9 σ1 (by omega) (le6_mn ho (le6_getD (w1_le h6 a))) e2 e3
    refine ⟨σ', ?_, g2, g3⟩
    refine Eq.trans ?_ g1
    refine Eq.trans ?_ e1
    rw [gM_byTurns_51, hi_I n 0 S.1 0 rfl hn (by omega) (fun x => jm_ev 59 (jM_byTurns, 64, [some (jm_R 21 0), some (jm_I (nI n)), some (jm_I (nI S.1)), some (jm_I (oR o)), some (jm_I (nI a)), q5, q6, q7, q8, q9], [jm_I x, jm_I (nI a)], σ)), gM_byTurns_64, jm_cf (nI_ge (show a < lo n 0 S.1 + ht n 0 S.1 by omega) (by omega)), gM_byTurns_81, gM_byTurns_81]
    exact lo_I n 1 S.1 1 rfl hn (by omega) (fun x => jm_ev 59 (jM_byTurns, 83, [some (jm_R 21 0), some (jm_I (nI n)), some (jm_I (nI S.1)), some (jm_I (oR o)), some (jm_I (nI a)), some (jm_I (-1000000)), some (jm_I x), q7, q8, q9], [], σ))
theorem P_byTurns {A : aS} (hA : okA A) (x : Int32) : Pair A jD_byTurns jM_byTurns [jm_I x] := by
  have h6 := hA.2.2.1.1
  have go : ∀ v, (∀ σ, cRel σ A → jm_call 60 jD_byTurns [jm_R 0 0, jm_I x] σ = some (some (jm_I v), σ)) → (∀ σ, rRel σ A → jm_call 60 jM_byTurns [jm_R 21 0, jm_I x] σ = some (some (jm_I v), jm_wi σ 21 0 0 0)) → Pair A jD_byTurns jM_byTurns [jm_I x] := fun v h1 h2 => ⟨jm_I v, A, hA, fun σ hc => ⟨σ, h1 σ hc, hc, jm_ag.rf⟩, fun σ hr => ⟨jm_wi σ 21 0 0 0, h2 σ hr, hr.th 0, jm_ag.wi rfl⟩⟩
  have z0 : (0 : Int32).toInt = 0 := rfl
  have z3 : (3 : Int32).toInt = 3 := rfl
  by_cases h0 : (aSh A).1 = 0
  · refine go (-1000002) (fun σ hc => ?_) (fun σ hr => ?_)
    · rw [gD_byTurns_0, hc.2.2.1.1, h0, jm_cf (fun h9 => h9 rfl)]
    · rw [gM_byTurns_0, r_isThere 58 _ (hr.th 0).2.2.1.1 h6, if_pos h0, Option.bind_some, jm_ps, gM_byTurns_9, jm_cf (fun h9 => h9 rfl)]
  have hne : ¬ nI (aSh A).1 = 0 := nI_ne0 (by omega) (by omega)
  by_cases hx : 0 ≤ x.toInt ∧ x.toInt ≤ (3 : Nat)
  case neg =>
    refine go (-1000001) (fun σ hc => ?_) (fun σ hr => ?_)
    · rw [gD_byTurns_0, hc.2.2.1.1, jm_ct hne, gD_byTurns_22]
      by_cases a : x < 0
      · rw [jm_ct a]
      · rw [jm_cf a, jm_cf]
        rw [jm_ti32] at a
        rw [jm_te32]
        omega
    · rw [gM_byTurns_0, r_isThere 58 _ (hr.th 0).2.2.1.1 h6, if_neg h0, Option.bind_some, jm_ps, gM_byTurns_9, jm_ct (by decide), r_inK 58 _ _ 3 (n := 3) rfl, if_neg hx, Option.bind_some, jm_ps, gM_byTurns_24, jm_cf (fun h9 => h9 rfl)]
  obtain ⟨n, hn, rfl⟩ := jm_nI_of (x := x) (n := 4) hx.1 (by omega)
  refine ⟨jm_I (nI (tv n true (aSh A))), A, hA, fun σ hc => ?_, fun σ hr => ?_⟩
  · obtain ⟨σ1, e1, e2, e3⟩ := c_takeFrom 58 σ (r0 := 1) (r1 := 0) (by omega) h6 hc.2.2.1
    have m1 : jm_ag Csc σ σ1 := e2.mo (fun g r h8 => by
      simp only [Csc, Bool.or_eq_false_iff] at h8
      simp only [Ctf, Bool.or_eq_false_iff]
      exact ⟨h8.1.2, h8.2⟩)
    obtain ⟨σ', g1, g2, g3⟩ := c_turned n (54 - n) true (aSh A) σ1 (by omega) h6 e3
    rw [show 54 - n + 5 + n = 59 by omega] at g1
    refine ⟨σ', ?_, hc.sc (m1.tr g3), Csc_cl (m1.tr g3)⟩
    rw [gD_byTurns_0, hc.2.2.1.1, jm_ct hne, jm_cf (nI_pos (by omega)), jm_ct (show nI n ≤ 3 from nI_le (b := 3) (by omega) (by decide)), e1, Option.bind_some, jm_pn, gD_byTurns_36, show jm_I (1 : Int32) = jm_I (bI true) from rfl, g1, Option.bind_some, jm_ps, gD_byTurns_42]
  · have hr' := hr.th 0
    obtain ⟨σ', g1, g2, g3⟩ := r_L1 (jm_wi σ 21 0 0 0) (n := n) (by omega) hA.2.2.1.K (by omega) hr'.2.2.1 (ht n 0 (aSh A).1) (lo n 0 (aSh A).1) none none none none none none (jm_wi σ 21 0 0 0) rfl (fun c hc => by cases hc) jm_ag.rf f19.rf
    refine ⟨σ', ?_, hr'.sc g2 g3.live, (jm_ag.wi rfl).tr (Crs_rf g2)⟩
    have hw : fo mn (fun a => (w1 n (aSh A) a).getD 0) (ht n 0 (aSh A).1) (lo n 0 (aSh A).1) none = some (tv n true (aSh A)) := w0_tv (by omega) h6 (by omega)
    rw [hw] at g1
    rw [gM_byTurns_0, r_isThere 58 _ hr'.2.2.1.1 h6, if_neg h0, Option.bind_some, jm_ps, gM_byTurns_9, jm_ct (by decide), r_inK 58 _ _ 3 (n := 3) rfl, if_pos hx, Option.bind_some, jm_ps, gM_byTurns_24, jm_ct (by decide), gM_byTurns_49, gM_byTurns_49, hr'.2.2.1.1]
    refine Eq.trans ?_ g1
    exact lo_I n 0 (aSh A).1 0 rfl (by omega) (by omega) (fun x => jm_ev 59 (jM_byTurns, 51, [some (jm_R 21 0), some (jm_I (nI n)), some (jm_I (nI (aSh A).1)), some (jm_I (-1000000)), some (jm_I x), none, none, none, none, none], [], jm_wi σ 21 0 0 0))
