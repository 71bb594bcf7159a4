-- METHODS: byTurns, the reference
abbrev C252 : Nat → Nat → Bool := fun k r => k == 25 && r == 2
def tQ (b : Bool) (D : Nat) (T : sS) (a : Nat) : sS := if a < D then tP b T a else T
theorem tQ_1 (b : Bool) (D : Nat) (T : sS) (a : Nat) : (tQ b D T a).1 = T.1 := by unfold tQ; split <;> rfl
theorem tQ_2 (b : Bool) (D : Nat) (T : sS) (a : Nat) : (tQ b D T a).2.1 = T.2.1 := by unfold tQ; split <;> rfl
theorem tP_K {T : sS} (h : okK T) (b : Bool) (i : Nat) : okK (tP b T i) := ⟨h.1, fun d hd => by
  show (if 3 = uS b ∧ d = i then _ else T.2.2 3 d).toInt ≤ 5
  rw [if_neg (fun h9 => absurd h9.1 (by cases b <;> decide))]; exact h.2 d hd⟩
theorem tQ_K {T : sS} (h : okK T) (b : Bool) (D i : Nat) : okK (tQ b D T i) := by
  unfold tQ
  split
  · exact tP_K h b i
  · exact h
theorem ixK (i : Nat) : (2 : Int32) + 4 * nI i + 2 = nI (2 + 4 * i + 2) := by rw [ix42, show (2 : Int32) = nI 2 from rfl, nI_add]
theorem ixJ (i : Nat) : (2 : Int32) + 4 * nI i + 1 = nI (2 + 4 * i + 1) := by rw [ix42, nI_1]
theorem r_tP {σ : jm_S} {T : sS} (hT : rS (σ.1 25 2) T) (b : Bool) {a : Nat} (ha : a < T.1) : rS ((jm_wi σ 25 2 (2 + 4 * a + rOff (uS b)) (σ.1 25 2 (2 + 4 * a + rOff (uS b)) + mS b)).1 25 2) (tP b T a) := by
  have hrd : σ.1 25 2 (2 + 4 * a + rOff (uS b)) = T.2.2 (uS b) a := by
    cases b with
    | true => exact (hT.2.2 a ha).2.2.1
    | false => exact (hT.2.2 a ha).2.1
  rw [hrd, jm_w_s]
  exact rS_put hT (u := uS b) (i := a) (uS_4 b) _
theorem r_at4 (e : Nat) (σ : jm_S) {D : Nat} {T : sS} (hD : σ.1 25 0 0 = nI D) (hT : rS (σ.1 25 2) T) (hn : T.1 = D) (h6 : D ≤ 6) {a : Nat} (ha : a ≤ 6) (x2 x3 : Int32) : ∃ σ', jm_ev e (jM_afterTurns, 4, [some (jm_R 21 0), some (jm_I (nI a)), some (jm_I x2), some (jm_I x3), none], [], σ) = jm_ev e (jM_afterTurns, 30, [some (jm_R 21 0), some (jm_I (nI a)), some (jm_I x2), some (jm_I x3), none], [], σ') ∧ rS (σ'.1 25 2) (tQ true D T a) ∧ jm_ag C252 σ σ' := by
  unfold tQ
  rw [gM_afterTurns_4, hD]
  by_cases h : a < D
  · rw [jm_cf (nI_ge h (by omega)), ixK, jm_in_nI (show 2 + 4 * a + 2 < 26 by omega) (by decide), cond_true, cond_true, jm_cl (show 2 + 4 * a + 2 < 2 ^ 31 by omega), if_pos h]
    exact ⟨jm_wi σ 25 2 (2 + 4 * a + 2) (σ.1 25 2 (2 + 4 * a + 2) + 5), rfl, r_tP hT true (by omega), jm_ag.wi rfl⟩
  · rw [jm_ct (nI_le (by omega) (by omega)), if_neg h]
    exact ⟨σ, rfl, hT, jm_ag.rf⟩
theorem r_at30 (e : Nat) (σ : jm_S) {D : Nat} {T : sS} (hD : σ.1 25 0 0 = nI D) (hT : rS (σ.1 25 2) T) (hn : T.1 = D) (h6 : D ≤ 6) {a : Nat} (ha : a ≤ 6) (x1 x3 : Int32) : ∃ σ', jm_ev e (jM_afterTurns, 30, [some (jm_R 21 0), some (jm_I x1), some (jm_I (nI a)), some (jm_I x3), none], [], σ) = jm_ev e (jM_afterTurns, 56, [some (jm_R 21 0), some (jm_I x1), some (jm_I (nI a)), some (jm_I x3), none], [], σ') ∧ rS (σ'.1 25 2) (tQ false D T a) ∧ jm_ag C252 σ σ' := by
  unfold tQ
  rw [gM_afterTurns_30, hD]
  by_cases h : a < D
  · rw [jm_cf (nI_ge h (by omega)), ixJ, jm_in_nI (show 2 + 4 * a + 1 < 26 by omega) (by decide), cond_true, cond_true, jm_cl (show 2 + 4 * a + 1 < 2 ^ 31 by omega), if_pos h]
    exact ⟨jm_wi σ 25 2 (2 + 4 * a + 1) (σ.1 25 2 (2 + 4 * a + 1) + 1), rfl, r_tP hT false (by omega), jm_ag.wi rfl⟩
  · rw [jm_ct (nI_le (by omega) (by omega)), if_neg h]
    exact ⟨σ, rfl, hT, jm_ag.rf⟩
theorem r_at56 (e : Nat) (σ : jm_S) {D : Nat} {T : sS} (hD : σ.1 25 0 0 = nI D) (hT : rS (σ.1 25 2) T) (hn : T.1 = D) (h6 : D ≤ 6) {a : Nat} (ha : a ≤ 6) (x1 x2 : Int32) : ∃ σ', jm_ev e (jM_afterTurns, 56, [some (jm_R 21 0), some (jm_I x1), some (jm_I x2), some (jm_I (nI a)), none], [], σ) = jm_ev e (jM_afterTurns, 82, [some (jm_R 21 0), some (jm_I x1), some (jm_I x2), some (jm_I (nI a)), none], [], σ') ∧ rS (σ'.1 25 2) (tQ true D T a) ∧ jm_ag C252 σ σ' := by
  unfold tQ
  rw [gM_afterTurns_56, hD]
  by_cases h : a < D
  · rw [jm_cf (nI_ge h (by omega)), ixK, jm_in_nI (show 2 + 4 * a + 2 < 26 by omega) (by decide), cond_true, cond_true, jm_cl (show 2 + 4 * a + 2 < 2 ^ 31 by omega), if_pos h]
    exact ⟨jm_wi σ 25 2 (2 + 4 * a + 2) (σ.1 25 2 (2 + 4 * a + 2) + 5), rfl, r_tP hT true (by omega), jm_ag.wi rfl⟩
  · rw [jm_ct (nI_le (by omega) (by omega)), if_neg h]
    exact ⟨σ, rfl, hT, jm_ag.rf⟩
def t3 (S : sS) (a b c : Nat) : sS := tQ true S.1 (tQ false S.1 (tQ true S.1 S a) b) c
theorem t3_1 (S : sS) (a b c : Nat) : (t3 S a b c).1 = S.1 := by unfold t3; rw [tQ_1, tQ_1, tQ_1]
theorem t3_2 (S : sS) (a b c : Nat) : (t3 S a b c).2.1 = S.2.1 := by unfold t3; rw [tQ_2, tQ_2, tQ_2]
theorem r_after (e : Nat) (σ : jm_S) {S : sS} (hS : rS (σ.1 25 0) S) (hK : okK S) {a b c : Nat} (ha : a ≤ 6) (hb : b ≤ 6) (hc : c ≤ 6) : ∃ σ', jm_call (e + 6) jM_afterTurns [jm_R 21 0, jm_I (nI a), jm_I (nI b), jm_I (nI c)] σ = some (some (jm_I (nI (tE (t3 S a b c)))), σ') ∧ jm_ag Crs σ σ' ∧ f19 σ σ' := by
  have h6 := hK.1
  obtain ⟨σ1, e1, e2, e3⟩ := r_layThen (e + 4) σ h6 hS
  have d1 : σ1.1 25 0 0 = nI S.1 := by rw [(e2 25 0 rfl).1]; exact hS.1
  obtain ⟨σ2, f1, f2, f3⟩ := r_at4 (e + 5) σ1 d1 e3 rfl h6 ha (nI b) (nI c)
  have d2 : σ2.1 25 0 0 = nI S.1 := by rw [(f3 25 0 rfl).1]; exact d1
  obtain ⟨σ3, g1, g2, g3⟩ := r_at30 (e + 5) σ2 d2 f2 (tQ_1 _ _ _ _) h6 hb (nI a) (nI c)
  have d3 : σ3.1 25 0 0 = nI S.1 := by rw [(g3 25 0 rfl).1]; exact d2
  obtain ⟨σ4, i1, i2, i3⟩ := r_at56 (e + 5) σ3 d3 g2 (by rw [tQ_1, tQ_1]) h6 hc (nI a) (nI b)
  have a4 : jm_ag C252 σ σ4 := ((e2.tr f3).tr g3).tr i3
  have d4 : σ4.1 25 0 0 = nI S.1 := by rw [(a4 25 0 rfl).1]; exact hS.1
  have m4 : σ4.1 25 0 1 = (t3 S a b c).2.1 := by rw [t3_2, (a4 25 0 rfl).1]; exact hS.2.1
  obtain ⟨σ5, k1, k2, k3, k4⟩ := r_belowOf e σ4 2 (S := t3 S a b c) (tQ_K (tQ_K (tQ_K hK _ _ _) _ _ _) _ _ _) i2 (t3 S a b c).2.1
  have d5 : σ5.1 25 0 0 = nI S.1 := by rw [(k4 25 0 rfl).1]; exact d4
  refine ⟨σ5, ?_, (Cl2_rs a4).tr (C28_rs k4), fun j hj => by rw [k3 j hj, (a4 21 0 rfl).1]⟩
  show jm_call ((e + 5) + 1) jM_afterTurns _ _ = _
  rw [gM_afterTurns_0, e1, Option.bind_some, jm_pn, f1, g1, i1, gM_afterTurns_82, m4, k1, Option.bind_some, jm_ps, gM_afterTurns_96, k2, gM_afterTurns_116, gM_afterTurns_116, d5]
  unfold tE
  rw [t3_1]
  cases BS (t3 S a b c) (t3 S a b c).2.1 with
  | none => rw [jm_cf (show ¬ bI (none : Option Nat).isNone = 0 by decide)]
  | some v => rw [jm_ct (show bI (some v).isNone = 0 from rfl)]; rfl
-- the loops
def oR (o : Option Nat) : Int32 := match o with
  | none => -1000000
  | some c => nI c
def mn (o : Option Nat) (v : Nat) : Option Nat := match o with
  | none => some v
  | some c => if v < c then some v else some c
def mx (o : Option Nat) (v : Nat) : Option Nat := match o with
  | none => some v
  | some c => if c < v then some v else some c
def fo (h : Option Nat → Nat → Option Nat) (g : Nat → Nat) : Nat → Nat → Option Nat → Option Nat
  | 0, _, o => o
  | f + 1, k, o => fo h g f (k + 1) (h o (g k))
def le6 (o : Option Nat) : Prop := ∀ c, o = some c → c ≤ 6
theorem le6_mn {o : Option Nat} {v : Nat} (h : le6 o) (hv : v ≤ 6) : le6 (mn o v) := by
  intro c hc
  cases o with
  | none => cases hc; exact hv
  | some x =>
    have hc : (if v < x then some v else some x) = some c := hc
    split at hc
    · cases hc; exact hv
    · cases hc; exact h _ rfl
theorem le6_mx {o : Option Nat} {v : Nat} (h : le6 o) (hv : v ≤ 6) : le6 (mx o v) := by
  intro c hc
  cases o with
  | none => cases hc; exact hv
  | some x =>
    have hc : (if x < v then some v else some x) = some c := hc
    split at hc
    · cases hc; exact hv
    · cases hc; exact h _ rfl
theorem le6_fo {h : Option Nat → Nat → Option Nat} (hh : ∀ o v, le6 o → v ≤ 6 → le6 (h o v)) {g : Nat → Nat} (hg : ∀ i, g i ≤ 6) : ∀ f k o, le6 o → le6 (fo h g f k o)
  | 0, _, _, ho => ho
  | f + 1, k, o, ho => le6_fo hh hg f (k + 1) _ (hh _ _ ho (hg k))
theorem le6_getD {o : Option Nat} (h : le6 o) : o.getD 0 ≤ 6 := by
  cases o with
  | none => decide
  | some c => exact h c rfl
theorem oR_ne {c : Nat} (h : c ≤ 6) : ¬ oR (some c) = -1000000 := fun h9 => by
  have h8 := congrArg Int32.toInt h9
  have h7 : (oR (some c)).toInt = c := nI_toInt (by omega)
  rw [h7, show (-1000000 : Int32).toInt = -1000000 from rfl] at h8
  omega
theorem fo_mn {g : Nat → Nat} (hg : ∀ i, g i ≤ 6) : ∀ f k j, j ≤ k → fo mn g f k (some (tb true g k)) = some (tb true g (k + f))
  | 0, k, _, _ => rfl
  | f + 1, k, j, h => by
    show fo mn g f (k + 1) (mn (some (tb true g k)) (g k)) = _
    have : mn (some (tb true g k)) (g k) = some (tb true g (k + 1)) := by
      show (if g k < tb true g k then some (g k) else some (tb true g k)) = some (if g k < tb true g k then g k else tb true g k)
      split <;> rfl
    rw [this, fo_mn hg f (k + 1) 0 (Nat.zero_le _), show k + 1 + f = k + (f + 1) by omega]
theorem fo_mx {g : Nat → Nat} : ∀ f k, fo mx g f k (some (tb false g k)) = some (tb false g (k + f))
  | 0, k => rfl
  | f + 1, k => by
    show fo mx g f (k + 1) (mx (some (tb false g k)) (g k)) = _
    have : mx (some (tb false g k)) (g k) = some (tb false g (k + 1)) := by
      show (if tb false g k < g k then some (g k) else some (tb false g k)) = some (if tb false g k < g k then g k else tb false g k)
      split <;> rfl
    rw [this, fo_mx f (k + 1), show k + 1 + f = k + (f + 1) by omega]
theorem fo_mn0 {g : Nat → Nat} (hg : ∀ i, g i ≤ 6) {D : Nat} (hD : 1 ≤ D) : fo mn g D 0 none = some (tb true g D) := by
  obtain ⟨f, rfl⟩ : ∃ f, D = f + 1 := ⟨D - 1, by omega⟩
  show fo mn g f 1 (some (g 0)) = _
  have : some (g 0) = some (tb true g 1) := by
    show some (g 0) = some (if g 0 < 6 then g 0 else 6)
    have := hg 0
    split
    · rfl
    · congr 1; omega
  rw [this, fo_mn hg f 1 0 (by omega), Nat.add_comm]
theorem fo_mx0 {g : Nat → Nat} {D : Nat} (hD : 1 ≤ D) : fo mx g D 0 none = some (tb false g D) := by
  obtain ⟨f, rfl⟩ : ∃ f, D = f + 1 := ⟨D - 1, by omega⟩
  show fo mx g f 1 (some (g 0)) = _
  have : some (g 0) = some (tb false g 1) := by
    show some (g 0) = some (if 0 < g 0 then g 0 else 0)
    split
    · rfl
    · congr 1; omega
  rw [this, fo_mx f 1, Nat.add_comm]
theorem tb_cg {b : Bool} {g g' : Nat → Nat} : ∀ k, (∀ i, i < k → g i = g' i) → tb b g k = tb b g' k
  | 0, _ => rfl
  | k + 1, h => by
    show tm b (tb b g k) (g k) = tm b (tb b g' k) (g' k)
    rw [tb_cg k (fun i hi => h i (by omega)), h k (by omega)]
def lo (n l D : Nat) : Nat := if n ≤ l then D else 0
def ht (n l D : Nat) : Nat := if n ≤ l then 1 else D
def w2 (n : Nat) (S : sS) (a b : Nat) : Option Nat := fo mn (fun c => tE (t3 S a b c)) (ht n 2 S.1) (lo n 2 S.1) none
def w1 (n : Nat) (S : sS) (a : Nat) : Option Nat := fo mx (fun b => (w2 n S a b).getD 0) (ht n 1 S.1) (lo n 1 S.1) none
def w0 (n : Nat) (S : sS) : Option Nat := fo mn (fun a => (w1 n S a).getD 0) (ht n 0 S.1) (lo n 0 S.1) none
theorem t3_le {S : sS} (h6 : S.1 ≤ 6) (a b c : Nat) : tE (t3 S a b c) ≤ 6 := tE_le (by rw [t3_1]; exact h6)
theorem w2_le {n : Nat} {S : sS} (h6 : S.1 ≤ 6) (a b : Nat) : le6 (w2 n S a b) := le6_fo (fun _ _ => le6_mn) (fun c => t3_le h6 a b c) _ _ _ (fun c hc => by cases hc)
theorem w1_le {n : Nat} {S : sS} (h6 : S.1 ≤ 6) (a : Nat) : le6 (w1 n S a) := le6_fo (fun _ _ => le6_mx) (fun b => le6_getD (w2_le h6 a b)) _ _ _ (fun c hc => by cases hc)
theorem tQ_lt {b : Bool} {D : Nat} {T : sS} {i : Nat} (h : i < D) : tQ b D T i = tP b T i := if_pos h
theorem tQ_no {b : Bool} {D : Nat} {T : sS} : tQ b D T D = T := if_neg (Nat.lt_irrefl _)
theorem t3_D (S : sS) (a b : Nat) : t3 S a b S.1 = tQ false S.1 (tQ true S.1 S a) b := tQ_no
theorem w0_tv {n : Nat} {S : sS} (hn : n ≤ 3) (h6 : S.1 ≤ 6) (h1 : 1 ≤ S.1) : w0 n S = some (tv n true S) := by
  have hw2 : ∀ a b, n ≤ 2 → (w2 n S a b).getD 0 = tE (tQ false S.1 (tQ true S.1 S a) b) := fun a b h => by
    unfold w2 ht lo
    rw [if_pos h, if_pos h]
    show tE (t3 S a b S.1) = _
    rw [t3_D]
  have hw1 : ∀ a, n ≤ 1 → (w1 n S a).getD 0 = tE (tQ true S.1 S a) := fun a h => by
    unfold w1 ht lo
    rw [if_pos h, if_pos h]
    show (w2 n S a S.1).getD 0 = _
    rw [hw2 a S.1 (by omega), tQ_no]
  have hwb : ∀ a, 1 < n → (w1 n S a).getD 0 = tb false (fun b => (w2 n S a b).getD 0) S.1 := fun a h => by
    unfold w1 ht lo
    rw [if_neg (by omega), if_neg (by omega), fo_mx0 h1]
    rfl
  have hwc : 2 < n → ∀ a b, (w2 n S a b).getD 0 = tb true (fun c => tE (t3 S a b c)) S.1 := fun h a b => by
    unfold w2 ht lo
    rw [if_neg (by omega), if_neg (by omega), fo_mn0 (fun c => t3_le h6 a b c) h1]
    rfl
  rcases (show n = 0 ∨ 0 < n by omega) with rfl | h
  · show some ((w1 0 S S.1).getD 0) = some (tE S)
    rw [hw1 S.1 (by omega), tQ_no]
  · have e0 : w0 n S = some (tb true (fun a => (w1 n S a).getD 0) S.1) := by
      unfold w0 ht lo
      rw [if_neg (by omega), if_neg (by omega), fo_mn0 (fun a => le6_getD (w1_le h6 a)) h1]
    rw [e0]
    rcases (show n = 1 ∨ n = 2 ∨ n = 3 by omega) with rfl | rfl | rfl
    · show _ = some (tb true (fun i => tE (tP true S i)) S.1)
      rw [tb_cg S.1 (fun a ha => (hw1 a (by omega)).trans (by rw [tQ_lt ha]))]
    · show _ = some (tb true (fun i => tb false (fun j => tE (tP false (tP true S i) j)) S.1) S.1)
      rw [tb_cg S.1 (fun a ha => (hwb a (by omega)).trans (tb_cg S.1 (fun b hb => (hw2 a b (by omega)).trans (by rw [tQ_lt ha, tQ_lt hb]))))]
    · show _ = some (tb true (fun i => tb false (fun j => tb true (fun k => tE (tP true (tP false (tP true S i) j) k)) S.1) S.1) S.1)
      rw [tb_cg S.1 (fun a ha => (hwb a (by omega)).trans (tb_cg S.1 (fun b hb => (hwc (by omega) a b).trans (tb_cg S.1 (fun c hc => by unfold t3; rw [tQ_lt ha, tQ_lt hb, tQ_lt hc])))))]
