-- METHODS: drawn
theorem bm64 {z : Int} (h0 : 0 ≤ z) (h1 : z < 9223372036854775808) : z.bmod (2 ^ 64) = z := by
  unfold Int.bmod
  dsimp only
  split <;> omega
theorem rem64 {x c : Int64} (hx : 0 ≤ x.toInt) (hc : 0 < c.toInt) : (x - x / c * c).toInt = x.toInt % c.toInt := by
  have hl := x.toInt_lt
  have hq0 : 0 ≤ x.toInt / c.toInt := Int.ediv_nonneg hx (by omega)
  have hq1 : x.toInt / c.toInt ≤ x.toInt := Int.ediv_le_self _ hx
  have hqc : x.toInt / c.toInt * c.toInt ≤ x.toInt := Int.ediv_mul_le _ (by omega)
  have hqc0 : 0 ≤ x.toInt / c.toInt * c.toInt := Int.mul_nonneg hq0 (by omega)
  have e1 : (x / c).toInt = x.toInt / c.toInt := by
    rw [Int64.toInt_div, Int.tdiv_eq_ediv_of_nonneg hx]
    exact bm64 hq0 (by omega)
  have e2 : (x / c * c).toInt = x.toInt / c.toInt * c.toInt := by
    rw [Int64.toInt_mul, e1]
    exact bm64 hqc0 (by omega)
  rw [Int64.toInt_sub, e2, Int.emod_def, Int.mul_comm c.toInt]
  exact bm64 (by omega) (by omega)
def nx (l : Int64) : Int64 := (l * 16807) - (l * 16807) / 2147483647 * 2147483647
theorem nx_d (l : Int64) : nx l = (l * 16807) - (l * 16807) / 2147483647 * 2147483647 := rfl
theorem nx_ok {l : Int64} (h0 : 0 ≤ l.toInt) (h1 : l.toInt < 2147483648) : 0 ≤ (nx l).toInt ∧ (nx l).toInt < 2147483648 := by
  have e : (l * 16807).toInt = l.toInt * 16807 := by
    rw [Int64.toInt_mul, show (16807 : Int64).toInt = 16807 from rfl]
    exact bm64 (by omega) (by omega)
  unfold nx
  rw [rem64 (by omega) (by decide), e, show (2147483647 : Int64).toInt = 2147483647 from rfl]
  omega
def dI (n : Nat) (l : Int64) : Int32 := (l - l / ((nI n).toInt64) * ((nI n).toInt64)).toInt32
theorem dI_ok {n : Nat} {l : Int64} (hn : 1 ≤ n) (h6 : n ≤ 6) (h0 : 0 ≤ l.toInt) : ∃ i, i < n ∧ dI n l = nI i := by
  have hc : (nI n).toInt64.toInt = n := by rw [jm_i64, nI_toInt (by omega)]
  have e := rem64 (x := l) (c := (nI n).toInt64) h0 (by omega)
  rw [hc] at e
  have hb0 : 0 ≤ l.toInt % (n : Int) := Int.emod_nonneg _ (by omega)
  have hb1 : l.toInt % (n : Int) < n := Int.emod_lt_of_pos _ (by omega)
  have e2 : (dI n l).toInt = l.toInt % (n : Int) := by
    unfold dI
    rw [Int64.toInt_toInt32, e]
    unfold Int.bmod
    dsimp only
    split <;> omega
  exact jm_nI_of (by omega) (by omega)
def v0 (l : Int64) : Int32 := ((l / 256) - (l / 256) / 5 * 5).toInt32 + 1
def v1 (l : Int64) : Int32 := ((l / 16) - (l / 16) / 41 * 41).toInt32
def dT (T : sS) (l : Int64) : sS := if lg_cmp (l - l / 3 * 3) 0 = 0 then sPut T 1 (dI T.1 l).toNatClampNeg (v1 l) else sPut T 0 (dI T.1 l).toNatClampNeg (v0 l)
theorem dT_1 (T : sS) (l : Int64) : (dT T l).1 = T.1 := by unfold dT; split <;> rfl
theorem dT_K {T : sS} (h : okK T) (l : Int64) : okK (dT T l) := by
  unfold dT
  split
  · exact ⟨h.1, fun d hd => by
      show (if 3 = 1 ∧ d = _ then _ else T.2.2 3 d).toInt ≤ 5
      rw [if_neg (fun h9 => absurd h9.1 (by decide))]; exact h.2 d hd⟩
  · exact ⟨h.1, fun d hd => by
      show (if 3 = 0 ∧ d = _ then _ else T.2.2 3 d).toInt ≤ 5
      rw [if_neg (fun h9 => absurd h9.1 (by decide))]; exact h.2 d hd⟩
theorem cS.put {σ : jm_S} {T : sS} (h : cS σ 1 T) {u i : Nat} (v : Int32) : cS (jm_wi σ 9 (4 + u) i v) 1 (sPut T u i v) := Tr.wr ⟨h.1, h.2.1, fun w hw d hd _ => h.2.2 w hw d hd⟩ v
theorem c_drawOne (e : Nat) (σ : jm_S) {T : sS} {l : Int64} (hs : cS σ 1 T) (hn : 1 ≤ T.1) (h6 : T.1 ≤ 6) (h0 : 0 ≤ l.toInt) : ∃ σ', jm_call (e + 2) jD_drawOne [jm_R 0 0, jm_L l] σ = some (none, σ') ∧ cS σ' 1 (dT T l) ∧ jm_ag Csc σ σ' := by
  obtain ⟨i, hi, hd⟩ := dI_ok hn h6 h0
  have hne : ¬ nI T.1 = 0 := nI_ne0 (by omega) (by omega)
  have hne64 : ¬ (nI T.1).toInt64 = 0 := fun h9 => by
    have := congrArg Int64.toInt h9
    rw [jm_i64, nI_toInt (by omega), show (0 : Int64).toInt = 0 from rfl] at this
    omega
  have hir : 0 ≤ (nI i).toInt ∧ (nI i).toInt < T.1 := by rw [nI_toInt (by omega)]; omega
  have hd' : (l - l / ((nI T.1).toInt64) * ((nI T.1).toInt64)).toInt32 = nI i := hd
  have hcl : (nI i).toNatClampNeg = i := jm_cl (by omega)
  unfold dT
  rw [gD_drawOne_0, hs.1, jm_ct hne, jm_ct hne64, hd', c_has _ σ 1 _ hs.1 h6, if_pos hir, Option.bind_some, jm_ps, gD_drawOne_31, jm_ct (by decide), jm_in_nI (show i < 6 by omega) (by decide), cond_true, cond_true, hcl, gD_drawOne_92, gD_drawOne_92, hd, hcl]
  by_cases h3 : lg_cmp (l - l / 3 * 3) 0 = 0
  · rw [jm_cf (fun h9 => h9 h3), if_pos h3]
    exact ⟨jm_wi σ 9 5 i (v1 l), by unfold v1; rfl, hs.put (u := 1) _, jm_ag.wi rfl⟩
  · rw [jm_ct h3, if_neg h3]
    exact ⟨jm_wi σ 9 4 i (v0 l), by unfold v0; rfl, hs.put (u := 0) _, jm_ag.wi rfl⟩
