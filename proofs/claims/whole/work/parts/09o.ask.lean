-- METHODS: ask
def T1 (σ : jm_S) (n : Nat) (c : Int32) : jm_S := jm_wi (jm_wi σ 20 0 n c) 0 0 11 (nI (n + 1))
def U1 (σ : jm_S) (n : Nat) (c : Int32) : jm_S := jm_wi (jm_wi σ 32 0 n c) 21 0 25 (nI (n + 1))
theorem T1_11 (σ : jm_S) (n : Nat) (c : Int32) : (T1 σ n c).1 0 0 11 = nI (n + 1) := by unfold T1; rw [jm_w_s, pk_us]
theorem T1_9 (σ : jm_S) (n : Nat) (c : Int32) : (T1 σ n c).1 9 = σ.1 9 := rfl
theorem U1_25 (σ : jm_S) (n : Nat) (c : Int32) : (U1 σ n c).1 21 0 25 = nI (n + 1) := by unfold U1; rw [jm_w_s, pk_us]
theorem U1_9 (σ : jm_S) (n : Nat) (c : Int32) : (U1 σ n c).1 25 = σ.1 25 := rfl
theorem c_leave (e : Nat) (σ : jm_S) (c : Int32) {n : Nat} (hn : σ.1 0 0 11 = nI n) (h : n < 16) : jm_call (e + 1) jD_leaveTrace [jm_R 0 0, jm_I c] σ = some (none, T1 σ n c) := by
  rw [gD_leaveTrace_0, hn, jm_cf (show ¬ (16 : Int32) ≤ nI n from nI_ge (b := 16) h (by decide)), jm_in_nI h (by decide), cond_true, jm_cl (by omega), nI_1, gD_leaveTrace_29]
  rfl
theorem r_began (e : Nat) (σ : jm_S) (c : Int32) {n : Nat} (hn : σ.1 21 0 25 = nI n) (h : n < 16) : jm_call (e + 1) jM_began [jm_R 21 0, jm_I c] σ = some (none, U1 σ n c) := by
  rw [gM_began_0, hn, jm_cf (show ¬ (16 : Int32) ≤ nI n from nI_ge (b := 16) h (by decide)), jm_in_nI h (by decide), cond_true, jm_cl (by omega), nI_1, gM_began_29]
  rfl
theorem L10 (e : Nat) (σ : jm_S) {n t d : Nat} (hn : σ.1 0 0 11 = nI n) (h16 : n + 1 ≤ 16) (ht : t + 1 ≤ 13) (hd : d < 6) : jm_call (e + 2) jD_answerOf [jm_R 0 0, jm_I 10, jm_I (nI d), jm_I (nI t)] σ = some (some (jm_I (σ.1 9 1 d)), T1 σ n 10) := by
  rw [gD_answerOf_0, jm_ct (show nI t ≤ 12 from nI_le (b := 12) (by omega) (by decide)), c_leave _ σ 10 hn (by omega), Option.bind_some, jm_pn, gD_answerOf_13, jm_ct (show (10 : Int32).toInt = 10 by decide), jm_in_nI hd (by decide), cond_true, jm_cl (by omega), T1_9]
theorem L20 (e : Nat) (σ : jm_S) {n t d : Nat} (hn : σ.1 0 0 11 = nI n) (h16 : n + 1 ≤ 16) (ht : t + 1 ≤ 13) (hd : d < 6) : jm_call (e + 2) jD_answerOf [jm_R 0 0, jm_I 20, jm_I (nI d), jm_I (nI t)] σ = some (some (jm_I (nI d)), T1 σ n 20) := by
  rw [gD_answerOf_0, jm_ct (show nI t ≤ 12 from nI_le (b := 12) (by omega) (by decide)), c_leave _ σ 20 hn (by omega), Option.bind_some, jm_pn, gD_answerOf_13, jm_cf (show ¬ (20 : Int32).toInt = 10 by decide), jm_cf (show ¬ (20 : Int32).toInt = 11 by decide), jm_cf (show ¬ (20 : Int32).toInt = 12 by decide), jm_cf (show ¬ (20 : Int32).toInt = 13 by decide), jm_cf (show ¬ (20 : Int32).toInt = 14 by decide), jm_cf (show ¬ (20 : Int32).toInt = 15 by decide), jm_cf (show ¬ (20 : Int32).toInt = 16 by decide), jm_cf (show ¬ (20 : Int32).toInt = 17 by decide), jm_cf (show ¬ (20 : Int32).toInt = 18 by decide), jm_cf (show ¬ (20 : Int32).toInt = 19 by decide), jm_ct (show (20 : Int32).toInt = 20 by decide)]
theorem L21 (e : Nat) (σ : jm_S) {n t d : Nat} (hn : σ.1 0 0 11 = nI n) (h16 : n + 2 ≤ 16) (ht : t + 2 ≤ 13) (hd : d < 6) : jm_call (e + 3) jD_answerOf [jm_R 0 0, jm_I 21, jm_I (nI d), jm_I (nI t)] σ = some (some (jm_I (nI d + σ.1 9 0 d)), T1 (T1 σ n 21) (n + 1) 20) := by
  rw [gD_answerOf_0, jm_ct (show nI t ≤ 12 from nI_le (b := 12) (by omega) (by decide)), c_leave _ σ 21 hn (by omega), Option.bind_some, jm_pn, gD_answerOf_13, jm_cf (show ¬ (21 : Int32).toInt = 10 by decide), jm_cf (show ¬ (21 : Int32).toInt = 11 by decide), jm_cf (show ¬ (21 : Int32).toInt = 12 by decide), jm_cf (show ¬ (21 : Int32).toInt = 13 by decide), jm_cf (show ¬ (21 : Int32).toInt = 14 by decide), jm_cf (show ¬ (21 : Int32).toInt = 15 by decide), jm_cf (show ¬ (21 : Int32).toInt = 16 by decide), jm_cf (show ¬ (21 : Int32).toInt = 17 by decide), jm_cf (show ¬ (21 : Int32).toInt = 18 by decide), jm_cf (show ¬ (21 : Int32).toInt = 19 by decide), jm_cf (show ¬ (21 : Int32).toInt = 20 by decide), jm_ct (show (21 : Int32).toInt = 21 by decide), nI_1, L20 _ (T1 σ n 21) (n := n + 1) (t := t + 1) (d := d) (T1_11 _ _ _) (by omega) (by omega) hd, Option.bind_some, jm_ps, gD_answerOf_170, jm_in_nI hd (by decide), cond_true, jm_cl (by omega), T1_9, T1_9]
theorem L22 (e : Nat) (σ : jm_S) {n t d : Nat} (hn : σ.1 0 0 11 = nI n) (h16 : n + 3 ≤ 16) (ht : t + 3 ≤ 13) (hd : d < 6) : jm_call (e + 4) jD_answerOf [jm_R 0 0, jm_I 22, jm_I (nI d), jm_I (nI t)] σ = some (some (jm_I (nI d + σ.1 9 0 d - 1000)), T1 (T1 (T1 σ n 22) (n + 1) 21) (n + 2) 20) := by
  rw [gD_answerOf_0, jm_ct (show nI t ≤ 12 from nI_le (b := 12) (by omega) (by decide)), c_leave _ σ 22 hn (by omega), Option.bind_some, jm_pn, gD_answerOf_13, jm_cf (show ¬ (22 : Int32).toInt = 10 by decide), jm_cf (show ¬ (22 : Int32).toInt = 11 by decide), jm_cf (show ¬ (22 : Int32).toInt = 12 by decide), jm_cf (show ¬ (22 : Int32).toInt = 13 by decide), jm_cf (show ¬ (22 : Int32).toInt = 14 by decide), jm_cf (show ¬ (22 : Int32).toInt = 15 by decide), jm_cf (show ¬ (22 : Int32).toInt = 16 by decide), jm_cf (show ¬ (22 : Int32).toInt = 17 by decide), jm_cf (show ¬ (22 : Int32).toInt = 18 by decide), jm_cf (show ¬ (22 : Int32).toInt = 19 by decide), jm_cf (show ¬ (22 : Int32).toInt = 20 by decide), jm_cf (show ¬ (22 : Int32).toInt = 21 by decide), jm_ct (show (22 : Int32).toInt = 22 by decide), nI_1, L21 _ (T1 σ n 22) (n := n + 1) (t := t + 1) (d := d) (T1_11 _ _ _) (by omega) (by omega) hd, Option.bind_some, jm_ps, gD_answerOf_192, T1_9]
theorem L24 (e : Nat) (σ : jm_S) {n t d : Nat} (hn : σ.1 0 0 11 = nI n) (h16 : n + 3 ≤ 16) (ht : t + 3 ≤ 13) (hd : d < 6) : jm_call (e + 4) jD_answerOf [jm_R 0 0, jm_I 24, jm_I (nI d), jm_I (nI t)] σ = some (some (jm_I (2 * (nI d + σ.1 9 0 d))), T1 (T1 (T1 σ n 24) (n + 1) 21) (n + 2) 20) := by
  rw [gD_answerOf_0, jm_ct (show nI t ≤ 12 from nI_le (b := 12) (by omega) (by decide)), c_leave _ σ 24 hn (by omega), Option.bind_some, jm_pn, gD_answerOf_13, jm_cf (show ¬ (24 : Int32).toInt = 10 by decide), jm_cf (show ¬ (24 : Int32).toInt = 11 by decide), jm_cf (show ¬ (24 : Int32).toInt = 12 by decide), jm_cf (show ¬ (24 : Int32).toInt = 13 by decide), jm_cf (show ¬ (24 : Int32).toInt = 14 by decide), jm_cf (show ¬ (24 : Int32).toInt = 15 by decide), jm_cf (show ¬ (24 : Int32).toInt = 16 by decide), jm_cf (show ¬ (24 : Int32).toInt = 17 by decide), jm_cf (show ¬ (24 : Int32).toInt = 18 by decide), jm_cf (show ¬ (24 : Int32).toInt = 19 by decide), jm_cf (show ¬ (24 : Int32).toInt = 20 by decide), jm_cf (show ¬ (24 : Int32).toInt = 21 by decide), jm_cf (show ¬ (24 : Int32).toInt = 22 by decide), jm_cf (show ¬ (24 : Int32).toInt = 23 by decide), jm_ct (show (24 : Int32).toInt = 24 by decide), nI_1, L21 _ (T1 σ n 24) (n := n + 1) (t := t + 1) (d := d) (T1_11 _ _ _) (by omega) (by omega) hd, Option.bind_some, jm_ps, gD_answerOf_226, T1_9]
theorem L13 (e : Nat) (σ : jm_S) {n t d : Nat} (hn : σ.1 0 0 11 = nI n) (h16 : n + 2 ≤ 16) (ht : t + 2 ≤ 13) (hd : d < 6) : jm_call (e + 3) jD_answerOf [jm_R 0 0, jm_I 13, jm_I (nI d), jm_I (nI t)] σ = some (some (jm_I (σ.1 9 1 d - 100)), T1 (T1 σ n 13) (n + 1) 10) := by
  rw [gD_answerOf_0, jm_ct (show nI t ≤ 12 from nI_le (b := 12) (by omega) (by decide)), c_leave _ σ 13 hn (by omega), Option.bind_some, jm_pn, gD_answerOf_13, jm_cf (show ¬ (13 : Int32).toInt = 10 by decide), jm_cf (show ¬ (13 : Int32).toInt = 11 by decide), jm_cf (show ¬ (13 : Int32).toInt = 12 by decide), jm_ct (show (13 : Int32).toInt = 13 by decide), nI_1, L10 _ (T1 σ n 13) (n := n + 1) (t := t + 1) (d := d) (T1_11 _ _ _) (by omega) (by omega) hd, Option.bind_some, jm_ps, gD_answerOf_143, T1_9]
theorem L14 (e : Nat) (σ : jm_S) {n t d : Nat} (hn : σ.1 0 0 11 = nI n) (h16 : n + 3 ≤ 16) (ht : t + 3 ≤ 13) (hd : d < 6) : jm_call (e + 4) jD_answerOf [jm_R 0 0, jm_I 14, jm_I (nI d), jm_I (nI t)] σ = some (some (jm_I (2 * (σ.1 9 1 d - 100))), T1 (T1 (T1 σ n 14) (n + 1) 13) (n + 2) 10) := by
  rw [gD_answerOf_0, jm_ct (show nI t ≤ 12 from nI_le (b := 12) (by omega) (by decide)), c_leave _ σ 14 hn (by omega), Option.bind_some, jm_pn, gD_answerOf_13, jm_cf (show ¬ (14 : Int32).toInt = 10 by decide), jm_cf (show ¬ (14 : Int32).toInt = 11 by decide), jm_cf (show ¬ (14 : Int32).toInt = 12 by decide), jm_cf (show ¬ (14 : Int32).toInt = 13 by decide), jm_ct (show (14 : Int32).toInt = 14 by decide), nI_1, L13 _ (T1 σ n 14) (n := n + 1) (t := t + 1) (d := d) (T1_11 _ _ _) (by omega) (by omega) hd, Option.bind_some, jm_ps, gD_answerOf_157, T1_9]
theorem asked0 (e : Nat) (σ σ' : jm_S) {κ d : Nat} {x3 v : Int32} (hd : d < 6) (k6 : κ < 6) (hκ : σ.1 9 3 d = nI κ) (h : jm_call e jD_answerOf [jm_R 0 0, jm_I ((jm_tb 43).getD κ 0), jm_I (nI d), jm_I x3] σ = some (some (jm_I v), σ')) : jm_call (e + 1) jD_asked [jm_R 0 0, jm_I (nI d), jm_I 0, jm_I x3] σ = some (some (jm_I v), σ') := by
  rw [gD_asked_0, jm_in_nI hd (by decide), cond_true, jm_cl (by omega), hκ, jm_cf (nI_pos (by omega)), jm_ct (show nI κ < 6 from nI_lt (b := 6) k6 (by decide)), jm_cf (fun h9 => h9 rfl), jm_in_nI k6 (by decide), cond_true, jm_cl (by omega), gD_asked_47, h, Option.bind_some, jm_ps, gD_asked_52]
theorem asked1 (e : Nat) (σ σ' : jm_S) {κ d : Nat} {x3 v : Int32} (hd : d < 6) (k6 : κ < 6) (hκ : σ.1 9 3 d = nI κ) (h : jm_call e jD_answerOf [jm_R 0 0, jm_I ((jm_tb 44).getD κ 0), jm_I (nI d), jm_I x3] σ = some (some (jm_I v), σ')) : jm_call (e + 1) jD_asked [jm_R 0 0, jm_I (nI d), jm_I 1, jm_I x3] σ = some (some (jm_I v), σ') := by
  rw [gD_asked_0, jm_in_nI hd (by decide), cond_true, jm_cl (by omega), hκ, jm_cf (nI_pos (by omega)), jm_ct (show nI κ < 6 from nI_lt (b := 6) k6 (by decide)), jm_ct (show ¬ (1 : Int32) = 0 by decide), jm_in_nI k6 (by decide), cond_true, jm_cl (by omega), gD_asked_47, h, Option.bind_some, jm_ps, gD_asked_52]
theorem L11 (e : Nat) (σ σ' : jm_S) {n t d : Nat} {m : Int32} (hn : σ.1 0 0 11 = nI n) (h16 : n + 2 ≤ 16) (ht : t + 2 ≤ 13) (hd : d < 6) (h : jm_call (e + 2) jD_asked [jm_R 0 0, jm_I (nI d), jm_I 1, jm_I (nI (t + 1))] (T1 (T1 σ n 11) (n + 1) 10) = some (some (jm_I m), σ')) : jm_call (e + 3) jD_answerOf [jm_R 0 0, jm_I 11, jm_I (nI d), jm_I (nI t)] σ = some (some (jm_I (σ.1 9 1 d + m)), σ') := by
  rw [gD_answerOf_0, jm_ct (show nI t ≤ 12 from nI_le (b := 12) (by omega) (by decide)), c_leave _ σ 11 hn (by omega), Option.bind_some, jm_pn, gD_answerOf_13, jm_cf (show ¬ (11 : Int32).toInt = 10 by decide), jm_ct (show (11 : Int32).toInt = 11 by decide), nI_1, L10 _ (T1 σ n 11) (n := n + 1) (t := t + 1) (d := d) (T1_11 _ _ _) (by omega) (by omega) hd, Option.bind_some, jm_ps, gD_answerOf_113, h, Option.bind_some, jm_ps, gD_answerOf_121, T1_9]
theorem L12 (e : Nat) (σ σ' : jm_S) {n t d : Nat} {m : Int32} (hn : σ.1 0 0 11 = nI n) (h16 : n + 3 ≤ 16) (ht : t + 3 ≤ 13) (hd : d < 6) (h : jm_call (e + 3) jD_answerOf [jm_R 0 0, jm_I 11, jm_I (nI d), jm_I (nI (t + 1))] (T1 σ n 12) = some (some (jm_I m), σ')) : jm_call (e + 4) jD_answerOf [jm_R 0 0, jm_I 12, jm_I (nI d), jm_I (nI t)] σ = some (some (jm_I (-m)), σ') := by
  rw [gD_answerOf_0, jm_ct (show nI t ≤ 12 from nI_le (b := 12) (by omega) (by decide)), c_leave _ σ 12 hn (by omega), Option.bind_some, jm_pn, gD_answerOf_13, jm_cf (show ¬ (12 : Int32).toInt = 10 by decide), jm_cf (show ¬ (12 : Int32).toInt = 11 by decide), jm_ct (show (12 : Int32).toInt = 12 by decide), nI_1, h, Option.bind_some, jm_ps, gD_answerOf_132]
theorem L23 (e : Nat) (σ σ' : jm_S) {n t d : Nat} {m : Int32} (hn : σ.1 0 0 11 = nI n) (h16 : n + 2 ≤ 16) (ht : t + 2 ≤ 13) (hd : d < 6) (h : jm_call (e + 2) jD_asked [jm_R 0 0, jm_I (nI d), jm_I 0, jm_I (nI (t + 1))] (T1 (T1 σ n 23) (n + 1) 20) = some (some (jm_I m), σ')) : jm_call (e + 3) jD_answerOf [jm_R 0 0, jm_I 23, jm_I (nI d), jm_I (nI t)] σ = some (some (jm_I (nI d - m)), σ') := by
  rw [gD_answerOf_0, jm_ct (show nI t ≤ 12 from nI_le (b := 12) (by omega) (by decide)), c_leave _ σ 23 hn (by omega), Option.bind_some, jm_pn, gD_answerOf_13, jm_cf (show ¬ (23 : Int32).toInt = 10 by decide), jm_cf (show ¬ (23 : Int32).toInt = 11 by decide), jm_cf (show ¬ (23 : Int32).toInt = 12 by decide), jm_cf (show ¬ (23 : Int32).toInt = 13 by decide), jm_cf (show ¬ (23 : Int32).toInt = 14 by decide), jm_cf (show ¬ (23 : Int32).toInt = 15 by decide), jm_cf (show ¬ (23 : Int32).toInt = 16 by decide), jm_cf (show ¬ (23 : Int32).toInt = 17 by decide), jm_cf (show ¬ (23 : Int32).toInt = 18 by decide), jm_cf (show ¬ (23 : Int32).toInt = 19 by decide), jm_cf (show ¬ (23 : Int32).toInt = 20 by decide), jm_cf (show ¬ (23 : Int32).toInt = 21 by decide), jm_cf (show ¬ (23 : Int32).toInt = 22 by decide), jm_ct (show (23 : Int32).toInt = 23 by decide), nI_1, L20 _ (T1 σ n 23) (n := n + 1) (t := t + 1) (d := d) (T1_11 _ _ _) (by omega) (by omega) hd, Option.bind_some, jm_ps, gD_answerOf_206, h, Option.bind_some, jm_ps, gD_answerOf_214]
/-- what a question traces, and its answer: d the disc, p its spring, r its ratio -/
def askC (κ q : Nat) : List Int32 := match κ, q with
  | 1, 0 => [11, 10, 21, 20]
  | 1, _ => [21, 20]
  | 2, 0 => [12, 11, 10, 24, 21, 20]
  | 2, _ => [24, 21, 20]
  | 3, 0 => [11, 10, 22, 21, 20]
  | 3, _ => [22, 21, 20]
  | 4, 0 => [13, 10]
  | 4, _ => [23, 20, 13, 10]
  | _, 0 => [14, 13, 10]
  | _, _ => [23, 20, 14, 13, 10]
def askV (κ q : Nat) (d p r : Int32) : Int32 := match κ, q with
  | 1, 0 => p + (d + r)
  | 1, _ => d + r
  | 2, 0 => -(p + 2 * (d + r))
  | 2, _ => 2 * (d + r)
  | 3, 0 => p + (d + r - 1000)
  | 3, _ => d + r - 1000
  | 4, 0 => p - 100
  | 4, _ => d - (p - 100)
  | _, 0 => 2 * (p - 100)
  | _, _ => d - 2 * (p - 100)
def cTs : List Int32 → Nat → jm_S → jm_S
  | [], _, σ => σ
  | c :: l, n, σ => cTs l (n + 1) (T1 σ n c)
def rTs : List Int32 → Nat → jm_S → jm_S
  | [], _, σ => σ
  | c :: l, n, σ => rTs l (n + 1) (U1 σ n c)
theorem c_ask (σ : jm_S) {κ d : Nat} (k1 : 1 ≤ κ) (k6 : κ < 6) (hd : d < 6) (hn : σ.1 0 0 11 = nI 0) (hκ : σ.1 9 3 d = nI κ) : jm_call 59 jD_asked [jm_R 0 0, jm_I (nI d), jm_I 0, jm_I (nI 0)] σ = some (some (jm_I (askV κ 0 (nI d) (σ.1 9 1 d) (σ.1 9 0 d))), cTs (askC κ 0) 0 σ) ∧ jm_call 59 jD_asked [jm_R 0 0, jm_I (nI d), jm_I 1, jm_I (nI 0)] σ = some (some (jm_I (askV κ 1 (nI d) (σ.1 9 1 d) (σ.1 9 0 d))), cTs (askC κ 1) 0 σ) := by
  rcases (show κ = 1 ∨ κ = 2 ∨ κ = 3 ∨ κ = 4 ∨ κ = 5 by omega) with rfl | rfl | rfl | rfl | rfl
  · constructor
    · exact asked0 58 σ _ hd k6 hκ (L11 55 σ _ hn (by omega) (by omega) hd (asked1 56 _ _ hd k6 hκ (L21 53 (T1 (T1 σ 0 11) 1 10) (t := 1) (T1_11 _ _ _) (by omega) (by omega) hd)))
    · exact asked1 58 σ _ hd k6 hκ (L21 55 σ hn (by omega) (by omega) hd)
  · constructor
    · exact asked0 58 σ _ hd k6 hκ (L12 54 σ _ hn (by omega) (by omega) hd (L11 54 (T1 σ 0 12) _ (t := 1) (T1_11 _ _ _) (by omega) (by omega) hd (asked1 55 _ _ hd k6 hκ (L24 51 (T1 (T1 (T1 σ 0 12) 1 11) 2 10) (t := 2) (T1_11 _ _ _) (by omega) (by omega) hd))))
    · exact asked1 58 σ _ hd k6 hκ (L24 54 σ hn (by omega) (by omega) hd)
  · constructor
    · exact asked0 58 σ _ hd k6 hκ (L11 55 σ _ hn (by omega) (by omega) hd (asked1 56 _ _ hd k6 hκ (L22 52 (T1 (T1 σ 0 11) 1 10) (t := 1) (T1_11 _ _ _) (by omega) (by omega) hd)))
    · exact asked1 58 σ _ hd k6 hκ (L22 54 σ hn (by omega) (by omega) hd)
  · constructor
    · exact asked0 58 σ _ hd k6 hκ (L13 55 σ hn (by omega) (by omega) hd)
    · exact asked1 58 σ _ hd k6 hκ (L23 55 σ _ hn (by omega) (by omega) hd (asked0 56 _ _ hd k6 hκ (L13 53 (T1 (T1 σ 0 23) 1 20) (t := 1) (T1_11 _ _ _) (by omega) (by omega) hd)))
  · constructor
    · exact asked0 58 σ _ hd k6 hκ (L14 54 σ hn (by omega) (by omega) hd)
    · exact asked1 58 σ _ hd k6 hκ (L23 55 σ _ hn (by omega) (by omega) hd (asked0 56 _ _ hd k6 hκ (L14 52 (T1 (T1 σ 0 23) 1 20) (t := 1) (T1_11 _ _ _) (by omega) (by omega) hd)))
