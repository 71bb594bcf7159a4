-- SOUNDNESS, its words: what holds in a method's activation, what a method's contract says
def jm_nest (w : Cond) : Bool := match w with
  | .fieldLinkNest .. => true
  | .methodLinkNest .. => true
  | _ => false
def jm_tgd : List Cond := lw_tbl.filter goodWord
theorem jm_tgd_mem {w : Cond} (h : w ∈ lw_tbl) (hg : goodWord w = true) : w ∈ jm_tgd := List.mem_filter.mpr ⟨h, hg⟩
theorem jm_good_lay {C : String} {T : u_T} {N : Nat} (h : ∀ w ∈ u_ws C T N, w ∈ lw_tbl) : ∀ w ∈ u_ws C T N, w ∈ jm_tgd := by
  intro w hw
  refine jm_tgd_mem (h w hw) ?_
  obtain ⟨k, -, rfl⟩ := List.mem_map.mp hw
  unfold u_lay
  split <;> rfl
def jm_rm (d : Nat) : Room := { frames := d + 1, cells := 0, slots := 0, locals := 60 * (d + 1) }
def jm_Zs (α : Nat → Nat → Nat) (A : Nat → Prop) (s : State) : Prop := ∀ i, i < 5 → va_Z "ShaftDiscs" (jm_sn i) "[I" (.ref (α (40 + i) 0)) A s s.heap ∧ va_T .int (α (40 + i) 0) (jm_tb (40 + i)).length (fun j => .int ((jm_tb (40 + i)).getD j 0)) A s s.heap
def jm_X (α : Nat → Nat → Nat) (cy : jm_C) (D : va_G) (A : Nat → Prop) (M : jm_M) (cc : ByteArray) (ret : Option FieldType) (p : Program) (s : State) (m : MethodId) (args : Array Value) (meth : Method) (c : Code) : Prop :=
  p.tables.exec = Jvm.exec ∧ c.code = cc ∧ c.maxLocals = M.2.2.1 ∧ s.vm.findClass (jm_cn M.1) = some m.cls ∧ (∀ w ∈ jm_tgd, w.before args s = true) ∧ (∀ w ∈ lw_tbl, jm_nest w = true → va_Nw w s) ∧ va_K D vwCl (jm_tys cy) s ∧ jm_Zs α A s ∧ (∀ q, s.heap.size ≤ q → A q) ∧ meth.sig.returnType = ret ∧ meth.locks = false
def jm_H (α : Nat → Nat → Nat) (cy : jm_C) (D : va_G) (A : Nat → Prop) (s : State) (σ : jm_S) (H : Heap) (locs : List Loc) : Prop := va_P D vwCl (jm_wd α cy σ) H ∧ va_D A (jm_wd α cy σ) ∧ va_S A s.heap H locs
def jm_Q (α : Nat → Nat → Nat) (cy : jm_C) (D : va_G) (A : Nat → Prop) (r : Option jm_V) (σ' : jm_S) : Array Value → State → Outcome → State → Prop := fun _ st oc t => oc = .returned (r.map (jm_cv α)) ∧ jm_oko r ∧ va_P D vwCl (jm_wd α cy σ') t.heap ∧ va_F A st t
def jm_Pw (α : Nat → Nat → Nat) (cy : jm_C) (D : va_G) (sz : Nat) (σ : jm_S) (U : State) : Prop := U.heap.size = sz ∧ va_P D vwCl (jm_wd α cy σ) U.heap ∧ va_D (fun _ => True) (jm_wd α cy σ) ∧ va_K D vwCl (jm_tys cy) U ∧ (∀ w ∈ lw_tbl, jm_nest w = true → va_Nw w U) ∧ jm_Zs α (va_A (jm_wd α cy σ) sz) U
def jm_Body (l : Launch) (α : Nat → Nat → Nat) (cy : jm_C) (D : va_G) (n : Nat) : Prop := ∀ (d : Nat) (M : jm_M) (y : MethodName) (cc : ByteArray) (ret : Option FieldType), jm_ok M y cc ret → ∀ (pc : Nat) (ls : List (Option jm_V)) (st : List jm_V) (σ : jm_S) (r : Option jm_V) (σ' : jm_S), jm_run n d (M, pc, ls, st, σ) = some (r, σ') →
  ∀ (p : Program) (e : Env) (s : State) (m : MethodId) (args : Array Value) (below : List Frame) (meth : Method) (c : Code) (A : Nat → Prop) (H : Heap) (locs : List Loc) (lsA : Array Slot), jm_X α cy D A M cc ret p s m args meth c → jm_H α cy D A s σ H locs → lv_has lsA M.2.2.1 (jm_lc α 0 ls) → jm_okl ls → jm_oks st →
  W p l e (jm_rm d) s m args below meth c H locs 0 0 (MQ below (jm_Q α cy D A r σ') args s 0 0 A) (F0 m pc lsA (st.map (jm_cv α)))
def jm_Metn (l : Launch) (α : Nat → Nat → Nat) (cy : jm_C) (D : va_G) (n : Nat) : Prop := ∀ (d : Nat) (M : jm_M) (y : MethodName) (cc : ByteArray) (ret : Option FieldType), jm_ok M y cc ret → ∀ (as : List jm_V) (σ : jm_S) (r : Option jm_V) (σ' : jm_S), jm_oks as → jm_cats as ≤ M.2.2.1 → jm_run n d (jm_en M as σ) = some (r, σ') →
  ∀ sz, Met l y (Cond.code y cc M.2.2.1 ret :: jm_tgd) (jm_rm d) (va_Pc (as.map (jm_cv α)) (jm_Pw α cy D sz σ)) (jm_Q α cy D (va_A (jm_wd α cy σ) sz) r σ') 0 0 (va_A (jm_wd α cy σ) sz)
-- entry
theorem jm_cat_cv (α : Nat → Nat → Nat) (v : jm_V) : (jm_cv α v).category = jm_cat v := by
  match v with
  | .inl (.inl x) => rfl
  | .inl (.inr x) => rfl
  | .inr (k, r) => rfl
theorem jm_cats_sl (α : Nat → Nat → Nat) : ∀ as : List jm_V, (lg_sl (as.map (jm_cv α))).length = jm_cats as
  | [] => rfl
  | v :: l => by
    have ih := jm_cats_sl α l
    unfold lg_sl at ih ⊢
    rw [List.map_cons, List.flatMap_cons, List.length_append, ih]
    show _ = jm_cat v + jm_cats l
    rw [jm_cat_cv]
    match v with
    | .inl (.inl x) => rfl
    | .inl (.inr x) => rfl
    | .inr (k, r) => rfl
theorem jm_cats_sum (α : Nat → Nat → Nat) : ∀ as : List jm_V, ((as.map (jm_cv α)).map fun v => v.category).sum = jm_cats as
  | [] => rfl
  | v :: l => by
    rw [List.map_cons, List.map_cons, List.sum_cons, jm_cats_sum α l, jm_cat_cv]
    rfl
theorem jm_lc_rep (α : Nat → Nat → Nat) : ∀ (n j : Nat), jm_lc α j (List.replicate n none) = []
  | 0, _ => rfl
  | n + 1, j => jm_lc_rep α n (j + 1)
theorem jm_lc_lo (α : Nat → Nat → Nat) : ∀ (as : List jm_V) (n j : Nat) (q : Nat × Value), q ∈ jm_lc α j (jm_lo as n) → q ∈ lv_args j (as.map (jm_cv α))
  | [], n, j, q, h => by
    have h : q ∈ jm_lc α j (List.replicate n none) := h
    rw [jm_lc_rep] at h
    cases h
  | .inl (.inl x) :: l, n, j, q, h => by
    rcases List.mem_cons.mp h with e | h
    · rw [e]; exact List.mem_cons_self
    · exact List.mem_cons_of_mem _ (jm_lc_lo α l _ _ q h)
  | .inl (.inr x) :: l, n, j, q, h => by
    rcases List.mem_cons.mp h with e | h
    · rw [e]; exact List.mem_cons_self
    · exact List.mem_cons_of_mem _ (jm_lc_lo α l _ _ q h)
  | .inr (k, r) :: l, n, j, q, h => by
    rcases List.mem_cons.mp h with e | h
    · rw [e]; exact List.mem_cons_self
    · exact List.mem_cons_of_mem _ (jm_lc_lo α l _ _ q h)
theorem jm_okl_rep : ∀ n : Nat, jm_okl (List.replicate n none)
  | 0 => trivial
  | n + 1 => ⟨trivial, jm_okl_rep n⟩
theorem jm_okl_lo : ∀ (as : List jm_V) (n : Nat), jm_oks as → jm_okl (jm_lo as n)
  | [], n, _ => jm_okl_rep n
  | .inl (.inl x) :: l, n, h => ⟨trivial, jm_okl_lo l _ h.2⟩
  | .inl (.inr x) :: l, n, h => ⟨trivial, trivial, jm_okl_lo l _ h.2⟩
  | .inr q :: l, n, h => ⟨h.1, jm_okl_lo l _ h.2⟩
theorem jm_nw_same {U V : State} (hv : U.vm = V.vm) (h : ∀ w ∈ lw_tbl, jm_nest w = true → va_Nw w U) : ∀ w ∈ lw_tbl, jm_nest w = true → va_Nw w V := by
  intro w hw hn
  have h1 := h w hw hn
  match w, hn, h1 with
  | .fieldLinkNest a b c d e f, _, h1 => exact va_Nw.same rfl hv h1
  | .methodLinkNest a b c d, _, h1 => exact va_Nw.same rfl hv h1
theorem jm_nw_warm {s U : State} (hW : s.WarmedH U.vm) (h : ∀ w ∈ lw_tbl, jm_nest w = true → va_Nw w s) : ∀ w ∈ lw_tbl, jm_nest w = true → va_Nw w U := by
  intro w hw hn
  have h1 := h w hw hn
  match w, hn, h1 with
  | .fieldLinkNest a b c d e f, _, h1 => exact va_Nw.warmF hW h1
  | .methodLinkNest a b c d, _, h1 => exact va_Nw.warmM hW h1
theorem jm_blind (α : Nat → Nat → Nat) (cy : jm_C) (D : va_G) (sz : Nat) (σ : jm_S) (as : List Value) : FrameBlind (va_Pc as (jm_Pw α cy D sz σ)) := by
  intro a U g mk h
  obtain ⟨h0, h1, h2, h3, h4, h5, h6⟩ := h
  refine ⟨h0, h1, h2, h3, va_K.moved (u := U) (U := U.calling g mk a) (Vm.Alike.refl U.vm) h4, jm_nw_same (U := U) (V := U.calling g mk a) rfl h5, fun i hi => ?_⟩
  obtain ⟨z1, z2⟩ := h6 i hi
  exact ⟨va_Z.moved (u := U) (U := U.calling g mk a) (Vm.Alike.refl U.vm) z1, va_T.moved (u := U) (U := U.calling g mk a) (Vm.Alike.refl U.vm) z2⟩
set_option maxHeartbeats 4000000 in
theorem jm_met_of {l : Launch} {α : Nat → Nat → Nat} {cy : jm_C} {D : va_G} {n : Nat} (hB : jm_Body l α cy D n) : jm_Metn l α cy D n := by
  intro d M y cc ret hM as σ r σ' hok hcat hrun sz
  have hM' := hM
  obtain ⟨-, -, -, hcls, hpl, -, -⟩ := hM'
  refine Met.ofW (cc := cc) (maxL := M.2.2.1) (ret := ret) hpl rfl ?_
  intro p e s m args below meth c s₁ B hml hv
  obtain ⟨rfl, hsz, hP, hD, hK, hN, hZ⟩ := hv
  subst hsz
  have hts := atoms_spec (ws := Cond.code y cc M.2.2.1 ret :: jm_tgd) B.pre
  have hown : s.vm.findClass (jm_cn M.1) = some m.cls := by
    rw [← hcls]
    exact findClass_of_methodNamed B.named
  have hl := lv_entry (as.map (jm_cv α)) (n := M.2.2.1) (by rw [jm_cats_sl]; exact hcat)
  rw [lg_entry_eq]
  generalize (lg_sl (as.map (jm_cv α)) ++ List.replicate (M.2.2.1 - (lg_sl (as.map (jm_cv α))).length) Slot.unset).toArray = lsA at hl ⊢
  exact hB d M y cc ret hM 0 (jm_lo as M.2.2.1) [] σ r σ' hrun p e s m _ below meth c (va_A (jm_wd α cy σ) s.heap.size) s.heap [] lsA
    ⟨B.exec, B.bytes, hml, hown, fun w hw => hts w (List.mem_cons_of_mem _ hw), hN, hK, hZ, fun q hq => Or.inr hq, B.returns, B.notSynchronized⟩
    ⟨hP, hD.self, va_S.rf⟩ ⟨hl.1, hl.2.1, fun q hq => hl.2.2 q (jm_lc_lo α as _ 0 q hq)⟩ (jm_okl_lo as _ hok) trivial
-- the machine's step, taken apart
def jm_ax (rec : Nat → jm_F → Option jm_Rs) (d : Nat) (a : jm_A) : Option jm_Rs := match a with
  | none => none
  | some (.inl (l, o)) => jm_sel (rec d) l o
  | some (.inr (.inl (b, r))) => cond b (some r) none
  | some (.inr (.inr (M, as, g))) => (jm_cal rec d M as g.2.2.2.2).bind fun r => rec d (jm_psh g r)
section JAX
variable {rec : Nat → jm_F → Option jm_Rs} {d : Nat} {st : List jm_V} {z : jm_Rs}
theorem jm_ax_if {b : Bool} {f : jm_F} (e : jm_ax rec d (jm_if b f) = some z) : b = true ∧ rec d f = some z := by
  cases b with
  | true => exact ⟨rfl, e⟩
  | false => cases e
theorem jm_ax_p1 {k : Int32 → List jm_V → jm_A} (e : jm_ax rec d (jm_p1 st k) = some z) : ∃ x st', st = jm_I x :: st' ∧ jm_ax rec d (k x st') = some z := by
  match st, e with
  | .inl (.inl x) :: st, e => exact ⟨x, st, rfl, e⟩
  | [], e => cases e
  | .inl (.inr x) :: st, e => cases e
  | .inr q :: st, e => cases e
theorem jm_ax_q1 {k : Int64 → List jm_V → jm_A} (e : jm_ax rec d (jm_q1 st k) = some z) : ∃ x st', st = jm_L x :: st' ∧ jm_ax rec d (k x st') = some z := by
  match st, e with
  | .inl (.inr x) :: st, e => exact ⟨x, st, rfl, e⟩
  | [], e => cases e
  | .inl (.inl x) :: st, e => cases e
  | .inr q :: st, e => cases e
theorem jm_ax_p2 {k : Int32 → Int32 → List jm_V → jm_A} (e : jm_ax rec d (jm_p2 st k) = some z) : ∃ x y st', st = jm_I y :: jm_I x :: st' ∧ jm_ax rec d (k x y st') = some z := by
  match st, e with
  | .inl (.inl y) :: .inl (.inl x) :: st, e => exact ⟨x, y, st, rfl, e⟩
  | [], e => cases e
  | [.inl (.inl y)], e => cases e
  | .inl (.inl y) :: .inl (.inr x) :: st, e => cases e
  | .inl (.inl y) :: .inr x :: st, e => cases e
  | .inl (.inr x) :: st, e => cases e
  | .inr q :: st, e => cases e
theorem jm_ax_q2 {k : Int64 → Int64 → List jm_V → jm_A} (e : jm_ax rec d (jm_q2 st k) = some z) : ∃ x y st', st = jm_L y :: jm_L x :: st' ∧ jm_ax rec d (k x y st') = some z := by
  match st, e with
  | .inl (.inr y) :: .inl (.inr x) :: st, e => exact ⟨x, y, st, rfl, e⟩
  | [], e => cases e
  | [.inl (.inr y)], e => cases e
  | .inl (.inr y) :: .inl (.inl x) :: st, e => cases e
  | .inl (.inr y) :: .inr x :: st, e => cases e
  | .inl (.inl x) :: st, e => cases e
  | .inr q :: st, e => cases e
theorem jm_ax_pr {k : Nat → Nat → List jm_V → jm_A} (e : jm_ax rec d (jm_pr st k) = some z) : ∃ g r st', st = jm_R g r :: st' ∧ jm_ax rec d (k g r st') = some z := by
  match st, e with
  | .inr (g, r) :: st, e => exact ⟨g, r, st, rfl, e⟩
  | [], e => cases e
  | .inl (.inr x) :: st, e => cases e
  | .inl (.inl x) :: st, e => cases e
theorem jm_ax_ix {k : Int32 → Nat → Nat → List jm_V → jm_A} (e : jm_ax rec d (jm_ix st k) = some z) : ∃ i g r st', st = jm_I i :: jm_R g r :: st' ∧ jm_ax rec d (k i g r st') = some z := by
  match st, e with
  | .inl (.inl i) :: .inr (g, r) :: st, e => exact ⟨i, g, r, st, rfl, e⟩
  | [], e => cases e
  | [.inl (.inl y)], e => cases e
  | .inl (.inl y) :: .inl x :: st, e => cases e
  | .inl (.inr x) :: st, e => cases e
  | .inr q :: st, e => cases e
end JAX
theorem jm_lk_mem : ∀ {l : List (Nat × Instr × Nat)} {pc : Nat} {q : Instr × Nat}, jm_lk l pc = some q → (pc, q) ∈ l
  | [], _, _, e => by cases e
  | (a, i) :: t, pc, q, e => by
    unfold jm_lk at e
    split at e
    · next h =>
      cases e
      rw [Nat.eq_of_beq_eq_true h]
      exact List.mem_cons_self
    · exact List.mem_cons_of_mem _ (jm_lk_mem e)
theorem jm_lk2_mem {β : Type} : ∀ {l : List ((Nat × Nat) × β)} {c i : Nat} {a : β}, jm_lk2 l c i = some a → ((c, i), a) ∈ l
  | [], _, _, _, e => by cases e
  | (q, b) :: t, c, i, a, e => by
    unfold jm_lk2 at e
    split at e
    · next h1 h2 =>
      cases e
      have e1 := Nat.eq_of_beq_eq_true h1
      have e2 := Nat.eq_of_beq_eq_true h2
      have : q = (c, i) := Prod.ext e2 e1
      rw [this]
      exact List.mem_cons_self
    · exact List.mem_cons_of_mem _ (jm_lk2_mem e)
