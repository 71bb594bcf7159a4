/-! THE CLAIM OUT OF ONE WALK OF THE LAW'S BODY. Your part is whole_start (and what it stands on); all else here is the same for every law, but numbers. -/
def R_law : String := "ShaftDiscsLaw"
def lw_P (b : Addr) (xs : List Int32) (args : Array Value) (s : State) : Prop := args = #[.ref b] ∧ s.IntsAt b xs ∧ xs.length ≤ 3072 ∧ (Jvm.Cond.and given_1 narrow_1).before args s = true
def lw_Q (_ : Array Value) (s : State) (o : Outcome) (t : State) : Prop := o = .returned (some (.int 1)) ∧ Framed s o t [] 600000 7302250
def lw_Z (below : List Frame) (a : Array Value) (s : State) : State → Prop := fun t => ∃ o, t.status = .running ∧ Ended t below o ∧ lw_Q a s o t
/-- the law's own end, with 1 on the stack, nothing written that was there before, its room as the claim has it -/
theorem lw_ret {p : Program} {l : Launch} {e : Env} {s : State} {m : MethodId} {below : List Frame} {meth : Method} {c : Code} {b : Nat} (hx : p.tables.exec = Jvm.exec) (hb : c.code = code) (hr : meth.sig.returnType = ret) (hlocks : meth.locks = false) {pc : Nat} {H : Heap} {ls : Array Slot} (hdg : decode code pc = .ok (.ireturn, 1)) : W p l e room_1 s m #[Value.ref b] below meth c H [] 600000 7302250 (lw_Z below #[Value.ref b] s) (F0 m pc ls [.int 1]) := by
  intro T hT X
  obtain ⟨fs, hret, hrun, hended, hW, hframe⟩ := X.leave (v := some (.int 1)) (hlocks := hlocks) (fun h => by rw [hr] at h; cases h)
  have hmeth' : T.vm.method? m = some meth := X.method'
  refine ⟨T.setFrames fs, ?_, .returned (some (.int 1)), hrun, hended, rfl, ⟨_, rfl⟩, hW, hframe⟩
  jvm_step X.here [X.here.top, hx, hb, hdg, hmeth', hr, ret, narrow_b1]
  (try refine ⟨rfl, ?_⟩); (try refine ⟨rfl, ?_⟩)
  first | (intro acts; rw [hret _ acts rfl rfl rfl]) | rw [hret _ _ rfl rfl rfl]
  exact Steps.refl _
/-- what holds at the law's entry: the machine, the code, the tables' words (any of lw_tbl by 'hts w (by decide +kernel)'), the script of L ints xs at the cell b, what the Statement gives of the start (any of its parts by flat_of_before) -/
def lw_At (p : Program) (s : State) (m : MethodId) (meth : Method) (c : Code) (b L : Nat) (xs : Nat → Int32) : Prop :=
  p.tables.exec = Jvm.exec ∧ c.code = code ∧ meth.sig.returnType = ret ∧ c.maxLocals = 4 ∧ s.vm.findClass R_law = some m.cls ∧ (∀ w ∈ lw_tbl, w.before #[Value.ref b] s = true) ∧ va_X b L xs s s.heap ∧ b < s.heap.size ∧ meth.locks = false ∧ (Jvm.Cond.and given_1 narrow_1).before #[Value.ref b] s = true
-- THE LAW: its own calls, its script
abbrev nA (s : State) : Nat → Prop := fun q => s.heap.size ≤ q
def LX (α : Nat → Nat → Nat) (cy : jm_C) (D : va_G) (p : Program) (s : State) (m : MethodId) (meth : Method) (c : Code) (b L : Nat) (xs : Nat → Int32) : Prop := lw_At p s m meth c b L xs ∧ va_K D vwCl (jm_tys cy) s ∧ (∀ w ∈ lw_tbl, jm_nest w = true → va_Nw w s) ∧ jm_Zs α (nA s) s
theorem jm_gtl : GoodIn lw_tbl jm_tgd := fun _ h => ⟨(List.mem_filter.mp h).1, good_of_word (List.mem_filter.mp h).2⟩
theorem jm_gcl {y : MethodName} {cc : ByteArray} {n : Nat} {r : Option FieldType} (hc : Cond.code y cc n r ∈ lw_tbl) : GoodIn lw_tbl (Cond.code y cc n r :: jm_tgd) := fun w h => (List.mem_cons.mp h).elim (fun e => by rw [e]; exact ⟨hc, good_of_word rfl⟩) (jm_gtl w)
section LW
variable {p : Program} {l : Launch} {e : Env} {s : State} {m : MethodId} {below : List Frame} {meth : Method} {c : Code} {b L : Nat} {xs : Nat → Int32} {α : Nat → Nat → Nat} {cy : jm_C} {D : va_G} {H : Heap} {locs : List Loc} {ls : Array Slot} {σ σ1 : jm_S} {cells slots : Nat} {Q : State → Prop}
theorem lw_pw (X : LX α cy D p s m meth c b L xs) (hH : jm_H α cy D (nA s) s σ H locs) {U : State} (hU : U.heap = H) (hW : s.WarmedH U.vm) : jm_Pw α cy D H.size σ U := by
  obtain ⟨-, hK, hN, hZ⟩ := X
  have hfr := jm_fre hH (fun q hq => hq)
  obtain ⟨hP, hD, hS⟩ := hH
  refine ⟨by rw [hU], by rw [hU]; exact hP, hD.weaken (fun _ _ _ _ => trivial), va_K.moved hW.alike hK, jm_nw_warm hW hN, fun i hi => ?_⟩
  obtain ⟨z1, z2⟩ := hZ i hi
  rw [hU]
  exact ⟨((z1.kept hS.2.1).moved hW.alike).narrow hfr, ((z2.kept hS.2.1).moved hW.alike).narrow hfr⟩
theorem lw_cv {M : jm_M} {y : MethodName} {cc : ByteArray} {ret : Option FieldType} {ix na pc k : Nat} {as : List jm_V} {st : List Value} {v : jm_V} (X : LX α cy D p s m meth c b L xs) (hM : jm_ok M y cc ret) (hlink : Cond.methodLink R_law ix y ∈ lw_tbl) (hins : Cond.instanceMethod y ∈ lw_tbl) (hsel : Cond.selects y.cls y y ∈ lw_tbl) (hini : Cond.initialized y.cls ∈ lw_tbl) (hpd : (parseMethodDescriptor y.desc).map (fun d => d.parameters.length) = some na) (hna : as.length = na) (hok : jm_okr (k, 0)) (hoks : jm_oks as) (hsh : jm_sh k = (0, M.1)) (hcat : jm_cats (jm_R k 0 :: as) ≤ M.2.2.1) (h8 : (st.map fun v => v.category).sum ≤ 8) (hsz : ls.size = 4) (hcall : jm_call 60 M (jm_R k 0 :: as) σ = some (some v, σ1)) (hH : jm_H α cy D (nA s) s σ H locs) (hd : decode code pc = .ok (.invokevirtual ix, 3))
    (kk : ∀ (H1 : Heap) (locs1 : List Loc), jm_H α cy D (nA s) s σ1 H1 locs1 → W p l e room_1 s m #[Value.ref b] below meth c H1 locs1 cells slots Q (F0 m (pc + 3) ls (jm_cv α v :: st))) (hcs : cells ≤ 600000 ∧ slots ≤ 7302250) : W p l e room_1 s m #[Value.ref b] below meth c H locs cells slots Q (F0 m pc ls ((as.map (jm_cv α)).reverse ++ .ref (α k 0) :: st)) := by
  have X0 := X
  obtain ⟨⟨hx, hb, hr, hml, hown, hts, hX, hbl, hlocks, hgv⟩, hK, hN, hZ⟩ := X
  obtain ⟨n, hrun⟩ := jm_ev_iff.mp (show jm_ev 59 (jm_en M (jm_R k 0 :: as) σ) = some (some v, σ1) from hcall)
  obtain ⟨h1, h2⟩ := jm_okw hok (by rw [hsh]; intro h9; cases h9)
  have he := jm_wd_at (α := α) (cy := cy) (σ := σ) h1 h2
  rw [jm_ce0 hsh] at he
  have hMet := jm_met l α cy D n 59 M y cc ret hM (jm_R k 0 :: as) σ (some v) σ1 ⟨hok, hoks⟩ hcat hrun H.size
  obtain ⟨-, -, hcode, hcls, hpl, h20, hmh⟩ := hM
  have hcl : ∀ k, k < 33 → (jm_sh k).1 = 0 → ((vwCl[(jm_sh k).2]?).map fun q => q.1) = some (jm_cn (jm_sh k).2) := by decide
  have hcl := hcl k h1 (by rw [hsh])
  rw [hsh] at hcl
  obtain ⟨q, hq1, hq2⟩ := Option.map_eq_some_iff.mp hcl
  have hrecv := va_recv hK hH.1 hq1 he
  rw [hq2, ← hcls] at hrecv
  have hpre : PreV s H y.cls (α k 0) (va_Pc ((jm_R k 0 :: as).map (jm_cv α)) (jm_Pw α cy D H.size σ)) (as.map (jm_cv α)) := ⟨jm_blind α cy D H.size σ _, hrecv, fun U hU hW => ⟨rfl, lw_pw X0 hH hU hW⟩⟩
  have hR : (jm_rm 59).frames + 1 ≤ room_1.frames ∧ 8 + (M.2.2.1 + 11) + (jm_rm 59).locals ≤ room_1.locals := by
    constructor
    · exact Nat.le_of_ble_eq_true rfl
    · show 8 + (M.2.2.1 + 11) + 3600 ≤ 84000
      omega
  have hG : GoodIn lw_tbl (wsV R_law ix y.cls y (Cond.code y cc M.2.2.1 ret :: jm_tgd)) := by
    intro w hw
    unfold wsV at hw
    rcases List.mem_append.mp hw with hw | hw
    · simp only [List.mem_cons, List.not_mem_nil, or_false] at hw
      rcases hw with rfl | rfl | rfl | rfl
      · exact ⟨hlink, good_of_word rfl⟩
      · exact ⟨hins, good_of_word rfl⟩
      · exact ⟨hsel, good_of_word rfl⟩
      · exact ⟨hini, good_of_word rfl⟩
    · exact jm_gcl hcode w hw
  have hlen : (as.map (jm_cv α)).length = na := by rw [List.length_map]; exact hna
  have hrn := va_runV (l := l) (e := e) (meth := meth) (below := below) (locs := locs) (cells := cells) (slots := slots) (g := F0 m pc ls ((as.map (jm_cv α)).reverse ++ .ref (α k 0) :: st)) (rest := st) (nL := 4) ⟨hx, hb, hml, hown, hts⟩ hMet (cwV na hts hG rfl rfl rfl ⟨rfl, hmh.1, hmh.2, hpd⟩ hR) hpre rfl hlen hsz rfl (lv_room h8) hd ⟨by show cells + 0 ≤ 600000; omega, by show slots + 0 ≤ 7302250; omega⟩
  have hf := jm_fre hH (fun q hq => hq)
  obtain ⟨hP, hD, hS⟩ := hH
  intro T hT Xs
  obtain ⟨v2, st₀, t, T', L2, h0, X', hL2, e1, e2, ⟨hv, ho, hp, hz, hk⟩, stp⟩ := hrn T hT Xs
  cases hv
  rw [h0] at hz hk
  have hS' : va_S (nA s) s.heap T'.heap (locs ++ L2) := ⟨Nat.le_trans hS.1 (by rw [e1]; exact hz), fun q h1 h2 => by rw [e1, hk q (Nat.lt_of_lt_of_le h1 hS.1) (fun z => h2 (hf q z))]; exact hS.2.1 q h1 h2, fun q hq => by
      rcases List.mem_append.mp hq with h | h
      · exact hS.2.2 q h
      · exact hf _ (hL2 q h)⟩
  obtain ⟨t2, a1, b1⟩ := kk T'.heap (locs ++ L2) ⟨by rw [e1]; exact hp, jm_wd_D hD, hS'⟩ T' rfl X'
  exact ⟨t2, stp t2 a1, b1⟩
theorem lw_ld {lv : List (Nat × Value)} {i k pc : Nat} {kz : Int} {rest : List Value} (X : LX α cy D p s m meth c b L xs) (hH : jm_H α cy D (nA s) s σ H locs) (h0 : ls[0]? = some (.val (.ref b))) (h3 : ls[3]? = some (.val (.int (nI i)))) (hkz : Int32.ofInt kz = nI k) (hik : i + k < L) (hL : L ≤ 3072) (d0 : decode code pc = .ok (.aload_n 0, 1)) (d1 : decode code (pc + 1) = .ok (.iload_n 3, 1)) (d2 : decode code (pc + 2) = .ok (.iconst kz, 1)) (d3 : decode code (pc + 3) = .ok (.iadd, 1)) (d4 : decode code (pc + 4) = .ok (.iaload, 1))
    (kk : W p l e room_1 s m #[Value.ref b] below meth c H locs cells slots Q (F0 m (pc + 5) ls (.int (xs (i + k)) :: rest))) : W p l e room_1 s m #[Value.ref b] below meth c H locs cells slots Q (F0 m pc ls rest) := by
  obtain ⟨⟨hx, hb, hr, hml, hown, hts, hX, hbl, hlocks, hgv⟩, hK, hN, hZ⟩ := X
  refine lv_aload_n hx hb d0 rfl h0 ?_
  refine lv_iload_n hx hb d1 rfl h3 ?_
  refine lv_iconst (v := nI k) hx hb d2 hkz ?_
  refine lv_iadd hx hb d3 ?_
  rw [nI_add]
  refine va_sld hx hb hX hbl (show ¬ nA s b from Nat.not_le.mpr hbl) hH.2.2 (i := nI (i + k)) (vp_in_nI hik (by omega)) d4 ?_
  rw [jm_cl (show i + k < 2 ^ 31 by omega)]
  exact kk
end LW
