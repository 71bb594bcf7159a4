-- THE LAW: its cases
section LC
variable {p : Program} {l : Launch} {e : Env} {s : State} {m : MethodId} {below : List Frame} {meth : Method} {c : Code} {b L : Nat} {xs : Nat → Int32} {α : Nat → Nat → Nat} {cy : jm_C} {D : va_G} {H : Heap} {locs : List Loc} {ls : Array Slot} {σ σ1 : jm_S} {cells slots : Nat} {Q : State → Prop}
theorem lwc_22 (X : LX α cy D p s m meth c b L xs) (hL : L ≤ 3072) {i : Nat} (hi : i + 5 < L) {A : aS} (hA : okA A) (hc : cRel σ A) (hr : rRel σ A) (hH : jm_H α cy D (nA s) s σ H locs) (hl : lv_has ls 4 [(0, .ref b), (1, .ref (α 0 0)), (2, .ref (α 21 0)), (3, .int (nI i))]) (hcs : cells ≤ 600000 ∧ slots ≤ 7302250) (next : ∀ (A : aS) (σ : jm_S) (H : Heap) (locs : List Loc), okA A → cRel σ A → rRel σ A → jm_H α cy D (nA s) s σ H locs → W p l e room_1 s m #[Value.ref b] below meth c H locs cells slots Q (F0 m 1181 ls [])) : W p l e room_1 s m #[Value.ref b] below meth c H locs cells slots Q (F0 m 837 ls []) := by
  obtain ⟨hx, hb, -, -, -, -, -, -, -, -⟩ := X.1
  obtain ⟨v, A', hA', hcc, hrr⟩ := P_who hA (xs (i + 1)) (xs (i + 2)) (xs (i + 3)) (xs (i + 4)) (xs (i + 5))
  obtain ⟨σ1, c1, c2, c3⟩ := hcc σ hc
  obtain ⟨σ2, r1, r2, r3⟩ := hrr σ1 (hr.fr c3)
  obtain ⟨x, rfl⟩ := jm_call_I (M := jD_who) (by decide +kernel) c1
  refine lv_aload_n hx hb d_law_837 rfl (lv_at hl 1 rfl) ?_
  refine lw_ld (lv := []) (k := 1) X hH (lv_at hl 0 rfl) (lv_at hl 3 rfl) (by decide) (by omega) hL d_law_838 d_law_839 d_law_840 d_law_841 d_law_842 ?_
  refine lw_ld (lv := []) (k := 2) X hH (lv_at hl 0 rfl) (lv_at hl 3 rfl) (by decide) (by omega) hL d_law_843 d_law_844 d_law_845 d_law_846 d_law_847 ?_
  refine lw_ld (lv := []) (k := 3) X hH (lv_at hl 0 rfl) (lv_at hl 3 rfl) (by decide) (by omega) hL d_law_848 d_law_849 d_law_850 d_law_851 d_law_852 ?_
  refine lw_ld (lv := []) (k := 4) X hH (lv_at hl 0 rfl) (lv_at hl 3 rfl) (by decide) (by omega) hL d_law_853 d_law_854 d_law_855 d_law_856 d_law_857 ?_
  refine lw_ld (lv := []) (k := 5) X hH (lv_at hl 0 rfl) (lv_at hl 3 rfl) (by decide) (by omega) hL d_law_858 d_law_859 d_law_860 d_law_861 d_law_862 ?_
  refine lw_cv (na := 5) (as := [jm_I (xs (i + 1)), jm_I (xs (i + 2)), jm_I (xs (i + 3)), jm_I (xs (i + 4)), jm_I (xs (i + 5))]) (st := []) (k := 0) X jm_o62 (jm_in (List.mem_of_getElem? (i := 475) (by decide +kernel))) (jm_in (List.mem_of_getElem? (i := 476) (by decide +kernel))) (jm_in (List.mem_of_getElem? (i := 477) (by decide +kernel))) (jm_in (List.mem_of_getElem? (i := 1) (by decide +kernel))) (by decide +kernel) rfl (Or.inl ⟨by decide, by decide⟩) (⟨trivial, ⟨trivial, ⟨trivial, ⟨trivial, ⟨trivial, trivial⟩⟩⟩⟩⟩) rfl (Nat.le_of_ble_eq_true rfl) (Nat.le_of_ble_eq_true rfl) hl.1 c1 hH d_law_863 (fun H locs hH => ?_) hcs
  refine lv_aload_n hx hb d_law_866 rfl (lv_at hl 2 rfl) ?_
  refine lw_ld (lv := []) (k := 1) X hH (lv_at hl 0 rfl) (lv_at hl 3 rfl) (by decide) (by omega) hL d_law_867 d_law_868 d_law_869 d_law_870 d_law_871 ?_
  refine lw_ld (lv := []) (k := 2) X hH (lv_at hl 0 rfl) (lv_at hl 3 rfl) (by decide) (by omega) hL d_law_872 d_law_873 d_law_874 d_law_875 d_law_876 ?_
  refine lw_ld (lv := []) (k := 3) X hH (lv_at hl 0 rfl) (lv_at hl 3 rfl) (by decide) (by omega) hL d_law_877 d_law_878 d_law_879 d_law_880 d_law_881 ?_
  refine lw_ld (lv := []) (k := 4) X hH (lv_at hl 0 rfl) (lv_at hl 3 rfl) (by decide) (by omega) hL d_law_882 d_law_883 d_law_884 d_law_885 d_law_886 ?_
  refine lw_ld (lv := []) (k := 5) X hH (lv_at hl 0 rfl) (lv_at hl 3 rfl) (by decide) (by omega) hL d_law_887 d_law_888 d_law_889 d_law_890 d_law_891 ?_
  refine lw_cv (na := 5) (as := [jm_I (xs (i + 1)), jm_I (xs (i + 2)), jm_I (xs (i + 3)), jm_I (xs (i + 4)), jm_I (xs (i + 5))]) (st := [jm_cv α (jm_I x)]) (k := 21) X jm_o149 (jm_in (List.mem_of_getElem? (i := 909) (by decide +kernel))) (jm_in (List.mem_of_getElem? (i := 910) (by decide +kernel))) (jm_in (List.mem_of_getElem? (i := 911) (by decide +kernel))) (jm_in (List.mem_of_getElem? (i := 6) (by decide +kernel))) (by decide +kernel) rfl (Or.inl ⟨by decide, by decide⟩) (⟨trivial, ⟨trivial, ⟨trivial, ⟨trivial, ⟨trivial, trivial⟩⟩⟩⟩⟩) rfl (Nat.le_of_ble_eq_true rfl) (Nat.le_of_ble_eq_true rfl) hl.1 r1 hH d_law_892 (fun H locs hH => ?_) hcs
  refine lv_icmp_eq (tgt := 1181) hx hb d_law_895 (by decide) (fun _ => next A' σ2 _ _ hA' (c2.fr r3) r2 hH) (fun h9 => absurd rfl h9)
theorem lwc_23 (X : LX α cy D p s m meth c b L xs) (hL : L ≤ 3072) {i : Nat} (hi : i + 5 < L) {A : aS} (hA : okA A) (hc : cRel σ A) (hr : rRel σ A) (hH : jm_H α cy D (nA s) s σ H locs) (hl : lv_has ls 4 [(0, .ref b), (1, .ref (α 0 0)), (2, .ref (α 21 0)), (3, .int (nI i))]) (hcs : cells ≤ 600000 ∧ slots ≤ 7302250) (next : ∀ (A : aS) (σ : jm_S) (H : Heap) (locs : List Loc), okA A → cRel σ A → rRel σ A → jm_H α cy D (nA s) s σ H locs → W p l e room_1 s m #[Value.ref b] below meth c H locs cells slots Q (F0 m 1181 ls [])) : W p l e room_1 s m #[Value.ref b] below meth c H locs cells slots Q (F0 m 900 ls []) := by
  obtain ⟨hx, hb, -, -, -, -, -, -, -, -⟩ := X.1
  obtain ⟨v, A', hA', hcc, hrr⟩ := P_broken hA (xs (i + 1)) (xs (i + 2)) (xs (i + 3))
  obtain ⟨σ1, c1, c2, c3⟩ := hcc σ hc
  obtain ⟨σ2, r1, r2, r3⟩ := hrr σ1 (hr.fr c3)
  obtain ⟨x, rfl⟩ := jm_call_L (M := jD_broken) (by decide +kernel) c1
  refine lv_aload_n hx hb d_law_900 rfl (lv_at hl 1 rfl) ?_
  refine lw_ld (lv := []) (k := 1) X hH (lv_at hl 0 rfl) (lv_at hl 3 rfl) (by decide) (by omega) hL d_law_901 d_law_902 d_law_903 d_law_904 d_law_905 ?_
  refine lw_ld (lv := []) (k := 2) X hH (lv_at hl 0 rfl) (lv_at hl 3 rfl) (by decide) (by omega) hL d_law_906 d_law_907 d_law_908 d_law_909 d_law_910 ?_
  refine lw_ld (lv := []) (k := 3) X hH (lv_at hl 0 rfl) (lv_at hl 3 rfl) (by decide) (by omega) hL d_law_911 d_law_912 d_law_913 d_law_914 d_law_915 ?_
  refine lw_cv (na := 3) (as := [jm_I (xs (i + 1)), jm_I (xs (i + 2)), jm_I (xs (i + 3))]) (st := []) (k := 0) X jm_o63 (jm_in (List.mem_of_getElem? (i := 491) (by decide +kernel))) (jm_in (List.mem_of_getElem? (i := 492) (by decide +kernel))) (jm_in (List.mem_of_getElem? (i := 493) (by decide +kernel))) (jm_in (List.mem_of_getElem? (i := 1) (by decide +kernel))) (by decide +kernel) rfl (Or.inl ⟨by decide, by decide⟩) (⟨trivial, ⟨trivial, ⟨trivial, trivial⟩⟩⟩) rfl (Nat.le_of_ble_eq_true rfl) (Nat.le_of_ble_eq_true rfl) hl.1 c1 hH d_law_916 (fun H locs hH => ?_) hcs
  refine lv_aload_n hx hb d_law_919 rfl (lv_at hl 2 rfl) ?_
  refine lw_ld (lv := []) (k := 1) X hH (lv_at hl 0 rfl) (lv_at hl 3 rfl) (by decide) (by omega) hL d_law_920 d_law_921 d_law_922 d_law_923 d_law_924 ?_
  refine lw_ld (lv := []) (k := 2) X hH (lv_at hl 0 rfl) (lv_at hl 3 rfl) (by decide) (by omega) hL d_law_925 d_law_926 d_law_927 d_law_928 d_law_929 ?_
  refine lw_ld (lv := []) (k := 3) X hH (lv_at hl 0 rfl) (lv_at hl 3 rfl) (by decide) (by omega) hL d_law_930 d_law_931 d_law_932 d_law_933 d_law_934 ?_
  refine lw_cv (na := 3) (as := [jm_I (xs (i + 1)), jm_I (xs (i + 2)), jm_I (xs (i + 3))]) (st := [jm_cv α (jm_L x)]) (k := 21) X jm_o150 (jm_in (List.mem_of_getElem? (i := 921) (by decide +kernel))) (jm_in (List.mem_of_getElem? (i := 922) (by decide +kernel))) (jm_in (List.mem_of_getElem? (i := 923) (by decide +kernel))) (jm_in (List.mem_of_getElem? (i := 6) (by decide +kernel))) (by decide +kernel) rfl (Or.inl ⟨by decide, by decide⟩) (⟨trivial, ⟨trivial, ⟨trivial, trivial⟩⟩⟩) rfl (Nat.le_of_ble_eq_true rfl) (Nat.le_of_ble_eq_true rfl) hl.1 r1 hH d_law_935 (fun H locs hH => ?_) hcs
  refine W.lcmp hx hb d_law_938 ?_
  refine lv_if_eq (tgt := 1181) hx hb d_law_939 (by decide) (fun _ => next A' σ2 _ _ hA' (c2.fr r3) r2 hH) (fun h9 => absurd (jm_lg_eq.mpr rfl) h9)
theorem lwc_24 (X : LX α cy D p s m meth c b L xs) (hL : L ≤ 3072) {i : Nat} (hi : i + 5 < L) {A : aS} (hA : okA A) (hc : cRel σ A) (hr : rRel σ A) (hH : jm_H α cy D (nA s) s σ H locs) (hl : lv_has ls 4 [(0, .ref b), (1, .ref (α 0 0)), (2, .ref (α 21 0)), (3, .int (nI i))]) (hcs : cells ≤ 600000 ∧ slots ≤ 7302250) (next : ∀ (A : aS) (σ : jm_S) (H : Heap) (locs : List Loc), okA A → cRel σ A → rRel σ A → jm_H α cy D (nA s) s σ H locs → W p l e room_1 s m #[Value.ref b] below meth c H locs cells slots Q (F0 m 1181 ls [])) : W p l e room_1 s m #[Value.ref b] below meth c H locs cells slots Q (F0 m 944 ls []) := by
  obtain ⟨hx, hb, -, -, -, -, -, -, -, -⟩ := X.1
  obtain ⟨v, A', hA', hcc, hrr⟩ := P_drawn hA (xs (i + 1)) (xs (i + 2)) (xs (i + 3))
  obtain ⟨σ1, c1, c2, c3⟩ := hcc σ hc
  obtain ⟨σ2, r1, r2, r3⟩ := hrr σ1 (hr.fr c3)
  obtain ⟨x, rfl⟩ := jm_call_I (M := jD_drawn) (by decide +kernel) c1
  refine lv_aload_n hx hb d_law_944 rfl (lv_at hl 1 rfl) ?_
  refine lw_ld (lv := []) (k := 1) X hH (lv_at hl 0 rfl) (lv_at hl 3 rfl) (by decide) (by omega) hL d_law_945 d_law_946 d_law_947 d_law_948 d_law_949 ?_
  refine lw_ld (lv := []) (k := 2) X hH (lv_at hl 0 rfl) (lv_at hl 3 rfl) (by decide) (by omega) hL d_law_950 d_law_951 d_law_952 d_law_953 d_law_954 ?_
  refine lw_ld (lv := []) (k := 3) X hH (lv_at hl 0 rfl) (lv_at hl 3 rfl) (by decide) (by omega) hL d_law_955 d_law_956 d_law_957 d_law_958 d_law_959 ?_
  refine lw_cv (na := 3) (as := [jm_I (xs (i + 1)), jm_I (xs (i + 2)), jm_I (xs (i + 3))]) (st := []) (k := 0) X jm_o64 (jm_in (List.mem_of_getElem? (i := 503) (by decide +kernel))) (jm_in (List.mem_of_getElem? (i := 504) (by decide +kernel))) (jm_in (List.mem_of_getElem? (i := 505) (by decide +kernel))) (jm_in (List.mem_of_getElem? (i := 1) (by decide +kernel))) (by decide +kernel) rfl (Or.inl ⟨by decide, by decide⟩) (⟨trivial, ⟨trivial, ⟨trivial, trivial⟩⟩⟩) rfl (Nat.le_of_ble_eq_true rfl) (Nat.le_of_ble_eq_true rfl) hl.1 c1 hH d_law_960 (fun H locs hH => ?_) hcs
  refine lv_aload_n hx hb d_law_963 rfl (lv_at hl 2 rfl) ?_
  refine lw_ld (lv := []) (k := 1) X hH (lv_at hl 0 rfl) (lv_at hl 3 rfl) (by decide) (by omega) hL d_law_964 d_law_965 d_law_966 d_law_967 d_law_968 ?_
  refine lw_ld (lv := []) (k := 2) X hH (lv_at hl 0 rfl) (lv_at hl 3 rfl) (by decide) (by omega) hL d_law_969 d_law_970 d_law_971 d_law_972 d_law_973 ?_
  refine lw_ld (lv := []) (k := 3) X hH (lv_at hl 0 rfl) (lv_at hl 3 rfl) (by decide) (by omega) hL d_law_974 d_law_975 d_law_976 d_law_977 d_law_978 ?_
  refine lw_cv (na := 3) (as := [jm_I (xs (i + 1)), jm_I (xs (i + 2)), jm_I (xs (i + 3))]) (st := [jm_cv α (jm_I x)]) (k := 21) X jm_o151 (jm_in (List.mem_of_getElem? (i := 926) (by decide +kernel))) (jm_in (List.mem_of_getElem? (i := 927) (by decide +kernel))) (jm_in (List.mem_of_getElem? (i := 928) (by decide +kernel))) (jm_in (List.mem_of_getElem? (i := 6) (by decide +kernel))) (by decide +kernel) rfl (Or.inl ⟨by decide, by decide⟩) (⟨trivial, ⟨trivial, ⟨trivial, trivial⟩⟩⟩) rfl (Nat.le_of_ble_eq_true rfl) (Nat.le_of_ble_eq_true rfl) hl.1 r1 hH d_law_979 (fun H locs hH => ?_) hcs
  refine lv_icmp_eq (tgt := 1181) hx hb d_law_982 (by decide) (fun _ => next A' σ2 _ _ hA' (c2.fr r3) r2 hH) (fun h9 => absurd rfl h9)
theorem lwc_25 (X : LX α cy D p s m meth c b L xs) (hL : L ≤ 3072) {i : Nat} (hi : i + 5 < L) {A : aS} (hA : okA A) (hc : cRel σ A) (hr : rRel σ A) (hH : jm_H α cy D (nA s) s σ H locs) (hl : lv_has ls 4 [(0, .ref b), (1, .ref (α 0 0)), (2, .ref (α 21 0)), (3, .int (nI i))]) (hcs : cells ≤ 600000 ∧ slots ≤ 7302250) (next : ∀ (A : aS) (σ : jm_S) (H : Heap) (locs : List Loc), okA A → cRel σ A → rRel σ A → jm_H α cy D (nA s) s σ H locs → W p l e room_1 s m #[Value.ref b] below meth c H locs cells slots Q (F0 m 1181 ls [])) : W p l e room_1 s m #[Value.ref b] below meth c H locs cells slots Q (F0 m 987 ls []) := by
  obtain ⟨hx, hb, -, -, -, -, -, -, -, -⟩ := X.1
  obtain ⟨v, A', hA', hcc, hrr⟩ := P_image hA (xs (i + 1))
  obtain ⟨σ1, c1, c2, c3⟩ := hcc σ hc
  obtain ⟨σ2, r1, r2, r3⟩ := hrr σ1 (hr.fr c3)
  obtain ⟨x, rfl⟩ := jm_call_I (M := jD_image) (by decide +kernel) c1
  refine lv_aload_n hx hb d_law_987 rfl (lv_at hl 1 rfl) ?_
  refine lw_ld (lv := []) (k := 1) X hH (lv_at hl 0 rfl) (lv_at hl 3 rfl) (by decide) (by omega) hL d_law_988 d_law_989 d_law_990 d_law_991 d_law_992 ?_
  refine lw_cv (na := 1) (as := [jm_I (xs (i + 1))]) (st := []) (k := 0) X jm_o65 (jm_in (List.mem_of_getElem? (i := 519) (by decide +kernel))) (jm_in (List.mem_of_getElem? (i := 520) (by decide +kernel))) (jm_in (List.mem_of_getElem? (i := 521) (by decide +kernel))) (jm_in (List.mem_of_getElem? (i := 1) (by decide +kernel))) (by decide +kernel) rfl (Or.inl ⟨by decide, by decide⟩) (⟨trivial, trivial⟩) rfl (Nat.le_of_ble_eq_true rfl) (Nat.le_of_ble_eq_true rfl) hl.1 c1 hH d_law_993 (fun H locs hH => ?_) hcs
  refine lv_aload_n hx hb d_law_996 rfl (lv_at hl 2 rfl) ?_
  refine lw_ld (lv := []) (k := 1) X hH (lv_at hl 0 rfl) (lv_at hl 3 rfl) (by decide) (by omega) hL d_law_997 d_law_998 d_law_999 d_law_1000 d_law_1001 ?_
  refine lw_cv (na := 1) (as := [jm_I (xs (i + 1))]) (st := [jm_cv α (jm_I x)]) (k := 21) X jm_o152 (jm_in (List.mem_of_getElem? (i := 936) (by decide +kernel))) (jm_in (List.mem_of_getElem? (i := 937) (by decide +kernel))) (jm_in (List.mem_of_getElem? (i := 938) (by decide +kernel))) (jm_in (List.mem_of_getElem? (i := 6) (by decide +kernel))) (by decide +kernel) rfl (Or.inl ⟨by decide, by decide⟩) (⟨trivial, trivial⟩) rfl (Nat.le_of_ble_eq_true rfl) (Nat.le_of_ble_eq_true rfl) hl.1 r1 hH d_law_1002 (fun H locs hH => ?_) hcs
  refine lv_icmp_eq (tgt := 1181) hx hb d_law_1005 (by decide) (fun _ => next A' σ2 _ _ hA' (c2.fr r3) r2 hH) (fun h9 => absurd rfl h9)
theorem lwc_26 (X : LX α cy D p s m meth c b L xs) (hL : L ≤ 3072) {i : Nat} (hi : i + 5 < L) {A : aS} (hA : okA A) (hc : cRel σ A) (hr : rRel σ A) (hH : jm_H α cy D (nA s) s σ H locs) (hl : lv_has ls 4 [(0, .ref b), (1, .ref (α 0 0)), (2, .ref (α 21 0)), (3, .int (nI i))]) (hcs : cells ≤ 600000 ∧ slots ≤ 7302250) (next : ∀ (A : aS) (σ : jm_S) (H : Heap) (locs : List Loc), okA A → cRel σ A → rRel σ A → jm_H α cy D (nA s) s σ H locs → W p l e room_1 s m #[Value.ref b] below meth c H locs cells slots Q (F0 m 1181 ls [])) : W p l e room_1 s m #[Value.ref b] below meth c H locs cells slots Q (F0 m 1010 ls []) := by
  obtain ⟨hx, hb, -, -, -, -, -, -, -, -⟩ := X.1
  obtain ⟨v, A', hA', hcc, hrr⟩ := P_restore hA (xs (i + 1))
  obtain ⟨σ1, c1, c2, c3⟩ := hcc σ hc
  obtain ⟨σ2, r1, r2, r3⟩ := hrr σ1 (hr.fr c3)
  obtain ⟨x, rfl⟩ := jm_call_I (M := jD_restore) (by decide +kernel) c1
  refine lv_aload_n hx hb d_law_1010 rfl (lv_at hl 1 rfl) ?_
  refine lw_ld (lv := []) (k := 1) X hH (lv_at hl 0 rfl) (lv_at hl 3 rfl) (by decide) (by omega) hL d_law_1011 d_law_1012 d_law_1013 d_law_1014 d_law_1015 ?_
  refine lw_cv (na := 1) (as := [jm_I (xs (i + 1))]) (st := []) (k := 0) X jm_o66 (jm_in (List.mem_of_getElem? (i := 530) (by decide +kernel))) (jm_in (List.mem_of_getElem? (i := 531) (by decide +kernel))) (jm_in (List.mem_of_getElem? (i := 532) (by decide +kernel))) (jm_in (List.mem_of_getElem? (i := 1) (by decide +kernel))) (by decide +kernel) rfl (Or.inl ⟨by decide, by decide⟩) (⟨trivial, trivial⟩) rfl (Nat.le_of_ble_eq_true rfl) (Nat.le_of_ble_eq_true rfl) hl.1 c1 hH d_law_1016 (fun H locs hH => ?_) hcs
  refine lv_aload_n hx hb d_law_1019 rfl (lv_at hl 2 rfl) ?_
  refine lw_ld (lv := []) (k := 1) X hH (lv_at hl 0 rfl) (lv_at hl 3 rfl) (by decide) (by omega) hL d_law_1020 d_law_1021 d_law_1022 d_law_1023 d_law_1024 ?_
  refine lw_cv (na := 1) (as := [jm_I (xs (i + 1))]) (st := [jm_cv α (jm_I x)]) (k := 21) X jm_o153 (jm_in (List.mem_of_getElem? (i := 940) (by decide +kernel))) (jm_in (List.mem_of_getElem? (i := 941) (by decide +kernel))) (jm_in (List.mem_of_getElem? (i := 942) (by decide +kernel))) (jm_in (List.mem_of_getElem? (i := 6) (by decide +kernel))) (by decide +kernel) rfl (Or.inl ⟨by decide, by decide⟩) (⟨trivial, trivial⟩) rfl (Nat.le_of_ble_eq_true rfl) (Nat.le_of_ble_eq_true rfl) hl.1 r1 hH d_law_1025 (fun H locs hH => ?_) hcs
  refine lv_icmp_eq (tgt := 1181) hx hb d_law_1028 (by decide) (fun _ => next A' σ2 _ _ hA' (c2.fr r3) r2 hH) (fun h9 => absurd rfl h9)
theorem lwc_27 (X : LX α cy D p s m meth c b L xs) (hL : L ≤ 3072) {i : Nat} (hi : i + 5 < L) {A : aS} (hA : okA A) (hc : cRel σ A) (hr : rRel σ A) (hH : jm_H α cy D (nA s) s σ H locs) (hl : lv_has ls 4 [(0, .ref b), (1, .ref (α 0 0)), (2, .ref (α 21 0)), (3, .int (nI i))]) (hcs : cells ≤ 600000 ∧ slots ≤ 7302250) (next : ∀ (A : aS) (σ : jm_S) (H : Heap) (locs : List Loc), okA A → cRel σ A → rRel σ A → jm_H α cy D (nA s) s σ H locs → W p l e room_1 s m #[Value.ref b] below meth c H locs cells slots Q (F0 m 1181 ls [])) : W p l e room_1 s m #[Value.ref b] below meth c H locs cells slots Q (F0 m 1033 ls []) := by
  obtain ⟨hx, hb, -, -, -, -, -, -, -, -⟩ := X.1
  obtain ⟨v, A', hA', hcc, hrr⟩ := P_kind hA (xs (i + 1))
  obtain ⟨σ1, c1, c2, c3⟩ := hcc σ hc
  obtain ⟨σ2, r1, r2, r3⟩ := hrr σ1 (hr.fr c3)
  obtain ⟨x, rfl⟩ := jm_call_I (M := jD_kind) (by decide +kernel) c1
  refine lv_aload_n hx hb d_law_1033 rfl (lv_at hl 1 rfl) ?_
  refine lw_ld (lv := []) (k := 1) X hH (lv_at hl 0 rfl) (lv_at hl 3 rfl) (by decide) (by omega) hL d_law_1034 d_law_1035 d_law_1036 d_law_1037 d_law_1038 ?_
  refine lw_cv (na := 1) (as := [jm_I (xs (i + 1))]) (st := []) (k := 0) X jm_o77 (jm_in (List.mem_of_getElem? (i := 534) (by decide +kernel))) (jm_in (List.mem_of_getElem? (i := 535) (by decide +kernel))) (jm_in (List.mem_of_getElem? (i := 536) (by decide +kernel))) (jm_in (List.mem_of_getElem? (i := 1) (by decide +kernel))) (by decide +kernel) rfl (Or.inl ⟨by decide, by decide⟩) (⟨trivial, trivial⟩) rfl (Nat.le_of_ble_eq_true rfl) (Nat.le_of_ble_eq_true rfl) hl.1 c1 hH d_law_1039 (fun H locs hH => ?_) hcs
  refine lv_aload_n hx hb d_law_1042 rfl (lv_at hl 2 rfl) ?_
  refine lw_ld (lv := []) (k := 1) X hH (lv_at hl 0 rfl) (lv_at hl 3 rfl) (by decide) (by omega) hL d_law_1043 d_law_1044 d_law_1045 d_law_1046 d_law_1047 ?_
  refine lw_cv (na := 1) (as := [jm_I (xs (i + 1))]) (st := [jm_cv α (jm_I x)]) (k := 21) X jm_o155 (jm_in (List.mem_of_getElem? (i := 944) (by decide +kernel))) (jm_in (List.mem_of_getElem? (i := 945) (by decide +kernel))) (jm_in (List.mem_of_getElem? (i := 946) (by decide +kernel))) (jm_in (List.mem_of_getElem? (i := 6) (by decide +kernel))) (by decide +kernel) rfl (Or.inl ⟨by decide, by decide⟩) (⟨trivial, trivial⟩) rfl (Nat.le_of_ble_eq_true rfl) (Nat.le_of_ble_eq_true rfl) hl.1 r1 hH d_law_1048 (fun H locs hH => ?_) hcs
  refine lv_icmp_eq (tgt := 1181) hx hb d_law_1051 (by decide) (fun _ => next A' σ2 _ _ hA' (c2.fr r3) r2 hH) (fun h9 => absurd rfl h9)
theorem lwc_28 (X : LX α cy D p s m meth c b L xs) (hL : L ≤ 3072) {i : Nat} (hi : i + 5 < L) {A : aS} (hA : okA A) (hc : cRel σ A) (hr : rRel σ A) (hH : jm_H α cy D (nA s) s σ H locs) (hl : lv_has ls 4 [(0, .ref b), (1, .ref (α 0 0)), (2, .ref (α 21 0)), (3, .int (nI i))]) (hcs : cells ≤ 600000 ∧ slots ≤ 7302250) (next : ∀ (A : aS) (σ : jm_S) (H : Heap) (locs : List Loc), okA A → cRel σ A → rRel σ A → jm_H α cy D (nA s) s σ H locs → W p l e room_1 s m #[Value.ref b] below meth c H locs cells slots Q (F0 m 1181 ls [])) : W p l e room_1 s m #[Value.ref b] below meth c H locs cells slots Q (F0 m 1056 ls []) := by
  obtain ⟨hx, hb, -, -, -, -, -, -, -, -⟩ := X.1
  obtain ⟨v, A', hA', hcc, hrr⟩ := P_as hA (xs (i + 1)) (xs (i + 2))
  obtain ⟨σ1, c1, c2, c3⟩ := hcc σ hc
  obtain ⟨σ2, r1, r2, r3⟩ := hrr σ1 (hr.fr c3)
  obtain ⟨x, rfl⟩ := jm_call_I (M := jD_as) (by decide +kernel) c1
  refine lv_aload_n hx hb d_law_1056 rfl (lv_at hl 1 rfl) ?_
  refine lw_ld (lv := []) (k := 1) X hH (lv_at hl 0 rfl) (lv_at hl 3 rfl) (by decide) (by omega) hL d_law_1057 d_law_1058 d_law_1059 d_law_1060 d_law_1061 ?_
  refine lw_ld (lv := []) (k := 2) X hH (lv_at hl 0 rfl) (lv_at hl 3 rfl) (by decide) (by omega) hL d_law_1062 d_law_1063 d_law_1064 d_law_1065 d_law_1066 ?_
  refine lw_cv (na := 2) (as := [jm_I (xs (i + 1)), jm_I (xs (i + 2))]) (st := []) (k := 0) X jm_o78 (jm_in (List.mem_of_getElem? (i := 538) (by decide +kernel))) (jm_in (List.mem_of_getElem? (i := 539) (by decide +kernel))) (jm_in (List.mem_of_getElem? (i := 540) (by decide +kernel))) (jm_in (List.mem_of_getElem? (i := 1) (by decide +kernel))) (by decide +kernel) rfl (Or.inl ⟨by decide, by decide⟩) (⟨trivial, ⟨trivial, trivial⟩⟩) rfl (Nat.le_of_ble_eq_true rfl) (Nat.le_of_ble_eq_true rfl) hl.1 c1 hH d_law_1067 (fun H locs hH => ?_) hcs
  refine lv_aload_n hx hb d_law_1070 rfl (lv_at hl 2 rfl) ?_
  refine lw_ld (lv := []) (k := 1) X hH (lv_at hl 0 rfl) (lv_at hl 3 rfl) (by decide) (by omega) hL d_law_1071 d_law_1072 d_law_1073 d_law_1074 d_law_1075 ?_
  refine lw_ld (lv := []) (k := 2) X hH (lv_at hl 0 rfl) (lv_at hl 3 rfl) (by decide) (by omega) hL d_law_1076 d_law_1077 d_law_1078 d_law_1079 d_law_1080 ?_
  refine lw_cv (na := 2) (as := [jm_I (xs (i + 1)), jm_I (xs (i + 2))]) (st := [jm_cv α (jm_I x)]) (k := 21) X jm_o156 (jm_in (List.mem_of_getElem? (i := 948) (by decide +kernel))) (jm_in (List.mem_of_getElem? (i := 949) (by decide +kernel))) (jm_in (List.mem_of_getElem? (i := 950) (by decide +kernel))) (jm_in (List.mem_of_getElem? (i := 6) (by decide +kernel))) (by decide +kernel) rfl (Or.inl ⟨by decide, by decide⟩) (⟨trivial, ⟨trivial, trivial⟩⟩) rfl (Nat.le_of_ble_eq_true rfl) (Nat.le_of_ble_eq_true rfl) hl.1 r1 hH d_law_1081 (fun H locs hH => ?_) hcs
  refine lv_icmp_eq (tgt := 1181) hx hb d_law_1084 (by decide) (fun _ => next A' σ2 _ _ hA' (c2.fr r3) r2 hH) (fun h9 => absurd rfl h9)
theorem lwc_29 (X : LX α cy D p s m meth c b L xs) (hL : L ≤ 3072) {i : Nat} (hi : i + 5 < L) {A : aS} (hA : okA A) (hc : cRel σ A) (hr : rRel σ A) (hH : jm_H α cy D (nA s) s σ H locs) (hl : lv_has ls 4 [(0, .ref b), (1, .ref (α 0 0)), (2, .ref (α 21 0)), (3, .int (nI i))]) (hcs : cells ≤ 600000 ∧ slots ≤ 7302250) (next : ∀ (A : aS) (σ : jm_S) (H : Heap) (locs : List Loc), okA A → cRel σ A → rRel σ A → jm_H α cy D (nA s) s σ H locs → W p l e room_1 s m #[Value.ref b] below meth c H locs cells slots Q (F0 m 1181 ls [])) : W p l e room_1 s m #[Value.ref b] below meth c H locs cells slots Q (F0 m 1089 ls []) := by
  obtain ⟨hx, hb, -, -, -, -, -, -, -, -⟩ := X.1
  obtain ⟨v, A', hA', hcc, hrr⟩ := P_ask hA (xs (i + 1)) (xs (i + 2))
  obtain ⟨σ1, c1, c2, c3⟩ := hcc σ hc
  obtain ⟨σ2, r1, r2, r3⟩ := hrr σ1 (hr.fr c3)
  obtain ⟨x, rfl⟩ := jm_call_I (M := jD_ask) (by decide +kernel) c1
  refine lv_aload_n hx hb d_law_1089 rfl (lv_at hl 1 rfl) ?_
  refine lw_ld (lv := []) (k := 1) X hH (lv_at hl 0 rfl) (lv_at hl 3 rfl) (by decide) (by omega) hL d_law_1090 d_law_1091 d_law_1092 d_law_1093 d_law_1094 ?_
  refine lw_ld (lv := []) (k := 2) X hH (lv_at hl 0 rfl) (lv_at hl 3 rfl) (by decide) (by omega) hL d_law_1095 d_law_1096 d_law_1097 d_law_1098 d_law_1099 ?_
  refine lw_cv (na := 2) (as := [jm_I (xs (i + 1)), jm_I (xs (i + 2))]) (st := []) (k := 0) X jm_o79 (jm_in (List.mem_of_getElem? (i := 547) (by decide +kernel))) (jm_in (List.mem_of_getElem? (i := 548) (by decide +kernel))) (jm_in (List.mem_of_getElem? (i := 549) (by decide +kernel))) (jm_in (List.mem_of_getElem? (i := 1) (by decide +kernel))) (by decide +kernel) rfl (Or.inl ⟨by decide, by decide⟩) (⟨trivial, ⟨trivial, trivial⟩⟩) rfl (Nat.le_of_ble_eq_true rfl) (Nat.le_of_ble_eq_true rfl) hl.1 c1 hH d_law_1100 (fun H locs hH => ?_) hcs
  refine lv_aload_n hx hb d_law_1103 rfl (lv_at hl 2 rfl) ?_
  refine lw_ld (lv := []) (k := 1) X hH (lv_at hl 0 rfl) (lv_at hl 3 rfl) (by decide) (by omega) hL d_law_1104 d_law_1105 d_law_1106 d_law_1107 d_law_1108 ?_
  refine lw_ld (lv := []) (k := 2) X hH (lv_at hl 0 rfl) (lv_at hl 3 rfl) (by decide) (by omega) hL d_law_1109 d_law_1110 d_law_1111 d_law_1112 d_law_1113 ?_
  refine lw_cv (na := 2) (as := [jm_I (xs (i + 1)), jm_I (xs (i + 2))]) (st := [jm_cv α (jm_I x)]) (k := 21) X jm_o162 (jm_in (List.mem_of_getElem? (i := 955) (by decide +kernel))) (jm_in (List.mem_of_getElem? (i := 956) (by decide +kernel))) (jm_in (List.mem_of_getElem? (i := 957) (by decide +kernel))) (jm_in (List.mem_of_getElem? (i := 6) (by decide +kernel))) (by decide +kernel) rfl (Or.inl ⟨by decide, by decide⟩) (⟨trivial, ⟨trivial, trivial⟩⟩) rfl (Nat.le_of_ble_eq_true rfl) (Nat.le_of_ble_eq_true rfl) hl.1 r1 hH d_law_1114 (fun H locs hH => ?_) hcs
  refine lv_icmp_eq (tgt := 1181) hx hb d_law_1117 (by decide) (fun _ => next A' σ2 _ _ hA' (c2.fr r3) r2 hH) (fun h9 => absurd rfl h9)
theorem lwc_30 (X : LX α cy D p s m meth c b L xs) (hL : L ≤ 3072) {i : Nat} (hi : i + 5 < L) {A : aS} (hA : okA A) (hc : cRel σ A) (hr : rRel σ A) (hH : jm_H α cy D (nA s) s σ H locs) (hl : lv_has ls 4 [(0, .ref b), (1, .ref (α 0 0)), (2, .ref (α 21 0)), (3, .int (nI i))]) (hcs : cells ≤ 600000 ∧ slots ≤ 7302250) (next : ∀ (A : aS) (σ : jm_S) (H : Heap) (locs : List Loc), okA A → cRel σ A → rRel σ A → jm_H α cy D (nA s) s σ H locs → W p l e room_1 s m #[Value.ref b] below meth c H locs cells slots Q (F0 m 1181 ls [])) : W p l e room_1 s m #[Value.ref b] below meth c H locs cells slots Q (F0 m 1122 ls []) := by
  obtain ⟨hx, hb, -, -, -, -, -, -, -, -⟩ := X.1
  obtain ⟨v, A', hA', hcc, hrr⟩ := P_trace hA (xs (i + 1))
  obtain ⟨σ1, c1, c2, c3⟩ := hcc σ hc
  obtain ⟨σ2, r1, r2, r3⟩ := hrr σ1 (hr.fr c3)
  obtain ⟨x, rfl⟩ := jm_call_I (M := jD_trace) (by decide +kernel) c1
  refine lv_aload_n hx hb d_law_1122 rfl (lv_at hl 1 rfl) ?_
  refine lw_ld (lv := []) (k := 1) X hH (lv_at hl 0 rfl) (lv_at hl 3 rfl) (by decide) (by omega) hL d_law_1123 d_law_1124 d_law_1125 d_law_1126 d_law_1127 ?_
  refine lw_cv (na := 1) (as := [jm_I (xs (i + 1))]) (st := []) (k := 0) X jm_o80 (jm_in (List.mem_of_getElem? (i := 567) (by decide +kernel))) (jm_in (List.mem_of_getElem? (i := 568) (by decide +kernel))) (jm_in (List.mem_of_getElem? (i := 569) (by decide +kernel))) (jm_in (List.mem_of_getElem? (i := 1) (by decide +kernel))) (by decide +kernel) rfl (Or.inl ⟨by decide, by decide⟩) (⟨trivial, trivial⟩) rfl (Nat.le_of_ble_eq_true rfl) (Nat.le_of_ble_eq_true rfl) hl.1 c1 hH d_law_1128 (fun H locs hH => ?_) hcs
  refine lv_aload_n hx hb d_law_1131 rfl (lv_at hl 2 rfl) ?_
  refine lw_ld (lv := []) (k := 1) X hH (lv_at hl 0 rfl) (lv_at hl 3 rfl) (by decide) (by omega) hL d_law_1132 d_law_1133 d_law_1134 d_law_1135 d_law_1136 ?_
  refine lw_cv (na := 1) (as := [jm_I (xs (i + 1))]) (st := [jm_cv α (jm_I x)]) (k := 21) X jm_o163 (jm_in (List.mem_of_getElem? (i := 979) (by decide +kernel))) (jm_in (List.mem_of_getElem? (i := 980) (by decide +kernel))) (jm_in (List.mem_of_getElem? (i := 981) (by decide +kernel))) (jm_in (List.mem_of_getElem? (i := 6) (by decide +kernel))) (by decide +kernel) rfl (Or.inl ⟨by decide, by decide⟩) (⟨trivial, trivial⟩) rfl (Nat.le_of_ble_eq_true rfl) (Nat.le_of_ble_eq_true rfl) hl.1 r1 hH d_law_1137 (fun H locs hH => ?_) hcs
  refine lv_icmp_eq (tgt := 1181) hx hb d_law_1140 (by decide) (fun _ => next A' σ2 _ _ hA' (c2.fr r3) r2 hH) (fun h9 => absurd rfl h9)
theorem lwc_31 (X : LX α cy D p s m meth c b L xs) (hL : L ≤ 3072) {i : Nat} (hi : i + 5 < L) {A : aS} (hA : okA A) (hc : cRel σ A) (hr : rRel σ A) (hH : jm_H α cy D (nA s) s σ H locs) (hl : lv_has ls 4 [(0, .ref b), (1, .ref (α 0 0)), (2, .ref (α 21 0)), (3, .int (nI i))]) (hcs : cells ≤ 600000 ∧ slots ≤ 7302250) (next : ∀ (A : aS) (σ : jm_S) (H : Heap) (locs : List Loc), okA A → cRel σ A → rRel σ A → jm_H α cy D (nA s) s σ H locs → W p l e room_1 s m #[Value.ref b] below meth c H locs cells slots Q (F0 m 1181 ls [])) : W p l e room_1 s m #[Value.ref b] below meth c H locs cells slots Q (F0 m 1145 ls []) := by
  obtain ⟨hx, hb, -, -, -, -, -, -, -, -⟩ := X.1
  obtain ⟨v, A', hA', hcc, hrr⟩ := P_count hA (xs (i + 1))
  obtain ⟨σ1, c1, c2, c3⟩ := hcc σ hc
  obtain ⟨σ2, r1, r2, r3⟩ := hrr σ1 (hr.fr c3)
  obtain ⟨x, rfl⟩ := jm_call_I (M := jD_count) (by decide +kernel) c1
  refine lv_aload_n hx hb d_law_1145 rfl (lv_at hl 1 rfl) ?_
  refine lw_ld (lv := []) (k := 1) X hH (lv_at hl 0 rfl) (lv_at hl 3 rfl) (by decide) (by omega) hL d_law_1146 d_law_1147 d_law_1148 d_law_1149 d_law_1150 ?_
  refine lw_cv (na := 1) (as := [jm_I (xs (i + 1))]) (st := []) (k := 0) X jm_o81 (jm_in (List.mem_of_getElem? (i := 571) (by decide +kernel))) (jm_in (List.mem_of_getElem? (i := 572) (by decide +kernel))) (jm_in (List.mem_of_getElem? (i := 573) (by decide +kernel))) (jm_in (List.mem_of_getElem? (i := 1) (by decide +kernel))) (by decide +kernel) rfl (Or.inl ⟨by decide, by decide⟩) (⟨trivial, trivial⟩) rfl (Nat.le_of_ble_eq_true rfl) (Nat.le_of_ble_eq_true rfl) hl.1 c1 hH d_law_1151 (fun H locs hH => ?_) hcs
  refine lv_aload_n hx hb d_law_1154 rfl (lv_at hl 2 rfl) ?_
  refine lw_ld (lv := []) (k := 1) X hH (lv_at hl 0 rfl) (lv_at hl 3 rfl) (by decide) (by omega) hL d_law_1155 d_law_1156 d_law_1157 d_law_1158 d_law_1159 ?_
  refine lw_cv (na := 1) (as := [jm_I (xs (i + 1))]) (st := [jm_cv α (jm_I x)]) (k := 21) X jm_o164 (jm_in (List.mem_of_getElem? (i := 983) (by decide +kernel))) (jm_in (List.mem_of_getElem? (i := 984) (by decide +kernel))) (jm_in (List.mem_of_getElem? (i := 985) (by decide +kernel))) (jm_in (List.mem_of_getElem? (i := 6) (by decide +kernel))) (by decide +kernel) rfl (Or.inl ⟨by decide, by decide⟩) (⟨trivial, trivial⟩) rfl (Nat.le_of_ble_eq_true rfl) (Nat.le_of_ble_eq_true rfl) hl.1 r1 hH d_law_1160 (fun H locs hH => ?_) hcs
  refine lv_icmp_eq (tgt := 1181) hx hb d_law_1163 (by decide) (fun _ => next A' σ2 _ _ hA' (c2.fr r3) r2 hH) (fun h9 => absurd rfl h9)
theorem lwc_32 (X : LX α cy D p s m meth c b L xs) (hL : L ≤ 3072) {i : Nat} (hi : i + 5 < L) {A : aS} (hA : okA A) (hc : cRel σ A) (hr : rRel σ A) (hH : jm_H α cy D (nA s) s σ H locs) (hl : lv_has ls 4 [(0, .ref b), (1, .ref (α 0 0)), (2, .ref (α 21 0)), (3, .int (nI i))]) (hcs : cells ≤ 600000 ∧ slots ≤ 7302250) (next : ∀ (A : aS) (σ : jm_S) (H : Heap) (locs : List Loc), okA A → cRel σ A → rRel σ A → jm_H α cy D (nA s) s σ H locs → W p l e room_1 s m #[Value.ref b] below meth c H locs cells slots Q (F0 m 1181 ls [])) : W p l e room_1 s m #[Value.ref b] below meth c H locs cells slots Q (F0 m 1168 ls []) := by
  obtain ⟨hx, hb, -, -, -, -, -, -, -, -⟩ := X.1
  obtain ⟨v, A', hA', hcc, hrr⟩ := P_status hA
  obtain ⟨σ1, c1, c2, c3⟩ := hcc σ hc
  obtain ⟨σ2, r1, r2, r3⟩ := hrr σ1 (hr.fr c3)
  obtain ⟨x, rfl⟩ := jm_call_I (M := jD_status) (by decide +kernel) c1
  refine lv_aload_n hx hb d_law_1168 rfl (lv_at hl 1 rfl) ?_
  refine lw_cv (na := 0) (as := []) (st := []) (k := 0) X jm_o82 (jm_in (List.mem_of_getElem? (i := 579) (by decide +kernel))) (jm_in (List.mem_of_getElem? (i := 580) (by decide +kernel))) (jm_in (List.mem_of_getElem? (i := 581) (by decide +kernel))) (jm_in (List.mem_of_getElem? (i := 1) (by decide +kernel))) (by decide +kernel) rfl (Or.inl ⟨by decide, by decide⟩) trivial rfl (Nat.le_of_ble_eq_true rfl) (Nat.le_of_ble_eq_true rfl) hl.1 c1 hH d_law_1169 (fun H locs hH => ?_) hcs
  refine lv_aload_n hx hb d_law_1172 rfl (lv_at hl 2 rfl) ?_
  refine lw_cv (na := 0) (as := []) (st := [jm_cv α (jm_I x)]) (k := 21) X jm_o165 (jm_in (List.mem_of_getElem? (i := 987) (by decide +kernel))) (jm_in (List.mem_of_getElem? (i := 988) (by decide +kernel))) (jm_in (List.mem_of_getElem? (i := 989) (by decide +kernel))) (jm_in (List.mem_of_getElem? (i := 6) (by decide +kernel))) (by decide +kernel) rfl (Or.inl ⟨by decide, by decide⟩) trivial rfl (Nat.le_of_ble_eq_true rfl) (Nat.le_of_ble_eq_true rfl) hl.1 r1 hH d_law_1173 (fun H locs hH => ?_) hcs
  refine lv_icmp_eq (tgt := 1181) hx hb d_law_1176 (by decide) (fun _ => next A' σ2 _ _ hA' (c2.fr r3) r2 hH) (fun h9 => absurd rfl h9)
end LC
