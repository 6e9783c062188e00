theorem iw_X2_put_X2 : ∀ w ∈ wsX20, w ∈ wsX2_put := by decide +kernel
theorem iw_X2_placeOf_X2 : ∀ w ∈ wsX20, w ∈ wsX2_placeOf := by decide +kernel
theorem iw_X2_lookUp_X2 : ∀ w ∈ wsX20, w ∈ wsX2_lookUp := by decide +kernel
theorem iw_X2_above_X2 : ∀ w ∈ wsX20, w ∈ wsX2_above := by decide +kernel
theorem iw_X2_inherits_X2 : ∀ w ∈ wsX20, w ∈ wsX2_inherits := by decide +kernel
theorem pto_nf {O : Ob} {k i v : Int32} (h : isF O k i = false) : pto O k i v = (0, O) := by
  cases e : tk O k with
  | none => exact pto_none e
  | some j => exact pto_no e (fun q => isF_f h e q.2)
theorem rm_put {O : Ob} {md sz fl : Nat → Int32} (hrm : rm O md sz fl) {j n : Nat} {v : Int32} (hl : O.2.2.1 j ≤ 40) (hn : n < O.2.2.1 j) : rm (obf O j (upd (O.2.2.2 j) n v)) md sz (upd fl (40 * j + n) v) := by
  intro k h1 h2
  rcases hrm k h1 h2 with hm | ⟨m1, m2, m3, m4, m5, m6⟩
  · exact Or.inl hm
  · refine Or.inr ⟨m1, m2, m3, m4, m5, fun i hi => ?_⟩
    have hi : i < O.2.2.1 k := hi
    show upd fl (40 * j + n) v (40 * k + i) = va_up O.2.2.2 j (upd (O.2.2.2 j) n v) k i
    by_cases hk : k = j
    · subst hk
      rw [va_up_self]
      by_cases hin : i = n
      · subst hin
        rw [pk_us, pk_us]
      · rw [pk_un (by omega), pk_un hin]
        exact m6 i hi
    · rw [va_up_ne _ _ hk, pk_un (by omega)]
      exact m6 i hi
def pmd (O : Ob) (d sel : Int32) : Option Nat := match tv O d with
  | none => none
  | some e => pm (O.2.2.2 e) (O.2.2.1 e) sel
def pmi (o : Option Nat) : Int32 := match o with
  | none => -1
  | some i => nI i
theorem pmd_some {O : Ob} {d sel : Int32} {i : Nat} (h : pmd O d sel = some i) : ∃ e, tv O d = some e ∧ pm (O.2.2.2 e) (O.2.2.1 e) sel = some i ∧ i + 1 < O.2.2.1 e := by
  unfold pmd at h
  split at h
  · cases h
  · rename_i e he
    exact ⟨e, he, h, pm_lt h⟩
theorem fnd_pmd {O : Ob} {d sel : Int32} (h : pmd O d sel = none) : fnd O d sel = none := by
  cases e : tv O d with
  | none => exact fnd_none e
  | some j =>
    refine fnd_not e ?_
    unfold pmd at h
    rw [e] at h
    exact h
theorem fof_le {O : Ob} {md sz fl : Nat → Int32} (hrm : rm O md sz fl) (v : Int32) : fof O v ≤ 40 := by
  unfold fof
  split
  · omega
  · rename_i j hj
    obtain ⟨-, -, h1, h2, h3⟩ := tv_half hj
    exact (rm_of hrm h1 h2 h3).2.1
theorem fof_lt {O : Ob} {v : Int32} (h : fof O v < 2) : cls O v = none := by
  unfold cls
  unfold fof at h
  split
  · rfl
  · rename_i j hj
    rw [hj] at h
    have h : O.2.2.1 j < 2 := h
    rw [if_neg (by omega)]
theorem fof_pos {O : Ob} {v : Int32} (h : 0 < fof O v) : ∃ j, tv O v = some j ∧ fof O v = O.2.2.1 j := by
  unfold fof at h ⊢
  split at h
  · omega
  · rename_i j hj
    exact ⟨j, hj, rfl⟩
theorem fof_ge {O : Ob} {v : Int32} (h : 2 ≤ fof O v) : ∃ j, tv O v = some j ∧ cls O v = some j ∧ 2 ≤ O.2.2.1 j := by
  obtain ⟨j, hj, e⟩ := fof_pos (O := O) (v := v) (by omega)
  rw [e] at h
  refine ⟨j, hj, ?_, h⟩
  unfold cls
  rw [hj]
  show (if _ then _ else _) = _
  rw [if_pos h]
theorem bad_0 {O : Ob} {d : Int32} (h : d = 0) : bad O d = false := by
  unfold bad
  rw [if_pos h]
theorem bad_ofd {O : Ob} {d : Int32} (h : ¬ d = 0) : bad O d = !(ofd O d) := by
  unfold bad ofd
  rw [if_neg h]
  cases tv O d <;> rfl
set_option maxHeartbeats 4000000 in
set_option maxRecDepth 100000 in
theorem c_X2_put (l : Launch) (D : va_G) (cI cZ cT : ClassId) (h a1 a2 a3 : Nat) (md sz fl : Nat → Int32) (O : Ob) (hrm : rm O md sz fl) (mt wh : Int32) (H0 : Heap) (k i v : Int32) : Met l yX2_put wsX2_put ({ frames := 2, cells := 0, slots := 0, locals := 43 }) (pK D cI cZ cT [.ref h, .int k, .int i, .int v] (fun H => H = H0 ∧ my D cI cZ h a1 a2 a3 md sz fl mt wh H0)) (pm_Qi (fun r H1 => r = (pto O k i v).1 ∧ ∃ fl' : Nat → Int32, rm (pto O k i v).2 md sz fl' ∧ my D cI cZ h a1 a2 a3 md sz fl' mt wh H1) (fun q : Nat => q = a3)) 0 0 (fun q : Nat => q = a3) := by
  refine Met.ofW (cc := cX2_put) (maxL := 4) (ret := (some .boolean)) (by decide) rfl ?_
  intro p e s m args below meth c s₁ B hml hv
  obtain ⟨rfl, hpic, hKN⟩ := hv
  have hK := hKN.1
  have hx := B.exec
  have hb := B.bytes
  have hr := B.returns
  have hts := atoms_spec (ws := wsX2_put) B.pre
  have hown : s.vm.findClass RX2 = some m.cls := findClass_of_methodNamed B.named
  have hlocks := B.notSynchronized
  obtain ⟨hH, hp⟩ := hpic
  subst hH
  have hS : va_S (fun q : Nat => q = a3) s.heap s.heap [] := va_S.rf
  have hl := lv_entry ([.ref h, .int k, .int i, .int v]) (n := 4) (Nat.le_of_ble_eq_true rfl)
  rw [lg_entry_eq]
  generalize (lg_sl ([.ref h, .int k, .int i, .int v]) ++ List.replicate (4 - (lg_sl ([.ref h, .int k, .int i, .int v])).length) Slot.unset).toArray = ls at hl ⊢
  have hl : lv_has ls 4 [(0, .ref h), (1, .int k), (2, .int i), (3, .int v)] := hl
  refine lv_aload_n hx hb dX2_put_0 rfl (lv_at hl 0 rfl) ?_
  refine lv_iload_n hx hb dX2_put_1 rfl (lv_at hl 1 rfl) ?_
  refine lv_iload_n hx hb dX2_put_2 rfl (lv_at hl 2 rfl) ?_
  refine pq_b (va_runV (As := [.int k, .int i]) (rest := []) ⟨hx, hb, hml, hown, hts⟩ (c_X2_isField l D cI cZ cT h a1 a2 a3 md sz fl O hrm mt wh _ k i) (cwV 2 hts gX2_put_X2_isField rfl rfl rfl (by decide +kernel) ⟨Nat.le_of_ble_eq_true rfl, Nat.le_of_ble_eq_true rfl⟩) (pre_v ⟨rfl, hp⟩ hKN (recv hKN hp.1 rfl)) rfl rfl hl.1 rfl (lv_room (Nat.le_of_ble_eq_true rfl)) dX2_put_3 ⟨Nat.zero_le _, Nat.zero_le _⟩) (fun b3 => ?_) (fun b3 => ?_)
  · refine lv_if_eq (tgt := 17) hx hb dX2_put_6 (by decide) (fun _ => ?_) (fun c9 => absurd (by decide) c9)
    refine lv_iconst (v := 0) hx hb dX2_put_17 (by decide) ?_
    refine W.zret (v := 0) (ty := .boolean) hx hb hr rfl (fun t ht hW => ⟨⟨_, rfl, ?_⟩, hS.F ht⟩) hS.2.2 dX2_put_18
    rw [ht]
    rw [pto_nf b3]
    exact ⟨rfl, fl, hrm, hp⟩
  · obtain ⟨j3, e3, y3, z3⟩ := isF_t b3
    obtain ⟨n3, l3, u3, m3⟩ := tk_num e3
    obtain ⟨s3, t3, w3, x3⟩ := rm_of hrm l3 u3 m3
    have hix := ix_k (i := i) n3 u3 y3 (by omega)
    refine lv_if_eq (tgt := 17) hx hb dX2_put_6 (by decide) (fun c9 => absurd c9 (by decide)) (fun _ => ?_)
    refine lv_aload_n hx hb dX2_put_9 rfl (lv_at hl 0 rfl) ?_
    refine lv_iload_n hx hb dX2_put_10 rfl (lv_at hl 3 rfl) ?_
    refine pq_b (va_runV (As := [.int v]) (rest := []) ⟨hx, hb, hml, hown, hts⟩ (c_X2_isValue l D cI cZ cT h a1 a2 a3 md sz fl O hrm mt wh _ v) (cwV 1 hts gX2_put_X2_isValue rfl rfl rfl (by decide +kernel) ⟨Nat.le_of_ble_eq_true rfl, Nat.le_of_ble_eq_true rfl⟩) (pre_v ⟨rfl, hp⟩ hKN (recv hKN hp.1 rfl)) rfl rfl hl.1 rfl (lv_room (Nat.le_of_ble_eq_true rfl)) dX2_put_11 ⟨Nat.zero_le _, Nat.zero_le _⟩) (fun b11 => ?_) (fun b11 => ?_)
    · refine lv_if_ne (tgt := 19) hx hb dX2_put_14 (by decide) (fun c9 => absurd rfl c9) (fun _ => ?_)
      refine lv_iconst (v := 0) hx hb dX2_put_17 (by decide) ?_
      refine W.zret (v := 0) (ty := .boolean) hx hb hr rfl (fun t ht hW => ⟨⟨_, rfl, ?_⟩, hS.F ht⟩) hS.2.2 dX2_put_18
      rw [ht]
      rw [pto_no e3 (by rw [b11]; simp)]
      exact ⟨rfl, fl, hrm, hp⟩
    · refine lv_if_ne (tgt := 19) hx hb dX2_put_14 (by decide) (fun _ => ?_) (fun c9 => absurd c9 (by decide))
      refine lv_aload_n hx hb dX2_put_19 rfl (lv_at hl 0 rfl) ?_
      refine va_get (D := D) (ci := 2) (v := .ref a3) (C := RX2) (T := TX2) (N := 5) hx hb hts (iw_X2_put_X2) hown hK (one hp.1) 0 rfl rfl 2 (by decide) (hts (.fieldLink RX2 17 "MethodBookModel" "fields" "[I") (by decide +kernel)) (fun _ h9 => h9) rfl dX2_put_20 ?_
      refine lv_bipush (v := 40) hx hb dX2_put_23 (by decide) ?_
      refine lv_iload_n hx hb dX2_put_25 rfl (lv_at hl 1 rfl) ?_
      refine lv_imul hx hb dX2_put_26 ?_
      refine lv_iload_n hx hb dX2_put_27 rfl (lv_at hl 2 rfl) ?_
      refine lv_iadd hx hb dX2_put_28 ?_
      refine lv_iload_n hx hb dX2_put_29 rfl (lv_at hl 3 rfl) ?_
      refine pw_iast hx hb hK hS rfl 0 hp.2.2.2.1 rfl (vp_in_iff.mpr ⟨by rw [hix]; omega, by rw [hix]; omega⟩) dX2_put_30 (fun H locs hf hz ho hS => ?_)
      refine lv_iconst (v := 1) hx hb dX2_put_31 (by decide) ?_
      refine W.zret (v := 1) (ty := .boolean) hx hb hr rfl (fun t ht hW => ⟨⟨_, rfl, ?_⟩, hS.F ht⟩) hS.2.2 dX2_put_32
      rw [ht]
      rw [pto_yes e3 ⟨b11, y3, z3⟩]
      refine ⟨rfl, _, ?_, my_3 hp hf ho⟩
      rw [i_cl (40 * k + i), hix, show (40 * (j3 : Int) + i.toInt).toNat = 40 * j3 + i.toNatClampNeg by rw [i_cl]; omega]
      exact rm_put hrm t3 (by rw [i_cl]; omega)
set_option maxHeartbeats 4000000 in
set_option maxRecDepth 100000 in
theorem c_X2_placeOf (l : Launch) (D : va_G) (cI cZ cT : ClassId) (h a1 a2 a3 : Nat) (md sz fl : Nat → Int32) (O : Ob) (hrm : rm O md sz fl) (mt wh : Int32) (H0 : Heap) (d sel : Int32) : Met l yX2_placeOf wsX2_placeOf ({ frames := 2, cells := 0, slots := 0, locals := 42 }) (pK D cI cZ cT [.ref h, .int d, .int sel] (fun H => H = H0 ∧ my D cI cZ h a1 a2 a3 md sz fl mt wh H0)) (vp_Si (fun r => r = pmi (pmd O d sel))) 0 0 (fun _ => False) := by
  refine Met.ofW (cc := cX2_placeOf) (maxL := 5) (ret := (some .int)) (by decide) rfl ?_
  intro p e9 s m args below meth c s₁ B hml hv
  obtain ⟨rfl, hpic, hKN⟩ := hv
  have hK := hKN.1
  have hx := B.exec
  have hb := B.bytes
  have hr := B.returns
  have hts := atoms_spec (ws := wsX2_placeOf) B.pre
  have hown : s.vm.findClass RX2 = some m.cls := findClass_of_methodNamed B.named
  have hlocks := B.notSynchronized
  obtain ⟨hH, hp⟩ := hpic
  subst hH
  have hl := lv_entry ([.ref h, .int d, .int sel]) (n := 5) (Nat.le_of_ble_eq_true rfl)
  rw [lg_entry_eq]
  generalize (lg_sl ([.ref h, .int d, .int sel]) ++ List.replicate (5 - (lg_sl ([.ref h, .int d, .int sel])).length) Slot.unset).toArray = ls at hl ⊢
  have hl : lv_has ls 5 [(0, .ref h), (1, .int d), (2, .int sel)] := hl
  refine lv_aload_n hx hb dX2_placeOf_0 rfl (lv_at hl 0 rfl) ?_
  refine lv_iload_n hx hb dX2_placeOf_1 rfl (lv_at hl 1 rfl) ?_
  refine pq_i (va_runV (As := [.int d]) (rest := []) ⟨hx, hb, hml, hown, hts⟩ (c_X2_fieldsOf l D cI cZ cT h a1 a2 a3 md sz fl O hrm mt wh _ d) (cwV 1 hts gX2_placeOf_X2_fieldsOf rfl rfl rfl (by decide +kernel) ⟨Nat.le_of_ble_eq_true rfl, Nat.le_of_ble_eq_true rfl⟩) (pre_v ⟨rfl, hp⟩ hKN (recv hKN hp.1 rfl)) rfl rfl hl.1 rfl (lv_room (Nat.le_of_ble_eq_true rfl)) dX2_placeOf_2 ⟨Nat.zero_le _, Nat.zero_le _⟩) (fun r2 hr2 => ?_)
  rcases htv : tv O d with _ | e
  · have f2 : r2 = nI 0 := by rw [hr2]; unfold fof; rw [htv]
    subst f2
    show W p l _ _ s m _ below meth c _ _ _ _ _ (F0 m 5 ls [.int (nI 0)])
    refine lv_istore_n (lv' := [(3, .int (nI 0)), (0, .ref h), (1, .int d), (2, .int sel)]) hx hb dX2_placeOf_5 rfl hl (by decide) rfl (fun ls hl => ?_)
    refine lv_iconst (v := 0) hx hb dX2_placeOf_6 (by decide) ?_
    refine lv_istore (lv' := [(4, .int 0), (3, .int (nI 0)), (0, .ref h), (1, .int d), (2, .int sel)]) hx hb dX2_placeOf_7 hl (by decide) rfl (fun ls hl => ?_)
    refine lv_iload hx hb dX2_placeOf_9 (lv_at hl 0 rfl) ?_
    refine lv_iconst (v := 1) hx hb dX2_placeOf_11 (by decide) ?_
    refine lv_iadd hx hb dX2_placeOf_12 ?_
    refine lv_iload_n hx hb dX2_placeOf_13 rfl (lv_at hl 1 rfl) ?_
    refine lv_icmp_ge (tgt := 37) hx hb dX2_placeOf_14 (by decide) (fun _ => ?_) (fun c9 => absurd (by decide) c9)
    refine lv_iconst (v := (-1)) hx hb dX2_placeOf_37 (by decide) ?_
    refine W.iret (v := (-1)) hx hb hr (fun t ht hW => ⟨_, rfl, ?_, ht⟩) (fun _ h => absurd h List.not_mem_nil) dX2_placeOf_38
    unfold pmd
    rw [htv]
    rfl
  · have f2 : r2 = nI (O.2.2.1 e) := by rw [hr2]; unfold fof; rw [htv]
    subst f2
    obtain ⟨-, -, l2, u2, m2⟩ := tv_half htv
    have hl40 := (rm_of hrm l2 u2 m2).2.1
    have epd : pmd O d sel = pm (O.2.2.2 e) (O.2.2.1 e) sel := by unfold pmd; rw [htv]
    show W p l _ _ s m _ below meth c _ _ _ _ _ (F0 m 5 ls [.int (nI (O.2.2.1 e))])
    refine lv_istore_n (lv' := [(3, .int (nI (O.2.2.1 e))), (0, .ref h), (1, .int d), (2, .int sel)]) hx hb dX2_placeOf_5 rfl hl (by decide) rfl (fun ls hl => ?_)
    refine lv_iconst (v := 0) hx hb dX2_placeOf_6 (by decide) ?_
    refine lv_istore (lv' := [(4, .int 0), (3, .int (nI (O.2.2.1 e))), (0, .ref h), (1, .int d), (2, .int sel)]) hx hb dX2_placeOf_7 hl (by decide) rfl (fun ls hl => ?_)
    have loop : ∀ (q i : Nat), O.2.2.1 e ≤ i + 2 * q → i ≤ 42 → pm (O.2.2.2 e) (O.2.2.1 e) sel = pmF (O.2.2.2 e) (O.2.2.1 e) sel q i → ∀ ls : Array Slot, lv_has ls 5 [(0, .ref h), (1, .int d), (2, .int sel), (3, .int (nI (O.2.2.1 e))), (4, .int (nI i))] → W p l e9 (headSpec wsX2_placeOf ({ frames := 2, cells := 0, slots := 0, locals := 42 })).room s m ([.ref h, .int d, .int sel] : List Value).toArray below meth c s.heap [] 0 0 (MQ below (vp_Si (fun r => r = pmi (pmd O d sel))) ([.ref h, .int d, .int sel] : List Value).toArray s 0 0 (fun _ => False)) (F0 m 9 ls []) := by
      intro q
      induction q with
      | zero =>
        intro i h1 h2 hq ls hl
        refine lv_iload hx hb dX2_placeOf_9 (lv_at hl 4 rfl) ?_
        refine lv_iconst (v := 1) hx hb dX2_placeOf_11 (by decide) ?_
        refine lv_iadd hx hb dX2_placeOf_12 ?_
        refine lv_iload_n hx hb dX2_placeOf_13 rfl (lv_at hl 3 rfl) ?_
        refine lv_icmp_ge (tgt := 37) hx hb dX2_placeOf_14 (by decide) (fun _ => ?_) (fun c9 => absurd (by rw [← nI_succ]; exact nI_le (by omega) (by omega)) c9)
        refine lv_iconst (v := (-1)) hx hb dX2_placeOf_37 (by decide) ?_
        refine W.iret (v := (-1)) hx hb hr (fun t ht hW => ⟨_, rfl, ?_, ht⟩) (fun _ h => absurd h List.not_mem_nil) dX2_placeOf_38
        rw [epd, hq]
        rfl
      | succ q ih =>
        intro i h1 h2 hq ls hl
        refine lv_iload hx hb dX2_placeOf_9 (lv_at hl 4 rfl) ?_
        refine lv_iconst (v := 1) hx hb dX2_placeOf_11 (by decide) ?_
        refine lv_iadd hx hb dX2_placeOf_12 ?_
        refine lv_iload_n hx hb dX2_placeOf_13 rfl (lv_at hl 3 rfl) ?_
        refine lv_icmp_ge (tgt := 37) hx hb dX2_placeOf_14 (by decide) (fun c14 => ?_) (fun c14 => ?_)
        · simp only [i_lt, i_le, i_0, i_1, i_2, i_4, i_40, i_100, i_400, i_401] at c14
          rw [← nI_succ, nI_toInt (by omega), nI_toInt (by omega)] at c14
          refine lv_iconst (v := (-1)) hx hb dX2_placeOf_37 (by decide) ?_
          refine W.iret (v := (-1)) hx hb hr (fun t ht hW => ⟨_, rfl, ?_, ht⟩) (fun _ h => absurd h List.not_mem_nil) dX2_placeOf_38
          rw [epd, hq, pmF, if_neg (by omega)]
          rfl
        · simp only [i_lt, i_le, i_0, i_1, i_2, i_4, i_40, i_100, i_400, i_401] at c14
          rw [← nI_succ, nI_toInt (by omega), nI_toInt (by omega)] at c14
          refine lv_aload_n hx hb dX2_placeOf_17 rfl (lv_at hl 0 rfl) ?_
          refine lv_iload_n hx hb dX2_placeOf_18 rfl (lv_at hl 1 rfl) ?_
          refine lv_iload hx hb dX2_placeOf_19 (lv_at hl 4 rfl) ?_
          refine pq_i (va_runV (As := [.int d, .int (nI i)]) (rest := []) ⟨hx, hb, hml, hown, hts⟩ (c_X2_field l D cI cZ cT h a1 a2 a3 md sz fl O hrm mt wh _ d e i htv (by omega)) (cwV 2 hts gX2_placeOf_X2_field rfl rfl rfl (by decide +kernel) ⟨Nat.le_of_ble_eq_true rfl, Nat.le_of_ble_eq_true rfl⟩) (pre_v ⟨rfl, hp⟩ hKN (recv hKN hp.1 rfl)) rfl rfl hl.1 rfl (lv_room (Nat.le_of_ble_eq_true rfl)) dX2_placeOf_21 ⟨Nat.zero_le _, Nat.zero_le _⟩) (fun r21 hr21 => ?_)
          subst hr21
          refine lv_iload_n hx hb dX2_placeOf_24 rfl (lv_at hl 2 rfl) ?_
          refine lv_icmp_ne (tgt := 31) hx hb dX2_placeOf_25 (by decide) (fun c25 => ?_) (fun c25 => ?_)
          · refine lv_iinc (v := ((nI i) + 2)) (lv' := [(4, .int ((nI i) + 2)), (0, .ref h), (1, .int d), (2, .int sel), (3, .int (nI (O.2.2.1 e)))]) hx hb dX2_placeOf_31 hl (k := 4) rfl rfl (by decide) rfl (fun ls hl => ?_)
            refine lv_goto (tgt := 9) hx hb dX2_placeOf_34 (by decide) ?_
            rw [nI_s2] at hl
            exact ih (i + 2) (by omega) (by omega) (by rw [hq, pmF, if_pos (by omega), if_neg c25]) _ (lv_sub hl [1, 2, 3, 4, 0] rfl)
          · refine lv_iload hx hb dX2_placeOf_28 (lv_at hl 4 rfl) ?_
            refine W.iret (v := (nI i)) hx hb hr (fun t ht hW => ⟨_, rfl, ?_, ht⟩) (fun _ h => absurd h List.not_mem_nil) dX2_placeOf_30
            rw [epd, hq, pmF, if_pos (by omega), if_pos c25]
            rfl
    exact loop 21 0 (by omega) (by omega) rfl _ (lv_sub hl [2, 3, 4, 1, 0] rfl)
set_option maxHeartbeats 4000000 in
set_option maxRecDepth 100000 in
theorem c_X2_lookUp (l : Launch) (D : va_G) (cI cZ cT : ClassId) (h a1 a2 a3 : Nat) (md sz fl : Nat → Int32) (O : Ob) (hrm : rm O md sz fl) (mt wh : Int32) (H0 : Heap) (c0 sel : Int32) : Met l yX2_lookUp wsX2_lookUp ({ frames := 3, cells := 0, slots := 0, locals := 66 }) (pK D cI cZ cT [.ref h, .int c0, .int sel] (fun H => H = H0 ∧ my D cI cZ h a1 a2 a3 md sz fl mt wh H0)) (pm_Qi (fun r H1 => r = (lk O c0 sel).1 ∧ my D cI cZ h a1 a2 a3 md sz fl (lk O c0 sel).2.1 (lk O c0 sel).2.2 H1) (fun q : Nat => q = h)) 0 0 (fun q : Nat => q = h) := by
  refine Met.ofW (cc := cX2_lookUp) (maxL := 7) (ret := (some .int)) (by decide) rfl ?_
  intro p e s m args below meth c s₁ B hml hv
  obtain ⟨rfl, hpic, hKN⟩ := hv
  have hK := hKN.1
  have hx := B.exec
  have hb := B.bytes
  have hr := B.returns
  have hts := atoms_spec (ws := wsX2_lookUp) B.pre
  have hown : s.vm.findClass RX2 = some m.cls := findClass_of_methodNamed B.named
  have hlocks := B.notSynchronized
  obtain ⟨hH, hp⟩ := hpic
  subst hH
  have hS : va_S (fun q : Nat => q = h) s.heap s.heap [] := va_S.rf
  have hl := lv_entry ([.ref h, .int c0, .int sel]) (n := 7) (Nat.le_of_ble_eq_true rfl)
  rw [lg_entry_eq]
  generalize (lg_sl ([.ref h, .int c0, .int sel]) ++ List.replicate (7 - (lg_sl ([.ref h, .int c0, .int sel])).length) Slot.unset).toArray = ls at hl ⊢
  have hl : lv_has ls 7 [(0, .ref h), (1, .int c0), (2, .int sel)] := hl
  refine lv_aload_n hx hb dX2_lookUp_0 rfl (lv_at hl 0 rfl) ?_
  refine lv_iconst (v := 0) hx hb dX2_lookUp_1 (by decide) ?_
  refine pw_put (ci := 2) (v := .int 0) (ty := .int) (C := RX2) (T := TX2) (N := 5) hx hb hts (iw_X2_lookUp_X2) tyX2 tyX2_ok nmX2 hown hK hp.1 hS rfl rfl 3 (by decide) (hts (.fieldLink RX2 39 "MethodBookModel" "method" "I") (by decide +kernel)) (fun _ h9 => h9) rfl (by decide +kernel) rfl rfl (Nat.le_of_ble_eq_true rfl) dX2_lookUp_2 (fun H locs hh hz ho hS => ?_)
  replace hp := my_h (mt' := 0) (wh' := wh) hp hh ho
  refine lv_aload_n hx hb dX2_lookUp_5 rfl (lv_at hl 0 rfl) ?_
  refine lv_iconst (v := 0) hx hb dX2_lookUp_6 (by decide) ?_
  refine pw_put (ci := 2) (v := .int 0) (ty := .int) (C := RX2) (T := TX2) (N := 5) hx hb hts (iw_X2_lookUp_X2) tyX2 tyX2_ok nmX2 hown hK hp.1 hS rfl rfl 4 (by decide) (hts (.fieldLink RX2 43 "MethodBookModel" "where" "I") (by decide +kernel)) (fun _ h9 => h9) rfl (by decide +kernel) rfl rfl (Nat.le_of_ble_eq_true rfl) dX2_lookUp_7 (fun H locs hh hz ho hS => ?_)
  replace hp := my_h (mt' := 0) (wh' := 0) hp hh ho
  refine lv_aload_n hx hb dX2_lookUp_10 rfl (lv_at hl 0 rfl) ?_
  refine lv_iload_n hx hb dX2_lookUp_11 rfl (lv_at hl 1 rfl) ?_
  refine pq_b (va_runV (As := [.int c0]) (rest := []) ⟨hx, hb, hml, hown, hts⟩ (c_X2_isValue l D cI cZ cT h a1 a2 a3 md sz fl O hrm 0 0 _ c0) (cwV 1 hts gX2_lookUp_X2_isValue rfl rfl rfl (by decide +kernel) ⟨Nat.le_of_ble_eq_true rfl, Nat.le_of_ble_eq_true rfl⟩) (pre_v ⟨rfl, hp⟩ hKN (recv hKN hp.1 rfl)) rfl rfl hl.1 rfl (lv_room (Nat.le_of_ble_eq_true rfl)) dX2_lookUp_12 ⟨Nat.zero_le _, Nat.zero_le _⟩) (fun b12 => ?_) (fun b12 => ?_)
  · refine lv_if_eq (tgt := 26) hx hb dX2_lookUp_15 (by decide) (fun _ => ?_) (fun c9 => absurd (by decide) c9)
    refine lv_bipush (v := (-2)) hx hb dX2_lookUp_26 (by decide) ?_
    refine W.iret (v := (-2)) hx hb hr (fun t ht hW => ⟨⟨_, rfl, ?_⟩, hS.F ht⟩) hS.2.2 dX2_lookUp_28
    rw [ht]
    have e9 : lk O c0 sel = (-2, 0, 0) := by
      unfold lk
      rw [if_neg (by rw [b12]; simp)]
    rw [e9]
    exact ⟨rfl, hp⟩
  · refine lv_if_eq (tgt := 26) hx hb dX2_lookUp_15 (by decide) (fun c9 => absurd c9 (by decide)) (fun _ => ?_)
    refine lv_aload_n hx hb dX2_lookUp_18 rfl (lv_at hl 0 rfl) ?_
    refine lv_iload_n hx hb dX2_lookUp_19 rfl (lv_at hl 2 rfl) ?_
    refine pq_b (va_runV (As := [.int sel]) (rest := []) ⟨hx, hb, hml, hown, hts⟩ (c_X2_isValue l D cI cZ cT h a1 a2 a3 md sz fl O hrm 0 0 _ sel) (cwV 1 hts gX2_lookUp_X2_isValue rfl rfl rfl (by decide +kernel) ⟨Nat.le_of_ble_eq_true rfl, Nat.le_of_ble_eq_true rfl⟩) (pre_v ⟨rfl, hp⟩ hKN (recv hKN hp.1 rfl)) rfl rfl hl.1 rfl (lv_room (Nat.le_of_ble_eq_true rfl)) dX2_lookUp_20 ⟨Nat.zero_le _, Nat.zero_le _⟩) (fun b20 => ?_) (fun b20 => ?_)
    · refine lv_if_ne (tgt := 29) hx hb dX2_lookUp_23 (by decide) (fun c9 => absurd rfl c9) (fun _ => ?_)
      refine lv_bipush (v := (-2)) hx hb dX2_lookUp_26 (by decide) ?_
      refine W.iret (v := (-2)) hx hb hr (fun t ht hW => ⟨⟨_, rfl, ?_⟩, hS.F ht⟩) hS.2.2 dX2_lookUp_28
      rw [ht]
      have e9 : lk O c0 sel = (-2, 0, 0) := by
        unfold lk
        rw [if_neg (by rw [b20]; simp)]
      rw [e9]
      exact ⟨rfl, hp⟩
    · refine lv_if_ne (tgt := 29) hx hb dX2_lookUp_23 (by decide) (fun _ => ?_) (fun c9 => absurd c9 (by decide))
      refine lv_iload_n hx hb dX2_lookUp_29 rfl (lv_at hl 1 rfl) ?_
      refine lv_istore_n (lv' := [(3, .int c0), (0, .ref h), (1, .int c0), (2, .int sel)]) hx hb dX2_lookUp_30 rfl hl (by decide) rfl (fun ls hl => ?_)
      refine lv_iconst (v := 0) hx hb dX2_lookUp_31 (by decide) ?_
      refine lv_istore (lv' := [(4, .int 0), (3, .int c0), (0, .ref h), (1, .int c0), (2, .int sel)]) hx hb dX2_lookUp_32 hl (by decide) rfl (fun ls hl => ?_)
      have elk : lk O c0 sel = up O sel 100 c0 0 := by
        unfold lk
        rw [if_pos ⟨b12, b20⟩]
      have loop : ∀ (q k : Nat) (c9 : Int32), k + q = 100 → lk O c0 sel = up O sel q c9 (nI k) → ∀ ls : Array Slot, lv_has ls 7 [(0, .ref h), (1, .int c0), (2, .int sel), (3, .int c9), (4, .int (nI k))] → W p l e (headSpec wsX2_lookUp ({ frames := 3, cells := 0, slots := 0, locals := 66 })).room s m ([.ref h, .int c0, .int sel] : List Value).toArray below meth c H locs 0 0 (MQ below (pm_Qi (fun r H1 => r = (lk O c0 sel).1 ∧ my D cI cZ h a1 a2 a3 md sz fl (lk O c0 sel).2.1 (lk O c0 sel).2.2 H1) (fun q : Nat => q = h)) ([.ref h, .int c0, .int sel] : List Value).toArray s 0 0 (fun q : Nat => q = h)) (F0 m 34 ls []) := by
        intro q
        induction q with
        | zero =>
          intro k c9 h1 hu ls hl
          refine lv_iload hx hb dX2_lookUp_34 (lv_at hl 4 rfl) ?_
          refine lv_bipush (v := 100) hx hb dX2_lookUp_36 (by decide) ?_
          refine lv_icmp_ge (tgt := 134) hx hb dX2_lookUp_38 (by decide) (fun _ => ?_) (fun c9 => absurd (by rw [i_le, i_100, nI_toInt (by omega)]; omega) c9)
          refine lv_iload_n hx hb dX2_lookUp_134 rfl (lv_at hl 3 rfl) ?_
          refine lv_if_ne (tgt := 142) hx hb dX2_lookUp_135 (by decide) (fun c135 => ?_) (fun c135 => ?_)
          · refine lv_bipush (v := (-2)) hx hb dX2_lookUp_142 (by decide) ?_
            refine W.iret (v := (-2)) hx hb hr (fun t ht hW => ⟨⟨_, rfl, ?_⟩, hS.F ht⟩) hS.2.2 dX2_lookUp_144
            rw [ht]
            rw [hu, up, if_neg c135]
            exact ⟨rfl, hp⟩
          · refine lv_iconst (v := (-1)) hx hb dX2_lookUp_138 (by decide) ?_
            refine lv_goto (tgt := 144) hx hb dX2_lookUp_139 (by decide) ?_
            refine W.iret (v := (-1)) hx hb hr (fun t ht hW => ⟨⟨_, rfl, ?_⟩, hS.F ht⟩) hS.2.2 dX2_lookUp_144
            rw [ht]
            rw [hu, up, if_pos c135]
            exact ⟨rfl, hp⟩
        | succ q ih =>
          intro k c9 h1 hu ls hl
          refine lv_iload hx hb dX2_lookUp_34 (lv_at hl 4 rfl) ?_
          refine lv_bipush (v := 100) hx hb dX2_lookUp_36 (by decide) ?_
          refine lv_icmp_ge (tgt := 134) hx hb dX2_lookUp_38 (by decide) (fun c9 => absurd c9 (by rw [i_le, i_100, nI_toInt (by omega)]; omega)) (fun _ => ?_)
          refine lv_iload_n hx hb dX2_lookUp_41 rfl (lv_at hl 3 rfl) ?_
          refine lv_if_ne (tgt := 47) hx hb dX2_lookUp_42 (by decide) (fun c42 => ?_) (fun c42 => ?_)
          · refine lv_aload_n hx hb dX2_lookUp_47 rfl (lv_at hl 0 rfl) ?_
            refine lv_iload_n hx hb dX2_lookUp_48 rfl (lv_at hl 3 rfl) ?_
            refine pq_i (va_runV (As := [.int c9]) (rest := []) ⟨hx, hb, hml, hown, hts⟩ (c_X2_fieldsOf l D cI cZ cT h a1 a2 a3 md sz fl O hrm 0 0 _ c9) (cwV 1 hts gX2_lookUp_X2_fieldsOf rfl rfl rfl (by decide +kernel) ⟨Nat.le_of_ble_eq_true rfl, Nat.le_of_ble_eq_true rfl⟩) (pre_v ⟨rfl, hp⟩ hKN (recv hKN hp.1 rfl)) rfl rfl hl.1 rfl (lv_room (Nat.le_of_ble_eq_true rfl)) dX2_lookUp_49 ⟨Nat.zero_le _, Nat.zero_le _⟩) (fun r49 hr49 => ?_)
            refine lv_iconst (v := 2) hx hb dX2_lookUp_52 (by decide) ?_
            refine lv_icmp_ge (tgt := 59) hx hb dX2_lookUp_53 (by decide) (fun c53 => ?_) (fun c53 => ?_)
            · simp only [i_lt, i_le, i_0, i_1, i_2, i_4, i_40, i_100, i_400, i_401] at c53
              rw [hr49, nI_toInt (by have := fof_le hrm c9; omega)] at c53
              obtain ⟨j49, e49, k49, q49⟩ := fof_ge (O := O) (v := c9) (by omega)
              refine lv_aload_n hx hb dX2_lookUp_59 rfl (lv_at hl 0 rfl) ?_
              refine lv_iload_n hx hb dX2_lookUp_60 rfl (lv_at hl 3 rfl) ?_
              refine lv_iconst (v := 1) hx hb dX2_lookUp_61 (by decide) ?_
              refine pq_i (va_runV (As := [.int c9, .int 1]) (rest := []) ⟨hx, hb, hml, hown, hts⟩ (c_X2_field l D cI cZ cT h a1 a2 a3 md sz fl O hrm 0 0 _ c9 j49 1 e49 (by omega)) (cwV 2 hts gX2_lookUp_X2_field rfl rfl rfl (by decide +kernel) ⟨Nat.le_of_ble_eq_true rfl, Nat.le_of_ble_eq_true rfl⟩) (pre_v ⟨rfl, hp⟩ hKN (recv hKN hp.1 rfl)) rfl rfl hl.1 rfl (lv_room (Nat.le_of_ble_eq_true rfl)) dX2_lookUp_62 ⟨Nat.zero_le _, Nat.zero_le _⟩) (fun r62 hr62 => ?_)
              subst hr62
              refine lv_istore (lv' := [(5, .int (O.2.2.2 j49 1)), (0, .ref h), (1, .int c0), (2, .int sel), (3, .int c9), (4, .int (nI k))]) hx hb dX2_lookUp_65 hl (by decide) rfl (fun ls hl => ?_)
              refine lv_iload hx hb dX2_lookUp_67 (lv_at hl 0 rfl) ?_
              refine lv_if_eq (tgt := 84) hx hb dX2_lookUp_69 (by decide) (fun c69 => ?_) (fun c69 => ?_)
              · have hbad : bad O (O.2.2.2 j49 1) = false := bad_0 c69
                refine lv_aload_n hx hb dX2_lookUp_84 rfl (lv_at hl 1 rfl) ?_
                refine lv_iload hx hb dX2_lookUp_85 (lv_at hl 0 rfl) ?_
                refine lv_iload_n hx hb dX2_lookUp_87 rfl (lv_at hl 3 rfl) ?_
                refine pq_i (va_runV (As := [.int (O.2.2.2 j49 1), .int sel]) (rest := []) ⟨hx, hb, hml, hown, hts⟩ (c_X2_placeOf l D cI cZ cT h a1 a2 a3 md sz fl O hrm 0 0 _ (O.2.2.2 j49 1) sel) (cwV 2 hts gX2_lookUp_X2_placeOf rfl rfl rfl (by decide +kernel) ⟨Nat.le_of_ble_eq_true rfl, Nat.le_of_ble_eq_true rfl⟩) (pre_v ⟨rfl, hp⟩ hKN (recv hKN hp.1 rfl)) rfl rfl hl.1 rfl (lv_room (Nat.le_of_ble_eq_true rfl)) dX2_lookUp_88 ⟨Nat.zero_le _, Nat.zero_le _⟩) (fun r88 hr88 => ?_)
                rcases hpm : pmd O (O.2.2.2 j49 1) sel with _ | i88
                · rw [hpm] at hr88
                  subst hr88
                  have hf := fnd_pmd hpm
                  show W p l e _ s m _ below meth c _ _ _ _ _ (F0 m 91 ls [.int (-1)])
                  refine lv_istore (lv' := [(6, .int (-1)), (5, .int (O.2.2.2 j49 1)), (0, .ref h), (1, .int c0), (2, .int sel), (3, .int c9), (4, .int (nI k))]) hx hb dX2_lookUp_91 hl (by decide) rfl (fun ls hl => ?_)
                  refine lv_iload hx hb dX2_lookUp_93 (lv_at hl 0 rfl) ?_
                  refine lv_iconst (v := (-1)) hx hb dX2_lookUp_95 (by decide) ?_
                  refine lv_icmp_eq (tgt := 121) hx hb dX2_lookUp_96 (by decide) (fun _ => ?_) (fun c9 => absurd (by decide) c9)
                  refine lv_aload_n hx hb dX2_lookUp_121 rfl (lv_at hl 2 rfl) ?_
                  refine lv_iload_n hx hb dX2_lookUp_122 rfl (lv_at hl 5 rfl) ?_
                  refine lv_iconst (v := 0) hx hb dX2_lookUp_123 (by decide) ?_
                  refine pq_i (va_runV (As := [.int c9, .int 0]) (rest := []) ⟨hx, hb, hml, hown, hts⟩ (c_X2_field l D cI cZ cT h a1 a2 a3 md sz fl O hrm 0 0 _ c9 j49 0 e49 (by omega)) (cwV 2 hts gX2_lookUp_X2_field rfl rfl rfl (by decide +kernel) ⟨Nat.le_of_ble_eq_true rfl, Nat.le_of_ble_eq_true rfl⟩) (pre_v ⟨rfl, hp⟩ hKN (recv hKN hp.1 rfl)) rfl rfl hl.1 rfl (lv_room (Nat.le_of_ble_eq_true rfl)) dX2_lookUp_124 ⟨Nat.zero_le _, Nat.zero_le _⟩) (fun r124 hr124 => ?_)
                  subst hr124
                  refine lv_istore_n (lv' := [(3, .int (O.2.2.2 j49 0)), (6, .int (-1)), (5, .int (O.2.2.2 j49 1)), (0, .ref h), (1, .int c0), (2, .int sel), (4, .int (nI k))]) hx hb dX2_lookUp_127 rfl hl (by decide) rfl (fun ls hl => ?_)
                  refine lv_iinc (v := ((nI k) + 1)) (lv' := [(4, .int ((nI k) + 1)), (3, .int (O.2.2.2 j49 0)), (6, .int (-1)), (5, .int (O.2.2.2 j49 1)), (0, .ref h), (1, .int c0), (2, .int sel)]) hx hb dX2_lookUp_128 hl (k := 6) rfl rfl (by decide) rfl (fun ls hl => ?_)
                  refine lv_goto (tgt := 34) hx hb dX2_lookUp_131 (by decide) ?_
                  rw [← nI_succ] at hl
                  exact ih (k + 1) _ (by omega) (by rw [hu, up_go c42 k49 hbad hf, nI_succ]) _ (lv_sub hl [4, 5, 6, 1, 0] rfl)
                · rw [hpm] at hr88
                  subst hr88
                  obtain ⟨e88, f88, g88, l88⟩ := pmd_some hpm
                  obtain ⟨-, -, p88, q88, w88⟩ := tv_half f88
                  have u88 := (rm_of hrm p88 q88 w88).2.1
                  have hf := fnd_some f88 g88
                  show W p l e _ s m _ below meth c _ _ _ _ _ (F0 m 91 ls [.int (nI i88)])
                  refine lv_istore (lv' := [(6, .int (nI i88)), (5, .int (O.2.2.2 j49 1)), (0, .ref h), (1, .int c0), (2, .int sel), (3, .int c9), (4, .int (nI k))]) hx hb dX2_lookUp_91 hl (by decide) rfl (fun ls hl => ?_)
                  refine lv_iload hx hb dX2_lookUp_93 (lv_at hl 0 rfl) ?_
                  refine lv_iconst (v := (-1)) hx hb dX2_lookUp_95 (by decide) ?_
                  refine lv_icmp_eq (tgt := 121) hx hb dX2_lookUp_96 (by decide) (fun c9 => absurd c9 (nI_nm1 (by omega))) (fun _ => ?_)
                  refine lv_aload_n hx hb dX2_lookUp_99 rfl (lv_at hl 2 rfl) ?_
                  refine lv_aload_n hx hb dX2_lookUp_100 rfl (lv_at hl 2 rfl) ?_
                  refine lv_iload hx hb dX2_lookUp_101 (lv_at hl 1 rfl) ?_
                  refine lv_iload hx hb dX2_lookUp_103 (lv_at hl 0 rfl) ?_
                  refine lv_iconst (v := 1) hx hb dX2_lookUp_105 (by decide) ?_
                  refine lv_iadd hx hb dX2_lookUp_106 ?_
                  rw [← nI_succ]
                  refine pq_i (va_runV (As := [.int (O.2.2.2 j49 1), .int (nI (i88 + 1))]) (rest := [.ref h]) ⟨hx, hb, hml, hown, hts⟩ (c_X2_field l D cI cZ cT h a1 a2 a3 md sz fl O hrm 0 0 _ (O.2.2.2 j49 1) e88 (i88 + 1) f88 l88) (cwV 2 hts gX2_lookUp_X2_field rfl rfl rfl (by decide +kernel) ⟨Nat.le_of_ble_eq_true rfl, Nat.le_of_ble_eq_true rfl⟩) (pre_v ⟨rfl, hp⟩ hKN (recv hKN hp.1 rfl)) rfl rfl hl.1 rfl (lv_room (Nat.le_of_ble_eq_true rfl)) dX2_lookUp_107 ⟨Nat.zero_le _, Nat.zero_le _⟩) (fun r107 hr107 => ?_)
                  subst hr107
                  refine pw_put (ci := 2) (v := .int (O.2.2.2 e88 (i88 + 1))) (ty := .int) (C := RX2) (T := TX2) (N := 5) hx hb hts (iw_X2_lookUp_X2) tyX2 tyX2_ok nmX2 hown hK hp.1 hS rfl rfl 3 (by decide) (hts (.fieldLink RX2 39 "MethodBookModel" "method" "I") (by decide +kernel)) (fun _ h9 => h9) rfl (by decide +kernel) rfl rfl (Nat.le_of_ble_eq_true rfl) dX2_lookUp_110 (fun H locs hh hz ho hS => ?_)
                  replace hp := my_h (mt' := (O.2.2.2 e88 (i88 + 1))) (wh' := 0) hp hh ho
                  refine lv_aload_n hx hb dX2_lookUp_113 rfl (lv_at hl 2 rfl) ?_
                  refine lv_iload_n hx hb dX2_lookUp_114 rfl (lv_at hl 5 rfl) ?_
                  refine pw_put (ci := 2) (v := .int c9) (ty := .int) (C := RX2) (T := TX2) (N := 5) hx hb hts (iw_X2_lookUp_X2) tyX2 tyX2_ok nmX2 hown hK hp.1 hS rfl rfl 4 (by decide) (hts (.fieldLink RX2 43 "MethodBookModel" "where" "I") (by decide +kernel)) (fun _ h9 => h9) rfl (by decide +kernel) rfl rfl (Nat.le_of_ble_eq_true rfl) dX2_lookUp_115 (fun H locs hh hz ho hS => ?_)
                  replace hp := my_h (mt' := (O.2.2.2 e88 (i88 + 1))) (wh' := c9) hp hh ho
                  refine lv_iload hx hb dX2_lookUp_118 (lv_at hl 6 rfl) ?_
                  refine W.iret (v := (nI k)) hx hb hr (fun t ht hW => ⟨⟨_, rfl, ?_⟩, hS.F ht⟩) hS.2.2 dX2_lookUp_120
                  rw [ht]
                  rw [hu, up_fnd c42 k49 hbad hf]
                  exact ⟨rfl, hp⟩
              · refine lv_aload_n hx hb dX2_lookUp_72 rfl (lv_at hl 1 rfl) ?_
                refine lv_iload hx hb dX2_lookUp_73 (lv_at hl 0 rfl) ?_
                refine pq_b (va_runV (As := [.int (O.2.2.2 j49 1)]) (rest := []) ⟨hx, hb, hml, hown, hts⟩ (c_X2_isOfFields l D cI cZ cT h a1 a2 a3 md sz fl O hrm 0 0 _ (O.2.2.2 j49 1)) (cwV 1 hts gX2_lookUp_X2_isOfFields rfl rfl rfl (by decide +kernel) ⟨Nat.le_of_ble_eq_true rfl, Nat.le_of_ble_eq_true rfl⟩) (pre_v ⟨rfl, hp⟩ hKN (recv hKN hp.1 rfl)) rfl rfl hl.1 rfl (lv_room (Nat.le_of_ble_eq_true rfl)) dX2_lookUp_75 ⟨Nat.zero_le _, Nat.zero_le _⟩) (fun b75 => ?_) (fun b75 => ?_)
                · have hbad : bad O (O.2.2.2 j49 1) = true := by rw [bad_ofd c69, b75]; rfl
                  refine lv_if_ne (tgt := 84) hx hb dX2_lookUp_78 (by decide) (fun c9 => absurd rfl c9) (fun _ => ?_)
                  refine lv_bipush (v := (-2)) hx hb dX2_lookUp_81 (by decide) ?_
                  refine W.iret (v := (-2)) hx hb hr (fun t ht hW => ⟨⟨_, rfl, ?_⟩, hS.F ht⟩) hS.2.2 dX2_lookUp_83
                  rw [ht]
                  rw [hu, up_bad c42 k49 hbad]
                  exact ⟨rfl, hp⟩
                · have hbad : bad O (O.2.2.2 j49 1) = false := by rw [bad_ofd c69, b75]; rfl
                  refine lv_if_ne (tgt := 84) hx hb dX2_lookUp_78 (by decide) (fun _ => ?_) (fun c9 => absurd c9 (by decide))
                  refine lv_aload_n hx hb dX2_lookUp_84 rfl (lv_at hl 1 rfl) ?_
                  refine lv_iload hx hb dX2_lookUp_85 (lv_at hl 0 rfl) ?_
                  refine lv_iload_n hx hb dX2_lookUp_87 rfl (lv_at hl 3 rfl) ?_
                  refine pq_i (va_runV (As := [.int (O.2.2.2 j49 1), .int sel]) (rest := []) ⟨hx, hb, hml, hown, hts⟩ (c_X2_placeOf l D cI cZ cT h a1 a2 a3 md sz fl O hrm 0 0 _ (O.2.2.2 j49 1) sel) (cwV 2 hts gX2_lookUp_X2_placeOf rfl rfl rfl (by decide +kernel) ⟨Nat.le_of_ble_eq_true rfl, Nat.le_of_ble_eq_true rfl⟩) (pre_v ⟨rfl, hp⟩ hKN (recv hKN hp.1 rfl)) rfl rfl hl.1 rfl (lv_room (Nat.le_of_ble_eq_true rfl)) dX2_lookUp_88 ⟨Nat.zero_le _, Nat.zero_le _⟩) (fun r88 hr88 => ?_)
                  rcases hpm : pmd O (O.2.2.2 j49 1) sel with _ | i88
                  · rw [hpm] at hr88
                    subst hr88
                    have hf := fnd_pmd hpm
                    show W p l e _ s m _ below meth c _ _ _ _ _ (F0 m 91 ls [.int (-1)])
                    refine lv_istore (lv' := [(6, .int (-1)), (5, .int (O.2.2.2 j49 1)), (0, .ref h), (1, .int c0), (2, .int sel), (3, .int c9), (4, .int (nI k))]) hx hb dX2_lookUp_91 hl (by decide) rfl (fun ls hl => ?_)
                    refine lv_iload hx hb dX2_lookUp_93 (lv_at hl 0 rfl) ?_
                    refine lv_iconst (v := (-1)) hx hb dX2_lookUp_95 (by decide) ?_
                    refine lv_icmp_eq (tgt := 121) hx hb dX2_lookUp_96 (by decide) (fun _ => ?_) (fun c9 => absurd (by decide) c9)
                    refine lv_aload_n hx hb dX2_lookUp_121 rfl (lv_at hl 2 rfl) ?_
                    refine lv_iload_n hx hb dX2_lookUp_122 rfl (lv_at hl 5 rfl) ?_
                    refine lv_iconst (v := 0) hx hb dX2_lookUp_123 (by decide) ?_
                    refine pq_i (va_runV (As := [.int c9, .int 0]) (rest := []) ⟨hx, hb, hml, hown, hts⟩ (c_X2_field l D cI cZ cT h a1 a2 a3 md sz fl O hrm 0 0 _ c9 j49 0 e49 (by omega)) (cwV 2 hts gX2_lookUp_X2_field rfl rfl rfl (by decide +kernel) ⟨Nat.le_of_ble_eq_true rfl, Nat.le_of_ble_eq_true rfl⟩) (pre_v ⟨rfl, hp⟩ hKN (recv hKN hp.1 rfl)) rfl rfl hl.1 rfl (lv_room (Nat.le_of_ble_eq_true rfl)) dX2_lookUp_124 ⟨Nat.zero_le _, Nat.zero_le _⟩) (fun r124 hr124 => ?_)
                    subst hr124
                    refine lv_istore_n (lv' := [(3, .int (O.2.2.2 j49 0)), (6, .int (-1)), (5, .int (O.2.2.2 j49 1)), (0, .ref h), (1, .int c0), (2, .int sel), (4, .int (nI k))]) hx hb dX2_lookUp_127 rfl hl (by decide) rfl (fun ls hl => ?_)
                    refine lv_iinc (v := ((nI k) + 1)) (lv' := [(4, .int ((nI k) + 1)), (3, .int (O.2.2.2 j49 0)), (6, .int (-1)), (5, .int (O.2.2.2 j49 1)), (0, .ref h), (1, .int c0), (2, .int sel)]) hx hb dX2_lookUp_128 hl (k := 6) rfl rfl (by decide) rfl (fun ls hl => ?_)
                    refine lv_goto (tgt := 34) hx hb dX2_lookUp_131 (by decide) ?_
                    rw [← nI_succ] at hl
                    exact ih (k + 1) _ (by omega) (by rw [hu, up_go c42 k49 hbad hf, nI_succ]) _ (lv_sub hl [4, 5, 6, 1, 0] rfl)
                  · rw [hpm] at hr88
                    subst hr88
                    obtain ⟨e88, f88, g88, l88⟩ := pmd_some hpm
                    obtain ⟨-, -, p88, q88, w88⟩ := tv_half f88
                    have u88 := (rm_of hrm p88 q88 w88).2.1
                    have hf := fnd_some f88 g88
                    show W p l e _ s m _ below meth c _ _ _ _ _ (F0 m 91 ls [.int (nI i88)])
                    refine lv_istore (lv' := [(6, .int (nI i88)), (5, .int (O.2.2.2 j49 1)), (0, .ref h), (1, .int c0), (2, .int sel), (3, .int c9), (4, .int (nI k))]) hx hb dX2_lookUp_91 hl (by decide) rfl (fun ls hl => ?_)
                    refine lv_iload hx hb dX2_lookUp_93 (lv_at hl 0 rfl) ?_
                    refine lv_iconst (v := (-1)) hx hb dX2_lookUp_95 (by decide) ?_
                    refine lv_icmp_eq (tgt := 121) hx hb dX2_lookUp_96 (by decide) (fun c9 => absurd c9 (nI_nm1 (by omega))) (fun _ => ?_)
                    refine lv_aload_n hx hb dX2_lookUp_99 rfl (lv_at hl 2 rfl) ?_
                    refine lv_aload_n hx hb dX2_lookUp_100 rfl (lv_at hl 2 rfl) ?_
                    refine lv_iload hx hb dX2_lookUp_101 (lv_at hl 1 rfl) ?_
                    refine lv_iload hx hb dX2_lookUp_103 (lv_at hl 0 rfl) ?_
                    refine lv_iconst (v := 1) hx hb dX2_lookUp_105 (by decide) ?_
                    refine lv_iadd hx hb dX2_lookUp_106 ?_
                    rw [← nI_succ]
                    refine pq_i (va_runV (As := [.int (O.2.2.2 j49 1), .int (nI (i88 + 1))]) (rest := [.ref h]) ⟨hx, hb, hml, hown, hts⟩ (c_X2_field l D cI cZ cT h a1 a2 a3 md sz fl O hrm 0 0 _ (O.2.2.2 j49 1) e88 (i88 + 1) f88 l88) (cwV 2 hts gX2_lookUp_X2_field rfl rfl rfl (by decide +kernel) ⟨Nat.le_of_ble_eq_true rfl, Nat.le_of_ble_eq_true rfl⟩) (pre_v ⟨rfl, hp⟩ hKN (recv hKN hp.1 rfl)) rfl rfl hl.1 rfl (lv_room (Nat.le_of_ble_eq_true rfl)) dX2_lookUp_107 ⟨Nat.zero_le _, Nat.zero_le _⟩) (fun r107 hr107 => ?_)
                    subst hr107
                    refine pw_put (ci := 2) (v := .int (O.2.2.2 e88 (i88 + 1))) (ty := .int) (C := RX2) (T := TX2) (N := 5) hx hb hts (iw_X2_lookUp_X2) tyX2 tyX2_ok nmX2 hown hK hp.1 hS rfl rfl 3 (by decide) (hts (.fieldLink RX2 39 "MethodBookModel" "method" "I") (by decide +kernel)) (fun _ h9 => h9) rfl (by decide +kernel) rfl rfl (Nat.le_of_ble_eq_true rfl) dX2_lookUp_110 (fun H locs hh hz ho hS => ?_)
                    replace hp := my_h (mt' := (O.2.2.2 e88 (i88 + 1))) (wh' := 0) hp hh ho
                    refine lv_aload_n hx hb dX2_lookUp_113 rfl (lv_at hl 2 rfl) ?_
                    refine lv_iload_n hx hb dX2_lookUp_114 rfl (lv_at hl 5 rfl) ?_
                    refine pw_put (ci := 2) (v := .int c9) (ty := .int) (C := RX2) (T := TX2) (N := 5) hx hb hts (iw_X2_lookUp_X2) tyX2 tyX2_ok nmX2 hown hK hp.1 hS rfl rfl 4 (by decide) (hts (.fieldLink RX2 43 "MethodBookModel" "where" "I") (by decide +kernel)) (fun _ h9 => h9) rfl (by decide +kernel) rfl rfl (Nat.le_of_ble_eq_true rfl) dX2_lookUp_115 (fun H locs hh hz ho hS => ?_)
                    replace hp := my_h (mt' := (O.2.2.2 e88 (i88 + 1))) (wh' := c9) hp hh ho
                    refine lv_iload hx hb dX2_lookUp_118 (lv_at hl 6 rfl) ?_
                    refine W.iret (v := (nI k)) hx hb hr (fun t ht hW => ⟨⟨_, rfl, ?_⟩, hS.F ht⟩) hS.2.2 dX2_lookUp_120
                    rw [ht]
                    rw [hu, up_fnd c42 k49 hbad hf]
                    exact ⟨rfl, hp⟩
            · simp only [i_lt, i_le, i_0, i_1, i_2, i_4, i_40, i_100, i_400, i_401] at c53
              rw [hr49, nI_toInt (by have := fof_le hrm c9; omega)] at c53
              have k49 := fof_lt (O := O) (v := c9) (by omega)
              refine lv_bipush (v := (-2)) hx hb dX2_lookUp_56 (by decide) ?_
              refine W.iret (v := (-2)) hx hb hr (fun t ht hW => ⟨⟨_, rfl, ?_⟩, hS.F ht⟩) hS.2.2 dX2_lookUp_58
              rw [ht]
              rw [hu, up_none c42 k49]
              exact ⟨rfl, hp⟩
          · refine lv_iconst (v := (-1)) hx hb dX2_lookUp_45 (by decide) ?_
            refine W.iret (v := (-1)) hx hb hr (fun t ht hW => ⟨⟨_, rfl, ?_⟩, hS.F ht⟩) hS.2.2 dX2_lookUp_46
            rw [ht]
            rw [hu, up_nil c42]
            exact ⟨rfl, hp⟩
      exact loop 100 0 c0 (by omega) elk _ (lv_sub hl [2, 3, 4, 1, 0] rfl)
set_option maxHeartbeats 4000000 in
set_option maxRecDepth 100000 in
theorem c_X2_above (l : Launch) (D : va_G) (cI cZ cT : ClassId) (h a1 a2 a3 : Nat) (md sz fl : Nat → Int32) (O : Ob) (hrm : rm O md sz fl) (mt wh : Int32) (H0 : Heap) (sel : Int32) : Met l yX2_above wsX2_above ({ frames := 4, cells := 0, slots := 0, locals := 92 }) (pK D cI cZ cT [.ref h, .int sel] (fun H => H = H0 ∧ my D cI cZ h a1 a2 a3 md sz fl mt wh H0)) (pm_Qi (fun r H1 => r = (abv O mt wh sel).1 ∧ my D cI cZ h a1 a2 a3 md sz fl (abv O mt wh sel).2.1 (abv O mt wh sel).2.2 H1) (fun q : Nat => q = h)) 0 0 (fun q : Nat => q = h) := by
  refine Met.ofW (cc := cX2_above) (maxL := 2) (ret := (some .int)) (by decide) rfl ?_
  intro p e s m args below meth c s₁ B hml hv
  obtain ⟨rfl, hpic, hKN⟩ := hv
  have hK := hKN.1
  have hx := B.exec
  have hb := B.bytes
  have hr := B.returns
  have hts := atoms_spec (ws := wsX2_above) B.pre
  have hown : s.vm.findClass RX2 = some m.cls := findClass_of_methodNamed B.named
  have hlocks := B.notSynchronized
  obtain ⟨hH, hp⟩ := hpic
  subst hH
  have hS : va_S (fun q : Nat => q = h) s.heap s.heap [] := va_S.rf
  have hl := lv_entry ([.ref h, .int sel]) (n := 2) (Nat.le_of_ble_eq_true rfl)
  rw [lg_entry_eq]
  generalize (lg_sl ([.ref h, .int sel]) ++ List.replicate (2 - (lg_sl ([.ref h, .int sel])).length) Slot.unset).toArray = ls at hl ⊢
  have hl : lv_has ls 2 [(0, .ref h), (1, .int sel)] := hl
  refine lv_aload_n hx hb dX2_above_0 rfl (lv_at hl 0 rfl) ?_
  refine va_get (D := D) (ci := 2) (v := .int wh) (C := RX2) (T := TX2) (N := 5) hx hb hts (iw_X2_above_X2) hown hK (one hp.1) 0 rfl rfl 4 (by decide) (hts (.fieldLink RX2 43 "MethodBookModel" "where" "I") (by decide +kernel)) (fun _ h9 => h9) rfl dX2_above_1 ?_
  refine lv_if_ne (tgt := 9) hx hb dX2_above_4 (by decide) (fun c4 => ?_) (fun c4 => ?_)
  · refine lv_aload_n hx hb dX2_above_9 rfl (lv_at hl 0 rfl) ?_
    refine lv_aload_n hx hb dX2_above_10 rfl (lv_at hl 0 rfl) ?_
    refine lv_aload_n hx hb dX2_above_11 rfl (lv_at hl 0 rfl) ?_
    refine va_get (D := D) (ci := 2) (v := .int wh) (C := RX2) (T := TX2) (N := 5) hx hb hts (iw_X2_above_X2) hown hK (one hp.1) 0 rfl rfl 4 (by decide) (hts (.fieldLink RX2 43 "MethodBookModel" "where" "I") (by decide +kernel)) (fun _ h9 => h9) rfl dX2_above_12 ?_
    refine pq_i (va_runV (As := [.int wh]) (rest := [.ref h]) ⟨hx, hb, hml, hown, hts⟩ (c_X2_fieldsOf l D cI cZ cT h a1 a2 a3 md sz fl O hrm mt wh _ wh) (cwV 1 hts gX2_above_X2_fieldsOf rfl rfl rfl (by decide +kernel) ⟨Nat.le_of_ble_eq_true rfl, Nat.le_of_ble_eq_true rfl⟩) (pre_v ⟨rfl, hp⟩ hKN (recv hKN hp.1 rfl)) rfl rfl hl.1 rfl (lv_room (Nat.le_of_ble_eq_true rfl)) dX2_above_15 ⟨Nat.zero_le _, Nat.zero_le _⟩) (fun r15 hr15 => ?_)
    refine lv_if_le (tgt := 33) hx hb dX2_above_18 (by decide) (fun c18 => ?_) (fun c18 => ?_)
    · simp only [i_lt, i_le, i_0, i_1, i_2, i_4, i_40, i_100, i_400, i_401] at c18
      rw [hr15, nI_toInt (by have := fof_le hrm wh; omega)] at c18
      have efab : fab O wh = 0 := by
        unfold fab
        split
        · rfl
        · rename_i j9 hj9
          unfold fof at c18
          rw [hj9] at c18
          have c18 : (O.2.2.1 j9 : Int) ≤ 0 := c18
          unfold fl1
          rw [if_neg (by omega)]
      refine lv_iconst (v := 0) hx hb dX2_above_33 (by decide) ?_
      refine lv_iload_n hx hb dX2_above_34 rfl (lv_at hl 1 rfl) ?_
      refine pm_i (va_runV (As := [.int 0, .int sel]) (rest := []) ⟨hx, hb, hml, hown, hts⟩ (c_X2_lookUp l D cI cZ cT h a1 a2 a3 md sz fl O hrm mt wh _ 0 sel) (cwV 2 hts gX2_above_X2_lookUp rfl rfl rfl (by decide +kernel) ⟨Nat.le_of_ble_eq_true rfl, Nat.le_of_ble_eq_true rfl⟩) (pre_v ⟨rfl, hp⟩ hKN (recv hKN hp.1 rfl)) rfl rfl hl.1 rfl (lv_room (Nat.le_of_ble_eq_true rfl)) dX2_above_35 ⟨Nat.zero_le _, Nat.zero_le _⟩) hS (fun q _ h9 => h9) (fun q h9 => h9) (fun r35 H locs hr35 hz hk hS => ?_)
      refine W.iret (v := r35) hx hb hr (fun t ht hW => ⟨⟨_, rfl, ?_⟩, hS.F ht⟩) hS.2.2 dX2_above_38
      rw [ht]
      have e9 : abv O mt wh sel = lk O (fab O wh) sel := by
        unfold abv
        rw [if_neg c4]
      rw [e9, efab]
      exact hr35
    · simp only [i_lt, i_le, i_0, i_1, i_2, i_4, i_40, i_100, i_400, i_401] at c18
      rw [hr15, nI_toInt (by have := fof_le hrm wh; omega)] at c18
      obtain ⟨j15, e15, f15⟩ := fof_pos (O := O) (v := wh) (by omega)
      obtain ⟨-, -, l15, u15, m15⟩ := tv_half e15
      have t15 := (rm_of hrm l15 u15 m15).2.1
      have efab : fab O wh = O.2.2.2 j15 0 := by
        unfold fab
        rw [e15]
        exact fl1_lt (i := 0) (by omega) t15
      refine lv_aload_n hx hb dX2_above_21 rfl (lv_at hl 0 rfl) ?_
      refine lv_aload_n hx hb dX2_above_22 rfl (lv_at hl 0 rfl) ?_
      refine va_get (D := D) (ci := 2) (v := .int wh) (C := RX2) (T := TX2) (N := 5) hx hb hts (iw_X2_above_X2) hown hK (one hp.1) 0 rfl rfl 4 (by decide) (hts (.fieldLink RX2 43 "MethodBookModel" "where" "I") (by decide +kernel)) (fun _ h9 => h9) rfl dX2_above_23 ?_
      refine lv_iconst (v := 0) hx hb dX2_above_26 (by decide) ?_
      refine pq_i (va_runV (As := [.int wh, .int 0]) (rest := [.ref h]) ⟨hx, hb, hml, hown, hts⟩ (c_X2_field l D cI cZ cT h a1 a2 a3 md sz fl O hrm mt wh _ wh j15 0 e15 (by omega)) (cwV 2 hts gX2_above_X2_field rfl rfl rfl (by decide +kernel) ⟨Nat.le_of_ble_eq_true rfl, Nat.le_of_ble_eq_true rfl⟩) (pre_v ⟨rfl, hp⟩ hKN (recv hKN hp.1 rfl)) rfl rfl hl.1 rfl (lv_room (Nat.le_of_ble_eq_true rfl)) dX2_above_27 ⟨Nat.zero_le _, Nat.zero_le _⟩) (fun r27 hr27 => ?_)
      subst hr27
      refine lv_goto (tgt := 34) hx hb dX2_above_30 (by decide) ?_
      refine lv_iload_n hx hb dX2_above_34 rfl (lv_at hl 1 rfl) ?_
      refine pm_i (va_runV (As := [.int (O.2.2.2 j15 0), .int sel]) (rest := []) ⟨hx, hb, hml, hown, hts⟩ (c_X2_lookUp l D cI cZ cT h a1 a2 a3 md sz fl O hrm mt wh _ (O.2.2.2 j15 0) sel) (cwV 2 hts gX2_above_X2_lookUp rfl rfl rfl (by decide +kernel) ⟨Nat.le_of_ble_eq_true rfl, Nat.le_of_ble_eq_true rfl⟩) (pre_v ⟨rfl, hp⟩ hKN (recv hKN hp.1 rfl)) rfl rfl hl.1 rfl (lv_room (Nat.le_of_ble_eq_true rfl)) dX2_above_35 ⟨Nat.zero_le _, Nat.zero_le _⟩) hS (fun q _ h9 => h9) (fun q h9 => h9) (fun r35 H locs hr35 hz hk hS => ?_)
      refine W.iret (v := r35) hx hb hr (fun t ht hW => ⟨⟨_, rfl, ?_⟩, hS.F ht⟩) hS.2.2 dX2_above_38
      rw [ht]
      have e9 : abv O mt wh sel = lk O (fab O wh) sel := by
        unfold abv
        rw [if_neg c4]
      rw [e9, efab]
      exact hr35
  · refine lv_iconst (v := (-1)) hx hb dX2_above_7 (by decide) ?_
    refine W.iret (v := (-1)) hx hb hr (fun t ht hW => ⟨⟨_, rfl, ?_⟩, hS.F ht⟩) hS.2.2 dX2_above_8
    rw [ht]
    have e9 : abv O mt wh sel = (-1, mt, wh) := by
      unfold abv
      rw [if_pos c4]
    rw [e9]
    exact ⟨rfl, hp⟩
set_option maxHeartbeats 4000000 in
set_option maxRecDepth 100000 in
theorem c_X2_inherits (l : Launch) (D : va_G) (cI cZ cT : ClassId) (h a1 a2 a3 : Nat) (md sz fl : Nat → Int32) (O : Ob) (hrm : rm O md sz fl) (mt wh : Int32) (H0 : Heap) (c0 d : Int32) : Met l yX2_inherits wsX2_inherits ({ frames := 2, cells := 0, slots := 0, locals := 42 }) (pK D cI cZ cT [.ref h, .int c0, .int d] (fun H => H = H0 ∧ my D cI cZ h a1 a2 a3 md sz fl mt wh H0)) (vp_Si (fun r => r = b2i (inhs O c0 d))) 0 0 (fun _ => False) := by
  refine Met.ofW (cc := cX2_inherits) (maxL := 5) (ret := (some .boolean)) (by decide) rfl ?_
  intro p e s m args below meth c s₁ B hml hv
  obtain ⟨rfl, hpic, hKN⟩ := hv
  have hK := hKN.1
  have hx := B.exec
  have hb := B.bytes
  have hr := B.returns
  have hts := atoms_spec (ws := wsX2_inherits) B.pre
  have hown : s.vm.findClass RX2 = some m.cls := findClass_of_methodNamed B.named
  have hlocks := B.notSynchronized
  obtain ⟨hH, hp⟩ := hpic
  subst hH
  have hl := lv_entry ([.ref h, .int c0, .int d]) (n := 5) (Nat.le_of_ble_eq_true rfl)
  rw [lg_entry_eq]
  generalize (lg_sl ([.ref h, .int c0, .int d]) ++ List.replicate (5 - (lg_sl ([.ref h, .int c0, .int d])).length) Slot.unset).toArray = ls at hl ⊢
  have hl : lv_has ls 5 [(0, .ref h), (1, .int c0), (2, .int d)] := hl
  refine lv_aload_n hx hb dX2_inherits_0 rfl (lv_at hl 0 rfl) ?_
  refine lv_iload_n hx hb dX2_inherits_1 rfl (lv_at hl 1 rfl) ?_
  refine pq_b (va_runV (As := [.int c0]) (rest := []) ⟨hx, hb, hml, hown, hts⟩ (c_X2_isValue l D cI cZ cT h a1 a2 a3 md sz fl O hrm mt wh _ c0) (cwV 1 hts gX2_inherits_X2_isValue rfl rfl rfl (by decide +kernel) ⟨Nat.le_of_ble_eq_true rfl, Nat.le_of_ble_eq_true rfl⟩) (pre_v ⟨rfl, hp⟩ hKN (recv hKN hp.1 rfl)) rfl rfl hl.1 rfl (lv_room (Nat.le_of_ble_eq_true rfl)) dX2_inherits_2 ⟨Nat.zero_le _, Nat.zero_le _⟩) (fun b2 => ?_) (fun b2 => ?_)
  · refine lv_if_eq (tgt := 12) hx hb dX2_inherits_5 (by decide) (fun _ => ?_) (fun c9 => absurd (by decide) c9)
    refine lv_iconst (v := 0) hx hb dX2_inherits_12 (by decide) ?_
    refine W.zret (v := 0) (ty := .boolean) hx hb hr rfl (fun t ht hW => ⟨_, rfl, ?_, ht⟩) (fun _ h => absurd h List.not_mem_nil) dX2_inherits_13
    unfold inhs
    rw [b2]
    rfl
  · refine lv_if_eq (tgt := 12) hx hb dX2_inherits_5 (by decide) (fun c9 => absurd c9 (by decide)) (fun _ => ?_)
    refine lv_iload_n hx hb dX2_inherits_8 rfl (lv_at hl 2 rfl) ?_
    refine lv_if_ne (tgt := 14) hx hb dX2_inherits_9 (by decide) (fun c9 => ?_) (fun c9 => ?_)
    · refine lv_iload_n hx hb dX2_inherits_14 rfl (lv_at hl 1 rfl) ?_
      refine lv_istore_n (lv' := [(3, .int c0), (0, .ref h), (1, .int c0), (2, .int d)]) hx hb dX2_inherits_15 rfl hl (by decide) rfl (fun ls hl => ?_)
      refine lv_iconst (v := 0) hx hb dX2_inherits_16 (by decide) ?_
      refine lv_istore (lv' := [(4, .int 0), (3, .int c0), (0, .ref h), (1, .int c0), (2, .int d)]) hx hb dX2_inherits_17 hl (by decide) rfl (fun ls hl => ?_)
      have loop : ∀ (q k : Nat) (x : Int32), k + q = 100 → inhs O c0 d = inh O d q x → ∀ ls : Array Slot, lv_has ls 5 [(0, .ref h), (1, .int c0), (2, .int d), (3, .int x), (4, .int (nI k))] → W p l e (headSpec wsX2_inherits ({ frames := 2, cells := 0, slots := 0, locals := 42 })).room s m ([.ref h, .int c0, .int d] : List Value).toArray below meth c s.heap [] 0 0 (MQ below (vp_Si (fun r => r = b2i (inhs O c0 d))) ([.ref h, .int c0, .int d] : List Value).toArray s 0 0 (fun _ => False)) (F0 m 19 ls []) := by
        intro q
        induction q with
        | zero =>
          intro k x h1 hu ls hl
          refine lv_iload hx hb dX2_inherits_19 (lv_at hl 4 rfl) ?_
          refine lv_bipush (v := 100) hx hb dX2_inherits_21 (by decide) ?_
          refine lv_icmp_ge (tgt := 57) hx hb dX2_inherits_23 (by decide) (fun _ => ?_) (fun c9 => absurd (by rw [i_le, i_100, nI_toInt (by omega)]; omega) c9)
          refine lv_iconst (v := 0) hx hb dX2_inherits_57 (by decide) ?_
          refine W.zret (v := 0) (ty := .boolean) hx hb hr rfl (fun t ht hW => ⟨_, rfl, ?_, ht⟩) (fun _ h => absurd h List.not_mem_nil) dX2_inherits_58
          rw [hu]
          rfl
        | succ q ih =>
          intro k x h1 hu ls hl
          refine lv_iload hx hb dX2_inherits_19 (lv_at hl 4 rfl) ?_
          refine lv_bipush (v := 100) hx hb dX2_inherits_21 (by decide) ?_
          refine lv_icmp_ge (tgt := 57) hx hb dX2_inherits_23 (by decide) (fun c9 => absurd c9 (by rw [i_le, i_100, nI_toInt (by omega)]; omega)) (fun _ => ?_)
          refine lv_iload_n hx hb dX2_inherits_26 rfl (lv_at hl 3 rfl) ?_
          refine lv_iload_n hx hb dX2_inherits_27 rfl (lv_at hl 2 rfl) ?_
          refine lv_icmp_ne (tgt := 33) hx hb dX2_inherits_28 (by decide) (fun c28 => ?_) (fun c28 => ?_)
          · refine lv_aload_n hx hb dX2_inherits_33 rfl (lv_at hl 0 rfl) ?_
            refine lv_iload_n hx hb dX2_inherits_34 rfl (lv_at hl 3 rfl) ?_
            refine pq_i (va_runV (As := [.int x]) (rest := []) ⟨hx, hb, hml, hown, hts⟩ (c_X2_fieldsOf l D cI cZ cT h a1 a2 a3 md sz fl O hrm mt wh _ x) (cwV 1 hts gX2_inherits_X2_fieldsOf rfl rfl rfl (by decide +kernel) ⟨Nat.le_of_ble_eq_true rfl, Nat.le_of_ble_eq_true rfl⟩) (pre_v ⟨rfl, hp⟩ hKN (recv hKN hp.1 rfl)) rfl rfl hl.1 rfl (lv_room (Nat.le_of_ble_eq_true rfl)) dX2_inherits_35 ⟨Nat.zero_le _, Nat.zero_le _⟩) (fun r35 hr35 => ?_)
            refine lv_iconst (v := 2) hx hb dX2_inherits_38 (by decide) ?_
            refine lv_icmp_ge (tgt := 44) hx hb dX2_inherits_39 (by decide) (fun c39 => ?_) (fun c39 => ?_)
            · simp only [i_lt, i_le, i_0, i_1, i_2, i_4, i_40, i_100, i_400, i_401] at c39
              rw [hr35, nI_toInt (by have := fof_le hrm x; omega)] at c39
              obtain ⟨j35, e35, k35, q35⟩ := fof_ge (O := O) (v := x) (by omega)
              refine lv_aload_n hx hb dX2_inherits_44 rfl (lv_at hl 0 rfl) ?_
              refine lv_iload_n hx hb dX2_inherits_45 rfl (lv_at hl 3 rfl) ?_
              refine lv_iconst (v := 0) hx hb dX2_inherits_46 (by decide) ?_
              refine pq_i (va_runV (As := [.int x, .int 0]) (rest := []) ⟨hx, hb, hml, hown, hts⟩ (c_X2_field l D cI cZ cT h a1 a2 a3 md sz fl O hrm mt wh _ x j35 0 e35 (by omega)) (cwV 2 hts gX2_inherits_X2_field rfl rfl rfl (by decide +kernel) ⟨Nat.le_of_ble_eq_true rfl, Nat.le_of_ble_eq_true rfl⟩) (pre_v ⟨rfl, hp⟩ hKN (recv hKN hp.1 rfl)) rfl rfl hl.1 rfl (lv_room (Nat.le_of_ble_eq_true rfl)) dX2_inherits_47 ⟨Nat.zero_le _, Nat.zero_le _⟩) (fun r47 hr47 => ?_)
              subst hr47
              refine lv_istore_n (lv' := [(3, .int (O.2.2.2 j35 0)), (0, .ref h), (1, .int c0), (2, .int d), (4, .int (nI k))]) hx hb dX2_inherits_50 rfl hl (by decide) rfl (fun ls hl => ?_)
              refine lv_iinc (v := ((nI k) + 1)) (lv' := [(4, .int ((nI k) + 1)), (3, .int (O.2.2.2 j35 0)), (0, .ref h), (1, .int c0), (2, .int d)]) hx hb dX2_inherits_51 hl (k := 4) rfl rfl (by decide) rfl (fun ls hl => ?_)
              refine lv_goto (tgt := 19) hx hb dX2_inherits_54 (by decide) ?_
              rw [← nI_succ] at hl
              exact ih (k + 1) _ (by omega) (by rw [hu, inh_go c28 k35]) _ (lv_sub hl [2, 3, 4, 1, 0] rfl)
            · simp only [i_lt, i_le, i_0, i_1, i_2, i_4, i_40, i_100, i_400, i_401] at c39
              rw [hr35, nI_toInt (by have := fof_le hrm x; omega)] at c39
              have k35 := fof_lt (O := O) (v := x) (by omega)
              refine lv_iconst (v := 0) hx hb dX2_inherits_42 (by decide) ?_
              refine W.zret (v := 0) (ty := .boolean) hx hb hr rfl (fun t ht hW => ⟨_, rfl, ?_, ht⟩) (fun _ h => absurd h List.not_mem_nil) dX2_inherits_43
              rw [hu, inh_none c28 k35]
              rfl
          · refine lv_iconst (v := 1) hx hb dX2_inherits_31 (by decide) ?_
            refine W.zret (v := 1) (ty := .boolean) hx hb hr rfl (fun t ht hW => ⟨_, rfl, ?_, ht⟩) (fun _ h => absurd h List.not_mem_nil) dX2_inherits_32
            rw [hu, inh_eq c28]
            rfl
      exact loop 100 0 c0 (by omega) (inhs_go b2 c9) _ (lv_sub hl [2, 3, 4, 1, 0] rfl)
    · refine lv_iconst (v := 0) hx hb dX2_inherits_12 (by decide) ?_
      refine W.zret (v := 0) (ty := .boolean) hx hb hr rfl (fun t ht hW => ⟨_, rfl, ?_, ht⟩) (fun _ h => absurd h List.not_mem_nil) dX2_inherits_13
      unfold inhs
      rw [decide_eq_true c9, Bool.not_true, Bool.and_false]
      rfl
