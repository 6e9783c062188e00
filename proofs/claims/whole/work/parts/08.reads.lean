theorem iw_X1_findIn_X1 : ∀ w ∈ wsX10, w ∈ wsX1_findIn := by decide +kernel
theorem iw_X1_findIn_X0 : ∀ w ∈ wsX00, w ∈ wsX1_findIn := by decide +kernel
theorem iw_X1_goUp_X1 : ∀ w ∈ wsX10, w ∈ wsX1_goUp := by decide +kernel
theorem iw_X1_goUp_X0 : ∀ w ∈ wsX00, w ∈ wsX1_goUp := by decide +kernel
theorem iw_X1_lookUp_X1 : ∀ w ∈ wsX10, w ∈ wsX1_lookUp := by decide +kernel
theorem iw_X1_lookUp_X0 : ∀ w ∈ wsX00, w ∈ wsX1_lookUp := by decide +kernel
theorem iw_X1_above_X1 : ∀ w ∈ wsX10, w ∈ wsX1_above := by decide +kernel
theorem iw_X1_above_X0 : ∀ w ∈ wsX00, w ∈ wsX1_above := by decide +kernel
theorem iw_X1_method_X1 : ∀ w ∈ wsX10, w ∈ wsX1_method := by decide +kernel
theorem iw_X1_where_X1 : ∀ w ∈ wsX10, w ∈ wsX1_where := by decide +kernel
theorem iw_X1_get_X1 : ∀ w ∈ wsX10, w ∈ wsX1_get := by decide +kernel
theorem iw_X1_get_X0 : ∀ w ∈ wsX00, w ∈ wsX1_get := by decide +kernel
theorem iw_X1_size_X1 : ∀ w ∈ wsX10, w ∈ wsX1_size := by decide +kernel
theorem iw_X1_size_X0 : ∀ w ∈ wsX00, w ∈ wsX1_size := by decide +kernel
theorem pmF_lt {g : Nat → Int32} {n : Nat} {sel : Int32} {i : Nat} : ∀ (q k : Nat), pmF g n sel q k = some i → i + 1 < n
  | 0, k, h => by cases h
  | q + 1, k, h => by
    rw [pmF] at h
    split at h
    · rename_i h1
      split at h
      · cases h
        exact h1
      · exact pmF_lt q (k + 2) h
    · cases h
theorem pm_lt {g : Nat → Int32} {n : Nat} {sel : Int32} {i : Nat} (h : pm g n sel = some i) : i + 1 < n := pmF_lt 21 0 h
theorem nI_nm1 {n : Nat} (h : n < 2 ^ 31) : ¬ nI n = -1 := by
  intro e
  have := congrArg Int32.toInt e
  rw [nI_toInt h, i_m1] at this
  omega
theorem cls_even {O : Ob} {v : Int32} {j : Nat} (h : cls O v = some j) : v.toInt % 2 = 0 := tv_is_even (cls_tv h).1
set_option maxHeartbeats 4000000 in
set_option maxRecDepth 100000 in
theorem c_X1_findIn_null (l : Launch) (D : va_G) (cI cZ cT : ClassId) (ρ : Nat → Nat) (h tq : Nat) (th : Nat → Option Nat) (O : Ob) (mt wh : Int32) (H0 : Heap) (sel : Int32) : Met l yX1_findIn wsX1_findIn ({ frames := 2, cells := 0, slots := 0, locals := 42 }) (pK D cI cZ cT [.ref h, .null, .int sel] (fun H => H = H0 ∧ px D cI cT ρ h tq th O mt wh H0)) (vp_Si (fun r => r = 0)) 0 0 (fun _ => False) := by
  refine Met.ofW (cc := cX1_findIn) (maxL := 4) (ret := (some .boolean)) (by decide) rfl ?_
  intro p e s m args below meth c s₁ B hml hv
  obtain ⟨rfl, hpic, hKN⟩ := hv
  have hK := hKN.1
  have hx := B.exec
  have hb := B.bytes
  have hr := B.returns
  have hts := atoms_spec (ws := wsX1_findIn) B.pre
  have hown : s.vm.findClass RX1 = some m.cls := findClass_of_methodNamed B.named
  have hlocks := B.notSynchronized
  obtain ⟨hH, hp⟩ := hpic
  subst hH
  have hl := lv_entry ([.ref h, .null, .int sel]) (n := 4) (Nat.le_of_ble_eq_true rfl)
  rw [lg_entry_eq]
  generalize (lg_sl ([.ref h, .null, .int sel]) ++ List.replicate (4 - (lg_sl ([.ref h, .null, .int sel])).length) Slot.unset).toArray = ls at hl ⊢
  have hl : lv_has ls 4 [(0, .ref h), (1, .null), (2, .int sel)] := hl
  refine lv_aload_nN hx hb dX1_findIn_0 rfl (lv_at hl 1 rfl) ?_
  refine lv_ifnonnullN hx hb dX1_findIn_1 ?_
  refine lv_iconst (v := (-1)) hx hb dX1_findIn_4 (by decide) ?_
  refine lv_goto (tgt := 13) hx hb dX1_findIn_5 (by decide) ?_
  refine lv_istore_n (lv' := [(3, .int (-1)), (0, .ref h), (1, .null), (2, .int sel)]) hx hb dX1_findIn_13 rfl hl (by decide) rfl (fun ls hl => ?_)
  refine lv_iload_n hx hb dX1_findIn_14 rfl (lv_at hl 0 rfl) ?_
  refine lv_iconst (v := (-1)) hx hb dX1_findIn_15 (by decide) ?_
  refine lv_icmp_ne (tgt := 21) hx hb dX1_findIn_16 (by decide) (fun c9 => absurd rfl c9) (fun _ => ?_)
  refine lv_iconst (v := 0) hx hb dX1_findIn_19 (by decide) ?_
  refine W.zret (v := 0) (ty := .boolean) hx hb hr rfl (fun t ht hW => ⟨_, rfl, ?_, ht⟩) (fun _ h => absurd h List.not_mem_nil) dX1_findIn_20
  rfl
set_option maxHeartbeats 4000000 in
set_option maxRecDepth 100000 in
theorem c_X1_findIn (l : Launch) (D : va_G) (cI cZ cT : ClassId) (ρ : Nat → Nat) (h tq : Nat) (th : Nat → Option Nat) (O : Ob) (mt wh : Int32) (H0 : Heap) (sel : Int32) (j a f : Nat) (ht : tg D cI a f (O.2.1 j) (O.2.2.1 j) (O.2.2.2 j) H0) : Met l yX1_findIn wsX1_findIn ({ frames := 2, cells := 0, slots := 0, locals := 42 }) (pK D cI cZ cT [.ref h, .ref a, .int sel] (fun H => H = H0 ∧ px D cI cT ρ h tq th O mt wh H0)) (pm_Qi (fun r H1 => (pm (O.2.2.2 j) (O.2.2.1 j) sel = none ∧ r = 0 ∧ px D cI cT ρ h tq th O mt wh H1) ∨ (∃ i, pm (O.2.2.2 j) (O.2.2.1 j) sel = some i ∧ r = 1 ∧ px D cI cT ρ h tq th O (O.2.2.2 j (i + 1)) wh H1)) (fun q : Nat => q = h)) 0 0 (fun q : Nat => q = h) := by
  refine Met.ofW (cc := cX1_findIn) (maxL := 4) (ret := (some .boolean)) (by decide) rfl ?_
  intro p e s m args below meth c s₁ B hml hv
  obtain ⟨rfl, hpic, hKN⟩ := hv
  have hK := hKN.1
  have hx := B.exec
  have hb := B.bytes
  have hr := B.returns
  have hts := atoms_spec (ws := wsX1_findIn) B.pre
  have hown : s.vm.findClass RX1 = some m.cls := findClass_of_methodNamed B.named
  have hlocks := B.notSynchronized
  obtain ⟨hH, hp⟩ := hpic
  subst hH
  have hS : va_S (fun q : Nat => q = h) s.heap s.heap [] := va_S.rf
  have hl := lv_entry ([.ref h, .ref a, .int sel]) (n := 4) (Nat.le_of_ble_eq_true rfl)
  rw [lg_entry_eq]
  generalize (lg_sl ([.ref h, .ref a, .int sel]) ++ List.replicate (4 - (lg_sl ([.ref h, .ref a, .int sel])).length) Slot.unset).toArray = ls at hl ⊢
  have hl : lv_has ls 4 [(0, .ref h), (1, .ref a), (2, .int sel)] := hl
  refine lv_aload_n hx hb dX1_findIn_0 rfl (lv_at hl 1 rfl) ?_
  refine lv_ifnonnull (tgt := 8) hx hb dX1_findIn_1 (by decide) ?_
  refine lv_aload_n hx hb dX1_findIn_8 rfl (lv_at hl 1 rfl) ?_
  refine lv_iload_n hx hb dX1_findIn_9 rfl (lv_at hl 2 rfl) ?_
  refine pq_i (va_runVN (As := [.int sel]) (rest := []) ⟨hx, hb, hml, hown, hts⟩ (c_X0_placeOfMethod l D cI cZ cT a f (O.2.1 j) (O.2.2.1 j) (O.2.2.2 j) _ sel) ⟨va_cnB 1 hts gX1_findIn_X0_placeOfMethod_n78 rfl rfl rfl hKN.2.2.2.2.2.2.2.1 (hts (.initialized RX0) (by decide +kernel)) (by decide +kernel) ⟨Nat.le_of_ble_eq_true rfl, Nat.le_of_ble_eq_true rfl⟩, hts (.instanceMethod yX0_placeOfMethod) (by decide +kernel), hts (.selects RX0 yX0_placeOfMethod yX0_placeOfMethod) (by decide +kernel)⟩ (pre_v ⟨rfl, ht⟩ hKN (recv hKN ht.1 rfl)) rfl rfl hl.1 rfl (lv_room (Nat.le_of_ble_eq_true rfl)) dX1_findIn_10 ⟨Nat.zero_le _, Nat.zero_le _⟩) (fun r10 hr10 => ?_)
  rcases hpm10 : pm (O.2.2.2 j) (O.2.2.1 j) sel with _ | i10
  · rw [hpm10] at hr10
    subst hr10
    show W p l e _ s m _ below meth c _ _ _ _ _ (F0 m 13 ls [.int (-1)])
    refine lv_istore_n (lv' := [(3, .int (-1)), (0, .ref h), (1, .ref a), (2, .int sel)]) hx hb dX1_findIn_13 rfl hl (by decide) rfl (fun ls hl => ?_)
    refine lv_iload_n hx hb dX1_findIn_14 rfl (lv_at hl 0 rfl) ?_
    refine lv_iconst (v := (-1)) hx hb dX1_findIn_15 (by decide) ?_
    refine lv_icmp_ne (tgt := 21) hx hb dX1_findIn_16 (by decide) (fun c9 => absurd rfl c9) (fun _ => ?_)
    refine lv_iconst (v := 0) hx hb dX1_findIn_19 (by decide) ?_
    refine W.zret (v := 0) (ty := .boolean) hx hb hr rfl (fun t ht hW => ⟨⟨_, rfl, ?_⟩, hS.F ht⟩) hS.2.2 dX1_findIn_20
    rw [ht]
    exact Or.inl ⟨rfl, rfl, hp⟩
  · rw [hpm10] at hr10
    subst hr10
    have hlt10 := pm_lt hpm10
    show W p l e _ s m _ below meth c _ _ _ _ _ (F0 m 13 ls [.int (nI (i10 + 1))])
    refine lv_istore_n (lv' := [(3, .int (nI (i10 + 1))), (0, .ref h), (1, .ref a), (2, .int sel)]) hx hb dX1_findIn_13 rfl hl (by decide) rfl (fun ls hl => ?_)
    refine lv_iload_n hx hb dX1_findIn_14 rfl (lv_at hl 0 rfl) ?_
    refine lv_iconst (v := (-1)) hx hb dX1_findIn_15 (by decide) ?_
    refine lv_icmp_ne (tgt := 21) hx hb dX1_findIn_16 (by decide) (fun _ => ?_) (fun c9 => absurd c9 (nI_nm1 (by have := ht.2.2; omega)))
    refine lv_aload_n hx hb dX1_findIn_21 rfl (lv_at hl 1 rfl) ?_
    refine lv_aload_n hx hb dX1_findIn_22 rfl (lv_at hl 2 rfl) ?_
    refine lv_iload_n hx hb dX1_findIn_23 rfl (lv_at hl 0 rfl) ?_
    refine pq_i (va_runVN (As := [.int (nI (i10 + 1))]) (rest := [.ref h]) ⟨hx, hb, hml, hown, hts⟩ (c_X0_field l D cI cZ cT a f (O.2.1 j) (O.2.2.1 j) (O.2.2.2 j) _ (nI (i10 + 1))) ⟨va_cnB 1 hts gX1_findIn_X0_field_n37 rfl rfl rfl hKN.2.2.2.2.2.1 (hts (.initialized RX0) (by decide +kernel)) (by decide +kernel) ⟨Nat.le_of_ble_eq_true rfl, Nat.le_of_ble_eq_true rfl⟩, hts (.instanceMethod yX0_field) (by decide +kernel), hts (.selects RX0 yX0_field yX0_field) (by decide +kernel)⟩ (pre_v ⟨rfl, ht⟩ hKN (recv hKN ht.1 rfl)) rfl rfl hl.1 rfl (lv_room (Nat.le_of_ble_eq_true rfl)) dX1_findIn_24 ⟨Nat.zero_le _, Nat.zero_le _⟩) (fun r24 hr24 => ?_)
    have hr24 : r24 = O.2.2.2 j (i10 + 1) := by
      rw [hr24]
      exact fl1_lt (i := (i10 + 1)) (by omega) ht.2.2
    subst hr24
    refine pw_put (ci := 1) (v := .int (O.2.2.2 j (i10 + 1))) (ty := .int) (C := RX1) (T := TX1) (N := 3) hx hb hts (iw_X1_findIn_X1) tyX1 tyX1_ok nmX1 hown hK hp.1 hS rfl rfl 1 (by decide) (hts (.fieldLink RX1 15 "MethodBook" "foundMethod" "I") (by decide +kernel)) (fun _ h9 => h9) rfl (by decide +kernel) rfl rfl (Nat.le_of_ble_eq_true rfl) dX1_findIn_27 (fun H locs hh hz ho hS => ?_)
    replace hp := px_found (mt' := O.2.2.2 j (i10 + 1)) (wh' := wh) hp hz ho hh hp.2.2.2.2.2.1
    refine lv_iconst (v := 1) hx hb dX1_findIn_30 (by decide) ?_
    refine W.zret (v := 1) (ty := .boolean) hx hb hr rfl (fun t ht hW => ⟨⟨_, rfl, ?_⟩, hS.F ht⟩) hS.2.2 dX1_findIn_31
    rw [ht]
    exact Or.inr ⟨i10, rfl, rfl, hp⟩
set_option maxHeartbeats 4000000 in
set_option maxRecDepth 100000 in
theorem c_X1_method (l : Launch) (D : va_G) (cI cZ cT : ClassId) (ρ : Nat → Nat) (h tq : Nat) (th : Nat → Option Nat) (O : Ob) (mt wh : Int32) (H0 : Heap) : Met l yX1_method wsX1_method ({ frames := 0, cells := 0, slots := 0, locals := 0 }) (pK D cI cZ cT [.ref h] (fun H => H = H0 ∧ px D cI cT ρ h tq th O mt wh H0)) (vp_Si (fun r => r = mt)) 0 0 (fun _ => False) := by
  refine Met.ofW (cc := cX1_method) (maxL := 1) (ret := (some .int)) (by decide) rfl ?_
  intro p e s m args below meth c s₁ B hml hv
  obtain ⟨rfl, hpic, hKN⟩ := hv
  have hK := hKN.1
  have hx := B.exec
  have hb := B.bytes
  have hr := B.returns
  have hts := atoms_spec (ws := wsX1_method) B.pre
  have hown : s.vm.findClass RX1 = some m.cls := findClass_of_methodNamed B.named
  have hlocks := B.notSynchronized
  obtain ⟨hH, hp⟩ := hpic
  subst hH
  have hl := lv_entry ([.ref h]) (n := 1) (Nat.le_of_ble_eq_true rfl)
  rw [lg_entry_eq]
  generalize (lg_sl ([.ref h]) ++ List.replicate (1 - (lg_sl ([.ref h])).length) Slot.unset).toArray = ls at hl ⊢
  have hl : lv_has ls 1 [(0, .ref h)] := hl
  refine lv_aload_n hx hb dX1_method_0 rfl (lv_at hl 0 rfl) ?_
  refine va_get (D := D) (ci := 1) (v := .int mt) (C := RX1) (T := TX1) (N := 3) hx hb hts (iw_X1_method_X1) hown hK (one hp.1) 0 rfl rfl 1 (by decide) (hts (.fieldLink RX1 15 "MethodBook" "foundMethod" "I") (by decide +kernel)) (fun _ h9 => h9) rfl dX1_method_1 ?_
  refine W.iret (v := mt) hx hb hr (fun t ht hW => ⟨_, rfl, ?_, ht⟩) (fun _ h => absurd h List.not_mem_nil) dX1_method_4
  rfl
set_option maxHeartbeats 4000000 in
set_option maxRecDepth 100000 in
theorem c_X1_where (l : Launch) (D : va_G) (cI cZ cT : ClassId) (ρ : Nat → Nat) (h tq : Nat) (th : Nat → Option Nat) (O : Ob) (mt wh : Int32) (H0 : Heap) : Met l yX1_where wsX1_where ({ frames := 0, cells := 0, slots := 0, locals := 0 }) (pK D cI cZ cT [.ref h] (fun H => H = H0 ∧ px D cI cT ρ h tq th O mt wh H0)) (vp_Si (fun r => r = wh)) 0 0 (fun _ => False) := by
  refine Met.ofW (cc := cX1_where) (maxL := 1) (ret := (some .int)) (by decide) rfl ?_
  intro p e s m args below meth c s₁ B hml hv
  obtain ⟨rfl, hpic, hKN⟩ := hv
  have hK := hKN.1
  have hx := B.exec
  have hb := B.bytes
  have hr := B.returns
  have hts := atoms_spec (ws := wsX1_where) B.pre
  have hown : s.vm.findClass RX1 = some m.cls := findClass_of_methodNamed B.named
  have hlocks := B.notSynchronized
  obtain ⟨hH, hp⟩ := hpic
  subst hH
  have hl := lv_entry ([.ref h]) (n := 1) (Nat.le_of_ble_eq_true rfl)
  rw [lg_entry_eq]
  generalize (lg_sl ([.ref h]) ++ List.replicate (1 - (lg_sl ([.ref h])).length) Slot.unset).toArray = ls at hl ⊢
  have hl : lv_has ls 1 [(0, .ref h)] := hl
  refine lv_aload_n hx hb dX1_where_0 rfl (lv_at hl 0 rfl) ?_
  refine va_get (D := D) (ci := 1) (v := .int wh) (C := RX1) (T := TX1) (N := 3) hx hb hts (iw_X1_where_X1) hown hK (one hp.1) 0 rfl rfl 2 (by decide) (hts (.fieldLink RX1 19 "MethodBook" "foundClass" "I") (by decide +kernel)) (fun _ h9 => h9) rfl dX1_where_1 ?_
  refine W.iret (v := wh) hx hb hr (fun t ht hW => ⟨_, rfl, ?_, ht⟩) (fun _ h => absurd h List.not_mem_nil) dX1_where_4
  rfl
set_option maxHeartbeats 4000000 in
set_option maxRecDepth 100000 in
theorem c_X1_get (l : Launch) (D : va_G) (cI cZ cT : ClassId) (ρ : Nat → Nat) (h tq : Nat) (th : Nat → Option Nat) (O : Ob) (mt wh : Int32) (H0 : Heap) (k i : Int32) : Met l yX1_get wsX1_get ({ frames := 2, cells := 0, slots := 0, locals := 42 }) (pK D cI cZ cT [.ref h, .int k, .int i] (fun H => H = H0 ∧ px D cI cT ρ h tq th O mt wh H0)) (vp_Si (fun r => r = gto O k i)) 0 0 (fun _ => False) := by
  refine Met.ofW (cc := cX1_get) (maxL := 4) (ret := (some .int)) (by decide) rfl ?_
  intro p e s m args below meth c s₁ B hml hv
  obtain ⟨rfl, hpic, hKN⟩ := hv
  have hK := hKN.1
  have hx := B.exec
  have hb := B.bytes
  have hr := B.returns
  have hts := atoms_spec (ws := wsX1_get) B.pre
  have hown : s.vm.findClass RX1 = some m.cls := findClass_of_methodNamed B.named
  have hlocks := B.notSynchronized
  obtain ⟨hH, hp⟩ := hpic
  subst hH
  have hl := lv_entry ([.ref h, .int k, .int i]) (n := 4) (Nat.le_of_ble_eq_true rfl)
  rw [lg_entry_eq]
  generalize (lg_sl ([.ref h, .int k, .int i]) ++ List.replicate (4 - (lg_sl ([.ref h, .int k, .int i])).length) Slot.unset).toArray = ls at hl ⊢
  have hl : lv_has ls 4 [(0, .ref h), (1, .int k), (2, .int i)] := hl
  refine lv_aload_n hx hb dX1_get_0 rfl (lv_at hl 0 rfl) ?_
  refine lv_iload_n hx hb dX1_get_1 rfl (lv_at hl 1 rfl) ?_
  refine pq_q (va_runV (As := [.int k]) (rest := []) ⟨hx, hb, hml, hown, hts⟩ (c_X1_thingOf l D cI cZ cT ρ h tq th O mt wh _ k) (cwV 1 hts gX1_get_X1_thingOf rfl rfl rfl (by decide +kernel) ⟨Nat.le_of_ble_eq_true rfl, Nat.le_of_ble_eq_true rfl⟩) (pre_v ⟨rfl, hp⟩ hKN (recv hKN hp.1 rfl)) rfl rfl hl.1 rfl (lv_room (Nat.le_of_ble_eq_true rfl)) dX1_get_2 ⟨Nat.zero_le _, Nat.zero_le _⟩) (fun h2 => ?_) (fun a2 h2 => ?_)
  · have e2 := tp_none h2
    refine lv_astore_nN (lv' := [(3, .null), (0, .ref h), (1, .int k), (2, .int i)]) hx hb dX1_get_5 rfl hl (by decide) rfl (fun ls hl => ?_)
    refine lv_aload_nN hx hb dX1_get_6 rfl (lv_at hl 0 rfl) ?_
    refine lv_ifnonnullN hx hb dX1_get_7 ?_
    refine lv_iconst (v := 0) hx hb dX1_get_10 (by decide) ?_
    refine lv_goto (tgt := 19) hx hb dX1_get_11 (by decide) ?_
    refine W.iret (v := 0) hx hb hr (fun t ht hW => ⟨_, rfl, ?_, ht⟩) (fun _ h => absurd h List.not_mem_nil) dX1_get_19
    unfold gto
    rw [e2]
  · obtain ⟨j2, f2, e2, x2, y2, z2, l2, u2, m2, t2⟩ := tp_some h2
    refine lv_astore_n (lv' := [(3, .ref a2), (0, .ref h), (1, .int k), (2, .int i)]) hx hb dX1_get_5 rfl hl (by decide) rfl (fun ls hl => ?_)
    refine lv_aload_n hx hb dX1_get_6 rfl (lv_at hl 0 rfl) ?_
    refine lv_ifnonnull (tgt := 14) hx hb dX1_get_7 (by decide) ?_
    refine lv_aload_n hx hb dX1_get_14 rfl (lv_at hl 0 rfl) ?_
    refine lv_iload_n hx hb dX1_get_15 rfl (lv_at hl 3 rfl) ?_
    refine pq_i (va_runVN (As := [.int i]) (rest := []) ⟨hx, hb, hml, hown, hts⟩ (c_X0_field l D cI cZ cT a2 f2 (O.2.1 j2) (O.2.2.1 j2) (O.2.2.2 j2) _ i) ⟨va_cnB 1 hts gX1_get_X0_field_n37 rfl rfl rfl hKN.2.2.2.2.2.1 (hts (.initialized RX0) (by decide +kernel)) (by decide +kernel) ⟨Nat.le_of_ble_eq_true rfl, Nat.le_of_ble_eq_true rfl⟩, hts (.instanceMethod yX0_field) (by decide +kernel), hts (.selects RX0 yX0_field yX0_field) (by decide +kernel)⟩ (pre_v ⟨rfl, t2⟩ hKN (recv hKN t2.1 rfl)) rfl rfl hl.1 rfl (lv_room (Nat.le_of_ble_eq_true rfl)) dX1_get_16 ⟨Nat.zero_le _, Nat.zero_le _⟩) (fun r16 hr16 => ?_)
    refine W.iret (v := r16) hx hb hr (fun t ht hW => ⟨_, rfl, ?_, ht⟩) (fun _ h => absurd h List.not_mem_nil) dX1_get_19
    unfold gto
    rw [e2]
    exact hr16
set_option maxHeartbeats 4000000 in
set_option maxRecDepth 100000 in
theorem c_X1_size (l : Launch) (D : va_G) (cI cZ cT : ClassId) (ρ : Nat → Nat) (h tq : Nat) (th : Nat → Option Nat) (O : Ob) (mt wh : Int32) (H0 : Heap) (k : Int32) : Met l yX1_size wsX1_size ({ frames := 1, cells := 0, slots := 0, locals := 21 }) (pK D cI cZ cT [.ref h, .int k] (fun H => H = H0 ∧ px D cI cT ρ h tq th O mt wh H0)) (vp_Si (fun r => r = szo O k)) 0 0 (fun _ => False) := by
  refine Met.ofW (cc := cX1_size) (maxL := 3) (ret := (some .int)) (by decide) rfl ?_
  intro p e s m args below meth c s₁ B hml hv
  obtain ⟨rfl, hpic, hKN⟩ := hv
  have hK := hKN.1
  have hx := B.exec
  have hb := B.bytes
  have hr := B.returns
  have hts := atoms_spec (ws := wsX1_size) B.pre
  have hown : s.vm.findClass RX1 = some m.cls := findClass_of_methodNamed B.named
  have hlocks := B.notSynchronized
  obtain ⟨hH, hp⟩ := hpic
  subst hH
  have hl := lv_entry ([.ref h, .int k]) (n := 3) (Nat.le_of_ble_eq_true rfl)
  rw [lg_entry_eq]
  generalize (lg_sl ([.ref h, .int k]) ++ List.replicate (3 - (lg_sl ([.ref h, .int k])).length) Slot.unset).toArray = ls at hl ⊢
  have hl : lv_has ls 3 [(0, .ref h), (1, .int k)] := hl
  refine lv_aload_n hx hb dX1_size_0 rfl (lv_at hl 0 rfl) ?_
  refine lv_iload_n hx hb dX1_size_1 rfl (lv_at hl 1 rfl) ?_
  refine pq_q (va_runV (As := [.int k]) (rest := []) ⟨hx, hb, hml, hown, hts⟩ (c_X1_thingOf l D cI cZ cT ρ h tq th O mt wh _ k) (cwV 1 hts gX1_size_X1_thingOf rfl rfl rfl (by decide +kernel) ⟨Nat.le_of_ble_eq_true rfl, Nat.le_of_ble_eq_true rfl⟩) (pre_v ⟨rfl, hp⟩ hKN (recv hKN hp.1 rfl)) rfl rfl hl.1 rfl (lv_room (Nat.le_of_ble_eq_true rfl)) dX1_size_2 ⟨Nat.zero_le _, Nat.zero_le _⟩) (fun h2 => ?_) (fun a2 h2 => ?_)
  · have e2 := tp_none h2
    refine lv_astore_nN (lv' := [(2, .null), (0, .ref h), (1, .int k)]) hx hb dX1_size_5 rfl hl (by decide) rfl (fun ls hl => ?_)
    refine lv_aload_nN hx hb dX1_size_6 rfl (lv_at hl 0 rfl) ?_
    refine lv_ifnullN (tgt := 17) hx hb dX1_size_7 (by decide) ?_
    refine lv_iconst (v := (-1)) hx hb dX1_size_17 (by decide) ?_
    refine lv_goto (tgt := 26) hx hb dX1_size_18 (by decide) ?_
    refine W.iret (v := (-1)) hx hb hr (fun t ht hW => ⟨_, rfl, ?_, ht⟩) (fun _ h => absurd h List.not_mem_nil) dX1_size_26
    unfold szo
    rw [e2]
  · obtain ⟨j2, f2, e2, x2, y2, z2, l2, u2, m2, t2⟩ := tp_some h2
    refine lv_astore_n (lv' := [(2, .ref a2), (0, .ref h), (1, .int k)]) hx hb dX1_size_5 rfl hl (by decide) rfl (fun ls hl => ?_)
    refine lv_aload_n hx hb dX1_size_6 rfl (lv_at hl 0 rfl) ?_
    refine lv_ifnull hx hb dX1_size_7 ?_
    refine lv_aload_n hx hb dX1_size_10 rfl (lv_at hl 0 rfl) ?_
    refine va_getN (D := D) (ci := 0) (v := .int (b2i (O.2.1 j2))) (C := RX0) (T := TX0) (N := 2) (host := RX1) hx hb hts (iw_X1_size_X0) hown hK (one t2.1) 0 rfl rfl 1 (by decide) (va_Nw.use rfl hKN.2.2.2.1) (fun _ h9 => h9) rfl dX1_size_11 ?_
    refine lv_if_ne (tgt := 21) hx hb dX1_size_14 (by decide) (fun c14 => ?_) (fun c14 => ?_)
    · refine lv_aload_n hx hb dX1_size_21 rfl (lv_at hl 0 rfl) ?_
      refine va_getN (D := D) (ci := 0) (v := .ref f2) (C := RX0) (T := TX0) (N := 2) (host := RX1) hx hb hts (iw_X1_size_X0) hown hK (one t2.1) 0 rfl rfl 0 (by decide) (va_Nw.use rfl hKN.2.2.1) (fun _ h9 => h9) rfl dX1_size_22 ?_
      refine va_alen (v := (nI (O.2.2.1 j2))) hx hb hK (one t2.2.1) 0 0 rfl rfl rfl dX1_size_25 ?_
      refine W.iret (v := (nI (O.2.2.1 j2))) hx hb hr (fun t ht hW => ⟨_, rfl, ?_, ht⟩) (fun _ h => absurd h List.not_mem_nil) dX1_size_26
      unfold szo
      rw [e2]
      show _ = (if _ then _ else _)
      rw [if_pos (b2i_n c14)]
    · refine lv_iconst (v := (-1)) hx hb dX1_size_17 (by decide) ?_
      refine lv_goto (tgt := 26) hx hb dX1_size_18 (by decide) ?_
      refine W.iret (v := (-1)) hx hb hr (fun t ht hW => ⟨_, rfl, ?_, ht⟩) (fun _ h => absurd h List.not_mem_nil) dX1_size_26
      unfold szo
      rw [e2]
      show _ = (if _ then _ else _)
      rw [if_neg (by rw [b2i_z c14]; decide)]
