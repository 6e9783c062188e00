theorem iw_X1_thingOf_X1 : ∀ w ∈ wsX10, w ∈ wsX1_thingOf := by decide +kernel
theorem iw_X1_thingMeantBy_X1 : ∀ w ∈ wsX10, w ∈ wsX1_thingMeantBy := by decide +kernel
theorem iw_X1_isValue_X1 : ∀ w ∈ wsX10, w ∈ wsX1_isValue := by decide +kernel
theorem iw_X1_classMeantBy_X1 : ∀ w ∈ wsX10, w ∈ wsX1_classMeantBy := by decide +kernel
theorem iw_X1_classMeantBy_X0 : ∀ w ∈ wsX00, w ∈ wsX1_classMeantBy := by decide +kernel
theorem iw_X1_hasBadDictionary_X1 : ∀ w ∈ wsX10, w ∈ wsX1_hasBadDictionary := by decide +kernel
theorem iw_X1_hasBadDictionary_X0 : ∀ w ∈ wsX00, w ∈ wsX1_hasBadDictionary := by decide +kernel
section PR
variable {p : Program} {l : Launch} {e : Env} {R : Room} {s : State} {m : MethodId} {args : Array Value} {below : List Frame} {meth : Method} {c : Code} {H : Heap} {locs : List Loc} {cells slots : Nat} {Q : State → Prop}
variable {pc : Nat} {ls : Array Slot} {rest st0 : List Value} {a : Array Value}
theorem pq_r {post : Option Nat → Prop} (hr : va_Run p l e R s m args below meth c H locs cells slots 0 0 (F0 m pc ls st0) rest (va_Sq post a) (fun _ => False)) (kk : ∀ r : Option Nat, post r → W p l e R s m args below meth c H locs cells slots Q (F0 m (pc + 3) ls (va_rf r :: rest))) : W p l e R s m args below meth c H locs cells slots Q (F0 m pc ls st0) := by
  intro T hT X
  obtain ⟨v, st₀, t, T', L, h0, X', hL, e1, e2, ⟨r, hv, hp, hh⟩, st⟩ := hr T hT X
  cases hv
  obtain ⟨t2, a1, b1⟩ := kk r hp T' (by rw [e1, hh, h0]) (Stand.forget X' (fun q h => (hL q h).elim))
  exact ⟨t2, st t2 a1, b1⟩
end PR
theorem tv_even {O : Ob} {v : Int32} (h : v.toInt % 2 = 0) : tv O v = tz O (v.toInt / 2) := by
  unfold tv
  rw [if_pos h]
theorem tv_odd {O : Ob} {v : Int32} (h : ¬ v.toInt % 2 = 0) : tv O v = none := by
  unfold tv
  rw [if_neg h]
theorem tv_is_even {O : Ob} {v : Int32} {j : Nat} (h : tv O v = some j) : v.toInt % 2 = 0 := by
  by_cases hv : v.toInt % 2 = 0
  · exact hv
  · rw [tv_odd hv] at h
    cases h
theorem cls_tv {O : Ob} {v : Int32} {j : Nat} (h : cls O v = some j) : tv O v = some j ∧ 2 ≤ O.2.2.1 j := by
  unfold cls at h
  split at h
  · cases h
  · rename_i k hk
    split at h
    · rename_i h2
      cases h
      exact ⟨hk, h2⟩
    · cases h
theorem fl1_lt {n : Nat} {g : Nat → Int32} {i : Nat} (h : i < n) (hn : n ≤ 40) : fl1 n g (nI i) = g i := by
  unfold fl1
  rw [nI_toInt (by omega), if_pos (by omega), nI_clamp (by omega)]
theorem b2i_z {b : Bool} (h : b2i b = 0) : b = false := by
  cases b
  · rfl
  · exact absurd h (by decide)
theorem b2i_n {b : Bool} (h : ¬ b2i b = 0) : b = true := by
  cases b
  · exact absurd rfl h
  · rfl
set_option maxHeartbeats 4000000 in
set_option maxRecDepth 100000 in
theorem c_X1_isNumber (l : Launch) (D : va_G) (cI cZ cT : ClassId) (v : Int32) : Met l yX1_isNumber wsX1_isNumber ({ frames := 0, cells := 0, slots := 0, locals := 0 }) (pK D cI cZ cT [.int v] (fun H => True)) (vp_Si (fun r => r = b2i (decide (v.toInt % 2 = 1)))) 0 0 (fun _ => False) := by
  refine Met.ofW (cc := cX1_isNumber) (maxL := 1) (ret := (some .boolean)) (by decide) rfl ?_
  intro p e s m args below meth c s₁ B hml hv
  obtain ⟨rfl, hpic, hKN⟩ := hv
  have hK := hKN.1
  have hx := B.exec
  have hb := B.bytes
  have hr := B.returns
  have hts := atoms_spec (ws := wsX1_isNumber) B.pre
  have hown : s.vm.findClass RX1 = some m.cls := findClass_of_methodNamed B.named
  have hlocks := B.notSynchronized
  have hl := lv_entry ([.int v]) (n := 1) (Nat.le_of_ble_eq_true rfl)
  rw [lg_entry_eq]
  generalize (lg_sl ([.int v]) ++ List.replicate (1 - (lg_sl ([.int v])).length) Slot.unset).toArray = ls at hl ⊢
  have hl : lv_has ls 1 [(0, .int v)] := hl
  refine lv_iload_n hx hb dX1_isNumber_0 rfl (lv_at hl 0 rfl) ?_
  refine lv_iconst (v := 1) hx hb dX1_isNumber_1 (by decide) ?_
  refine lv_iand hx hb dX1_isNumber_2 ?_
  refine lv_iconst (v := 1) hx hb dX1_isNumber_3 (by decide) ?_
  refine lv_icmp_ne (tgt := 11) hx hb dX1_isNumber_4 (by decide) (fun c4 => ?_) (fun c4 => ?_)
  · refine lv_iconst (v := 0) hx hb dX1_isNumber_11 (by decide) ?_
    refine W.zret (v := 0) (ty := .boolean) hx hb hr rfl (fun t ht hW => ⟨_, rfl, ?_, ht⟩) (fun _ h => absurd h List.not_mem_nil) dX1_isNumber_12
    exact b2i_no (fun q => c4 ((i_and v).mpr q))
  · refine lv_iconst (v := 1) hx hb dX1_isNumber_7 (by decide) ?_
    refine lv_goto (tgt := 12) hx hb dX1_isNumber_8 (by decide) ?_
    refine W.zret (v := 1) (ty := .boolean) hx hb hr rfl (fun t ht hW => ⟨_, rfl, ?_, ht⟩) (fun _ h => absurd h List.not_mem_nil) dX1_isNumber_12
    exact b2i_yes ((i_and v).mp c4)
set_option maxHeartbeats 4000000 in
set_option maxRecDepth 100000 in
theorem c_X1_objectNumber (l : Launch) (D : va_G) (cI cZ cT : ClassId) (v : Int32) : Met l yX1_objectNumber wsX1_objectNumber ({ frames := 0, cells := 0, slots := 0, locals := 0 }) (pK D cI cZ cT [.int v] (fun H => True)) (vp_Si (fun r => r.toInt = v.toInt / 2)) 0 0 (fun _ => False) := by
  refine Met.ofW (cc := cX1_objectNumber) (maxL := 1) (ret := (some .int)) (by decide) rfl ?_
  intro p e s m args below meth c s₁ B hml hv
  obtain ⟨rfl, hpic, hKN⟩ := hv
  have hK := hKN.1
  have hx := B.exec
  have hb := B.bytes
  have hr := B.returns
  have hts := atoms_spec (ws := wsX1_objectNumber) B.pre
  have hown : s.vm.findClass RX1 = some m.cls := findClass_of_methodNamed B.named
  have hlocks := B.notSynchronized
  have hl := lv_entry ([.int v]) (n := 1) (Nat.le_of_ble_eq_true rfl)
  rw [lg_entry_eq]
  generalize (lg_sl ([.int v]) ++ List.replicate (1 - (lg_sl ([.int v])).length) Slot.unset).toArray = ls at hl ⊢
  have hl : lv_has ls 1 [(0, .int v)] := hl
  refine lv_iload_n hx hb dX1_objectNumber_0 rfl (lv_at hl 0 rfl) ?_
  refine lv_iconst (v := 1) hx hb dX1_objectNumber_1 (by decide) ?_
  refine lv_ishr hx hb dX1_objectNumber_2 ?_
  refine W.iret (v := (v >>> (1 &&& 31))) hx hb hr (fun t ht hW => ⟨_, rfl, ?_, ht⟩) (fun _ h => absurd h List.not_mem_nil) dX1_objectNumber_3
  exact i_shr v
set_option maxHeartbeats 4000000 in
set_option maxRecDepth 100000 in
theorem c_X1_objectValue (l : Launch) (D : va_G) (cI cZ cT : ClassId) (v : Int32) (h1 : 0 ≤ v.toInt) (h2 : v.toInt ≤ 1000) : Met l yX1_objectValue wsX1_objectValue ({ frames := 0, cells := 0, slots := 0, locals := 0 }) (pK D cI cZ cT [.int v] (fun H => True)) (vp_Si (fun r => r = 2 * v)) 0 0 (fun _ => False) := by
  refine Met.ofW (cc := cX1_objectValue) (maxL := 1) (ret := (some .int)) (by decide) rfl ?_
  intro p e s m args below meth c s₁ B hml hv
  obtain ⟨rfl, hpic, hKN⟩ := hv
  have hK := hKN.1
  have hx := B.exec
  have hb := B.bytes
  have hr := B.returns
  have hts := atoms_spec (ws := wsX1_objectValue) B.pre
  have hown : s.vm.findClass RX1 = some m.cls := findClass_of_methodNamed B.named
  have hlocks := B.notSynchronized
  have hl := lv_entry ([.int v]) (n := 1) (Nat.le_of_ble_eq_true rfl)
  rw [lg_entry_eq]
  generalize (lg_sl ([.int v]) ++ List.replicate (1 - (lg_sl ([.int v])).length) Slot.unset).toArray = ls at hl ⊢
  have hl : lv_has ls 1 [(0, .int v)] := hl
  refine lv_iload_n hx hb dX1_objectValue_0 rfl (lv_at hl 0 rfl) ?_
  refine lv_iconst (v := 1) hx hb dX1_objectValue_1 (by decide) ?_
  refine lv_ishl hx hb dX1_objectValue_2 ?_
  refine W.iret (v := (v <<< (1 &&& 31))) hx hb hr (fun t ht hW => ⟨_, rfl, ?_, ht⟩) (fun _ h => absurd h List.not_mem_nil) dX1_objectValue_3
  exact i_shl v h1 h2
set_option maxHeartbeats 4000000 in
set_option maxRecDepth 100000 in
theorem c_X1_thingOf (l : Launch) (D : va_G) (cI cZ cT : ClassId) (ρ : Nat → Nat) (h tq : Nat) (th : Nat → Option Nat) (O : Ob) (mt wh : Int32) (H0 : Heap) (k : Int32) : Met l yX1_thingOf wsX1_thingOf ({ frames := 0, cells := 0, slots := 0, locals := 0 }) (pK D cI cZ cT [.ref h, .int k] (fun H => H = H0 ∧ px D cI cT ρ h tq th O mt wh H0)) (va_Sq (fun r => tp D cI ρ th O (tk O k) H0 r)) 0 0 (fun _ => False) := by
  refine Met.ofW (cc := cX1_thingOf) (maxL := 2) (ret := (some (.object "MethodBook$Thing"))) (by decide) rfl ?_
  intro p e s m args below meth c s₁ B hml hv
  obtain ⟨rfl, hpic, hKN⟩ := hv
  have hK := hKN.1
  have hx := B.exec
  have hb := B.bytes
  have hr := B.returns
  have hts := atoms_spec (ws := wsX1_thingOf) B.pre
  have hown : s.vm.findClass RX1 = some m.cls := findClass_of_methodNamed B.named
  have hlocks := B.notSynchronized
  obtain ⟨hH, hp⟩ := hpic
  subst hH
  have hl := lv_entry ([.ref h, .int k]) (n := 2) (Nat.le_of_ble_eq_true rfl)
  rw [lg_entry_eq]
  generalize (lg_sl ([.ref h, .int k]) ++ List.replicate (2 - (lg_sl ([.ref h, .int k])).length) Slot.unset).toArray = ls at hl ⊢
  have hl : lv_has ls 2 [(0, .ref h), (1, .int k)] := hl
  refine lv_iload_n hx hb dX1_thingOf_0 rfl (lv_at hl 1 rfl) ?_
  refine lv_iconst (v := 1) hx hb dX1_thingOf_1 (by decide) ?_
  refine lv_icmp_lt (tgt := 12) hx hb dX1_thingOf_2 (by decide) (fun c2 => ?_) (fun c2 => ?_)
  · simp only [i_lt, i_le, i_0, i_1, i_2, i_4, i_40, i_100, i_400, i_401] at c2
    refine lv_null hx hb dX1_thingOf_12 ?_
    refine lv_goto (tgt := 22) hx hb dX1_thingOf_13 (by decide) ?_
    refine W.aret (v := .null) (rt := .object "MethodBook$Thing") hx hb hr (Or.inl ⟨_, rfl⟩) (Or.inl rfl) (fun t ht hW => ⟨none, rfl, ?_, ht⟩) (fun _ h => absurd h List.not_mem_nil) dX1_thingOf_22
    exact Or.inl ⟨tz_out (by omega), rfl⟩
  · simp only [i_lt, i_le, i_0, i_1, i_2, i_4, i_40, i_100, i_400, i_401] at c2
    refine lv_iload_n hx hb dX1_thingOf_5 rfl (lv_at hl 1 rfl) ?_
    refine lv_sipush (v := 400) hx hb dX1_thingOf_6 (by decide) ?_
    refine lv_icmp_le (tgt := 16) hx hb dX1_thingOf_9 (by decide) (fun c9 => ?_) (fun c9 => ?_)
    · simp only [i_lt, i_le, i_0, i_1, i_2, i_4, i_40, i_100, i_400, i_401] at c9
      refine lv_aload_n hx hb dX1_thingOf_16 rfl (lv_at hl 0 rfl) ?_
      refine va_get (D := D) (ci := 1) (v := .ref tq) (C := RX1) (T := TX1) (N := 3) hx hb hts (iw_X1_thingOf_X1) hown hK (one hp.1) 0 rfl rfl 0 (by decide) (hts (.fieldLink RX1 11 "MethodBook" "things" "[LMethodBook$Thing;") (by decide +kernel)) (fun _ h9 => h9) rfl dX1_thingOf_17 ?_
      refine lv_iload_n hx hb dX1_thingOf_20 rfl (lv_at hl 1 rfl) ?_
      refine va_aldq hx hb hK (one hp.2.1) 0 2 rfl rfl (vp_in_iff.mpr ⟨by omega, by omega⟩) dX1_thingOf_21 ?_
      refine W.aret (v := va_rf (th k.toNatClampNeg)) (rt := .object "MethodBook$Thing") hx hb hr (Or.inl ⟨_, rfl⟩) (va_rf_or _) (fun t ht hW => ⟨(th k.toNatClampNeg), rfl, ?_, ht⟩) (fun _ h => absurd h List.not_mem_nil) dX1_thingOf_22
      exact px_tz hp (by omega) (by omega)
    · simp only [i_lt, i_le, i_0, i_1, i_2, i_4, i_40, i_100, i_400, i_401] at c9
      refine lv_null hx hb dX1_thingOf_12 ?_
      refine lv_goto (tgt := 22) hx hb dX1_thingOf_13 (by decide) ?_
      refine W.aret (v := .null) (rt := .object "MethodBook$Thing") hx hb hr (Or.inl ⟨_, rfl⟩) (Or.inl rfl) (fun t ht hW => ⟨none, rfl, ?_, ht⟩) (fun _ h => absurd h List.not_mem_nil) dX1_thingOf_22
      exact Or.inl ⟨tz_out (by omega), rfl⟩
set_option maxHeartbeats 4000000 in
set_option maxRecDepth 100000 in
theorem c_X1_thingMeantBy (l : Launch) (D : va_G) (cI cZ cT : ClassId) (ρ : Nat → Nat) (h tq : Nat) (th : Nat → Option Nat) (O : Ob) (mt wh : Int32) (H0 : Heap) (v : Int32) : Met l yX1_thingMeantBy wsX1_thingMeantBy ({ frames := 1, cells := 0, slots := 0, locals := 21 }) (pK D cI cZ cT [.ref h, .int v] (fun H => H = H0 ∧ px D cI cT ρ h tq th O mt wh H0)) (va_Sq (fun r => tp D cI ρ th O (tv O v) H0 r)) 0 0 (fun _ => False) := by
  refine Met.ofW (cc := cX1_thingMeantBy) (maxL := 2) (ret := (some (.object "MethodBook$Thing"))) (by decide) rfl ?_
  intro p e s m args below meth c s₁ B hml hv
  obtain ⟨rfl, hpic, hKN⟩ := hv
  have hK := hKN.1
  have hx := B.exec
  have hb := B.bytes
  have hr := B.returns
  have hts := atoms_spec (ws := wsX1_thingMeantBy) B.pre
  have hown : s.vm.findClass RX1 = some m.cls := findClass_of_methodNamed B.named
  have hlocks := B.notSynchronized
  obtain ⟨hH, hp⟩ := hpic
  subst hH
  have hl := lv_entry ([.ref h, .int v]) (n := 2) (Nat.le_of_ble_eq_true rfl)
  rw [lg_entry_eq]
  generalize (lg_sl ([.ref h, .int v]) ++ List.replicate (2 - (lg_sl ([.ref h, .int v])).length) Slot.unset).toArray = ls at hl ⊢
  have hl : lv_has ls 2 [(0, .ref h), (1, .int v)] := hl
  refine lv_iload_n hx hb dX1_thingMeantBy_0 rfl (lv_at hl 1 rfl) ?_
  refine pq_b (va_runS (As := [.int v]) (rest := []) ⟨hx, hb, hml, hown, hts⟩ (c_X1_isNumber l D cI cZ cT v) (va_cwS 1 hts gX1_thingMeantBy_X1_isNumber rfl rfl rfl (by decide +kernel) ⟨Nat.le_of_ble_eq_true rfl, Nat.le_of_ble_eq_true rfl⟩) (pre_s trivial hKN) rfl rfl hl.1 rfl (lv_room (Nat.le_of_ble_eq_true rfl)) dX1_thingMeantBy_1 ⟨Nat.zero_le _, Nat.zero_le _⟩) (fun b1 => ?_) (fun b1 => ?_)
  · refine lv_if_eq (tgt := 11) hx hb dX1_thingMeantBy_4 (by decide) (fun _ => ?_) (fun c9 => absurd (by decide) c9)
    refine lv_aload_n hx hb dX1_thingMeantBy_11 rfl (lv_at hl 0 rfl) ?_
    refine lv_iload_n hx hb dX1_thingMeantBy_12 rfl (lv_at hl 1 rfl) ?_
    refine pq_i (va_runS (As := [.int v]) (rest := [.ref h]) ⟨hx, hb, hml, hown, hts⟩ (c_X1_objectNumber l D cI cZ cT v) (va_cwS 1 hts gX1_thingMeantBy_X1_objectNumber rfl rfl rfl (by decide +kernel) ⟨Nat.le_of_ble_eq_true rfl, Nat.le_of_ble_eq_true rfl⟩) (pre_s trivial hKN) rfl rfl hl.1 rfl (lv_room (Nat.le_of_ble_eq_true rfl)) dX1_thingMeantBy_13 ⟨Nat.zero_le _, Nat.zero_le _⟩) (fun r13 hr13 => ?_)
    refine pq_r (va_runV (As := [.int r13]) (rest := []) ⟨hx, hb, hml, hown, hts⟩ (c_X1_thingOf l D cI cZ cT ρ h tq th O mt wh _ r13) (cwV 1 hts gX1_thingMeantBy_X1_thingOf rfl rfl rfl (by decide +kernel) ⟨Nat.le_of_ble_eq_true rfl, Nat.le_of_ble_eq_true rfl⟩) (pre_v ⟨rfl, hp⟩ hKN (recv hKN hp.1 rfl)) rfl rfl hl.1 rfl (lv_room (Nat.le_of_ble_eq_true rfl)) dX1_thingMeantBy_16 ⟨Nat.zero_le _, Nat.zero_le _⟩) (fun r16 h16 => ?_)
    refine W.aret (v := va_rf r16) (rt := .object "MethodBook$Thing") hx hb hr (Or.inl ⟨_, rfl⟩) (va_rf_or _) (fun t ht hW => ⟨r16, rfl, ?_, ht⟩) (fun _ h => absurd h List.not_mem_nil) dX1_thingMeantBy_19
    rw [tv_even (by have := of_decide_eq_false b1; omega), ← hr13]
    exact h16
  · refine lv_if_eq (tgt := 11) hx hb dX1_thingMeantBy_4 (by decide) (fun c9 => absurd c9 (by decide)) (fun _ => ?_)
    refine lv_null hx hb dX1_thingMeantBy_7 ?_
    refine lv_goto (tgt := 19) hx hb dX1_thingMeantBy_8 (by decide) ?_
    refine W.aret (v := .null) (rt := .object "MethodBook$Thing") hx hb hr (Or.inl ⟨_, rfl⟩) (Or.inl rfl) (fun t ht hW => ⟨none, rfl, ?_, ht⟩) (fun _ h => absurd h List.not_mem_nil) dX1_thingMeantBy_19
    exact Or.inl ⟨tv_odd (by have := of_decide_eq_true b1; omega), rfl⟩
set_option maxHeartbeats 4000000 in
set_option maxRecDepth 100000 in
theorem c_X1_classMeantBy (l : Launch) (D : va_G) (cI cZ cT : ClassId) (ρ : Nat → Nat) (h tq : Nat) (th : Nat → Option Nat) (O : Ob) (mt wh : Int32) (H0 : Heap) (v : Int32) : Met l yX1_classMeantBy wsX1_classMeantBy ({ frames := 2, cells := 0, slots := 0, locals := 42 }) (pK D cI cZ cT [.ref h, .int v] (fun H => H = H0 ∧ px D cI cT ρ h tq th O mt wh H0)) (va_Sq (fun r => tp D cI ρ th O (cls O v) H0 r)) 0 0 (fun _ => False) := by
  refine Met.ofW (cc := cX1_classMeantBy) (maxL := 3) (ret := (some (.object "MethodBook$Thing"))) (by decide) rfl ?_
  intro p e s m args below meth c s₁ B hml hv
  obtain ⟨rfl, hpic, hKN⟩ := hv
  have hK := hKN.1
  have hx := B.exec
  have hb := B.bytes
  have hr := B.returns
  have hts := atoms_spec (ws := wsX1_classMeantBy) B.pre
  have hown : s.vm.findClass RX1 = some m.cls := findClass_of_methodNamed B.named
  have hlocks := B.notSynchronized
  obtain ⟨hH, hp⟩ := hpic
  subst hH
  have hl := lv_entry ([.ref h, .int v]) (n := 3) (Nat.le_of_ble_eq_true rfl)
  rw [lg_entry_eq]
  generalize (lg_sl ([.ref h, .int v]) ++ List.replicate (3 - (lg_sl ([.ref h, .int v])).length) Slot.unset).toArray = ls at hl ⊢
  have hl : lv_has ls 3 [(0, .ref h), (1, .int v)] := hl
  refine lv_aload_n hx hb dX1_classMeantBy_0 rfl (lv_at hl 0 rfl) ?_
  refine lv_iload_n hx hb dX1_classMeantBy_1 rfl (lv_at hl 1 rfl) ?_
  refine pq_q (va_runV (As := [.int v]) (rest := []) ⟨hx, hb, hml, hown, hts⟩ (c_X1_thingMeantBy l D cI cZ cT ρ h tq th O mt wh _ v) (cwV 1 hts gX1_classMeantBy_X1_thingMeantBy rfl rfl rfl (by decide +kernel) ⟨Nat.le_of_ble_eq_true rfl, Nat.le_of_ble_eq_true rfl⟩) (pre_v ⟨rfl, hp⟩ hKN (recv hKN hp.1 rfl)) rfl rfl hl.1 rfl (lv_room (Nat.le_of_ble_eq_true rfl)) dX1_classMeantBy_2 ⟨Nat.zero_le _, Nat.zero_le _⟩) (fun h2 => ?_) (fun a2 h2 => ?_)
  · have e2 := tp_none h2
    refine lv_astore_nN (lv' := [(2, .null), (0, .ref h), (1, .int v)]) hx hb dX1_classMeantBy_5 rfl hl (by decide) rfl (fun ls hl => ?_)
    refine lv_aload_nN hx hb dX1_classMeantBy_6 rfl (lv_at hl 0 rfl) ?_
    refine lv_ifnullN (tgt := 17) hx hb dX1_classMeantBy_7 (by decide) ?_
    refine lv_null hx hb dX1_classMeantBy_17 ?_
    refine lv_goto (tgt := 22) hx hb dX1_classMeantBy_18 (by decide) ?_
    refine W.aret (v := .null) (rt := .object "MethodBook$Thing") hx hb hr (Or.inl ⟨_, rfl⟩) (Or.inl rfl) (fun t ht hW => ⟨none, rfl, ?_, ht⟩) (fun _ h => absurd h List.not_mem_nil) dX1_classMeantBy_22
    refine Or.inl ⟨?_, rfl⟩
    unfold cls
    rw [e2]
  · obtain ⟨j2, f2, e2, x2, y2, z2, l2, u2, m2, t2⟩ := tp_some h2
    refine lv_astore_n (lv' := [(2, .ref a2), (0, .ref h), (1, .int v)]) hx hb dX1_classMeantBy_5 rfl hl (by decide) rfl (fun ls hl => ?_)
    refine lv_aload_n hx hb dX1_classMeantBy_6 rfl (lv_at hl 0 rfl) ?_
    refine lv_ifnull hx hb dX1_classMeantBy_7 ?_
    refine lv_aload_n hx hb dX1_classMeantBy_10 rfl (lv_at hl 0 rfl) ?_
    refine pq_b (va_runVN (As := []) (rest := []) ⟨hx, hb, hml, hown, hts⟩ (c_X0_canBeClass l D cI cZ cT a2 f2 (O.2.1 j2) (O.2.2.1 j2) (O.2.2.2 j2) _) ⟨va_cnB 0 hts gX1_classMeantBy_X0_canBeClass_n71 rfl rfl rfl hKN.2.2.2.2.2.2.1 (hts (.initialized RX0) (by decide +kernel)) (by decide +kernel) ⟨Nat.le_of_ble_eq_true rfl, Nat.le_of_ble_eq_true rfl⟩, hts (.instanceMethod yX0_canBeClass) (by decide +kernel), hts (.selects RX0 yX0_canBeClass yX0_canBeClass) (by decide +kernel)⟩ (pre_v ⟨rfl, t2⟩ hKN (recv hKN t2.1 rfl)) rfl rfl hl.1 rfl (lv_room (Nat.le_of_ble_eq_true rfl)) dX1_classMeantBy_11 ⟨Nat.zero_le _, Nat.zero_le _⟩) (fun b11 => ?_) (fun b11 => ?_)
    · refine lv_if_ne (tgt := 21) hx hb dX1_classMeantBy_14 (by decide) (fun c9 => absurd rfl c9) (fun _ => ?_)
      refine lv_null hx hb dX1_classMeantBy_17 ?_
      refine lv_goto (tgt := 22) hx hb dX1_classMeantBy_18 (by decide) ?_
      refine W.aret (v := .null) (rt := .object "MethodBook$Thing") hx hb hr (Or.inl ⟨_, rfl⟩) (Or.inl rfl) (fun t ht hW => ⟨none, rfl, ?_, ht⟩) (fun _ h => absurd h List.not_mem_nil) dX1_classMeantBy_22
      refine Or.inl ⟨?_, rfl⟩
      unfold cls
      rw [e2]
      show (if _ then _ else _) = _
      rw [if_neg (of_decide_eq_false b11)]
    · refine lv_if_ne (tgt := 21) hx hb dX1_classMeantBy_14 (by decide) (fun _ => ?_) (fun c9 => absurd c9 (by decide))
      refine lv_aload_n hx hb dX1_classMeantBy_21 rfl (lv_at hl 0 rfl) ?_
      refine W.aret (v := .ref a2) (rt := .object "MethodBook$Thing") hx hb hr (Or.inl ⟨_, rfl⟩) (Or.inr ⟨_, rfl⟩) (fun t ht hW => ⟨some a2, rfl, ?_, ht⟩) (fun _ h => absurd h List.not_mem_nil) dX1_classMeantBy_22
      refine Or.inr ⟨j2, a2, f2, ?_, rfl, x2, y2, z2, l2, u2, m2, t2⟩
      unfold cls
      rw [e2]
      show (if _ then _ else _) = _
      rw [if_pos (of_decide_eq_true b11)]
set_option maxHeartbeats 4000000 in
set_option maxRecDepth 100000 in
theorem c_X1_isValue (l : Launch) (D : va_G) (cI cZ cT : ClassId) (ρ : Nat → Nat) (h tq : Nat) (th : Nat → Option Nat) (O : Ob) (mt wh : Int32) (H0 : Heap) (v : Int32) : Met l yX1_isValue wsX1_isValue ({ frames := 2, cells := 0, slots := 0, locals := 42 }) (pK D cI cZ cT [.ref h, .int v] (fun H => H = H0 ∧ px D cI cT ρ h tq th O mt wh H0)) (vp_Si (fun r => r = b2i (isV O v))) 0 0 (fun _ => False) := by
  refine Met.ofW (cc := cX1_isValue) (maxL := 2) (ret := (some .boolean)) (by decide) rfl ?_
  intro p e s m args below meth c s₁ B hml hv
  obtain ⟨rfl, hpic, hKN⟩ := hv
  have hK := hKN.1
  have hx := B.exec
  have hb := B.bytes
  have hr := B.returns
  have hts := atoms_spec (ws := wsX1_isValue) B.pre
  have hown : s.vm.findClass RX1 = some m.cls := findClass_of_methodNamed B.named
  have hlocks := B.notSynchronized
  obtain ⟨hH, hp⟩ := hpic
  subst hH
  have hl := lv_entry ([.ref h, .int v]) (n := 2) (Nat.le_of_ble_eq_true rfl)
  rw [lg_entry_eq]
  generalize (lg_sl ([.ref h, .int v]) ++ List.replicate (2 - (lg_sl ([.ref h, .int v])).length) Slot.unset).toArray = ls at hl ⊢
  have hl : lv_has ls 2 [(0, .ref h), (1, .int v)] := hl
  refine lv_iload_n hx hb dX1_isValue_0 rfl (lv_at hl 1 rfl) ?_
  refine lv_if_eq (tgt := 19) hx hb dX1_isValue_1 (by decide) (fun c1 => ?_) (fun c1 => ?_)
  · refine lv_iconst (v := 1) hx hb dX1_isValue_19 (by decide) ?_
    refine lv_goto (tgt := 24) hx hb dX1_isValue_20 (by decide) ?_
    refine W.zret (v := 1) (ty := .boolean) hx hb hr rfl (fun t ht hW => ⟨_, rfl, ?_, ht⟩) (fun _ h => absurd h List.not_mem_nil) dX1_isValue_24
    unfold isV
    rw [decide_eq_true c1]
    rfl
  · refine lv_iload_n hx hb dX1_isValue_4 rfl (lv_at hl 1 rfl) ?_
    refine pq_b (va_runS (As := [.int v]) (rest := []) ⟨hx, hb, hml, hown, hts⟩ (c_X1_isNumber l D cI cZ cT v) (va_cwS 1 hts gX1_isValue_X1_isNumber rfl rfl rfl (by decide +kernel) ⟨Nat.le_of_ble_eq_true rfl, Nat.le_of_ble_eq_true rfl⟩) (pre_s trivial hKN) rfl rfl hl.1 rfl (lv_room (Nat.le_of_ble_eq_true rfl)) dX1_isValue_5 ⟨Nat.zero_le _, Nat.zero_le _⟩) (fun b5 => ?_) (fun b5 => ?_)
    · refine lv_if_ne (tgt := 19) hx hb dX1_isValue_8 (by decide) (fun c9 => absurd rfl c9) (fun _ => ?_)
      refine lv_aload_n hx hb dX1_isValue_11 rfl (lv_at hl 0 rfl) ?_
      refine lv_iload_n hx hb dX1_isValue_12 rfl (lv_at hl 1 rfl) ?_
      refine pq_q (va_runV (As := [.int v]) (rest := []) ⟨hx, hb, hml, hown, hts⟩ (c_X1_thingMeantBy l D cI cZ cT ρ h tq th O mt wh _ v) (cwV 1 hts gX1_isValue_X1_thingMeantBy rfl rfl rfl (by decide +kernel) ⟨Nat.le_of_ble_eq_true rfl, Nat.le_of_ble_eq_true rfl⟩) (pre_v ⟨rfl, hp⟩ hKN (recv hKN hp.1 rfl)) rfl rfl hl.1 rfl (lv_room (Nat.le_of_ble_eq_true rfl)) dX1_isValue_13 ⟨Nat.zero_le _, Nat.zero_le _⟩) (fun h13 => ?_) (fun a13 h13 => ?_)
      · have e13 := tp_none h13
        refine lv_ifnullN (tgt := 23) hx hb dX1_isValue_16 (by decide) ?_
        refine lv_iconst (v := 0) hx hb dX1_isValue_23 (by decide) ?_
        refine W.zret (v := 0) (ty := .boolean) hx hb hr rfl (fun t ht hW => ⟨_, rfl, ?_, ht⟩) (fun _ h => absurd h List.not_mem_nil) dX1_isValue_24
        unfold isV
        rw [decide_eq_false c1, b5, e13]
        rfl
      · obtain ⟨j13, f13, e13, x13, y13, z13, l13, u13, m13, t13⟩ := tp_some h13
        refine lv_ifnull hx hb dX1_isValue_16 ?_
        refine lv_iconst (v := 1) hx hb dX1_isValue_19 (by decide) ?_
        refine lv_goto (tgt := 24) hx hb dX1_isValue_20 (by decide) ?_
        refine W.zret (v := 1) (ty := .boolean) hx hb hr rfl (fun t ht hW => ⟨_, rfl, ?_, ht⟩) (fun _ h => absurd h List.not_mem_nil) dX1_isValue_24
        unfold isV
        rw [e13, Option.isSome_some, Bool.or_true]
        rfl
    · refine lv_if_ne (tgt := 19) hx hb dX1_isValue_8 (by decide) (fun _ => ?_) (fun c9 => absurd c9 (by decide))
      refine lv_iconst (v := 1) hx hb dX1_isValue_19 (by decide) ?_
      refine lv_goto (tgt := 24) hx hb dX1_isValue_20 (by decide) ?_
      refine W.zret (v := 1) (ty := .boolean) hx hb hr rfl (fun t ht hW => ⟨_, rfl, ?_, ht⟩) (fun _ h => absurd h List.not_mem_nil) dX1_isValue_24
      unfold isV
      rw [b5, Bool.or_true]
      rfl
set_option maxHeartbeats 4000000 in
set_option maxRecDepth 100000 in
theorem c_X1_hasBadDictionary (l : Launch) (D : va_G) (cI cZ cT : ClassId) (ρ : Nat → Nat) (h tq : Nat) (th : Nat → Option Nat) (O : Ob) (mt wh : Int32) (H0 : Heap) (j a f : Nat) (ht : tg D cI a f (O.2.1 j) (O.2.2.1 j) (O.2.2.2 j) H0) (h2 : 2 ≤ O.2.2.1 j) : Met l yX1_hasBadDictionary wsX1_hasBadDictionary ({ frames := 2, cells := 0, slots := 0, locals := 42 }) (pK D cI cZ cT [.ref h, .ref a] (fun H => H = H0 ∧ px D cI cT ρ h tq th O mt wh H0)) (vp_Si (fun r => r = b2i (bad O (O.2.2.2 j 1)))) 0 0 (fun _ => False) := by
  refine Met.ofW (cc := cX1_hasBadDictionary) (maxL := 4) (ret := (some .boolean)) (by decide) rfl ?_
  intro p e s m args below meth c s₁ B hml hv
  obtain ⟨rfl, hpic, hKN⟩ := hv
  have hK := hKN.1
  have hx := B.exec
  have hb := B.bytes
  have hr := B.returns
  have hts := atoms_spec (ws := wsX1_hasBadDictionary) B.pre
  have hown : s.vm.findClass RX1 = some m.cls := findClass_of_methodNamed B.named
  have hlocks := B.notSynchronized
  obtain ⟨hH, hp⟩ := hpic
  subst hH
  have hl := lv_entry ([.ref h, .ref a]) (n := 4) (Nat.le_of_ble_eq_true rfl)
  rw [lg_entry_eq]
  generalize (lg_sl ([.ref h, .ref a]) ++ List.replicate (4 - (lg_sl ([.ref h, .ref a])).length) Slot.unset).toArray = ls at hl ⊢
  have hl : lv_has ls 4 [(0, .ref h), (1, .ref a)] := hl
  refine lv_aload_n hx hb dX1_hasBadDictionary_0 rfl (lv_at hl 1 rfl) ?_
  refine lv_iconst (v := 1) hx hb dX1_hasBadDictionary_1 (by decide) ?_
  refine pq_i (va_runVN (As := [.int 1]) (rest := []) ⟨hx, hb, hml, hown, hts⟩ (c_X0_field l D cI cZ cT a f (O.2.1 j) (O.2.2.1 j) (O.2.2.2 j) _ 1) ⟨va_cnB 1 hts gX1_hasBadDictionary_X0_field_n37 rfl rfl rfl hKN.2.2.2.2.2.1 (hts (.initialized RX0) (by decide +kernel)) (by decide +kernel) ⟨Nat.le_of_ble_eq_true rfl, Nat.le_of_ble_eq_true rfl⟩, hts (.instanceMethod yX0_field) (by decide +kernel), hts (.selects RX0 yX0_field yX0_field) (by decide +kernel)⟩ (pre_v ⟨rfl, ht⟩ hKN (recv hKN ht.1 rfl)) rfl rfl hl.1 rfl (lv_room (Nat.le_of_ble_eq_true rfl)) dX1_hasBadDictionary_2 ⟨Nat.zero_le _, Nat.zero_le _⟩) (fun r2 hr2 => ?_)
  have v2 : r2 = O.2.2.2 j 1 := by
    rw [hr2]
    exact fl1_lt (i := 1) (by omega) ht.2.2
  refine lv_istore_n (lv' := [(2, .int r2), (0, .ref h), (1, .ref a)]) hx hb dX1_hasBadDictionary_5 rfl hl (by decide) rfl (fun ls hl => ?_)
  refine lv_aload_n hx hb dX1_hasBadDictionary_6 rfl (lv_at hl 1 rfl) ?_
  refine lv_iload_n hx hb dX1_hasBadDictionary_7 rfl (lv_at hl 0 rfl) ?_
  refine pq_q (va_runV (As := [.int r2]) (rest := []) ⟨hx, hb, hml, hown, hts⟩ (c_X1_thingMeantBy l D cI cZ cT ρ h tq th O mt wh _ r2) (cwV 1 hts gX1_hasBadDictionary_X1_thingMeantBy rfl rfl rfl (by decide +kernel) ⟨Nat.le_of_ble_eq_true rfl, Nat.le_of_ble_eq_true rfl⟩) (pre_v ⟨rfl, hp⟩ hKN (recv hKN hp.1 rfl)) rfl rfl hl.1 rfl (lv_room (Nat.le_of_ble_eq_true rfl)) dX1_hasBadDictionary_8 ⟨Nat.zero_le _, Nat.zero_le _⟩) (fun h8 => ?_) (fun a8 h8 => ?_)
  · have e8 := tp_none h8
    refine lv_astore_nN (lv' := [(3, .null), (2, .int r2), (0, .ref h), (1, .ref a)]) hx hb dX1_hasBadDictionary_11 rfl hl (by decide) rfl (fun ls hl => ?_)
    refine lv_iload_n hx hb dX1_hasBadDictionary_12 rfl (lv_at hl 1 rfl) ?_
    refine lv_if_eq (tgt := 31) hx hb dX1_hasBadDictionary_13 (by decide) (fun c13 => ?_) (fun c13 => ?_)
    · refine lv_iconst (v := 0) hx hb dX1_hasBadDictionary_31 (by decide) ?_
      refine W.zret (v := 0) (ty := .boolean) hx hb hr rfl (fun t ht hW => ⟨_, rfl, ?_, ht⟩) (fun _ h => absurd h List.not_mem_nil) dX1_hasBadDictionary_32
      rw [v2] at c13
      unfold bad
      rw [if_pos c13]
      rfl
    · refine lv_aload_nN hx hb dX1_hasBadDictionary_16 rfl (lv_at hl 0 rfl) ?_
      refine lv_ifnullN (tgt := 27) hx hb dX1_hasBadDictionary_17 (by decide) ?_
      refine lv_iconst (v := 1) hx hb dX1_hasBadDictionary_27 (by decide) ?_
      refine lv_goto (tgt := 32) hx hb dX1_hasBadDictionary_28 (by decide) ?_
      refine W.zret (v := 1) (ty := .boolean) hx hb hr rfl (fun t ht hW => ⟨_, rfl, ?_, ht⟩) (fun _ h => absurd h List.not_mem_nil) dX1_hasBadDictionary_32
      rw [v2] at c13 e8
      unfold bad
      rw [if_neg c13, e8]
      rfl
  · obtain ⟨j8, f8, e8, x8, y8, z8, l8, u8, m8, t8⟩ := tp_some h8
    refine lv_astore_n (lv' := [(3, .ref a8), (2, .int r2), (0, .ref h), (1, .ref a)]) hx hb dX1_hasBadDictionary_11 rfl hl (by decide) rfl (fun ls hl => ?_)
    refine lv_iload_n hx hb dX1_hasBadDictionary_12 rfl (lv_at hl 1 rfl) ?_
    refine lv_if_eq (tgt := 31) hx hb dX1_hasBadDictionary_13 (by decide) (fun c13 => ?_) (fun c13 => ?_)
    · refine lv_iconst (v := 0) hx hb dX1_hasBadDictionary_31 (by decide) ?_
      refine W.zret (v := 0) (ty := .boolean) hx hb hr rfl (fun t ht hW => ⟨_, rfl, ?_, ht⟩) (fun _ h => absurd h List.not_mem_nil) dX1_hasBadDictionary_32
      rw [v2] at c13
      unfold bad
      rw [if_pos c13]
      rfl
    · refine lv_aload_n hx hb dX1_hasBadDictionary_16 rfl (lv_at hl 0 rfl) ?_
      refine lv_ifnull hx hb dX1_hasBadDictionary_17 ?_
      refine lv_aload_n hx hb dX1_hasBadDictionary_20 rfl (lv_at hl 0 rfl) ?_
      refine va_getN (D := D) (ci := 0) (v := .int (b2i (O.2.1 j8))) (C := RX0) (T := TX0) (N := 2) (host := RX1) hx hb hts (iw_X1_hasBadDictionary_X0) hown hK (one t8.1) 0 rfl rfl 1 (by decide) (va_Nw.use rfl hKN.2.2.2.1) (fun _ h9 => h9) rfl dX1_hasBadDictionary_21 ?_
      refine lv_if_ne (tgt := 31) hx hb dX1_hasBadDictionary_24 (by decide) (fun c24 => ?_) (fun c24 => ?_)
      · refine lv_iconst (v := 0) hx hb dX1_hasBadDictionary_31 (by decide) ?_
        refine W.zret (v := 0) (ty := .boolean) hx hb hr rfl (fun t ht hW => ⟨_, rfl, ?_, ht⟩) (fun _ h => absurd h List.not_mem_nil) dX1_hasBadDictionary_32
        rw [v2] at c13 e8
        unfold bad
        rw [if_neg c13, e8]
        show _ = b2i (!(O.2.1 j8))
        rw [b2i_n c24]
        rfl
      · refine lv_iconst (v := 1) hx hb dX1_hasBadDictionary_27 (by decide) ?_
        refine lv_goto (tgt := 32) hx hb dX1_hasBadDictionary_28 (by decide) ?_
        refine W.zret (v := 1) (ty := .boolean) hx hb hr rfl (fun t ht hW => ⟨_, rfl, ?_, ht⟩) (fun _ h => absurd h List.not_mem_nil) dX1_hasBadDictionary_32
        rw [v2] at c13 e8
        unfold bad
        rw [if_neg c13, e8]
        show _ = b2i (!(O.2.1 j8))
        rw [b2i_z c24]
        rfl
