theorem iw_X0_canBeClass_X0 : ∀ w ∈ wsX00, w ∈ wsX0_canBeClass := by decide +kernel
theorem iw_X0_hasField_X0 : ∀ w ∈ wsX00, w ∈ wsX0_hasField := by decide +kernel
theorem iw_X0_field_X0 : ∀ w ∈ wsX00, w ∈ wsX0_field := by decide +kernel
theorem iw_X0_setField_X0 : ∀ w ∈ wsX00, w ∈ wsX0_setField := by decide +kernel
theorem iw_X0_placeOfMethod_X0 : ∀ w ∈ wsX00, w ∈ wsX0_placeOfMethod := by decide +kernel
theorem iw_X0_exchange_X0 : ∀ w ∈ wsX00, w ∈ wsX0_exchange := by decide +kernel
theorem iw_X0_init_X0 : ∀ w ∈ wsX00, w ∈ wsX0_init := by decide +kernel
theorem b2i_yes {p : Prop} [Decidable p] (h : p) : (1 : Int32) = b2i (decide p) := by rw [decide_eq_true h]; rfl
theorem b2i_no {p : Prop} [Decidable p] (h : ¬ p) : (0 : Int32) = b2i (decide p) := by rw [decide_eq_false h]; rfl
theorem nI_s2 (i : Nat) : nI i + 2 = nI (i + 2) := by
  rw [nI_succ, nI_succ, Int32.add_assoc]
  rfl
def pmr (o : Option Nat) : Int32 := match o with
  | none => -1
  | some i => nI (i + 1)
section PX
variable {p : Program} {l : Launch} {e : Env} {R : Room} {s : State} {m : MethodId} {args : Array Value} {below : List Frame} {meth : Method} {c : Code} {H : Heap} {locs : List Loc} {cells slots : Nat} {Q : State → Prop}
variable {cc : ByteArray} {pc : Nat} {ls : Array Slot} {rest : List Value} {D : va_G} {A : Nat → Prop} {a : Nat} {tys : List (ClassId × FieldType)} {H0 : Heap}
theorem pw_iast (hexec : p.tables.exec = Jvm.exec) (hb : c.code = cc) (hK : va_K D vwCl tys s) (hS : va_S A H0 H locs) (hAa : A a) (t0 : Nat) {cA : ClassId} {n : Nat} {f : Nat → Int32} (hP : va_at D vwCl (a, .inl (cA, n, .inl f)) H) (ht : tys[t0]? = some (cA, .int)) {i x : Int32} (hin : vp_in i n) (hdg : decode cc pc = .ok (.iastore, 1))
    (kk : ∀ (H1 : Heap) (locs1 : List Loc), va_at D vwCl (a, .inl (cA, n, .inl (upd f i.toNatClampNeg x))) H1 → H1.size = H.size → (∀ q : Nat, q ≠ a → H1[q]? = H[q]?) → va_S A H0 H1 locs1 → W p l e R s m args below meth c H1 locs1 cells slots Q (F0 m (pc + 1) ls rest)) : W p l e R s m args below meth c H locs cells slots Q (F0 m pc ls (.int x :: .int i :: .ref a :: rest)) := by
  refine W.iast hexec hb hP ((hK.2 t0 _ ht).1 n (fun j => .int (f j))) (fun q => by cases q) (by show ¬ (i < 0 ∨ (arrV _ _ _).slots.size ≤ _); rw [arrV_size]; exact hin) rfl rfl hdg fun H1 e z oq => ?_
  refine kk H1 _ ?_ z oq (hS.put z oq hAa)
  show H1[a]? = some (vp_cell _ _)
  rw [e]
  rw [vp_cell_i, vp_cell_i, arrV_store]
  congr 2
  funext q
  by_cases hq : q = i.toNatClampNeg
  · subst hq
    simp [updV, upd]
  · simp [updV, upd, hq]
end PX
theorem swf_at (g : Nat → Int32) (x y : Int32) (i : Nat) : swf g x y i i = g i := by
  unfold swf
  rw [if_neg (Nat.lt_irrefl i)]
theorem swf_put (g : Nat → Int32) (x y v : Int32) (i : Nat) (h : v = swv x y (g i)) : upd (swf g x y i) i v = swf g x y (i + 1) := by
  funext j
  by_cases hj : j = i
  · subst hj
    rw [pk_us, h]
    unfold swf
    rw [if_pos (Nat.lt_succ_self j)]
  · rw [pk_un hj]
    unfold swf
    by_cases hl : j < i
    · rw [if_pos hl, if_pos (by omega)]
    · rw [if_neg hl, if_neg (by omega)]
theorem swf_same (g : Nat → Int32) (x y : Int32) (i : Nat) (h : swv x y (g i) = g i) : swf g x y i = swf g x y (i + 1) := by
  funext j
  unfold swf
  by_cases hj : j = i
  · subst hj
    rw [if_neg (Nat.lt_irrefl j), if_pos (Nat.lt_succ_self j), h]
  · by_cases hl : j < i
    · rw [if_pos hl, if_pos (by omega)]
    · rw [if_neg hl, if_neg (by omega)]
theorem swf_0 (g : Nat → Int32) (x y : Int32) : swf g x y 0 = g := by
  funext j
  unfold swf
  rw [if_neg (by omega)]
set_option maxHeartbeats 4000000 in
set_option maxRecDepth 100000 in
theorem c_X0_canBeClass (l : Launch) (D : va_G) (cI cZ cT : ClassId) (a f : Nat) (fb : Bool) (n : Nat) (g : Nat → Int32) (H0 : Heap) : Met l yX0_canBeClass wsX0_canBeClass ({ frames := 0, cells := 0, slots := 0, locals := 0 }) (pK D cI cZ cT [.ref a] (fun H => H = H0 ∧ tg D cI a f fb n g H0)) (vp_Si (fun r => r = b2i (decide (2 ≤ n)))) 0 0 (fun _ => False) := by
  refine Met.ofW (cc := cX0_canBeClass) (maxL := 1) (ret := (some .boolean)) (by decide) rfl ?_
  intro p e s m args below meth c s₁ B hml hv
  obtain ⟨rfl, hpic, hKN⟩ := hv
  have hK := hKN.1
  have hx := B.exec
  have hb := B.bytes
  have hr := B.returns
  have hts := atoms_spec (ws := wsX0_canBeClass) B.pre
  have hown : s.vm.findClass RX0 = some m.cls := findClass_of_methodNamed B.named
  have hlocks := B.notSynchronized
  obtain ⟨hH, hp⟩ := hpic
  subst hH
  have hn := hp.2.2
  have hl := lv_entry ([.ref a]) (n := 1) (Nat.le_of_ble_eq_true rfl)
  rw [lg_entry_eq]
  generalize (lg_sl ([.ref a]) ++ List.replicate (1 - (lg_sl ([.ref a])).length) Slot.unset).toArray = ls at hl ⊢
  have hl : lv_has ls 1 [(0, .ref a)] := hl
  refine lv_aload_n hx hb dX0_canBeClass_0 rfl (lv_at hl 0 rfl) ?_
  refine va_get (D := D) (ci := 0) (v := .ref f) (C := RX0) (T := TX0) (N := 2) hx hb hts (iw_X0_canBeClass_X0) hown hK (one hp.1) 0 rfl rfl 0 (by decide) (hts (.fieldLink RX0 9 "MethodBook$Thing" "fields" "[I") (by decide +kernel)) (fun _ h9 => h9) rfl dX0_canBeClass_1 ?_
  refine va_alen (v := (nI n)) hx hb hK (one hp.2.1) 0 0 rfl rfl rfl dX0_canBeClass_4 ?_
  refine lv_iconst (v := 2) hx hb dX0_canBeClass_5 (by decide) ?_
  refine lv_icmp_lt (tgt := 13) hx hb dX0_canBeClass_6 (by decide) (fun c6 => ?_) (fun c6 => ?_)
  · simp only [i_lt, i_le, i_0, i_1, i_2, i_4, i_40, i_100, i_400, i_401] at c6
    refine lv_iconst (v := 0) hx hb dX0_canBeClass_13 (by decide) ?_
    refine W.zret (v := 0) (ty := .boolean) hx hb hr rfl (fun t ht hW => ⟨_, rfl, ?_, ht⟩) (fun _ h => absurd h List.not_mem_nil) dX0_canBeClass_14
    rw [nI_toInt (by omega)] at c6
    exact b2i_no (by omega)
  · simp only [i_lt, i_le, i_0, i_1, i_2, i_4, i_40, i_100, i_400, i_401] at c6
    refine lv_iconst (v := 1) hx hb dX0_canBeClass_9 (by decide) ?_
    refine lv_goto (tgt := 14) hx hb dX0_canBeClass_10 (by decide) ?_
    refine W.zret (v := 1) (ty := .boolean) hx hb hr rfl (fun t ht hW => ⟨_, rfl, ?_, ht⟩) (fun _ h => absurd h List.not_mem_nil) dX0_canBeClass_14
    rw [nI_toInt (by omega)] at c6
    exact b2i_yes (by omega)
set_option maxHeartbeats 4000000 in
set_option maxRecDepth 100000 in
theorem c_X0_hasField (l : Launch) (D : va_G) (cI cZ cT : ClassId) (a f : Nat) (fb : Bool) (n : Nat) (g : Nat → Int32) (H0 : Heap) (i : Int32) : Met l yX0_hasField wsX0_hasField ({ frames := 0, cells := 0, slots := 0, locals := 0 }) (pK D cI cZ cT [.ref a, .int i] (fun H => H = H0 ∧ tg D cI a f fb n g H0)) (vp_Si (fun r => r = b2i (decide (0 ≤ i.toInt ∧ i.toInt < (n : Int))))) 0 0 (fun _ => False) := by
  refine Met.ofW (cc := cX0_hasField) (maxL := 2) (ret := (some .boolean)) (by decide) rfl ?_
  intro p e s m args below meth c s₁ B hml hv
  obtain ⟨rfl, hpic, hKN⟩ := hv
  have hK := hKN.1
  have hx := B.exec
  have hb := B.bytes
  have hr := B.returns
  have hts := atoms_spec (ws := wsX0_hasField) B.pre
  have hown : s.vm.findClass RX0 = some m.cls := findClass_of_methodNamed B.named
  have hlocks := B.notSynchronized
  obtain ⟨hH, hp⟩ := hpic
  subst hH
  have hn := hp.2.2
  have hl := lv_entry ([.ref a, .int i]) (n := 2) (Nat.le_of_ble_eq_true rfl)
  rw [lg_entry_eq]
  generalize (lg_sl ([.ref a, .int i]) ++ List.replicate (2 - (lg_sl ([.ref a, .int i])).length) Slot.unset).toArray = ls at hl ⊢
  have hl : lv_has ls 2 [(0, .ref a), (1, .int i)] := hl
  refine lv_iload_n hx hb dX0_hasField_0 rfl (lv_at hl 1 rfl) ?_
  refine lv_if_lt (tgt := 17) hx hb dX0_hasField_1 (by decide) (fun c1 => ?_) (fun c1 => ?_)
  · simp only [i_lt, i_le, i_0, i_1, i_2, i_4, i_40, i_100, i_400, i_401] at c1
    refine lv_iconst (v := 0) hx hb dX0_hasField_17 (by decide) ?_
    refine W.zret (v := 0) (ty := .boolean) hx hb hr rfl (fun t ht hW => ⟨_, rfl, ?_, ht⟩) (fun _ h => absurd h List.not_mem_nil) dX0_hasField_18
    exact b2i_no (by omega)
  · simp only [i_lt, i_le, i_0, i_1, i_2, i_4, i_40, i_100, i_400, i_401] at c1
    refine lv_iload_n hx hb dX0_hasField_4 rfl (lv_at hl 1 rfl) ?_
    refine lv_aload_n hx hb dX0_hasField_5 rfl (lv_at hl 0 rfl) ?_
    refine va_get (D := D) (ci := 0) (v := .ref f) (C := RX0) (T := TX0) (N := 2) hx hb hts (iw_X0_hasField_X0) hown hK (one hp.1) 0 rfl rfl 0 (by decide) (hts (.fieldLink RX0 9 "MethodBook$Thing" "fields" "[I") (by decide +kernel)) (fun _ h9 => h9) rfl dX0_hasField_6 ?_
    refine va_alen (v := (nI n)) hx hb hK (one hp.2.1) 0 0 rfl rfl rfl dX0_hasField_9 ?_
    refine lv_icmp_ge (tgt := 17) hx hb dX0_hasField_10 (by decide) (fun c10 => ?_) (fun c10 => ?_)
    · simp only [i_lt, i_le, i_0, i_1, i_2, i_4, i_40, i_100, i_400, i_401] at c10
      refine lv_iconst (v := 0) hx hb dX0_hasField_17 (by decide) ?_
      refine W.zret (v := 0) (ty := .boolean) hx hb hr rfl (fun t ht hW => ⟨_, rfl, ?_, ht⟩) (fun _ h => absurd h List.not_mem_nil) dX0_hasField_18
      rw [nI_toInt (by omega)] at c10
      exact b2i_no (by omega)
    · simp only [i_lt, i_le, i_0, i_1, i_2, i_4, i_40, i_100, i_400, i_401] at c10
      refine lv_iconst (v := 1) hx hb dX0_hasField_13 (by decide) ?_
      refine lv_goto (tgt := 18) hx hb dX0_hasField_14 (by decide) ?_
      refine W.zret (v := 1) (ty := .boolean) hx hb hr rfl (fun t ht hW => ⟨_, rfl, ?_, ht⟩) (fun _ h => absurd h List.not_mem_nil) dX0_hasField_18
      rw [nI_toInt (by omega)] at c10
      exact b2i_yes (by omega)
set_option maxHeartbeats 4000000 in
set_option maxRecDepth 100000 in
theorem c_X0_field (l : Launch) (D : va_G) (cI cZ cT : ClassId) (a f : Nat) (fb : Bool) (n : Nat) (g : Nat → Int32) (H0 : Heap) (i : Int32) : Met l yX0_field wsX0_field ({ frames := 1, cells := 0, slots := 0, locals := 21 }) (pK D cI cZ cT [.ref a, .int i] (fun H => H = H0 ∧ tg D cI a f fb n g H0)) (vp_Si (fun r => r = fl1 n g i)) 0 0 (fun _ => False) := by
  refine Met.ofW (cc := cX0_field) (maxL := 2) (ret := (some .int)) (by decide) rfl ?_
  intro p e s m args below meth c s₁ B hml hv
  obtain ⟨rfl, hpic, hKN⟩ := hv
  have hK := hKN.1
  have hx := B.exec
  have hb := B.bytes
  have hr := B.returns
  have hts := atoms_spec (ws := wsX0_field) B.pre
  have hown : s.vm.findClass RX0 = some m.cls := findClass_of_methodNamed B.named
  have hlocks := B.notSynchronized
  obtain ⟨hH, hp⟩ := hpic
  subst hH
  have hn := hp.2.2
  have hl := lv_entry ([.ref a, .int i]) (n := 2) (Nat.le_of_ble_eq_true rfl)
  rw [lg_entry_eq]
  generalize (lg_sl ([.ref a, .int i]) ++ List.replicate (2 - (lg_sl ([.ref a, .int i])).length) Slot.unset).toArray = ls at hl ⊢
  have hl : lv_has ls 2 [(0, .ref a), (1, .int i)] := hl
  refine lv_aload_n hx hb dX0_field_0 rfl (lv_at hl 0 rfl) ?_
  refine lv_iload_n hx hb dX0_field_1 rfl (lv_at hl 1 rfl) ?_
  refine pq_b (va_runV (As := [.int i]) (rest := []) ⟨hx, hb, hml, hown, hts⟩ (c_X0_hasField l D cI cZ cT a f fb n g _ i) (cwV 1 hts gX0_field_X0_hasField rfl rfl rfl (by decide +kernel) ⟨Nat.le_of_ble_eq_true rfl, Nat.le_of_ble_eq_true rfl⟩) (pre_v ⟨rfl, hp⟩ hKN (recv hKN hp.1 rfl)) rfl rfl hl.1 rfl (lv_room (Nat.le_of_ble_eq_true rfl)) dX0_field_2 ⟨Nat.zero_le _, Nat.zero_le _⟩) (fun b2 => ?_) (fun b2 => ?_)
  · refine lv_if_eq (tgt := 17) hx hb dX0_field_5 (by decide) (fun _ => ?_) (fun c9 => absurd (by decide) c9)
    refine lv_iconst (v := 0) hx hb dX0_field_17 (by decide) ?_
    refine W.iret (v := 0) hx hb hr (fun t ht hW => ⟨_, rfl, ?_, ht⟩) (fun _ h => absurd h List.not_mem_nil) dX0_field_18
    unfold fl1
    rw [if_neg (of_decide_eq_false b2)]
  · refine lv_if_eq (tgt := 17) hx hb dX0_field_5 (by decide) (fun c9 => absurd c9 (by decide)) (fun _ => ?_)
    refine lv_aload_n hx hb dX0_field_8 rfl (lv_at hl 0 rfl) ?_
    refine va_get (D := D) (ci := 0) (v := .ref f) (C := RX0) (T := TX0) (N := 2) hx hb hts (iw_X0_field_X0) hown hK (one hp.1) 0 rfl rfl 0 (by decide) (hts (.fieldLink RX0 9 "MethodBook$Thing" "fields" "[I") (by decide +kernel)) (fun _ h9 => h9) rfl dX0_field_9 ?_
    refine lv_iload_n hx hb dX0_field_12 rfl (lv_at hl 1 rfl) ?_
    refine va_iald hx hb hK (one hp.2.1) 0 0 rfl rfl (vp_in_iff.mpr (of_decide_eq_true b2)) dX0_field_13 ?_
    refine lv_goto (tgt := 18) hx hb dX0_field_14 (by decide) ?_
    refine W.iret (v := (g i.toNatClampNeg)) hx hb hr (fun t ht hW => ⟨_, rfl, ?_, ht⟩) (fun _ h => absurd h List.not_mem_nil) dX0_field_18
    unfold fl1
    rw [if_pos (of_decide_eq_true b2)]
set_option maxHeartbeats 4000000 in
set_option maxRecDepth 100000 in
theorem c_X0_placeOfMethod (l : Launch) (D : va_G) (cI cZ cT : ClassId) (a f : Nat) (fb : Bool) (n : Nat) (g : Nat → Int32) (H0 : Heap) (sel : Int32) : Met l yX0_placeOfMethod wsX0_placeOfMethod ({ frames := 0, cells := 0, slots := 0, locals := 0 }) (pK D cI cZ cT [.ref a, .int sel] (fun H => H = H0 ∧ tg D cI a f fb n g H0)) (vp_Si (fun r => r = pmr (pm g n sel))) 0 0 (fun _ => False) := by
  refine Met.ofW (cc := cX0_placeOfMethod) (maxL := 3) (ret := (some .int)) (by decide) rfl ?_
  intro p e s m args below meth c s₁ B hml hv
  obtain ⟨rfl, hpic, hKN⟩ := hv
  have hK := hKN.1
  have hx := B.exec
  have hb := B.bytes
  have hr := B.returns
  have hts := atoms_spec (ws := wsX0_placeOfMethod) B.pre
  have hown : s.vm.findClass RX0 = some m.cls := findClass_of_methodNamed B.named
  have hlocks := B.notSynchronized
  obtain ⟨hH, hp⟩ := hpic
  subst hH
  have hn := hp.2.2
  have hl := lv_entry ([.ref a, .int sel]) (n := 3) (Nat.le_of_ble_eq_true rfl)
  rw [lg_entry_eq]
  generalize (lg_sl ([.ref a, .int sel]) ++ List.replicate (3 - (lg_sl ([.ref a, .int sel])).length) Slot.unset).toArray = ls at hl ⊢
  have hl : lv_has ls 3 [(0, .ref a), (1, .int sel)] := hl
  refine lv_iconst (v := 0) hx hb dX0_placeOfMethod_0 (by decide) ?_
  refine lv_istore_n (lv' := [(2, .int 0), (0, .ref a), (1, .int sel)]) hx hb dX0_placeOfMethod_1 rfl hl (by decide) rfl (fun ls hl => ?_)
  have loop : ∀ (q i : Nat), n ≤ i + 2 * q → i ≤ 42 → pm g n sel = pmF g n sel q i → ∀ ls : Array Slot, lv_has ls 3 [(0, .ref a), (1, .int sel), (2, .int (nI i))] → W p l e (headSpec wsX0_placeOfMethod ({ frames := 0, cells := 0, slots := 0, locals := 0 })).room s m ([.ref a, .int sel] : List Value).toArray below meth c s.heap [] 0 0 (MQ below (vp_Si (fun r => r = pmr (pm g n sel))) ([.ref a, .int sel] : List Value).toArray s 0 0 (fun _ => False)) (F0 m 2 ls []) := by
    intro q
    induction q with
    | zero =>
      intro i h1 h2 hq ls hl
      refine lv_iload_n hx hb dX0_placeOfMethod_2 rfl (lv_at hl 2 rfl) ?_
      refine lv_iconst (v := 1) hx hb dX0_placeOfMethod_3 (by decide) ?_
      refine lv_iadd hx hb dX0_placeOfMethod_4 ?_
      refine lv_aload_n hx hb dX0_placeOfMethod_5 rfl (lv_at hl 0 rfl) ?_
      refine va_get (D := D) (ci := 0) (v := .ref f) (C := RX0) (T := TX0) (N := 2) hx hb hts (iw_X0_placeOfMethod_X0) hown hK (one hp.1) 0 rfl rfl 0 (by decide) (hts (.fieldLink RX0 9 "MethodBook$Thing" "fields" "[I") (by decide +kernel)) (fun _ h9 => h9) rfl dX0_placeOfMethod_6 ?_
      refine va_alen (v := (nI n)) hx hb hK (one hp.2.1) 0 0 rfl rfl rfl dX0_placeOfMethod_9 ?_
      refine lv_icmp_ge (tgt := 33) hx hb dX0_placeOfMethod_10 (by decide) (fun _ => ?_) (fun c9 => absurd (by rw [← nI_succ]; exact nI_le (by omega) (by omega)) c9)
      refine lv_iconst (v := (-1)) hx hb dX0_placeOfMethod_33 (by decide) ?_
      refine W.iret (v := (-1)) hx hb hr (fun t ht hW => ⟨_, rfl, ?_, ht⟩) (fun _ h => absurd h List.not_mem_nil) dX0_placeOfMethod_34
      rw [hq]
      rfl
    | succ q ih =>
      intro i h1 h2 hq ls hl
      refine lv_iload_n hx hb dX0_placeOfMethod_2 rfl (lv_at hl 2 rfl) ?_
      refine lv_iconst (v := 1) hx hb dX0_placeOfMethod_3 (by decide) ?_
      refine lv_iadd hx hb dX0_placeOfMethod_4 ?_
      refine lv_aload_n hx hb dX0_placeOfMethod_5 rfl (lv_at hl 0 rfl) ?_
      refine va_get (D := D) (ci := 0) (v := .ref f) (C := RX0) (T := TX0) (N := 2) hx hb hts (iw_X0_placeOfMethod_X0) hown hK (one hp.1) 0 rfl rfl 0 (by decide) (hts (.fieldLink RX0 9 "MethodBook$Thing" "fields" "[I") (by decide +kernel)) (fun _ h9 => h9) rfl dX0_placeOfMethod_6 ?_
      refine va_alen (v := (nI n)) hx hb hK (one hp.2.1) 0 0 rfl rfl rfl dX0_placeOfMethod_9 ?_
      refine lv_icmp_ge (tgt := 33) hx hb dX0_placeOfMethod_10 (by decide) (fun c10 => ?_) (fun c10 => ?_)
      · simp only [i_lt, i_le, i_0, i_1, i_2, i_4, i_40, i_100, i_400, i_401] at c10
        rw [← nI_succ, nI_toInt (by omega), nI_toInt (by omega)] at c10
        refine lv_iconst (v := (-1)) hx hb dX0_placeOfMethod_33 (by decide) ?_
        refine W.iret (v := (-1)) hx hb hr (fun t ht hW => ⟨_, rfl, ?_, ht⟩) (fun _ h => absurd h List.not_mem_nil) dX0_placeOfMethod_34
        rw [hq, pmF, if_neg (by omega)]
        rfl
      · simp only [i_lt, i_le, i_0, i_1, i_2, i_4, i_40, i_100, i_400, i_401] at c10
        rw [← nI_succ, nI_toInt (by omega), nI_toInt (by omega)] at c10
        refine lv_aload_n hx hb dX0_placeOfMethod_13 rfl (lv_at hl 0 rfl) ?_
        refine va_get (D := D) (ci := 0) (v := .ref f) (C := RX0) (T := TX0) (N := 2) hx hb hts (iw_X0_placeOfMethod_X0) hown hK (one hp.1) 0 rfl rfl 0 (by decide) (hts (.fieldLink RX0 9 "MethodBook$Thing" "fields" "[I") (by decide +kernel)) (fun _ h9 => h9) rfl dX0_placeOfMethod_14 ?_
        refine lv_iload_n hx hb dX0_placeOfMethod_17 rfl (lv_at hl 2 rfl) ?_
        refine va_iald hx hb hK (one hp.2.1) 0 0 rfl rfl (vp_in_nI (by omega) (by omega)) dX0_placeOfMethod_18 ?_
        rw [nI_clamp (by omega)]
        refine lv_iload_n hx hb dX0_placeOfMethod_19 rfl (lv_at hl 1 rfl) ?_
        refine lv_icmp_ne (tgt := 27) hx hb dX0_placeOfMethod_20 (by decide) (fun c20 => ?_) (fun c20 => ?_)
        · refine lv_iinc (v := ((nI i) + 2)) (lv' := [(2, .int ((nI i) + 2)), (0, .ref a), (1, .int sel)]) hx hb dX0_placeOfMethod_27 hl (k := 2) rfl rfl (by decide) rfl (fun ls hl => ?_)
          refine lv_goto (tgt := 2) hx hb dX0_placeOfMethod_30 (by decide) ?_
          rw [nI_s2] at hl
          exact ih (i + 2) (by omega) (by omega) (by rw [hq, pmF, if_pos (by omega), if_neg c20]) _ (lv_sub hl [1, 2, 0] rfl)
        · refine lv_iload_n hx hb dX0_placeOfMethod_23 rfl (lv_at hl 2 rfl) ?_
          refine lv_iconst (v := 1) hx hb dX0_placeOfMethod_24 (by decide) ?_
          refine lv_iadd hx hb dX0_placeOfMethod_25 ?_
          refine W.iret (v := ((nI i) + 1)) hx hb hr (fun t ht hW => ⟨_, rfl, ?_, ht⟩) (fun _ h => absurd h List.not_mem_nil) dX0_placeOfMethod_26
          rw [hq, pmF, if_pos (by omega), if_pos c20]
          exact (nI_succ i).symm
  exact loop 21 0 (by omega) (by omega) rfl _ (lv_sub hl [1, 2, 0] rfl)
set_option maxHeartbeats 4000000 in
set_option maxRecDepth 100000 in
theorem c_X0_setField (l : Launch) (D : va_G) (cI cZ cT : ClassId) (a f : Nat) (fb : Bool) (n : Nat) (g : Nat → Int32) (H0 : Heap) (i v : Int32) : Met l yX0_setField wsX0_setField ({ frames := 1, cells := 0, slots := 0, locals := 21 }) (pK D cI cZ cT [.ref a, .int i, .int v] (fun H => H = H0 ∧ tg D cI a f fb n g H0)) (pm_Qi (fun r H1 => r = b2i (decide (0 ≤ i.toInt ∧ i.toInt < (n : Int))) ∧ va_at D vwCl (f, .inl (cI, n, .inl (if 0 ≤ i.toInt ∧ i.toInt < (n : Int) then upd g i.toNatClampNeg v else g))) H1) (fun q : Nat => q = f)) 0 0 (fun q : Nat => q = f) := by
  refine Met.ofW (cc := cX0_setField) (maxL := 3) (ret := (some .boolean)) (by decide) rfl ?_
  intro p e s m args below meth c s₁ B hml hv
  obtain ⟨rfl, hpic, hKN⟩ := hv
  have hK := hKN.1
  have hx := B.exec
  have hb := B.bytes
  have hr := B.returns
  have hts := atoms_spec (ws := wsX0_setField) B.pre
  have hown : s.vm.findClass RX0 = some m.cls := findClass_of_methodNamed B.named
  have hlocks := B.notSynchronized
  obtain ⟨hH, hp⟩ := hpic
  subst hH
  have hn := hp.2.2
  have hS : va_S (fun q : Nat => q = f) s.heap s.heap [] := va_S.rf
  have hl := lv_entry ([.ref a, .int i, .int v]) (n := 3) (Nat.le_of_ble_eq_true rfl)
  rw [lg_entry_eq]
  generalize (lg_sl ([.ref a, .int i, .int v]) ++ List.replicate (3 - (lg_sl ([.ref a, .int i, .int v])).length) Slot.unset).toArray = ls at hl ⊢
  have hl : lv_has ls 3 [(0, .ref a), (1, .int i), (2, .int v)] := hl
  refine lv_aload_n hx hb dX0_setField_0 rfl (lv_at hl 0 rfl) ?_
  refine lv_iload_n hx hb dX0_setField_1 rfl (lv_at hl 1 rfl) ?_
  refine pq_b (va_runV (As := [.int i]) (rest := []) ⟨hx, hb, hml, hown, hts⟩ (c_X0_hasField l D cI cZ cT a f fb n g _ i) (cwV 1 hts gX0_setField_X0_hasField rfl rfl rfl (by decide +kernel) ⟨Nat.le_of_ble_eq_true rfl, Nat.le_of_ble_eq_true rfl⟩) (pre_v ⟨rfl, hp⟩ hKN (recv hKN hp.1 rfl)) rfl rfl hl.1 rfl (lv_room (Nat.le_of_ble_eq_true rfl)) dX0_setField_2 ⟨Nat.zero_le _, Nat.zero_le _⟩) (fun b2 => ?_) (fun b2 => ?_)
  · refine lv_if_ne (tgt := 10) hx hb dX0_setField_5 (by decide) (fun c9 => absurd rfl c9) (fun _ => ?_)
    refine lv_iconst (v := 0) hx hb dX0_setField_8 (by decide) ?_
    refine W.zret (v := 0) (ty := .boolean) hx hb hr rfl (fun t ht hW => ⟨⟨_, rfl, ?_⟩, hS.F ht⟩) hS.2.2 dX0_setField_9
    rw [ht]
    rw [if_neg (of_decide_eq_false b2), b2]
    exact ⟨rfl, hp.2.1⟩
  · refine lv_if_ne (tgt := 10) hx hb dX0_setField_5 (by decide) (fun _ => ?_) (fun c9 => absurd c9 (by decide))
    refine lv_aload_n hx hb dX0_setField_10 rfl (lv_at hl 0 rfl) ?_
    refine va_get (D := D) (ci := 0) (v := .ref f) (C := RX0) (T := TX0) (N := 2) hx hb hts (iw_X0_setField_X0) hown hK (one hp.1) 0 rfl rfl 0 (by decide) (hts (.fieldLink RX0 9 "MethodBook$Thing" "fields" "[I") (by decide +kernel)) (fun _ h9 => h9) rfl dX0_setField_11 ?_
    refine lv_iload_n hx hb dX0_setField_14 rfl (lv_at hl 1 rfl) ?_
    refine lv_iload_n hx hb dX0_setField_15 rfl (lv_at hl 2 rfl) ?_
    refine pw_iast hx hb hK hS rfl 0 hp.2.1 rfl (vp_in_iff.mpr (of_decide_eq_true b2)) dX0_setField_16 (fun H locs hf hz ho hS => ?_)
    refine lv_iconst (v := 1) hx hb dX0_setField_17 (by decide) ?_
    refine W.zret (v := 1) (ty := .boolean) hx hb hr rfl (fun t ht hW => ⟨⟨_, rfl, ?_⟩, hS.F ht⟩) hS.2.2 dX0_setField_18
    rw [ht]
    rw [if_pos (of_decide_eq_true b2), b2]
    exact ⟨rfl, hf⟩
set_option maxHeartbeats 4000000 in
set_option maxRecDepth 100000 in
theorem c_X0_exchange (l : Launch) (D : va_G) (cI cZ cT : ClassId) (a f : Nat) (fb : Bool) (n : Nat) (g : Nat → Int32) (H0 : Heap) (x y : Int32) (hne : a ≠ f) : Met l yX0_exchange wsX0_exchange ({ frames := 0, cells := 0, slots := 0, locals := 0 }) (pK D cI cZ cT [.ref a, .int x, .int y] (fun H => H = H0 ∧ tg D cI a f fb n g H0)) (pm_Qi (fun r H1 => r = xcn g x y n ∧ va_at D vwCl (f, .inl (cI, n, .inl (swf g x y n))) H1) (fun q : Nat => q = f)) 0 0 (fun q : Nat => q = f) := by
  refine Met.ofW (cc := cX0_exchange) (maxL := 5) (ret := (some .int)) (by decide) rfl ?_
  intro p e s m args below meth c s₁ B hml hv
  obtain ⟨rfl, hpic, hKN⟩ := hv
  have hK := hKN.1
  have hx := B.exec
  have hb := B.bytes
  have hr := B.returns
  have hts := atoms_spec (ws := wsX0_exchange) B.pre
  have hown : s.vm.findClass RX0 = some m.cls := findClass_of_methodNamed B.named
  have hlocks := B.notSynchronized
  obtain ⟨hH, hp⟩ := hpic
  subst hH
  have hn := hp.2.2
  have hS : va_S (fun q : Nat => q = f) s.heap s.heap [] := va_S.rf
  have hl := lv_entry ([.ref a, .int x, .int y]) (n := 5) (Nat.le_of_ble_eq_true rfl)
  rw [lg_entry_eq]
  generalize (lg_sl ([.ref a, .int x, .int y]) ++ List.replicate (5 - (lg_sl ([.ref a, .int x, .int y])).length) Slot.unset).toArray = ls at hl ⊢
  have hl : lv_has ls 5 [(0, .ref a), (1, .int x), (2, .int y)] := hl
  refine lv_iconst (v := 0) hx hb dX0_exchange_0 (by decide) ?_
  refine lv_istore_n (lv' := [(3, .int 0), (0, .ref a), (1, .int x), (2, .int y)]) hx hb dX0_exchange_1 rfl hl (by decide) rfl (fun ls hl => ?_)
  refine lv_iconst (v := 0) hx hb dX0_exchange_2 (by decide) ?_
  refine lv_istore (lv' := [(4, .int 0), (3, .int 0), (0, .ref a), (1, .int x), (2, .int y)]) hx hb dX0_exchange_3 hl (by decide) rfl (fun ls hl => ?_)
  have loop : ∀ (q i : Nat), i + q = n → ∀ (H : Heap) (locs : List Loc), va_at D vwCl (a, .inr (0, [.ref f, .int (b2i fb)])) H → va_at D vwCl (f, .inl (cI, n, .inl (swf g x y i))) H → va_S (fun q : Nat => q = f) s.heap H locs → ∀ ls : Array Slot, lv_has ls 5 [(0, .ref a), (1, .int x), (2, .int y), (3, .int (xcn g x y i)), (4, .int (nI i))] → W p l e (headSpec wsX0_exchange ({ frames := 0, cells := 0, slots := 0, locals := 0 })).room s m ([.ref a, .int x, .int y] : List Value).toArray below meth c H locs 0 0 (MQ below (pm_Qi (fun r H1 => r = xcn g x y n ∧ va_at D vwCl (f, .inl (cI, n, .inl (swf g x y n))) H1) (fun q : Nat => q = f)) ([.ref a, .int x, .int y] : List Value).toArray s 0 0 (fun q : Nat => q = f)) (F0 m 5 ls []) := by
    intro q
    induction q with
    | zero =>
      intro i h1 H locs ha hf hS ls hl
      refine lv_iload hx hb dX0_exchange_5 (lv_at hl 4 rfl) ?_
      refine lv_aload_n hx hb dX0_exchange_7 rfl (lv_at hl 0 rfl) ?_
      refine va_get (D := D) (ci := 0) (v := .ref f) (C := RX0) (T := TX0) (N := 2) hx hb hts (iw_X0_exchange_X0) hown hK (one ha) 0 rfl rfl 0 (by decide) (hts (.fieldLink RX0 9 "MethodBook$Thing" "fields" "[I") (by decide +kernel)) (fun _ h9 => h9) rfl dX0_exchange_8 ?_
      refine va_alen (v := (nI n)) hx hb hK (one hf) 0 0 rfl rfl rfl dX0_exchange_11 ?_
      refine lv_icmp_ge (tgt := 68) hx hb dX0_exchange_12 (by decide) (fun _ => ?_) (fun c9 => absurd (nI_le (by omega) (by omega)) c9)
      refine lv_iload_n hx hb dX0_exchange_68 rfl (lv_at hl 3 rfl) ?_
      refine W.iret (v := (xcn g x y i)) hx hb hr (fun t ht hW => ⟨⟨_, rfl, ?_⟩, hS.F ht⟩) hS.2.2 dX0_exchange_69
      rw [ht]
      have e1 : i = n := by omega
      subst e1
      exact ⟨rfl, hf⟩
    | succ q ih =>
      intro i h1 H locs ha hf hS ls hl
      refine lv_iload hx hb dX0_exchange_5 (lv_at hl 4 rfl) ?_
      refine lv_aload_n hx hb dX0_exchange_7 rfl (lv_at hl 0 rfl) ?_
      refine va_get (D := D) (ci := 0) (v := .ref f) (C := RX0) (T := TX0) (N := 2) hx hb hts (iw_X0_exchange_X0) hown hK (one ha) 0 rfl rfl 0 (by decide) (hts (.fieldLink RX0 9 "MethodBook$Thing" "fields" "[I") (by decide +kernel)) (fun _ h9 => h9) rfl dX0_exchange_8 ?_
      refine va_alen (v := (nI n)) hx hb hK (one hf) 0 0 rfl rfl rfl dX0_exchange_11 ?_
      refine lv_icmp_ge (tgt := 68) hx hb dX0_exchange_12 (by decide) (fun c9 => absurd c9 (nI_ge (by omega) (by omega))) (fun _ => ?_)
      refine lv_aload_n hx hb dX0_exchange_15 rfl (lv_at hl 0 rfl) ?_
      refine va_get (D := D) (ci := 0) (v := .ref f) (C := RX0) (T := TX0) (N := 2) hx hb hts (iw_X0_exchange_X0) hown hK (one ha) 0 rfl rfl 0 (by decide) (hts (.fieldLink RX0 9 "MethodBook$Thing" "fields" "[I") (by decide +kernel)) (fun _ h9 => h9) rfl dX0_exchange_16 ?_
      refine lv_iload hx hb dX0_exchange_19 (lv_at hl 4 rfl) ?_
      refine va_iald hx hb hK (one hf) 0 0 rfl rfl (vp_in_nI (by omega) (by omega)) dX0_exchange_21 ?_
      rw [nI_clamp (by omega), swf_at]
      refine lv_iload_n hx hb dX0_exchange_22 rfl (lv_at hl 1 rfl) ?_
      refine lv_icmp_ne (tgt := 40) hx hb dX0_exchange_23 (by decide) (fun c23 => ?_) (fun c23 => ?_)
      · refine lv_aload_n hx hb dX0_exchange_40 rfl (lv_at hl 0 rfl) ?_
        refine va_get (D := D) (ci := 0) (v := .ref f) (C := RX0) (T := TX0) (N := 2) hx hb hts (iw_X0_exchange_X0) hown hK (one ha) 0 rfl rfl 0 (by decide) (hts (.fieldLink RX0 9 "MethodBook$Thing" "fields" "[I") (by decide +kernel)) (fun _ h9 => h9) rfl dX0_exchange_41 ?_
        refine lv_iload hx hb dX0_exchange_44 (lv_at hl 4 rfl) ?_
        refine va_iald hx hb hK (one hf) 0 0 rfl rfl (vp_in_nI (by omega) (by omega)) dX0_exchange_46 ?_
        rw [nI_clamp (by omega), swf_at]
        refine lv_iload_n hx hb dX0_exchange_47 rfl (lv_at hl 2 rfl) ?_
        refine lv_icmp_ne (tgt := 62) hx hb dX0_exchange_48 (by decide) (fun c48 => ?_) (fun c48 => ?_)
        · have ec : xcn g x y i = xcn g x y (i + 1) := by
            show _ = xcn g x y i + b2i (hit x y (g i))
            rw [show hit x y (g i) = false from by unfold hit; rw [decide_eq_false c23, decide_eq_false c48]; rfl]
            exact (Int32.add_zero _).symm
          rw [ec] at hl
          rw [swf_same g x y i (by unfold swv; rw [if_neg c23, if_neg c48])] at hf
          refine lv_iinc (v := ((nI i) + 1)) (lv' := [(4, .int ((nI i) + 1)), (0, .ref a), (1, .int x), (2, .int y), (3, .int (xcn g x y (i + 1)))]) hx hb dX0_exchange_62 hl (k := 4) rfl rfl (by decide) rfl (fun ls hl => ?_)
          refine lv_goto (tgt := 5) hx hb dX0_exchange_65 (by decide) ?_
          rw [← nI_succ] at hl
          exact ih (i + 1) (by omega) _ _ ha hf hS _ (lv_sub hl [1, 2, 3, 4, 0] rfl)
        · refine lv_aload_n hx hb dX0_exchange_51 rfl (lv_at hl 0 rfl) ?_
          refine va_get (D := D) (ci := 0) (v := .ref f) (C := RX0) (T := TX0) (N := 2) hx hb hts (iw_X0_exchange_X0) hown hK (one ha) 0 rfl rfl 0 (by decide) (hts (.fieldLink RX0 9 "MethodBook$Thing" "fields" "[I") (by decide +kernel)) (fun _ h9 => h9) rfl dX0_exchange_52 ?_
          refine lv_iload hx hb dX0_exchange_55 (lv_at hl 4 rfl) ?_
          refine lv_iload_n hx hb dX0_exchange_57 rfl (lv_at hl 1 rfl) ?_
          refine pw_iast hx hb hK hS rfl 0 hf rfl (vp_in_nI (by omega) (by omega)) dX0_exchange_58 (fun H locs hf hz ho hS => ?_)
          replace ha := ha.kept (ho a hne)
          rw [nI_clamp (by omega), swf_put g x y _ i (by unfold swv; rw [if_neg c23, if_pos c48])] at hf
          refine lv_iinc (v := ((xcn g x y i) + 1)) (lv' := [(3, .int ((xcn g x y i) + 1)), (0, .ref a), (1, .int x), (2, .int y), (4, .int (nI i))]) hx hb dX0_exchange_59 hl (k := 3) rfl rfl (by decide) rfl (fun ls hl => ?_)
          have ec : xcn g x y i + 1 = xcn g x y (i + 1) := by
            show _ = xcn g x y i + b2i (hit x y (g i))
            rw [show hit x y (g i) = true from by unfold hit; rw [decide_eq_true c48, Bool.or_true]]
            rfl
          rw [ec] at hl
          refine lv_iinc (v := ((nI i) + 1)) (lv' := [(4, .int ((nI i) + 1)), (3, .int (xcn g x y (i + 1))), (0, .ref a), (1, .int x), (2, .int y)]) hx hb dX0_exchange_62 hl (k := 4) rfl rfl (by decide) rfl (fun ls hl => ?_)
          refine lv_goto (tgt := 5) hx hb dX0_exchange_65 (by decide) ?_
          rw [← nI_succ] at hl
          exact ih (i + 1) (by omega) _ _ ha hf hS _ (lv_sub hl [2, 3, 4, 1, 0] rfl)
      · refine lv_aload_n hx hb dX0_exchange_26 rfl (lv_at hl 0 rfl) ?_
        refine va_get (D := D) (ci := 0) (v := .ref f) (C := RX0) (T := TX0) (N := 2) hx hb hts (iw_X0_exchange_X0) hown hK (one ha) 0 rfl rfl 0 (by decide) (hts (.fieldLink RX0 9 "MethodBook$Thing" "fields" "[I") (by decide +kernel)) (fun _ h9 => h9) rfl dX0_exchange_27 ?_
        refine lv_iload hx hb dX0_exchange_30 (lv_at hl 4 rfl) ?_
        refine lv_iload_n hx hb dX0_exchange_32 rfl (lv_at hl 2 rfl) ?_
        refine pw_iast hx hb hK hS rfl 0 hf rfl (vp_in_nI (by omega) (by omega)) dX0_exchange_33 (fun H locs hf hz ho hS => ?_)
        replace ha := ha.kept (ho a hne)
        rw [nI_clamp (by omega), swf_put g x y _ i (by unfold swv; rw [if_pos c23])] at hf
        refine lv_iinc (v := ((xcn g x y i) + 1)) (lv' := [(3, .int ((xcn g x y i) + 1)), (0, .ref a), (1, .int x), (2, .int y), (4, .int (nI i))]) hx hb dX0_exchange_34 hl (k := 3) rfl rfl (by decide) rfl (fun ls hl => ?_)
        refine lv_goto (tgt := 62) hx hb dX0_exchange_37 (by decide) ?_
        have ec : xcn g x y i + 1 = xcn g x y (i + 1) := by
          show _ = xcn g x y i + b2i (hit x y (g i))
          rw [show hit x y (g i) = true from by unfold hit; rw [decide_eq_true c23]; rfl]
          rfl
        rw [ec] at hl
        refine lv_iinc (v := ((nI i) + 1)) (lv' := [(4, .int ((nI i) + 1)), (3, .int (xcn g x y (i + 1))), (0, .ref a), (1, .int x), (2, .int y)]) hx hb dX0_exchange_62 hl (k := 4) rfl rfl (by decide) rfl (fun ls hl => ?_)
        refine lv_goto (tgt := 5) hx hb dX0_exchange_65 (by decide) ?_
        rw [← nI_succ] at hl
        exact ih (i + 1) (by omega) _ _ ha hf hS _ (lv_sub hl [2, 3, 4, 1, 0] rfl)
  exact loop n 0 (by omega) _ _ hp.1 (by rw [swf_0]; exact hp.2.1) hS _ (lv_sub hl [2, 3, 4, 1, 0] rfl)
