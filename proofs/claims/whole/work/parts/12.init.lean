theorem d_one {A : Nat → Prop} {q : Nat × va_E} (h : A q.1) : va_D A [q] := by
  refine ⟨fun i j x y hi hj _ => ?_, fun k x hk => ?_⟩
  · have h1 : i < 1 := (List.getElem?_eq_some_iff.mp hi).1
    have h2 : j < 1 := (List.getElem?_eq_some_iff.mp hj).1
    omega
  · have h1 : k < 1 := (List.getElem?_eq_some_iff.mp hk).1
    rw [show k = 0 by omega] at hk
    cases hk
    exact h
abbrev pk1 (D : va_G) (av : List Value) (B : Heap → Prop) : Array Value → State → Prop := va_Pc av (fun U => B U.heap ∧ va_K D vwCl [] U ∧ va_AO RX0 U)
theorem fb_1 {D : va_G} {av : List Value} {B : Heap → Prop} : FrameBlind (pk1 D av B) := fun a U g mk q => ⟨q.1, q.2.1, va_K.moved (u := U) (U := U.calling g mk a) (Vm.Alike.refl U.vm) q.2.2.1, va_AO.moved (u := U) (U := U.calling g mk a) (Vm.Alike.refl U.vm) q.2.2.2⟩
theorem pre_1 {D : va_G} {s : State} {H : Heap} {As : List Value} {B : Heap → Prop} (hB : B H) (hK : va_K D vwCl [] s) (hn : va_AO RX0 s) : PreS s H (pk1 D As B) As := ⟨fb_1, fun U hU hW => ⟨rfl, by rw [hU]; exact hB, va_K.moved hW.alike hK, va_AO.moved hW.alike hn⟩⟩
set_option maxHeartbeats 4000000 in
set_option maxRecDepth 100000 in
theorem c_X1_init (l : Launch) (D : va_G) (h : Nat) (H0 : Heap) : Met l yX1_init wsX1_init ({ frames := 1, cells := 1, slots := 401, locals := 12 }) (pk1 D [.ref h] (fun H => H = H0 ∧ va_at D vwCl (h, .inr (1, [.null, .int 0, .int 0])) H0)) (pm_Qv (fun t => ∃ (tq : Nat) (cT : ClassId), va_at D vwCl (h, .inr (1, [.ref tq, .int 0, .int 0])) t.heap ∧ va_at D vwCl (tq, .inl (cT, 401, .inr (.inr (.inr (.inr (fun _ => none)))))) t.heap ∧ H0.size ≤ tq ∧ h ≠ tq ∧ va_K D vwCl [(cT, .object RX0)] t) (fun q : Nat => q = h ∨ H0.size ≤ q)) 1 401 (fun q : Nat => q = h ∨ H0.size ≤ q) := by
  refine Met.ofW (cc := cX1_init) (maxL := 1) (ret := none) (by decide) rfl ?_
  intro p e s m args below meth c s₁ B hml hv
  obtain ⟨rfl, hpic, hK, hAO⟩ := hv
  have hx := B.exec
  have hb := B.bytes
  have hr := B.returns
  have hts := atoms_spec (ws := wsX1_init) B.pre
  have hown : s.vm.findClass RX1 = some m.cls := findClass_of_methodNamed B.named
  have hlocks := B.notSynchronized
  have hin : meth.name = "<init>" := (name_of_methodNamed B.named B.method).1
  obtain ⟨hH, hp0⟩ := hpic
  subst hH
  have hA : ∀ q : Nat, s.heap.size ≤ q → (fun q : Nat => q = h ∨ s.heap.size ≤ q) q := fun q h => Or.inr h
  have hS : va_S (fun q : Nat => q = h ∨ s.heap.size ≤ q) s.heap s.heap [] := va_S.rf
  have hP : va_P D vwCl [(h, .inr (1, [.null, .int 0, .int 0]))] s.heap := one hp0
  have hD : va_D (fun q : Nat => q = h ∨ s.heap.size ≤ q) [(h, .inr (1, [.null, .int 0, .int 0]))] := d_one (Or.inl rfl)
  have hl := lv_entry ([.ref h]) (n := 1) (Nat.le_of_ble_eq_true rfl)
  rw [lg_entry_eq]
  generalize (lg_sl ([.ref h]) ++ List.replicate (1 - (lg_sl ([.ref h])).length) Slot.unset).toArray = ls at hl ⊢
  have hl : lv_has ls 1 [(0, .ref h)] := hl
  refine lv_aload_n hx hb dX1_init_0 rfl (lv_at hl 0 rfl) ?_
  refine W.objInit hx hb hown (hts (.methodLink RX1 1 objectInit) (by decide +kernel)) (hts (.instanceMethod objectInit) (by decide +kernel)) (hts (.code objectInit ⟨#[0xb1]⟩ 1 none) (by decide +kernel)) rfl (by rw [hml]; exact hl.1) rfl dX1_init_1 (Nat.le_of_ble_eq_true rfl) (Nat.le_of_ble_eq_true rfl) ?_
  refine W.eq (g2 := F0 m 4 ls []) rfl ?_
  refine lv_aload_n hx hb dX1_init_4 rfl (lv_at hl 0 rfl) ?_
  refine lv_sipush (v := 401) hx hb dX1_init_5 (by decide) ?_
  refine va_newq (N' := 401) hx hb hown (hts (.classLink RX1 9 RX0) (by decide +kernel)) hAO hK hP hD hS hA (by decide) rfl (by decide) (Nat.le_of_ble_eq_true rfl) (Nat.le_of_ble_eq_true rfl) dX1_init_8 (fun q cT H hK1 hP hD hS => ?_)
  have hP : va_P D vwCl [(h, .inr (1, [.null, .int 0, .int 0])), (q, .inl (cT, 401, .inr (.inr (.inr (.inr (fun _ => none))))))] H := hP
  have hD : va_D (fun q : Nat => q = h ∨ s.heap.size ≤ q) [(h, .inr (1, [.null, .int 0, .int 0])), (q, .inl (cT, 401, .inr (.inr (.inr (.inr (fun _ => none))))))] := hD
  refine va_putF (D := D) (ci := 1) (v := .ref q) (ty := .array (.object "MethodBook$Thing")) (C := RX1) (T := TX1) (N := 3) hx hb hts iw_X1_init_X1 tyX1 tyX1_ok nmX1 hown hK hP hD hS 0 rfl rfl 0 (by decide) (hts (.fieldLink RX1 11 "MethodBook" "things" "[LMethodBook$Thing;") (by decide +kernel)) (fun _ h9 => h9) rfl hin rfl (by decide +kernel) rfl rfl (Nat.le_of_ble_eq_true rfl) dX1_init_11 (fun H locs hP hD hS => ?_)
  have hP : va_P D vwCl [(h, .inr (1, [.ref q, .int 0, .int 0])), (q, .inl (cT, 401, .inr (.inr (.inr (.inr (fun _ => none))))))] H := hP
  have hD : va_D (fun q : Nat => q = h ∨ s.heap.size ≤ q) [(h, .inr (1, [.ref q, .int 0, .int 0])), (q, .inl (cT, 401, .inr (.inr (.inr (.inr (fun _ => none))))))] := hD
  refine lv_aload_n hx hb dX1_init_14 rfl (lv_at hl 0 rfl) ?_
  refine lv_iconst (v := 0) hx hb dX1_init_15 (by decide) ?_
  refine va_put (D := D) (ci := 1) (v := .int 0) (ty := .int) (C := RX1) (T := TX1) (N := 3) hx hb hts iw_X1_init_X1 tyX1 tyX1_ok nmX1 hown hK hP hD hS 0 rfl rfl 1 (by decide) (hts (.fieldLink RX1 15 "MethodBook" "foundMethod" "I") (by decide +kernel)) (fun _ h9 => h9) rfl (by decide +kernel) rfl rfl (Nat.le_of_ble_eq_true rfl) dX1_init_16 (fun H locs hP hD hS => ?_)
  have hP : va_P D vwCl [(h, .inr (1, [.ref q, .int 0, .int 0])), (q, .inl (cT, 401, .inr (.inr (.inr (.inr (fun _ => none))))))] H := hP
  have hD : va_D (fun q : Nat => q = h ∨ s.heap.size ≤ q) [(h, .inr (1, [.ref q, .int 0, .int 0])), (q, .inl (cT, 401, .inr (.inr (.inr (.inr (fun _ => none))))))] := hD
  refine lv_aload_n hx hb dX1_init_19 rfl (lv_at hl 0 rfl) ?_
  refine lv_iconst (v := 0) hx hb dX1_init_20 (by decide) ?_
  refine va_put (D := D) (ci := 1) (v := .int 0) (ty := .int) (C := RX1) (T := TX1) (N := 3) hx hb hts iw_X1_init_X1 tyX1 tyX1_ok nmX1 hown hK hP hD hS 0 rfl rfl 2 (by decide) (hts (.fieldLink RX1 19 "MethodBook" "foundClass" "I") (by decide +kernel)) (fun _ h9 => h9) rfl (by decide +kernel) rfl rfl (Nat.le_of_ble_eq_true rfl) dX1_init_21 (fun H locs hP hD hS => ?_)
  have hP : va_P D vwCl [(h, .inr (1, [.ref q, .int 0, .int 0])), (q, .inl (cT, 401, .inr (.inr (.inr (.inr (fun _ => none))))))] H := hP
  have hne : h ≠ q := fun e9 => absurd (hD.1 0 1 _ _ rfl rfl e9) (by decide)
  have hq : s.heap.size ≤ q := by
    rcases hD.2 1 _ rfl with h9 | h9
    · exact absurd h9.symm hne
    · exact h9
  exact W.vret hx hb hr (fun t ht hW => ⟨⟨rfl, q, cT, by rw [ht]; exact hP 0 _ rfl, by rw [ht]; exact hP 1 _ rfl, hq, hne, va_K.moved hW.alike hK1⟩, hS.F ht⟩) hS.2.2 dX1_init_24
