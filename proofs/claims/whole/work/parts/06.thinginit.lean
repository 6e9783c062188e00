set_option maxHeartbeats 4000000 in
set_option maxRecDepth 100000 in
theorem c_X0_init (l : Launch) (D : va_G) (cI cZ cT : ClassId) (a : Nat) (n : Int32) (b : Bool) (H0 : Heap) (hn0 : 0 ≤ n.toInt) (hn1 : n.toInt ≤ 40) : Met l yX0_init wsX0_init ({ frames := 1, cells := 1, slots := 40, locals := 12 }) (pK D cI cZ cT [.ref a, .int n, .int (b2i b)] (fun H => H = H0 ∧ va_at D vwCl (a, .inr (0, [.null, .int 0])) H0)) (pm_Qv (fun t => ∃ f : Nat, tg D cI a f b n.toNatClampNeg (fun _ => 0) t.heap ∧ H0.size ≤ f) (fun q : Nat => q = a ∨ H0.size ≤ q)) 1 40 (fun q : Nat => q = a ∨ H0.size ≤ q) := by
  refine Met.ofW (cc := cX0_init) (maxL := 3) (ret := none) (by decide) rfl ?_
  intro p e s m args below meth c s₁ B hml hv
  obtain ⟨rfl, hpic, hKN⟩ := hv
  have hK := hKN.1
  have hx := B.exec
  have hb := B.bytes
  have hr := B.returns
  have hts := atoms_spec (ws := wsX0_init) B.pre
  have hown : s.vm.findClass RX0 = some m.cls := findClass_of_methodNamed B.named
  have hlocks := B.notSynchronized
  have hin : meth.name = "<init>" := (name_of_methodNamed B.named B.method).1
  obtain ⟨hH, hp0⟩ := hpic
  subst hH
  have hA : ∀ q : Nat, s.heap.size ≤ q → (fun q : Nat => q = a ∨ s.heap.size ≤ q) q := fun q h => Or.inr h
  have hS : va_S (fun q : Nat => q = a ∨ s.heap.size ≤ q) s.heap s.heap [] := va_S.rf
  have hP : va_P D vwCl [(a, .inr (0, [.null, .int 0]))] s.heap := one hp0
  have hD : va_D (fun q : Nat => q = a ∨ s.heap.size ≤ q) [(a, .inr (0, [.null, .int 0]))] := by
    refine ⟨fun i j x y hi hj _ => ?_, fun k q hk => ?_⟩
    · have h1 : i < 1 := (List.getElem?_eq_some_iff.mp hi).1
      have h2 : j < 1 := (List.getElem?_eq_some_iff.mp hj).1
      omega
    · have h1 : k < 1 := (List.getElem?_eq_some_iff.mp hk).1
      rw [show k = 0 by omega] at hk
      cases hk
      exact Or.inl rfl
  have hl := lv_entry ([.ref a, .int n, .int (b2i b)]) (n := 3) (Nat.le_of_ble_eq_true rfl)
  rw [lg_entry_eq]
  generalize (lg_sl ([.ref a, .int n, .int (b2i b)]) ++ List.replicate (3 - (lg_sl ([.ref a, .int n, .int (b2i b)])).length) Slot.unset).toArray = ls at hl ⊢
  have hl : lv_has ls 3 [(0, .ref a), (1, .int n), (2, .int (b2i b))] := hl
  refine lv_aload_n hx hb dX0_init_0 rfl (lv_at hl 0 rfl) ?_
  refine W.objInit hx hb hown (hts (.methodLink RX0 3 objectInit) (by decide +kernel)) (hts (.instanceMethod objectInit) (by decide +kernel)) (hts (.code objectInit ⟨#[0xb1]⟩ 1 none) (by decide +kernel)) rfl (by rw [hml]; exact hl.1) rfl dX0_init_1 (Nat.le_of_ble_eq_true rfl) (Nat.le_of_ble_eq_true rfl) ?_
  refine W.eq (g2 := F0 m 4 ls []) rfl ?_
  refine lv_aload_n hx hb dX0_init_4 rfl (lv_at hl 0 rfl) ?_
  refine lv_iload_n hx hb dX0_init_5 rfl (lv_at hl 1 rfl) ?_
  refine va_newa (atype := .int) (a0 := (n.toNatClampNeg, .inl (fun _ => 0))) hx hb (hts (.arrayClass .int) (by decide +kernel)) rfl hK hP hD hS hA (fun cA => rfl) (by rw [i_lt, i_0]; omega) rfl (by show _ * 4 ≤ _; rw [i_cl]; omega) (Nat.le_refl 1) (by show 0 + _ ≤ 40; rw [i_cl]; omega) dX0_init_6 (fun q cA H hK1 hP hD hS => ?_)
  have e1 : cA = cI := by
    have h1 := (hK.2 0 _ rfl).2
    have h2 := (hK1.2 3 _ rfl).2
    exact Option.some.inj (h2.symm.trans h1)
  subst e1
  have hP : va_P D vwCl [(a, .inr (0, [.null, .int 0])), (q, .inl (cA, n.toNatClampNeg, .inl (fun _ => 0)))] H := hP
  have hD : va_D (fun q : Nat => q = a ∨ s.heap.size ≤ q) [(a, .inr (0, [.null, .int 0])), (q, .inl (cA, n.toNatClampNeg, .inl (fun _ => 0)))] := hD
  refine va_putF (D := D) (ci := 0) (v := .ref q) (ty := .array .int) (C := RX0) (T := TX0) (N := 2) hx hb hts iw_X0_init_X0 tyX0 tyX0_ok nmX0 hown hK hP hD hS 0 rfl rfl 0 (by decide) (hts (.fieldLink RX0 9 "MethodBook$Thing" "fields" "[I") (by decide +kernel)) (fun _ h9 => h9) rfl hin rfl (by decide +kernel) rfl rfl (Nat.le_of_ble_eq_true rfl) dX0_init_8 (fun H locs hP hD hS => ?_)
  have hP : va_P D vwCl [(a, .inr (0, [.ref q, .int 0])), (q, .inl (cA, n.toNatClampNeg, .inl (fun _ => 0)))] H := hP
  have hD : va_D (fun q : Nat => q = a ∨ s.heap.size ≤ q) [(a, .inr (0, [.ref q, .int 0])), (q, .inl (cA, n.toNatClampNeg, .inl (fun _ => 0)))] := hD
  refine lv_aload_n hx hb dX0_init_11 rfl (lv_at hl 0 rfl) ?_
  refine lv_iload_n hx hb dX0_init_12 rfl (lv_at hl 2 rfl) ?_
  refine va_putF (D := D) (ci := 0) (v := .int (b2i b)) (ty := .boolean) (C := RX0) (T := TX0) (N := 2) hx hb hts iw_X0_init_X0 tyX0 tyX0_ok nmX0 hown hK hP hD hS 0 rfl rfl 1 (by decide) (hts (.fieldLink RX0 15 "MethodBook$Thing" "ofFields" "Z") (by decide +kernel)) (fun _ h9 => h9) rfl hin rfl (by decide +kernel) (by cases b <;> rfl) (by cases b <;> rfl) (Nat.le_of_ble_eq_true rfl) dX0_init_13 (fun H locs hP hD hS => ?_)
  have hP : va_P D vwCl [(a, .inr (0, [.ref q, .int (b2i b)])), (q, .inl (cA, n.toNatClampNeg, .inl (fun _ => 0)))] H := hP
  have hq : s.heap.size ≤ q := by
    rcases hD.2 1 _ rfl with h | h
    · exact absurd (hD.1 0 1 _ _ rfl rfl h.symm) (by decide)
    · exact h
  refine W.widen (k := 1) (n := 40) (Nat.le_refl 1) (by show 0 + _ ≤ 40; rw [i_cl]; omega) ?_
  exact W.vret hx hb hr (fun t ht hW => ⟨⟨rfl, q, by rw [ht]; exact ⟨hP 0 _ rfl, hP 1 _ rfl, by rw [i_cl]; omega⟩, hq⟩, hS.F ht⟩) hS.2.2 dX0_init_16
