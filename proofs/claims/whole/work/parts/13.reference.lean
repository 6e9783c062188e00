theorem iw_X2_isMade_X2 : ∀ w ∈ wsX20, w ∈ wsX2_isMade := by decide +kernel
theorem iw_X2_isValue_X2 : ∀ w ∈ wsX20, w ∈ wsX2_isValue := by decide +kernel
theorem iw_X2_fieldsOf_X2 : ∀ w ∈ wsX20, w ∈ wsX2_fieldsOf := by decide +kernel
theorem iw_X2_isOfFields_X2 : ∀ w ∈ wsX20, w ∈ wsX2_isOfFields := by decide +kernel
theorem iw_X2_field_X2 : ∀ w ∈ wsX20, w ∈ wsX2_field := by decide +kernel
theorem iw_X2_isField_X2 : ∀ w ∈ wsX20, w ∈ wsX2_isField := by decide +kernel
theorem iw_X2_size_X2 : ∀ w ∈ wsX20, w ∈ wsX2_size := by decide +kernel
theorem iw_X2_get_X2 : ∀ w ∈ wsX20, w ∈ wsX2_get := by decide +kernel
theorem iw_X2_method_X2 : ∀ w ∈ wsX20, w ∈ wsX2_method := by decide +kernel
theorem iw_X2_where_X2 : ∀ w ∈ wsX20, w ∈ wsX2_where := by decide +kernel
/-! ===== the reference's state ===== -/
def szv (O : Ob) (k : Nat) : Int32 := if O.2.1 k = true then nI (O.2.2.1 k) else -1
def rm (O : Ob) (md sz fl : Nat → Int32) : Prop := ∀ k, 1 ≤ k → k ≤ 400 → (O.1 k = false ∧ md k = 0) ∨ (O.1 k = true ∧ md k = 1 ∧ sz k = szv O k ∧ O.2.2.1 k ≤ 40 ∧ (O.2.1 k = false → O.2.2.1 k = 0) ∧ ∀ i, i < O.2.2.1 k → fl (40 * k + i) = O.2.2.2 k i)
def my (D : va_G) (cI cZ : ClassId) (h a1 a2 a3 : Nat) (md sz fl : Nat → Int32) (mt wh : Int32) (H : Heap) : Prop :=
  va_at D vwCl (h, .inr (2, [.ref a1, .ref a2, .ref a3, .int mt, .int wh])) H ∧ va_at D vwCl (a1, .inl (cZ, 401, .inl md)) H ∧ va_at D vwCl (a2, .inl (cI, 401, .inl sz)) H ∧ va_at D vwCl (a3, .inl (cI, 16040, .inl fl)) H ∧ (h ≠ a1 ∧ h ≠ a2 ∧ h ≠ a3) ∧ (a1 ≠ a2 ∧ a1 ≠ a3 ∧ a2 ≠ a3)
theorem my_keep {D : va_G} {cI cZ : ClassId} {h a1 a2 a3 : Nat} {md sz fl : Nat → Int32} {mt wh : Int32} {H H1 : Heap} (hp : my D cI cZ h a1 a2 a3 md sz fl mt wh H) (hk : ∀ q, q = h ∨ q = a1 ∨ q = a2 ∨ q = a3 → H1[q]? = H[q]?) : my D cI cZ h a1 a2 a3 md sz fl mt wh H1 :=
  ⟨hp.1.kept (hk h (Or.inl rfl)), hp.2.1.kept (hk a1 (Or.inr (Or.inl rfl))), hp.2.2.1.kept (hk a2 (Or.inr (Or.inr (Or.inl rfl)))), hp.2.2.2.1.kept (hk a3 (Or.inr (Or.inr (Or.inr rfl)))), hp.2.2.2.2⟩
theorem my_h {D : va_G} {cI cZ : ClassId} {h a1 a2 a3 : Nat} {md sz fl : Nat → Int32} {mt wh mt' wh' : Int32} {H H1 : Heap} (hp : my D cI cZ h a1 a2 a3 md sz fl mt wh H) (hh : va_at D vwCl (h, .inr (2, [.ref a1, .ref a2, .ref a3, .int mt', .int wh'])) H1) (hk : ∀ q, q ≠ h → H1[q]? = H[q]?) : my D cI cZ h a1 a2 a3 md sz fl mt' wh' H1 :=
  ⟨hh, hp.2.1.kept (hk a1 hp.2.2.2.2.1.1.symm), hp.2.2.1.kept (hk a2 hp.2.2.2.2.1.2.1.symm), hp.2.2.2.1.kept (hk a3 hp.2.2.2.2.1.2.2.symm), hp.2.2.2.2⟩
theorem my_1 {D : va_G} {cI cZ : ClassId} {h a1 a2 a3 : Nat} {md md' sz fl : Nat → Int32} {mt wh : Int32} {H H1 : Heap} (hp : my D cI cZ h a1 a2 a3 md sz fl mt wh H) (hh : va_at D vwCl (a1, .inl (cZ, 401, .inl md')) H1) (hk : ∀ q, q ≠ a1 → H1[q]? = H[q]?) : my D cI cZ h a1 a2 a3 md' sz fl mt wh H1 :=
  ⟨hp.1.kept (hk h hp.2.2.2.2.1.1), hh, hp.2.2.1.kept (hk a2 hp.2.2.2.2.2.1.symm), hp.2.2.2.1.kept (hk a3 hp.2.2.2.2.2.2.1.symm), hp.2.2.2.2⟩
theorem my_2 {D : va_G} {cI cZ : ClassId} {h a1 a2 a3 : Nat} {md sz sz' fl : Nat → Int32} {mt wh : Int32} {H H1 : Heap} (hp : my D cI cZ h a1 a2 a3 md sz fl mt wh H) (hh : va_at D vwCl (a2, .inl (cI, 401, .inl sz')) H1) (hk : ∀ q, q ≠ a2 → H1[q]? = H[q]?) : my D cI cZ h a1 a2 a3 md sz' fl mt wh H1 :=
  ⟨hp.1.kept (hk h hp.2.2.2.2.1.2.1), hp.2.1.kept (hk a1 hp.2.2.2.2.2.1), hh, hp.2.2.2.1.kept (hk a3 hp.2.2.2.2.2.2.2.symm), hp.2.2.2.2⟩
theorem my_3 {D : va_G} {cI cZ : ClassId} {h a1 a2 a3 : Nat} {md sz fl fl' : Nat → Int32} {mt wh : Int32} {H H1 : Heap} (hp : my D cI cZ h a1 a2 a3 md sz fl mt wh H) (hh : va_at D vwCl (a3, .inl (cI, 16040, .inl fl')) H1) (hk : ∀ q, q ≠ a3 → H1[q]? = H[q]?) : my D cI cZ h a1 a2 a3 md sz fl' mt wh H1 :=
  ⟨hp.1.kept (hk h hp.2.2.2.2.1.2.2), hp.2.1.kept (hk a1 hp.2.2.2.2.2.2.1), hp.2.2.1.kept (hk a2 hp.2.2.2.2.2.2.2), hh, hp.2.2.2.2⟩
theorem os_f {o : Option Nat} (h : o.isSome = false) : o = none := by
  cases o
  · rfl
  · cases h
theorem os_t {o : Option Nat} (h : o.isSome = true) : ∃ j, o = some j := by
  cases o
  · cases h
  · exact ⟨_, rfl⟩
theorem tz_in {O : Ob} {z : Int} (h1 : 1 ≤ z) (h2 : z ≤ 400) (hm : O.1 z.toNat = true) : tz O z = some z.toNat := by
  unfold tz
  rw [if_pos ⟨h1, h2, hm⟩]
theorem tz_un {O : Ob} {z : Int} (hm : O.1 z.toNat = false) : tz O z = none := by
  unfold tz
  rw [if_neg (by rw [hm]; simp)]
theorem tv_neg {O : Ob} {v : Int32} (h : v.toInt ≤ 0) : tv O v = none := by
  by_cases hv : v.toInt % 2 = 0
  · rw [tv_even hv]
    exact tz_out (Or.inl (by omega))
  · exact tv_odd hv
theorem tk_half {O : Ob} {v : Int32} (h0 : 0 ≤ v.toInt) (he : v.toInt % 2 = 0) : tk O (v / 2) = tv O v := by
  unfold tk
  rw [i_div v h0, tv_even he]
/-- an object that is made, by its value: the half is its number -/
theorem tv_half {O : Ob} {v : Int32} {j : Nat} (h : tv O v = some j) : 0 < v.toInt ∧ (v / 2).toInt = j ∧ 1 ≤ j ∧ j ≤ 400 ∧ O.1 j = true := by
  have he := tv_is_even h
  rw [tv_even he] at h
  obtain ⟨h1, h2, h3, h4⟩ := tz_some h
  exact ⟨by omega, by rw [i_div v (by omega)]; omega, by omega, by omega, h4⟩
theorem tk_num {O : Ob} {k : Int32} {j : Nat} (h : tk O k = some j) : k.toInt = j ∧ 1 ≤ j ∧ j ≤ 400 ∧ O.1 j = true := by
  obtain ⟨h1, h2, h3, h4⟩ := tz_some h
  exact ⟨by omega, by omega, by omega, h4⟩
theorem rm_of {O : Ob} {md sz fl : Nat → Int32} (h : rm O md sz fl) {k : Nat} (h1 : 1 ≤ k) (h2 : k ≤ 400) (hm : O.1 k = true) : sz k = szv O k ∧ O.2.2.1 k ≤ 40 ∧ (O.2.1 k = false → O.2.2.1 k = 0) ∧ ∀ i, i < O.2.2.1 k → fl (40 * k + i) = O.2.2.2 k i := by
  rcases h k h1 h2 with ⟨h3, -⟩ | ⟨-, -, h4⟩
  · rw [h3] at hm
    cases hm
  · exact h4
theorem szv_le {O : Ob} {k : Nat} (hb : O.2.1 k = false → O.2.2.1 k = 0) (hl : O.2.2.1 k ≤ 40) (h : (szv O k).toInt ≤ 0) : O.2.2.1 k = 0 := by
  unfold szv at h
  by_cases ho : O.2.1 k = true
  · rw [if_pos ho, nI_toInt (by omega)] at h
    omega
  · exact hb (by simpa using ho)
theorem szv_gt {O : Ob} {k : Nat} (h : ¬ (szv O k).toInt ≤ 0) : szv O k = nI (O.2.2.1 k) := by
  unfold szv at h ⊢
  by_cases ho : O.2.1 k = true
  · rw [if_pos ho]
  · rw [if_neg ho, i_m1] at h
    exact absurd (by decide) h
theorem szv_of {O : Ob} {k : Nat} (hl : O.2.2.1 k ≤ 40) (h : ¬ (szv O k).toInt < 0) : O.2.1 k = true := by
  unfold szv at h
  by_cases ho : O.2.1 k = true
  · exact ho
  · rw [if_neg ho, i_m1] at h
    exact absurd (by decide) h
theorem szv_no {O : Ob} {k : Nat} (hl : O.2.2.1 k ≤ 40) (h : (szv O k).toInt < 0) : O.2.1 k = false := by
  unfold szv at h
  by_cases ho : O.2.1 k = true
  · rw [if_pos ho, nI_toInt (by omega)] at h
    omega
  · simpa using ho
/-- a number below the size is below the fields -/
theorem szv_in {O : Ob} {k : Nat} {i : Int} (hl : O.2.2.1 k ≤ 40) (h0 : 0 ≤ i) (h : ¬ (szv O k).toInt ≤ i) : i < O.2.2.1 k := by
  unfold szv at h
  by_cases ho : O.2.1 k = true
  · rw [if_pos ho, nI_toInt (by omega)] at h
    omega
  · rw [if_neg ho, i_m1] at h
    omega
theorem szv_out {O : Ob} {k : Nat} {i : Int} (hb : O.2.1 k = false → O.2.2.1 k = 0) (hl : O.2.2.1 k ≤ 40) (h0 : 0 ≤ i) (h : (szv O k).toInt ≤ i) : ¬ i < O.2.2.1 k := by
  unfold szv at h
  by_cases ho : O.2.1 k = true
  · rw [if_pos ho, nI_toInt (by omega)] at h
    omega
  · have := hb (by simpa using ho)
    omega
def fof (O : Ob) (v : Int32) : Nat := match tv O v with
  | none => 0
  | some j => O.2.2.1 j
def ofd (O : Ob) (v : Int32) : Bool := match tv O v with
  | none => false
  | some j => O.2.1 j
def isF (O : Ob) (k i : Int32) : Bool := match tk O k with
  | none => false
  | some j => decide (0 ≤ i.toInt ∧ i.toInt < (O.2.2.1 j : Int))
set_option maxHeartbeats 4000000 in
set_option maxRecDepth 100000 in
theorem c_X2_isMade (l : Launch) (D : va_G) (cI cZ cT : ClassId) (h a1 a2 a3 : Nat) (md sz fl : Nat → Int32) (O : Ob) (hrm : rm O md sz fl) (mt wh : Int32) (H0 : Heap) (k : Int32) : Met l yX2_isMade wsX2_isMade ({ frames := 0, cells := 0, slots := 0, locals := 0 }) (pK D cI cZ cT [.ref h, .int k] (fun H => H = H0 ∧ my D cI cZ h a1 a2 a3 md sz fl mt wh H0)) (vp_Si (fun r => r = b2i (tk O k).isSome)) 0 0 (fun _ => False) := by
  refine Met.ofW (cc := cX2_isMade) (maxL := 2) (ret := (some .boolean)) (by decide) rfl ?_
  intro p e s m args below meth c s₁ B hml hv
  obtain ⟨rfl, hpic, hKN⟩ := hv
  have hK := hKN.1
  have hx := B.exec
  have hb := B.bytes
  have hr := B.returns
  have hts := atoms_spec (ws := wsX2_isMade) B.pre
  have hown : s.vm.findClass RX2 = some m.cls := findClass_of_methodNamed B.named
  have hlocks := B.notSynchronized
  obtain ⟨hH, hp⟩ := hpic
  subst hH
  have hl := lv_entry ([.ref h, .int k]) (n := 2) (Nat.le_of_ble_eq_true rfl)
  rw [lg_entry_eq]
  generalize (lg_sl ([.ref h, .int k]) ++ List.replicate (2 - (lg_sl ([.ref h, .int k])).length) Slot.unset).toArray = ls at hl ⊢
  have hl : lv_has ls 2 [(0, .ref h), (1, .int k)] := hl
  refine lv_iload_n hx hb dX2_isMade_0 rfl (lv_at hl 1 rfl) ?_
  refine lv_if_le (tgt := 24) hx hb dX2_isMade_1 (by decide) (fun c1 => ?_) (fun c1 => ?_)
  · simp only [i_lt, i_le, i_0, i_1, i_2, i_4, i_40, i_100, i_400, i_401] at c1
    refine lv_iconst (v := 0) hx hb dX2_isMade_24 (by decide) ?_
    refine W.zret (v := 0) (ty := .boolean) hx hb hr rfl (fun t ht hW => ⟨_, rfl, ?_, ht⟩) (fun _ h => absurd h List.not_mem_nil) dX2_isMade_25
    rw [show tk O k = none from tz_out (by omega)]
    rfl
  · simp only [i_lt, i_le, i_0, i_1, i_2, i_4, i_40, i_100, i_400, i_401] at c1
    refine lv_iload_n hx hb dX2_isMade_4 rfl (lv_at hl 1 rfl) ?_
    refine lv_sipush (v := 401) hx hb dX2_isMade_5 (by decide) ?_
    refine lv_icmp_ge (tgt := 24) hx hb dX2_isMade_8 (by decide) (fun c8 => ?_) (fun c8 => ?_)
    · simp only [i_lt, i_le, i_0, i_1, i_2, i_4, i_40, i_100, i_400, i_401] at c8
      refine lv_iconst (v := 0) hx hb dX2_isMade_24 (by decide) ?_
      refine W.zret (v := 0) (ty := .boolean) hx hb hr rfl (fun t ht hW => ⟨_, rfl, ?_, ht⟩) (fun _ h => absurd h List.not_mem_nil) dX2_isMade_25
      rw [show tk O k = none from tz_out (by omega)]
      rfl
    · simp only [i_lt, i_le, i_0, i_1, i_2, i_4, i_40, i_100, i_400, i_401] at c8
      refine lv_aload_n hx hb dX2_isMade_11 rfl (lv_at hl 0 rfl) ?_
      refine va_get (D := D) (ci := 2) (v := .ref a1) (C := RX2) (T := TX2) (N := 5) hx hb hts (iw_X2_isMade_X2) hown hK (one hp.1) 0 rfl rfl 0 (by decide) (hts (.fieldLink RX2 7 "MethodBookModel" "made" "[Z") (by decide +kernel)) (fun _ h9 => h9) rfl dX2_isMade_12 ?_
      refine lv_iload_n hx hb dX2_isMade_15 rfl (lv_at hl 1 rfl) ?_
      refine va_zald hx hb hK (one hp.2.1) 0 1 rfl rfl (vp_in_iff.mpr ⟨by omega, by omega⟩) dX2_isMade_16 ?_
      rcases hrm k.toNatClampNeg (by rw [i_cl]; omega) (by rw [i_cl]; omega) with ⟨m16, e16⟩ | ⟨m16, e16, -⟩
      · rw [e16]
        refine lv_if_eq (tgt := 24) hx hb dX2_isMade_17 (by decide) (fun _ => ?_) (fun c9 => absurd (by decide) c9)
        refine lv_iconst (v := 0) hx hb dX2_isMade_24 (by decide) ?_
        refine W.zret (v := 0) (ty := .boolean) hx hb hr rfl (fun t ht hW => ⟨_, rfl, ?_, ht⟩) (fun _ h => absurd h List.not_mem_nil) dX2_isMade_25
        rw [show tk O k = none from tz_un m16]
        rfl
      · rw [e16]
        refine lv_if_eq (tgt := 24) hx hb dX2_isMade_17 (by decide) (fun c9 => absurd c9 (by decide)) (fun _ => ?_)
        refine lv_iconst (v := 1) hx hb dX2_isMade_20 (by decide) ?_
        refine lv_goto (tgt := 25) hx hb dX2_isMade_21 (by decide) ?_
        refine W.zret (v := 1) (ty := .boolean) hx hb hr rfl (fun t ht hW => ⟨_, rfl, ?_, ht⟩) (fun _ h => absurd h List.not_mem_nil) dX2_isMade_25
        rw [show tk O k = some _ from tz_in (by omega) (by omega) m16]
        rfl
set_option maxHeartbeats 4000000 in
set_option maxRecDepth 100000 in
theorem c_X2_isValue (l : Launch) (D : va_G) (cI cZ cT : ClassId) (h a1 a2 a3 : Nat) (md sz fl : Nat → Int32) (O : Ob) (hrm : rm O md sz fl) (mt wh : Int32) (H0 : Heap) (v : Int32) : Met l yX2_isValue wsX2_isValue ({ frames := 1, cells := 0, slots := 0, locals := 21 }) (pK D cI cZ cT [.ref h, .int v] (fun H => H = H0 ∧ my D cI cZ h a1 a2 a3 md sz fl mt wh H0)) (vp_Si (fun r => r = b2i (isV O v))) 0 0 (fun _ => False) := by
  refine Met.ofW (cc := cX2_isValue) (maxL := 2) (ret := (some .boolean)) (by decide) rfl ?_
  intro p e s m args below meth c s₁ B hml hv
  obtain ⟨rfl, hpic, hKN⟩ := hv
  have hK := hKN.1
  have hx := B.exec
  have hb := B.bytes
  have hr := B.returns
  have hts := atoms_spec (ws := wsX2_isValue) B.pre
  have hown : s.vm.findClass RX2 = some m.cls := findClass_of_methodNamed B.named
  have hlocks := B.notSynchronized
  obtain ⟨hH, hp⟩ := hpic
  subst hH
  have hl := lv_entry ([.ref h, .int v]) (n := 2) (Nat.le_of_ble_eq_true rfl)
  rw [lg_entry_eq]
  generalize (lg_sl ([.ref h, .int v]) ++ List.replicate (2 - (lg_sl ([.ref h, .int v])).length) Slot.unset).toArray = ls at hl ⊢
  have hl : lv_has ls 2 [(0, .ref h), (1, .int v)] := hl
  refine lv_iload_n hx hb dX2_isValue_0 rfl (lv_at hl 1 rfl) ?_
  refine lv_if_eq (tgt := 24) hx hb dX2_isValue_1 (by decide) (fun c1 => ?_) (fun c1 => ?_)
  · refine lv_iconst (v := 1) hx hb dX2_isValue_24 (by decide) ?_
    refine lv_goto (tgt := 29) hx hb dX2_isValue_25 (by decide) ?_
    refine W.zret (v := 1) (ty := .boolean) hx hb hr rfl (fun t ht hW => ⟨_, rfl, ?_, ht⟩) (fun _ h => absurd h List.not_mem_nil) dX2_isValue_29
    unfold isV
    rw [decide_eq_true c1]
    rfl
  · refine lv_iload_n hx hb dX2_isValue_4 rfl (lv_at hl 1 rfl) ?_
    refine lv_iconst (v := 2) hx hb dX2_isValue_5 (by decide) ?_
    refine lv_irem hx hb dX2_isValue_6 (by decide) ?_
    refine lv_if_ne (tgt := 24) hx hb dX2_isValue_7 (by decide) (fun c7 => ?_) (fun c7 => ?_)
    · have q7 : ¬ v.toInt % 2 = 0 := fun h9 => c7 ((i_rem v).mpr h9)
      refine lv_iconst (v := 1) hx hb dX2_isValue_24 (by decide) ?_
      refine lv_goto (tgt := 29) hx hb dX2_isValue_25 (by decide) ?_
      refine W.zret (v := 1) (ty := .boolean) hx hb hr rfl (fun t ht hW => ⟨_, rfl, ?_, ht⟩) (fun _ h => absurd h List.not_mem_nil) dX2_isValue_29
      unfold isV
      rw [decide_eq_true (show v.toInt % 2 = 1 by omega), Bool.or_true]
      rfl
    · have q7 : v.toInt % 2 = 0 := (i_rem v).mp c7
      refine lv_iload_n hx hb dX2_isValue_10 rfl (lv_at hl 1 rfl) ?_
      refine lv_if_le (tgt := 28) hx hb dX2_isValue_11 (by decide) (fun c11 => ?_) (fun c11 => ?_)
      · simp only [i_lt, i_le, i_0, i_1, i_2, i_4, i_40, i_100, i_400, i_401] at c11
        refine lv_iconst (v := 0) hx hb dX2_isValue_28 (by decide) ?_
        refine W.zret (v := 0) (ty := .boolean) hx hb hr rfl (fun t ht hW => ⟨_, rfl, ?_, ht⟩) (fun _ h => absurd h List.not_mem_nil) dX2_isValue_29
        unfold isV
        rw [decide_eq_false c1, decide_eq_false (show ¬ v.toInt % 2 = 1 by omega), tv_neg (by omega)]
        rfl
      · simp only [i_lt, i_le, i_0, i_1, i_2, i_4, i_40, i_100, i_400, i_401] at c11
        refine lv_aload_n hx hb dX2_isValue_14 rfl (lv_at hl 0 rfl) ?_
        refine lv_iload_n hx hb dX2_isValue_15 rfl (lv_at hl 1 rfl) ?_
        refine lv_iconst (v := 2) hx hb dX2_isValue_16 (by decide) ?_
        refine lv_idiv hx hb dX2_isValue_17 (by decide) ?_
        refine pq_b (va_runV (As := [.int (v / 2)]) (rest := []) ⟨hx, hb, hml, hown, hts⟩ (c_X2_isMade l D cI cZ cT h a1 a2 a3 md sz fl O hrm mt wh _ (v / 2)) (cwV 1 hts gX2_isValue_X2_isMade rfl rfl rfl (by decide +kernel) ⟨Nat.le_of_ble_eq_true rfl, Nat.le_of_ble_eq_true rfl⟩) (pre_v ⟨rfl, hp⟩ hKN (recv hKN hp.1 rfl)) rfl rfl hl.1 rfl (lv_room (Nat.le_of_ble_eq_true rfl)) dX2_isValue_18 ⟨Nat.zero_le _, Nat.zero_le _⟩) (fun b18 => ?_) (fun b18 => ?_)
        · have e18 := os_f b18
          rw [tk_half (by omega) q7] at e18
          refine lv_if_eq (tgt := 28) hx hb dX2_isValue_21 (by decide) (fun _ => ?_) (fun c9 => absurd (by decide) c9)
          refine lv_iconst (v := 0) hx hb dX2_isValue_28 (by decide) ?_
          refine W.zret (v := 0) (ty := .boolean) hx hb hr rfl (fun t ht hW => ⟨_, rfl, ?_, ht⟩) (fun _ h => absurd h List.not_mem_nil) dX2_isValue_29
          unfold isV
          rw [decide_eq_false c1, decide_eq_false (show ¬ v.toInt % 2 = 1 by omega), e18]
          rfl
        · obtain ⟨j18, e18⟩ := os_t b18
          rw [tk_half (by omega) q7] at e18
          obtain ⟨p18, n18, l18, u18, m18⟩ := tv_half e18
          obtain ⟨s18, t18, w18, x18⟩ := rm_of hrm l18 u18 m18
          refine lv_if_eq (tgt := 28) hx hb dX2_isValue_21 (by decide) (fun c9 => absurd c9 (by decide)) (fun _ => ?_)
          refine lv_iconst (v := 1) hx hb dX2_isValue_24 (by decide) ?_
          refine lv_goto (tgt := 29) hx hb dX2_isValue_25 (by decide) ?_
          refine W.zret (v := 1) (ty := .boolean) hx hb hr rfl (fun t ht hW => ⟨_, rfl, ?_, ht⟩) (fun _ h => absurd h List.not_mem_nil) dX2_isValue_29
          unfold isV
          rw [e18, Option.isSome_some, Bool.or_true]
          rfl
set_option maxHeartbeats 4000000 in
set_option maxRecDepth 100000 in
theorem c_X2_fieldsOf (l : Launch) (D : va_G) (cI cZ cT : ClassId) (h a1 a2 a3 : Nat) (md sz fl : Nat → Int32) (O : Ob) (hrm : rm O md sz fl) (mt wh : Int32) (H0 : Heap) (v : Int32) : Met l yX2_fieldsOf wsX2_fieldsOf ({ frames := 1, cells := 0, slots := 0, locals := 21 }) (pK D cI cZ cT [.ref h, .int v] (fun H => H = H0 ∧ my D cI cZ h a1 a2 a3 md sz fl mt wh H0)) (vp_Si (fun r => r = nI (fof O v))) 0 0 (fun _ => False) := by
  refine Met.ofW (cc := cX2_fieldsOf) (maxL := 2) (ret := (some .int)) (by decide) rfl ?_
  intro p e s m args below meth c s₁ B hml hv
  obtain ⟨rfl, hpic, hKN⟩ := hv
  have hK := hKN.1
  have hx := B.exec
  have hb := B.bytes
  have hr := B.returns
  have hts := atoms_spec (ws := wsX2_fieldsOf) B.pre
  have hown : s.vm.findClass RX2 = some m.cls := findClass_of_methodNamed B.named
  have hlocks := B.notSynchronized
  obtain ⟨hH, hp⟩ := hpic
  subst hH
  have hl := lv_entry ([.ref h, .int v]) (n := 2) (Nat.le_of_ble_eq_true rfl)
  rw [lg_entry_eq]
  generalize (lg_sl ([.ref h, .int v]) ++ List.replicate (2 - (lg_sl ([.ref h, .int v])).length) Slot.unset).toArray = ls at hl ⊢
  have hl : lv_has ls 2 [(0, .ref h), (1, .int v)] := hl
  refine lv_iload_n hx hb dX2_fieldsOf_0 rfl (lv_at hl 1 rfl) ?_
  refine lv_if_le (tgt := 42) hx hb dX2_fieldsOf_1 (by decide) (fun c1 => ?_) (fun c1 => ?_)
  · simp only [i_lt, i_le, i_0, i_1, i_2, i_4, i_40, i_100, i_400, i_401] at c1
    refine lv_iconst (v := 0) hx hb dX2_fieldsOf_42 (by decide) ?_
    refine W.iret (v := 0) hx hb hr (fun t ht hW => ⟨_, rfl, ?_, ht⟩) (fun _ h => absurd h List.not_mem_nil) dX2_fieldsOf_43
    unfold fof
    rw [tv_neg (by omega)]
    rfl
  · simp only [i_lt, i_le, i_0, i_1, i_2, i_4, i_40, i_100, i_400, i_401] at c1
    refine lv_iload_n hx hb dX2_fieldsOf_4 rfl (lv_at hl 1 rfl) ?_
    refine lv_iconst (v := 2) hx hb dX2_fieldsOf_5 (by decide) ?_
    refine lv_irem hx hb dX2_fieldsOf_6 (by decide) ?_
    refine lv_if_ne (tgt := 42) hx hb dX2_fieldsOf_7 (by decide) (fun c7 => ?_) (fun c7 => ?_)
    · have q7 : ¬ v.toInt % 2 = 0 := fun h9 => c7 ((i_rem v).mpr h9)
      refine lv_iconst (v := 0) hx hb dX2_fieldsOf_42 (by decide) ?_
      refine W.iret (v := 0) hx hb hr (fun t ht hW => ⟨_, rfl, ?_, ht⟩) (fun _ h => absurd h List.not_mem_nil) dX2_fieldsOf_43
      unfold fof
      rw [tv_odd q7]
      rfl
    · have q7 : v.toInt % 2 = 0 := (i_rem v).mp c7
      refine lv_aload_n hx hb dX2_fieldsOf_10 rfl (lv_at hl 0 rfl) ?_
      refine lv_iload_n hx hb dX2_fieldsOf_11 rfl (lv_at hl 1 rfl) ?_
      refine lv_iconst (v := 2) hx hb dX2_fieldsOf_12 (by decide) ?_
      refine lv_idiv hx hb dX2_fieldsOf_13 (by decide) ?_
      refine pq_b (va_runV (As := [.int (v / 2)]) (rest := []) ⟨hx, hb, hml, hown, hts⟩ (c_X2_isMade l D cI cZ cT h a1 a2 a3 md sz fl O hrm mt wh _ (v / 2)) (cwV 1 hts gX2_fieldsOf_X2_isMade rfl rfl rfl (by decide +kernel) ⟨Nat.le_of_ble_eq_true rfl, Nat.le_of_ble_eq_true rfl⟩) (pre_v ⟨rfl, hp⟩ hKN (recv hKN hp.1 rfl)) rfl rfl hl.1 rfl (lv_room (Nat.le_of_ble_eq_true rfl)) dX2_fieldsOf_14 ⟨Nat.zero_le _, Nat.zero_le _⟩) (fun b14 => ?_) (fun b14 => ?_)
      · have e14 := os_f b14
        rw [tk_half (by omega) q7] at e14
        refine lv_if_eq (tgt := 42) hx hb dX2_fieldsOf_17 (by decide) (fun _ => ?_) (fun c9 => absurd (by decide) c9)
        refine lv_iconst (v := 0) hx hb dX2_fieldsOf_42 (by decide) ?_
        refine W.iret (v := 0) hx hb hr (fun t ht hW => ⟨_, rfl, ?_, ht⟩) (fun _ h => absurd h List.not_mem_nil) dX2_fieldsOf_43
        unfold fof
        rw [e14]
        rfl
      · obtain ⟨j14, e14⟩ := os_t b14
        rw [tk_half (by omega) q7] at e14
        obtain ⟨p14, n14, l14, u14, m14⟩ := tv_half e14
        obtain ⟨s14, t14, w14, x14⟩ := rm_of hrm l14 u14 m14
        refine lv_if_eq (tgt := 42) hx hb dX2_fieldsOf_17 (by decide) (fun c9 => absurd c9 (by decide)) (fun _ => ?_)
        refine lv_aload_n hx hb dX2_fieldsOf_20 rfl (lv_at hl 0 rfl) ?_
        refine va_get (D := D) (ci := 2) (v := .ref a2) (C := RX2) (T := TX2) (N := 5) hx hb hts (iw_X2_fieldsOf_X2) hown hK (one hp.1) 0 rfl rfl 1 (by decide) (hts (.fieldLink RX2 13 "MethodBookModel" "sizes" "[I") (by decide +kernel)) (fun _ h9 => h9) rfl dX2_fieldsOf_21 ?_
        refine lv_iload_n hx hb dX2_fieldsOf_24 rfl (lv_at hl 1 rfl) ?_
        refine lv_iconst (v := 2) hx hb dX2_fieldsOf_25 (by decide) ?_
        refine lv_idiv hx hb dX2_fieldsOf_26 (by decide) ?_
        refine va_iald hx hb hK (one hp.2.2.1) 0 0 rfl rfl (vp_in_iff.mpr ⟨by omega, by omega⟩) dX2_fieldsOf_27 ?_
        rw [show sz (v / 2).toNatClampNeg = szv O j14 from by rw [i_cl, n14]; exact s14]
        refine lv_if_le (tgt := 42) hx hb dX2_fieldsOf_28 (by decide) (fun c28 => ?_) (fun c28 => ?_)
        · simp only [i_lt, i_le, i_0, i_1, i_2, i_4, i_40, i_100, i_400, i_401] at c28
          refine lv_iconst (v := 0) hx hb dX2_fieldsOf_42 (by decide) ?_
          refine W.iret (v := 0) hx hb hr (fun t ht hW => ⟨_, rfl, ?_, ht⟩) (fun _ h => absurd h List.not_mem_nil) dX2_fieldsOf_43
          unfold fof
          rw [e14]
          show 0 = nI (O.2.2.1 j14)
          rw [szv_le w14 t14 c28]
          rfl
        · simp only [i_lt, i_le, i_0, i_1, i_2, i_4, i_40, i_100, i_400, i_401] at c28
          refine lv_aload_n hx hb dX2_fieldsOf_31 rfl (lv_at hl 0 rfl) ?_
          refine va_get (D := D) (ci := 2) (v := .ref a2) (C := RX2) (T := TX2) (N := 5) hx hb hts (iw_X2_fieldsOf_X2) hown hK (one hp.1) 0 rfl rfl 1 (by decide) (hts (.fieldLink RX2 13 "MethodBookModel" "sizes" "[I") (by decide +kernel)) (fun _ h9 => h9) rfl dX2_fieldsOf_32 ?_
          refine lv_iload_n hx hb dX2_fieldsOf_35 rfl (lv_at hl 1 rfl) ?_
          refine lv_iconst (v := 2) hx hb dX2_fieldsOf_36 (by decide) ?_
          refine lv_idiv hx hb dX2_fieldsOf_37 (by decide) ?_
          refine va_iald hx hb hK (one hp.2.2.1) 0 0 rfl rfl (vp_in_iff.mpr ⟨by omega, by omega⟩) dX2_fieldsOf_38 ?_
          rw [show sz (v / 2).toNatClampNeg = szv O j14 from by rw [i_cl, n14]; exact s14]
          refine lv_goto (tgt := 43) hx hb dX2_fieldsOf_39 (by decide) ?_
          refine W.iret (v := (szv O j14)) hx hb hr (fun t ht hW => ⟨_, rfl, ?_, ht⟩) (fun _ h => absurd h List.not_mem_nil) dX2_fieldsOf_43
          unfold fof
          rw [e14]
          exact szv_gt c28
set_option maxHeartbeats 4000000 in
set_option maxRecDepth 100000 in
theorem c_X2_isOfFields (l : Launch) (D : va_G) (cI cZ cT : ClassId) (h a1 a2 a3 : Nat) (md sz fl : Nat → Int32) (O : Ob) (hrm : rm O md sz fl) (mt wh : Int32) (H0 : Heap) (v : Int32) : Met l yX2_isOfFields wsX2_isOfFields ({ frames := 1, cells := 0, slots := 0, locals := 21 }) (pK D cI cZ cT [.ref h, .int v] (fun H => H = H0 ∧ my D cI cZ h a1 a2 a3 md sz fl mt wh H0)) (vp_Si (fun r => r = b2i (ofd O v))) 0 0 (fun _ => False) := by
  refine Met.ofW (cc := cX2_isOfFields) (maxL := 2) (ret := (some .boolean)) (by decide) rfl ?_
  intro p e s m args below meth c s₁ B hml hv
  obtain ⟨rfl, hpic, hKN⟩ := hv
  have hK := hKN.1
  have hx := B.exec
  have hb := B.bytes
  have hr := B.returns
  have hts := atoms_spec (ws := wsX2_isOfFields) B.pre
  have hown : s.vm.findClass RX2 = some m.cls := findClass_of_methodNamed B.named
  have hlocks := B.notSynchronized
  obtain ⟨hH, hp⟩ := hpic
  subst hH
  have hl := lv_entry ([.ref h, .int v]) (n := 2) (Nat.le_of_ble_eq_true rfl)
  rw [lg_entry_eq]
  generalize (lg_sl ([.ref h, .int v]) ++ List.replicate (2 - (lg_sl ([.ref h, .int v])).length) Slot.unset).toArray = ls at hl ⊢
  have hl : lv_has ls 2 [(0, .ref h), (1, .int v)] := hl
  refine lv_iload_n hx hb dX2_isOfFields_0 rfl (lv_at hl 1 rfl) ?_
  refine lv_if_le (tgt := 35) hx hb dX2_isOfFields_1 (by decide) (fun c1 => ?_) (fun c1 => ?_)
  · simp only [i_lt, i_le, i_0, i_1, i_2, i_4, i_40, i_100, i_400, i_401] at c1
    refine lv_iconst (v := 0) hx hb dX2_isOfFields_35 (by decide) ?_
    refine W.zret (v := 0) (ty := .boolean) hx hb hr rfl (fun t ht hW => ⟨_, rfl, ?_, ht⟩) (fun _ h => absurd h List.not_mem_nil) dX2_isOfFields_36
    unfold ofd
    rw [tv_neg (by omega)]
    rfl
  · simp only [i_lt, i_le, i_0, i_1, i_2, i_4, i_40, i_100, i_400, i_401] at c1
    refine lv_iload_n hx hb dX2_isOfFields_4 rfl (lv_at hl 1 rfl) ?_
    refine lv_iconst (v := 2) hx hb dX2_isOfFields_5 (by decide) ?_
    refine lv_irem hx hb dX2_isOfFields_6 (by decide) ?_
    refine lv_if_ne (tgt := 35) hx hb dX2_isOfFields_7 (by decide) (fun c7 => ?_) (fun c7 => ?_)
    · have q7 : ¬ v.toInt % 2 = 0 := fun h9 => c7 ((i_rem v).mpr h9)
      refine lv_iconst (v := 0) hx hb dX2_isOfFields_35 (by decide) ?_
      refine W.zret (v := 0) (ty := .boolean) hx hb hr rfl (fun t ht hW => ⟨_, rfl, ?_, ht⟩) (fun _ h => absurd h List.not_mem_nil) dX2_isOfFields_36
      unfold ofd
      rw [tv_odd q7]
      rfl
    · have q7 : v.toInt % 2 = 0 := (i_rem v).mp c7
      refine lv_aload_n hx hb dX2_isOfFields_10 rfl (lv_at hl 0 rfl) ?_
      refine lv_iload_n hx hb dX2_isOfFields_11 rfl (lv_at hl 1 rfl) ?_
      refine lv_iconst (v := 2) hx hb dX2_isOfFields_12 (by decide) ?_
      refine lv_idiv hx hb dX2_isOfFields_13 (by decide) ?_
      refine pq_b (va_runV (As := [.int (v / 2)]) (rest := []) ⟨hx, hb, hml, hown, hts⟩ (c_X2_isMade l D cI cZ cT h a1 a2 a3 md sz fl O hrm mt wh _ (v / 2)) (cwV 1 hts gX2_isOfFields_X2_isMade rfl rfl rfl (by decide +kernel) ⟨Nat.le_of_ble_eq_true rfl, Nat.le_of_ble_eq_true rfl⟩) (pre_v ⟨rfl, hp⟩ hKN (recv hKN hp.1 rfl)) rfl rfl hl.1 rfl (lv_room (Nat.le_of_ble_eq_true rfl)) dX2_isOfFields_14 ⟨Nat.zero_le _, Nat.zero_le _⟩) (fun b14 => ?_) (fun b14 => ?_)
      · have e14 := os_f b14
        rw [tk_half (by omega) q7] at e14
        refine lv_if_eq (tgt := 35) hx hb dX2_isOfFields_17 (by decide) (fun _ => ?_) (fun c9 => absurd (by decide) c9)
        refine lv_iconst (v := 0) hx hb dX2_isOfFields_35 (by decide) ?_
        refine W.zret (v := 0) (ty := .boolean) hx hb hr rfl (fun t ht hW => ⟨_, rfl, ?_, ht⟩) (fun _ h => absurd h List.not_mem_nil) dX2_isOfFields_36
        unfold ofd
        rw [e14]
        rfl
      · obtain ⟨j14, e14⟩ := os_t b14
        rw [tk_half (by omega) q7] at e14
        obtain ⟨p14, n14, l14, u14, m14⟩ := tv_half e14
        obtain ⟨s14, t14, w14, x14⟩ := rm_of hrm l14 u14 m14
        refine lv_if_eq (tgt := 35) hx hb dX2_isOfFields_17 (by decide) (fun c9 => absurd c9 (by decide)) (fun _ => ?_)
        refine lv_aload_n hx hb dX2_isOfFields_20 rfl (lv_at hl 0 rfl) ?_
        refine va_get (D := D) (ci := 2) (v := .ref a2) (C := RX2) (T := TX2) (N := 5) hx hb hts (iw_X2_isOfFields_X2) hown hK (one hp.1) 0 rfl rfl 1 (by decide) (hts (.fieldLink RX2 13 "MethodBookModel" "sizes" "[I") (by decide +kernel)) (fun _ h9 => h9) rfl dX2_isOfFields_21 ?_
        refine lv_iload_n hx hb dX2_isOfFields_24 rfl (lv_at hl 1 rfl) ?_
        refine lv_iconst (v := 2) hx hb dX2_isOfFields_25 (by decide) ?_
        refine lv_idiv hx hb dX2_isOfFields_26 (by decide) ?_
        refine va_iald hx hb hK (one hp.2.2.1) 0 0 rfl rfl (vp_in_iff.mpr ⟨by omega, by omega⟩) dX2_isOfFields_27 ?_
        rw [show sz (v / 2).toNatClampNeg = szv O j14 from by rw [i_cl, n14]; exact s14]
        refine lv_if_lt (tgt := 35) hx hb dX2_isOfFields_28 (by decide) (fun c28 => ?_) (fun c28 => ?_)
        · simp only [i_lt, i_le, i_0, i_1, i_2, i_4, i_40, i_100, i_400, i_401] at c28
          refine lv_iconst (v := 0) hx hb dX2_isOfFields_35 (by decide) ?_
          refine W.zret (v := 0) (ty := .boolean) hx hb hr rfl (fun t ht hW => ⟨_, rfl, ?_, ht⟩) (fun _ h => absurd h List.not_mem_nil) dX2_isOfFields_36
          unfold ofd
          rw [e14]
          show 0 = b2i (O.2.1 j14)
          rw [szv_no t14 c28]
          rfl
        · simp only [i_lt, i_le, i_0, i_1, i_2, i_4, i_40, i_100, i_400, i_401] at c28
          refine lv_iconst (v := 1) hx hb dX2_isOfFields_31 (by decide) ?_
          refine lv_goto (tgt := 36) hx hb dX2_isOfFields_32 (by decide) ?_
          refine W.zret (v := 1) (ty := .boolean) hx hb hr rfl (fun t ht hW => ⟨_, rfl, ?_, ht⟩) (fun _ h => absurd h List.not_mem_nil) dX2_isOfFields_36
          unfold ofd
          rw [e14]
          show 1 = b2i (O.2.1 j14)
          rw [szv_of t14 c28]
          rfl
theorem ix_v {v : Int32} {j n : Nat} (h : (v / 2).toInt = j) (hj : j ≤ 400) (hn : n < 40) : (40 * (v / 2) + nI n).toInt = 40 * j + n := by
  have e1 : (40 * (v / 2)).toInt = 40 * j := by rw [i_m40 _ (by omega) (by omega), h]
  rw [i_add _ _ (by rw [e1, nI_toInt (by omega)]; omega) (by rw [e1, nI_toInt (by omega)]; omega), e1, nI_toInt (by omega)]
theorem ix_k {k i : Int32} {j : Nat} (h : k.toInt = j) (hj : j ≤ 400) (h0 : 0 ≤ i.toInt) (hn : i.toInt < 40) : (40 * k + i).toInt = 40 * j + i.toInt := by
  have e1 : (40 * k).toInt = 40 * j := by rw [i_m40 _ (by omega) (by omega), h]
  rw [i_add _ _ (by rw [e1]; omega) (by rw [e1]; omega), e1]
set_option maxHeartbeats 4000000 in
set_option maxRecDepth 100000 in
theorem c_X2_field (l : Launch) (D : va_G) (cI cZ cT : ClassId) (h a1 a2 a3 : Nat) (md sz fl : Nat → Int32) (O : Ob) (hrm : rm O md sz fl) (mt wh : Int32) (H0 : Heap) (v : Int32) (j n : Nat) (hv : tv O v = some j) (hn : n < O.2.2.1 j) : Met l yX2_field wsX2_field ({ frames := 0, cells := 0, slots := 0, locals := 0 }) (pK D cI cZ cT [.ref h, .int v, .int (nI n)] (fun H => H = H0 ∧ my D cI cZ h a1 a2 a3 md sz fl mt wh H0)) (vp_Si (fun r => r = O.2.2.2 j n)) 0 0 (fun _ => False) := by
  refine Met.ofW (cc := cX2_field) (maxL := 3) (ret := (some .int)) (by decide) rfl ?_
  intro p e s m args below meth c s₁ B hml hv
  obtain ⟨rfl, hpic, hKN⟩ := hv
  have hK := hKN.1
  have hx := B.exec
  have hb := B.bytes
  have hr := B.returns
  have hts := atoms_spec (ws := wsX2_field) B.pre
  have hown : s.vm.findClass RX2 = some m.cls := findClass_of_methodNamed B.named
  have hlocks := B.notSynchronized
  obtain ⟨hH, hp⟩ := hpic
  subst hH
  obtain ⟨hv0, hv1, hv2, hv3, hv4⟩ := tv_half hv
  obtain ⟨-, hl40, -, hf⟩ := rm_of hrm hv2 hv3 hv4
  have hix := ix_v (n := n) hv1 hv3 (by omega)
  have hl := lv_entry ([.ref h, .int v, .int (nI n)]) (n := 3) (Nat.le_of_ble_eq_true rfl)
  rw [lg_entry_eq]
  generalize (lg_sl ([.ref h, .int v, .int (nI n)]) ++ List.replicate (3 - (lg_sl ([.ref h, .int v, .int (nI n)])).length) Slot.unset).toArray = ls at hl ⊢
  have hl : lv_has ls 3 [(0, .ref h), (1, .int v), (2, .int (nI n))] := hl
  refine lv_aload_n hx hb dX2_field_0 rfl (lv_at hl 0 rfl) ?_
  refine va_get (D := D) (ci := 2) (v := .ref a3) (C := RX2) (T := TX2) (N := 5) hx hb hts (iw_X2_field_X2) hown hK (one hp.1) 0 rfl rfl 2 (by decide) (hts (.fieldLink RX2 17 "MethodBookModel" "fields" "[I") (by decide +kernel)) (fun _ h9 => h9) rfl dX2_field_1 ?_
  refine lv_bipush (v := 40) hx hb dX2_field_4 (by decide) ?_
  refine lv_iload_n hx hb dX2_field_6 rfl (lv_at hl 1 rfl) ?_
  refine lv_iconst (v := 2) hx hb dX2_field_7 (by decide) ?_
  refine lv_idiv hx hb dX2_field_8 (by decide) ?_
  refine lv_imul hx hb dX2_field_9 ?_
  refine lv_iload_n hx hb dX2_field_10 rfl (lv_at hl 2 rfl) ?_
  refine lv_iadd hx hb dX2_field_11 ?_
  refine va_iald hx hb hK (one hp.2.2.2.1) 0 0 rfl rfl (vp_in_iff.mpr ⟨by rw [hix]; omega, by rw [hix]; omega⟩) dX2_field_12 ?_
  refine W.iret (v := (fl ((40 * (v / 2)) + (nI n)).toNatClampNeg)) hx hb hr (fun t ht hW => ⟨_, rfl, ?_, ht⟩) (fun _ h => absurd h List.not_mem_nil) dX2_field_13
  rw [i_cl, hix, show (40 * (j : Int) + (n : Int)).toNat = 40 * j + n by omega]
  exact hf n hn
set_option maxHeartbeats 4000000 in
set_option maxRecDepth 100000 in
theorem c_X2_isField (l : Launch) (D : va_G) (cI cZ cT : ClassId) (h a1 a2 a3 : Nat) (md sz fl : Nat → Int32) (O : Ob) (hrm : rm O md sz fl) (mt wh : Int32) (H0 : Heap) (k i : Int32) : Met l yX2_isField wsX2_isField ({ frames := 1, cells := 0, slots := 0, locals := 21 }) (pK D cI cZ cT [.ref h, .int k, .int i] (fun H => H = H0 ∧ my D cI cZ h a1 a2 a3 md sz fl mt wh H0)) (vp_Si (fun r => r = b2i (isF O k i))) 0 0 (fun _ => False) := by
  refine Met.ofW (cc := cX2_isField) (maxL := 3) (ret := (some .boolean)) (by decide) rfl ?_
  intro p e s m args below meth c s₁ B hml hv
  obtain ⟨rfl, hpic, hKN⟩ := hv
  have hK := hKN.1
  have hx := B.exec
  have hb := B.bytes
  have hr := B.returns
  have hts := atoms_spec (ws := wsX2_isField) B.pre
  have hown : s.vm.findClass RX2 = some m.cls := findClass_of_methodNamed B.named
  have hlocks := B.notSynchronized
  obtain ⟨hH, hp⟩ := hpic
  subst hH
  have hl := lv_entry ([.ref h, .int k, .int i]) (n := 3) (Nat.le_of_ble_eq_true rfl)
  rw [lg_entry_eq]
  generalize (lg_sl ([.ref h, .int k, .int i]) ++ List.replicate (3 - (lg_sl ([.ref h, .int k, .int i])).length) Slot.unset).toArray = ls at hl ⊢
  have hl : lv_has ls 3 [(0, .ref h), (1, .int k), (2, .int i)] := hl
  refine lv_aload_n hx hb dX2_isField_0 rfl (lv_at hl 0 rfl) ?_
  refine lv_iload_n hx hb dX2_isField_1 rfl (lv_at hl 1 rfl) ?_
  refine pq_b (va_runV (As := [.int k]) (rest := []) ⟨hx, hb, hml, hown, hts⟩ (c_X2_isMade l D cI cZ cT h a1 a2 a3 md sz fl O hrm mt wh _ k) (cwV 1 hts gX2_isField_X2_isMade rfl rfl rfl (by decide +kernel) ⟨Nat.le_of_ble_eq_true rfl, Nat.le_of_ble_eq_true rfl⟩) (pre_v ⟨rfl, hp⟩ hKN (recv hKN hp.1 rfl)) rfl rfl hl.1 rfl (lv_room (Nat.le_of_ble_eq_true rfl)) dX2_isField_2 ⟨Nat.zero_le _, Nat.zero_le _⟩) (fun b2 => ?_) (fun b2 => ?_)
  · have e2 := os_f b2
    refine lv_if_eq (tgt := 26) hx hb dX2_isField_5 (by decide) (fun _ => ?_) (fun c9 => absurd (by decide) c9)
    refine lv_iconst (v := 0) hx hb dX2_isField_26 (by decide) ?_
    refine W.zret (v := 0) (ty := .boolean) hx hb hr rfl (fun t ht hW => ⟨_, rfl, ?_, ht⟩) (fun _ h => absurd h List.not_mem_nil) dX2_isField_27
    unfold isF
    rw [e2]
    rfl
  · obtain ⟨j2, e2⟩ := os_t b2
    obtain ⟨n2, l2, u2, m2⟩ := tk_num e2
    obtain ⟨s2, t2, w2, x2⟩ := rm_of hrm l2 u2 m2
    refine lv_if_eq (tgt := 26) hx hb dX2_isField_5 (by decide) (fun c9 => absurd c9 (by decide)) (fun _ => ?_)
    refine lv_iload_n hx hb dX2_isField_8 rfl (lv_at hl 2 rfl) ?_
    refine lv_if_lt (tgt := 26) hx hb dX2_isField_9 (by decide) (fun c9 => ?_) (fun c9 => ?_)
    · simp only [i_lt, i_le, i_0, i_1, i_2, i_4, i_40, i_100, i_400, i_401] at c9
      refine lv_iconst (v := 0) hx hb dX2_isField_26 (by decide) ?_
      refine W.zret (v := 0) (ty := .boolean) hx hb hr rfl (fun t ht hW => ⟨_, rfl, ?_, ht⟩) (fun _ h => absurd h List.not_mem_nil) dX2_isField_27
      unfold isF
      rw [e2]
      exact b2i_no (by omega)
    · simp only [i_lt, i_le, i_0, i_1, i_2, i_4, i_40, i_100, i_400, i_401] at c9
      refine lv_iload_n hx hb dX2_isField_12 rfl (lv_at hl 2 rfl) ?_
      refine lv_aload_n hx hb dX2_isField_13 rfl (lv_at hl 0 rfl) ?_
      refine va_get (D := D) (ci := 2) (v := .ref a2) (C := RX2) (T := TX2) (N := 5) hx hb hts (iw_X2_isField_X2) hown hK (one hp.1) 0 rfl rfl 1 (by decide) (hts (.fieldLink RX2 13 "MethodBookModel" "sizes" "[I") (by decide +kernel)) (fun _ h9 => h9) rfl dX2_isField_14 ?_
      refine lv_iload_n hx hb dX2_isField_17 rfl (lv_at hl 1 rfl) ?_
      refine va_iald hx hb hK (one hp.2.2.1) 0 0 rfl rfl (vp_in_iff.mpr ⟨by omega, by omega⟩) dX2_isField_18 ?_
      rw [show sz k.toNatClampNeg = szv O j2 from by rw [i_cl, n2]; exact s2]
      refine lv_icmp_ge (tgt := 26) hx hb dX2_isField_19 (by decide) (fun c19 => ?_) (fun c19 => ?_)
      · simp only [i_lt, i_le, i_0, i_1, i_2, i_4, i_40, i_100, i_400, i_401] at c19
        refine lv_iconst (v := 0) hx hb dX2_isField_26 (by decide) ?_
        refine W.zret (v := 0) (ty := .boolean) hx hb hr rfl (fun t ht hW => ⟨_, rfl, ?_, ht⟩) (fun _ h => absurd h List.not_mem_nil) dX2_isField_27
        unfold isF
        rw [e2]
        exact b2i_no (fun h9 => szv_out w2 t2 (by omega) c19 h9.2)
      · simp only [i_lt, i_le, i_0, i_1, i_2, i_4, i_40, i_100, i_400, i_401] at c19
        refine lv_iconst (v := 1) hx hb dX2_isField_22 (by decide) ?_
        refine lv_goto (tgt := 27) hx hb dX2_isField_23 (by decide) ?_
        refine W.zret (v := 1) (ty := .boolean) hx hb hr rfl (fun t ht hW => ⟨_, rfl, ?_, ht⟩) (fun _ h => absurd h List.not_mem_nil) dX2_isField_27
        unfold isF
        rw [e2]
        exact b2i_yes ⟨by omega, szv_in t2 (by omega) c19⟩
set_option maxHeartbeats 4000000 in
set_option maxRecDepth 100000 in
theorem c_X2_size (l : Launch) (D : va_G) (cI cZ cT : ClassId) (h a1 a2 a3 : Nat) (md sz fl : Nat → Int32) (O : Ob) (hrm : rm O md sz fl) (mt wh : Int32) (H0 : Heap) (k : Int32) : Met l yX2_size wsX2_size ({ frames := 1, cells := 0, slots := 0, locals := 21 }) (pK D cI cZ cT [.ref h, .int k] (fun H => H = H0 ∧ my D cI cZ h a1 a2 a3 md sz fl mt wh H0)) (vp_Si (fun r => r = szo O k)) 0 0 (fun _ => False) := by
  refine Met.ofW (cc := cX2_size) (maxL := 2) (ret := (some .int)) (by decide) rfl ?_
  intro p e s m args below meth c s₁ B hml hv
  obtain ⟨rfl, hpic, hKN⟩ := hv
  have hK := hKN.1
  have hx := B.exec
  have hb := B.bytes
  have hr := B.returns
  have hts := atoms_spec (ws := wsX2_size) B.pre
  have hown : s.vm.findClass RX2 = some m.cls := findClass_of_methodNamed B.named
  have hlocks := B.notSynchronized
  obtain ⟨hH, hp⟩ := hpic
  subst hH
  have hl := lv_entry ([.ref h, .int k]) (n := 2) (Nat.le_of_ble_eq_true rfl)
  rw [lg_entry_eq]
  generalize (lg_sl ([.ref h, .int k]) ++ List.replicate (2 - (lg_sl ([.ref h, .int k])).length) Slot.unset).toArray = ls at hl ⊢
  have hl : lv_has ls 2 [(0, .ref h), (1, .int k)] := hl
  refine lv_aload_n hx hb dX2_size_0 rfl (lv_at hl 0 rfl) ?_
  refine lv_iload_n hx hb dX2_size_1 rfl (lv_at hl 1 rfl) ?_
  refine pq_b (va_runV (As := [.int k]) (rest := []) ⟨hx, hb, hml, hown, hts⟩ (c_X2_isMade l D cI cZ cT h a1 a2 a3 md sz fl O hrm mt wh _ k) (cwV 1 hts gX2_size_X2_isMade rfl rfl rfl (by decide +kernel) ⟨Nat.le_of_ble_eq_true rfl, Nat.le_of_ble_eq_true rfl⟩) (pre_v ⟨rfl, hp⟩ hKN (recv hKN hp.1 rfl)) rfl rfl hl.1 rfl (lv_room (Nat.le_of_ble_eq_true rfl)) dX2_size_2 ⟨Nat.zero_le _, Nat.zero_le _⟩) (fun b2 => ?_) (fun b2 => ?_)
  · have e2 := os_f b2
    refine lv_if_eq (tgt := 17) hx hb dX2_size_5 (by decide) (fun _ => ?_) (fun c9 => absurd (by decide) c9)
    refine lv_iconst (v := (-1)) hx hb dX2_size_17 (by decide) ?_
    refine W.iret (v := (-1)) hx hb hr (fun t ht hW => ⟨_, rfl, ?_, ht⟩) (fun _ h => absurd h List.not_mem_nil) dX2_size_18
    unfold szo
    rw [e2]
  · obtain ⟨j2, e2⟩ := os_t b2
    obtain ⟨n2, l2, u2, m2⟩ := tk_num e2
    obtain ⟨s2, t2, w2, x2⟩ := rm_of hrm l2 u2 m2
    refine lv_if_eq (tgt := 17) hx hb dX2_size_5 (by decide) (fun c9 => absurd c9 (by decide)) (fun _ => ?_)
    refine lv_aload_n hx hb dX2_size_8 rfl (lv_at hl 0 rfl) ?_
    refine va_get (D := D) (ci := 2) (v := .ref a2) (C := RX2) (T := TX2) (N := 5) hx hb hts (iw_X2_size_X2) hown hK (one hp.1) 0 rfl rfl 1 (by decide) (hts (.fieldLink RX2 13 "MethodBookModel" "sizes" "[I") (by decide +kernel)) (fun _ h9 => h9) rfl dX2_size_9 ?_
    refine lv_iload_n hx hb dX2_size_12 rfl (lv_at hl 1 rfl) ?_
    refine va_iald hx hb hK (one hp.2.2.1) 0 0 rfl rfl (vp_in_iff.mpr ⟨by omega, by omega⟩) dX2_size_13 ?_
    rw [show sz k.toNatClampNeg = szv O j2 from by rw [i_cl, n2]; exact s2]
    refine lv_goto (tgt := 18) hx hb dX2_size_14 (by decide) ?_
    refine W.iret (v := (szv O j2)) hx hb hr (fun t ht hW => ⟨_, rfl, ?_, ht⟩) (fun _ h => absurd h List.not_mem_nil) dX2_size_18
    unfold szo
    rw [e2]
    rfl
theorem isF_t {O : Ob} {k i : Int32} (h : isF O k i = true) : ∃ j, tk O k = some j ∧ 0 ≤ i.toInt ∧ i.toInt < (O.2.2.1 j : Int) := by
  unfold isF at h
  split at h
  · cases h
  · rename_i j hj
    exact ⟨j, hj, of_decide_eq_true h⟩
theorem isF_f {O : Ob} {k i : Int32} {j : Nat} (h : isF O k i = false) (hj : tk O k = some j) : ¬ (0 ≤ i.toInt ∧ i.toInt < (O.2.2.1 j : Int)) := by
  unfold isF at h
  rw [hj] at h
  exact of_decide_eq_false h
set_option maxHeartbeats 4000000 in
set_option maxRecDepth 100000 in
theorem c_X2_get (l : Launch) (D : va_G) (cI cZ cT : ClassId) (h a1 a2 a3 : Nat) (md sz fl : Nat → Int32) (O : Ob) (hrm : rm O md sz fl) (mt wh : Int32) (H0 : Heap) (k i : Int32) : Met l yX2_get wsX2_get ({ frames := 2, cells := 0, slots := 0, locals := 43 }) (pK D cI cZ cT [.ref h, .int k, .int i] (fun H => H = H0 ∧ my D cI cZ h a1 a2 a3 md sz fl mt wh H0)) (vp_Si (fun r => r = gto O k i)) 0 0 (fun _ => False) := by
  refine Met.ofW (cc := cX2_get) (maxL := 3) (ret := (some .int)) (by decide) rfl ?_
  intro p e s m args below meth c s₁ B hml hv
  obtain ⟨rfl, hpic, hKN⟩ := hv
  have hK := hKN.1
  have hx := B.exec
  have hb := B.bytes
  have hr := B.returns
  have hts := atoms_spec (ws := wsX2_get) B.pre
  have hown : s.vm.findClass RX2 = some m.cls := findClass_of_methodNamed B.named
  have hlocks := B.notSynchronized
  obtain ⟨hH, hp⟩ := hpic
  subst hH
  have hl := lv_entry ([.ref h, .int k, .int i]) (n := 3) (Nat.le_of_ble_eq_true rfl)
  rw [lg_entry_eq]
  generalize (lg_sl ([.ref h, .int k, .int i]) ++ List.replicate (3 - (lg_sl ([.ref h, .int k, .int i])).length) Slot.unset).toArray = ls at hl ⊢
  have hl : lv_has ls 3 [(0, .ref h), (1, .int k), (2, .int i)] := hl
  refine lv_aload_n hx hb dX2_get_0 rfl (lv_at hl 0 rfl) ?_
  refine lv_iload_n hx hb dX2_get_1 rfl (lv_at hl 1 rfl) ?_
  refine lv_iload_n hx hb dX2_get_2 rfl (lv_at hl 2 rfl) ?_
  refine pq_b (va_runV (As := [.int k, .int i]) (rest := []) ⟨hx, hb, hml, hown, hts⟩ (c_X2_isField l D cI cZ cT h a1 a2 a3 md sz fl O hrm mt wh _ k i) (cwV 2 hts gX2_get_X2_isField rfl rfl rfl (by decide +kernel) ⟨Nat.le_of_ble_eq_true rfl, Nat.le_of_ble_eq_true rfl⟩) (pre_v ⟨rfl, hp⟩ hKN (recv hKN hp.1 rfl)) rfl rfl hl.1 rfl (lv_room (Nat.le_of_ble_eq_true rfl)) dX2_get_3 ⟨Nat.zero_le _, Nat.zero_le _⟩) (fun b3 => ?_) (fun b3 => ?_)
  · refine lv_if_eq (tgt := 23) hx hb dX2_get_6 (by decide) (fun _ => ?_) (fun c9 => absurd (by decide) c9)
    refine lv_iconst (v := 0) hx hb dX2_get_23 (by decide) ?_
    refine W.iret (v := 0) hx hb hr (fun t ht hW => ⟨_, rfl, ?_, ht⟩) (fun _ h => absurd h List.not_mem_nil) dX2_get_24
    unfold gto
    split
    · rfl
    · rename_i j hj
      unfold fl1
      rw [if_neg (isF_f b3 hj)]
  · obtain ⟨j3, e3, y3, z3⟩ := isF_t b3
    obtain ⟨n3, l3, u3, m3⟩ := tk_num e3
    obtain ⟨s3, t3, w3, x3⟩ := rm_of hrm l3 u3 m3
    have hix := ix_k (i := i) n3 u3 y3 (by omega)
    refine lv_if_eq (tgt := 23) hx hb dX2_get_6 (by decide) (fun c9 => absurd c9 (by decide)) (fun _ => ?_)
    refine lv_aload_n hx hb dX2_get_9 rfl (lv_at hl 0 rfl) ?_
    refine va_get (D := D) (ci := 2) (v := .ref a3) (C := RX2) (T := TX2) (N := 5) hx hb hts (iw_X2_get_X2) hown hK (one hp.1) 0 rfl rfl 2 (by decide) (hts (.fieldLink RX2 17 "MethodBookModel" "fields" "[I") (by decide +kernel)) (fun _ h9 => h9) rfl dX2_get_10 ?_
    refine lv_bipush (v := 40) hx hb dX2_get_13 (by decide) ?_
    refine lv_iload_n hx hb dX2_get_15 rfl (lv_at hl 1 rfl) ?_
    refine lv_imul hx hb dX2_get_16 ?_
    refine lv_iload_n hx hb dX2_get_17 rfl (lv_at hl 2 rfl) ?_
    refine lv_iadd hx hb dX2_get_18 ?_
    refine va_iald hx hb hK (one hp.2.2.2.1) 0 0 rfl rfl (vp_in_iff.mpr ⟨by rw [hix]; omega, by rw [hix]; omega⟩) dX2_get_19 ?_
    refine lv_goto (tgt := 24) hx hb dX2_get_20 (by decide) ?_
    refine W.iret (v := (fl ((40 * k) + i).toNatClampNeg)) hx hb hr (fun t ht hW => ⟨_, rfl, ?_, ht⟩) (fun _ h => absurd h List.not_mem_nil) dX2_get_24
    unfold gto
    rw [e3]
    show _ = fl1 _ _ _
    unfold fl1
    rw [if_pos ⟨y3, z3⟩, i_cl, hix, i_cl, show (40 * (j3 : Int) + i.toInt).toNat = 40 * j3 + i.toInt.toNat by omega]
    exact x3 _ (by omega)
set_option maxHeartbeats 4000000 in
set_option maxRecDepth 100000 in
theorem c_X2_method (l : Launch) (D : va_G) (cI cZ cT : ClassId) (h a1 a2 a3 : Nat) (md sz fl : Nat → Int32) (O : Ob) (hrm : rm O md sz fl) (mt wh : Int32) (H0 : Heap) : Met l yX2_method wsX2_method ({ frames := 0, cells := 0, slots := 0, locals := 0 }) (pK D cI cZ cT [.ref h] (fun H => H = H0 ∧ my D cI cZ h a1 a2 a3 md sz fl mt wh H0)) (vp_Si (fun r => r = mt)) 0 0 (fun _ => False) := by
  refine Met.ofW (cc := cX2_method) (maxL := 1) (ret := (some .int)) (by decide) rfl ?_
  intro p e s m args below meth c s₁ B hml hv
  obtain ⟨rfl, hpic, hKN⟩ := hv
  have hK := hKN.1
  have hx := B.exec
  have hb := B.bytes
  have hr := B.returns
  have hts := atoms_spec (ws := wsX2_method) B.pre
  have hown : s.vm.findClass RX2 = some m.cls := findClass_of_methodNamed B.named
  have hlocks := B.notSynchronized
  obtain ⟨hH, hp⟩ := hpic
  subst hH
  have hl := lv_entry ([.ref h]) (n := 1) (Nat.le_of_ble_eq_true rfl)
  rw [lg_entry_eq]
  generalize (lg_sl ([.ref h]) ++ List.replicate (1 - (lg_sl ([.ref h])).length) Slot.unset).toArray = ls at hl ⊢
  have hl : lv_has ls 1 [(0, .ref h)] := hl
  refine lv_aload_n hx hb dX2_method_0 rfl (lv_at hl 0 rfl) ?_
  refine va_get (D := D) (ci := 2) (v := .int mt) (C := RX2) (T := TX2) (N := 5) hx hb hts (iw_X2_method_X2) hown hK (one hp.1) 0 rfl rfl 3 (by decide) (hts (.fieldLink RX2 39 "MethodBookModel" "method" "I") (by decide +kernel)) (fun _ h9 => h9) rfl dX2_method_1 ?_
  refine W.iret (v := mt) hx hb hr (fun t ht hW => ⟨_, rfl, ?_, ht⟩) (fun _ h => absurd h List.not_mem_nil) dX2_method_4
  rfl
set_option maxHeartbeats 4000000 in
set_option maxRecDepth 100000 in
theorem c_X2_where (l : Launch) (D : va_G) (cI cZ cT : ClassId) (h a1 a2 a3 : Nat) (md sz fl : Nat → Int32) (O : Ob) (hrm : rm O md sz fl) (mt wh : Int32) (H0 : Heap) : Met l yX2_where wsX2_where ({ frames := 0, cells := 0, slots := 0, locals := 0 }) (pK D cI cZ cT [.ref h] (fun H => H = H0 ∧ my D cI cZ h a1 a2 a3 md sz fl mt wh H0)) (vp_Si (fun r => r = wh)) 0 0 (fun _ => False) := by
  refine Met.ofW (cc := cX2_where) (maxL := 1) (ret := (some .int)) (by decide) rfl ?_
  intro p e s m args below meth c s₁ B hml hv
  obtain ⟨rfl, hpic, hKN⟩ := hv
  have hK := hKN.1
  have hx := B.exec
  have hb := B.bytes
  have hr := B.returns
  have hts := atoms_spec (ws := wsX2_where) B.pre
  have hown : s.vm.findClass RX2 = some m.cls := findClass_of_methodNamed B.named
  have hlocks := B.notSynchronized
  obtain ⟨hH, hp⟩ := hpic
  subst hH
  have hl := lv_entry ([.ref h]) (n := 1) (Nat.le_of_ble_eq_true rfl)
  rw [lg_entry_eq]
  generalize (lg_sl ([.ref h]) ++ List.replicate (1 - (lg_sl ([.ref h])).length) Slot.unset).toArray = ls at hl ⊢
  have hl : lv_has ls 1 [(0, .ref h)] := hl
  refine lv_aload_n hx hb dX2_where_0 rfl (lv_at hl 0 rfl) ?_
  refine va_get (D := D) (ci := 2) (v := .int wh) (C := RX2) (T := TX2) (N := 5) hx hb hts (iw_X2_where_X2) hown hK (one hp.1) 0 rfl rfl 4 (by decide) (hts (.fieldLink RX2 43 "MethodBookModel" "where" "I") (by decide +kernel)) (fun _ h9 => h9) rfl dX2_where_1 ?_
  refine W.iret (v := wh) hx hb hr (fun t ht hW => ⟨_, rfl, ?_, ht⟩) (fun _ h => absurd h List.not_mem_nil) dX2_where_4
  rfl
