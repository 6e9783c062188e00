theorem rm_make {O : Ob} {md sz fl fl2 : Nat → Int32} (hrm : rm O md sz fl) {K nn : Nat} {b : Bool} {X : Int32} (h1 : 1 ≤ K) (h2 : K ≤ 400) (hn : nn ≤ 40) (hX : X = if b = true then nI nn else -1) (hz : ∀ j, j < 40 → fl2 (40 * K + j) = 0) (hs : ∀ q : Nat, (q < 40 * K ∨ 40 * K + 40 ≤ q) → fl2 q = fl q) : rm (va_up O.1 K true, va_up O.2.1 K b, va_up O.2.2.1 K (if b = true then nn else 0), va_up O.2.2.2 K (fun _ => 0)) (upd md K 1) (upd sz K X) fl2 := by
  intro k hk1 hk2
  by_cases hk : k = K
  · subst hk
    refine Or.inr ⟨va_up_self _ _ _, pk_us, ?_, ?_, ?_, ?_⟩
    · rw [pk_us, hX]
      show _ = (if va_up O.2.1 k b k = true then nI (va_up O.2.2.1 k _ k) else -1)
      rw [va_up_self, va_up_self]
      cases b <;> rfl
    · show va_up O.2.2.1 k _ k ≤ 40
      rw [va_up_self]
      split <;> omega
    · show va_up O.2.1 k b k = false → va_up O.2.2.1 k _ k = 0
      rw [va_up_self, va_up_self]
      intro hb
      rw [hb]
      rfl
    · show ∀ i, i < va_up O.2.2.1 k _ k → fl2 (40 * k + i) = va_up O.2.2.2 k (fun _ => 0) k i
      rw [va_up_self, va_up_self]
      intro i hi
      exact hz i (by split at hi <;> omega)
  · have e : ∀ {α : Type} (f : Nat → α) (v : α), va_up f K v k = f k := fun f v => va_up_ne _ _ hk
    show (va_up O.1 K true k = false ∧ upd md K 1 k = 0) ∨ (va_up O.1 K true k = true ∧ upd md K 1 k = 1 ∧ upd sz K X k = (if va_up O.2.1 K b k = true then nI (va_up O.2.2.1 K _ k) else -1) ∧ va_up O.2.2.1 K _ k ≤ 40 ∧ (va_up O.2.1 K b k = false → va_up O.2.2.1 K _ k = 0) ∧ ∀ i, i < va_up O.2.2.1 K _ k → fl2 (40 * k + i) = va_up O.2.2.2 K (fun _ => 0) k i)
    rw [e, e, e, e, pk_un hk, pk_un hk]
    rcases hrm k hk1 hk2 with hm | ⟨m1, m2, m3, m4, m5, m6⟩
    · exact Or.inl hm
    · exact Or.inr ⟨m1, m2, m3, m4, m5, fun i hi => by rw [hs _ (by omega)]; exact m6 i hi⟩
set_option maxHeartbeats 4000000 in
set_option maxRecDepth 100000 in
theorem c_X2_make (l : Launch) (D : va_G) (cI cZ cT : ClassId) (h a1 a2 a3 : Nat) (md sz fl : Nat → Int32) (O : Ob) (hrm : rm O md sz fl) (mt wh : Int32) (H0 : Heap) (k n : Int32) (b : Bool) : Met l yX2_make wsX2_make ({ frames := 0, cells := 0, slots := 0, locals := 0 }) (pK D cI cZ cT [.ref h, .int k, .int n, .int (b2i b)] (fun H => H = H0 ∧ my D cI cZ h a1 a2 a3 md sz fl mt wh H0)) (pm_Qi (fun r H1 => (¬ mkok k n ∧ r = 0 ∧ my D cI cZ h a1 a2 a3 md sz fl mt wh H1) ∨ (mkok k n ∧ r = 1 ∧ ∃ (md' sz' fl' : Nat → Int32), rm (mko O k n b) md' sz' fl' ∧ my D cI cZ h a1 a2 a3 md' sz' fl' mt wh H1)) (fun q : Nat => q = a1 ∨ q = a2 ∨ q = a3)) 0 0 (fun q : Nat => q = a1 ∨ q = a2 ∨ q = a3) := by
  refine Met.ofW (cc := cX2_make) (maxL := 5) (ret := (some .boolean)) (by decide) rfl ?_
  intro p e s m args below meth c s₁ B hml hv
  obtain ⟨rfl, hpic, hKN⟩ := hv
  have hK := hKN.1
  have hx := B.exec
  have hb := B.bytes
  have hr := B.returns
  have hts := atoms_spec (ws := wsX2_make) B.pre
  have hown : s.vm.findClass RX2 = some m.cls := findClass_of_methodNamed B.named
  have hlocks := B.notSynchronized
  obtain ⟨hH, hp⟩ := hpic
  subst hH
  have hS : va_S (fun q : Nat => q = a1 ∨ q = a2 ∨ q = a3) s.heap s.heap [] := va_S.rf
  have hl := lv_entry ([.ref h, .int k, .int n, .int (b2i b)]) (n := 5) (Nat.le_of_ble_eq_true rfl)
  rw [lg_entry_eq]
  generalize (lg_sl ([.ref h, .int k, .int n, .int (b2i b)]) ++ List.replicate (5 - (lg_sl ([.ref h, .int k, .int n, .int (b2i b)])).length) Slot.unset).toArray = ls at hl ⊢
  have hl : lv_has ls 5 [(0, .ref h), (1, .int k), (2, .int n), (3, .int (b2i b))] := hl
  refine lv_iload_n hx hb dX2_make_0 rfl (lv_at hl 1 rfl) ?_
  refine lv_iconst (v := 1) hx hb dX2_make_1 (by decide) ?_
  refine lv_icmp_lt (tgt := 22) hx hb dX2_make_2 (by decide) (fun c2 => ?_) (fun c2 => ?_)
  · simp only [i_lt, i_le, i_0, i_1, i_2, i_4, i_40, i_100, i_400, i_401] at c2
    refine lv_iconst (v := 0) hx hb dX2_make_22 (by decide) ?_
    refine W.zret (v := 0) (ty := .boolean) hx hb hr rfl (fun t ht hW => ⟨⟨_, rfl, ?_⟩, hS.F ht⟩) hS.2.2 dX2_make_23
    rw [ht]
    exact Or.inl ⟨fun h9 => by obtain ⟨h5, h6, h7, h8⟩ := h9; omega, rfl, hp⟩
  · simp only [i_lt, i_le, i_0, i_1, i_2, i_4, i_40, i_100, i_400, i_401] at c2
    refine lv_iload_n hx hb dX2_make_5 rfl (lv_at hl 1 rfl) ?_
    refine lv_sipush (v := 401) hx hb dX2_make_6 (by decide) ?_
    refine lv_icmp_ge (tgt := 22) hx hb dX2_make_9 (by decide) (fun c9 => ?_) (fun c9 => ?_)
    · simp only [i_lt, i_le, i_0, i_1, i_2, i_4, i_40, i_100, i_400, i_401] at c9
      refine lv_iconst (v := 0) hx hb dX2_make_22 (by decide) ?_
      refine W.zret (v := 0) (ty := .boolean) hx hb hr rfl (fun t ht hW => ⟨⟨_, rfl, ?_⟩, hS.F ht⟩) hS.2.2 dX2_make_23
      rw [ht]
      exact Or.inl ⟨fun h9 => by obtain ⟨h5, h6, h7, h8⟩ := h9; omega, rfl, hp⟩
    · simp only [i_lt, i_le, i_0, i_1, i_2, i_4, i_40, i_100, i_400, i_401] at c9
      refine lv_iload_n hx hb dX2_make_12 rfl (lv_at hl 2 rfl) ?_
      refine lv_if_lt (tgt := 22) hx hb dX2_make_13 (by decide) (fun c13 => ?_) (fun c13 => ?_)
      · simp only [i_lt, i_le, i_0, i_1, i_2, i_4, i_40, i_100, i_400, i_401] at c13
        refine lv_iconst (v := 0) hx hb dX2_make_22 (by decide) ?_
        refine W.zret (v := 0) (ty := .boolean) hx hb hr rfl (fun t ht hW => ⟨⟨_, rfl, ?_⟩, hS.F ht⟩) hS.2.2 dX2_make_23
        rw [ht]
        exact Or.inl ⟨fun h9 => by obtain ⟨h5, h6, h7, h8⟩ := h9; omega, rfl, hp⟩
      · simp only [i_lt, i_le, i_0, i_1, i_2, i_4, i_40, i_100, i_400, i_401] at c13
        refine lv_iload_n hx hb dX2_make_16 rfl (lv_at hl 2 rfl) ?_
        refine lv_bipush (v := 40) hx hb dX2_make_17 (by decide) ?_
        refine lv_icmp_le (tgt := 24) hx hb dX2_make_19 (by decide) (fun c19 => ?_) (fun c19 => ?_)
        · simp only [i_lt, i_le, i_0, i_1, i_2, i_4, i_40, i_100, i_400, i_401] at c19
          refine lv_aload_n hx hb dX2_make_24 rfl (lv_at hl 0 rfl) ?_
          refine va_get (D := D) (ci := 2) (v := .ref a1) (C := RX2) (T := TX2) (N := 5) hx hb hts (iw_X2_make_X2) hown hK (one hp.1) 0 rfl rfl 0 (by decide) (hts (.fieldLink RX2 7 "MethodBookModel" "made" "[Z") (by decide +kernel)) (fun _ h9 => h9) rfl dX2_make_25 ?_
          refine lv_iload_n hx hb dX2_make_28 rfl (lv_at hl 1 rfl) ?_
          refine lv_iconst (v := 1) hx hb dX2_make_29 (by decide) ?_
          refine pw_zast hx hb hK hS (Or.inl rfl) 1 hp.2.1 rfl rfl (vp_in_iff.mpr ⟨by omega, by omega⟩) dX2_make_30 (fun H locs hf hz ho hS => ?_)
          replace hp := my_1 hp hf ho
          refine lv_aload_n hx hb dX2_make_31 rfl (lv_at hl 0 rfl) ?_
          refine va_get (D := D) (ci := 2) (v := .ref a2) (C := RX2) (T := TX2) (N := 5) hx hb hts (iw_X2_make_X2) hown hK (one hp.1) 0 rfl rfl 1 (by decide) (hts (.fieldLink RX2 13 "MethodBookModel" "sizes" "[I") (by decide +kernel)) (fun _ h9 => h9) rfl dX2_make_32 ?_
          refine lv_iload_n hx hb dX2_make_35 rfl (lv_at hl 1 rfl) ?_
          refine lv_iload_n hx hb dX2_make_36 rfl (lv_at hl 3 rfl) ?_
          refine lv_if_eq (tgt := 44) hx hb dX2_make_37 (by decide) (fun c37 => ?_) (fun c37 => ?_)
          · refine lv_iconst (v := (-1)) hx hb dX2_make_44 (by decide) ?_
            refine pw_iast hx hb hK hS (Or.inr (Or.inl rfl)) 0 hp.2.2.1 rfl (vp_in_iff.mpr ⟨by omega, by omega⟩) dX2_make_45 (fun H locs hf hz ho hS => ?_)
            replace hp := my_2 hp hf ho
            refine lv_iconst (v := 0) hx hb dX2_make_46 (by decide) ?_
            refine lv_istore (lv' := [(4, .int 0), (0, .ref h), (1, .int k), (2, .int n), (3, .int (b2i b))]) hx hb dX2_make_47 hl (by decide) rfl (fun ls hl => ?_)
            have loop : ∀ (q i : Nat), i + q = 40 → ∀ (H : Heap) (locs : List Loc) (fl2 : Nat → Int32), (∀ j, j < i → fl2 (40 * k.toNatClampNeg + j) = 0) → (∀ x : Nat, (x < 40 * k.toNatClampNeg ∨ 40 * k.toNatClampNeg + 40 ≤ x) → fl2 x = fl x) → my D cI cZ h a1 a2 a3 (upd md k.toNatClampNeg 1) (upd sz k.toNatClampNeg (-1)) fl2 mt wh H → va_S (fun q : Nat => q = a1 ∨ q = a2 ∨ q = a3) s.heap H locs → ∀ ls : Array Slot, lv_has ls 5 [(0, .ref h), (1, .int k), (2, .int n), (3, .int (b2i b)), (4, .int (nI i))] → W p l e (headSpec wsX2_make ({ frames := 0, cells := 0, slots := 0, locals := 0 })).room s m ([.ref h, .int k, .int n, .int (b2i b)] : List Value).toArray below meth c H locs 0 0 (MQ below (pm_Qi (fun r H1 => (¬ mkok k n ∧ r = 0 ∧ my D cI cZ h a1 a2 a3 md sz fl mt wh H1) ∨ (mkok k n ∧ r = 1 ∧ ∃ (md' sz' fl' : Nat → Int32), rm (mko O k n b) md' sz' fl' ∧ my D cI cZ h a1 a2 a3 md' sz' fl' mt wh H1)) (fun q : Nat => q = a1 ∨ q = a2 ∨ q = a3)) ([.ref h, .int k, .int n, .int (b2i b)] : List Value).toArray s 0 0 (fun q : Nat => q = a1 ∨ q = a2 ∨ q = a3)) (F0 m 49 ls []) := by
              intro q
              induction q with
              | zero =>
                intro i h1 H locs fl2 hz2 hs2 hp hS ls hl
                refine lv_iload hx hb dX2_make_49 (lv_at hl 4 rfl) ?_
                refine lv_bipush (v := 40) hx hb dX2_make_51 (by decide) ?_
                refine lv_icmp_ge (tgt := 75) hx hb dX2_make_53 (by decide) (fun _ => ?_) (fun c9 => absurd (by rw [i_le, i_40, nI_toInt (by omega)]; omega) c9)
                refine lv_iconst (v := 1) hx hb dX2_make_75 (by decide) ?_
                refine W.zret (v := 1) (ty := .boolean) hx hb hr rfl (fun t ht hW => ⟨⟨_, rfl, ?_⟩, hS.F ht⟩) hS.2.2 dX2_make_76
                rw [ht]
                have e9 : i = 40 := by omega
                subst e9
                have eb := b2i_z c37
                subst eb
                refine Or.inr ⟨⟨by omega, by omega, by omega, by omega⟩, rfl, _, _, fl2, ?_, hp⟩
                exact rm_make (nn := n.toNatClampNeg) hrm (by rw [i_cl]; omega) (by rw [i_cl]; omega) (by rw [i_cl]; omega) (rfl) hz2 hs2
              | succ q ih =>
                intro i h1 H locs fl2 hz2 hs2 hp hS ls hl
                have hix := ix_k (k := k) (i := nI i) (j := k.toNatClampNeg) (by rw [i_cl]; omega) (by rw [i_cl]; omega) (by rw [nI_toInt (by omega)]; omega) (by rw [nI_toInt (by omega)]; omega)
                rw [nI_toInt (by omega)] at hix
                have hkc : (k.toNatClampNeg : Int) = k.toInt := by rw [i_cl]; omega
                refine lv_iload hx hb dX2_make_49 (lv_at hl 4 rfl) ?_
                refine lv_bipush (v := 40) hx hb dX2_make_51 (by decide) ?_
                refine lv_icmp_ge (tgt := 75) hx hb dX2_make_53 (by decide) (fun c9 => absurd c9 (by rw [i_le, i_40, nI_toInt (by omega)]; omega)) (fun _ => ?_)
                refine lv_aload_n hx hb dX2_make_56 rfl (lv_at hl 0 rfl) ?_
                refine va_get (D := D) (ci := 2) (v := .ref a3) (C := RX2) (T := TX2) (N := 5) hx hb hts (iw_X2_make_X2) hown hK (one hp.1) 0 rfl rfl 2 (by decide) (hts (.fieldLink RX2 17 "MethodBookModel" "fields" "[I") (by decide +kernel)) (fun _ h9 => h9) rfl dX2_make_57 ?_
                refine lv_bipush (v := 40) hx hb dX2_make_60 (by decide) ?_
                refine lv_iload_n hx hb dX2_make_62 rfl (lv_at hl 1 rfl) ?_
                refine lv_imul hx hb dX2_make_63 ?_
                refine lv_iload hx hb dX2_make_64 (lv_at hl 4 rfl) ?_
                refine lv_iadd hx hb dX2_make_66 ?_
                refine lv_iconst (v := 0) hx hb dX2_make_67 (by decide) ?_
                refine pw_iast hx hb hK hS (Or.inr (Or.inr rfl)) 0 hp.2.2.2.1 rfl (vp_in_iff.mpr ⟨by rw [hix]; omega, by rw [hix]; omega⟩) dX2_make_68 (fun H locs hf hz ho hS => ?_)
                replace hp := my_3 hp hf ho
                have hin : (40 * k + nI i).toNatClampNeg = 40 * k.toNatClampNeg + i := by rw [i_cl, hix]; omega
                rw [hin] at hp
                replace hz2 : ∀ j, j < i + 1 → upd fl2 (40 * k.toNatClampNeg + i) 0 (40 * k.toNatClampNeg + j) = 0 := fun j hj => by
                  by_cases hji : j = i
                  · rw [hji, pk_us]
                  · rw [pk_un (by omega)]
                    exact hz2 j (by omega)
                replace hs2 : ∀ x : Nat, (x < 40 * k.toNatClampNeg ∨ 40 * k.toNatClampNeg + 40 ≤ x) → upd fl2 (40 * k.toNatClampNeg + i) 0 x = fl x := fun x hx9 => by
                  rw [pk_un (by omega)]
                  exact hs2 x hx9
                refine lv_iinc (v := ((nI i) + 1)) (lv' := [(4, .int ((nI i) + 1)), (0, .ref h), (1, .int k), (2, .int n), (3, .int (b2i b))]) hx hb dX2_make_69 hl (k := 4) rfl rfl (by decide) rfl (fun ls hl => ?_)
                refine lv_goto (tgt := 49) hx hb dX2_make_72 (by decide) ?_
                rw [← nI_succ] at hl
                exact ih (i + 1) (by omega) _ _ _ hz2 hs2 hp hS _ (lv_sub hl [1, 2, 3, 4, 0] rfl)
            exact loop 40 0 (by omega) _ _ fl (fun j hj => absurd hj (Nat.not_lt_zero j)) (fun _ _ => rfl) hp hS _ (lv_sub hl [1, 2, 3, 4, 0] rfl)
          · refine lv_iload_n hx hb dX2_make_40 rfl (lv_at hl 2 rfl) ?_
            refine lv_goto (tgt := 45) hx hb dX2_make_41 (by decide) ?_
            refine pw_iast hx hb hK hS (Or.inr (Or.inl rfl)) 0 hp.2.2.1 rfl (vp_in_iff.mpr ⟨by omega, by omega⟩) dX2_make_45 (fun H locs hf hz ho hS => ?_)
            replace hp := my_2 hp hf ho
            refine lv_iconst (v := 0) hx hb dX2_make_46 (by decide) ?_
            refine lv_istore (lv' := [(4, .int 0), (0, .ref h), (1, .int k), (2, .int n), (3, .int (b2i b))]) hx hb dX2_make_47 hl (by decide) rfl (fun ls hl => ?_)
            have loop : ∀ (q i : Nat), i + q = 40 → ∀ (H : Heap) (locs : List Loc) (fl2 : Nat → Int32), (∀ j, j < i → fl2 (40 * k.toNatClampNeg + j) = 0) → (∀ x : Nat, (x < 40 * k.toNatClampNeg ∨ 40 * k.toNatClampNeg + 40 ≤ x) → fl2 x = fl x) → my D cI cZ h a1 a2 a3 (upd md k.toNatClampNeg 1) (upd sz k.toNatClampNeg n) fl2 mt wh H → va_S (fun q : Nat => q = a1 ∨ q = a2 ∨ q = a3) s.heap H locs → ∀ ls : Array Slot, lv_has ls 5 [(0, .ref h), (1, .int k), (2, .int n), (3, .int (b2i b)), (4, .int (nI i))] → W p l e (headSpec wsX2_make ({ frames := 0, cells := 0, slots := 0, locals := 0 })).room s m ([.ref h, .int k, .int n, .int (b2i b)] : List Value).toArray below meth c H locs 0 0 (MQ below (pm_Qi (fun r H1 => (¬ mkok k n ∧ r = 0 ∧ my D cI cZ h a1 a2 a3 md sz fl mt wh H1) ∨ (mkok k n ∧ r = 1 ∧ ∃ (md' sz' fl' : Nat → Int32), rm (mko O k n b) md' sz' fl' ∧ my D cI cZ h a1 a2 a3 md' sz' fl' mt wh H1)) (fun q : Nat => q = a1 ∨ q = a2 ∨ q = a3)) ([.ref h, .int k, .int n, .int (b2i b)] : List Value).toArray s 0 0 (fun q : Nat => q = a1 ∨ q = a2 ∨ q = a3)) (F0 m 49 ls []) := by
              intro q
              induction q with
              | zero =>
                intro i h1 H locs fl2 hz2 hs2 hp hS ls hl
                refine lv_iload hx hb dX2_make_49 (lv_at hl 4 rfl) ?_
                refine lv_bipush (v := 40) hx hb dX2_make_51 (by decide) ?_
                refine lv_icmp_ge (tgt := 75) hx hb dX2_make_53 (by decide) (fun _ => ?_) (fun c9 => absurd (by rw [i_le, i_40, nI_toInt (by omega)]; omega) c9)
                refine lv_iconst (v := 1) hx hb dX2_make_75 (by decide) ?_
                refine W.zret (v := 1) (ty := .boolean) hx hb hr rfl (fun t ht hW => ⟨⟨_, rfl, ?_⟩, hS.F ht⟩) hS.2.2 dX2_make_76
                rw [ht]
                have e9 : i = 40 := by omega
                subst e9
                have eb := b2i_n c37
                subst eb
                refine Or.inr ⟨⟨by omega, by omega, by omega, by omega⟩, rfl, _, _, fl2, ?_, hp⟩
                exact rm_make (nn := n.toNatClampNeg) hrm (by rw [i_cl]; omega) (by rw [i_cl]; omega) (by rw [i_cl]; omega) (by rw [if_pos rfl, i_cl]; exact Int32.toInt_inj.mp (by rw [nI_toInt (by omega)]; omega)) hz2 hs2
              | succ q ih =>
                intro i h1 H locs fl2 hz2 hs2 hp hS ls hl
                have hix := ix_k (k := k) (i := nI i) (j := k.toNatClampNeg) (by rw [i_cl]; omega) (by rw [i_cl]; omega) (by rw [nI_toInt (by omega)]; omega) (by rw [nI_toInt (by omega)]; omega)
                rw [nI_toInt (by omega)] at hix
                have hkc : (k.toNatClampNeg : Int) = k.toInt := by rw [i_cl]; omega
                refine lv_iload hx hb dX2_make_49 (lv_at hl 4 rfl) ?_
                refine lv_bipush (v := 40) hx hb dX2_make_51 (by decide) ?_
                refine lv_icmp_ge (tgt := 75) hx hb dX2_make_53 (by decide) (fun c9 => absurd c9 (by rw [i_le, i_40, nI_toInt (by omega)]; omega)) (fun _ => ?_)
                refine lv_aload_n hx hb dX2_make_56 rfl (lv_at hl 0 rfl) ?_
                refine va_get (D := D) (ci := 2) (v := .ref a3) (C := RX2) (T := TX2) (N := 5) hx hb hts (iw_X2_make_X2) hown hK (one hp.1) 0 rfl rfl 2 (by decide) (hts (.fieldLink RX2 17 "MethodBookModel" "fields" "[I") (by decide +kernel)) (fun _ h9 => h9) rfl dX2_make_57 ?_
                refine lv_bipush (v := 40) hx hb dX2_make_60 (by decide) ?_
                refine lv_iload_n hx hb dX2_make_62 rfl (lv_at hl 1 rfl) ?_
                refine lv_imul hx hb dX2_make_63 ?_
                refine lv_iload hx hb dX2_make_64 (lv_at hl 4 rfl) ?_
                refine lv_iadd hx hb dX2_make_66 ?_
                refine lv_iconst (v := 0) hx hb dX2_make_67 (by decide) ?_
                refine pw_iast hx hb hK hS (Or.inr (Or.inr rfl)) 0 hp.2.2.2.1 rfl (vp_in_iff.mpr ⟨by rw [hix]; omega, by rw [hix]; omega⟩) dX2_make_68 (fun H locs hf hz ho hS => ?_)
                replace hp := my_3 hp hf ho
                have hin : (40 * k + nI i).toNatClampNeg = 40 * k.toNatClampNeg + i := by rw [i_cl, hix]; omega
                rw [hin] at hp
                replace hz2 : ∀ j, j < i + 1 → upd fl2 (40 * k.toNatClampNeg + i) 0 (40 * k.toNatClampNeg + j) = 0 := fun j hj => by
                  by_cases hji : j = i
                  · rw [hji, pk_us]
                  · rw [pk_un (by omega)]
                    exact hz2 j (by omega)
                replace hs2 : ∀ x : Nat, (x < 40 * k.toNatClampNeg ∨ 40 * k.toNatClampNeg + 40 ≤ x) → upd fl2 (40 * k.toNatClampNeg + i) 0 x = fl x := fun x hx9 => by
                  rw [pk_un (by omega)]
                  exact hs2 x hx9
                refine lv_iinc (v := ((nI i) + 1)) (lv' := [(4, .int ((nI i) + 1)), (0, .ref h), (1, .int k), (2, .int n), (3, .int (b2i b))]) hx hb dX2_make_69 hl (k := 4) rfl rfl (by decide) rfl (fun ls hl => ?_)
                refine lv_goto (tgt := 49) hx hb dX2_make_72 (by decide) ?_
                rw [← nI_succ] at hl
                exact ih (i + 1) (by omega) _ _ _ hz2 hs2 hp hS _ (lv_sub hl [1, 2, 3, 4, 0] rfl)
            exact loop 40 0 (by omega) _ _ fl (fun j hj => absurd hj (Nat.not_lt_zero j)) (fun _ _ => rfl) hp hS _ (lv_sub hl [1, 2, 3, 4, 0] rfl)
        · simp only [i_lt, i_le, i_0, i_1, i_2, i_4, i_40, i_100, i_400, i_401] at c19
          refine lv_iconst (v := 0) hx hb dX2_make_22 (by decide) ?_
          refine W.zret (v := 0) (ty := .boolean) hx hb hr rfl (fun t ht hW => ⟨⟨_, rfl, ?_⟩, hS.F ht⟩) hS.2.2 dX2_make_23
          rw [ht]
          exact Or.inl ⟨fun h9 => by obtain ⟨h5, h6, h7, h8⟩ := h9; omega, rfl, hp⟩
set_option maxHeartbeats 4000000 in
set_option maxRecDepth 100000 in
theorem c_X2_init (l : Launch) (D : va_G) (h : Nat) (H0 : Heap) : Met l yX2_init wsX2_init ({ frames := 1, cells := 3, slots := 16842, locals := 12 }) (va_Pc [.ref h] (fun U => (U.heap = H0 ∧ va_at D vwCl (h, .inr (2, [.null, .null, .null, .int 0, .int 0])) H0) ∧ va_K D vwCl [] U)) (pm_Qv (fun t => ∃ (a1 a2 a3 : Nat) (cI cZ : ClassId), my D cI cZ h a1 a2 a3 (fun _ => 0) (fun _ => 0) (fun _ => 0) 0 0 t.heap ∧ (H0.size ≤ a1 ∧ H0.size ≤ a2 ∧ H0.size ≤ a3) ∧ va_K D vwCl [(cI, .int), (cZ, .boolean)] t) (fun q : Nat => q = h ∨ H0.size ≤ q)) 3 16842 (fun q : Nat => q = h ∨ H0.size ≤ q) := by
  refine Met.ofW (cc := cX2_init) (maxL := 1) (ret := none) (by decide) rfl ?_
  intro p e s m args below meth c s₁ B hml hv
  obtain ⟨rfl, hpic, hK⟩ := hv
  have hx := B.exec
  have hb := B.bytes
  have hr := B.returns
  have hts := atoms_spec (ws := wsX2_init) B.pre
  have hown : s.vm.findClass RX2 = some m.cls := findClass_of_methodNamed B.named
  have hlocks := B.notSynchronized
  have hin : meth.name = "<init>" := (name_of_methodNamed B.named B.method).1
  obtain ⟨hH, hp0⟩ := hpic
  subst hH
  have hA : ∀ q : Nat, s.heap.size ≤ q → (fun q : Nat => q = h ∨ s.heap.size ≤ q) q := fun q h => Or.inr h
  have hS : va_S (fun q : Nat => q = h ∨ s.heap.size ≤ q) s.heap s.heap [] := va_S.rf
  have hP : va_P D vwCl [(h, .inr (2, [.null, .null, .null, .int 0, .int 0]))] s.heap := one hp0
  have hD : va_D (fun q : Nat => q = h ∨ s.heap.size ≤ q) [(h, .inr (2, [.null, .null, .null, .int 0, .int 0]))] := d_one (Or.inl rfl)
  have hl := lv_entry ([.ref h]) (n := 1) (Nat.le_of_ble_eq_true rfl)
  rw [lg_entry_eq]
  generalize (lg_sl ([.ref h]) ++ List.replicate (1 - (lg_sl ([.ref h])).length) Slot.unset).toArray = ls at hl ⊢
  have hl : lv_has ls 1 [(0, .ref h)] := hl
  refine lv_aload_n hx hb dX2_init_0 rfl (lv_at hl 0 rfl) ?_
  refine W.objInit hx hb hown (hts (.methodLink RX2 1 objectInit) (by decide +kernel)) (hts (.instanceMethod objectInit) (by decide +kernel)) (hts (.code objectInit ⟨#[0xb1]⟩ 1 none) (by decide +kernel)) rfl (by rw [hml]; exact hl.1) rfl dX2_init_1 (Nat.le_of_ble_eq_true rfl) (Nat.le_of_ble_eq_true rfl) ?_
  refine W.eq (g2 := F0 m 4 ls []) rfl ?_
  refine lv_aload_n hx hb dX2_init_4 rfl (lv_at hl 0 rfl) ?_
  refine lv_sipush (v := 401) hx hb dX2_init_5 (by decide) ?_
  refine va_newa (atype := .boolean) (N' := 401) (a0 := (401, .inl (fun _ => 0))) hx hb (hts (.arrayClass .boolean) (by decide +kernel)) rfl hK hP hD hS hA (fun cA => rfl) (by decide) rfl (Nat.le_of_ble_eq_true rfl) (Nat.le_of_ble_eq_true rfl) (Nat.le_of_ble_eq_true rfl) dX2_init_8 (fun a1 cZ H hK1 hP hD hS => ?_)
  have hP : va_P D vwCl [(h, .inr (2, [.null, .null, .null, .int 0, .int 0])), (a1, .inl (cZ, 401, .inl (fun _ => 0)))] H := hP
  have hD : va_D (fun q : Nat => q = h ∨ s.heap.size ≤ q) [(h, .inr (2, [.null, .null, .null, .int 0, .int 0])), (a1, .inl (cZ, 401, .inl (fun _ => 0)))] := hD
  refine va_putF (D := D) (ci := 2) (v := .ref a1) (ty := .array .boolean) (C := RX2) (T := TX2) (N := 5) hx hb hts iw_X2_init_X2 tyX2 tyX2_ok nmX2 hown hK1 hP hD hS 0 rfl rfl 0 (by decide) (hts (.fieldLink RX2 7 "MethodBookModel" "made" "[Z") (by decide +kernel)) (fun _ h9 => h9) rfl hin rfl (by decide +kernel) rfl rfl (Nat.le_of_ble_eq_true rfl) dX2_init_10 (fun H locs hP hD hS => ?_)
  have hP : va_P D vwCl [(h, .inr (2, [.ref a1, .null, .null, .int 0, .int 0])), (a1, .inl (cZ, 401, .inl (fun _ => 0)))] H := hP
  have hD : va_D (fun q : Nat => q = h ∨ s.heap.size ≤ q) [(h, .inr (2, [.ref a1, .null, .null, .int 0, .int 0])), (a1, .inl (cZ, 401, .inl (fun _ => 0)))] := hD
  refine lv_aload_n hx hb dX2_init_13 rfl (lv_at hl 0 rfl) ?_
  refine lv_sipush (v := 401) hx hb dX2_init_14 (by decide) ?_
  refine va_newa (atype := .int) (N' := 401) (a0 := (401, .inl (fun _ => 0))) hx hb (hts (.arrayClass .int) (by decide +kernel)) rfl hK1 hP hD hS hA (fun cA => rfl) (by decide) rfl (Nat.le_of_ble_eq_true rfl) (Nat.le_of_ble_eq_true rfl) (Nat.le_of_ble_eq_true rfl) dX2_init_17 (fun a2 cI H hK2 hP hD hS => ?_)
  have hP : va_P D vwCl [(h, .inr (2, [.ref a1, .null, .null, .int 0, .int 0])), (a1, .inl (cZ, 401, .inl (fun _ => 0))), (a2, .inl (cI, 401, .inl (fun _ => 0)))] H := hP
  have hD : va_D (fun q : Nat => q = h ∨ s.heap.size ≤ q) [(h, .inr (2, [.ref a1, .null, .null, .int 0, .int 0])), (a1, .inl (cZ, 401, .inl (fun _ => 0))), (a2, .inl (cI, 401, .inl (fun _ => 0)))] := hD
  refine va_putF (D := D) (ci := 2) (v := .ref a2) (ty := .array .int) (C := RX2) (T := TX2) (N := 5) hx hb hts iw_X2_init_X2 tyX2 tyX2_ok nmX2 hown hK2 hP hD hS 0 rfl rfl 1 (by decide) (hts (.fieldLink RX2 13 "MethodBookModel" "sizes" "[I") (by decide +kernel)) (fun _ h9 => h9) rfl hin rfl (by decide +kernel) rfl rfl (Nat.le_of_ble_eq_true rfl) dX2_init_19 (fun H locs hP hD hS => ?_)
  have hP : va_P D vwCl [(h, .inr (2, [.ref a1, .ref a2, .null, .int 0, .int 0])), (a1, .inl (cZ, 401, .inl (fun _ => 0))), (a2, .inl (cI, 401, .inl (fun _ => 0)))] H := hP
  have hD : va_D (fun q : Nat => q = h ∨ s.heap.size ≤ q) [(h, .inr (2, [.ref a1, .ref a2, .null, .int 0, .int 0])), (a1, .inl (cZ, 401, .inl (fun _ => 0))), (a2, .inl (cI, 401, .inl (fun _ => 0)))] := hD
  refine lv_aload_n hx hb dX2_init_22 rfl (lv_at hl 0 rfl) ?_
  refine lv_sipush (v := 16040) hx hb dX2_init_23 (by decide) ?_
  refine va_newa (atype := .int) (N' := 16040) (a0 := (16040, .inl (fun _ => 0))) hx hb (hts (.arrayClass .int) (by decide +kernel)) rfl hK2 hP hD hS hA (fun cA => rfl) (by decide) rfl (Nat.le_of_ble_eq_true rfl) (Nat.le_of_ble_eq_true rfl) (Nat.le_of_ble_eq_true rfl) dX2_init_26 (fun a3 cJ H hK3 hP hD hS => ?_)
  have hP : va_P D vwCl [(h, .inr (2, [.ref a1, .ref a2, .null, .int 0, .int 0])), (a1, .inl (cZ, 401, .inl (fun _ => 0))), (a2, .inl (cI, 401, .inl (fun _ => 0))), (a3, .inl (cJ, 16040, .inl (fun _ => 0)))] H := hP
  have hD : va_D (fun q : Nat => q = h ∨ s.heap.size ≤ q) [(h, .inr (2, [.ref a1, .ref a2, .null, .int 0, .int 0])), (a1, .inl (cZ, 401, .inl (fun _ => 0))), (a2, .inl (cI, 401, .inl (fun _ => 0))), (a3, .inl (cJ, 16040, .inl (fun _ => 0)))] := hD
  refine va_putF (D := D) (ci := 2) (v := .ref a3) (ty := .array .int) (C := RX2) (T := TX2) (N := 5) hx hb hts iw_X2_init_X2 tyX2 tyX2_ok nmX2 hown hK3 hP hD hS 0 rfl rfl 2 (by decide) (hts (.fieldLink RX2 17 "MethodBookModel" "fields" "[I") (by decide +kernel)) (fun _ h9 => h9) rfl hin rfl (by decide +kernel) rfl rfl (Nat.le_of_ble_eq_true rfl) dX2_init_28 (fun H locs hP hD hS => ?_)
  have hP : va_P D vwCl [(h, .inr (2, [.ref a1, .ref a2, .ref a3, .int 0, .int 0])), (a1, .inl (cZ, 401, .inl (fun _ => 0))), (a2, .inl (cI, 401, .inl (fun _ => 0))), (a3, .inl (cJ, 16040, .inl (fun _ => 0)))] H := hP
  have hD : va_D (fun q : Nat => q = h ∨ s.heap.size ≤ q) [(h, .inr (2, [.ref a1, .ref a2, .ref a3, .int 0, .int 0])), (a1, .inl (cZ, 401, .inl (fun _ => 0))), (a2, .inl (cI, 401, .inl (fun _ => 0))), (a3, .inl (cJ, 16040, .inl (fun _ => 0)))] := hD
  have eI : cJ = cI := by
    have h1 := (hK3.2 1 _ rfl).2
    have h2 := (hK3.2 2 _ rfl).2
    exact Option.some.inj (h2.symm.trans h1)
  subst eI
  have ne : ∀ i j : Nat, ∀ x y : Nat × va_E, [(h, .inr (2, [.ref a1, .ref a2, .ref a3, .int 0, .int 0])), (a1, .inl (cZ, 401, .inl (fun _ => 0))), (a2, .inl (cJ, 401, .inl (fun _ => 0))), (a3, .inl (cJ, 16040, .inl (fun _ => 0)))][i]? = some x → [(h, .inr (2, [.ref a1, .ref a2, .ref a3, .int 0, .int 0])), (a1, .inl (cZ, 401, .inl (fun _ => 0))), (a2, .inl (cJ, 401, .inl (fun _ => 0))), (a3, .inl (cJ, 16040, .inl (fun _ => 0)))][j]? = some y → i ≠ j → x.1 ≠ y.1 := fun i j x y hi hj hij he => hij (hD.1 i j x y hi hj he)
  have n1 : h ≠ a1 := ne 0 1 _ _ rfl rfl (by decide)
  have n2 : h ≠ a2 := ne 0 2 _ _ rfl rfl (by decide)
  have n3 : h ≠ a3 := ne 0 3 _ _ rfl rfl (by decide)
  have n4 : a1 ≠ a2 := ne 1 2 _ _ rfl rfl (by decide)
  have n5 : a1 ≠ a3 := ne 1 3 _ _ rfl rfl (by decide)
  have n6 : a2 ≠ a3 := ne 2 3 _ _ rfl rfl (by decide)
  have z1 : s.heap.size ≤ a1 := (hD.2 1 _ rfl).elim (fun h9 => absurd h9.symm n1) id
  have z2 : s.heap.size ≤ a2 := (hD.2 2 _ rfl).elim (fun h9 => absurd h9.symm n2) id
  have z3 : s.heap.size ≤ a3 := (hD.2 3 _ rfl).elim (fun h9 => absurd h9.symm n3) id
  refine W.widen (k := 3) (n := 16842) (Nat.le_of_ble_eq_true rfl) (Nat.le_of_ble_eq_true rfl) ?_
  exact W.vret hx hb hr (fun t ht hW => ⟨⟨rfl, a1, a2, a3, cJ, cZ, by rw [ht]; exact ⟨hP 0 _ rfl, hP 1 _ rfl, hP 2 _ rfl, hP 3 _ rfl, ⟨n1, n2, n3⟩, ⟨n4, n5, n6⟩⟩, ⟨z1, z2, z3⟩, (va_K.moved hW.alike hK3).sub [1, 0] rfl⟩, hS.F ht⟩) hS.2.2 dX2_init_31
