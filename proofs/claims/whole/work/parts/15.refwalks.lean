theorem iw_X2_users_X2 : ∀ w ∈ wsX20, w ∈ wsX2_users := by decide +kernel
theorem iw_X2_senders_X2 : ∀ w ∈ wsX20, w ∈ wsX2_senders := by decide +kernel
theorem iw_X2_become_X2 : ∀ w ∈ wsX20, w ∈ wsX2_become := by decide +kernel
theorem iw_X2_make_X2 : ∀ w ∈ wsX20, w ∈ wsX2_make := by decide +kernel
theorem iw_X2_init_X2 : ∀ w ∈ wsX20, w ∈ wsX2_init := by decide +kernel
theorem two_int {k : Nat} (h : k ≤ 400) : (2 * nI k).toInt = 2 * k := by
  rw [i_mul2 _ (by rw [nI_toInt (by omega)]; omega) (by rw [nI_toInt (by omega)]; omega), nI_toInt (by omega)]
theorem two_yes {O : Ob} {k : Nat} (h1 : 1 ≤ k) (h2 : k ≤ 400) (hm : O.1 k = true) : tv O (2 * nI k) = some k := by
  rw [tv_even (by rw [two_int h2]; omega), two_int h2, show (2 * (k : Int)) / 2 = k by omega]
  exact tz_in (by omega) (by omega) hm
theorem two_no {O : Ob} {k : Nat} (h2 : k ≤ 400) (hm : O.1 k = false) : tv O (2 * nI k) = none := by
  rw [tv_even (by rw [two_int h2]; omega), two_int h2, show (2 * (k : Int)) / 2 = k by omega]
  exact tz_un hm
theorem two_small {O : Ob} {k : Nat} (h1 : 1 ≤ k) (h2 : k ≤ 400) (h : (fof O (2 * nI k) : Int) ≤ 1) : (O.1 k && decide (2 ≤ O.2.2.1 k)) = false := by
  cases hm : O.1 k with
  | false => rfl
  | true =>
    unfold fof at h
    rw [two_yes h1 h2 hm] at h
    have h : (O.2.2.1 k : Int) ≤ 1 := h
    rw [decide_eq_false (by omega)]
    rfl
theorem two_big {O : Ob} {k : Nat} (h1 : 1 ≤ k) (h2 : k ≤ 400) (h : ¬ (fof O (2 * nI k) : Int) ≤ 1) : O.1 k = true ∧ 2 ≤ O.2.2.1 k ∧ tv O (2 * nI k) = some k := by
  cases hm : O.1 k with
  | false =>
    unfold fof at h
    rw [two_no h2 hm] at h
    exact absurd (show ((0 : Nat) : Int) ≤ 1 by decide) h
  | true =>
    have e := two_yes h1 h2 hm
    unfold fof at h
    rw [e] at h
    have h : ¬ (O.2.2.1 k : Int) ≤ 1 := h
    exact ⟨rfl, by omega, e⟩
theorem cnt_f0 {p : Nat → Bool} {k : Nat} (h : p (k + 1) = false) : cnt p k + 0 = cnt p (k + 1) := by
  rw [cnt, h]
  rfl
set_option maxHeartbeats 4000000 in
set_option maxRecDepth 100000 in
theorem c_X2_users (l : Launch) (D : va_G) (cI cZ cT : ClassId) (h a1 a2 a3 : Nat) (md sz fl : Nat → Int32) (O : Ob) (hrm : rm O md sz fl) (mt wh : Int32) (H0 : Heap) (d : Int32) : Met l yX2_users wsX2_users ({ frames := 2, cells := 0, slots := 0, locals := 42 }) (pK D cI cZ cT [.ref h, .int d] (fun H => H = H0 ∧ my D cI cZ h a1 a2 a3 md sz fl mt wh H0)) (vp_Si (fun r => r = usr O d)) 0 0 (fun _ => False) := by
  refine Met.ofW (cc := cX2_users) (maxL := 4) (ret := (some .int)) (by decide) rfl ?_
  intro p e s m args below meth c s₁ B hml hv
  obtain ⟨rfl, hpic, hKN⟩ := hv
  have hK := hKN.1
  have hx := B.exec
  have hb := B.bytes
  have hr := B.returns
  have hts := atoms_spec (ws := wsX2_users) B.pre
  have hown : s.vm.findClass RX2 = some m.cls := findClass_of_methodNamed B.named
  have hlocks := B.notSynchronized
  obtain ⟨hH, hp⟩ := hpic
  subst hH
  have hl := lv_entry ([.ref h, .int d]) (n := 4) (Nat.le_of_ble_eq_true rfl)
  rw [lg_entry_eq]
  generalize (lg_sl ([.ref h, .int d]) ++ List.replicate (4 - (lg_sl ([.ref h, .int d])).length) Slot.unset).toArray = ls at hl ⊢
  have hl : lv_has ls 4 [(0, .ref h), (1, .int d)] := hl
  refine lv_iconst (v := 0) hx hb dX2_users_0 (by decide) ?_
  refine lv_istore_n (lv' := [(2, .int 0), (0, .ref h), (1, .int d)]) hx hb dX2_users_1 rfl hl (by decide) rfl (fun ls hl => ?_)
  refine lv_iconst (v := 1) hx hb dX2_users_2 (by decide) ?_
  refine lv_istore_n (lv' := [(3, .int 1), (2, .int 0), (0, .ref h), (1, .int d)]) hx hb dX2_users_3 rfl hl (by decide) rfl (fun ls hl => ?_)
  rcases htd : tk O d with _ | jd
  · refine lv_iload_n hx hb dX2_users_4 rfl (lv_at hl 0 rfl) ?_
    refine lv_sipush (v := 401) hx hb dX2_users_5 (by decide) ?_
    refine lv_icmp_ge (tgt := 58) hx hb dX2_users_8 (by decide) (fun c9 => absurd c9 (by decide)) (fun _ => ?_)
    refine lv_aload_n hx hb dX2_users_11 rfl (lv_at hl 2 rfl) ?_
    refine lv_iload_n hx hb dX2_users_12 rfl (lv_at hl 3 rfl) ?_
    refine pq_i (va_runV (As := [.int d]) (rest := []) ⟨hx, hb, hml, hown, hts⟩ (c_X2_isMade l D cI cZ cT h a1 a2 a3 md sz fl O hrm mt wh _ d) (cwV 1 hts gX2_users_X2_isMade rfl rfl rfl (by decide +kernel) ⟨Nat.le_of_ble_eq_true rfl, Nat.le_of_ble_eq_true rfl⟩) (pre_v ⟨rfl, hp⟩ hKN (recv hKN hp.1 rfl)) rfl rfl hl.1 rfl (lv_room (Nat.le_of_ble_eq_true rfl)) dX2_users_13 ⟨Nat.zero_le _, Nat.zero_le _⟩) (fun r13 hr13 => ?_)
    have f13 : r13 = 0 := by rw [hr13, htd]; rfl
    subst f13
    refine lv_if_eq (tgt := 58) hx hb dX2_users_16 (by decide) (fun _ => ?_) (fun c9 => absurd (by decide) c9)
    refine lv_iload_n hx hb dX2_users_58 rfl (lv_at hl 1 rfl) ?_
    refine W.iret (v := 0) hx hb hr (fun t ht hW => ⟨_, rfl, ?_, ht⟩) (fun _ h => absurd h List.not_mem_nil) dX2_users_59
    unfold usr
    rw [htd]
  · have loop : ∀ (q k : Nat), k + q = 400 → ∀ ls : Array Slot, lv_has ls 4 [(0, .ref h), (1, .int d), (2, .int (cnt (upr O (2 * d)) k)), (3, .int (nI (k + 1)))] → W p l e (headSpec wsX2_users ({ frames := 2, cells := 0, slots := 0, locals := 42 })).room s m ([.ref h, .int d] : List Value).toArray below meth c s.heap [] 0 0 (MQ below (vp_Si (fun r => r = usr O d)) ([.ref h, .int d] : List Value).toArray s 0 0 (fun _ => False)) (F0 m 4 ls []) := by
      intro q
      induction q with
      | zero =>
        intro k h1 ls hl
        refine lv_iload_n hx hb dX2_users_4 rfl (lv_at hl 3 rfl) ?_
        refine lv_sipush (v := 401) hx hb dX2_users_5 (by decide) ?_
        refine lv_icmp_ge (tgt := 58) hx hb dX2_users_8 (by decide) (fun _ => ?_) (fun c9 => absurd (by rw [i_le, i_401, nI_toInt (by omega)]; omega) c9)
        refine lv_iload_n hx hb dX2_users_58 rfl (lv_at hl 2 rfl) ?_
        refine W.iret (v := (cnt (upr O (2 * d)) k)) hx hb hr (fun t ht hW => ⟨_, rfl, ?_, ht⟩) (fun _ h => absurd h List.not_mem_nil) dX2_users_59
        have e9 : k = 400 := by omega
        subst e9
        unfold usr
        rw [htd]
      | succ q ih =>
        intro k h1 ls hl
        refine lv_iload_n hx hb dX2_users_4 rfl (lv_at hl 3 rfl) ?_
        refine lv_sipush (v := 401) hx hb dX2_users_5 (by decide) ?_
        refine lv_icmp_ge (tgt := 58) hx hb dX2_users_8 (by decide) (fun c9 => absurd c9 (by rw [i_le, i_401, nI_toInt (by omega)]; omega)) (fun _ => ?_)
        refine lv_aload_n hx hb dX2_users_11 rfl (lv_at hl 0 rfl) ?_
        refine lv_iload_n hx hb dX2_users_12 rfl (lv_at hl 1 rfl) ?_
        refine pq_i (va_runV (As := [.int d]) (rest := []) ⟨hx, hb, hml, hown, hts⟩ (c_X2_isMade l D cI cZ cT h a1 a2 a3 md sz fl O hrm mt wh _ d) (cwV 1 hts gX2_users_X2_isMade rfl rfl rfl (by decide +kernel) ⟨Nat.le_of_ble_eq_true rfl, Nat.le_of_ble_eq_true rfl⟩) (pre_v ⟨rfl, hp⟩ hKN (recv hKN hp.1 rfl)) rfl rfl hl.1 rfl (lv_room (Nat.le_of_ble_eq_true rfl)) dX2_users_13 ⟨Nat.zero_le _, Nat.zero_le _⟩) (fun r13 hr13 => ?_)
        have f13 : r13 = 1 := by rw [hr13, htd]; rfl
        subst f13
        refine lv_if_eq (tgt := 58) hx hb dX2_users_16 (by decide) (fun c9 => absurd c9 (by decide)) (fun _ => ?_)
        refine lv_iload_n hx hb dX2_users_19 rfl (lv_at hl 2 rfl) ?_
        refine lv_aload_n hx hb dX2_users_20 rfl (lv_at hl 0 rfl) ?_
        refine lv_iconst (v := 2) hx hb dX2_users_21 (by decide) ?_
        refine lv_iload_n hx hb dX2_users_22 rfl (lv_at hl 3 rfl) ?_
        refine lv_imul hx hb dX2_users_23 ?_
        refine pq_i (va_runV (As := [.int (2 * (nI (k + 1)))]) (rest := [.int (cnt (upr O (2 * d)) k)]) ⟨hx, hb, hml, hown, hts⟩ (c_X2_fieldsOf l D cI cZ cT h a1 a2 a3 md sz fl O hrm mt wh _ (2 * nI (k + 1))) (cwV 1 hts gX2_users_X2_fieldsOf rfl rfl rfl (by decide +kernel) ⟨Nat.le_of_ble_eq_true rfl, Nat.le_of_ble_eq_true rfl⟩) (pre_v ⟨rfl, hp⟩ hKN (recv hKN hp.1 rfl)) rfl rfl hl.1 rfl (lv_room (Nat.le_of_ble_eq_true rfl)) dX2_users_24 ⟨Nat.zero_le _, Nat.zero_le _⟩) (fun r24 hr24 => ?_)
        refine lv_iconst (v := 1) hx hb dX2_users_27 (by decide) ?_
        refine lv_icmp_le (tgt := 49) hx hb dX2_users_28 (by decide) (fun c28 => ?_) (fun c28 => ?_)
        · simp only [i_lt, i_le, i_0, i_1, i_2, i_4, i_40, i_100, i_400, i_401] at c28
          rw [hr24, nI_toInt (by have := fof_le hrm (2 * nI (k + 1)); omega)] at c28
          have small := two_small (O := O) (k := k + 1) (by omega) (by omega) c28
          refine lv_iconst (v := 0) hx hb dX2_users_49 (by decide) ?_
          refine lv_iadd hx hb dX2_users_50 ?_
          refine lv_istore_n (lv' := [(2, .int ((cnt (upr O (2 * d)) k) + 0)), (0, .ref h), (1, .int d), (3, .int (nI (k + 1)))]) hx hb dX2_users_51 rfl hl (by decide) rfl (fun ls hl => ?_)
          have ec : cnt (upr O (2 * d)) k + 0 = cnt (upr O (2 * d)) (k + 1) := cnt_f0 (by unfold upr; rw [small]; rfl)
          rw [ec] at hl
          refine lv_iinc (v := ((nI (k + 1)) + 1)) (lv' := [(3, .int ((nI (k + 1)) + 1)), (2, .int (cnt (upr O (2 * d)) (k + 1))), (0, .ref h), (1, .int d)]) hx hb dX2_users_52 hl (k := 3) rfl rfl (by decide) rfl (fun ls hl => ?_)
          refine lv_goto (tgt := 4) hx hb dX2_users_55 (by decide) ?_
          rw [← nI_succ] at hl
          exact ih (k + 1) (by omega) _ (lv_sub hl [2, 3, 1, 0] rfl)
        · simp only [i_lt, i_le, i_0, i_1, i_2, i_4, i_40, i_100, i_400, i_401] at c28
          rw [hr24, nI_toInt (by have := fof_le hrm (2 * nI (k + 1)); omega)] at c28
          obtain ⟨mk, q2, t2⟩ := two_big (O := O) (k := k + 1) (by omega) (by omega) c28
          refine lv_aload_n hx hb dX2_users_31 rfl (lv_at hl 0 rfl) ?_
          refine lv_iconst (v := 2) hx hb dX2_users_32 (by decide) ?_
          refine lv_iload_n hx hb dX2_users_33 rfl (lv_at hl 3 rfl) ?_
          refine lv_imul hx hb dX2_users_34 ?_
          refine lv_iconst (v := 1) hx hb dX2_users_35 (by decide) ?_
          refine pq_i (va_runV (As := [.int (2 * (nI (k + 1))), .int 1]) (rest := [.int (cnt (upr O (2 * d)) k)]) ⟨hx, hb, hml, hown, hts⟩ (c_X2_field l D cI cZ cT h a1 a2 a3 md sz fl O hrm mt wh _ (2 * nI (k + 1)) (k + 1) 1 t2 (by omega)) (cwV 2 hts gX2_users_X2_field rfl rfl rfl (by decide +kernel) ⟨Nat.le_of_ble_eq_true rfl, Nat.le_of_ble_eq_true rfl⟩) (pre_v ⟨rfl, hp⟩ hKN (recv hKN hp.1 rfl)) rfl rfl hl.1 rfl (lv_room (Nat.le_of_ble_eq_true rfl)) dX2_users_36 ⟨Nat.zero_le _, Nat.zero_le _⟩) (fun r36 hr36 => ?_)
          subst hr36
          refine lv_iconst (v := 2) hx hb dX2_users_39 (by decide) ?_
          refine lv_iload_n hx hb dX2_users_40 rfl (lv_at hl 1 rfl) ?_
          refine lv_imul hx hb dX2_users_41 ?_
          refine lv_icmp_ne (tgt := 49) hx hb dX2_users_42 (by decide) (fun c42 => ?_) (fun c42 => ?_)
          · refine lv_iconst (v := 0) hx hb dX2_users_49 (by decide) ?_
            refine lv_iadd hx hb dX2_users_50 ?_
            refine lv_istore_n (lv' := [(2, .int ((cnt (upr O (2 * d)) k) + 0)), (0, .ref h), (1, .int d), (3, .int (nI (k + 1)))]) hx hb dX2_users_51 rfl hl (by decide) rfl (fun ls hl => ?_)
            have ec : cnt (upr O (2 * d)) k + 0 = cnt (upr O (2 * d)) (k + 1) := cnt_f0 (by unfold upr; rw [decide_eq_false c42, Bool.and_false])
            rw [ec] at hl
            refine lv_iinc (v := ((nI (k + 1)) + 1)) (lv' := [(3, .int ((nI (k + 1)) + 1)), (2, .int (cnt (upr O (2 * d)) (k + 1))), (0, .ref h), (1, .int d)]) hx hb dX2_users_52 hl (k := 3) rfl rfl (by decide) rfl (fun ls hl => ?_)
            refine lv_goto (tgt := 4) hx hb dX2_users_55 (by decide) ?_
            rw [← nI_succ] at hl
            exact ih (k + 1) (by omega) _ (lv_sub hl [2, 3, 1, 0] rfl)
          · refine lv_iconst (v := 1) hx hb dX2_users_45 (by decide) ?_
            refine lv_goto (tgt := 50) hx hb dX2_users_46 (by decide) ?_
            refine lv_iadd hx hb dX2_users_50 ?_
            refine lv_istore_n (lv' := [(2, .int ((cnt (upr O (2 * d)) k) + 1)), (0, .ref h), (1, .int d), (3, .int (nI (k + 1)))]) hx hb dX2_users_51 rfl hl (by decide) rfl (fun ls hl => ?_)
            have ec : cnt (upr O (2 * d)) k + 1 = cnt (upr O (2 * d)) (k + 1) := cnt_t (by unfold upr; rw [mk, decide_eq_true q2, decide_eq_true c42]; rfl)
            rw [ec] at hl
            refine lv_iinc (v := ((nI (k + 1)) + 1)) (lv' := [(3, .int ((nI (k + 1)) + 1)), (2, .int (cnt (upr O (2 * d)) (k + 1))), (0, .ref h), (1, .int d)]) hx hb dX2_users_52 hl (k := 3) rfl rfl (by decide) rfl (fun ls hl => ?_)
            refine lv_goto (tgt := 4) hx hb dX2_users_55 (by decide) ?_
            rw [← nI_succ] at hl
            exact ih (k + 1) (by omega) _ (lv_sub hl [2, 3, 1, 0] rfl)
    exact loop 400 0 (by omega) _ (lv_sub hl [2, 3, 1, 0] rfl)
set_option maxHeartbeats 4000000 in
set_option maxRecDepth 100000 in
theorem c_X2_senders (l : Launch) (D : va_G) (cI cZ cT : ClassId) (h a1 a2 a3 : Nat) (md sz fl : Nat → Int32) (O : Ob) (hrm : rm O md sz fl) (mt wh : Int32) (H0 : Heap) (sel : Int32) : Met l yX2_senders wsX2_senders ({ frames := 3, cells := 0, slots := 0, locals := 66 }) (pK D cI cZ cT [.ref h, .int sel] (fun H => H = H0 ∧ my D cI cZ h a1 a2 a3 md sz fl mt wh H0)) (vp_Si (fun r => r = sdr O sel)) 0 0 (fun _ => False) := by
  refine Met.ofW (cc := cX2_senders) (maxL := 4) (ret := (some .int)) (by decide) rfl ?_
  intro p e s m args below meth c s₁ B hml hv
  obtain ⟨rfl, hpic, hKN⟩ := hv
  have hK := hKN.1
  have hx := B.exec
  have hb := B.bytes
  have hr := B.returns
  have hts := atoms_spec (ws := wsX2_senders) B.pre
  have hown : s.vm.findClass RX2 = some m.cls := findClass_of_methodNamed B.named
  have hlocks := B.notSynchronized
  obtain ⟨hH, hp⟩ := hpic
  subst hH
  have hl := lv_entry ([.ref h, .int sel]) (n := 4) (Nat.le_of_ble_eq_true rfl)
  rw [lg_entry_eq]
  generalize (lg_sl ([.ref h, .int sel]) ++ List.replicate (4 - (lg_sl ([.ref h, .int sel])).length) Slot.unset).toArray = ls at hl ⊢
  have hl : lv_has ls 4 [(0, .ref h), (1, .int sel)] := hl
  refine lv_iconst (v := 0) hx hb dX2_senders_0 (by decide) ?_
  refine lv_istore_n (lv' := [(2, .int 0), (0, .ref h), (1, .int sel)]) hx hb dX2_senders_1 rfl hl (by decide) rfl (fun ls hl => ?_)
  refine lv_iconst (v := 1) hx hb dX2_senders_2 (by decide) ?_
  refine lv_istore_n (lv' := [(3, .int 1), (2, .int 0), (0, .ref h), (1, .int sel)]) hx hb dX2_senders_3 rfl hl (by decide) rfl (fun ls hl => ?_)
  have loop : ∀ (q k : Nat), k + q = 400 → ∀ ls : Array Slot, lv_has ls 4 [(0, .ref h), (1, .int sel), (2, .int (cnt (spr O sel) k)), (3, .int (nI (k + 1)))] → W p l e (headSpec wsX2_senders ({ frames := 3, cells := 0, slots := 0, locals := 66 })).room s m ([.ref h, .int sel] : List Value).toArray below meth c s.heap [] 0 0 (MQ below (vp_Si (fun r => r = sdr O sel)) ([.ref h, .int sel] : List Value).toArray s 0 0 (fun _ => False)) (F0 m 4 ls []) := by
    intro q
    induction q with
    | zero =>
      intro k h1 ls hl
      refine lv_iload_n hx hb dX2_senders_4 rfl (lv_at hl 3 rfl) ?_
      refine lv_sipush (v := 401) hx hb dX2_senders_5 (by decide) ?_
      refine lv_icmp_ge (tgt := 53) hx hb dX2_senders_8 (by decide) (fun _ => ?_) (fun c9 => absurd (by rw [i_le, i_401, nI_toInt (by omega)]; omega) c9)
      refine lv_iload_n hx hb dX2_senders_53 rfl (lv_at hl 2 rfl) ?_
      refine W.iret (v := (cnt (spr O sel) k)) hx hb hr (fun t ht hW => ⟨_, rfl, ?_, ht⟩) (fun _ h => absurd h List.not_mem_nil) dX2_senders_54
      have e9 : k = 400 := by omega
      subst e9
      rfl
    | succ q ih =>
      intro k h1 ls hl
      refine lv_iload_n hx hb dX2_senders_4 rfl (lv_at hl 3 rfl) ?_
      refine lv_sipush (v := 401) hx hb dX2_senders_5 (by decide) ?_
      refine lv_icmp_ge (tgt := 53) hx hb dX2_senders_8 (by decide) (fun c9 => absurd c9 (by rw [i_le, i_401, nI_toInt (by omega)]; omega)) (fun _ => ?_)
      refine lv_iload_n hx hb dX2_senders_11 rfl (lv_at hl 2 rfl) ?_
      refine lv_aload_n hx hb dX2_senders_12 rfl (lv_at hl 0 rfl) ?_
      refine lv_iconst (v := 2) hx hb dX2_senders_13 (by decide) ?_
      refine lv_iload_n hx hb dX2_senders_14 rfl (lv_at hl 3 rfl) ?_
      refine lv_imul hx hb dX2_senders_15 ?_
      refine pq_i (va_runV (As := [.int (2 * (nI (k + 1)))]) (rest := [.int (cnt (spr O sel) k)]) ⟨hx, hb, hml, hown, hts⟩ (c_X2_fieldsOf l D cI cZ cT h a1 a2 a3 md sz fl O hrm mt wh _ (2 * nI (k + 1))) (cwV 1 hts gX2_senders_X2_fieldsOf rfl rfl rfl (by decide +kernel) ⟨Nat.le_of_ble_eq_true rfl, Nat.le_of_ble_eq_true rfl⟩) (pre_v ⟨rfl, hp⟩ hKN (recv hKN hp.1 rfl)) rfl rfl hl.1 rfl (lv_room (Nat.le_of_ble_eq_true rfl)) dX2_senders_16 ⟨Nat.zero_le _, Nat.zero_le _⟩) (fun r16 hr16 => ?_)
      refine lv_iconst (v := 1) hx hb dX2_senders_19 (by decide) ?_
      refine lv_icmp_le (tgt := 44) hx hb dX2_senders_20 (by decide) (fun c20 => ?_) (fun c20 => ?_)
      · simp only [i_lt, i_le, i_0, i_1, i_2, i_4, i_40, i_100, i_400, i_401] at c20
        rw [hr16, nI_toInt (by have := fof_le hrm (2 * nI (k + 1)); omega)] at c20
        have small := two_small (O := O) (k := k + 1) (by omega) (by omega) c20
        refine lv_iconst (v := 0) hx hb dX2_senders_44 (by decide) ?_
        refine lv_iadd hx hb dX2_senders_45 ?_
        refine lv_istore_n (lv' := [(2, .int ((cnt (spr O sel) k) + 0)), (0, .ref h), (1, .int sel), (3, .int (nI (k + 1)))]) hx hb dX2_senders_46 rfl hl (by decide) rfl (fun ls hl => ?_)
        have ec : cnt (spr O sel) k + 0 = cnt (spr O sel) (k + 1) := cnt_f0 (by unfold spr; rw [small]; rfl)
        rw [ec] at hl
        refine lv_iinc (v := ((nI (k + 1)) + 1)) (lv' := [(3, .int ((nI (k + 1)) + 1)), (2, .int (cnt (spr O sel) (k + 1))), (0, .ref h), (1, .int sel)]) hx hb dX2_senders_47 hl (k := 3) rfl rfl (by decide) rfl (fun ls hl => ?_)
        refine lv_goto (tgt := 4) hx hb dX2_senders_50 (by decide) ?_
        rw [← nI_succ] at hl
        exact ih (k + 1) (by omega) _ (lv_sub hl [2, 3, 1, 0] rfl)
      · simp only [i_lt, i_le, i_0, i_1, i_2, i_4, i_40, i_100, i_400, i_401] at c20
        rw [hr16, nI_toInt (by have := fof_le hrm (2 * nI (k + 1)); omega)] at c20
        obtain ⟨mk, q2, t2⟩ := two_big (O := O) (k := k + 1) (by omega) (by omega) c20
        refine lv_aload_n hx hb dX2_senders_23 rfl (lv_at hl 0 rfl) ?_
        refine lv_aload_n hx hb dX2_senders_24 rfl (lv_at hl 0 rfl) ?_
        refine lv_iconst (v := 2) hx hb dX2_senders_25 (by decide) ?_
        refine lv_iload_n hx hb dX2_senders_26 rfl (lv_at hl 3 rfl) ?_
        refine lv_imul hx hb dX2_senders_27 ?_
        refine lv_iconst (v := 1) hx hb dX2_senders_28 (by decide) ?_
        refine pq_i (va_runV (As := [.int (2 * (nI (k + 1))), .int 1]) (rest := [.ref h, .int (cnt (spr O sel) k)]) ⟨hx, hb, hml, hown, hts⟩ (c_X2_field l D cI cZ cT h a1 a2 a3 md sz fl O hrm mt wh _ (2 * nI (k + 1)) (k + 1) 1 t2 (by omega)) (cwV 2 hts gX2_senders_X2_field rfl rfl rfl (by decide +kernel) ⟨Nat.le_of_ble_eq_true rfl, Nat.le_of_ble_eq_true rfl⟩) (pre_v ⟨rfl, hp⟩ hKN (recv hKN hp.1 rfl)) rfl rfl hl.1 rfl (lv_room (Nat.le_of_ble_eq_true rfl)) dX2_senders_29 ⟨Nat.zero_le _, Nat.zero_le _⟩) (fun r29 hr29 => ?_)
        subst hr29
        refine lv_iload_n hx hb dX2_senders_32 rfl (lv_at hl 1 rfl) ?_
        refine pq_i (va_runV (As := [.int (O.2.2.2 (k + 1) 1), .int sel]) (rest := [.int (cnt (spr O sel) k)]) ⟨hx, hb, hml, hown, hts⟩ (c_X2_placeOf l D cI cZ cT h a1 a2 a3 md sz fl O hrm mt wh _ (O.2.2.2 (k + 1) 1) sel) (cwV 2 hts gX2_senders_X2_placeOf rfl rfl rfl (by decide +kernel) ⟨Nat.le_of_ble_eq_true rfl, Nat.le_of_ble_eq_true rfl⟩) (pre_v ⟨rfl, hp⟩ hKN (recv hKN hp.1 rfl)) rfl rfl hl.1 rfl (lv_room (Nat.le_of_ble_eq_true rfl)) dX2_senders_33 ⟨Nat.zero_le _, Nat.zero_le _⟩) (fun r33 hr33 => ?_)
        rcases hpm : pmd O (O.2.2.2 (k + 1) 1) sel with _ | i33
        · rw [hpm] at hr33
          subst hr33
          have hf := fnd_pmd hpm
          show W p l e _ s m _ below meth c _ _ _ _ _ (F0 m 36 ls [.int (-1), .int (cnt (spr O sel) k)])
          refine lv_iconst (v := (-1)) hx hb dX2_senders_36 (by decide) ?_
          refine lv_icmp_eq (tgt := 44) hx hb dX2_senders_37 (by decide) (fun _ => ?_) (fun c9 => absurd (by decide) c9)
          refine lv_iconst (v := 0) hx hb dX2_senders_44 (by decide) ?_
          refine lv_iadd hx hb dX2_senders_45 ?_
          refine lv_istore_n (lv' := [(2, .int ((cnt (spr O sel) k) + 0)), (0, .ref h), (1, .int sel), (3, .int (nI (k + 1)))]) hx hb dX2_senders_46 rfl hl (by decide) rfl (fun ls hl => ?_)
          have ec : cnt (spr O sel) k + 0 = cnt (spr O sel) (k + 1) := cnt_f0 (by unfold spr; rw [hf, Option.isSome_none, Bool.and_false])
          rw [ec] at hl
          refine lv_iinc (v := ((nI (k + 1)) + 1)) (lv' := [(3, .int ((nI (k + 1)) + 1)), (2, .int (cnt (spr O sel) (k + 1))), (0, .ref h), (1, .int sel)]) hx hb dX2_senders_47 hl (k := 3) rfl rfl (by decide) rfl (fun ls hl => ?_)
          refine lv_goto (tgt := 4) hx hb dX2_senders_50 (by decide) ?_
          rw [← nI_succ] at hl
          exact ih (k + 1) (by omega) _ (lv_sub hl [2, 3, 1, 0] rfl)
        · rw [hpm] at hr33
          subst hr33
          obtain ⟨e33, f33, g33, l33⟩ := pmd_some hpm
          obtain ⟨-, -, p33, q33, w33⟩ := tv_half f33
          have u33 := (rm_of hrm p33 q33 w33).2.1
          have hf := fnd_some f33 g33
          show W p l e _ s m _ below meth c _ _ _ _ _ (F0 m 36 ls [.int (nI i33), .int (cnt (spr O sel) k)])
          refine lv_iconst (v := (-1)) hx hb dX2_senders_36 (by decide) ?_
          refine lv_icmp_eq (tgt := 44) hx hb dX2_senders_37 (by decide) (fun c9 => absurd c9 (nI_nm1 (by omega))) (fun _ => ?_)
          refine lv_iconst (v := 1) hx hb dX2_senders_40 (by decide) ?_
          refine lv_goto (tgt := 45) hx hb dX2_senders_41 (by decide) ?_
          refine lv_iadd hx hb dX2_senders_45 ?_
          refine lv_istore_n (lv' := [(2, .int ((cnt (spr O sel) k) + 1)), (0, .ref h), (1, .int sel), (3, .int (nI (k + 1)))]) hx hb dX2_senders_46 rfl hl (by decide) rfl (fun ls hl => ?_)
          have ec : cnt (spr O sel) k + 1 = cnt (spr O sel) (k + 1) := cnt_t (by unfold spr; rw [mk, decide_eq_true q2, hf]; rfl)
          rw [ec] at hl
          refine lv_iinc (v := ((nI (k + 1)) + 1)) (lv' := [(3, .int ((nI (k + 1)) + 1)), (2, .int (cnt (spr O sel) (k + 1))), (0, .ref h), (1, .int sel)]) hx hb dX2_senders_47 hl (k := 3) rfl rfl (by decide) rfl (fun ls hl => ?_)
          refine lv_goto (tgt := 4) hx hb dX2_senders_50 (by decide) ?_
          rw [← nI_succ] at hl
          exact ih (k + 1) (by omega) _ (lv_sub hl [2, 3, 1, 0] rfl)
  exact loop 400 0 (by omega) _ (lv_sub hl [2, 3, 1, 0] rfl)
