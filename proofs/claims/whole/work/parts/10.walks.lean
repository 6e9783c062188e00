theorem iw_X1_put_X1 : ∀ w ∈ wsX10, w ∈ wsX1_put := by decide +kernel
theorem iw_X1_put_X0 : ∀ w ∈ wsX00, w ∈ wsX1_put := by decide +kernel
theorem iw_X1_inherits_X1 : ∀ w ∈ wsX10, w ∈ wsX1_inherits := by decide +kernel
theorem iw_X1_inherits_X0 : ∀ w ∈ wsX00, w ∈ wsX1_inherits := by decide +kernel
theorem iw_X1_users_X1 : ∀ w ∈ wsX10, w ∈ wsX1_users := by decide +kernel
theorem iw_X1_users_X0 : ∀ w ∈ wsX00, w ∈ wsX1_users := by decide +kernel
theorem iw_X1_senders_X1 : ∀ w ∈ wsX10, w ∈ wsX1_senders := by decide +kernel
theorem iw_X1_senders_X0 : ∀ w ∈ wsX00, w ∈ wsX1_senders := by decide +kernel
theorem iw_X1_become_X1 : ∀ w ∈ wsX10, w ∈ wsX1_become := by decide +kernel
theorem iw_X1_become_X0 : ∀ w ∈ wsX00, w ∈ wsX1_become := by decide +kernel
theorem nar_b (b : Bool) : narrow .boolean (.int (b2i b)) = .int (b2i b) := by cases b <;> rfl
theorem pto_none {O : Ob} {k i v : Int32} (h : tk O k = none) : pto O k i v = (0, O) := by
  unfold pto
  rw [h]
theorem pto_no {O : Ob} {k i v : Int32} {j : Nat} (h : tk O k = some j) (h2 : ¬ (isV O v = true ∧ 0 ≤ i.toInt ∧ i.toInt < O.2.2.1 j)) : pto O k i v = (0, O) := by
  simp only [pto, h, if_neg h2]
theorem pto_yes {O : Ob} {k i v : Int32} {j : Nat} (h : tk O k = some j) (h2 : isV O v = true ∧ 0 ≤ i.toInt ∧ i.toInt < O.2.2.1 j) : pto O k i v = (1, obf O j (upd (O.2.2.2 j) i.toNatClampNeg v)) := by
  simp only [pto, h, if_pos h2]
theorem obf_self (O : Ob) (j : Nat) : obf O j (O.2.2.2 j) = O := by
  have e : va_up O.2.2.2 j (O.2.2.2 j) = O.2.2.2 := by
    funext k
    by_cases hk : k = j
    · rw [hk, va_up_self]
    · rw [va_up_ne _ _ hk]
  show (O.1, O.2.1, O.2.2.1, va_up O.2.2.2 j (O.2.2.2 j)) = O
  rw [e]
theorem inh_eq {O : Ob} {d x : Int32} {q : Nat} (h : x = d) : inh O d (q + 1) x = true := by
  rw [inh, if_pos h]
theorem inh_none {O : Ob} {d x : Int32} {q : Nat} (h : ¬ x = d) (h2 : cls O x = none) : inh O d (q + 1) x = false := by
  rw [inh, if_neg h, h2]
theorem inh_go {O : Ob} {d x : Int32} {q j : Nat} (h : ¬ x = d) (h2 : cls O x = some j) : inh O d (q + 1) x = inh O d q (O.2.2.2 j 0) := by
  rw [inh, if_neg h, h2]
theorem inhs_go {O : Ob} {c d : Int32} (h : isV O c = true) (h2 : ¬ d = 0) : inhs O c d = inh O d 100 c := by
  unfold inhs
  rw [h, decide_eq_false h2]
  rfl
theorem tk_none {O : Ob} {k : Nat} (h : tk O (nI k) = none) (h1 : 1 ≤ k) (h2 : k ≤ 400) : O.1 k = false := by
  unfold tk tz at h
  rw [nI_toInt (by omega)] at h
  split at h
  · cases h
  · rename_i hc
    cases hm : O.1 k
    · rfl
    · exact absurd ⟨by omega, by omega, hm⟩ hc
theorem tk_some {O : Ob} {k j : Nat} (h : tk O (nI k) = some j) (h2 : k ≤ 400) : j = k ∧ O.1 k = true := by
  obtain ⟨a1, a2, a3, a4⟩ := tz_some h
  rw [nI_toInt (by omega)] at a3
  have e : j = k := a3
  subst e
  exact ⟨rfl, a4⟩
theorem cnt_t {p : Nat → Bool} {k : Nat} (h : p (k + 1) = true) : cnt p k + 1 = cnt p (k + 1) := by
  rw [cnt, h]
  rfl
theorem cnt_f {p : Nat → Bool} {k : Nat} (h : p (k + 1) = false) : cnt p k = cnt p (k + 1) := by
  rw [cnt, h]
  exact (Int32.add_zero _).symm
theorem xo_step {O : Ob} {x y : Int32} {k : Nat} (h : O.1 (k + 1) = true) : obf (xo O x y k) (k + 1) (swf ((xo O x y k).2.2.2 (k + 1)) x y (O.2.2.1 (k + 1))) = xo O x y (k + 1) := by
  have e0 : (xo O x y k).2.2.2 (k + 1) = O.2.2.2 (k + 1) := by
    show (if _ then _ else _) = _
    rw [if_neg (by omega)]
  have e : va_up (xo O x y k).2.2.2 (k + 1) (swf (O.2.2.2 (k + 1)) x y (O.2.2.1 (k + 1))) = (xo O x y (k + 1)).2.2.2 := by
    funext j
    by_cases hj : j = k + 1
    · rw [hj, va_up_self]
      show _ = (if _ then _ else _)
      rw [if_pos ⟨by omega, Nat.le_refl _, h⟩]
    · rw [va_up_ne _ _ hj]
      show (if _ then _ else _) = (if _ then _ else _)
      by_cases hc : 1 ≤ j ∧ j ≤ k ∧ O.1 j = true
      · rw [if_pos hc, if_pos ⟨hc.1, by omega, hc.2.2⟩]
      · rw [if_neg hc, if_neg (fun q => hc ⟨q.1, by omega, q.2.2⟩)]
  rw [e0]
  show (O.1, O.2.1, O.2.2.1, va_up (xo O x y k).2.2.2 (k + 1) _) = (O.1, O.2.1, O.2.2.1, (xo O x y (k + 1)).2.2.2)
  rw [e]
theorem xo_same {O : Ob} {x y : Int32} {k : Nat} (h : O.1 (k + 1) = false) : xo O x y k = xo O x y (k + 1) := by
  have e : (xo O x y k).2.2.2 = (xo O x y (k + 1)).2.2.2 := by
    funext j
    show (if _ then _ else _) = (if _ then _ else _)
    by_cases hc : 1 ≤ j ∧ j ≤ k ∧ O.1 j = true
    · rw [if_pos hc, if_pos ⟨hc.1, by omega, hc.2.2⟩]
    · rw [if_neg hc, if_neg (fun q => hc ⟨q.1, by
        have : j ≠ k + 1 := fun e => by rw [e, h] at q; exact absurd q.2.2 (by decide)
        omega, q.2.2⟩)]
  show (O.1, O.2.1, O.2.2.1, (xo O x y k).2.2.2) = (O.1, O.2.1, O.2.2.1, (xo O x y (k + 1)).2.2.2)
  rw [e]
theorem xo_0 (O : Ob) (x y : Int32) : xo O x y 0 = O := by
  have e : (xo O x y 0).2.2.2 = O.2.2.2 := by
    funext j
    show (if _ then _ else _) = _
    rw [if_neg (by omega)]
  show (O.1, O.2.1, O.2.2.1, (xo O x y 0).2.2.2) = O
  rw [e]
theorem xt_t {O : Ob} {x y : Int32} {k : Nat} (h : O.1 (k + 1) = true) : xt O x y k + xcn ((xo O x y k).2.2.2 (k + 1)) x y (O.2.2.1 (k + 1)) = xt O x y (k + 1) := by
  have e0 : (xo O x y k).2.2.2 (k + 1) = O.2.2.2 (k + 1) := by
    show (if _ then _ else _) = _
    rw [if_neg (by omega)]
  rw [e0, xt, if_pos h]
theorem xt_f {O : Ob} {x y : Int32} {k : Nat} (h : O.1 (k + 1) = false) : xt O x y k = xt O x y (k + 1) := by
  rw [xt, if_neg (by rw [h]; decide)]
  exact (Int32.add_zero _).symm
set_option maxHeartbeats 4000000 in
set_option maxRecDepth 100000 in
theorem c_X1_put (l : Launch) (D : va_G) (cI cZ cT : ClassId) (ρ : Nat → Nat) (h tq : Nat) (th : Nat → Option Nat) (O : Ob) (mt wh : Int32) (H0 : Heap) (k i v : Int32) : Met l yX1_put wsX1_put ({ frames := 3, cells := 0, slots := 0, locals := 63 }) (pK D cI cZ cT [.ref h, .int k, .int i, .int v] (fun H => H = H0 ∧ px D cI cT ρ h tq th O mt wh H0)) (pm_Qi (fun r H1 => r = (pto O k i v).1 ∧ px D cI cT ρ h tq th (pto O k i v).2 mt wh H1) (fun q : Nat => ρ q ≠ 0)) 0 0 (fun q : Nat => ρ q ≠ 0) := by
  refine Met.ofW (cc := cX1_put) (maxL := 5) (ret := (some .boolean)) (by decide) rfl ?_
  intro p e s m args below meth c s₁ B hml hv
  obtain ⟨rfl, hpic, hKN⟩ := hv
  have hK := hKN.1
  have hx := B.exec
  have hb := B.bytes
  have hr := B.returns
  have hts := atoms_spec (ws := wsX1_put) B.pre
  have hown : s.vm.findClass RX1 = some m.cls := findClass_of_methodNamed B.named
  have hlocks := B.notSynchronized
  obtain ⟨hH, hp⟩ := hpic
  subst hH
  have hS : va_S (fun q : Nat => ρ q ≠ 0) s.heap s.heap [] := va_S.rf
  have hl := lv_entry ([.ref h, .int k, .int i, .int v]) (n := 5) (Nat.le_of_ble_eq_true rfl)
  rw [lg_entry_eq]
  generalize (lg_sl ([.ref h, .int k, .int i, .int v]) ++ List.replicate (5 - (lg_sl ([.ref h, .int k, .int i, .int v])).length) Slot.unset).toArray = ls at hl ⊢
  have hl : lv_has ls 5 [(0, .ref h), (1, .int k), (2, .int i), (3, .int v)] := hl
  refine lv_aload_n hx hb dX1_put_0 rfl (lv_at hl 0 rfl) ?_
  refine lv_iload_n hx hb dX1_put_1 rfl (lv_at hl 1 rfl) ?_
  refine pq_q (va_runV (As := [.int k]) (rest := []) ⟨hx, hb, hml, hown, hts⟩ (c_X1_thingOf l D cI cZ cT ρ h tq th O mt wh _ k) (cwV 1 hts gX1_put_X1_thingOf rfl rfl rfl (by decide +kernel) ⟨Nat.le_of_ble_eq_true rfl, Nat.le_of_ble_eq_true rfl⟩) (pre_v ⟨rfl, hp⟩ hKN (recv hKN hp.1 rfl)) rfl rfl hl.1 rfl (lv_room (Nat.le_of_ble_eq_true rfl)) dX1_put_2 ⟨Nat.zero_le _, Nat.zero_le _⟩) (fun h2 => ?_) (fun a2 h2 => ?_)
  · have e2 := tp_none h2
    refine lv_astoreN (lv' := [(4, .null), (0, .ref h), (1, .int k), (2, .int i), (3, .int v)]) hx hb dX1_put_5 hl (by decide) rfl (fun ls hl => ?_)
    refine lv_aloadN hx hb dX1_put_7 (lv_at hl 0 rfl) ?_
    refine lv_ifnullN (tgt := 20) hx hb dX1_put_9 (by decide) ?_
    refine lv_iconst (v := 0) hx hb dX1_put_20 (by decide) ?_
    refine W.zret (v := 0) (ty := .boolean) hx hb hr rfl (fun t ht hW => ⟨⟨_, rfl, ?_⟩, hS.F ht⟩) hS.2.2 dX1_put_21
    rw [ht]
    rw [pto_none e2]
    exact ⟨rfl, hp⟩
  · obtain ⟨j2, f2, e2, x2, y2, z2, l2, u2, m2, t2⟩ := tp_some h2
    refine lv_astore (lv' := [(4, .ref a2), (0, .ref h), (1, .int k), (2, .int i), (3, .int v)]) hx hb dX1_put_5 hl (by decide) rfl (fun ls hl => ?_)
    refine lv_aload hx hb dX1_put_7 (lv_at hl 0 rfl) ?_
    refine lv_ifnull hx hb dX1_put_9 ?_
    refine lv_aload_n hx hb dX1_put_12 rfl (lv_at hl 1 rfl) ?_
    refine lv_iload_n hx hb dX1_put_13 rfl (lv_at hl 4 rfl) ?_
    refine pq_b (va_runV (As := [.int v]) (rest := []) ⟨hx, hb, hml, hown, hts⟩ (c_X1_isValue l D cI cZ cT ρ h tq th O mt wh _ v) (cwV 1 hts gX1_put_X1_isValue rfl rfl rfl (by decide +kernel) ⟨Nat.le_of_ble_eq_true rfl, Nat.le_of_ble_eq_true rfl⟩) (pre_v ⟨rfl, hp⟩ hKN (recv hKN hp.1 rfl)) rfl rfl hl.1 rfl (lv_room (Nat.le_of_ble_eq_true rfl)) dX1_put_14 ⟨Nat.zero_le _, Nat.zero_le _⟩) (fun b14 => ?_) (fun b14 => ?_)
    · refine lv_if_ne (tgt := 22) hx hb dX1_put_17 (by decide) (fun c9 => absurd rfl c9) (fun _ => ?_)
      refine lv_iconst (v := 0) hx hb dX1_put_20 (by decide) ?_
      refine W.zret (v := 0) (ty := .boolean) hx hb hr rfl (fun t ht hW => ⟨⟨_, rfl, ?_⟩, hS.F ht⟩) hS.2.2 dX1_put_21
      rw [ht]
      rw [pto_no e2 (by rw [b14]; simp)]
      exact ⟨rfl, hp⟩
    · refine lv_if_ne (tgt := 22) hx hb dX1_put_17 (by decide) (fun _ => ?_) (fun c9 => absurd c9 (by decide))
      refine lv_aload hx hb dX1_put_22 (lv_at hl 0 rfl) ?_
      refine lv_iload_n hx hb dX1_put_24 rfl (lv_at hl 3 rfl) ?_
      refine lv_iload_n hx hb dX1_put_25 rfl (lv_at hl 4 rfl) ?_
      refine pm_i (va_runVN (As := [.int i, .int v]) (rest := []) ⟨hx, hb, hml, hown, hts⟩ (c_X0_setField l D cI cZ cT a2 f2 (O.2.1 j2) (O.2.2.1 j2) (O.2.2.2 j2) _ i v) ⟨va_cnB 2 hts gX1_put_X0_setField_n33 rfl rfl rfl hKN.2.2.2.2.1 (hts (.initialized RX0) (by decide +kernel)) (by decide +kernel) ⟨Nat.le_of_ble_eq_true rfl, Nat.le_of_ble_eq_true rfl⟩, hts (.instanceMethod yX0_setField) (by decide +kernel), hts (.selects RX0 yX0_setField yX0_setField) (by decide +kernel)⟩ (pre_v ⟨rfl, t2⟩ hKN (recv hKN t2.1 rfl)) rfl rfl hl.1 rfl (lv_room (Nat.le_of_ble_eq_true rfl)) dX1_put_26 ⟨Nat.zero_le _, Nat.zero_le _⟩) hS (fun q _ h9 => by show ρ q ≠ 0; rw [show q = f2 from h9, z2]; omega) (fun q h9 => by show ρ q ≠ 0; rw [show q = f2 from h9, z2]; omega) (fun r26 H locs hr26 hz hk hS => ?_)
      obtain ⟨e26, hf⟩ := hr26
      subst e26
      refine W.zret (v := (b2i (decide (0 ≤ i.toInt ∧ i.toInt < (O.2.2.1 j2 : Int))))) (ty := .boolean) hx hb hr (nar_b _) (fun t ht hW => ⟨⟨_, rfl, ?_⟩, hS.F ht⟩) hS.2.2 dX1_put_29
      rw [ht]
      by_cases hin : 0 ≤ i.toInt ∧ i.toInt < (O.2.2.1 j2 : Int)
      · rw [if_pos hin] at hf
        rw [pto_yes e2 ⟨b14, hin.1, hin.2⟩, decide_eq_true hin]
        exact ⟨rfl, px_fields hp x2 z2 t2 hz hk hf⟩
      · rw [if_neg hin] at hf
        rw [pto_no e2 (fun q => hin q.2), decide_eq_false hin]
        have h9 := px_fields hp x2 z2 t2 hz hk hf
        rw [obf_self] at h9
        exact ⟨rfl, h9⟩
set_option maxHeartbeats 4000000 in
set_option maxRecDepth 100000 in
theorem c_X1_inherits (l : Launch) (D : va_G) (cI cZ cT : ClassId) (ρ : Nat → Nat) (h tq : Nat) (th : Nat → Option Nat) (O : Ob) (mt wh : Int32) (H0 : Heap) (c0 d : Int32) : Met l yX1_inherits wsX1_inherits ({ frames := 3, cells := 0, slots := 0, locals := 64 }) (pK D cI cZ cT [.ref h, .int c0, .int d] (fun H => H = H0 ∧ px D cI cT ρ h tq th O mt wh H0)) (vp_Si (fun r => r = b2i (inhs O c0 d))) 0 0 (fun _ => False) := by
  refine Met.ofW (cc := cX1_inherits) (maxL := 6) (ret := (some .boolean)) (by decide) rfl ?_
  intro p e s m args below meth c s₁ B hml hv
  obtain ⟨rfl, hpic, hKN⟩ := hv
  have hK := hKN.1
  have hx := B.exec
  have hb := B.bytes
  have hr := B.returns
  have hts := atoms_spec (ws := wsX1_inherits) B.pre
  have hown : s.vm.findClass RX1 = some m.cls := findClass_of_methodNamed B.named
  have hlocks := B.notSynchronized
  obtain ⟨hH, hp⟩ := hpic
  subst hH
  have hl := lv_entry ([.ref h, .int c0, .int d]) (n := 6) (Nat.le_of_ble_eq_true rfl)
  rw [lg_entry_eq]
  generalize (lg_sl ([.ref h, .int c0, .int d]) ++ List.replicate (6 - (lg_sl ([.ref h, .int c0, .int d])).length) Slot.unset).toArray = ls at hl ⊢
  have hl : lv_has ls 6 [(0, .ref h), (1, .int c0), (2, .int d)] := hl
  refine lv_aload_n hx hb dX1_inherits_0 rfl (lv_at hl 0 rfl) ?_
  refine lv_iload_n hx hb dX1_inherits_1 rfl (lv_at hl 1 rfl) ?_
  refine pq_b (va_runV (As := [.int c0]) (rest := []) ⟨hx, hb, hml, hown, hts⟩ (c_X1_isValue l D cI cZ cT ρ h tq th O mt wh _ c0) (cwV 1 hts gX1_inherits_X1_isValue rfl rfl rfl (by decide +kernel) ⟨Nat.le_of_ble_eq_true rfl, Nat.le_of_ble_eq_true rfl⟩) (pre_v ⟨rfl, hp⟩ hKN (recv hKN hp.1 rfl)) rfl rfl hl.1 rfl (lv_room (Nat.le_of_ble_eq_true rfl)) dX1_inherits_2 ⟨Nat.zero_le _, Nat.zero_le _⟩) (fun b2 => ?_) (fun b2 => ?_)
  · refine lv_if_eq (tgt := 12) hx hb dX1_inherits_5 (by decide) (fun _ => ?_) (fun c9 => absurd (by decide) c9)
    refine lv_iconst (v := 0) hx hb dX1_inherits_12 (by decide) ?_
    refine W.zret (v := 0) (ty := .boolean) hx hb hr rfl (fun t ht hW => ⟨_, rfl, ?_, ht⟩) (fun _ h => absurd h List.not_mem_nil) dX1_inherits_13
    unfold inhs
    rw [b2]
    rfl
  · refine lv_if_eq (tgt := 12) hx hb dX1_inherits_5 (by decide) (fun c9 => absurd c9 (by decide)) (fun _ => ?_)
    refine lv_iload_n hx hb dX1_inherits_8 rfl (lv_at hl 2 rfl) ?_
    refine lv_if_ne (tgt := 14) hx hb dX1_inherits_9 (by decide) (fun c9 => ?_) (fun c9 => ?_)
    · refine lv_iload_n hx hb dX1_inherits_14 rfl (lv_at hl 1 rfl) ?_
      refine lv_istore_n (lv' := [(3, .int c0), (0, .ref h), (1, .int c0), (2, .int d)]) hx hb dX1_inherits_15 rfl hl (by decide) rfl (fun ls hl => ?_)
      refine lv_iconst (v := 0) hx hb dX1_inherits_16 (by decide) ?_
      refine lv_istore (lv' := [(4, .int 0), (3, .int c0), (0, .ref h), (1, .int c0), (2, .int d)]) hx hb dX1_inherits_17 hl (by decide) rfl (fun ls hl => ?_)
      have loop : ∀ (q k : Nat) (x : Int32), k + q = 100 → inhs O c0 d = inh O d q x → ∀ ls : Array Slot, lv_has ls 6 [(0, .ref h), (1, .int c0), (2, .int d), (3, .int x), (4, .int (nI k))] → W p l e (headSpec wsX1_inherits ({ frames := 3, cells := 0, slots := 0, locals := 64 })).room s m ([.ref h, .int c0, .int d] : List Value).toArray below meth c s.heap [] 0 0 (MQ below (vp_Si (fun r => r = b2i (inhs O c0 d))) ([.ref h, .int c0, .int d] : List Value).toArray s 0 0 (fun _ => False)) (F0 m 19 ls []) := by
        intro q
        induction q with
        | zero =>
          intro k x h1 hu ls hl
          refine lv_iload hx hb dX1_inherits_19 (lv_at hl 4 rfl) ?_
          refine lv_bipush (v := 100) hx hb dX1_inherits_21 (by decide) ?_
          refine lv_icmp_ge (tgt := 60) hx hb dX1_inherits_23 (by decide) (fun _ => ?_) (fun c9 => absurd (by rw [i_le, i_100, nI_toInt (by omega)]; omega) c9)
          refine lv_iconst (v := 0) hx hb dX1_inherits_60 (by decide) ?_
          refine W.zret (v := 0) (ty := .boolean) hx hb hr rfl (fun t ht hW => ⟨_, rfl, ?_, ht⟩) (fun _ h => absurd h List.not_mem_nil) dX1_inherits_61
          rw [hu]
          rfl
        | succ q ih =>
          intro k x h1 hu ls hl
          refine lv_iload hx hb dX1_inherits_19 (lv_at hl 4 rfl) ?_
          refine lv_bipush (v := 100) hx hb dX1_inherits_21 (by decide) ?_
          refine lv_icmp_ge (tgt := 60) hx hb dX1_inherits_23 (by decide) (fun c9 => absurd c9 (by rw [i_le, i_100, nI_toInt (by omega)]; omega)) (fun _ => ?_)
          refine lv_iload_n hx hb dX1_inherits_26 rfl (lv_at hl 3 rfl) ?_
          refine lv_iload_n hx hb dX1_inherits_27 rfl (lv_at hl 2 rfl) ?_
          refine lv_icmp_ne (tgt := 33) hx hb dX1_inherits_28 (by decide) (fun c28 => ?_) (fun c28 => ?_)
          · refine lv_aload_n hx hb dX1_inherits_33 rfl (lv_at hl 0 rfl) ?_
            refine lv_iload_n hx hb dX1_inherits_34 rfl (lv_at hl 3 rfl) ?_
            refine pq_q (va_runV (As := [.int x]) (rest := []) ⟨hx, hb, hml, hown, hts⟩ (c_X1_classMeantBy l D cI cZ cT ρ h tq th O mt wh _ x) (cwV 1 hts gX1_inherits_X1_classMeantBy rfl rfl rfl (by decide +kernel) ⟨Nat.le_of_ble_eq_true rfl, Nat.le_of_ble_eq_true rfl⟩) (pre_v ⟨rfl, hp⟩ hKN (recv hKN hp.1 rfl)) rfl rfl hl.1 rfl (lv_room (Nat.le_of_ble_eq_true rfl)) dX1_inherits_35 ⟨Nat.zero_le _, Nat.zero_le _⟩) (fun h35 => ?_) (fun a35 h35 => ?_)
            · have e35 := tp_none h35
              refine lv_astoreN (lv' := [(5, .null), (0, .ref h), (1, .int c0), (2, .int d), (3, .int x), (4, .int (nI k))]) hx hb dX1_inherits_38 hl (by decide) rfl (fun ls hl => ?_)
              refine lv_aloadN hx hb dX1_inherits_40 (lv_at hl 0 rfl) ?_
              refine lv_ifnonnullN hx hb dX1_inherits_42 ?_
              refine lv_iconst (v := 0) hx hb dX1_inherits_45 (by decide) ?_
              refine W.zret (v := 0) (ty := .boolean) hx hb hr rfl (fun t ht hW => ⟨_, rfl, ?_, ht⟩) (fun _ h => absurd h List.not_mem_nil) dX1_inherits_46
              rw [hu, inh_none c28 e35]
              rfl
            · obtain ⟨j35, f35, e35, x35, y35, z35, l35, u35, m35, t35⟩ := tp_some h35
              refine lv_astore (lv' := [(5, .ref a35), (0, .ref h), (1, .int c0), (2, .int d), (3, .int x), (4, .int (nI k))]) hx hb dX1_inherits_38 hl (by decide) rfl (fun ls hl => ?_)
              refine lv_aload hx hb dX1_inherits_40 (lv_at hl 0 rfl) ?_
              refine lv_ifnonnull (tgt := 47) hx hb dX1_inherits_42 (by decide) ?_
              refine lv_aload hx hb dX1_inherits_47 (lv_at hl 0 rfl) ?_
              refine lv_iconst (v := 0) hx hb dX1_inherits_49 (by decide) ?_
              have q35 := (cls_tv e35).2
              refine pq_i (va_runVN (As := [.int 0]) (rest := []) ⟨hx, hb, hml, hown, hts⟩ (c_X0_field l D cI cZ cT a35 f35 (O.2.1 j35) (O.2.2.1 j35) (O.2.2.2 j35) _ 0) ⟨va_cnB 1 hts gX1_inherits_X0_field_n37 rfl rfl rfl hKN.2.2.2.2.2.1 (hts (.initialized RX0) (by decide +kernel)) (by decide +kernel) ⟨Nat.le_of_ble_eq_true rfl, Nat.le_of_ble_eq_true rfl⟩, hts (.instanceMethod yX0_field) (by decide +kernel), hts (.selects RX0 yX0_field yX0_field) (by decide +kernel)⟩ (pre_v ⟨rfl, t35⟩ hKN (recv hKN t35.1 rfl)) rfl rfl hl.1 rfl (lv_room (Nat.le_of_ble_eq_true rfl)) dX1_inherits_50 ⟨Nat.zero_le _, Nat.zero_le _⟩) (fun r50 hr50 => ?_)
              have hr50 : r50 = O.2.2.2 j35 0 := by
                rw [hr50]
                exact fl1_lt (i := 0) (by omega) t35.2.2
              subst hr50
              refine lv_istore_n (lv' := [(3, .int (O.2.2.2 j35 0)), (5, .ref a35), (0, .ref h), (1, .int c0), (2, .int d), (4, .int (nI k))]) hx hb dX1_inherits_53 rfl hl (by decide) rfl (fun ls hl => ?_)
              refine lv_iinc (v := ((nI k) + 1)) (lv' := [(4, .int ((nI k) + 1)), (3, .int (O.2.2.2 j35 0)), (5, .ref a35), (0, .ref h), (1, .int c0), (2, .int d)]) hx hb dX1_inherits_54 hl (k := 5) rfl rfl (by decide) rfl (fun ls hl => ?_)
              refine lv_goto (tgt := 19) hx hb dX1_inherits_57 (by decide) ?_
              rw [← nI_succ] at hl
              exact ih (k + 1) _ (by omega) (by rw [hu, inh_go c28 e35]) _ (lv_sub hl [3, 4, 5, 1, 0] rfl)
          · refine lv_iconst (v := 1) hx hb dX1_inherits_31 (by decide) ?_
            refine W.zret (v := 1) (ty := .boolean) hx hb hr rfl (fun t ht hW => ⟨_, rfl, ?_, ht⟩) (fun _ h => absurd h List.not_mem_nil) dX1_inherits_32
            rw [hu, inh_eq c28]
            rfl
      exact loop 100 0 c0 (by omega) (inhs_go b2 c9) _ (lv_sub hl [2, 3, 4, 1, 0] rfl)
    · refine lv_iconst (v := 0) hx hb dX1_inherits_12 (by decide) ?_
      refine W.zret (v := 0) (ty := .boolean) hx hb hr rfl (fun t ht hW => ⟨_, rfl, ?_, ht⟩) (fun _ h => absurd h List.not_mem_nil) dX1_inherits_13
      unfold inhs
      rw [decide_eq_true c9, Bool.not_true, Bool.and_false]
      rfl
set_option maxHeartbeats 4000000 in
set_option maxRecDepth 100000 in
theorem c_X1_users (l : Launch) (D : va_G) (cI cZ cT : ClassId) (ρ : Nat → Nat) (h tq : Nat) (th : Nat → Option Nat) (O : Ob) (mt wh : Int32) (H0 : Heap) (d : Int32) : Met l yX1_users wsX1_users ({ frames := 2, cells := 0, slots := 0, locals := 42 }) (pK D cI cZ cT [.ref h, .int d] (fun H => H = H0 ∧ px D cI cT ρ h tq th O mt wh H0)) (vp_Si (fun r => r = usr O d)) 0 0 (fun _ => False) := by
  refine Met.ofW (cc := cX1_users) (maxL := 5) (ret := (some .int)) (by decide) rfl ?_
  intro p e s m args below meth c s₁ B hml hv
  obtain ⟨rfl, hpic, hKN⟩ := hv
  have hK := hKN.1
  have hx := B.exec
  have hb := B.bytes
  have hr := B.returns
  have hts := atoms_spec (ws := wsX1_users) B.pre
  have hown : s.vm.findClass RX1 = some m.cls := findClass_of_methodNamed B.named
  have hlocks := B.notSynchronized
  obtain ⟨hH, hp⟩ := hpic
  subst hH
  have hl := lv_entry ([.ref h, .int d]) (n := 5) (Nat.le_of_ble_eq_true rfl)
  rw [lg_entry_eq]
  generalize (lg_sl ([.ref h, .int d]) ++ List.replicate (5 - (lg_sl ([.ref h, .int d])).length) Slot.unset).toArray = ls at hl ⊢
  have hl : lv_has ls 5 [(0, .ref h), (1, .int d)] := hl
  refine lv_aload_n hx hb dX1_users_0 rfl (lv_at hl 0 rfl) ?_
  refine lv_iload_n hx hb dX1_users_1 rfl (lv_at hl 1 rfl) ?_
  refine pq_q (va_runV (As := [.int d]) (rest := []) ⟨hx, hb, hml, hown, hts⟩ (c_X1_thingOf l D cI cZ cT ρ h tq th O mt wh _ d) (cwV 1 hts gX1_users_X1_thingOf rfl rfl rfl (by decide +kernel) ⟨Nat.le_of_ble_eq_true rfl, Nat.le_of_ble_eq_true rfl⟩) (pre_v ⟨rfl, hp⟩ hKN (recv hKN hp.1 rfl)) rfl rfl hl.1 rfl (lv_room (Nat.le_of_ble_eq_true rfl)) dX1_users_2 ⟨Nat.zero_le _, Nat.zero_le _⟩) (fun h2 => ?_) (fun a2 h2 => ?_)
  · have e2 := tp_none h2
    refine lv_ifnonnullN hx hb dX1_users_5 ?_
    refine lv_iconst (v := 0) hx hb dX1_users_8 (by decide) ?_
    refine W.iret (v := 0) hx hb hr (fun t ht hW => ⟨_, rfl, ?_, ht⟩) (fun _ h => absurd h List.not_mem_nil) dX1_users_9
    unfold usr
    rw [e2]
  · obtain ⟨j2, f2, e2, x2, y2, z2, l2, u2, m2, t2⟩ := tp_some h2
    refine lv_ifnonnull (tgt := 10) hx hb dX1_users_5 (by decide) ?_
    refine lv_iconst (v := 0) hx hb dX1_users_10 (by decide) ?_
    refine lv_istore_n (lv' := [(2, .int 0), (0, .ref h), (1, .int d)]) hx hb dX1_users_11 rfl hl (by decide) rfl (fun ls hl => ?_)
    refine lv_iconst (v := 1) hx hb dX1_users_12 (by decide) ?_
    refine lv_istore_n (lv' := [(3, .int 1), (2, .int 0), (0, .ref h), (1, .int d)]) hx hb dX1_users_13 rfl hl (by decide) rfl (fun ls hl => ?_)
    have loop : ∀ (q k : Nat), k + q = 400 → ∀ ls : Array Slot, lv_has ls 5 [(0, .ref h), (1, .int d), (2, .int (cnt (upr O (2 * d)) k)), (3, .int (nI (k + 1)))] → W p l e (headSpec wsX1_users ({ frames := 2, cells := 0, slots := 0, locals := 42 })).room s m ([.ref h, .int d] : List Value).toArray below meth c s.heap [] 0 0 (MQ below (vp_Si (fun r => r = usr O d)) ([.ref h, .int d] : List Value).toArray s 0 0 (fun _ => False)) (F0 m 14 ls []) := by
      intro q
      induction q with
      | zero =>
        intro k h1 ls hl
        refine lv_iload_n hx hb dX1_users_14 rfl (lv_at hl 3 rfl) ?_
        refine lv_sipush (v := 400) hx hb dX1_users_15 (by decide) ?_
        refine lv_icmp_gt (tgt := 63) hx hb dX1_users_18 (by decide) (fun _ => ?_) (fun c9 => absurd (by rw [i_lt, i_400, nI_toInt (by omega)]; omega) c9)
        refine lv_iload_n hx hb dX1_users_63 rfl (lv_at hl 2 rfl) ?_
        refine W.iret (v := (cnt (upr O (2 * d)) k)) hx hb hr (fun t ht hW => ⟨_, rfl, ?_, ht⟩) (fun _ h => absurd h List.not_mem_nil) dX1_users_64
        have e9 : k = 400 := by omega
        subst e9
        unfold usr
        rw [e2]
      | succ q ih =>
        intro k h1 ls hl
        refine lv_iload_n hx hb dX1_users_14 rfl (lv_at hl 3 rfl) ?_
        refine lv_sipush (v := 400) hx hb dX1_users_15 (by decide) ?_
        refine lv_icmp_gt (tgt := 63) hx hb dX1_users_18 (by decide) (fun c9 => absurd c9 (by rw [i_lt, i_400, nI_toInt (by omega)]; omega)) (fun _ => ?_)
        refine lv_aload_n hx hb dX1_users_21 rfl (lv_at hl 0 rfl) ?_
        refine lv_iload_n hx hb dX1_users_22 rfl (lv_at hl 3 rfl) ?_
        refine pq_q (va_runV (As := [.int (nI (k + 1))]) (rest := []) ⟨hx, hb, hml, hown, hts⟩ (c_X1_thingOf l D cI cZ cT ρ h tq th O mt wh _ (nI (k + 1))) (cwV 1 hts gX1_users_X1_thingOf rfl rfl rfl (by decide +kernel) ⟨Nat.le_of_ble_eq_true rfl, Nat.le_of_ble_eq_true rfl⟩) (pre_v ⟨rfl, hp⟩ hKN (recv hKN hp.1 rfl)) rfl rfl hl.1 rfl (lv_room (Nat.le_of_ble_eq_true rfl)) dX1_users_23 ⟨Nat.zero_le _, Nat.zero_le _⟩) (fun h23 => ?_) (fun a23 h23 => ?_)
        · have e23 := tp_none h23
          have m23 := tk_none e23 (by omega) (by omega)
          refine lv_astoreN (lv' := [(4, .null), (0, .ref h), (1, .int d), (2, .int (cnt (upr O (2 * d)) k)), (3, .int (nI (k + 1)))]) hx hb dX1_users_26 hl (by decide) rfl (fun ls hl => ?_)
          refine lv_aloadN hx hb dX1_users_28 (lv_at hl 0 rfl) ?_
          refine lv_ifnullN (tgt := 57) hx hb dX1_users_30 (by decide) ?_
          have ec : cnt (upr O (2 * d)) k = cnt (upr O (2 * d)) (k + 1) := cnt_f (by unfold upr; rw [m23]; rfl)
          rw [ec] at hl
          refine lv_iinc (v := ((nI (k + 1)) + 1)) (lv' := [(3, .int ((nI (k + 1)) + 1)), (4, .null), (0, .ref h), (1, .int d), (2, .int (cnt (upr O (2 * d)) (k + 1)))]) hx hb dX1_users_57 hl (k := 4) rfl rfl (by decide) rfl (fun ls hl => ?_)
          refine lv_goto (tgt := 14) hx hb dX1_users_60 (by decide) ?_
          rw [← nI_succ] at hl
          exact ih (k + 1) (by omega) _ (lv_sub hl [2, 3, 4, 0] rfl)
        · obtain ⟨j23, f23, e23, x23, y23, z23, l23, u23, m23, t23⟩ := tp_some h23
          obtain ⟨ej23, mj23⟩ := tk_some e23 (by omega)
          refine lv_astore (lv' := [(4, .ref a23), (0, .ref h), (1, .int d), (2, .int (cnt (upr O (2 * d)) k)), (3, .int (nI (k + 1)))]) hx hb dX1_users_26 hl (by decide) rfl (fun ls hl => ?_)
          refine lv_aload hx hb dX1_users_28 (lv_at hl 0 rfl) ?_
          refine lv_ifnull hx hb dX1_users_30 ?_
          refine lv_aload hx hb dX1_users_33 (lv_at hl 0 rfl) ?_
          refine pq_b (va_runVN (As := []) (rest := []) ⟨hx, hb, hml, hown, hts⟩ (c_X0_canBeClass l D cI cZ cT a23 f23 (O.2.1 j23) (O.2.2.1 j23) (O.2.2.2 j23) _) ⟨va_cnB 0 hts gX1_users_X0_canBeClass_n71 rfl rfl rfl hKN.2.2.2.2.2.2.1 (hts (.initialized RX0) (by decide +kernel)) (by decide +kernel) ⟨Nat.le_of_ble_eq_true rfl, Nat.le_of_ble_eq_true rfl⟩, hts (.instanceMethod yX0_canBeClass) (by decide +kernel), hts (.selects RX0 yX0_canBeClass yX0_canBeClass) (by decide +kernel)⟩ (pre_v ⟨rfl, t23⟩ hKN (recv hKN t23.1 rfl)) rfl rfl hl.1 rfl (lv_room (Nat.le_of_ble_eq_true rfl)) dX1_users_35 ⟨Nat.zero_le _, Nat.zero_le _⟩) (fun b35 => ?_) (fun b35 => ?_)
          · refine lv_if_eq (tgt := 57) hx hb dX1_users_38 (by decide) (fun _ => ?_) (fun c9 => absurd (by decide) c9)
            have ec : cnt (upr O (2 * d)) k = cnt (upr O (2 * d)) (k + 1) := cnt_f (by unfold upr; rw [← ej23, b35, Bool.and_false]; rfl)
            rw [ec] at hl
            refine lv_iinc (v := ((nI (k + 1)) + 1)) (lv' := [(3, .int ((nI (k + 1)) + 1)), (4, .ref a23), (0, .ref h), (1, .int d), (2, .int (cnt (upr O (2 * d)) (k + 1)))]) hx hb dX1_users_57 hl (k := 4) rfl rfl (by decide) rfl (fun ls hl => ?_)
            refine lv_goto (tgt := 14) hx hb dX1_users_60 (by decide) ?_
            rw [← nI_succ] at hl
            exact ih (k + 1) (by omega) _ (lv_sub hl [2, 3, 4, 0] rfl)
          · refine lv_if_eq (tgt := 57) hx hb dX1_users_38 (by decide) (fun c9 => absurd c9 (by decide)) (fun _ => ?_)
            refine lv_aload hx hb dX1_users_41 (lv_at hl 0 rfl) ?_
            refine lv_iconst (v := 1) hx hb dX1_users_43 (by decide) ?_
            have q23 := of_decide_eq_true b35
            refine pq_i (va_runVN (As := [.int 1]) (rest := []) ⟨hx, hb, hml, hown, hts⟩ (c_X0_field l D cI cZ cT a23 f23 (O.2.1 j23) (O.2.2.1 j23) (O.2.2.2 j23) _ 1) ⟨va_cnB 1 hts gX1_users_X0_field_n37 rfl rfl rfl hKN.2.2.2.2.2.1 (hts (.initialized RX0) (by decide +kernel)) (by decide +kernel) ⟨Nat.le_of_ble_eq_true rfl, Nat.le_of_ble_eq_true rfl⟩, hts (.instanceMethod yX0_field) (by decide +kernel), hts (.selects RX0 yX0_field yX0_field) (by decide +kernel)⟩ (pre_v ⟨rfl, t23⟩ hKN (recv hKN t23.1 rfl)) rfl rfl hl.1 rfl (lv_room (Nat.le_of_ble_eq_true rfl)) dX1_users_44 ⟨Nat.zero_le _, Nat.zero_le _⟩) (fun r44 hr44 => ?_)
            have hr44 : r44 = O.2.2.2 j23 1 := by
              rw [hr44]
              exact fl1_lt (i := 1) (by omega) t23.2.2
            subst hr44
            refine lv_iload_n hx hb dX1_users_47 rfl (lv_at hl 2 rfl) ?_
            refine pq_i (va_runS (As := [.int d]) (rest := [.int (O.2.2.2 j23 1)]) ⟨hx, hb, hml, hown, hts⟩ (c_X1_objectValue l D cI cZ cT d (by have := tz_some e2; omega) (by have := tz_some e2; omega)) (va_cwS 1 hts gX1_users_X1_objectValue rfl rfl rfl (by decide +kernel) ⟨Nat.le_of_ble_eq_true rfl, Nat.le_of_ble_eq_true rfl⟩) (pre_s trivial hKN) rfl rfl hl.1 rfl (lv_room (Nat.le_of_ble_eq_true rfl)) dX1_users_48 ⟨Nat.zero_le _, Nat.zero_le _⟩) (fun r48 hr48 => ?_)
            subst hr48
            refine lv_icmp_ne (tgt := 57) hx hb dX1_users_51 (by decide) (fun c51 => ?_) (fun c51 => ?_)
            · have ec : cnt (upr O (2 * d)) k = cnt (upr O (2 * d)) (k + 1) := cnt_f (by unfold upr; rw [← ej23, decide_eq_false c51, Bool.and_false])
              rw [ec] at hl
              refine lv_iinc (v := ((nI (k + 1)) + 1)) (lv' := [(3, .int ((nI (k + 1)) + 1)), (4, .ref a23), (0, .ref h), (1, .int d), (2, .int (cnt (upr O (2 * d)) (k + 1)))]) hx hb dX1_users_57 hl (k := 4) rfl rfl (by decide) rfl (fun ls hl => ?_)
              refine lv_goto (tgt := 14) hx hb dX1_users_60 (by decide) ?_
              rw [← nI_succ] at hl
              exact ih (k + 1) (by omega) _ (lv_sub hl [2, 3, 4, 0] rfl)
            · refine lv_iinc (v := ((cnt (upr O (2 * d)) k) + 1)) (lv' := [(2, .int ((cnt (upr O (2 * d)) k) + 1)), (4, .ref a23), (0, .ref h), (1, .int d), (3, .int (nI (k + 1)))]) hx hb dX1_users_54 hl (k := 3) rfl rfl (by decide) rfl (fun ls hl => ?_)
              have ec : cnt (upr O (2 * d)) k + 1 = cnt (upr O (2 * d)) (k + 1) := cnt_t (by unfold upr; rw [mj23, ← ej23, b35, decide_eq_true c51]; rfl)
              rw [ec] at hl
              refine lv_iinc (v := ((nI (k + 1)) + 1)) (lv' := [(3, .int ((nI (k + 1)) + 1)), (2, .int (cnt (upr O (2 * d)) (k + 1))), (4, .ref a23), (0, .ref h), (1, .int d)]) hx hb dX1_users_57 hl (k := 4) rfl rfl (by decide) rfl (fun ls hl => ?_)
              refine lv_goto (tgt := 14) hx hb dX1_users_60 (by decide) ?_
              rw [← nI_succ] at hl
              exact ih (k + 1) (by omega) _ (lv_sub hl [3, 4, 1, 0] rfl)
    exact loop 400 0 (by omega) _ (lv_sub hl [2, 3, 1, 0] rfl)
set_option maxHeartbeats 4000000 in
set_option maxRecDepth 100000 in
theorem c_X1_senders (l : Launch) (D : va_G) (cI cZ cT : ClassId) (ρ : Nat → Nat) (h tq : Nat) (th : Nat → Option Nat) (O : Ob) (mt wh : Int32) (H0 : Heap) (sel : Int32) : Met l yX1_senders wsX1_senders ({ frames := 2, cells := 0, slots := 0, locals := 42 }) (pK D cI cZ cT [.ref h, .int sel] (fun H => H = H0 ∧ px D cI cT ρ h tq th O mt wh H0)) (vp_Si (fun r => r = sdr O sel)) 0 0 (fun _ => False) := by
  refine Met.ofW (cc := cX1_senders) (maxL := 6) (ret := (some .int)) (by decide) rfl ?_
  intro p e s m args below meth c s₁ B hml hv
  obtain ⟨rfl, hpic, hKN⟩ := hv
  have hK := hKN.1
  have hx := B.exec
  have hb := B.bytes
  have hr := B.returns
  have hts := atoms_spec (ws := wsX1_senders) B.pre
  have hown : s.vm.findClass RX1 = some m.cls := findClass_of_methodNamed B.named
  have hlocks := B.notSynchronized
  obtain ⟨hH, hp⟩ := hpic
  subst hH
  have hl := lv_entry ([.ref h, .int sel]) (n := 6) (Nat.le_of_ble_eq_true rfl)
  rw [lg_entry_eq]
  generalize (lg_sl ([.ref h, .int sel]) ++ List.replicate (6 - (lg_sl ([.ref h, .int sel])).length) Slot.unset).toArray = ls at hl ⊢
  have hl : lv_has ls 6 [(0, .ref h), (1, .int sel)] := hl
  refine lv_iconst (v := 0) hx hb dX1_senders_0 (by decide) ?_
  refine lv_istore_n (lv' := [(2, .int 0), (0, .ref h), (1, .int sel)]) hx hb dX1_senders_1 rfl hl (by decide) rfl (fun ls hl => ?_)
  refine lv_iconst (v := 1) hx hb dX1_senders_2 (by decide) ?_
  refine lv_istore_n (lv' := [(3, .int 1), (2, .int 0), (0, .ref h), (1, .int sel)]) hx hb dX1_senders_3 rfl hl (by decide) rfl (fun ls hl => ?_)
  have loop : ∀ (q k : Nat), k + q = 400 → ∀ ls : Array Slot, lv_has ls 6 [(0, .ref h), (1, .int sel), (2, .int (cnt (spr O sel) k)), (3, .int (nI (k + 1)))] → W p l e (headSpec wsX1_senders ({ frames := 2, cells := 0, slots := 0, locals := 42 })).room s m ([.ref h, .int sel] : List Value).toArray below meth c s.heap [] 0 0 (MQ below (vp_Si (fun r => r = sdr O sel)) ([.ref h, .int sel] : List Value).toArray s 0 0 (fun _ => False)) (F0 m 4 ls []) := by
    intro q
    induction q with
    | zero =>
      intro k h1 ls hl
      refine lv_iload_n hx hb dX1_senders_4 rfl (lv_at hl 3 rfl) ?_
      refine lv_sipush (v := 400) hx hb dX1_senders_5 (by decide) ?_
      refine lv_icmp_gt (tgt := 67) hx hb dX1_senders_8 (by decide) (fun _ => ?_) (fun c9 => absurd (by rw [i_lt, i_400, nI_toInt (by omega)]; omega) c9)
      refine lv_iload_n hx hb dX1_senders_67 rfl (lv_at hl 2 rfl) ?_
      refine W.iret (v := (cnt (spr O sel) k)) hx hb hr (fun t ht hW => ⟨_, rfl, ?_, ht⟩) (fun _ h => absurd h List.not_mem_nil) dX1_senders_68
      have e9 : k = 400 := by omega
      subst e9
      rfl
    | succ q ih =>
      intro k h1 ls hl
      refine lv_iload_n hx hb dX1_senders_4 rfl (lv_at hl 3 rfl) ?_
      refine lv_sipush (v := 400) hx hb dX1_senders_5 (by decide) ?_
      refine lv_icmp_gt (tgt := 67) hx hb dX1_senders_8 (by decide) (fun c9 => absurd c9 (by rw [i_lt, i_400, nI_toInt (by omega)]; omega)) (fun _ => ?_)
      refine lv_aload_n hx hb dX1_senders_11 rfl (lv_at hl 0 rfl) ?_
      refine lv_iload_n hx hb dX1_senders_12 rfl (lv_at hl 3 rfl) ?_
      refine pq_q (va_runV (As := [.int (nI (k + 1))]) (rest := []) ⟨hx, hb, hml, hown, hts⟩ (c_X1_thingOf l D cI cZ cT ρ h tq th O mt wh _ (nI (k + 1))) (cwV 1 hts gX1_senders_X1_thingOf rfl rfl rfl (by decide +kernel) ⟨Nat.le_of_ble_eq_true rfl, Nat.le_of_ble_eq_true rfl⟩) (pre_v ⟨rfl, hp⟩ hKN (recv hKN hp.1 rfl)) rfl rfl hl.1 rfl (lv_room (Nat.le_of_ble_eq_true rfl)) dX1_senders_13 ⟨Nat.zero_le _, Nat.zero_le _⟩) (fun h13 => ?_) (fun a13 h13 => ?_)
      · have e13 := tp_none h13
        have m13 := tk_none e13 (by omega) (by omega)
        refine lv_astoreN (lv' := [(4, .null), (0, .ref h), (1, .int sel), (2, .int (cnt (spr O sel) k)), (3, .int (nI (k + 1)))]) hx hb dX1_senders_16 hl (by decide) rfl (fun ls hl => ?_)
        refine lv_aloadN hx hb dX1_senders_18 (lv_at hl 0 rfl) ?_
        refine lv_ifnullN (tgt := 61) hx hb dX1_senders_20 (by decide) ?_
        have ec : cnt (spr O sel) k = cnt (spr O sel) (k + 1) := cnt_f (by unfold spr; rw [m13]; rfl)
        rw [ec] at hl
        refine lv_iinc (v := ((nI (k + 1)) + 1)) (lv' := [(3, .int ((nI (k + 1)) + 1)), (4, .null), (0, .ref h), (1, .int sel), (2, .int (cnt (spr O sel) (k + 1)))]) hx hb dX1_senders_61 hl (k := 4) rfl rfl (by decide) rfl (fun ls hl => ?_)
        refine lv_goto (tgt := 4) hx hb dX1_senders_64 (by decide) ?_
        rw [← nI_succ] at hl
        exact ih (k + 1) (by omega) _ (lv_sub hl [2, 3, 4, 0] rfl)
      · obtain ⟨j13, f13, e13, x13, y13, z13, l13, u13, m13, t13⟩ := tp_some h13
        obtain ⟨ej13, mj13⟩ := tk_some e13 (by omega)
        refine lv_astore (lv' := [(4, .ref a13), (0, .ref h), (1, .int sel), (2, .int (cnt (spr O sel) k)), (3, .int (nI (k + 1)))]) hx hb dX1_senders_16 hl (by decide) rfl (fun ls hl => ?_)
        refine lv_aload hx hb dX1_senders_18 (lv_at hl 0 rfl) ?_
        refine lv_ifnull hx hb dX1_senders_20 ?_
        refine lv_aload hx hb dX1_senders_23 (lv_at hl 0 rfl) ?_
        refine pq_b (va_runVN (As := []) (rest := []) ⟨hx, hb, hml, hown, hts⟩ (c_X0_canBeClass l D cI cZ cT a13 f13 (O.2.1 j13) (O.2.2.1 j13) (O.2.2.2 j13) _) ⟨va_cnB 0 hts gX1_senders_X0_canBeClass_n71 rfl rfl rfl hKN.2.2.2.2.2.2.1 (hts (.initialized RX0) (by decide +kernel)) (by decide +kernel) ⟨Nat.le_of_ble_eq_true rfl, Nat.le_of_ble_eq_true rfl⟩, hts (.instanceMethod yX0_canBeClass) (by decide +kernel), hts (.selects RX0 yX0_canBeClass yX0_canBeClass) (by decide +kernel)⟩ (pre_v ⟨rfl, t13⟩ hKN (recv hKN t13.1 rfl)) rfl rfl hl.1 rfl (lv_room (Nat.le_of_ble_eq_true rfl)) dX1_senders_25 ⟨Nat.zero_le _, Nat.zero_le _⟩) (fun b25 => ?_) (fun b25 => ?_)
        · refine lv_if_eq (tgt := 61) hx hb dX1_senders_28 (by decide) (fun _ => ?_) (fun c9 => absurd (by decide) c9)
          have ec : cnt (spr O sel) k = cnt (spr O sel) (k + 1) := cnt_f (by unfold spr; rw [← ej13, b25, Bool.and_false]; rfl)
          rw [ec] at hl
          refine lv_iinc (v := ((nI (k + 1)) + 1)) (lv' := [(3, .int ((nI (k + 1)) + 1)), (4, .ref a13), (0, .ref h), (1, .int sel), (2, .int (cnt (spr O sel) (k + 1)))]) hx hb dX1_senders_61 hl (k := 4) rfl rfl (by decide) rfl (fun ls hl => ?_)
          refine lv_goto (tgt := 4) hx hb dX1_senders_64 (by decide) ?_
          rw [← nI_succ] at hl
          exact ih (k + 1) (by omega) _ (lv_sub hl [2, 3, 4, 0] rfl)
        · refine lv_if_eq (tgt := 61) hx hb dX1_senders_28 (by decide) (fun c9 => absurd c9 (by decide)) (fun _ => ?_)
          refine lv_aload_n hx hb dX1_senders_31 rfl (lv_at hl 1 rfl) ?_
          refine lv_aload hx hb dX1_senders_32 (lv_at hl 0 rfl) ?_
          refine lv_iconst (v := 1) hx hb dX1_senders_34 (by decide) ?_
          have q13 := of_decide_eq_true b25
          refine pq_i (va_runVN (As := [.int 1]) (rest := [.ref h]) ⟨hx, hb, hml, hown, hts⟩ (c_X0_field l D cI cZ cT a13 f13 (O.2.1 j13) (O.2.2.1 j13) (O.2.2.2 j13) _ 1) ⟨va_cnB 1 hts gX1_senders_X0_field_n37 rfl rfl rfl hKN.2.2.2.2.2.1 (hts (.initialized RX0) (by decide +kernel)) (by decide +kernel) ⟨Nat.le_of_ble_eq_true rfl, Nat.le_of_ble_eq_true rfl⟩, hts (.instanceMethod yX0_field) (by decide +kernel), hts (.selects RX0 yX0_field yX0_field) (by decide +kernel)⟩ (pre_v ⟨rfl, t13⟩ hKN (recv hKN t13.1 rfl)) rfl rfl hl.1 rfl (lv_room (Nat.le_of_ble_eq_true rfl)) dX1_senders_35 ⟨Nat.zero_le _, Nat.zero_le _⟩) (fun r35 hr35 => ?_)
          have hr35 : r35 = O.2.2.2 j13 1 := by
            rw [hr35]
            exact fl1_lt (i := 1) (by omega) t13.2.2
          subst hr35
          refine pq_q (va_runV (As := [.int (O.2.2.2 j13 1)]) (rest := []) ⟨hx, hb, hml, hown, hts⟩ (c_X1_thingMeantBy l D cI cZ cT ρ h tq th O mt wh _ (O.2.2.2 j13 1)) (cwV 1 hts gX1_senders_X1_thingMeantBy rfl rfl rfl (by decide +kernel) ⟨Nat.le_of_ble_eq_true rfl, Nat.le_of_ble_eq_true rfl⟩) (pre_v ⟨rfl, hp⟩ hKN (recv hKN hp.1 rfl)) rfl rfl hl.1 rfl (lv_room (Nat.le_of_ble_eq_true rfl)) dX1_senders_38 ⟨Nat.zero_le _, Nat.zero_le _⟩) (fun h38 => ?_) (fun a38 h38 => ?_)
          · have e38 := tp_none h38
            refine lv_astoreN (lv' := [(5, .null), (4, .ref a13), (0, .ref h), (1, .int sel), (2, .int (cnt (spr O sel) k)), (3, .int (nI (k + 1)))]) hx hb dX1_senders_41 hl (by decide) rfl (fun ls hl => ?_)
            refine lv_aloadN hx hb dX1_senders_43 (lv_at hl 0 rfl) ?_
            refine lv_ifnullN (tgt := 61) hx hb dX1_senders_45 (by decide) ?_
            have ec : cnt (spr O sel) k = cnt (spr O sel) (k + 1) := cnt_f (by unfold spr; rw [← ej13, fnd_none e38, Option.isSome_none, Bool.and_false])
            rw [ec] at hl
            refine lv_iinc (v := ((nI (k + 1)) + 1)) (lv' := [(3, .int ((nI (k + 1)) + 1)), (5, .null), (4, .ref a13), (0, .ref h), (1, .int sel), (2, .int (cnt (spr O sel) (k + 1)))]) hx hb dX1_senders_61 hl (k := 5) rfl rfl (by decide) rfl (fun ls hl => ?_)
            refine lv_goto (tgt := 4) hx hb dX1_senders_64 (by decide) ?_
            rw [← nI_succ] at hl
            exact ih (k + 1) (by omega) _ (lv_sub hl [3, 4, 5, 0] rfl)
          · obtain ⟨j38, f38, e38, x38, y38, z38, l38, u38, m38, t38⟩ := tp_some h38
            refine lv_astore (lv' := [(5, .ref a38), (4, .ref a13), (0, .ref h), (1, .int sel), (2, .int (cnt (spr O sel) k)), (3, .int (nI (k + 1)))]) hx hb dX1_senders_41 hl (by decide) rfl (fun ls hl => ?_)
            refine lv_aload hx hb dX1_senders_43 (lv_at hl 0 rfl) ?_
            refine lv_ifnull hx hb dX1_senders_45 ?_
            refine lv_aload hx hb dX1_senders_48 (lv_at hl 0 rfl) ?_
            refine lv_iload_n hx hb dX1_senders_50 rfl (lv_at hl 3 rfl) ?_
            refine pq_i (va_runVN (As := [.int sel]) (rest := []) ⟨hx, hb, hml, hown, hts⟩ (c_X0_placeOfMethod l D cI cZ cT a38 f38 (O.2.1 j38) (O.2.2.1 j38) (O.2.2.2 j38) _ sel) ⟨va_cnB 1 hts gX1_senders_X0_placeOfMethod_n78 rfl rfl rfl hKN.2.2.2.2.2.2.2.1 (hts (.initialized RX0) (by decide +kernel)) (by decide +kernel) ⟨Nat.le_of_ble_eq_true rfl, Nat.le_of_ble_eq_true rfl⟩, hts (.instanceMethod yX0_placeOfMethod) (by decide +kernel), hts (.selects RX0 yX0_placeOfMethod yX0_placeOfMethod) (by decide +kernel)⟩ (pre_v ⟨rfl, t38⟩ hKN (recv hKN t38.1 rfl)) rfl rfl hl.1 rfl (lv_room (Nat.le_of_ble_eq_true rfl)) dX1_senders_51 ⟨Nat.zero_le _, Nat.zero_le _⟩) (fun r51 hr51 => ?_)
            rcases hpm51 : pm (O.2.2.2 j38) (O.2.2.1 j38) sel with _ | i51
            · rw [hpm51] at hr51
              subst hr51
              show W p l e _ s m _ below meth c _ _ _ _ _ (F0 m 54 ls [.int (-1)])
              refine lv_iconst (v := (-1)) hx hb dX1_senders_54 (by decide) ?_
              refine lv_icmp_eq (tgt := 61) hx hb dX1_senders_55 (by decide) (fun _ => ?_) (fun c9 => absurd (by decide) c9)
              have ec : cnt (spr O sel) k = cnt (spr O sel) (k + 1) := cnt_f (by unfold spr; rw [← ej13, fnd_not e38 hpm51, Option.isSome_none, Bool.and_false])
              rw [ec] at hl
              refine lv_iinc (v := ((nI (k + 1)) + 1)) (lv' := [(3, .int ((nI (k + 1)) + 1)), (5, .ref a38), (4, .ref a13), (0, .ref h), (1, .int sel), (2, .int (cnt (spr O sel) (k + 1)))]) hx hb dX1_senders_61 hl (k := 5) rfl rfl (by decide) rfl (fun ls hl => ?_)
              refine lv_goto (tgt := 4) hx hb dX1_senders_64 (by decide) ?_
              rw [← nI_succ] at hl
              exact ih (k + 1) (by omega) _ (lv_sub hl [3, 4, 5, 0] rfl)
            · rw [hpm51] at hr51
              subst hr51
              have hlt51 := pm_lt hpm51
              show W p l e _ s m _ below meth c _ _ _ _ _ (F0 m 54 ls [.int (nI (i51 + 1))])
              refine lv_iconst (v := (-1)) hx hb dX1_senders_54 (by decide) ?_
              refine lv_icmp_eq (tgt := 61) hx hb dX1_senders_55 (by decide) (fun c9 => absurd c9 (nI_nm1 (by have := t38.2.2; omega))) (fun _ => ?_)
              refine lv_iinc (v := ((cnt (spr O sel) k) + 1)) (lv' := [(2, .int ((cnt (spr O sel) k) + 1)), (5, .ref a38), (4, .ref a13), (0, .ref h), (1, .int sel), (3, .int (nI (k + 1)))]) hx hb dX1_senders_58 hl (k := 4) rfl rfl (by decide) rfl (fun ls hl => ?_)
              have ec : cnt (spr O sel) k + 1 = cnt (spr O sel) (k + 1) := cnt_t (by unfold spr; rw [mj13, ← ej13, b25, fnd_some e38 hpm51]; rfl)
              rw [ec] at hl
              refine lv_iinc (v := ((nI (k + 1)) + 1)) (lv' := [(3, .int ((nI (k + 1)) + 1)), (2, .int (cnt (spr O sel) (k + 1))), (5, .ref a38), (4, .ref a13), (0, .ref h), (1, .int sel)]) hx hb dX1_senders_61 hl (k := 5) rfl rfl (by decide) rfl (fun ls hl => ?_)
              refine lv_goto (tgt := 4) hx hb dX1_senders_64 (by decide) ?_
              rw [← nI_succ] at hl
              exact ih (k + 1) (by omega) _ (lv_sub hl [4, 5, 1, 0] rfl)
  exact loop 400 0 (by omega) _ (lv_sub hl [2, 3, 1, 0] rfl)
