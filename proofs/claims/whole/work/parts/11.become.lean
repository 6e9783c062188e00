theorem bec_a {O : Ob} {a b : Int32} (h : tk O a = none) : bec O a b = (-1, O) := by
  unfold bec
  rw [h]
theorem bec_b {O : Ob} {a b : Int32} {j : Nat} (h : tk O a = some j) (h2 : tk O b = none) : bec O a b = (-1, O) := by
  simp only [bec, h, h2]
theorem bec_eq {O : Ob} {a b : Int32} {j i : Nat} (h : tk O a = some j) (h2 : tk O b = some i) (h3 : a = b) : bec O a b = (0, O) := by
  simp only [bec, h, h2, if_pos h3]
theorem bec_go {O : Ob} {a b : Int32} {j i : Nat} (h : tk O a = some j) (h2 : tk O b = some i) (h3 : ¬ a = b) : bec O a b = (xt O (2 * a) (2 * b) 400, xo O (2 * a) (2 * b) 400) := by
  simp only [bec, h, h2, if_neg h3]
set_option maxHeartbeats 4000000 in
set_option maxRecDepth 100000 in
theorem c_X1_become (l : Launch) (D : va_G) (cI cZ cT : ClassId) (ρ : Nat → Nat) (h tq : Nat) (th : Nat → Option Nat) (O : Ob) (mt wh : Int32) (H0 : Heap) (a b : Int32) : Met l yX1_become wsX1_become ({ frames := 1, cells := 0, slots := 0, locals := 24 }) (pK D cI cZ cT [.ref h, .int a, .int b] (fun H => H = H0 ∧ px D cI cT ρ h tq th O mt wh H0)) (pm_Qi (fun r H1 => r = (bec O a b).1 ∧ px D cI cT ρ h tq th (bec O a b).2 mt wh H1) (fun q : Nat => ρ q ≠ 0)) 0 0 (fun q : Nat => ρ q ≠ 0) := by
  refine Met.ofW (cc := cX1_become) (maxL := 6) (ret := (some .int)) (by decide) rfl ?_
  intro p e s m args below meth c s₁ B hml hv
  obtain ⟨rfl, hpic, hKN⟩ := hv
  have hK := hKN.1
  have hx := B.exec
  have hb := B.bytes
  have hr := B.returns
  have hts := atoms_spec (ws := wsX1_become) B.pre
  have hown : s.vm.findClass RX1 = some m.cls := findClass_of_methodNamed B.named
  have hlocks := B.notSynchronized
  obtain ⟨hH, hp⟩ := hpic
  subst hH
  have hS : va_S (fun q : Nat => ρ q ≠ 0) s.heap s.heap [] := va_S.rf
  have hl := lv_entry ([.ref h, .int a, .int b]) (n := 6) (Nat.le_of_ble_eq_true rfl)
  rw [lg_entry_eq]
  generalize (lg_sl ([.ref h, .int a, .int b]) ++ List.replicate (6 - (lg_sl ([.ref h, .int a, .int b])).length) Slot.unset).toArray = ls at hl ⊢
  have hl : lv_has ls 6 [(0, .ref h), (1, .int a), (2, .int b)] := hl
  refine lv_aload_n hx hb dX1_become_0 rfl (lv_at hl 0 rfl) ?_
  refine lv_iload_n hx hb dX1_become_1 rfl (lv_at hl 1 rfl) ?_
  refine pq_q (va_runV (As := [.int a]) (rest := []) ⟨hx, hb, hml, hown, hts⟩ (c_X1_thingOf l D cI cZ cT ρ h tq th O mt wh _ a) (cwV 1 hts gX1_become_X1_thingOf rfl rfl rfl (by decide +kernel) ⟨Nat.le_of_ble_eq_true rfl, Nat.le_of_ble_eq_true rfl⟩) (pre_v ⟨rfl, hp⟩ hKN (recv hKN hp.1 rfl)) rfl rfl hl.1 rfl (lv_room (Nat.le_of_ble_eq_true rfl)) dX1_become_2 ⟨Nat.zero_le _, Nat.zero_le _⟩) (fun h2 => ?_) (fun a2 h2 => ?_)
  · have e2 := tp_none h2
    refine lv_ifnullN (tgt := 16) hx hb dX1_become_5 (by decide) ?_
    refine lv_iconst (v := (-1)) hx hb dX1_become_16 (by decide) ?_
    refine W.iret (v := (-1)) hx hb hr (fun t ht hW => ⟨⟨_, rfl, ?_⟩, hS.F ht⟩) hS.2.2 dX1_become_17
    rw [ht]
    rw [bec_a e2]
    exact ⟨rfl, hp⟩
  · obtain ⟨j2, f2, e2, x2, y2, z2, l2, u2, m2, t2⟩ := tp_some h2
    refine lv_ifnull hx hb dX1_become_5 ?_
    refine lv_aload_n hx hb dX1_become_8 rfl (lv_at hl 0 rfl) ?_
    refine lv_iload_n hx hb dX1_become_9 rfl (lv_at hl 2 rfl) ?_
    refine pq_q (va_runV (As := [.int b]) (rest := []) ⟨hx, hb, hml, hown, hts⟩ (c_X1_thingOf l D cI cZ cT ρ h tq th O mt wh _ b) (cwV 1 hts gX1_become_X1_thingOf rfl rfl rfl (by decide +kernel) ⟨Nat.le_of_ble_eq_true rfl, Nat.le_of_ble_eq_true rfl⟩) (pre_v ⟨rfl, hp⟩ hKN (recv hKN hp.1 rfl)) rfl rfl hl.1 rfl (lv_room (Nat.le_of_ble_eq_true rfl)) dX1_become_10 ⟨Nat.zero_le _, Nat.zero_le _⟩) (fun h10 => ?_) (fun a10 h10 => ?_)
    · have e10 := tp_none h10
      refine lv_ifnonnullN hx hb dX1_become_13 ?_
      refine lv_iconst (v := (-1)) hx hb dX1_become_16 (by decide) ?_
      refine W.iret (v := (-1)) hx hb hr (fun t ht hW => ⟨⟨_, rfl, ?_⟩, hS.F ht⟩) hS.2.2 dX1_become_17
      rw [ht]
      rw [bec_b e2 e10]
      exact ⟨rfl, hp⟩
    · obtain ⟨j10, f10, e10, x10, y10, z10, l10, u10, m10, t10⟩ := tp_some h10
      refine lv_ifnonnull (tgt := 18) hx hb dX1_become_13 (by decide) ?_
      refine lv_iload_n hx hb dX1_become_18 rfl (lv_at hl 1 rfl) ?_
      refine lv_iload_n hx hb dX1_become_19 rfl (lv_at hl 2 rfl) ?_
      refine lv_icmp_ne (tgt := 25) hx hb dX1_become_20 (by decide) (fun c20 => ?_) (fun c20 => ?_)
      · refine lv_iconst (v := 0) hx hb dX1_become_25 (by decide) ?_
        refine lv_istore_n (lv' := [(3, .int 0), (0, .ref h), (1, .int a), (2, .int b)]) hx hb dX1_become_26 rfl hl (by decide) rfl (fun ls hl => ?_)
        refine lv_iconst (v := 1) hx hb dX1_become_27 (by decide) ?_
        refine lv_istore (lv' := [(4, .int 1), (3, .int 0), (0, .ref h), (1, .int a), (2, .int b)]) hx hb dX1_become_28 hl (by decide) rfl (fun ls hl => ?_)
        have loop : ∀ (q k : Nat), k + q = 400 → ∀ (H : Heap) (locs : List Loc), px D cI cT ρ h tq th (xo O (2 * a) (2 * b) k) mt wh H → va_S (fun q : Nat => ρ q ≠ 0) s.heap H locs → ∀ ls : Array Slot, lv_has ls 6 [(0, .ref h), (1, .int a), (2, .int b), (3, .int (xt O (2 * a) (2 * b) k)), (4, .int (nI (k + 1)))] → W p l e (headSpec wsX1_become ({ frames := 1, cells := 0, slots := 0, locals := 24 })).room s m ([.ref h, .int a, .int b] : List Value).toArray below meth c H locs 0 0 (MQ below (pm_Qi (fun r H1 => r = (bec O a b).1 ∧ px D cI cT ρ h tq th (bec O a b).2 mt wh H1) (fun q : Nat => ρ q ≠ 0)) ([.ref h, .int a, .int b] : List Value).toArray s 0 0 (fun q : Nat => ρ q ≠ 0)) (F0 m 30 ls []) := by
          intro q
          induction q with
          | zero =>
            intro k h1 H locs hp hS ls hl
            refine lv_iload hx hb dX1_become_30 (lv_at hl 4 rfl) ?_
            refine lv_sipush (v := 400) hx hb dX1_become_32 (by decide) ?_
            refine lv_icmp_gt (tgt := 73) hx hb dX1_become_35 (by decide) (fun _ => ?_) (fun c9 => absurd (by rw [i_lt, i_400, nI_toInt (by omega)]; omega) c9)
            refine lv_iload_n hx hb dX1_become_73 rfl (lv_at hl 3 rfl) ?_
            refine W.iret (v := (xt O (2 * a) (2 * b) k)) hx hb hr (fun t ht hW => ⟨⟨_, rfl, ?_⟩, hS.F ht⟩) hS.2.2 dX1_become_74
            rw [ht]
            have e9 : k = 400 := by omega
            subst e9
            rw [bec_go e2 e10 c20]
            exact ⟨rfl, hp⟩
          | succ q ih =>
            intro k h1 H locs hp hS ls hl
            refine lv_iload hx hb dX1_become_30 (lv_at hl 4 rfl) ?_
            refine lv_sipush (v := 400) hx hb dX1_become_32 (by decide) ?_
            refine lv_icmp_gt (tgt := 73) hx hb dX1_become_35 (by decide) (fun c9 => absurd c9 (by rw [i_lt, i_400, nI_toInt (by omega)]; omega)) (fun _ => ?_)
            refine lv_aload_n hx hb dX1_become_38 rfl (lv_at hl 0 rfl) ?_
            refine lv_iload hx hb dX1_become_39 (lv_at hl 4 rfl) ?_
            refine pq_q (va_runV (As := [.int (nI (k + 1))]) (rest := []) ⟨hx, hb, hml, hown, hts⟩ (c_X1_thingOf l D cI cZ cT ρ h tq th (xo O (2 * a) (2 * b) k) mt wh _ (nI (k + 1))) (cwV 1 hts gX1_become_X1_thingOf rfl rfl rfl (by decide +kernel) ⟨Nat.le_of_ble_eq_true rfl, Nat.le_of_ble_eq_true rfl⟩) (pre_v ⟨rfl, hp⟩ hKN (recv hKN hp.1 rfl)) rfl rfl hl.1 rfl (lv_room (Nat.le_of_ble_eq_true rfl)) dX1_become_41 ⟨Nat.zero_le _, Nat.zero_le _⟩) (fun h41 => ?_) (fun a41 h41 => ?_)
            · have e41 := tp_none h41
              have m41 : O.1 (k + 1) = false := tk_none e41 (by omega) (by omega)
              refine lv_astoreN (lv' := [(5, .null), (0, .ref h), (1, .int a), (2, .int b), (3, .int (xt O (2 * a) (2 * b) k)), (4, .int (nI (k + 1)))]) hx hb dX1_become_44 hl (by decide) rfl (fun ls hl => ?_)
              refine lv_aloadN hx hb dX1_become_46 (lv_at hl 0 rfl) ?_
              refine lv_ifnullN (tgt := 67) hx hb dX1_become_48 (by decide) ?_
              rw [xo_same m41] at hp
              have ec : xt O (2 * a) (2 * b) k = xt O (2 * a) (2 * b) (k + 1) := xt_f m41
              rw [ec] at hl
              refine lv_iinc (v := ((nI (k + 1)) + 1)) (lv' := [(4, .int ((nI (k + 1)) + 1)), (5, .null), (0, .ref h), (1, .int a), (2, .int b), (3, .int (xt O (2 * a) (2 * b) (k + 1)))]) hx hb dX1_become_67 hl (k := 5) rfl rfl (by decide) rfl (fun ls hl => ?_)
              refine lv_goto (tgt := 30) hx hb dX1_become_70 (by decide) ?_
              rw [← nI_succ] at hl
              exact ih (k + 1) (by omega) _ _ hp hS _ (lv_sub hl [2, 3, 4, 5, 0] rfl)
            · obtain ⟨j41, f41, e41, x41, y41, z41, l41, u41, m41, t41⟩ := tp_some h41
              obtain ⟨ej41, mj41⟩ := tk_some e41 (by omega)
              have mj : O.1 (k + 1) = true := mj41
              refine lv_astore (lv' := [(5, .ref a41), (0, .ref h), (1, .int a), (2, .int b), (3, .int (xt O (2 * a) (2 * b) k)), (4, .int (nI (k + 1)))]) hx hb dX1_become_44 hl (by decide) rfl (fun ls hl => ?_)
              refine lv_aload hx hb dX1_become_46 (lv_at hl 0 rfl) ?_
              refine lv_ifnull hx hb dX1_become_48 ?_
              refine lv_iload_n hx hb dX1_become_51 rfl (lv_at hl 4 rfl) ?_
              refine lv_aload hx hb dX1_become_52 (lv_at hl 0 rfl) ?_
              refine lv_iload_n hx hb dX1_become_54 rfl (lv_at hl 2 rfl) ?_
              refine pq_i (va_runS (As := [.int a]) (rest := [.ref a41, .int (xt O (2 * a) (2 * b) k)]) ⟨hx, hb, hml, hown, hts⟩ (c_X1_objectValue l D cI cZ cT a (by have := tz_some e2; omega) (by have := tz_some e2; omega)) (va_cwS 1 hts gX1_become_X1_objectValue rfl rfl rfl (by decide +kernel) ⟨Nat.le_of_ble_eq_true rfl, Nat.le_of_ble_eq_true rfl⟩) (pre_s trivial hKN) rfl rfl hl.1 rfl (lv_room (Nat.le_of_ble_eq_true rfl)) dX1_become_55 ⟨Nat.zero_le _, Nat.zero_le _⟩) (fun r55 hr55 => ?_)
              subst hr55
              refine lv_iload_n hx hb dX1_become_58 rfl (lv_at hl 3 rfl) ?_
              refine pq_i (va_runS (As := [.int b]) (rest := [.int (2 * a), .ref a41, .int (xt O (2 * a) (2 * b) k)]) ⟨hx, hb, hml, hown, hts⟩ (c_X1_objectValue l D cI cZ cT b (by have := tz_some e10; omega) (by have := tz_some e10; omega)) (va_cwS 1 hts gX1_become_X1_objectValue rfl rfl rfl (by decide +kernel) ⟨Nat.le_of_ble_eq_true rfl, Nat.le_of_ble_eq_true rfl⟩) (pre_s trivial hKN) rfl rfl hl.1 rfl (lv_room (Nat.le_of_ble_eq_true rfl)) dX1_become_59 ⟨Nat.zero_le _, Nat.zero_le _⟩) (fun r59 hr59 => ?_)
              subst hr59
              refine pm_i (va_runVN (As := [.int (2 * a), .int (2 * b)]) (rest := [.int (xt O (2 * a) (2 * b) k)]) ⟨hx, hb, hml, hown, hts⟩ (c_X0_exchange l D cI cZ cT a41 f41 ((xo O (2 * a) (2 * b) k).2.1 j41) ((xo O (2 * a) (2 * b) k).2.2.1 j41) ((xo O (2 * a) (2 * b) k).2.2.2 j41) _ (2 * a) (2 * b) (fun e9 => by rw [e9, z41] at y41; omega)) ⟨va_cnB 2 hts gX1_become_X0_exchange_n68 rfl rfl rfl hKN.2.2.2.2.2.2.2.2 (hts (.initialized RX0) (by decide +kernel)) (by decide +kernel) ⟨Nat.le_of_ble_eq_true rfl, Nat.le_of_ble_eq_true rfl⟩, hts (.instanceMethod yX0_exchange) (by decide +kernel), hts (.selects RX0 yX0_exchange yX0_exchange) (by decide +kernel)⟩ (pre_v ⟨rfl, t41⟩ hKN (recv hKN t41.1 rfl)) rfl rfl hl.1 rfl (lv_room (Nat.le_of_ble_eq_true rfl)) dX1_become_62 ⟨Nat.zero_le _, Nat.zero_le _⟩) hS (fun q _ h9 => by show ρ q ≠ 0; rw [show q = f41 from h9, z41]; omega) (fun q h9 => by show ρ q ≠ 0; rw [show q = f41 from h9, z41]; omega) (fun r62 H locs hr62 hz hk hS => ?_)
              obtain ⟨e62, hf⟩ := hr62
              subst e62
              have h9 := px_fields hp x41 z41 t41 hz hk hf
              clear hp
              have hp : px D cI cT ρ h tq th (xo O (2 * a) (2 * b) (k + 1)) mt wh H := by
                rw [ej41] at h9
                have e9 := xo_step (O := O) (x := 2 * a) (y := 2 * b) mj
                rw [← e9]
                exact h9
              clear h9
              refine lv_iadd hx hb dX1_become_65 ?_
              refine lv_istore_n (lv' := [(3, .int ((xt O (2 * a) (2 * b) k) + (xcn ((xo O (2 * a) (2 * b) k).2.2.2 j41) (2 * a) (2 * b) ((xo O (2 * a) (2 * b) k).2.2.1 j41)))), (5, .ref a41), (0, .ref h), (1, .int a), (2, .int b), (4, .int (nI (k + 1)))]) hx hb dX1_become_66 rfl hl (by decide) rfl (fun ls hl => ?_)
              have ec : xt O (2 * a) (2 * b) k + xcn ((xo O (2 * a) (2 * b) k).2.2.2 j41) (2 * a) (2 * b) ((xo O (2 * a) (2 * b) k).2.2.1 j41) = xt O (2 * a) (2 * b) (k + 1) := by
                rw [ej41]
                exact xt_t mj
              rw [ec] at hl
              refine lv_iinc (v := ((nI (k + 1)) + 1)) (lv' := [(4, .int ((nI (k + 1)) + 1)), (3, .int (xt O (2 * a) (2 * b) (k + 1))), (5, .ref a41), (0, .ref h), (1, .int a), (2, .int b)]) hx hb dX1_become_67 hl (k := 5) rfl rfl (by decide) rfl (fun ls hl => ?_)
              refine lv_goto (tgt := 30) hx hb dX1_become_70 (by decide) ?_
              rw [← nI_succ] at hl
              exact ih (k + 1) (by omega) _ _ hp hS _ (lv_sub hl [3, 4, 5, 1, 0] rfl)
        exact loop 400 0 (by omega) _ _ (by rw [xo_0]; exact hp) hS _ (lv_sub hl [2, 3, 4, 1, 0] rfl)
      · refine lv_iconst (v := 0) hx hb dX1_become_23 (by decide) ?_
        refine W.iret (v := 0) hx hb hr (fun t ht hW => ⟨⟨_, rfl, ?_⟩, hS.F ht⟩) hS.2.2 dX1_become_24
        rw [ht]
        rw [bec_eq e2 e10 c20]
        exact ⟨rfl, hp⟩
theorem iw_X1_make_X1 : ∀ w ∈ wsX10, w ∈ wsX1_make := by decide +kernel
theorem iw_X1_make_X0 : ∀ w ∈ wsX00, w ∈ wsX1_make := by decide +kernel
theorem iw_X1_init_X1 : ∀ w ∈ wsX10, w ∈ wsX1_init := by decide +kernel
theorem px_make {D : va_G} {cI cT : ClassId} {ρ : Nat → Nat} {h tq : Nat} {th : Nat → Option Nat} {O : Ob} {mt wh : Int32} {H H3 : Heap} {a f k n : Nat} {b : Bool} (hp : px D cI cT ρ h tq th O mt wh H) (ha : H.size ≤ a) (hf : H.size ≤ f) (hne : a ≠ f) (hz : H.size ≤ H3.size) (hk : ∀ q, q < H.size → q ≠ tq → H3[q]? = H[q]?) (htq : va_at D vwCl (tq, .inl (cT, 401, .inr (.inr (.inr (.inr (va_up th k (some a))))))) H3) (ht : tg D cI a f b n (fun _ => 0) H3) : ∃ (ρ' : Nat → Nat) (th' : Nat → Option Nat), px D cI cT ρ' h tq th' (va_up O.1 k true, va_up O.2.1 k b, va_up O.2.2.1 k n, va_up O.2.2.2 k (fun _ => 0)) mt wh H3 ∧ ∀ q, ρ' q ≠ 0 → ρ q ≠ 0 ∨ H.size ≤ q := by
  obtain ⟨h1, h2, r1, r2, hs, he, ho⟩ := hp
  have own : ∀ q, ρ q ≠ 0 → q ≠ a ∧ q ≠ f := fun q hq => ⟨fun e => by have := hs q hq; omega, fun e => by have := hs q hq; omega⟩
  have keep : ∀ q, ρ q ≠ 0 → va_up (va_up ρ a (2 * k + 3)) f (2 * k + 4) q = ρ q := fun q hq => by
    rw [va_up_ne _ _ (own q hq).2, va_up_ne _ _ (own q hq).1]
  have kept : ∀ q, ρ q ≠ 0 → ρ q ≠ 2 → H3[q]? = H[q]? := fun q hq h9 => hk q (hs q hq) (fun e => h9 (by rw [e]; exact r2))
  refine ⟨va_up (va_up ρ a (2 * k + 3)) f (2 * k + 4), va_up th k (some a), ⟨h1.kept (kept h (by rw [r1]; decide) (by rw [r1]; decide)), htq, by rw [keep h (by rw [r1]; decide)]; exact r1, by rw [keep tq (by rw [r2]; decide)]; exact r2, fun q hq => ?_, he, fun j hj1 hj2 => ?_⟩, fun q hq => ?_⟩
  · by_cases e1 : q = f
    · rw [e1]; exact ht.2.1.lt
    · by_cases e2 : q = a
      · rw [e2]; exact ht.1.lt
      · rw [va_up_ne _ _ e1, va_up_ne _ _ e2] at hq
        exact Nat.lt_of_lt_of_le (hs q hq) hz
  · by_cases hjk : j = k
    · subst hjk
      refine Or.inr ⟨va_up_self _ _ _, a, f, va_up_self _ _ _, by rw [va_up_ne _ _ hne, va_up_self], va_up_self _ _ _, ?_⟩
      show tg D cI a f (va_up O.2.1 j b j) (va_up O.2.2.1 j n j) (va_up O.2.2.2 j (fun _ => 0) j) H3
      rw [va_up_self, va_up_self, va_up_self]
      exact ht
    · show (va_up O.1 k true j = false ∧ va_up th k (some a) j = none) ∨ (va_up O.1 k true j = true ∧ ∃ a2 f2, va_up th k (some a) j = some a2 ∧ _ ∧ _ ∧ tg D cI a2 f2 (va_up O.2.1 k b j) (va_up O.2.2.1 k n j) (va_up O.2.2.2 k (fun _ => 0) j) H3)
      rw [va_up_ne _ _ hjk, va_up_ne _ _ hjk, va_up_ne _ _ hjk, va_up_ne _ _ hjk, va_up_ne _ _ hjk]
      rcases ho j hj1 hj2 with hn | ⟨hm, a2, f2, e1, e2, e3, t2⟩
      · exact Or.inl hn
      · refine Or.inr ⟨hm, a2, f2, e1, ?_, ?_, tg_keep t2 (kept a2 (by omega) (by omega)) (kept f2 (by omega) (by omega))⟩
        · rw [keep a2 (by omega)]; exact e2
        · rw [keep f2 (by omega)]; exact e3
  · by_cases e1 : q = f
    · exact Or.inr (by omega)
    · by_cases e2 : q = a
      · exact Or.inr (by omega)
      · rw [va_up_ne _ _ e1, va_up_ne _ _ e2] at hq
        exact Or.inl hq
set_option maxHeartbeats 4000000 in
set_option maxRecDepth 100000 in
theorem c_X1_make (l : Launch) (D : va_G) (cI cZ cT : ClassId) (ρ : Nat → Nat) (h tq : Nat) (th : Nat → Option Nat) (O : Ob) (mt wh : Int32) (H0 : Heap) (k n : Int32) (b : Bool) : Met l yX1_make wsX1_make ({ frames := 2, cells := 2, slots := 42, locals := 34 }) (pK D cI cZ cT [.ref h, .int k, .int n, .int (b2i b)] (fun H => H = H0 ∧ px D cI cT ρ h tq th O mt wh H0)) (pm_Qi (fun r H1 => (¬ mkok k n ∧ r = 0 ∧ px D cI cT ρ h tq th O mt wh H1) ∨ (mkok k n ∧ r = 1 ∧ ∃ (ρ' : Nat → Nat) (th' : Nat → Option Nat), px D cI cT ρ' h tq th' (mko O k n b) mt wh H1 ∧ ∀ q, ρ' q ≠ 0 → ρ q ≠ 0 ∨ H0.size ≤ q)) (fun q : Nat => ρ q ≠ 0 ∨ H0.size ≤ q)) 2 42 (fun q : Nat => ρ q ≠ 0 ∨ H0.size ≤ q) := by
  refine Met.ofW (cc := cX1_make) (maxL := 4) (ret := (some .boolean)) (by decide) rfl ?_
  intro p e s m args below meth c s₁ B hml hv
  obtain ⟨rfl, hpic, hKN⟩ := hv
  have hK := hKN.1
  have hx := B.exec
  have hb := B.bytes
  have hr := B.returns
  have hts := atoms_spec (ws := wsX1_make) B.pre
  have hown : s.vm.findClass RX1 = some m.cls := findClass_of_methodNamed B.named
  have hlocks := B.notSynchronized
  obtain ⟨hH, hp⟩ := hpic
  subst hH
  have hS : va_S (fun q : Nat => ρ q ≠ 0 ∨ s.heap.size ≤ q) s.heap s.heap [] := va_S.rf
  have hl := lv_entry ([.ref h, .int k, .int n, .int (b2i b)]) (n := 4) (Nat.le_of_ble_eq_true rfl)
  rw [lg_entry_eq]
  generalize (lg_sl ([.ref h, .int k, .int n, .int (b2i b)]) ++ List.replicate (4 - (lg_sl ([.ref h, .int k, .int n, .int (b2i b)])).length) Slot.unset).toArray = ls at hl ⊢
  have hl : lv_has ls 4 [(0, .ref h), (1, .int k), (2, .int n), (3, .int (b2i b))] := hl
  refine lv_iload_n hx hb dX1_make_0 rfl (lv_at hl 1 rfl) ?_
  refine lv_iconst (v := 1) hx hb dX1_make_1 (by decide) ?_
  refine lv_icmp_lt (tgt := 22) hx hb dX1_make_2 (by decide) (fun c2 => ?_) (fun c2 => ?_)
  · simp only [i_lt, i_le, i_0, i_1, i_2, i_4, i_40, i_100, i_400, i_401] at c2
    refine lv_iconst (v := 0) hx hb dX1_make_22 (by decide) ?_
    refine W.widen (k := 2) (n := 42) (Nat.zero_le _) (Nat.zero_le _) ?_
    refine W.zret (v := 0) (ty := .boolean) hx hb hr rfl (fun t ht hW => ⟨⟨_, rfl, ?_⟩, hS.F ht⟩) hS.2.2 dX1_make_23
    rw [ht]
    exact Or.inl ⟨fun h9 => by obtain ⟨h5, h6, h7, h8⟩ := h9; omega, rfl, hp⟩
  · simp only [i_lt, i_le, i_0, i_1, i_2, i_4, i_40, i_100, i_400, i_401] at c2
    refine lv_iload_n hx hb dX1_make_5 rfl (lv_at hl 1 rfl) ?_
    refine lv_sipush (v := 400) hx hb dX1_make_6 (by decide) ?_
    refine lv_icmp_gt (tgt := 22) hx hb dX1_make_9 (by decide) (fun c9 => ?_) (fun c9 => ?_)
    · simp only [i_lt, i_le, i_0, i_1, i_2, i_4, i_40, i_100, i_400, i_401] at c9
      refine lv_iconst (v := 0) hx hb dX1_make_22 (by decide) ?_
      refine W.widen (k := 2) (n := 42) (Nat.zero_le _) (Nat.zero_le _) ?_
      refine W.zret (v := 0) (ty := .boolean) hx hb hr rfl (fun t ht hW => ⟨⟨_, rfl, ?_⟩, hS.F ht⟩) hS.2.2 dX1_make_23
      rw [ht]
      exact Or.inl ⟨fun h9 => by obtain ⟨h5, h6, h7, h8⟩ := h9; omega, rfl, hp⟩
    · simp only [i_lt, i_le, i_0, i_1, i_2, i_4, i_40, i_100, i_400, i_401] at c9
      refine lv_iload_n hx hb dX1_make_12 rfl (lv_at hl 2 rfl) ?_
      refine lv_if_lt (tgt := 22) hx hb dX1_make_13 (by decide) (fun c13 => ?_) (fun c13 => ?_)
      · simp only [i_lt, i_le, i_0, i_1, i_2, i_4, i_40, i_100, i_400, i_401] at c13
        refine lv_iconst (v := 0) hx hb dX1_make_22 (by decide) ?_
        refine W.widen (k := 2) (n := 42) (Nat.zero_le _) (Nat.zero_le _) ?_
        refine W.zret (v := 0) (ty := .boolean) hx hb hr rfl (fun t ht hW => ⟨⟨_, rfl, ?_⟩, hS.F ht⟩) hS.2.2 dX1_make_23
        rw [ht]
        exact Or.inl ⟨fun h9 => by obtain ⟨h5, h6, h7, h8⟩ := h9; omega, rfl, hp⟩
      · simp only [i_lt, i_le, i_0, i_1, i_2, i_4, i_40, i_100, i_400, i_401] at c13
        refine lv_iload_n hx hb dX1_make_16 rfl (lv_at hl 2 rfl) ?_
        refine lv_bipush (v := 40) hx hb dX1_make_17 (by decide) ?_
        refine lv_icmp_le (tgt := 24) hx hb dX1_make_19 (by decide) (fun c19 => ?_) (fun c19 => ?_)
        · simp only [i_lt, i_le, i_0, i_1, i_2, i_4, i_40, i_100, i_400, i_401] at c19
          refine lv_aload_n hx hb dX1_make_24 rfl (lv_at hl 0 rfl) ?_
          refine va_get (D := D) (ci := 1) (v := .ref tq) (C := RX1) (T := TX1) (N := 3) hx hb hts (iw_X1_make_X1) hown hK (one hp.1) 0 rfl rfl 0 (by decide) (hts (.fieldLink RX1 11 "MethodBook" "things" "[LMethodBook$Thing;") (by decide +kernel)) (fun _ h9 => h9) rfl dX1_make_25 ?_
          refine lv_iload_n hx hb dX1_make_28 rfl (lv_at hl 1 rfl) ?_
          refine pw_new (ci := 0) (fs := [.null, .int 0]) (C := RX0) (T := TX0) (N := 2) hx hb hts (iw_X1_make_X0) tyX0 tyX0_ok hown (hts (.classLink RX1 9 RX0) (by decide +kernel)) (hts (.instantiable RX0 2) (by decide +kernel)) (hts (.initialized RX0) (by decide +kernel)) hK hS rfl (fun j hj => by rcases (show j = 0 ∨ j = 1 by omega) with rfl | rfl <;> rfl) (Nat.le_of_ble_eq_true rfl) (Nat.le_of_ble_eq_true rfl) dX1_make_29 (fun q29 H hq29 hn29 hz29 ho29 hS => ?_)
          refine lv_dup hx hb dX1_make_32 rfl ?_
          refine lv_iload_n hx hb dX1_make_33 rfl (lv_at hl 3 rfl) ?_
          refine lv_if_eq (tgt := 41) hx hb dX1_make_34 (by decide) (fun c34 => ?_) (fun c34 => ?_)
          · refine lv_iconst (v := 0) hx hb dX1_make_41 (by decide) ?_
            refine lv_iload_n hx hb dX1_make_42 rfl (lv_at hl 3 rfl) ?_
            refine pm_v (va_runIN (As := [.int 0, .int (b2i b)]) (rest := [.ref q29, .int k, .ref tq]) ⟨hx, hb, hml, hown, hts⟩ (c_X0_init l D cI cZ cT q29 0 b H (by decide) (by decide)) ⟨va_cnB 2 hts gX1_make_X0_init_n22 rfl rfl rfl hKN.2.1 (hts (.initialized RX0) (by decide +kernel)) (by decide +kernel) ⟨Nat.le_of_ble_eq_true rfl, Nat.le_of_ble_eq_true rfl⟩, rfl, hts (.instanceMethod yX0_init) (by decide +kernel)⟩ (pre_s ⟨rfl, hn29⟩ hKN) rfl rfl hl.1 rfl (lv_room (Nat.le_of_ble_eq_true rfl)) dX1_make_43 ⟨Nat.le_of_ble_eq_true rfl, Nat.le_of_ble_eq_true rfl⟩) hS (fun q h8 h9 => Or.inr (by rcases h9 with h9 | h9 <;> omega)) (fun q h9 => Or.inr (by rcases h9 with h9 | h9 <;> omega)) (fun t3 H3 locs ht3 _ hq3 hz3 hk3 hS => ?_)
            obtain ⟨f3, tg3, hf3⟩ := hq3
            rw [ht3] at tg3
            have htq3 := (hp.2.1.kept (ho29 tq (hp.2.2.2.2.1 tq (by rw [hp.2.2.2.1]; decide)))).kept (hk3 tq (by have := hp.2.2.2.2.1 tq (by rw [hp.2.2.2.1]; decide); omega) (fun h9 => by have := hp.2.2.2.2.1 tq (by rw [hp.2.2.2.1]; decide); rcases h9 with h9 | h9 <;> omega))
            refine pw_aast (ci := 0) hx hb hK hS (Or.inl (by rw [hp.2.2.2.1]; decide)) 2 htq3 rfl tg3.1 rfl (vp_in_iff.mpr ⟨by omega, by omega⟩) dX1_make_46 (fun H4 locs htq4 hz4 ho4 hS => ?_)
            have hwf := hp.2.2.2.2.1 tq (by rw [hp.2.2.2.1]; decide)
            have tg4 := tg_keep tg3 (ho4 q29 (by omega)) (ho4 f3 (by omega))
            have e34 : f3 ≠ q29 := fun e9 => by omega
            refine lv_iconst (v := 1) hx hb dX1_make_47 (by decide) ?_
            refine W.zret (v := 1) (ty := .boolean) hx hb hr rfl (fun t ht hW => ⟨⟨_, rfl, ?_⟩, hS.F ht⟩) hS.2.2 dX1_make_48
            rw [ht]
            refine Or.inr ⟨⟨by omega, by omega, by omega, by omega⟩, rfl, ?_⟩
            have h9 := px_make (H3 := H4) hp (by omega) (by omega) (fun e9 => e34 e9.symm) (by omega) (fun q h5 h6 => by rw [ho4 q h6, hk3 q (by omega) (fun h7 => by rcases h7 with h7 | h7 <;> omega), ho29 q h5]) htq4 tg4
            have eb := b2i_z c34
            subst eb
            exact h9
          · refine lv_iload_n hx hb dX1_make_37 rfl (lv_at hl 2 rfl) ?_
            refine lv_goto (tgt := 42) hx hb dX1_make_38 (by decide) ?_
            refine lv_iload_n hx hb dX1_make_42 rfl (lv_at hl 3 rfl) ?_
            refine pm_v (va_runIN (As := [.int n, .int (b2i b)]) (rest := [.ref q29, .int k, .ref tq]) ⟨hx, hb, hml, hown, hts⟩ (c_X0_init l D cI cZ cT q29 n b H (by omega) (by omega)) ⟨va_cnB 2 hts gX1_make_X0_init_n22 rfl rfl rfl hKN.2.1 (hts (.initialized RX0) (by decide +kernel)) (by decide +kernel) ⟨Nat.le_of_ble_eq_true rfl, Nat.le_of_ble_eq_true rfl⟩, rfl, hts (.instanceMethod yX0_init) (by decide +kernel)⟩ (pre_s ⟨rfl, hn29⟩ hKN) rfl rfl hl.1 rfl (lv_room (Nat.le_of_ble_eq_true rfl)) dX1_make_43 ⟨Nat.le_of_ble_eq_true rfl, Nat.le_of_ble_eq_true rfl⟩) hS (fun q h8 h9 => Or.inr (by rcases h9 with h9 | h9 <;> omega)) (fun q h9 => Or.inr (by rcases h9 with h9 | h9 <;> omega)) (fun t3 H3 locs ht3 _ hq3 hz3 hk3 hS => ?_)
            obtain ⟨f3, tg3, hf3⟩ := hq3
            rw [ht3] at tg3
            have htq3 := (hp.2.1.kept (ho29 tq (hp.2.2.2.2.1 tq (by rw [hp.2.2.2.1]; decide)))).kept (hk3 tq (by have := hp.2.2.2.2.1 tq (by rw [hp.2.2.2.1]; decide); omega) (fun h9 => by have := hp.2.2.2.2.1 tq (by rw [hp.2.2.2.1]; decide); rcases h9 with h9 | h9 <;> omega))
            refine pw_aast (ci := 0) hx hb hK hS (Or.inl (by rw [hp.2.2.2.1]; decide)) 2 htq3 rfl tg3.1 rfl (vp_in_iff.mpr ⟨by omega, by omega⟩) dX1_make_46 (fun H4 locs htq4 hz4 ho4 hS => ?_)
            have hwf := hp.2.2.2.2.1 tq (by rw [hp.2.2.2.1]; decide)
            have tg4 := tg_keep tg3 (ho4 q29 (by omega)) (ho4 f3 (by omega))
            have e34 : f3 ≠ q29 := fun e9 => by omega
            refine lv_iconst (v := 1) hx hb dX1_make_47 (by decide) ?_
            refine W.zret (v := 1) (ty := .boolean) hx hb hr rfl (fun t ht hW => ⟨⟨_, rfl, ?_⟩, hS.F ht⟩) hS.2.2 dX1_make_48
            rw [ht]
            refine Or.inr ⟨⟨by omega, by omega, by omega, by omega⟩, rfl, ?_⟩
            have h9 := px_make (H3 := H4) hp (by omega) (by omega) (fun e9 => e34 e9.symm) (by omega) (fun q h5 h6 => by rw [ho4 q h6, hk3 q (by omega) (fun h7 => by rcases h7 with h7 | h7 <;> omega), ho29 q h5]) htq4 tg4
            have eb := b2i_n c34
            subst eb
            exact h9
        · simp only [i_lt, i_le, i_0, i_1, i_2, i_4, i_40, i_100, i_400, i_401] at c19
          refine lv_iconst (v := 0) hx hb dX1_make_22 (by decide) ?_
          refine W.widen (k := 2) (n := 42) (Nat.zero_le _) (Nat.zero_le _) ?_
          refine W.zret (v := 0) (ty := .boolean) hx hb hr rfl (fun t ht hW => ⟨⟨_, rfl, ?_⟩, hS.F ht⟩) hS.2.2 dX1_make_23
          rw [ht]
          exact Or.inl ⟨fun h9 => by obtain ⟨h5, h6, h7, h8⟩ := h9; omega, rfl, hp⟩
