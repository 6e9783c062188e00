section PZ
variable {p : Program} {l : Launch} {e : Env} {R : Room} {s : State} {m : MethodId} {args : Array Value} {below : List Frame} {meth : Method} {c : Code} {H : Heap} {locs : List Loc} {cells slots : Nat} {Q : State → Prop}
variable {cc : ByteArray} {pc : Nat} {ls : Array Slot} {rest : List Value} {D : va_G} {A : Nat → Prop} {a : Nat} {tys : List (ClassId × FieldType)} {H0 : Heap}
theorem pw_zast (hexec : p.tables.exec = Jvm.exec) (hb : c.code = cc) (hK : va_K D vwCl tys s) (hS : va_S A H0 H locs) (hAa : A a) (t0 : Nat) {cA : ClassId} {n : Nat} {f : Nat → Int32} (hP : va_at D vwCl (a, .inl (cA, n, .inl f)) H) (ht : tys[t0]? = some (cA, .boolean)) {i x : Int32} (hnx : narrow .boolean (.int x) = .int x) (hin : vp_in i n) (hdg : decode cc pc = .ok (.bastore, 1))
    (kk : ∀ (H1 : Heap) (locs1 : List Loc), va_at D vwCl (a, .inl (cA, n, .inl (upd f i.toNatClampNeg x))) H1 → H1.size = H.size → (∀ q : Nat, q ≠ a → H1[q]? = H[q]?) → va_S A H0 H1 locs1 → W p l e R s m args below meth c H1 locs1 cells slots Q (F0 m (pc + 1) ls rest)) : W p l e R s m args below meth c H locs cells slots Q (F0 m pc ls (.int x :: .int i :: .ref a :: rest)) := by
  refine W.zast hexec hb hP ((hK.2 t0 _ ht).1 n (fun j => .int (f j))) (fun q => by cases q) (by show ¬ (i < 0 ∨ (arrV _ _ _).slots.size ≤ _); rw [arrV_size]; exact hin) rfl rfl hdg fun H1 e z oq => ?_
  refine kk H1 _ ?_ z oq (hS.put z oq hAa)
  show H1[a]? = some (vp_cell _ _)
  rw [e, hnx]
  rw [vp_cell_i, vp_cell_i, arrV_store]
  congr 2
  funext q
  by_cases hq : q = i.toNatClampNeg
  · subst hq
    simp [updV, upd]
  · simp [updV, upd, hq]
end PZ
theorem szv_exit {O : Ob} {k : Nat} (hb : O.2.1 k = false → O.2.2.1 k = 0) (hl : O.2.2.1 k ≤ 40) : szv O k ≤ nI (O.2.2.1 k) := by
  rw [i_le, nI_toInt (by omega)]
  unfold szv
  by_cases ho : O.2.1 k = true
  · rw [if_pos ho, nI_toInt (by omega)]
    omega
  · rw [if_neg ho, i_m1]
    omega
theorem szv_stay {O : Ob} {k i : Nat} (hb : O.2.1 k = false → O.2.2.1 k = 0) (hl : O.2.2.1 k ≤ 40) (hi : i < O.2.2.1 k) : ¬ szv O k ≤ nI i := by
  rw [i_le, nI_toInt (by omega)]
  unfold szv
  by_cases ho : O.2.1 k = true
  · rw [if_pos ho, nI_toInt (by omega)]
    omega
  · have := hb (by simpa using ho)
    omega
theorem obf_obf (O : Ob) (j : Nat) (g g' : Nat → Int32) : obf (obf O j g) j g' = obf O j g' := by
  have e : va_up (va_up O.2.2.2 j g) j g' = va_up O.2.2.2 j g' := by
    funext k
    by_cases hk : k = j
    · rw [hk, va_up_self, va_up_self]
    · rw [va_up_ne _ _ hk, va_up_ne _ _ hk, va_up_ne _ _ hk]
  show (O.1, O.2.1, O.2.2.1, va_up (va_up O.2.2.2 j g) j g') = (O.1, O.2.1, O.2.2.1, va_up O.2.2.2 j g')
  rw [e]
theorem rm_sw {X : Ob} {md sz fl : Nat → Int32} {K i : Nat} {g : Nat → Int32} {v : Int32} (hrm : rm (obf X K g) md sz fl) (hl : X.2.2.1 K ≤ 40) (hi : i < X.2.2.1 K) : rm (obf X K (upd g i v)) md sz (upd fl (40 * K + i) v) := by
  have h := rm_put (v := v) hrm (j := K) (n := i) hl hi
  rw [obf_obf] at h
  have e : (obf X K g).2.2.2 K = g := va_up_self _ _ _
  rw [e] at h
  exact h
theorem sw_1 (x y : Int32) : x + y - x = y := by rw [Int32.add_comm, Int32.add_sub_cancel]
theorem sw_2 (x y : Int32) : x + y - y = x := Int32.add_sub_cancel x y
theorem ix_n {K i : Nat} (hK : K ≤ 400) (hi : i < 40) : (40 * nI K + nI i).toInt = 40 * K + i := ix_k (k := nI K) (i := nI i) (j := K) (by rw [nI_toInt (by omega)]) hK (by rw [nI_toInt (by omega)]; omega) (by rw [nI_toInt (by omega)]; omega) |>.trans (by rw [nI_toInt (by omega)])
set_option maxHeartbeats 4000000 in
set_option maxRecDepth 100000 in
theorem c_X2_become (l : Launch) (D : va_G) (cI cZ cT : ClassId) (h a1 a2 a3 : Nat) (md sz fl : Nat → Int32) (O : Ob) (hrm : rm O md sz fl) (mt wh : Int32) (H0 : Heap) (a b : Int32) : Met l yX2_become wsX2_become ({ frames := 1, cells := 0, slots := 0, locals := 21 }) (pK D cI cZ cT [.ref h, .int a, .int b] (fun H => H = H0 ∧ my D cI cZ h a1 a2 a3 md sz fl mt wh H0)) (pm_Qi (fun r H1 => r = (bec O a b).1 ∧ ∃ fl' : Nat → Int32, rm (bec O a b).2 md sz fl' ∧ my D cI cZ h a1 a2 a3 md sz fl' mt wh H1) (fun q : Nat => q = a3)) 0 0 (fun q : Nat => q = a3) := by
  refine Met.ofW (cc := cX2_become) (maxL := 7) (ret := (some .int)) (by decide) rfl ?_
  intro p e s m args below meth c s₁ B hml hv
  obtain ⟨rfl, hpic, hKN⟩ := hv
  have hK := hKN.1
  have hx := B.exec
  have hb := B.bytes
  have hr := B.returns
  have hts := atoms_spec (ws := wsX2_become) B.pre
  have hown : s.vm.findClass RX2 = some m.cls := findClass_of_methodNamed B.named
  have hlocks := B.notSynchronized
  obtain ⟨hH, hp⟩ := hpic
  subst hH
  have hS : va_S (fun q : Nat => q = a3) s.heap s.heap [] := va_S.rf
  have hl := lv_entry ([.ref h, .int a, .int b]) (n := 7) (Nat.le_of_ble_eq_true rfl)
  rw [lg_entry_eq]
  generalize (lg_sl ([.ref h, .int a, .int b]) ++ List.replicate (7 - (lg_sl ([.ref h, .int a, .int b])).length) Slot.unset).toArray = ls at hl ⊢
  have hl : lv_has ls 7 [(0, .ref h), (1, .int a), (2, .int b)] := hl
  refine lv_aload_n hx hb dX2_become_0 rfl (lv_at hl 0 rfl) ?_
  refine lv_iload_n hx hb dX2_become_1 rfl (lv_at hl 1 rfl) ?_
  refine pq_b (va_runV (As := [.int a]) (rest := []) ⟨hx, hb, hml, hown, hts⟩ (c_X2_isMade l D cI cZ cT h a1 a2 a3 md sz fl O hrm mt wh _ a) (cwV 1 hts gX2_become_X2_isMade rfl rfl rfl (by decide +kernel) ⟨Nat.le_of_ble_eq_true rfl, Nat.le_of_ble_eq_true rfl⟩) (pre_v ⟨rfl, hp⟩ hKN (recv hKN hp.1 rfl)) rfl rfl hl.1 rfl (lv_room (Nat.le_of_ble_eq_true rfl)) dX2_become_2 ⟨Nat.zero_le _, Nat.zero_le _⟩) (fun b2 => ?_) (fun b2 => ?_)
  · have e2 := os_f b2
    refine lv_if_eq (tgt := 16) hx hb dX2_become_5 (by decide) (fun _ => ?_) (fun c9 => absurd (by decide) c9)
    refine lv_iconst (v := (-1)) hx hb dX2_become_16 (by decide) ?_
    refine W.iret (v := (-1)) hx hb hr (fun t ht hW => ⟨⟨_, rfl, ?_⟩, hS.F ht⟩) hS.2.2 dX2_become_17
    rw [ht]
    rw [bec_a e2]
    exact ⟨rfl, fl, hrm, hp⟩
  · obtain ⟨j2, e2⟩ := os_t b2
    refine lv_if_eq (tgt := 16) hx hb dX2_become_5 (by decide) (fun c9 => absurd c9 (by decide)) (fun _ => ?_)
    refine lv_aload_n hx hb dX2_become_8 rfl (lv_at hl 0 rfl) ?_
    refine lv_iload_n hx hb dX2_become_9 rfl (lv_at hl 2 rfl) ?_
    refine pq_b (va_runV (As := [.int b]) (rest := []) ⟨hx, hb, hml, hown, hts⟩ (c_X2_isMade l D cI cZ cT h a1 a2 a3 md sz fl O hrm mt wh _ b) (cwV 1 hts gX2_become_X2_isMade rfl rfl rfl (by decide +kernel) ⟨Nat.le_of_ble_eq_true rfl, Nat.le_of_ble_eq_true rfl⟩) (pre_v ⟨rfl, hp⟩ hKN (recv hKN hp.1 rfl)) rfl rfl hl.1 rfl (lv_room (Nat.le_of_ble_eq_true rfl)) dX2_become_10 ⟨Nat.zero_le _, Nat.zero_le _⟩) (fun b10 => ?_) (fun b10 => ?_)
    · have e10 := os_f b10
      refine lv_if_ne (tgt := 18) hx hb dX2_become_13 (by decide) (fun c9 => absurd rfl c9) (fun _ => ?_)
      refine lv_iconst (v := (-1)) hx hb dX2_become_16 (by decide) ?_
      refine W.iret (v := (-1)) hx hb hr (fun t ht hW => ⟨⟨_, rfl, ?_⟩, hS.F ht⟩) hS.2.2 dX2_become_17
      rw [ht]
      rw [bec_b e2 e10]
      exact ⟨rfl, fl, hrm, hp⟩
    · obtain ⟨j10, e10⟩ := os_t b10
      refine lv_if_ne (tgt := 18) hx hb dX2_become_13 (by decide) (fun _ => ?_) (fun c9 => absurd c9 (by decide))
      refine lv_iconst (v := 0) hx hb dX2_become_18 (by decide) ?_
      refine lv_istore_n (lv' := [(3, .int 0), (0, .ref h), (1, .int a), (2, .int b)]) hx hb dX2_become_19 rfl hl (by decide) rfl (fun ls hl => ?_)
      refine lv_iconst (v := 1) hx hb dX2_become_20 (by decide) ?_
      refine lv_istore (lv' := [(4, .int 1), (3, .int 0), (0, .ref h), (1, .int a), (2, .int b)]) hx hb dX2_become_21 hl (by decide) rfl (fun ls hl => ?_)
      by_cases hab : a = b
      · refine lv_iload hx hb dX2_become_23 (lv_at hl 0 rfl) ?_
        refine lv_sipush (v := 401) hx hb dX2_become_25 (by decide) ?_
        refine lv_icmp_ge (tgt := 130) hx hb dX2_become_28 (by decide) (fun c9 => absurd c9 (by decide)) (fun _ => ?_)
        refine lv_iload_n hx hb dX2_become_31 rfl (lv_at hl 3 rfl) ?_
        refine lv_iload_n hx hb dX2_become_32 rfl (lv_at hl 4 rfl) ?_
        refine lv_icmp_eq (tgt := 130) hx hb dX2_become_33 (by decide) (fun _ => ?_) (fun c9 => absurd hab c9)
        refine lv_iload_n hx hb dX2_become_130 rfl (lv_at hl 1 rfl) ?_
        refine W.iret (v := 0) hx hb hr (fun t ht hW => ⟨⟨_, rfl, ?_⟩, hS.F ht⟩) hS.2.2 dX2_become_131
        rw [ht]
        rw [bec_eq e2 e10 hab]
        exact ⟨rfl, fl, hrm, hp⟩
      · have loop : ∀ (q k : Nat), k + q = 400 → ∀ (H : Heap) (locs : List Loc) (fl1 : Nat → Int32), rm (xo O (2 * a) (2 * b) k) md sz fl1 → my D cI cZ h a1 a2 a3 md sz fl1 mt wh H → va_S (fun q : Nat => q = a3) s.heap H locs → ∀ ls : Array Slot, lv_has ls 7 [(0, .ref h), (1, .int a), (2, .int b), (3, .int (xt O (2 * a) (2 * b) k)), (4, .int (nI (k + 1)))] → W p l e (headSpec wsX2_become ({ frames := 1, cells := 0, slots := 0, locals := 21 })).room s m ([.ref h, .int a, .int b] : List Value).toArray below meth c H locs 0 0 (MQ below (pm_Qi (fun r H1 => r = (bec O a b).1 ∧ ∃ fl' : Nat → Int32, rm (bec O a b).2 md sz fl' ∧ my D cI cZ h a1 a2 a3 md sz fl' mt wh H1) (fun q : Nat => q = a3)) ([.ref h, .int a, .int b] : List Value).toArray s 0 0 (fun q : Nat => q = a3)) (F0 m 23 ls []) := by
          intro q
          induction q with
          | zero =>
            intro k h1 H locs fl1 hrm hp hS ls hl
            refine lv_iload hx hb dX2_become_23 (lv_at hl 4 rfl) ?_
            refine lv_sipush (v := 401) hx hb dX2_become_25 (by decide) ?_
            refine lv_icmp_ge (tgt := 130) hx hb dX2_become_28 (by decide) (fun _ => ?_) (fun c9 => absurd (by rw [i_le, i_401, nI_toInt (by omega)]; omega) c9)
            refine lv_iload_n hx hb dX2_become_130 rfl (lv_at hl 3 rfl) ?_
            refine W.iret (v := (xt O (2 * a) (2 * b) k)) hx hb hr (fun t ht hW => ⟨⟨_, rfl, ?_⟩, hS.F ht⟩) hS.2.2 dX2_become_131
            rw [ht]
            have e9 : k = 400 := by omega
            subst e9
            rw [bec_go e2 e10 hab]
            exact ⟨rfl, fl1, hrm, hp⟩
          | succ q ih =>
            intro k h1 H locs fl1 hrm hp hS ls hl
            refine lv_iload hx hb dX2_become_23 (lv_at hl 4 rfl) ?_
            refine lv_sipush (v := 401) hx hb dX2_become_25 (by decide) ?_
            refine lv_icmp_ge (tgt := 130) hx hb dX2_become_28 (by decide) (fun c9 => absurd c9 (by rw [i_le, i_401, nI_toInt (by omega)]; omega)) (fun _ => ?_)
            refine lv_iload_n hx hb dX2_become_31 rfl (lv_at hl 1 rfl) ?_
            refine lv_iload_n hx hb dX2_become_32 rfl (lv_at hl 2 rfl) ?_
            refine lv_icmp_eq (tgt := 130) hx hb dX2_become_33 (by decide) (fun c9 => absurd c9 hab) (fun _ => ?_)
            refine lv_iconst (v := 0) hx hb dX2_become_36 (by decide) ?_
            refine lv_istore (lv' := [(5, .int 0), (0, .ref h), (1, .int a), (2, .int b), (3, .int (xt O (2 * a) (2 * b) k)), (4, .int (nI (k + 1)))]) hx hb dX2_become_37 hl (by decide) rfl (fun ls hl => ?_)
            rcases hrm (k + 1) (by omega) (by omega) with ⟨m39, e39⟩ | ⟨m39, e39, s39, t39, w39, x39⟩
            · have m39 : O.1 (k + 1) = false := m39
              refine lv_iload hx hb dX2_become_39 (lv_at hl 0 rfl) ?_
              refine lv_aload_n hx hb dX2_become_41 rfl (lv_at hl 1 rfl) ?_
              refine va_get (D := D) (ci := 2) (v := .ref a2) (C := RX2) (T := TX2) (N := 5) hx hb hts (iw_X2_become_X2) hown hK (one hp.1) 0 rfl rfl 1 (by decide) (hts (.fieldLink RX2 13 "MethodBookModel" "sizes" "[I") (by decide +kernel)) (fun _ h9 => h9) rfl dX2_become_42 ?_
              refine lv_iload hx hb dX2_become_45 (lv_at hl 5 rfl) ?_
              refine va_iald hx hb hK (one hp.2.2.1) 0 0 rfl rfl (vp_in_nI (by omega) (by omega)) dX2_become_47 ?_
              refine lv_icmp_ge (tgt := 124) hx hb dX2_become_48 (by decide) (fun c48 => ?_) (fun c48 => ?_)
              · simp only [i_lt, i_le, i_0, i_1, i_2, i_4, i_40, i_100, i_400, i_401] at c48
                rw [xo_same m39] at hrm
                have ec : xt O (2 * a) (2 * b) k = xt O (2 * a) (2 * b) (k + 1) := xt_f m39
                rw [ec] at hl
                refine lv_iinc (v := ((nI (k + 1)) + 1)) (lv' := [(4, .int ((nI (k + 1)) + 1)), (5, .int 0), (0, .ref h), (1, .int a), (2, .int b), (3, .int (xt O (2 * a) (2 * b) (k + 1)))]) hx hb dX2_become_124 hl (k := 5) rfl rfl (by decide) rfl (fun ls hl => ?_)
                refine lv_goto (tgt := 23) hx hb dX2_become_127 (by decide) ?_
                rw [← nI_succ] at hl
                exact ih (k + 1) (by omega) _ _ _ hrm hp hS _ (lv_sub hl [2, 3, 4, 5, 0] rfl)
              · simp only [i_lt, i_le, i_0, i_1, i_2, i_4, i_40, i_100, i_400, i_401] at c48
                refine lv_aload_n hx hb dX2_become_51 rfl (lv_at hl 1 rfl) ?_
                refine va_get (D := D) (ci := 2) (v := .ref a1) (C := RX2) (T := TX2) (N := 5) hx hb hts (iw_X2_become_X2) hown hK (one hp.1) 0 rfl rfl 0 (by decide) (hts (.fieldLink RX2 7 "MethodBookModel" "made" "[Z") (by decide +kernel)) (fun _ h9 => h9) rfl dX2_become_52 ?_
                refine lv_iload hx hb dX2_become_55 (lv_at hl 5 rfl) ?_
                refine va_zald hx hb hK (one hp.2.1) 0 1 rfl rfl (vp_in_nI (by omega) (by omega)) dX2_become_57 ?_
                rw [show md (nI (k + 1)).toNatClampNeg = 0 from by rw [nI_clamp (by omega)]; exact e39]
                refine lv_if_eq (tgt := 124) hx hb dX2_become_58 (by decide) (fun _ => ?_) (fun c9 => absurd (by decide) c9)
                rw [xo_same m39] at hrm
                have ec : xt O (2 * a) (2 * b) k = xt O (2 * a) (2 * b) (k + 1) := xt_f m39
                rw [ec] at hl
                refine lv_iinc (v := ((nI (k + 1)) + 1)) (lv' := [(4, .int ((nI (k + 1)) + 1)), (5, .int 0), (0, .ref h), (1, .int a), (2, .int b), (3, .int (xt O (2 * a) (2 * b) (k + 1)))]) hx hb dX2_become_124 hl (k := 5) rfl rfl (by decide) rfl (fun ls hl => ?_)
                refine lv_goto (tgt := 23) hx hb dX2_become_127 (by decide) ?_
                rw [← nI_succ] at hl
                exact ih (k + 1) (by omega) _ _ _ hrm hp hS _ (lv_sub hl [2, 3, 4, 5, 0] rfl)
            · have m39 : O.1 (k + 1) = true := m39
              have s39 : sz (k + 1) = szv O (k + 1) := s39
              have t39 : O.2.2.1 (k + 1) ≤ 40 := t39
              have w39 : O.2.1 (k + 1) = false → O.2.2.1 (k + 1) = 0 := w39
              have loop2 : ∀ (q2 i : Nat), i + q2 = O.2.2.1 (k + 1) → ∀ (H : Heap) (locs : List Loc) (fl2 : Nat → Int32), rm (obf (xo O (2 * a) (2 * b) k) (k + 1) (swf (O.2.2.2 (k + 1)) (2 * a) (2 * b) i)) md sz fl2 → my D cI cZ h a1 a2 a3 md sz fl2 mt wh H → va_S (fun q : Nat => q = a3) s.heap H locs → ∀ ls : Array Slot, lv_has ls 7 [(0, .ref h), (1, .int a), (2, .int b), (3, .int (xt O (2 * a) (2 * b) k + xcn (O.2.2.2 (k + 1)) (2 * a) (2 * b) i)), (4, .int (nI (k + 1))), (5, .int (nI i))] → W p l e (headSpec wsX2_become ({ frames := 1, cells := 0, slots := 0, locals := 21 })).room s m ([.ref h, .int a, .int b] : List Value).toArray below meth c H locs 0 0 (MQ below (pm_Qi (fun r H1 => r = (bec O a b).1 ∧ ∃ fl' : Nat → Int32, rm (bec O a b).2 md sz fl' ∧ my D cI cZ h a1 a2 a3 md sz fl' mt wh H1) (fun q : Nat => q = a3)) ([.ref h, .int a, .int b] : List Value).toArray s 0 0 (fun q : Nat => q = a3)) (F0 m 39 ls []) := by
                intro q2
                induction q2 with
                | zero =>
                  intro i h2 H locs fl2 hrm hp hS ls hl
                  refine lv_iload hx hb dX2_become_39 (lv_at hl 5 rfl) ?_
                  refine lv_aload_n hx hb dX2_become_41 rfl (lv_at hl 0 rfl) ?_
                  refine va_get (D := D) (ci := 2) (v := .ref a2) (C := RX2) (T := TX2) (N := 5) hx hb hts (iw_X2_become_X2) hown hK (one hp.1) 0 rfl rfl 1 (by decide) (hts (.fieldLink RX2 13 "MethodBookModel" "sizes" "[I") (by decide +kernel)) (fun _ h9 => h9) rfl dX2_become_42 ?_
                  refine lv_iload hx hb dX2_become_45 (lv_at hl 4 rfl) ?_
                  refine va_iald hx hb hK (one hp.2.2.1) 0 0 rfl rfl (vp_in_nI (by omega) (by omega)) dX2_become_47 ?_
                  rw [show sz (nI (k + 1)).toNatClampNeg = szv O (k + 1) from by rw [nI_clamp (by omega)]; exact s39]
                  refine lv_icmp_ge (tgt := 124) hx hb dX2_become_48 (by decide) (fun _ => ?_) (fun c9 => absurd (by rw [show i = O.2.2.1 (k + 1) by omega]; exact szv_exit w39 t39) c9)
                  have ei : i = O.2.2.1 (k + 1) := by omega
                  rw [ei] at hrm hl
                  have e0 : (xo O (2 * a) (2 * b) k).2.2.2 (k + 1) = O.2.2.2 (k + 1) := by
                    show (if _ then _ else _) = _
                    rw [if_neg (by omega)]
                  have hrm : rm (xo O (2 * a) (2 * b) (k + 1)) md sz fl2 := by
                    have h9 := xo_step (O := O) (x := 2 * a) (y := 2 * b) m39
                    rw [e0] at h9
                    rw [← h9]
                    exact hrm
                  have ec : xt O (2 * a) (2 * b) k + xcn (O.2.2.2 (k + 1)) (2 * a) (2 * b) (O.2.2.1 (k + 1)) = xt O (2 * a) (2 * b) (k + 1) := by
                    have h9 := xt_t (O := O) (x := 2 * a) (y := 2 * b) m39
                    rw [e0] at h9
                    exact h9
                  rw [ec] at hl
                  refine lv_iinc (v := ((nI (k + 1)) + 1)) (lv' := [(4, .int ((nI (k + 1)) + 1)), (0, .ref h), (1, .int a), (2, .int b), (3, .int (xt O (2 * a) (2 * b) (k + 1))), (5, .int (nI (O.2.2.1 (k + 1))))]) hx hb dX2_become_124 hl (k := 4) rfl rfl (by decide) rfl (fun ls hl => ?_)
                  refine lv_goto (tgt := 23) hx hb dX2_become_127 (by decide) ?_
                  rw [← nI_succ] at hl
                  exact ih (k + 1) (by omega) _ _ _ hrm hp hS _ (lv_sub hl [1, 2, 3, 4, 0] rfl)
                | succ q2 ih2 =>
                  intro i h2 H locs fl2 hrm hp hS ls hl
                  have hix := ix_n (K := k + 1) (i := i) (by omega) (by omega)
                  refine lv_iload hx hb dX2_become_39 (lv_at hl 5 rfl) ?_
                  refine lv_aload_n hx hb dX2_become_41 rfl (lv_at hl 0 rfl) ?_
                  refine va_get (D := D) (ci := 2) (v := .ref a2) (C := RX2) (T := TX2) (N := 5) hx hb hts (iw_X2_become_X2) hown hK (one hp.1) 0 rfl rfl 1 (by decide) (hts (.fieldLink RX2 13 "MethodBookModel" "sizes" "[I") (by decide +kernel)) (fun _ h9 => h9) rfl dX2_become_42 ?_
                  refine lv_iload hx hb dX2_become_45 (lv_at hl 4 rfl) ?_
                  refine va_iald hx hb hK (one hp.2.2.1) 0 0 rfl rfl (vp_in_nI (by omega) (by omega)) dX2_become_47 ?_
                  rw [show sz (nI (k + 1)).toNatClampNeg = szv O (k + 1) from by rw [nI_clamp (by omega)]; exact s39]
                  refine lv_icmp_ge (tgt := 124) hx hb dX2_become_48 (by decide) (fun c9 => absurd c9 (szv_stay w39 t39 (by omega))) (fun _ => ?_)
                  refine lv_aload_n hx hb dX2_become_51 rfl (lv_at hl 0 rfl) ?_
                  refine va_get (D := D) (ci := 2) (v := .ref a1) (C := RX2) (T := TX2) (N := 5) hx hb hts (iw_X2_become_X2) hown hK (one hp.1) 0 rfl rfl 0 (by decide) (hts (.fieldLink RX2 7 "MethodBookModel" "made" "[Z") (by decide +kernel)) (fun _ h9 => h9) rfl dX2_become_52 ?_
                  refine lv_iload hx hb dX2_become_55 (lv_at hl 4 rfl) ?_
                  refine va_zald hx hb hK (one hp.2.1) 0 1 rfl rfl (vp_in_nI (by omega) (by omega)) dX2_become_57 ?_
                  rw [show md (nI (k + 1)).toNatClampNeg = 1 from by rw [nI_clamp (by omega)]; exact e39]
                  refine lv_if_eq (tgt := 124) hx hb dX2_become_58 (by decide) (fun c9 => absurd c9 (by decide)) (fun _ => ?_)
                  refine lv_aload_n hx hb dX2_become_61 rfl (lv_at hl 0 rfl) ?_
                  refine va_get (D := D) (ci := 2) (v := .ref a3) (C := RX2) (T := TX2) (N := 5) hx hb hts (iw_X2_become_X2) hown hK (one hp.1) 0 rfl rfl 2 (by decide) (hts (.fieldLink RX2 17 "MethodBookModel" "fields" "[I") (by decide +kernel)) (fun _ h9 => h9) rfl dX2_become_62 ?_
                  refine lv_bipush (v := 40) hx hb dX2_become_65 (by decide) ?_
                  refine lv_iload hx hb dX2_become_67 (lv_at hl 4 rfl) ?_
                  refine lv_imul hx hb dX2_become_69 ?_
                  refine lv_iload hx hb dX2_become_70 (lv_at hl 5 rfl) ?_
                  refine lv_iadd hx hb dX2_become_72 ?_
                  refine va_iald hx hb hK (one hp.2.2.2.1) 0 0 rfl rfl (vp_in_iff.mpr ⟨by rw [hix]; omega, by rw [hix]; omega⟩) dX2_become_73 ?_
                  rw [show fl2 (40 * nI (k + 1) + nI i).toNatClampNeg = O.2.2.2 (k + 1) i from by
                      rw [i_cl, hix, show (40 * ((k + 1 : Nat) : Int) + (i : Int)).toNat = 40 * (k + 1) + i by omega]
                      have h9 := (rm_of hrm (k := k + 1) (by omega) (by omega) m39).2.2.2 i (show i < O.2.2.1 (k + 1) by omega)
                      have h8 : (obf (xo O (2 * a) (2 * b) k) (k + 1) (swf (O.2.2.2 (k + 1)) (2 * a) (2 * b) i)).2.2.2 (k + 1) = swf (O.2.2.2 (k + 1)) (2 * a) (2 * b) i := va_up_self _ _ _
                      rw [h8, swf_at] at h9
                      exact h9]
                  refine lv_istore (lv' := [(6, .int (O.2.2.2 (k + 1) i)), (0, .ref h), (1, .int a), (2, .int b), (3, .int (xt O (2 * a) (2 * b) k + xcn (O.2.2.2 (k + 1)) (2 * a) (2 * b) i)), (4, .int (nI (k + 1))), (5, .int (nI i))]) hx hb dX2_become_74 hl (by decide) rfl (fun ls hl => ?_)
                  refine lv_iload hx hb dX2_become_76 (lv_at hl 0 rfl) ?_
                  refine lv_iconst (v := 2) hx hb dX2_become_78 (by decide) ?_
                  refine lv_iload_n hx hb dX2_become_79 rfl (lv_at hl 2 rfl) ?_
                  refine lv_imul hx hb dX2_become_80 ?_
                  refine lv_icmp_eq (tgt := 92) hx hb dX2_become_81 (by decide) (fun c81 => ?_) (fun c81 => ?_)
                  · refine lv_aload_n hx hb dX2_become_92 rfl (lv_at hl 1 rfl) ?_
                    refine va_get (D := D) (ci := 2) (v := .ref a3) (C := RX2) (T := TX2) (N := 5) hx hb hts (iw_X2_become_X2) hown hK (one hp.1) 0 rfl rfl 2 (by decide) (hts (.fieldLink RX2 17 "MethodBookModel" "fields" "[I") (by decide +kernel)) (fun _ h9 => h9) rfl dX2_become_93 ?_
                    refine lv_bipush (v := 40) hx hb dX2_become_96 (by decide) ?_
                    refine lv_iload hx hb dX2_become_98 (lv_at hl 5 rfl) ?_
                    refine lv_imul hx hb dX2_become_100 ?_
                    refine lv_iload hx hb dX2_become_101 (lv_at hl 6 rfl) ?_
                    refine lv_iadd hx hb dX2_become_103 ?_
                    refine lv_iconst (v := 2) hx hb dX2_become_104 (by decide) ?_
                    refine lv_iload_n hx hb dX2_become_105 rfl (lv_at hl 2 rfl) ?_
                    refine lv_imul hx hb dX2_become_106 ?_
                    refine lv_iconst (v := 2) hx hb dX2_become_107 (by decide) ?_
                    refine lv_iload_n hx hb dX2_become_108 rfl (lv_at hl 3 rfl) ?_
                    refine lv_imul hx hb dX2_become_109 ?_
                    refine lv_iadd hx hb dX2_become_110 ?_
                    refine lv_iload hx hb dX2_become_111 (lv_at hl 0 rfl) ?_
                    refine lv_isub hx hb dX2_become_113 ?_
                    refine pw_iast hx hb hK hS rfl 0 hp.2.2.2.1 rfl (vp_in_iff.mpr ⟨by rw [hix]; omega, by rw [hix]; omega⟩) dX2_become_114 (fun H locs hf hz ho hS => ?_)
                    replace hp := my_3 hp hf ho
                    have ev : 2 * a + 2 * b - O.2.2.2 (k + 1) i = swv (2 * a) (2 * b) (O.2.2.2 (k + 1) i) := by
                      rw [c81, sw_1]; unfold swv; rw [if_pos rfl]
                    rw [i_cl (40 * nI (k + 1) + nI i), hix, show (40 * ((k + 1 : Nat) : Int) + (i : Int)).toNat = 40 * (k + 1) + i by omega] at hp
                    replace hrm := rm_sw (v := 2 * a + 2 * b - O.2.2.2 (k + 1) i) hrm (show O.2.2.1 (k + 1) ≤ 40 from t39) (show i < O.2.2.1 (k + 1) by omega)
                    rw [swf_put _ _ _ _ _ ev] at hrm
                    refine lv_iinc (v := ((xt O (2 * a) (2 * b) k + xcn (O.2.2.2 (k + 1)) (2 * a) (2 * b) i) + 1)) (lv' := [(3, .int ((xt O (2 * a) (2 * b) k + xcn (O.2.2.2 (k + 1)) (2 * a) (2 * b) i) + 1)), (6, .int (O.2.2.2 (k + 1) i)), (0, .ref h), (1, .int a), (2, .int b), (4, .int (nI (k + 1))), (5, .int (nI i))]) hx hb dX2_become_115 hl (k := 4) rfl rfl (by decide) rfl (fun ls hl => ?_)
                    have ec : xt O (2 * a) (2 * b) k + xcn (O.2.2.2 (k + 1)) (2 * a) (2 * b) i + 1 = xt O (2 * a) (2 * b) k + xcn (O.2.2.2 (k + 1)) (2 * a) (2 * b) (i + 1) := by
                      rw [Int32.add_assoc]
                      congr 1
                      show _ = xcn (O.2.2.2 (k + 1)) (2 * a) (2 * b) i + b2i (hit (2 * a) (2 * b) (O.2.2.2 (k + 1) i))
                      rw [show hit (2 * a) (2 * b) (O.2.2.2 (k + 1) i) = true from by unfold hit; rw [decide_eq_true c81]; rfl]
                      rfl
                    rw [ec] at hl
                    refine lv_iinc (v := ((nI i) + 1)) (lv' := [(5, .int ((nI i) + 1)), (3, .int (xt O (2 * a) (2 * b) k + xcn (O.2.2.2 (k + 1)) (2 * a) (2 * b) (i + 1))), (6, .int (O.2.2.2 (k + 1) i)), (0, .ref h), (1, .int a), (2, .int b), (4, .int (nI (k + 1)))]) hx hb dX2_become_118 hl (k := 6) rfl rfl (by decide) rfl (fun ls hl => ?_)
                    refine lv_goto (tgt := 39) hx hb dX2_become_121 (by decide) ?_
                    rw [← nI_succ] at hl
                    exact ih2 (i + 1) (by omega) _ _ _ hrm hp hS _ (lv_sub hl [3, 4, 5, 1, 6, 0] rfl)
                  · refine lv_iload hx hb dX2_become_84 (lv_at hl 0 rfl) ?_
                    refine lv_iconst (v := 2) hx hb dX2_become_86 (by decide) ?_
                    refine lv_iload_n hx hb dX2_become_87 rfl (lv_at hl 3 rfl) ?_
                    refine lv_imul hx hb dX2_become_88 ?_
                    refine lv_icmp_ne (tgt := 118) hx hb dX2_become_89 (by decide) (fun c89 => ?_) (fun c89 => ?_)
                    · have ec : xt O (2 * a) (2 * b) k + xcn (O.2.2.2 (k + 1)) (2 * a) (2 * b) i = xt O (2 * a) (2 * b) k + xcn (O.2.2.2 (k + 1)) (2 * a) (2 * b) (i + 1) := by
                        congr 1
                        show _ = xcn (O.2.2.2 (k + 1)) (2 * a) (2 * b) i + b2i (hit (2 * a) (2 * b) (O.2.2.2 (k + 1) i))
                        rw [show hit (2 * a) (2 * b) (O.2.2.2 (k + 1) i) = false from by unfold hit; rw [decide_eq_false c81, decide_eq_false c89]; rfl]
                        exact (Int32.add_zero _).symm
                      rw [ec] at hl
                      rw [swf_same _ _ _ i (by unfold swv; rw [if_neg c81, if_neg c89])] at hrm
                      refine lv_iinc (v := ((nI i) + 1)) (lv' := [(5, .int ((nI i) + 1)), (6, .int (O.2.2.2 (k + 1) i)), (0, .ref h), (1, .int a), (2, .int b), (3, .int (xt O (2 * a) (2 * b) k + xcn (O.2.2.2 (k + 1)) (2 * a) (2 * b) (i + 1))), (4, .int (nI (k + 1)))]) hx hb dX2_become_118 hl (k := 6) rfl rfl (by decide) rfl (fun ls hl => ?_)
                      refine lv_goto (tgt := 39) hx hb dX2_become_121 (by decide) ?_
                      rw [← nI_succ] at hl
                      exact ih2 (i + 1) (by omega) _ _ _ hrm hp hS _ (lv_sub hl [2, 3, 4, 5, 6, 0] rfl)
                    · refine lv_aload_n hx hb dX2_become_92 rfl (lv_at hl 1 rfl) ?_
                      refine va_get (D := D) (ci := 2) (v := .ref a3) (C := RX2) (T := TX2) (N := 5) hx hb hts (iw_X2_become_X2) hown hK (one hp.1) 0 rfl rfl 2 (by decide) (hts (.fieldLink RX2 17 "MethodBookModel" "fields" "[I") (by decide +kernel)) (fun _ h9 => h9) rfl dX2_become_93 ?_
                      refine lv_bipush (v := 40) hx hb dX2_become_96 (by decide) ?_
                      refine lv_iload hx hb dX2_become_98 (lv_at hl 5 rfl) ?_
                      refine lv_imul hx hb dX2_become_100 ?_
                      refine lv_iload hx hb dX2_become_101 (lv_at hl 6 rfl) ?_
                      refine lv_iadd hx hb dX2_become_103 ?_
                      refine lv_iconst (v := 2) hx hb dX2_become_104 (by decide) ?_
                      refine lv_iload_n hx hb dX2_become_105 rfl (lv_at hl 2 rfl) ?_
                      refine lv_imul hx hb dX2_become_106 ?_
                      refine lv_iconst (v := 2) hx hb dX2_become_107 (by decide) ?_
                      refine lv_iload_n hx hb dX2_become_108 rfl (lv_at hl 3 rfl) ?_
                      refine lv_imul hx hb dX2_become_109 ?_
                      refine lv_iadd hx hb dX2_become_110 ?_
                      refine lv_iload hx hb dX2_become_111 (lv_at hl 0 rfl) ?_
                      refine lv_isub hx hb dX2_become_113 ?_
                      refine pw_iast hx hb hK hS rfl 0 hp.2.2.2.1 rfl (vp_in_iff.mpr ⟨by rw [hix]; omega, by rw [hix]; omega⟩) dX2_become_114 (fun H locs hf hz ho hS => ?_)
                      replace hp := my_3 hp hf ho
                      have ev : 2 * a + 2 * b - O.2.2.2 (k + 1) i = swv (2 * a) (2 * b) (O.2.2.2 (k + 1) i) := by
                        rw [c89, sw_2]; unfold swv; rw [if_neg (fun h9 => c81 (by rw [c89]; exact h9)), if_pos rfl]
                      rw [i_cl (40 * nI (k + 1) + nI i), hix, show (40 * ((k + 1 : Nat) : Int) + (i : Int)).toNat = 40 * (k + 1) + i by omega] at hp
                      replace hrm := rm_sw (v := 2 * a + 2 * b - O.2.2.2 (k + 1) i) hrm (show O.2.2.1 (k + 1) ≤ 40 from t39) (show i < O.2.2.1 (k + 1) by omega)
                      rw [swf_put _ _ _ _ _ ev] at hrm
                      refine lv_iinc (v := ((xt O (2 * a) (2 * b) k + xcn (O.2.2.2 (k + 1)) (2 * a) (2 * b) i) + 1)) (lv' := [(3, .int ((xt O (2 * a) (2 * b) k + xcn (O.2.2.2 (k + 1)) (2 * a) (2 * b) i) + 1)), (6, .int (O.2.2.2 (k + 1) i)), (0, .ref h), (1, .int a), (2, .int b), (4, .int (nI (k + 1))), (5, .int (nI i))]) hx hb dX2_become_115 hl (k := 4) rfl rfl (by decide) rfl (fun ls hl => ?_)
                      have ec : xt O (2 * a) (2 * b) k + xcn (O.2.2.2 (k + 1)) (2 * a) (2 * b) i + 1 = xt O (2 * a) (2 * b) k + xcn (O.2.2.2 (k + 1)) (2 * a) (2 * b) (i + 1) := by
                        rw [Int32.add_assoc]
                        congr 1
                        show _ = xcn (O.2.2.2 (k + 1)) (2 * a) (2 * b) i + b2i (hit (2 * a) (2 * b) (O.2.2.2 (k + 1) i))
                        rw [show hit (2 * a) (2 * b) (O.2.2.2 (k + 1) i) = true from by unfold hit; rw [decide_eq_true c89, Bool.or_true]]
                        rfl
                      rw [ec] at hl
                      refine lv_iinc (v := ((nI i) + 1)) (lv' := [(5, .int ((nI i) + 1)), (3, .int (xt O (2 * a) (2 * b) k + xcn (O.2.2.2 (k + 1)) (2 * a) (2 * b) (i + 1))), (6, .int (O.2.2.2 (k + 1) i)), (0, .ref h), (1, .int a), (2, .int b), (4, .int (nI (k + 1)))]) hx hb dX2_become_118 hl (k := 6) rfl rfl (by decide) rfl (fun ls hl => ?_)
                      refine lv_goto (tgt := 39) hx hb dX2_become_121 (by decide) ?_
                      rw [← nI_succ] at hl
                      exact ih2 (i + 1) (by omega) _ _ _ hrm hp hS _ (lv_sub hl [3, 4, 5, 1, 6, 0] rfl)
              have hl : lv_has ls 7 [(0, .ref h), (1, .int a), (2, .int b), (3, .int (xt O (2 * a) (2 * b) k + xcn (O.2.2.2 (k + 1)) (2 * a) (2 * b) 0)), (4, .int (nI (k + 1))), (5, .int (nI 0))] := by
                have e9 : xt O (2 * a) (2 * b) k + xcn (O.2.2.2 (k + 1)) (2 * a) (2 * b) 0 = xt O (2 * a) (2 * b) k := Int32.add_zero _
                rw [e9]
                exact lv_sub hl [1, 2, 3, 4, 5, 0] rfl
              exact loop2 (O.2.2.1 (k + 1)) 0 (by omega) _ _ fl1 (by
                  have e0 : (xo O (2 * a) (2 * b) k).2.2.2 (k + 1) = O.2.2.2 (k + 1) := by
                    show (if _ then _ else _) = _
                    rw [if_neg (by omega)]
                  rw [swf_0, ← e0, obf_self]
                  exact hrm) hp hS _ hl
        exact loop 400 0 (by omega) _ _ fl (by rw [xo_0]; exact hrm) hp hS _ (lv_sub hl [2, 3, 4, 1, 0] rfl)
