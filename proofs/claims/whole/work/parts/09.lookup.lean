theorem tg_h {D : va_G} {cI cT : ClassId} {ρ : Nat → Nat} {h tq : Nat} {th : Nat → Option Nat} {O : Ob} {mt wh : Int32} {H H1 : Heap} {a f j : Nat} {fb : Bool} {n : Nat} {g : Nat → Int32} (hp : px D cI cT ρ h tq th O mt wh H) (y : ρ a = 2 * j + 3) (z : ρ f = 2 * j + 4) (t : tg D cI a f fb n g H) (hk : ∀ q : Nat, q < H.size → ¬ q = h → H1[q]? = H[q]?) : tg D cI a f fb n g H1 := by
  obtain ⟨-, -, r1, -, hs, -⟩ := hp
  exact tg_keep t (hk a (hs a (by omega)) (fun e => by rw [e, r1] at y; omega)) (hk f (hs f (by omega)) (fun e => by rw [e, r1] at z; omega))
theorem fnd_none {O : Ob} {d sel : Int32} (h : tv O d = none) : fnd O d sel = none := by
  unfold fnd
  rw [h]
theorem fnd_not {O : Ob} {d sel : Int32} {e : Nat} (h : tv O d = some e) (h2 : pm (O.2.2.2 e) (O.2.2.1 e) sel = none) : fnd O d sel = none := by
  unfold fnd
  rw [h]
  show (match pm (O.2.2.2 e) (O.2.2.1 e) sel with | none => none | some i => some (O.2.2.2 e (i + 1))) = none
  rw [h2]
theorem fnd_some {O : Ob} {d sel : Int32} {e i : Nat} (h : tv O d = some e) (h2 : pm (O.2.2.2 e) (O.2.2.1 e) sel = some i) : fnd O d sel = some (O.2.2.2 e (i + 1)) := by
  unfold fnd
  rw [h]
  show (match pm (O.2.2.2 e) (O.2.2.1 e) sel with | none => none | some i => some (O.2.2.2 e (i + 1))) = some (O.2.2.2 e (i + 1))
  rw [h2]
theorem up_nil {O : Ob} {sel c n : Int32} {q : Nat} (h : c = 0) : up O sel (q + 1) c n = (-1, 0, 0) := by
  rw [up, if_pos h]
theorem up_none {O : Ob} {sel c n : Int32} {q : Nat} (h : ¬ c = 0) (h2 : cls O c = none) : up O sel (q + 1) c n = (-2, 0, 0) := by
  rw [up, if_neg h, h2]
theorem up_bad {O : Ob} {sel c n : Int32} {q j : Nat} (h : ¬ c = 0) (h2 : cls O c = some j) (h3 : bad O (O.2.2.2 j 1) = true) : up O sel (q + 1) c n = (-2, 0, 0) := by
  simp only [up, if_neg h, h2, h3, if_true]
theorem up_fnd {O : Ob} {sel c n m : Int32} {q j : Nat} (h : ¬ c = 0) (h2 : cls O c = some j) (h3 : bad O (O.2.2.2 j 1) = false) (h4 : fnd O (O.2.2.2 j 1) sel = some m) : up O sel (q + 1) c n = (n, m, c) := by
  simp [up, if_neg h, h2, h3, h4]
theorem up_go {O : Ob} {sel c n : Int32} {q j : Nat} (h : ¬ c = 0) (h2 : cls O c = some j) (h3 : bad O (O.2.2.2 j 1) = false) (h4 : fnd O (O.2.2.2 j 1) sel = none) : up O sel (q + 1) c n = up O sel q (O.2.2.2 j 0) (n + 1) := by
  simp [up, if_neg h, h2, h3, h4]
set_option maxHeartbeats 4000000 in
set_option maxRecDepth 100000 in
theorem c_X1_goUp (l : Launch) (D : va_G) (cI cZ cT : ClassId) (ρ : Nat → Nat) (h tq : Nat) (th : Nat → Option Nat) (O : Ob) (H0 : Heap) (c0 sel : Int32) : Met l yX1_goUp wsX1_goUp ({ frames := 3, cells := 0, slots := 0, locals := 65 }) (pK D cI cZ cT [.ref h, .int c0, .int sel] (fun H => H = H0 ∧ px D cI cT ρ h tq th O 0 0 H0)) (pm_Qi (fun r H1 => r = (up O sel 100 c0 0).1 ∧ px D cI cT ρ h tq th O (up O sel 100 c0 0).2.1 (up O sel 100 c0 0).2.2 H1) (fun q : Nat => q = h)) 0 0 (fun q : Nat => q = h) := by
  refine Met.ofW (cc := cX1_goUp) (maxL := 6) (ret := (some .int)) (by decide) rfl ?_
  intro p e s m args below meth c s₁ B hml hv
  obtain ⟨rfl, hpic, hKN⟩ := hv
  have hK := hKN.1
  have hx := B.exec
  have hb := B.bytes
  have hr := B.returns
  have hts := atoms_spec (ws := wsX1_goUp) B.pre
  have hown : s.vm.findClass RX1 = some m.cls := findClass_of_methodNamed B.named
  have hlocks := B.notSynchronized
  obtain ⟨hH, hp⟩ := hpic
  subst hH
  have hS : va_S (fun q : Nat => q = h) s.heap s.heap [] := va_S.rf
  have hl := lv_entry ([.ref h, .int c0, .int sel]) (n := 6) (Nat.le_of_ble_eq_true rfl)
  rw [lg_entry_eq]
  generalize (lg_sl ([.ref h, .int c0, .int sel]) ++ List.replicate (6 - (lg_sl ([.ref h, .int c0, .int sel])).length) Slot.unset).toArray = ls at hl ⊢
  have hl : lv_has ls 6 [(0, .ref h), (1, .int c0), (2, .int sel)] := hl
  refine lv_iload_n hx hb dX1_goUp_0 rfl (lv_at hl 1 rfl) ?_
  refine lv_istore_n (lv' := [(3, .int c0), (0, .ref h), (1, .int c0), (2, .int sel)]) hx hb dX1_goUp_1 rfl hl (by decide) rfl (fun ls hl => ?_)
  refine lv_iconst (v := 0) hx hb dX1_goUp_2 (by decide) ?_
  refine lv_istore (lv' := [(4, .int 0), (3, .int c0), (0, .ref h), (1, .int c0), (2, .int sel)]) hx hb dX1_goUp_3 hl (by decide) rfl (fun ls hl => ?_)
  have loop : ∀ (q k : Nat) (c9 : Int32), k + q = 100 → up O sel 100 c0 0 = up O sel q c9 (nI k) → ∀ (H : Heap) (locs : List Loc), px D cI cT ρ h tq th O 0 0 H → va_S (fun q : Nat => q = h) s.heap H locs → ∀ ls : Array Slot, lv_has ls 6 [(0, .ref h), (1, .int c0), (2, .int sel), (3, .int c9), (4, .int (nI k))] → W p l e (headSpec wsX1_goUp ({ frames := 3, cells := 0, slots := 0, locals := 65 })).room s m ([.ref h, .int c0, .int sel] : List Value).toArray below meth c H locs 0 0 (MQ below (pm_Qi (fun r H1 => r = (up O sel 100 c0 0).1 ∧ px D cI cT ρ h tq th O (up O sel 100 c0 0).2.1 (up O sel 100 c0 0).2.2 H1) (fun q : Nat => q = h)) ([.ref h, .int c0, .int sel] : List Value).toArray s 0 0 (fun q : Nat => q = h)) (F0 m 5 ls []) := by
    intro q
    induction q with
    | zero =>
      intro k c9 h1 hu H locs hp hS ls hl
      refine lv_iload hx hb dX1_goUp_5 (lv_at hl 4 rfl) ?_
      refine lv_bipush (v := 100) hx hb dX1_goUp_7 (by decide) ?_
      refine lv_icmp_ge (tgt := 81) hx hb dX1_goUp_9 (by decide) (fun _ => ?_) (fun c9 => absurd (by rw [i_le, i_100, nI_toInt (by omega)]; omega) c9)
      refine lv_iload_n hx hb dX1_goUp_81 rfl (lv_at hl 3 rfl) ?_
      refine lv_if_ne (tgt := 89) hx hb dX1_goUp_82 (by decide) (fun c82 => ?_) (fun c82 => ?_)
      · refine lv_bipush (v := (-2)) hx hb dX1_goUp_89 (by decide) ?_
        refine W.iret (v := (-2)) hx hb hr (fun t ht hW => ⟨⟨_, rfl, ?_⟩, hS.F ht⟩) hS.2.2 dX1_goUp_91
        rw [ht]
        rw [hu, up, if_neg c82]
        exact ⟨rfl, hp⟩
      · refine lv_iconst (v := (-1)) hx hb dX1_goUp_85 (by decide) ?_
        refine lv_goto (tgt := 91) hx hb dX1_goUp_86 (by decide) ?_
        refine W.iret (v := (-1)) hx hb hr (fun t ht hW => ⟨⟨_, rfl, ?_⟩, hS.F ht⟩) hS.2.2 dX1_goUp_91
        rw [ht]
        rw [hu, up, if_pos c82]
        exact ⟨rfl, hp⟩
    | succ q ih =>
      intro k c9 h1 hu H locs hp hS ls hl
      refine lv_iload hx hb dX1_goUp_5 (lv_at hl 4 rfl) ?_
      refine lv_bipush (v := 100) hx hb dX1_goUp_7 (by decide) ?_
      refine lv_icmp_ge (tgt := 81) hx hb dX1_goUp_9 (by decide) (fun c9 => absurd c9 (by rw [i_le, i_100, nI_toInt (by omega)]; omega)) (fun _ => ?_)
      refine lv_iload_n hx hb dX1_goUp_12 rfl (lv_at hl 3 rfl) ?_
      refine lv_if_ne (tgt := 18) hx hb dX1_goUp_13 (by decide) (fun c13 => ?_) (fun c13 => ?_)
      · refine lv_aload_n hx hb dX1_goUp_18 rfl (lv_at hl 0 rfl) ?_
        refine lv_iload_n hx hb dX1_goUp_19 rfl (lv_at hl 3 rfl) ?_
        refine pq_q (va_runV (As := [.int c9]) (rest := []) ⟨hx, hb, hml, hown, hts⟩ (c_X1_classMeantBy l D cI cZ cT ρ h tq th O 0 0 _ c9) (cwV 1 hts gX1_goUp_X1_classMeantBy rfl rfl rfl (by decide +kernel) ⟨Nat.le_of_ble_eq_true rfl, Nat.le_of_ble_eq_true rfl⟩) (pre_v ⟨rfl, hp⟩ hKN (recv hKN hp.1 rfl)) rfl rfl hl.1 rfl (lv_room (Nat.le_of_ble_eq_true rfl)) dX1_goUp_20 ⟨Nat.zero_le _, Nat.zero_le _⟩) (fun h20 => ?_) (fun a20 h20 => ?_)
        · have e20 := tp_none h20
          refine lv_astoreN (lv' := [(5, .null), (0, .ref h), (1, .int c0), (2, .int sel), (3, .int c9), (4, .int (nI k))]) hx hb dX1_goUp_23 hl (by decide) rfl (fun ls hl => ?_)
          refine lv_aloadN hx hb dX1_goUp_25 (lv_at hl 0 rfl) ?_
          refine lv_ifnullN (tgt := 39) hx hb dX1_goUp_27 (by decide) ?_
          refine lv_bipush (v := (-2)) hx hb dX1_goUp_39 (by decide) ?_
          refine W.iret (v := (-2)) hx hb hr (fun t ht hW => ⟨⟨_, rfl, ?_⟩, hS.F ht⟩) hS.2.2 dX1_goUp_41
          rw [ht]
          rw [hu, up_none c13 e20]
          exact ⟨rfl, hp⟩
        · obtain ⟨j20, f20, e20, x20, y20, z20, l20, u20, m20, t20⟩ := tp_some h20
          refine lv_astore (lv' := [(5, .ref a20), (0, .ref h), (1, .int c0), (2, .int sel), (3, .int c9), (4, .int (nI k))]) hx hb dX1_goUp_23 hl (by decide) rfl (fun ls hl => ?_)
          refine lv_aload hx hb dX1_goUp_25 (lv_at hl 0 rfl) ?_
          refine lv_ifnull hx hb dX1_goUp_27 ?_
          refine lv_aload_n hx hb dX1_goUp_30 rfl (lv_at hl 1 rfl) ?_
          refine lv_aload hx hb dX1_goUp_31 (lv_at hl 0 rfl) ?_
          refine pq_b (va_runV (As := [.ref a20]) (rest := []) ⟨hx, hb, hml, hown, hts⟩ (c_X1_hasBadDictionary l D cI cZ cT ρ h tq th O 0 0 _ j20 a20 f20 t20 (cls_tv e20).2) (cwV 1 hts gX1_goUp_X1_hasBadDictionary rfl rfl rfl (by decide +kernel) ⟨Nat.le_of_ble_eq_true rfl, Nat.le_of_ble_eq_true rfl⟩) (pre_v ⟨rfl, hp⟩ hKN (recv hKN hp.1 rfl)) rfl rfl hl.1 rfl (lv_room (Nat.le_of_ble_eq_true rfl)) dX1_goUp_33 ⟨Nat.zero_le _, Nat.zero_le _⟩) (fun b33 => ?_) (fun b33 => ?_)
          · refine lv_if_eq (tgt := 42) hx hb dX1_goUp_36 (by decide) (fun _ => ?_) (fun c9 => absurd (by decide) c9)
            refine lv_aload_n hx hb dX1_goUp_42 rfl (lv_at hl 1 rfl) ?_
            refine lv_aload_n hx hb dX1_goUp_43 rfl (lv_at hl 1 rfl) ?_
            refine lv_aload hx hb dX1_goUp_44 (lv_at hl 0 rfl) ?_
            refine lv_iconst (v := 1) hx hb dX1_goUp_46 (by decide) ?_
            have q20 := (cls_tv e20).2
            refine pq_i (va_runVN (As := [.int 1]) (rest := [.ref h, .ref h]) ⟨hx, hb, hml, hown, hts⟩ (c_X0_field l D cI cZ cT a20 f20 (O.2.1 j20) (O.2.2.1 j20) (O.2.2.2 j20) _ 1) ⟨va_cnB 1 hts gX1_goUp_X0_field_n37 rfl rfl rfl hKN.2.2.2.2.2.1 (hts (.initialized RX0) (by decide +kernel)) (by decide +kernel) ⟨Nat.le_of_ble_eq_true rfl, Nat.le_of_ble_eq_true rfl⟩, hts (.instanceMethod yX0_field) (by decide +kernel), hts (.selects RX0 yX0_field yX0_field) (by decide +kernel)⟩ (pre_v ⟨rfl, t20⟩ hKN (recv hKN t20.1 rfl)) rfl rfl hl.1 rfl (lv_room (Nat.le_of_ble_eq_true rfl)) dX1_goUp_47 ⟨Nat.zero_le _, Nat.zero_le _⟩) (fun r47 hr47 => ?_)
            have hr47 : r47 = O.2.2.2 j20 1 := by
              rw [hr47]
              exact fl1_lt (i := 1) (by omega) t20.2.2
            subst hr47
            refine pq_q (va_runV (As := [.int (O.2.2.2 j20 1)]) (rest := [.ref h]) ⟨hx, hb, hml, hown, hts⟩ (c_X1_thingMeantBy l D cI cZ cT ρ h tq th O 0 0 _ (O.2.2.2 j20 1)) (cwV 1 hts gX1_goUp_X1_thingMeantBy rfl rfl rfl (by decide +kernel) ⟨Nat.le_of_ble_eq_true rfl, Nat.le_of_ble_eq_true rfl⟩) (pre_v ⟨rfl, hp⟩ hKN (recv hKN hp.1 rfl)) rfl rfl hl.1 rfl (lv_room (Nat.le_of_ble_eq_true rfl)) dX1_goUp_50 ⟨Nat.zero_le _, Nat.zero_le _⟩) (fun h50 => ?_) (fun a50 h50 => ?_)
            · have e50 := tp_none h50
              refine lv_iload_n hx hb dX1_goUp_53 rfl (lv_at hl 3 rfl) ?_
              refine pq_i (va_runV (As := [.null, .int sel]) (rest := []) ⟨hx, hb, hml, hown, hts⟩ (c_X1_findIn_null l D cI cZ cT ρ h tq th O 0 0 _ sel) (cwV 2 hts gX1_goUp_X1_findIn rfl rfl rfl (by decide +kernel) ⟨Nat.le_of_ble_eq_true rfl, Nat.le_of_ble_eq_true rfl⟩) (pre_v ⟨rfl, hp⟩ hKN (recv hKN hp.1 rfl)) rfl rfl hl.1 rfl (lv_room (Nat.le_of_ble_eq_true rfl)) dX1_goUp_54 ⟨Nat.zero_le _, Nat.zero_le _⟩) (fun r54 hr54 => ?_)
              subst hr54
              have hf : fnd O (O.2.2.2 j20 1) sel = none := fnd_none e50
              refine lv_if_eq (tgt := 68) hx hb dX1_goUp_57 (by decide) (fun _ => ?_) (fun c9 => absurd (by decide) c9)
              refine lv_aload hx hb dX1_goUp_68 (lv_at hl 0 rfl) ?_
              refine lv_iconst (v := 0) hx hb dX1_goUp_70 (by decide) ?_
              have q20 := (cls_tv e20).2
              refine pq_i (va_runVN (As := [.int 0]) (rest := []) ⟨hx, hb, hml, hown, hts⟩ (c_X0_field l D cI cZ cT a20 f20 (O.2.1 j20) (O.2.2.1 j20) (O.2.2.2 j20) _ 0) ⟨va_cnB 1 hts gX1_goUp_X0_field_n37 rfl rfl rfl hKN.2.2.2.2.2.1 (hts (.initialized RX0) (by decide +kernel)) (by decide +kernel) ⟨Nat.le_of_ble_eq_true rfl, Nat.le_of_ble_eq_true rfl⟩, hts (.instanceMethod yX0_field) (by decide +kernel), hts (.selects RX0 yX0_field yX0_field) (by decide +kernel)⟩ (pre_v ⟨rfl, t20⟩ hKN (recv hKN t20.1 rfl)) rfl rfl hl.1 rfl (lv_room (Nat.le_of_ble_eq_true rfl)) dX1_goUp_71 ⟨Nat.zero_le _, Nat.zero_le _⟩) (fun r71 hr71 => ?_)
              have hr71 : r71 = O.2.2.2 j20 0 := by
                rw [hr71]
                exact fl1_lt (i := 0) (by omega) t20.2.2
              subst hr71
              refine lv_istore_n (lv' := [(3, .int (O.2.2.2 j20 0)), (5, .ref a20), (0, .ref h), (1, .int c0), (2, .int sel), (4, .int (nI k))]) hx hb dX1_goUp_74 rfl hl (by decide) rfl (fun ls hl => ?_)
              refine lv_iinc (v := ((nI k) + 1)) (lv' := [(4, .int ((nI k) + 1)), (3, .int (O.2.2.2 j20 0)), (5, .ref a20), (0, .ref h), (1, .int c0), (2, .int sel)]) hx hb dX1_goUp_75 hl (k := 5) rfl rfl (by decide) rfl (fun ls hl => ?_)
              refine lv_goto (tgt := 5) hx hb dX1_goUp_78 (by decide) ?_
              rw [← nI_succ] at hl
              exact ih (k + 1) _ (by omega) (by rw [hu, up_go c13 e20 b33 hf, nI_succ]) _ _ hp hS _ (lv_sub hl [3, 4, 5, 1, 0] rfl)
            · obtain ⟨j50, f50, e50, x50, y50, z50, l50, u50, m50, t50⟩ := tp_some h50
              refine lv_iload_n hx hb dX1_goUp_53 rfl (lv_at hl 3 rfl) ?_
              have hpo := hp
              refine pm_i (va_runV (As := [.ref a50, .int sel]) (rest := []) ⟨hx, hb, hml, hown, hts⟩ (c_X1_findIn l D cI cZ cT ρ h tq th O 0 0 _ sel j50 a50 f50 t50) (cwV 2 hts gX1_goUp_X1_findIn rfl rfl rfl (by decide +kernel) ⟨Nat.le_of_ble_eq_true rfl, Nat.le_of_ble_eq_true rfl⟩) (pre_v ⟨rfl, hp⟩ hKN (recv hKN hp.1 rfl)) rfl rfl hl.1 rfl (lv_room (Nat.le_of_ble_eq_true rfl)) dX1_goUp_54 ⟨Nat.zero_le _, Nat.zero_le _⟩) hS (fun q _ h9 => h9) (fun q h9 => h9) (fun r54 H locs hr54 hz hk hS => ?_)
              replace t20 := tg_h hpo y20 z20 t20 hk
              rcases hr54 with ⟨w54, hr54, hp⟩ | ⟨i54, w54, hr54, hp⟩
              · subst hr54
                have hf : fnd O (O.2.2.2 j20 1) sel = none := fnd_not e50 w54
                refine lv_if_eq (tgt := 68) hx hb dX1_goUp_57 (by decide) (fun _ => ?_) (fun c9 => absurd (by decide) c9)
                refine lv_aload hx hb dX1_goUp_68 (lv_at hl 0 rfl) ?_
                refine lv_iconst (v := 0) hx hb dX1_goUp_70 (by decide) ?_
                have q20 := (cls_tv e20).2
                refine pq_i (va_runVN (As := [.int 0]) (rest := []) ⟨hx, hb, hml, hown, hts⟩ (c_X0_field l D cI cZ cT a20 f20 (O.2.1 j20) (O.2.2.1 j20) (O.2.2.2 j20) _ 0) ⟨va_cnB 1 hts gX1_goUp_X0_field_n37 rfl rfl rfl hKN.2.2.2.2.2.1 (hts (.initialized RX0) (by decide +kernel)) (by decide +kernel) ⟨Nat.le_of_ble_eq_true rfl, Nat.le_of_ble_eq_true rfl⟩, hts (.instanceMethod yX0_field) (by decide +kernel), hts (.selects RX0 yX0_field yX0_field) (by decide +kernel)⟩ (pre_v ⟨rfl, t20⟩ hKN (recv hKN t20.1 rfl)) rfl rfl hl.1 rfl (lv_room (Nat.le_of_ble_eq_true rfl)) dX1_goUp_71 ⟨Nat.zero_le _, Nat.zero_le _⟩) (fun r71 hr71 => ?_)
                have hr71 : r71 = O.2.2.2 j20 0 := by
                  rw [hr71]
                  exact fl1_lt (i := 0) (by omega) t20.2.2
                subst hr71
                refine lv_istore_n (lv' := [(3, .int (O.2.2.2 j20 0)), (5, .ref a20), (0, .ref h), (1, .int c0), (2, .int sel), (4, .int (nI k))]) hx hb dX1_goUp_74 rfl hl (by decide) rfl (fun ls hl => ?_)
                refine lv_iinc (v := ((nI k) + 1)) (lv' := [(4, .int ((nI k) + 1)), (3, .int (O.2.2.2 j20 0)), (5, .ref a20), (0, .ref h), (1, .int c0), (2, .int sel)]) hx hb dX1_goUp_75 hl (k := 5) rfl rfl (by decide) rfl (fun ls hl => ?_)
                refine lv_goto (tgt := 5) hx hb dX1_goUp_78 (by decide) ?_
                rw [← nI_succ] at hl
                exact ih (k + 1) _ (by omega) (by rw [hu, up_go c13 e20 b33 hf, nI_succ]) _ _ hp hS _ (lv_sub hl [3, 4, 5, 1, 0] rfl)
              · subst hr54
                have hf : fnd O (O.2.2.2 j20 1) sel = some (O.2.2.2 j50 (i54 + 1)) := fnd_some e50 w54
                refine lv_if_eq (tgt := 68) hx hb dX1_goUp_57 (by decide) (fun c9 => absurd c9 (by decide)) (fun _ => ?_)
                refine lv_aload_n hx hb dX1_goUp_60 rfl (lv_at hl 1 rfl) ?_
                refine lv_iload_n hx hb dX1_goUp_61 rfl (lv_at hl 4 rfl) ?_
                refine pw_put (ci := 1) (v := .int c9) (ty := .int) (C := RX1) (T := TX1) (N := 3) hx hb hts (iw_X1_goUp_X1) tyX1 tyX1_ok nmX1 hown hK hp.1 hS rfl rfl 2 (by decide) (hts (.fieldLink RX1 19 "MethodBook" "foundClass" "I") (by decide +kernel)) (fun _ h9 => h9) rfl (by decide +kernel) rfl rfl (Nat.le_of_ble_eq_true rfl) dX1_goUp_62 (fun H locs hh hz ho hS => ?_)
                replace hp := px_found (wh' := c9) hp hz ho hh (cls_even e20)
                refine lv_iload hx hb dX1_goUp_65 (lv_at hl 5 rfl) ?_
                refine W.iret (v := (nI k)) hx hb hr (fun t ht hW => ⟨⟨_, rfl, ?_⟩, hS.F ht⟩) hS.2.2 dX1_goUp_67
                rw [ht]
                rw [hu, up_fnd c13 e20 b33 hf]
                exact ⟨rfl, hp⟩
          · refine lv_if_eq (tgt := 42) hx hb dX1_goUp_36 (by decide) (fun c9 => absurd c9 (by decide)) (fun _ => ?_)
            refine lv_bipush (v := (-2)) hx hb dX1_goUp_39 (by decide) ?_
            refine W.iret (v := (-2)) hx hb hr (fun t ht hW => ⟨⟨_, rfl, ?_⟩, hS.F ht⟩) hS.2.2 dX1_goUp_41
            rw [ht]
            rw [hu, up_bad c13 e20 b33]
            exact ⟨rfl, hp⟩
      · refine lv_iconst (v := (-1)) hx hb dX1_goUp_16 (by decide) ?_
        refine W.iret (v := (-1)) hx hb hr (fun t ht hW => ⟨⟨_, rfl, ?_⟩, hS.F ht⟩) hS.2.2 dX1_goUp_17
        rw [ht]
        rw [hu, up_nil c13]
        exact ⟨rfl, hp⟩
  exact loop 100 0 c0 (by omega) rfl _ _ hp hS _ (lv_sub hl [2, 3, 4, 1, 0] rfl)
set_option maxHeartbeats 4000000 in
set_option maxRecDepth 100000 in
theorem c_X1_lookUp (l : Launch) (D : va_G) (cI cZ cT : ClassId) (ρ : Nat → Nat) (h tq : Nat) (th : Nat → Option Nat) (O : Ob) (mt wh : Int32) (H0 : Heap) (c0 sel : Int32) : Met l yX1_lookUp wsX1_lookUp ({ frames := 4, cells := 0, slots := 0, locals := 90 }) (pK D cI cZ cT [.ref h, .int c0, .int sel] (fun H => H = H0 ∧ px D cI cT ρ h tq th O mt wh H0)) (pm_Qi (fun r H1 => r = (lk O c0 sel).1 ∧ px D cI cT ρ h tq th O (lk O c0 sel).2.1 (lk O c0 sel).2.2 H1) (fun q : Nat => q = h)) 0 0 (fun q : Nat => q = h) := by
  refine Met.ofW (cc := cX1_lookUp) (maxL := 3) (ret := (some .int)) (by decide) rfl ?_
  intro p e s m args below meth c s₁ B hml hv
  obtain ⟨rfl, hpic, hKN⟩ := hv
  have hK := hKN.1
  have hx := B.exec
  have hb := B.bytes
  have hr := B.returns
  have hts := atoms_spec (ws := wsX1_lookUp) B.pre
  have hown : s.vm.findClass RX1 = some m.cls := findClass_of_methodNamed B.named
  have hlocks := B.notSynchronized
  obtain ⟨hH, hp⟩ := hpic
  subst hH
  have hS : va_S (fun q : Nat => q = h) s.heap s.heap [] := va_S.rf
  have hl := lv_entry ([.ref h, .int c0, .int sel]) (n := 3) (Nat.le_of_ble_eq_true rfl)
  rw [lg_entry_eq]
  generalize (lg_sl ([.ref h, .int c0, .int sel]) ++ List.replicate (3 - (lg_sl ([.ref h, .int c0, .int sel])).length) Slot.unset).toArray = ls at hl ⊢
  have hl : lv_has ls 3 [(0, .ref h), (1, .int c0), (2, .int sel)] := hl
  refine lv_aload_n hx hb dX1_lookUp_0 rfl (lv_at hl 0 rfl) ?_
  refine lv_iconst (v := 0) hx hb dX1_lookUp_1 (by decide) ?_
  refine pw_put (ci := 1) (v := .int 0) (ty := .int) (C := RX1) (T := TX1) (N := 3) hx hb hts (iw_X1_lookUp_X1) tyX1 tyX1_ok nmX1 hown hK hp.1 hS rfl rfl 1 (by decide) (hts (.fieldLink RX1 15 "MethodBook" "foundMethod" "I") (by decide +kernel)) (fun _ h9 => h9) rfl (by decide +kernel) rfl rfl (Nat.le_of_ble_eq_true rfl) dX1_lookUp_2 (fun H locs hh hz ho hS => ?_)
  replace hp := px_found (mt' := 0) (wh' := wh) hp hz ho hh hp.2.2.2.2.2.1
  refine lv_aload_n hx hb dX1_lookUp_5 rfl (lv_at hl 0 rfl) ?_
  refine lv_iconst (v := 0) hx hb dX1_lookUp_6 (by decide) ?_
  refine pw_put (ci := 1) (v := .int 0) (ty := .int) (C := RX1) (T := TX1) (N := 3) hx hb hts (iw_X1_lookUp_X1) tyX1 tyX1_ok nmX1 hown hK hp.1 hS rfl rfl 2 (by decide) (hts (.fieldLink RX1 19 "MethodBook" "foundClass" "I") (by decide +kernel)) (fun _ h9 => h9) rfl (by decide +kernel) rfl rfl (Nat.le_of_ble_eq_true rfl) dX1_lookUp_7 (fun H locs hh hz ho hS => ?_)
  replace hp := px_found (mt' := 0) (wh' := 0) hp hz ho hh rfl
  refine lv_aload_n hx hb dX1_lookUp_10 rfl (lv_at hl 0 rfl) ?_
  refine lv_iload_n hx hb dX1_lookUp_11 rfl (lv_at hl 1 rfl) ?_
  refine pq_b (va_runV (As := [.int c0]) (rest := []) ⟨hx, hb, hml, hown, hts⟩ (c_X1_isValue l D cI cZ cT ρ h tq th O 0 0 _ c0) (cwV 1 hts gX1_lookUp_X1_isValue rfl rfl rfl (by decide +kernel) ⟨Nat.le_of_ble_eq_true rfl, Nat.le_of_ble_eq_true rfl⟩) (pre_v ⟨rfl, hp⟩ hKN (recv hKN hp.1 rfl)) rfl rfl hl.1 rfl (lv_room (Nat.le_of_ble_eq_true rfl)) dX1_lookUp_12 ⟨Nat.zero_le _, Nat.zero_le _⟩) (fun b12 => ?_) (fun b12 => ?_)
  · refine lv_if_eq (tgt := 26) hx hb dX1_lookUp_15 (by decide) (fun _ => ?_) (fun c9 => absurd (by decide) c9)
    refine lv_bipush (v := (-2)) hx hb dX1_lookUp_26 (by decide) ?_
    refine W.iret (v := (-2)) hx hb hr (fun t ht hW => ⟨⟨_, rfl, ?_⟩, hS.F ht⟩) hS.2.2 dX1_lookUp_28
    rw [ht]
    have e9 : lk O c0 sel = (-2, 0, 0) := by
      unfold lk
      rw [if_neg (by rw [b12]; simp)]
    rw [e9]
    exact ⟨rfl, hp⟩
  · refine lv_if_eq (tgt := 26) hx hb dX1_lookUp_15 (by decide) (fun c9 => absurd c9 (by decide)) (fun _ => ?_)
    refine lv_aload_n hx hb dX1_lookUp_18 rfl (lv_at hl 0 rfl) ?_
    refine lv_iload_n hx hb dX1_lookUp_19 rfl (lv_at hl 2 rfl) ?_
    refine pq_b (va_runV (As := [.int sel]) (rest := []) ⟨hx, hb, hml, hown, hts⟩ (c_X1_isValue l D cI cZ cT ρ h tq th O 0 0 _ sel) (cwV 1 hts gX1_lookUp_X1_isValue rfl rfl rfl (by decide +kernel) ⟨Nat.le_of_ble_eq_true rfl, Nat.le_of_ble_eq_true rfl⟩) (pre_v ⟨rfl, hp⟩ hKN (recv hKN hp.1 rfl)) rfl rfl hl.1 rfl (lv_room (Nat.le_of_ble_eq_true rfl)) dX1_lookUp_20 ⟨Nat.zero_le _, Nat.zero_le _⟩) (fun b20 => ?_) (fun b20 => ?_)
    · refine lv_if_ne (tgt := 29) hx hb dX1_lookUp_23 (by decide) (fun c9 => absurd rfl c9) (fun _ => ?_)
      refine lv_bipush (v := (-2)) hx hb dX1_lookUp_26 (by decide) ?_
      refine W.iret (v := (-2)) hx hb hr (fun t ht hW => ⟨⟨_, rfl, ?_⟩, hS.F ht⟩) hS.2.2 dX1_lookUp_28
      rw [ht]
      have e9 : lk O c0 sel = (-2, 0, 0) := by
        unfold lk
        rw [if_neg (by rw [b20]; simp)]
      rw [e9]
      exact ⟨rfl, hp⟩
    · refine lv_if_ne (tgt := 29) hx hb dX1_lookUp_23 (by decide) (fun _ => ?_) (fun c9 => absurd c9 (by decide))
      refine lv_aload_n hx hb dX1_lookUp_29 rfl (lv_at hl 0 rfl) ?_
      refine lv_iload_n hx hb dX1_lookUp_30 rfl (lv_at hl 1 rfl) ?_
      refine lv_iload_n hx hb dX1_lookUp_31 rfl (lv_at hl 2 rfl) ?_
      refine pm_i (va_runV (As := [.int c0, .int sel]) (rest := []) ⟨hx, hb, hml, hown, hts⟩ (c_X1_goUp l D cI cZ cT ρ h tq th O _ c0 sel) (cwV 2 hts gX1_lookUp_X1_goUp rfl rfl rfl (by decide +kernel) ⟨Nat.le_of_ble_eq_true rfl, Nat.le_of_ble_eq_true rfl⟩) (pre_v ⟨rfl, hp⟩ hKN (recv hKN hp.1 rfl)) rfl rfl hl.1 rfl (lv_room (Nat.le_of_ble_eq_true rfl)) dX1_lookUp_32 ⟨Nat.zero_le _, Nat.zero_le _⟩) hS (fun q _ h9 => h9) (fun q h9 => h9) (fun r32 H locs hr32 hz hk hS => ?_)
      refine W.iret (v := r32) hx hb hr (fun t ht hW => ⟨⟨_, rfl, ?_⟩, hS.F ht⟩) hS.2.2 dX1_lookUp_35
      rw [ht]
      have e9 : lk O c0 sel = up O sel 100 c0 0 := by
        unfold lk
        rw [if_pos ⟨b12, b20⟩]
      rw [e9]
      exact hr32
set_option maxHeartbeats 4000000 in
set_option maxRecDepth 100000 in
theorem c_X1_above (l : Launch) (D : va_G) (cI cZ cT : ClassId) (ρ : Nat → Nat) (h tq : Nat) (th : Nat → Option Nat) (O : Ob) (mt wh : Int32) (H0 : Heap) (sel : Int32) : Met l yX1_above wsX1_above ({ frames := 5, cells := 0, slots := 0, locals := 112 }) (pK D cI cZ cT [.ref h, .int sel] (fun H => H = H0 ∧ px D cI cT ρ h tq th O mt wh H0)) (pm_Qi (fun r H1 => r = (abv O mt wh sel).1 ∧ px D cI cT ρ h tq th O (abv O mt wh sel).2.1 (abv O mt wh sel).2.2 H1) (fun q : Nat => q = h)) 0 0 (fun q : Nat => q = h) := by
  refine Met.ofW (cc := cX1_above) (maxL := 2) (ret := (some .int)) (by decide) rfl ?_
  intro p e s m args below meth c s₁ B hml hv
  obtain ⟨rfl, hpic, hKN⟩ := hv
  have hK := hKN.1
  have hx := B.exec
  have hb := B.bytes
  have hr := B.returns
  have hts := atoms_spec (ws := wsX1_above) B.pre
  have hown : s.vm.findClass RX1 = some m.cls := findClass_of_methodNamed B.named
  have hlocks := B.notSynchronized
  obtain ⟨hH, hp⟩ := hpic
  subst hH
  have hS : va_S (fun q : Nat => q = h) s.heap s.heap [] := va_S.rf
  have hl := lv_entry ([.ref h, .int sel]) (n := 2) (Nat.le_of_ble_eq_true rfl)
  rw [lg_entry_eq]
  generalize (lg_sl ([.ref h, .int sel]) ++ List.replicate (2 - (lg_sl ([.ref h, .int sel])).length) Slot.unset).toArray = ls at hl ⊢
  have hl : lv_has ls 2 [(0, .ref h), (1, .int sel)] := hl
  refine lv_aload_n hx hb dX1_above_0 rfl (lv_at hl 0 rfl) ?_
  refine va_get (D := D) (ci := 1) (v := .int wh) (C := RX1) (T := TX1) (N := 3) hx hb hts (iw_X1_above_X1) hown hK (one hp.1) 0 rfl rfl 2 (by decide) (hts (.fieldLink RX1 19 "MethodBook" "foundClass" "I") (by decide +kernel)) (fun _ h9 => h9) rfl dX1_above_1 ?_
  refine lv_if_ne (tgt := 9) hx hb dX1_above_4 (by decide) (fun c4 => ?_) (fun c4 => ?_)
  · refine lv_aload_n hx hb dX1_above_9 rfl (lv_at hl 0 rfl) ?_
    refine lv_aload_n hx hb dX1_above_10 rfl (lv_at hl 0 rfl) ?_
    refine lv_aload_n hx hb dX1_above_11 rfl (lv_at hl 0 rfl) ?_
    refine va_get (D := D) (ci := 1) (v := .int wh) (C := RX1) (T := TX1) (N := 3) hx hb hts (iw_X1_above_X1) hown hK (one hp.1) 0 rfl rfl 2 (by decide) (hts (.fieldLink RX1 19 "MethodBook" "foundClass" "I") (by decide +kernel)) (fun _ h9 => h9) rfl dX1_above_12 ?_
    refine pq_i (va_runS (As := [.int wh]) (rest := [.ref h, .ref h]) ⟨hx, hb, hml, hown, hts⟩ (c_X1_objectNumber l D cI cZ cT wh) (va_cwS 1 hts gX1_above_X1_objectNumber rfl rfl rfl (by decide +kernel) ⟨Nat.le_of_ble_eq_true rfl, Nat.le_of_ble_eq_true rfl⟩) (pre_s trivial hKN) rfl rfl hl.1 rfl (lv_room (Nat.le_of_ble_eq_true rfl)) dX1_above_15 ⟨Nat.zero_le _, Nat.zero_le _⟩) (fun r15 hr15 => ?_)
    refine lv_iconst (v := 0) hx hb dX1_above_18 (by decide) ?_
    refine pq_i (va_runV (As := [.int r15, .int 0]) (rest := [.ref h]) ⟨hx, hb, hml, hown, hts⟩ (c_X1_get l D cI cZ cT ρ h tq th O mt wh _ r15 0) (cwV 2 hts gX1_above_X1_get rfl rfl rfl (by decide +kernel) ⟨Nat.le_of_ble_eq_true rfl, Nat.le_of_ble_eq_true rfl⟩) (pre_v ⟨rfl, hp⟩ hKN (recv hKN hp.1 rfl)) rfl rfl hl.1 rfl (lv_room (Nat.le_of_ble_eq_true rfl)) dX1_above_19 ⟨Nat.zero_le _, Nat.zero_le _⟩) (fun r19 hr19 => ?_)
    refine lv_iload_n hx hb dX1_above_22 rfl (lv_at hl 1 rfl) ?_
    refine pm_i (va_runV (As := [.int r19, .int sel]) (rest := []) ⟨hx, hb, hml, hown, hts⟩ (c_X1_lookUp l D cI cZ cT ρ h tq th O mt wh _ r19 sel) (cwV 2 hts gX1_above_X1_lookUp rfl rfl rfl (by decide +kernel) ⟨Nat.le_of_ble_eq_true rfl, Nat.le_of_ble_eq_true rfl⟩) (pre_v ⟨rfl, hp⟩ hKN (recv hKN hp.1 rfl)) rfl rfl hl.1 rfl (lv_room (Nat.le_of_ble_eq_true rfl)) dX1_above_23 ⟨Nat.zero_le _, Nat.zero_le _⟩) hS (fun q _ h9 => h9) (fun q h9 => h9) (fun r23 H locs hr23 hz hk hS => ?_)
    refine W.iret (v := r23) hx hb hr (fun t ht hW => ⟨⟨_, rfl, ?_⟩, hS.F ht⟩) hS.2.2 dX1_above_26
    rw [ht]
    have e9 : abv O mt wh sel = lk O r19 sel := by
      unfold abv
      rw [if_neg c4, hr19]
      unfold fab gto tk
      rw [hr15, tv_even hp.2.2.2.2.2.1]
    rw [e9]
    exact hr23
  · refine lv_iconst (v := (-1)) hx hb dX1_above_7 (by decide) ?_
    refine W.iret (v := (-1)) hx hb hr (fun t ht hW => ⟨⟨_, rfl, ?_⟩, hS.F ht⟩) hS.2.2 dX1_above_8
    rw [ht]
    have e9 : abv O mt wh sel = (-1, mt, wh) := by
      unfold abv
      rw [if_pos c4]
    rw [e9]
    exact ⟨rfl, hp⟩
