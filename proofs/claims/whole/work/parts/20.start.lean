theorem px_new {D : va_G} {cI cT : ClassId} {h tq : Nat} {H : Heap} (h1 : va_at D vwCl (h, .inr (1, [.ref tq, .int 0, .int 0])) H) (h2 : va_at D vwCl (tq, .inl (cT, 401, .inr (.inr (.inr (.inr (fun _ => none)))))) H) (hne : h ≠ tq) : px D cI cT (fun q => if q = h then 1 else if q = tq then 2 else 0) h tq (fun _ => none) ob0 0 0 H := by
  refine ⟨h1, h2, if_pos rfl, ?_, fun q hq => ?_, rfl, fun k _ _ => Or.inl ⟨rfl, rfl⟩⟩
  · show (if tq = h then 1 else if tq = tq then 2 else 0) = 2
    rw [if_neg (Ne.symm hne), if_pos rfl]
  · by_cases e1 : q = h
    · rw [e1]; exact h1.lt
    · by_cases e2 : q = tq
      · rw [e2]; exact h2.lt
      · exact absurd (show (if q = h then 1 else if q = tq then 2 else 0) = 0 by rw [if_neg e1, if_neg e2]) hq
theorem rm_new : rm ob0 (fun _ => 0) (fun _ => 0) (fun _ => 0) := fun k _ _ => Or.inl ⟨rfl, rfl⟩
set_option maxHeartbeats 16000000 in
set_option maxRecDepth 100000 in
/-- THE LAW, from its entry -/
theorem whole_start {p : Program} {e : Env} {s : State} {m : MethodId} {below : List Frame} {meth : Method} {c : Code} (l : Launch) (hflags : l.flags = flags0) {b L : Nat} {xs : Nat → Int32} (hL : L ≤ 2048) (C0 : lw_At p s m meth c b L xs) : W p l e room_1 s m #[Value.ref b] below meth c s.heap [] 0 0 (lw_Z below #[Value.ref b] s) (entryFrame m ([Value.ref b] : List Value).toArray 4) := by
  obtain ⟨hx, hb, hr, hml, hown, hts0, hX, hbl, hlocks, hgv⟩ := id C0
  have hts : ∀ w ∈ wsL_law, w.before #[Value.ref b] s = true := fun w h => hts0 w (wsL_law_in w h)
  have hown : s.vm.findClass RL = some m.cls := hown
  obtain ⟨c0, iS0, hKn0⟩ := u_known (C := RX0) (T := TX0) (N := 2) (n := 2) hts0 inX0 (hts0 (.instantiable RX0 2) (by decide +kernel))
  obtain ⟨c1, iS1, hKn1⟩ := u_known (C := RX1) (T := TX1) (N := 3) (n := 3) hts0 inX1 (hts0 (.instantiable RX1 3) (by decide +kernel))
  obtain ⟨c2, iS2, hKn2⟩ := u_known (C := RX2) (T := TX2) (N := 5) (n := 5) hts0 inX2 (hts0 (.instantiable RX2 5) (by decide +kernel))
  obtain ⟨D, hKc⟩ : ∃ (D : va_G), ∀ (k : Nat) (q : vw_C), vwCl[k]? = some q → u_Kn s q.1 q.2.1 q.2.2 (D.1 k) (D.2 k) := by
    refine ⟨(fun k => if k = 0 then c0 else if k = 1 then c1 else c2, fun k => if k = 0 then iS0 else if k = 1 then iS1 else iS2), ?_⟩
    intro k q hq
    match k, hq with
    | 0, hq => cases hq; exact hKn0
    | 1, hq => cases hq; exact hKn1
    | 2, hq => cases hq; exact hKn2
    | k + 3, hq => simp [vwCl] at hq
  have hK : va_K D vwCl [] s := ⟨hKc, fun k q h => by simp at h⟩
  have hN : nx s := ⟨va_Nw.of rfl (hts0 (.methodLinkNest RX1 22 yX0_init RX1) (by decide +kernel)), va_Nw.of rfl (hts0 (.fieldLinkNest RX1 45 RX0 "fields" "[I" RX1) (by decide +kernel)), va_Nw.of rfl (hts0 (.fieldLinkNest RX1 41 RX0 "ofFields" "Z" RX1) (by decide +kernel)), va_Nw.of rfl (hts0 (.methodLinkNest RX1 33 yX0_setField RX1) (by decide +kernel)), va_Nw.of rfl (hts0 (.methodLinkNest RX1 37 yX0_field RX1) (by decide +kernel)), va_Nw.of rfl (hts0 (.methodLinkNest RX1 71 yX0_canBeClass RX1) (by decide +kernel)), va_Nw.of rfl (hts0 (.methodLinkNest RX1 78 yX0_placeOfMethod RX1) (by decide +kernel)), va_Nw.of rfl (hts0 (.methodLinkNest RX1 68 yX0_exchange RX1) (by decide +kernel))⟩
  have hAO : va_AO RX0 s := va_AO.of (hts0 (.arrayOver (.object RX0)) (by decide +kernel))
  have hS : va_S (fun q : Nat => s.heap.size ≤ q) s.heap s.heap [] := va_S.rf
  have hl := lv_entry ([.ref b]) (n := 4) (Nat.le_of_ble_eq_true rfl)
  rw [lg_entry_eq]
  generalize (lg_sl ([.ref b]) ++ List.replicate (4 - (lg_sl ([.ref b])).length) Slot.unset).toArray = ls at hl ⊢
  have hl : lv_has ls 4 [(0, .ref b)] := hl
  refine pw_new (ci := 1) (fs := [.null, .int 0, .int 0]) (C := RX1) (T := TX1) (N := 3) hx hb hts inlX1 tyX1 tyX1_ok hown (hts (.classLink RL 7 RX1) (by decide +kernel)) (hts (.instantiable RX1 3) (by decide +kernel)) (hts (.initialized RX1) (by decide +kernel)) hK hS rfl (fun j hj => by rcases (show j = 0 ∨ j = 1 ∨ j = 2 by omega) with rfl | rfl | rfl <;> rfl) (Nat.le_of_ble_eq_true rfl) (Nat.le_of_ble_eq_true rfl) dL_law_0 (fun x H hqx hnx hzx hox hS => ?_)
  refine lv_dup hx hb dL_law_3 rfl ?_
  refine pm_v (va_runI (As := []) (rest := [.ref x]) ⟨hx, hb, hml, hown, hts⟩ (c_X1_init l D x H) (cwI 0 hts gL_law_X1_init rfl rfl rfl (hts (.initialized RX1) (by decide +kernel)) (hts (.methodLink RL 9 yX1_init) (by decide +kernel)) (hts (.instanceMethod yX1_init) (by decide +kernel)) rfl (by decide +kernel) ⟨Nat.le_of_ble_eq_true rfl, Nat.le_of_ble_eq_true rfl⟩) (pre_1 ⟨rfl, hnx⟩ hK hAO) rfl rfl hl.1 rfl (lv_room (Nat.le_of_ble_eq_true rfl)) dL_law_4 ⟨Nat.le_of_ble_eq_true rfl, Nat.le_of_ble_eq_true rfl⟩) hS (fun q _ h9 => by show s.heap.size ≤ q; rcases h9 with h9 | h9 <;> omega) (fun q h9 => by show s.heap.size ≤ q; rcases h9 with h9 | h9 <;> omega) (fun t1 H1 locs ht1 hvm1 hq1 hz1 hk1 hS => ?_)
  obtain ⟨tq, cT, at1, at2, hzt, hnt, hKT⟩ := hq1
  rw [ht1] at at1 at2
  have hKT := va_K.moved hvm1.symm hKT
  refine lv_astore_n (lv' := [(1, .ref x), (0, .ref b)]) hx hb dL_law_7 rfl hl (by decide) rfl (fun ls hl => ?_)
  refine pw_new (ci := 2) (fs := [.null, .null, .null, .int 0, .int 0]) (C := RX2) (T := TX2) (N := 5) hx hb hts inlX2 tyX2 tyX2_ok hown (hts (.classLink RL 10 RX2) (by decide +kernel)) (hts (.instantiable RX2 5) (by decide +kernel)) (hts (.initialized RX2) (by decide +kernel)) hK hS rfl (fun j hj => by rcases (show j = 0 ∨ j = 1 ∨ j = 2 ∨ j = 3 ∨ j = 4 by omega) with rfl | rfl | rfl | rfl | rfl <;> rfl) (Nat.le_of_ble_eq_true rfl) (Nat.le_of_ble_eq_true rfl) dL_law_8 (fun y H2 hqy hny hzy hoy hS => ?_)
  refine lv_dup hx hb dL_law_11 rfl ?_
  refine pm_v (va_runI (As := []) (rest := [.ref y]) ⟨hx, hb, hml, hown, hts⟩ (c_X2_init l D y H2) (cwI 0 hts gL_law_X2_init rfl rfl rfl (hts (.initialized RX2) (by decide +kernel)) (hts (.methodLink RL 12 yX2_init) (by decide +kernel)) (hts (.instanceMethod yX2_init) (by decide +kernel)) rfl (by decide +kernel) ⟨Nat.le_of_ble_eq_true rfl, Nat.le_of_ble_eq_true rfl⟩) ⟨fun a U g mk q => ⟨q.1, q.2.1, va_K.moved (u := U) (U := U.calling g mk a) (Vm.Alike.refl U.vm) q.2.2⟩, fun U hU hW => ⟨rfl, ⟨hU, hny⟩, va_K.moved hW.alike hK⟩⟩ rfl rfl hl.1 rfl (lv_room (Nat.le_of_ble_eq_true rfl)) dL_law_12 ⟨Nat.le_of_ble_eq_true rfl, Nat.le_of_ble_eq_true rfl⟩) hS (fun q _ h9 => by show s.heap.size ≤ q; rcases h9 with h9 | h9 <;> omega) (fun q h9 => by show s.heap.size ≤ q; rcases h9 with h9 | h9 <;> omega) (fun t3 H3 locs ht3 hvm3 hq3 hz3 hk3 hS => ?_)
  obtain ⟨a1, a2, a3, cI, cZ, hmy, ⟨za1, za2, za3⟩, hKI⟩ := hq3
  rw [ht3] at hmy
  have hKI := va_K.moved hvm3.symm hKI
  have hKN : KN D cI cZ cT s := ⟨hKI.app hKT, hN⟩
  have lx : x < H1.size := at1.lt
  have lt : tq < H1.size := at2.lt
  have b1 := (at1.kept (hoy x lx)).kept (hk3 x (by omega) (fun h9 => by rcases h9 with h9 | h9 <;> omega))
  have b2 := (at2.kept (hoy tq lt)).kept (hk3 tq (by omega) (fun h9 => by rcases h9 with h9 | h9 <;> omega))
  have hpx := px_new (cI := cI) b1 b2 hnt
  have ro : ∀ q : Nat, H1.size ≤ q → (fun q => if q = x then 1 else if q = tq then 2 else 0) q = 0 := fun q hq => by
    show (if q = x then 1 else if q = tq then 2 else 0) = 0
    rw [if_neg (by omega), if_neg (by omega)]
  refine lv_astore_n (lv' := [(2, .ref y), (1, .ref x), (0, .ref b)]) hx hb dL_law_15 rfl hl (by decide) rfl (fun ls hl => ?_)
  refine lv_iconst (v := 0) hx hb dL_law_16 (by decide) ?_
  refine lv_istore_n (lv' := [(3, .int 0), (2, .ref y), (1, .ref x), (0, .ref b)]) hx hb dL_law_17 rfl hl (by decide) rfl (fun ls hl => ?_)
  refine W.widen (k := 6 + 2 * 0) (n := 17251 + 42 * 0) (Nat.le_of_ble_eq_true rfl) (Nat.le_of_ble_eq_true rfl) ?_
  exact law_loop hL C0 hKN 512 0 (by omega) (by omega) ob0 0 0 _ _ ⟨_, tq, _, a1, a2, a3, _, _, _, hpx, hmy, rm_new, ⟨ro y (by omega), ro a1 (by omega), ro a2 (by omega), ro a3 (by omega)⟩, fun q h9 => by
    by_cases e1 : q = x
    · omega
    · by_cases e2 : q = tq
      · omega
      · exact absurd (show (if q = x then 1 else if q = tq then 2 else 0) = 0 by rw [if_neg e1, if_neg e2]) h9, ⟨by omega, by omega, by omega, by omega⟩⟩ hS _ (lv_sub hl [3, 2, 1, 0] rfl)
