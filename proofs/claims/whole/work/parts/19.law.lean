/-! ===== class and reference side by side ===== -/
def LI (D : va_G) (cI cZ cT : ClassId) (z x y : Nat) (O : Ob) (mt wh : Int32) (H : Heap) : Prop :=
  ∃ (ρ : Nat → Nat) (tq : Nat) (th : Nat → Option Nat) (a1 a2 a3 : Nat) (md sz fl : Nat → Int32), px D cI cT ρ x tq th O mt wh H ∧ my D cI cZ y a1 a2 a3 md sz fl mt wh H ∧ rm O md sz fl ∧ (ρ y = 0 ∧ ρ a1 = 0 ∧ ρ a2 = 0 ∧ ρ a3 = 0) ∧ (∀ q, ρ q ≠ 0 → z ≤ q) ∧ (z ≤ y ∧ z ≤ a1 ∧ z ≤ a2 ∧ z ≤ a3)
theorem my_after {D : va_G} {cI cZ : ClassId} {ρ : Nat → Nat} {y a1 a2 a3 : Nat} {md sz fl : Nat → Int32} {mt wh : Int32} {H H1 : Heap} (hq : my D cI cZ y a1 a2 a3 md sz fl mt wh H) (hd : ρ y = 0 ∧ ρ a1 = 0 ∧ ρ a2 = 0 ∧ ρ a3 = 0) (hk : ∀ q, q < H.size → ρ q = 0 → H1[q]? = H[q]?) : my D cI cZ y a1 a2 a3 md sz fl mt wh H1 := by
  refine my_keep hq (fun q h => ?_)
  rcases h with h | h | h | h
  · rw [h]; exact hk y hq.1.lt hd.1
  · rw [h]; exact hk a1 hq.2.1.lt hd.2.1
  · rw [h]; exact hk a2 hq.2.2.1.lt hd.2.2.1
  · rw [h]; exact hk a3 hq.2.2.2.1.lt hd.2.2.2
theorem px_after {D : va_G} {cI cT : ClassId} {ρ : Nat → Nat} {x tq : Nat} {th : Nat → Option Nat} {O : Ob} {mt wh : Int32} {H H1 : Heap} {y a1 a2 a3 : Nat} (hp : px D cI cT ρ x tq th O mt wh H) (hd : ρ y = 0 ∧ ρ a1 = 0 ∧ ρ a2 = 0 ∧ ρ a3 = 0) (hz : H.size ≤ H1.size) (hk : ∀ q, q < H.size → ¬ (q = y ∨ q = a1 ∨ q = a2 ∨ q = a3) → H1[q]? = H[q]?) : px D cI cT ρ x tq th O mt wh H1 := by
  refine px_keep hp hz (fun q h => hk q (hp.2.2.2.2.1 q h) (fun h2 => ?_))
  rcases h2 with h2 | h2 | h2 | h2
  · rw [h2] at h; exact h hd.1
  · rw [h2] at h; exact h hd.2.1
  · rw [h2] at h; exact h hd.2.2.1
  · rw [h2] at h; exact h hd.2.2.2
theorem rho0 {ρ ρ1 : Nat → Nat} {N q : Nat} (h : ∀ q, ρ1 q ≠ 0 → ρ q ≠ 0 ∨ N ≤ q) (hq : ρ q = 0) (hl : q < N) : ρ1 q = 0 := by
  by_cases h1 : ρ1 q = 0
  · exact h1
  · rcases h q h1 with h2 | h2
    · exact absurd hq h2
    · omega
set_option maxHeartbeats 16000000 in
set_option maxRecDepth 100000 in
/-- THE LAW'S LOOP: at its head, with 4 j ints read, class and reference hold the same objects and have found the same -/
theorem law_loop {p : Program} {l : Launch} {e : Env} {s : State} {m : MethodId} {below : List Frame} {meth : Method} {c : Code} {D : va_G} {cI cZ cT : ClassId} {b L : Nat} {xs : Nat → Int32} {x y : Nat} (hL : L ≤ 2048) (C0 : lw_At p s m meth c b L xs) (hKN : KN D cI cZ cT s) :
    ∀ (n j : Nat), L < 4 * (j + n) + 4 → 4 * j ≤ L → ∀ (O : Ob) (mt wh : Int32) (H : Heap) (locs : List Loc), LI D cI cZ cT s.heap.size x y O mt wh H → va_S (fun q : Nat => s.heap.size ≤ q) s.heap H locs → ∀ ls : Array Slot, lv_has ls 4 [(0, .ref b), (1, .ref x), (2, .ref y), (3, .int (nI (4 * j)))] → W p l e room_1 s m #[Value.ref b] below meth c H locs (6 + 2 * j) (17251 + 42 * j) (lw_Z below #[Value.ref b] s) (F0 m 18 ls []) := by
  obtain ⟨hx, hb, hr, hml, hown, hts0, hX, hbl, hlocks, hgv⟩ := C0
  have hts : ∀ w ∈ wsL_law, w.before #[Value.ref b] s = true := fun w h => hts0 w (wsL_law_in w h)
  have hown : s.vm.findClass RL = some m.cls := hown
  have hbA : ¬ (fun q : Nat => s.heap.size ≤ q) b := Nat.not_le.mpr hbl
  have hK := hKN.1
  have hL4 : (Int32.ofNat L - 4).toInt = L - 4 := by
    have h1 : (Int32.ofNat L).toInt = L := nI_toInt (by omega)
    rw [i_sub _ _ (by rw [h1, i_4]; omega) (by rw [h1, i_4]; omega), h1, i_4]
  intro n
  induction n with
  | zero =>
    intro j h1 h2 O mt wh H locs hLI hS ls hl
    obtain ⟨ρ, tq, th, a1, a2, a3, md, sz, fl, hp, hq, hrm, hd, ho, hz2⟩ := hLI
    have hi0 : (nI (4 * j)).toInt = 4 * j := by rw [nI_toInt (by omega)]; omega
    refine lv_iload_n hx hb dL_law_18 rfl (lv_at hl 3 rfl) ?_
    refine lv_aload_n hx hb dL_law_19 rfl (lv_at hl 0 rfl) ?_
    refine va_slen hx hb hX hbl hbA hS dL_law_20 ?_
    refine lv_iconst (v := 4) hx hb dL_law_21 (by decide) ?_
    refine lv_isub hx hb dL_law_22 ?_
    refine lv_icmp_gt (tgt := 454) hx hb dL_law_23 (by decide) (fun _ => ?_) (fun c9 => absurd (by rw [i_lt, hL4, hi0]; omega) c9)
    refine lv_iconst (v := 1) hx hb dL_law_454 (by decide) ?_
    refine va_forget (fun q hq => hS.2.2 q hq) ?_
    refine W.widen (k := 600000) (n := 7302250) (by omega) (by omega) ?_
    exact lw_ret hx hb hr hlocks dL_law_455
  | succ n ih =>
    intro j h1 h2 O mt wh H locs hLI hS ls hl
    obtain ⟨ρ, tq, th, a1, a2, a3, md, sz, fl, hp, hq, hrm, hd, ho, hz2⟩ := hLI
    have hi0 : (nI (4 * j)).toInt = 4 * j := by rw [nI_toInt (by omega)]; omega
    have hi1 : (nI (4 * j) + 1).toInt = 4 * j + 1 := by rw [i_add _ _ (by rw [hi0]; show _ ≤ (_ : Int) + 1; omega) (by rw [hi0]; show (_ : Int) + 1 < _; omega), hi0]; rfl
    have hi2 : (nI (4 * j) + 2).toInt = 4 * j + 2 := by rw [i_add _ _ (by rw [hi0]; show _ ≤ (_ : Int) + 2; omega) (by rw [hi0]; show (_ : Int) + 2 < _; omega), hi0]; rfl
    have hi3 : (nI (4 * j) + 3).toInt = 4 * j + 3 := by rw [i_add _ _ (by rw [hi0]; show _ ≤ (_ : Int) + 3; omega) (by rw [hi0]; show (_ : Int) + 3 < _; omega), hi0]; rfl
    have hi4 : nI (4 * j) + 4 = nI (4 * (j + 1)) := by
      apply Int32.toInt_inj.mp
      rw [i_add _ _ (by rw [hi0, i_4]; omega) (by rw [hi0, i_4]; omega), hi0, i_4, nI_toInt (by omega)]
      omega
    refine lv_iload_n hx hb dL_law_18 rfl (lv_at hl 3 rfl) ?_
    refine lv_aload_n hx hb dL_law_19 rfl (lv_at hl 0 rfl) ?_
    refine va_slen hx hb hX hbl hbA hS dL_law_20 ?_
    refine lv_iconst (v := 4) hx hb dL_law_21 (by decide) ?_
    refine lv_isub hx hb dL_law_22 ?_
    refine lv_icmp_gt (tgt := 454) hx hb dL_law_23 (by decide) (fun c23 => ?_) (fun c23 => ?_)
    · simp only [i_lt, i_le, i_0, i_1, i_2, i_4, i_40, i_100, i_400, i_401] at c23
      rw [hL4, hi0] at c23
      refine lv_iconst (v := 1) hx hb dL_law_454 (by decide) ?_
      refine va_forget (fun q hq => hS.2.2 q hq) ?_
      refine W.widen (k := 600000) (n := 7302250) (by omega) (by omega) ?_
      exact lw_ret hx hb hr hlocks dL_law_455
    · simp only [i_lt, i_le, i_0, i_1, i_2, i_4, i_40, i_100, i_400, i_401] at c23
      rw [hL4, hi0] at c23
      refine lv_aload_n hx hb dL_law_26 rfl (lv_at hl 0 rfl) ?_
      refine lv_iload_n hx hb dL_law_27 rfl (lv_at hl 3 rfl) ?_
      refine va_sld hx hb hX hbl hbA hS (vp_in_iff.mpr ⟨by rw [hi0]; omega, by rw [hi0]; omega⟩) dL_law_28 ?_
      refine lv_bipush (v := 15) hx hb dL_law_29 (by decide) ?_
      refine lv_iand hx hb dL_law_31 ?_
      have hv := vp_in_iff.mp (pk_andIn (xs (nI (4 * j)).toNatClampNeg) (m := 15) 4 (by decide) (by decide))
      refine lv_topi (fun v ev => ?_)
      rw [← ev] at hv
      rcases (show v.toInt = 0 ∨ v.toInt = 1 ∨ v.toInt = 2 ∨ v.toInt = 3 ∨ v.toInt = 4 ∨ v.toInt = 5 ∨ v.toInt = 6 ∨ v.toInt = 7 ∨ v.toInt = 8 ∨ v.toInt = 9 ∨ v.toInt = 10 ∨ v.toInt = 11 ∨ 11 < v.toInt by omega) with q | q | q | q | q | q | q | q | q | q | q | q | q
      · refine lv_tableIn (off := 64) (tgt := 96) hx hb dL_law_32 (by rw [q]; decide) (by rw [q]; decide) (by rw [q]; decide) (by decide) ?_
        refine lv_aload_n hx hb dL_law_96 rfl (lv_at hl 1 rfl) ?_
        refine lv_aload_n hx hb dL_law_97 rfl (lv_at hl 0 rfl) ?_
        refine lv_iload_n hx hb dL_law_98 rfl (lv_at hl 3 rfl) ?_
        refine lv_iconst (v := 1) hx hb dL_law_99 (by decide) ?_
        refine lv_iadd hx hb dL_law_100 ?_
        refine va_sld hx hb hX hbl hbA hS (vp_in_iff.mpr ⟨by rw [hi1]; omega, by rw [hi1]; omega⟩) dL_law_101 ?_
        refine lv_aload_n hx hb dL_law_102 rfl (lv_at hl 0 rfl) ?_
        refine lv_iload_n hx hb dL_law_103 rfl (lv_at hl 3 rfl) ?_
        refine lv_iconst (v := 2) hx hb dL_law_104 (by decide) ?_
        refine lv_iadd hx hb dL_law_105 ?_
        refine va_sld hx hb hX hbl hbA hS (vp_in_iff.mpr ⟨by rw [hi2]; omega, by rw [hi2]; omega⟩) dL_law_106 ?_
        refine lv_aload_n hx hb dL_law_107 rfl (lv_at hl 0 rfl) ?_
        refine lv_iload_n hx hb dL_law_108 rfl (lv_at hl 3 rfl) ?_
        refine lv_iconst (v := 3) hx hb dL_law_109 (by decide) ?_
        refine lv_iadd hx hb dL_law_110 ?_
        refine va_sld hx hb hX hbl hbA hS (vp_in_iff.mpr ⟨by rw [hi3]; omega, by rw [hi3]; omega⟩) dL_law_111 ?_
        refine lv_if_eq (tgt := 119) hx hb dL_law_112 (by decide) (fun c112 => ?_) (fun c112 => ?_)
        · refine lv_iconst (v := 0) hx hb dL_law_119 (by decide) ?_
          have hS0 := hS
          refine pm_i (va_runV (As := [.int (xs ((nI (4 * j)) + 1).toNatClampNeg), .int (xs ((nI (4 * j)) + 2).toNatClampNeg), .int 0]) (rest := []) ⟨hx, hb, hml, hown, hts⟩ (c_X1_make l D cI cZ cT ρ x tq th O mt wh _ (xs ((nI (4 * j)) + 1).toNatClampNeg) (xs ((nI (4 * j)) + 2).toNatClampNeg) false) (cwV 3 hts gL_law_X1_make rfl rfl rfl (by decide +kernel) ⟨Nat.le_of_ble_eq_true rfl, Nat.le_of_ble_eq_true rfl⟩) (pre_v ⟨rfl, hp⟩ hKN (recv hKN hp.1 rfl)) rfl rfl hl.1 rfl (lv_room (Nat.le_of_ble_eq_true rfl)) dL_law_120 ⟨by show _ ≤ 600000; omega, by show _ ≤ 7302250; omega⟩) hS (fun q _ h9 => h9.elim (ho q) (fun h8 => Nat.le_trans hS0.1 h8)) (fun q h9 => h9.elim (ho q) (fun h8 => Nat.le_trans hS0.1 h8)) (fun r120 H locs hr120 hz hk hS => ?_)
          have hq1 := my_after hq hd (fun q h1 h2 => hk q h1 (fun h3 => h3.elim (fun h4 => h4 h2) (fun h4 => by omega)))
          rcases hr120 with ⟨kx, ex, hp1⟩ | ⟨kx, ex, ρ1, th1, hp1, hρ1⟩
          · rw [ex]
            refine lv_aload_n hx hb dL_law_123 rfl (lv_at hl 2 rfl) ?_
            refine lv_aload_n hx hb dL_law_124 rfl (lv_at hl 0 rfl) ?_
            refine lv_iload_n hx hb dL_law_125 rfl (lv_at hl 3 rfl) ?_
            refine lv_iconst (v := 1) hx hb dL_law_126 (by decide) ?_
            refine lv_iadd hx hb dL_law_127 ?_
            refine va_sld hx hb hX hbl hbA hS (vp_in_iff.mpr ⟨by rw [hi1]; omega, by rw [hi1]; omega⟩) dL_law_128 ?_
            refine lv_aload_n hx hb dL_law_129 rfl (lv_at hl 0 rfl) ?_
            refine lv_iload_n hx hb dL_law_130 rfl (lv_at hl 3 rfl) ?_
            refine lv_iconst (v := 2) hx hb dL_law_131 (by decide) ?_
            refine lv_iadd hx hb dL_law_132 ?_
            refine va_sld hx hb hX hbl hbA hS (vp_in_iff.mpr ⟨by rw [hi2]; omega, by rw [hi2]; omega⟩) dL_law_133 ?_
            refine lv_aload_n hx hb dL_law_134 rfl (lv_at hl 0 rfl) ?_
            refine lv_iload_n hx hb dL_law_135 rfl (lv_at hl 3 rfl) ?_
            refine lv_iconst (v := 3) hx hb dL_law_136 (by decide) ?_
            refine lv_iadd hx hb dL_law_137 ?_
            refine va_sld hx hb hX hbl hbA hS (vp_in_iff.mpr ⟨by rw [hi3]; omega, by rw [hi3]; omega⟩) dL_law_138 ?_
            refine lv_if_eq (tgt := 146) hx hb dL_law_139 (by decide) (fun _ => ?_) (fun c9 => absurd c112 c9)
            refine lv_iconst (v := 0) hx hb dL_law_146 (by decide) ?_
            refine pm_i (va_runV (As := [.int (xs ((nI (4 * j)) + 1).toNatClampNeg), .int (xs ((nI (4 * j)) + 2).toNatClampNeg), .int 0]) (rest := [.int 0]) ⟨hx, hb, hml, hown, hts⟩ (c_X2_make l D cI cZ cT y a1 a2 a3 md sz fl O hrm mt wh _ (xs ((nI (4 * j)) + 1).toNatClampNeg) (xs ((nI (4 * j)) + 2).toNatClampNeg) false) (cwV 3 hts gL_law_X2_make rfl rfl rfl (by decide +kernel) ⟨Nat.le_of_ble_eq_true rfl, Nat.le_of_ble_eq_true rfl⟩) (pre_v ⟨rfl, hq1⟩ hKN (recv hKN hq1.1 rfl)) rfl rfl hl.1 rfl (lv_room (Nat.le_of_ble_eq_true rfl)) dL_law_147 ⟨by show _ ≤ 600000; omega, by show _ ≤ 7302250; omega⟩) hS (fun q _ h9 => by rcases h9 with h9 | h9 | h9 <;> (show s.heap.size ≤ q) <;> rw [h9] <;> first | exact hz2.2.1 | exact hz2.2.2.1 | exact hz2.2.2.2) (fun q h9 => by rcases h9 with h9 | h9 | h9 <;> (show s.heap.size ≤ q) <;> rw [h9] <;> first | exact hz2.2.1 | exact hz2.2.2.1 | exact hz2.2.2.2) (fun r147 H locs hr147 hz hk hS => ?_)
            have hp2 := px_after hp1 hd hz (fun q h1 h2 => hk q h1 (fun h3 => h2 (Or.inr h3)))
            rcases hr147 with ⟨ky, ey, hq2⟩ | ⟨ky, ey, md2, sz2, fl2, hrm2, hq2⟩
            · rw [ey]
              refine lv_icmp_eq (tgt := 448) hx hb dL_law_150 (by decide) (fun _ => ?_) (fun c9 => absurd (by decide) c9)
              refine lv_iinc (v := ((nI (4 * j)) + 4)) (lv' := [(3, .int ((nI (4 * j)) + 4)), (0, .ref b), (1, .ref x), (2, .ref y)]) hx hb dL_law_448 hl (k := 3) rfl rfl (by decide) rfl (fun ls hl => ?_)
              refine lv_goto (tgt := 18) hx hb dL_law_451 (by decide) ?_
              rw [hi4] at hl
              refine W.widen (k := 6 + 2 * (j + 1)) (n := 17251 + 42 * (j + 1)) (by omega) (by omega) ?_
              exact ih (j + 1) (by omega) (by omega) _ _ _ _ _ ⟨_, _, _, _, _, _, _, _, _, hp2, hq2, hrm, hd, ho, hz2⟩ hS _ (lv_sub hl [1, 2, 3, 0] rfl)
            · exact absurd ky kx
          · rw [ex]
            have hd1 : ρ1 y = 0 ∧ ρ1 a1 = 0 ∧ ρ1 a2 = 0 ∧ ρ1 a3 = 0 := ⟨rho0 hρ1 hd.1 hq.1.lt, rho0 hρ1 hd.2.1 hq.2.1.lt, rho0 hρ1 hd.2.2.1 hq.2.2.1.lt, rho0 hρ1 hd.2.2.2 hq.2.2.2.1.lt⟩
            have ho1 : ∀ q, ρ1 q ≠ 0 → s.heap.size ≤ q := fun q h9 => (hρ1 q h9).elim (ho q) (fun h8 => Nat.le_trans hS0.1 h8)
            refine lv_aload_n hx hb dL_law_123 rfl (lv_at hl 2 rfl) ?_
            refine lv_aload_n hx hb dL_law_124 rfl (lv_at hl 0 rfl) ?_
            refine lv_iload_n hx hb dL_law_125 rfl (lv_at hl 3 rfl) ?_
            refine lv_iconst (v := 1) hx hb dL_law_126 (by decide) ?_
            refine lv_iadd hx hb dL_law_127 ?_
            refine va_sld hx hb hX hbl hbA hS (vp_in_iff.mpr ⟨by rw [hi1]; omega, by rw [hi1]; omega⟩) dL_law_128 ?_
            refine lv_aload_n hx hb dL_law_129 rfl (lv_at hl 0 rfl) ?_
            refine lv_iload_n hx hb dL_law_130 rfl (lv_at hl 3 rfl) ?_
            refine lv_iconst (v := 2) hx hb dL_law_131 (by decide) ?_
            refine lv_iadd hx hb dL_law_132 ?_
            refine va_sld hx hb hX hbl hbA hS (vp_in_iff.mpr ⟨by rw [hi2]; omega, by rw [hi2]; omega⟩) dL_law_133 ?_
            refine lv_aload_n hx hb dL_law_134 rfl (lv_at hl 0 rfl) ?_
            refine lv_iload_n hx hb dL_law_135 rfl (lv_at hl 3 rfl) ?_
            refine lv_iconst (v := 3) hx hb dL_law_136 (by decide) ?_
            refine lv_iadd hx hb dL_law_137 ?_
            refine va_sld hx hb hX hbl hbA hS (vp_in_iff.mpr ⟨by rw [hi3]; omega, by rw [hi3]; omega⟩) dL_law_138 ?_
            refine lv_if_eq (tgt := 146) hx hb dL_law_139 (by decide) (fun _ => ?_) (fun c9 => absurd c112 c9)
            refine lv_iconst (v := 0) hx hb dL_law_146 (by decide) ?_
            refine pm_i (va_runV (As := [.int (xs ((nI (4 * j)) + 1).toNatClampNeg), .int (xs ((nI (4 * j)) + 2).toNatClampNeg), .int 0]) (rest := [.int 1]) ⟨hx, hb, hml, hown, hts⟩ (c_X2_make l D cI cZ cT y a1 a2 a3 md sz fl O hrm mt wh _ (xs ((nI (4 * j)) + 1).toNatClampNeg) (xs ((nI (4 * j)) + 2).toNatClampNeg) false) (cwV 3 hts gL_law_X2_make rfl rfl rfl (by decide +kernel) ⟨Nat.le_of_ble_eq_true rfl, Nat.le_of_ble_eq_true rfl⟩) (pre_v ⟨rfl, hq1⟩ hKN (recv hKN hq1.1 rfl)) rfl rfl hl.1 rfl (lv_room (Nat.le_of_ble_eq_true rfl)) dL_law_147 ⟨by show _ ≤ 600000; omega, by show _ ≤ 7302250; omega⟩) hS (fun q _ h9 => by rcases h9 with h9 | h9 | h9 <;> (show s.heap.size ≤ q) <;> rw [h9] <;> first | exact hz2.2.1 | exact hz2.2.2.1 | exact hz2.2.2.2) (fun q h9 => by rcases h9 with h9 | h9 | h9 <;> (show s.heap.size ≤ q) <;> rw [h9] <;> first | exact hz2.2.1 | exact hz2.2.2.1 | exact hz2.2.2.2) (fun r147 H locs hr147 hz hk hS => ?_)
            have hp2 := px_after hp1 hd1 hz (fun q h1 h2 => hk q h1 (fun h3 => h2 (Or.inr h3)))
            rcases hr147 with ⟨ky, ey, hq2⟩ | ⟨ky, ey, md2, sz2, fl2, hrm2, hq2⟩
            · exact absurd kx ky
            · rw [ey]
              refine lv_icmp_eq (tgt := 448) hx hb dL_law_150 (by decide) (fun _ => ?_) (fun c9 => absurd (by decide) c9)
              refine lv_iinc (v := ((nI (4 * j)) + 4)) (lv' := [(3, .int ((nI (4 * j)) + 4)), (0, .ref b), (1, .ref x), (2, .ref y)]) hx hb dL_law_448 hl (k := 3) rfl rfl (by decide) rfl (fun ls hl => ?_)
              refine lv_goto (tgt := 18) hx hb dL_law_451 (by decide) ?_
              rw [hi4] at hl
              refine W.widen (k := 6 + 2 * (j + 1)) (n := 17251 + 42 * (j + 1)) (by omega) (by omega) ?_
              exact ih (j + 1) (by omega) (by omega) _ _ _ _ _ ⟨_, _, _, _, _, _, _, _, _, hp2, hq2, hrm2, hd1, ho1, hz2⟩ hS _ (lv_sub hl [1, 2, 3, 0] rfl)
        · refine lv_iconst (v := 1) hx hb dL_law_115 (by decide) ?_
          refine lv_goto (tgt := 120) hx hb dL_law_116 (by decide) ?_
          have hS0 := hS
          refine pm_i (va_runV (As := [.int (xs ((nI (4 * j)) + 1).toNatClampNeg), .int (xs ((nI (4 * j)) + 2).toNatClampNeg), .int 1]) (rest := []) ⟨hx, hb, hml, hown, hts⟩ (c_X1_make l D cI cZ cT ρ x tq th O mt wh _ (xs ((nI (4 * j)) + 1).toNatClampNeg) (xs ((nI (4 * j)) + 2).toNatClampNeg) true) (cwV 3 hts gL_law_X1_make rfl rfl rfl (by decide +kernel) ⟨Nat.le_of_ble_eq_true rfl, Nat.le_of_ble_eq_true rfl⟩) (pre_v ⟨rfl, hp⟩ hKN (recv hKN hp.1 rfl)) rfl rfl hl.1 rfl (lv_room (Nat.le_of_ble_eq_true rfl)) dL_law_120 ⟨by show _ ≤ 600000; omega, by show _ ≤ 7302250; omega⟩) hS (fun q _ h9 => h9.elim (ho q) (fun h8 => Nat.le_trans hS0.1 h8)) (fun q h9 => h9.elim (ho q) (fun h8 => Nat.le_trans hS0.1 h8)) (fun r120 H locs hr120 hz hk hS => ?_)
          have hq1 := my_after hq hd (fun q h1 h2 => hk q h1 (fun h3 => h3.elim (fun h4 => h4 h2) (fun h4 => by omega)))
          rcases hr120 with ⟨kx, ex, hp1⟩ | ⟨kx, ex, ρ1, th1, hp1, hρ1⟩
          · rw [ex]
            refine lv_aload_n hx hb dL_law_123 rfl (lv_at hl 2 rfl) ?_
            refine lv_aload_n hx hb dL_law_124 rfl (lv_at hl 0 rfl) ?_
            refine lv_iload_n hx hb dL_law_125 rfl (lv_at hl 3 rfl) ?_
            refine lv_iconst (v := 1) hx hb dL_law_126 (by decide) ?_
            refine lv_iadd hx hb dL_law_127 ?_
            refine va_sld hx hb hX hbl hbA hS (vp_in_iff.mpr ⟨by rw [hi1]; omega, by rw [hi1]; omega⟩) dL_law_128 ?_
            refine lv_aload_n hx hb dL_law_129 rfl (lv_at hl 0 rfl) ?_
            refine lv_iload_n hx hb dL_law_130 rfl (lv_at hl 3 rfl) ?_
            refine lv_iconst (v := 2) hx hb dL_law_131 (by decide) ?_
            refine lv_iadd hx hb dL_law_132 ?_
            refine va_sld hx hb hX hbl hbA hS (vp_in_iff.mpr ⟨by rw [hi2]; omega, by rw [hi2]; omega⟩) dL_law_133 ?_
            refine lv_aload_n hx hb dL_law_134 rfl (lv_at hl 0 rfl) ?_
            refine lv_iload_n hx hb dL_law_135 rfl (lv_at hl 3 rfl) ?_
            refine lv_iconst (v := 3) hx hb dL_law_136 (by decide) ?_
            refine lv_iadd hx hb dL_law_137 ?_
            refine va_sld hx hb hX hbl hbA hS (vp_in_iff.mpr ⟨by rw [hi3]; omega, by rw [hi3]; omega⟩) dL_law_138 ?_
            refine lv_if_eq (tgt := 146) hx hb dL_law_139 (by decide) (fun c9 => absurd c9 c112) (fun _ => ?_)
            refine lv_iconst (v := 1) hx hb dL_law_142 (by decide) ?_
            refine lv_goto (tgt := 147) hx hb dL_law_143 (by decide) ?_
            refine pm_i (va_runV (As := [.int (xs ((nI (4 * j)) + 1).toNatClampNeg), .int (xs ((nI (4 * j)) + 2).toNatClampNeg), .int 1]) (rest := [.int 0]) ⟨hx, hb, hml, hown, hts⟩ (c_X2_make l D cI cZ cT y a1 a2 a3 md sz fl O hrm mt wh _ (xs ((nI (4 * j)) + 1).toNatClampNeg) (xs ((nI (4 * j)) + 2).toNatClampNeg) true) (cwV 3 hts gL_law_X2_make rfl rfl rfl (by decide +kernel) ⟨Nat.le_of_ble_eq_true rfl, Nat.le_of_ble_eq_true rfl⟩) (pre_v ⟨rfl, hq1⟩ hKN (recv hKN hq1.1 rfl)) rfl rfl hl.1 rfl (lv_room (Nat.le_of_ble_eq_true rfl)) dL_law_147 ⟨by show _ ≤ 600000; omega, by show _ ≤ 7302250; omega⟩) hS (fun q _ h9 => by rcases h9 with h9 | h9 | h9 <;> (show s.heap.size ≤ q) <;> rw [h9] <;> first | exact hz2.2.1 | exact hz2.2.2.1 | exact hz2.2.2.2) (fun q h9 => by rcases h9 with h9 | h9 | h9 <;> (show s.heap.size ≤ q) <;> rw [h9] <;> first | exact hz2.2.1 | exact hz2.2.2.1 | exact hz2.2.2.2) (fun r147 H locs hr147 hz hk hS => ?_)
            have hp2 := px_after hp1 hd hz (fun q h1 h2 => hk q h1 (fun h3 => h2 (Or.inr h3)))
            rcases hr147 with ⟨ky, ey, hq2⟩ | ⟨ky, ey, md2, sz2, fl2, hrm2, hq2⟩
            · rw [ey]
              refine lv_icmp_eq (tgt := 448) hx hb dL_law_150 (by decide) (fun _ => ?_) (fun c9 => absurd (by decide) c9)
              refine lv_iinc (v := ((nI (4 * j)) + 4)) (lv' := [(3, .int ((nI (4 * j)) + 4)), (0, .ref b), (1, .ref x), (2, .ref y)]) hx hb dL_law_448 hl (k := 3) rfl rfl (by decide) rfl (fun ls hl => ?_)
              refine lv_goto (tgt := 18) hx hb dL_law_451 (by decide) ?_
              rw [hi4] at hl
              refine W.widen (k := 6 + 2 * (j + 1)) (n := 17251 + 42 * (j + 1)) (by omega) (by omega) ?_
              exact ih (j + 1) (by omega) (by omega) _ _ _ _ _ ⟨_, _, _, _, _, _, _, _, _, hp2, hq2, hrm, hd, ho, hz2⟩ hS _ (lv_sub hl [1, 2, 3, 0] rfl)
            · exact absurd ky kx
          · rw [ex]
            have hd1 : ρ1 y = 0 ∧ ρ1 a1 = 0 ∧ ρ1 a2 = 0 ∧ ρ1 a3 = 0 := ⟨rho0 hρ1 hd.1 hq.1.lt, rho0 hρ1 hd.2.1 hq.2.1.lt, rho0 hρ1 hd.2.2.1 hq.2.2.1.lt, rho0 hρ1 hd.2.2.2 hq.2.2.2.1.lt⟩
            have ho1 : ∀ q, ρ1 q ≠ 0 → s.heap.size ≤ q := fun q h9 => (hρ1 q h9).elim (ho q) (fun h8 => Nat.le_trans hS0.1 h8)
            refine lv_aload_n hx hb dL_law_123 rfl (lv_at hl 2 rfl) ?_
            refine lv_aload_n hx hb dL_law_124 rfl (lv_at hl 0 rfl) ?_
            refine lv_iload_n hx hb dL_law_125 rfl (lv_at hl 3 rfl) ?_
            refine lv_iconst (v := 1) hx hb dL_law_126 (by decide) ?_
            refine lv_iadd hx hb dL_law_127 ?_
            refine va_sld hx hb hX hbl hbA hS (vp_in_iff.mpr ⟨by rw [hi1]; omega, by rw [hi1]; omega⟩) dL_law_128 ?_
            refine lv_aload_n hx hb dL_law_129 rfl (lv_at hl 0 rfl) ?_
            refine lv_iload_n hx hb dL_law_130 rfl (lv_at hl 3 rfl) ?_
            refine lv_iconst (v := 2) hx hb dL_law_131 (by decide) ?_
            refine lv_iadd hx hb dL_law_132 ?_
            refine va_sld hx hb hX hbl hbA hS (vp_in_iff.mpr ⟨by rw [hi2]; omega, by rw [hi2]; omega⟩) dL_law_133 ?_
            refine lv_aload_n hx hb dL_law_134 rfl (lv_at hl 0 rfl) ?_
            refine lv_iload_n hx hb dL_law_135 rfl (lv_at hl 3 rfl) ?_
            refine lv_iconst (v := 3) hx hb dL_law_136 (by decide) ?_
            refine lv_iadd hx hb dL_law_137 ?_
            refine va_sld hx hb hX hbl hbA hS (vp_in_iff.mpr ⟨by rw [hi3]; omega, by rw [hi3]; omega⟩) dL_law_138 ?_
            refine lv_if_eq (tgt := 146) hx hb dL_law_139 (by decide) (fun c9 => absurd c9 c112) (fun _ => ?_)
            refine lv_iconst (v := 1) hx hb dL_law_142 (by decide) ?_
            refine lv_goto (tgt := 147) hx hb dL_law_143 (by decide) ?_
            refine pm_i (va_runV (As := [.int (xs ((nI (4 * j)) + 1).toNatClampNeg), .int (xs ((nI (4 * j)) + 2).toNatClampNeg), .int 1]) (rest := [.int 1]) ⟨hx, hb, hml, hown, hts⟩ (c_X2_make l D cI cZ cT y a1 a2 a3 md sz fl O hrm mt wh _ (xs ((nI (4 * j)) + 1).toNatClampNeg) (xs ((nI (4 * j)) + 2).toNatClampNeg) true) (cwV 3 hts gL_law_X2_make rfl rfl rfl (by decide +kernel) ⟨Nat.le_of_ble_eq_true rfl, Nat.le_of_ble_eq_true rfl⟩) (pre_v ⟨rfl, hq1⟩ hKN (recv hKN hq1.1 rfl)) rfl rfl hl.1 rfl (lv_room (Nat.le_of_ble_eq_true rfl)) dL_law_147 ⟨by show _ ≤ 600000; omega, by show _ ≤ 7302250; omega⟩) hS (fun q _ h9 => by rcases h9 with h9 | h9 | h9 <;> (show s.heap.size ≤ q) <;> rw [h9] <;> first | exact hz2.2.1 | exact hz2.2.2.1 | exact hz2.2.2.2) (fun q h9 => by rcases h9 with h9 | h9 | h9 <;> (show s.heap.size ≤ q) <;> rw [h9] <;> first | exact hz2.2.1 | exact hz2.2.2.1 | exact hz2.2.2.2) (fun r147 H locs hr147 hz hk hS => ?_)
            have hp2 := px_after hp1 hd1 hz (fun q h1 h2 => hk q h1 (fun h3 => h2 (Or.inr h3)))
            rcases hr147 with ⟨ky, ey, hq2⟩ | ⟨ky, ey, md2, sz2, fl2, hrm2, hq2⟩
            · exact absurd kx ky
            · rw [ey]
              refine lv_icmp_eq (tgt := 448) hx hb dL_law_150 (by decide) (fun _ => ?_) (fun c9 => absurd (by decide) c9)
              refine lv_iinc (v := ((nI (4 * j)) + 4)) (lv' := [(3, .int ((nI (4 * j)) + 4)), (0, .ref b), (1, .ref x), (2, .ref y)]) hx hb dL_law_448 hl (k := 3) rfl rfl (by decide) rfl (fun ls hl => ?_)
              refine lv_goto (tgt := 18) hx hb dL_law_451 (by decide) ?_
              rw [hi4] at hl
              refine W.widen (k := 6 + 2 * (j + 1)) (n := 17251 + 42 * (j + 1)) (by omega) (by omega) ?_
              exact ih (j + 1) (by omega) (by omega) _ _ _ _ _ ⟨_, _, _, _, _, _, _, _, _, hp2, hq2, hrm2, hd1, ho1, hz2⟩ hS _ (lv_sub hl [1, 2, 3, 0] rfl)
      · refine lv_tableIn (off := 123) (tgt := 155) hx hb dL_law_32 (by rw [q]; decide) (by rw [q]; decide) (by rw [q]; decide) (by decide) ?_
        refine lv_aload_n hx hb dL_law_155 rfl (lv_at hl 1 rfl) ?_
        refine lv_aload_n hx hb dL_law_156 rfl (lv_at hl 0 rfl) ?_
        refine lv_iload_n hx hb dL_law_157 rfl (lv_at hl 3 rfl) ?_
        refine lv_iconst (v := 1) hx hb dL_law_158 (by decide) ?_
        refine lv_iadd hx hb dL_law_159 ?_
        refine va_sld hx hb hX hbl hbA hS (vp_in_iff.mpr ⟨by rw [hi1]; omega, by rw [hi1]; omega⟩) dL_law_160 ?_
        refine lv_aload_n hx hb dL_law_161 rfl (lv_at hl 0 rfl) ?_
        refine lv_iload_n hx hb dL_law_162 rfl (lv_at hl 3 rfl) ?_
        refine lv_iconst (v := 2) hx hb dL_law_163 (by decide) ?_
        refine lv_iadd hx hb dL_law_164 ?_
        refine va_sld hx hb hX hbl hbA hS (vp_in_iff.mpr ⟨by rw [hi2]; omega, by rw [hi2]; omega⟩) dL_law_165 ?_
        refine lv_aload_n hx hb dL_law_166 rfl (lv_at hl 0 rfl) ?_
        refine lv_iload_n hx hb dL_law_167 rfl (lv_at hl 3 rfl) ?_
        refine lv_iconst (v := 3) hx hb dL_law_168 (by decide) ?_
        refine lv_iadd hx hb dL_law_169 ?_
        refine va_sld hx hb hX hbl hbA hS (vp_in_iff.mpr ⟨by rw [hi3]; omega, by rw [hi3]; omega⟩) dL_law_170 ?_
        refine pm_i (va_runV (As := [.int (xs ((nI (4 * j)) + 1).toNatClampNeg), .int (xs ((nI (4 * j)) + 2).toNatClampNeg), .int (xs ((nI (4 * j)) + 3).toNatClampNeg)]) (rest := []) ⟨hx, hb, hml, hown, hts⟩ (c_X1_put l D cI cZ cT ρ x tq th O mt wh _ (xs ((nI (4 * j)) + 1).toNatClampNeg) (xs ((nI (4 * j)) + 2).toNatClampNeg) (xs ((nI (4 * j)) + 3).toNatClampNeg)) (cwV 3 hts gL_law_X1_put rfl rfl rfl (by decide +kernel) ⟨Nat.le_of_ble_eq_true rfl, Nat.le_of_ble_eq_true rfl⟩) (pre_v ⟨rfl, hp⟩ hKN (recv hKN hp.1 rfl)) rfl rfl hl.1 rfl (lv_room (Nat.le_of_ble_eq_true rfl)) dL_law_171 ⟨by show _ ≤ 600000; omega, by show _ ≤ 7302250; omega⟩) hS (fun q _ h9 => ho q h9) (fun q h9 => ho q h9) (fun r171 H locs hr171 hz hk hS => ?_)
        obtain ⟨er171, hp1⟩ := hr171
        have hq1 := my_after hq hd (fun q h1 h2 => hk q h1 (fun h3 => h3 h2))
        rw [er171]
        refine lv_aload_n hx hb dL_law_174 rfl (lv_at hl 2 rfl) ?_
        refine lv_aload_n hx hb dL_law_175 rfl (lv_at hl 0 rfl) ?_
        refine lv_iload_n hx hb dL_law_176 rfl (lv_at hl 3 rfl) ?_
        refine lv_iconst (v := 1) hx hb dL_law_177 (by decide) ?_
        refine lv_iadd hx hb dL_law_178 ?_
        refine va_sld hx hb hX hbl hbA hS (vp_in_iff.mpr ⟨by rw [hi1]; omega, by rw [hi1]; omega⟩) dL_law_179 ?_
        refine lv_aload_n hx hb dL_law_180 rfl (lv_at hl 0 rfl) ?_
        refine lv_iload_n hx hb dL_law_181 rfl (lv_at hl 3 rfl) ?_
        refine lv_iconst (v := 2) hx hb dL_law_182 (by decide) ?_
        refine lv_iadd hx hb dL_law_183 ?_
        refine va_sld hx hb hX hbl hbA hS (vp_in_iff.mpr ⟨by rw [hi2]; omega, by rw [hi2]; omega⟩) dL_law_184 ?_
        refine lv_aload_n hx hb dL_law_185 rfl (lv_at hl 0 rfl) ?_
        refine lv_iload_n hx hb dL_law_186 rfl (lv_at hl 3 rfl) ?_
        refine lv_iconst (v := 3) hx hb dL_law_187 (by decide) ?_
        refine lv_iadd hx hb dL_law_188 ?_
        refine va_sld hx hb hX hbl hbA hS (vp_in_iff.mpr ⟨by rw [hi3]; omega, by rw [hi3]; omega⟩) dL_law_189 ?_
        refine pm_i (va_runV (As := [.int (xs ((nI (4 * j)) + 1).toNatClampNeg), .int (xs ((nI (4 * j)) + 2).toNatClampNeg), .int (xs ((nI (4 * j)) + 3).toNatClampNeg)]) (rest := [.int ((pto O (xs ((nI (4 * j)) + 1).toNatClampNeg) (xs ((nI (4 * j)) + 2).toNatClampNeg) (xs ((nI (4 * j)) + 3).toNatClampNeg)).1)]) ⟨hx, hb, hml, hown, hts⟩ (c_X2_put l D cI cZ cT y a1 a2 a3 md sz fl O hrm mt wh _ (xs ((nI (4 * j)) + 1).toNatClampNeg) (xs ((nI (4 * j)) + 2).toNatClampNeg) (xs ((nI (4 * j)) + 3).toNatClampNeg)) (cwV 3 hts gL_law_X2_put rfl rfl rfl (by decide +kernel) ⟨Nat.le_of_ble_eq_true rfl, Nat.le_of_ble_eq_true rfl⟩) (pre_v ⟨rfl, hq1⟩ hKN (recv hKN hq1.1 rfl)) rfl rfl hl.1 rfl (lv_room (Nat.le_of_ble_eq_true rfl)) dL_law_190 ⟨by show _ ≤ 600000; omega, by show _ ≤ 7302250; omega⟩) hS (fun q _ h9 => by show s.heap.size ≤ q; rw [show q = a3 from h9]; exact hz2.2.2.2) (fun q h9 => by show s.heap.size ≤ q; rw [show q = a3 from h9]; exact hz2.2.2.2) (fun r190 H locs hr190 hz hk hS => ?_)
        obtain ⟨er190, fl2, hrm2, hq2⟩ := hr190
        have hp2 := px_after hp1 hd hz (fun q h1 h2 => hk q h1 (fun h3 => h2 (Or.inr (Or.inr (Or.inr h3)))))
        rw [er190]
        refine lv_icmp_eq (tgt := 448) hx hb dL_law_193 (by decide) (fun _ => ?_) (fun c9 => absurd rfl c9)
        refine lv_iinc (v := ((nI (4 * j)) + 4)) (lv' := [(3, .int ((nI (4 * j)) + 4)), (0, .ref b), (1, .ref x), (2, .ref y)]) hx hb dL_law_448 hl (k := 3) rfl rfl (by decide) rfl (fun ls hl => ?_)
        refine lv_goto (tgt := 18) hx hb dL_law_451 (by decide) ?_
        rw [hi4] at hl
        refine W.widen (k := 6 + 2 * (j + 1)) (n := 17251 + 42 * (j + 1)) (by omega) (by omega) ?_
        exact ih (j + 1) (by omega) (by omega) _ _ _ _ _ ⟨_, _, _, _, _, _, _, _, _, hp2, hq2, hrm2, hd, ho, hz2⟩ hS _ (lv_sub hl [1, 2, 3, 0] rfl)
      · refine lv_tableIn (off := 166) (tgt := 198) hx hb dL_law_32 (by rw [q]; decide) (by rw [q]; decide) (by rw [q]; decide) (by decide) ?_
        refine lv_aload_n hx hb dL_law_198 rfl (lv_at hl 1 rfl) ?_
        refine lv_aload_n hx hb dL_law_199 rfl (lv_at hl 0 rfl) ?_
        refine lv_iload_n hx hb dL_law_200 rfl (lv_at hl 3 rfl) ?_
        refine lv_iconst (v := 1) hx hb dL_law_201 (by decide) ?_
        refine lv_iadd hx hb dL_law_202 ?_
        refine va_sld hx hb hX hbl hbA hS (vp_in_iff.mpr ⟨by rw [hi1]; omega, by rw [hi1]; omega⟩) dL_law_203 ?_
        refine lv_aload_n hx hb dL_law_204 rfl (lv_at hl 0 rfl) ?_
        refine lv_iload_n hx hb dL_law_205 rfl (lv_at hl 3 rfl) ?_
        refine lv_iconst (v := 2) hx hb dL_law_206 (by decide) ?_
        refine lv_iadd hx hb dL_law_207 ?_
        refine va_sld hx hb hX hbl hbA hS (vp_in_iff.mpr ⟨by rw [hi2]; omega, by rw [hi2]; omega⟩) dL_law_208 ?_
        refine pq_i (va_runV (As := [.int (xs ((nI (4 * j)) + 1).toNatClampNeg), .int (xs ((nI (4 * j)) + 2).toNatClampNeg)]) (rest := []) ⟨hx, hb, hml, hown, hts⟩ (c_X1_get l D cI cZ cT ρ x tq th O mt wh _ (xs ((nI (4 * j)) + 1).toNatClampNeg) (xs ((nI (4 * j)) + 2).toNatClampNeg)) (cwV 2 hts gL_law_X1_get rfl rfl rfl (by decide +kernel) ⟨Nat.le_of_ble_eq_true rfl, Nat.le_of_ble_eq_true rfl⟩) (pre_v ⟨rfl, hp⟩ hKN (recv hKN hp.1 rfl)) rfl rfl hl.1 rfl (lv_room (Nat.le_of_ble_eq_true rfl)) dL_law_209 ⟨by show _ ≤ 600000; omega, by show _ ≤ 7302250; omega⟩) (fun r209 hr209 => ?_)
        rw [hr209]
        refine lv_aload_n hx hb dL_law_212 rfl (lv_at hl 2 rfl) ?_
        refine lv_aload_n hx hb dL_law_213 rfl (lv_at hl 0 rfl) ?_
        refine lv_iload_n hx hb dL_law_214 rfl (lv_at hl 3 rfl) ?_
        refine lv_iconst (v := 1) hx hb dL_law_215 (by decide) ?_
        refine lv_iadd hx hb dL_law_216 ?_
        refine va_sld hx hb hX hbl hbA hS (vp_in_iff.mpr ⟨by rw [hi1]; omega, by rw [hi1]; omega⟩) dL_law_217 ?_
        refine lv_aload_n hx hb dL_law_218 rfl (lv_at hl 0 rfl) ?_
        refine lv_iload_n hx hb dL_law_219 rfl (lv_at hl 3 rfl) ?_
        refine lv_iconst (v := 2) hx hb dL_law_220 (by decide) ?_
        refine lv_iadd hx hb dL_law_221 ?_
        refine va_sld hx hb hX hbl hbA hS (vp_in_iff.mpr ⟨by rw [hi2]; omega, by rw [hi2]; omega⟩) dL_law_222 ?_
        refine pq_i (va_runV (As := [.int (xs ((nI (4 * j)) + 1).toNatClampNeg), .int (xs ((nI (4 * j)) + 2).toNatClampNeg)]) (rest := [.int (gto O (xs ((nI (4 * j)) + 1).toNatClampNeg) (xs ((nI (4 * j)) + 2).toNatClampNeg))]) ⟨hx, hb, hml, hown, hts⟩ (c_X2_get l D cI cZ cT y a1 a2 a3 md sz fl O hrm mt wh _ (xs ((nI (4 * j)) + 1).toNatClampNeg) (xs ((nI (4 * j)) + 2).toNatClampNeg)) (cwV 2 hts gL_law_X2_get rfl rfl rfl (by decide +kernel) ⟨Nat.le_of_ble_eq_true rfl, Nat.le_of_ble_eq_true rfl⟩) (pre_v ⟨rfl, hq⟩ hKN (recv hKN hq.1 rfl)) rfl rfl hl.1 rfl (lv_room (Nat.le_of_ble_eq_true rfl)) dL_law_223 ⟨by show _ ≤ 600000; omega, by show _ ≤ 7302250; omega⟩) (fun r223 hr223 => ?_)
        rw [hr223]
        refine lv_icmp_eq (tgt := 448) hx hb dL_law_226 (by decide) (fun _ => ?_) (fun c9 => absurd rfl c9)
        refine lv_iinc (v := ((nI (4 * j)) + 4)) (lv' := [(3, .int ((nI (4 * j)) + 4)), (0, .ref b), (1, .ref x), (2, .ref y)]) hx hb dL_law_448 hl (k := 3) rfl rfl (by decide) rfl (fun ls hl => ?_)
        refine lv_goto (tgt := 18) hx hb dL_law_451 (by decide) ?_
        rw [hi4] at hl
        refine W.widen (k := 6 + 2 * (j + 1)) (n := 17251 + 42 * (j + 1)) (by omega) (by omega) ?_
        exact ih (j + 1) (by omega) (by omega) _ _ _ _ _ ⟨_, _, _, _, _, _, _, _, _, hp, hq, hrm, hd, ho, hz2⟩ hS _ (lv_sub hl [1, 2, 3, 0] rfl)
      · refine lv_tableIn (off := 199) (tgt := 231) hx hb dL_law_32 (by rw [q]; decide) (by rw [q]; decide) (by rw [q]; decide) (by decide) ?_
        refine lv_aload_n hx hb dL_law_231 rfl (lv_at hl 1 rfl) ?_
        refine lv_aload_n hx hb dL_law_232 rfl (lv_at hl 0 rfl) ?_
        refine lv_iload_n hx hb dL_law_233 rfl (lv_at hl 3 rfl) ?_
        refine lv_iconst (v := 1) hx hb dL_law_234 (by decide) ?_
        refine lv_iadd hx hb dL_law_235 ?_
        refine va_sld hx hb hX hbl hbA hS (vp_in_iff.mpr ⟨by rw [hi1]; omega, by rw [hi1]; omega⟩) dL_law_236 ?_
        refine pq_i (va_runV (As := [.int (xs ((nI (4 * j)) + 1).toNatClampNeg)]) (rest := []) ⟨hx, hb, hml, hown, hts⟩ (c_X1_size l D cI cZ cT ρ x tq th O mt wh _ (xs ((nI (4 * j)) + 1).toNatClampNeg)) (cwV 1 hts gL_law_X1_size rfl rfl rfl (by decide +kernel) ⟨Nat.le_of_ble_eq_true rfl, Nat.le_of_ble_eq_true rfl⟩) (pre_v ⟨rfl, hp⟩ hKN (recv hKN hp.1 rfl)) rfl rfl hl.1 rfl (lv_room (Nat.le_of_ble_eq_true rfl)) dL_law_237 ⟨by show _ ≤ 600000; omega, by show _ ≤ 7302250; omega⟩) (fun r237 hr237 => ?_)
        rw [hr237]
        refine lv_aload_n hx hb dL_law_240 rfl (lv_at hl 2 rfl) ?_
        refine lv_aload_n hx hb dL_law_241 rfl (lv_at hl 0 rfl) ?_
        refine lv_iload_n hx hb dL_law_242 rfl (lv_at hl 3 rfl) ?_
        refine lv_iconst (v := 1) hx hb dL_law_243 (by decide) ?_
        refine lv_iadd hx hb dL_law_244 ?_
        refine va_sld hx hb hX hbl hbA hS (vp_in_iff.mpr ⟨by rw [hi1]; omega, by rw [hi1]; omega⟩) dL_law_245 ?_
        refine pq_i (va_runV (As := [.int (xs ((nI (4 * j)) + 1).toNatClampNeg)]) (rest := [.int (szo O (xs ((nI (4 * j)) + 1).toNatClampNeg))]) ⟨hx, hb, hml, hown, hts⟩ (c_X2_size l D cI cZ cT y a1 a2 a3 md sz fl O hrm mt wh _ (xs ((nI (4 * j)) + 1).toNatClampNeg)) (cwV 1 hts gL_law_X2_size rfl rfl rfl (by decide +kernel) ⟨Nat.le_of_ble_eq_true rfl, Nat.le_of_ble_eq_true rfl⟩) (pre_v ⟨rfl, hq⟩ hKN (recv hKN hq.1 rfl)) rfl rfl hl.1 rfl (lv_room (Nat.le_of_ble_eq_true rfl)) dL_law_246 ⟨by show _ ≤ 600000; omega, by show _ ≤ 7302250; omega⟩) (fun r246 hr246 => ?_)
        rw [hr246]
        refine lv_icmp_eq (tgt := 448) hx hb dL_law_249 (by decide) (fun _ => ?_) (fun c9 => absurd rfl c9)
        refine lv_iinc (v := ((nI (4 * j)) + 4)) (lv' := [(3, .int ((nI (4 * j)) + 4)), (0, .ref b), (1, .ref x), (2, .ref y)]) hx hb dL_law_448 hl (k := 3) rfl rfl (by decide) rfl (fun ls hl => ?_)
        refine lv_goto (tgt := 18) hx hb dL_law_451 (by decide) ?_
        rw [hi4] at hl
        refine W.widen (k := 6 + 2 * (j + 1)) (n := 17251 + 42 * (j + 1)) (by omega) (by omega) ?_
        exact ih (j + 1) (by omega) (by omega) _ _ _ _ _ ⟨_, _, _, _, _, _, _, _, _, hp, hq, hrm, hd, ho, hz2⟩ hS _ (lv_sub hl [1, 2, 3, 0] rfl)
      · refine lv_tableIn (off := 222) (tgt := 254) hx hb dL_law_32 (by rw [q]; decide) (by rw [q]; decide) (by rw [q]; decide) (by decide) ?_
        refine lv_aload_n hx hb dL_law_254 rfl (lv_at hl 1 rfl) ?_
        refine lv_aload_n hx hb dL_law_255 rfl (lv_at hl 0 rfl) ?_
        refine lv_iload_n hx hb dL_law_256 rfl (lv_at hl 3 rfl) ?_
        refine lv_iconst (v := 1) hx hb dL_law_257 (by decide) ?_
        refine lv_iadd hx hb dL_law_258 ?_
        refine va_sld hx hb hX hbl hbA hS (vp_in_iff.mpr ⟨by rw [hi1]; omega, by rw [hi1]; omega⟩) dL_law_259 ?_
        refine lv_aload_n hx hb dL_law_260 rfl (lv_at hl 0 rfl) ?_
        refine lv_iload_n hx hb dL_law_261 rfl (lv_at hl 3 rfl) ?_
        refine lv_iconst (v := 2) hx hb dL_law_262 (by decide) ?_
        refine lv_iadd hx hb dL_law_263 ?_
        refine va_sld hx hb hX hbl hbA hS (vp_in_iff.mpr ⟨by rw [hi2]; omega, by rw [hi2]; omega⟩) dL_law_264 ?_
        refine pm_i (va_runV (As := [.int (xs ((nI (4 * j)) + 1).toNatClampNeg), .int (xs ((nI (4 * j)) + 2).toNatClampNeg)]) (rest := []) ⟨hx, hb, hml, hown, hts⟩ (c_X1_lookUp l D cI cZ cT ρ x tq th O mt wh _ (xs ((nI (4 * j)) + 1).toNatClampNeg) (xs ((nI (4 * j)) + 2).toNatClampNeg)) (cwV 2 hts gL_law_X1_lookUp rfl rfl rfl (by decide +kernel) ⟨Nat.le_of_ble_eq_true rfl, Nat.le_of_ble_eq_true rfl⟩) (pre_v ⟨rfl, hp⟩ hKN (recv hKN hp.1 rfl)) rfl rfl hl.1 rfl (lv_room (Nat.le_of_ble_eq_true rfl)) dL_law_265 ⟨by show _ ≤ 600000; omega, by show _ ≤ 7302250; omega⟩) hS (fun q _ h9 => by show s.heap.size ≤ q; rw [show q = x from h9]; exact ho x (by rw [hp.2.2.1]; decide)) (fun q h9 => by show s.heap.size ≤ q; rw [show q = x from h9]; exact ho x (by rw [hp.2.2.1]; decide)) (fun r265 H locs hr265 hz hk hS => ?_)
        obtain ⟨er265, hp1⟩ := hr265
        have hq1 := my_after hq hd (fun q h1 h2 => hk q h1 (fun h3 => by rw [show q = x from h3, hp.2.2.1] at h2; exact absurd h2 (by decide)))
        rw [er265]
        refine lv_aload_n hx hb dL_law_268 rfl (lv_at hl 2 rfl) ?_
        refine lv_aload_n hx hb dL_law_269 rfl (lv_at hl 0 rfl) ?_
        refine lv_iload_n hx hb dL_law_270 rfl (lv_at hl 3 rfl) ?_
        refine lv_iconst (v := 1) hx hb dL_law_271 (by decide) ?_
        refine lv_iadd hx hb dL_law_272 ?_
        refine va_sld hx hb hX hbl hbA hS (vp_in_iff.mpr ⟨by rw [hi1]; omega, by rw [hi1]; omega⟩) dL_law_273 ?_
        refine lv_aload_n hx hb dL_law_274 rfl (lv_at hl 0 rfl) ?_
        refine lv_iload_n hx hb dL_law_275 rfl (lv_at hl 3 rfl) ?_
        refine lv_iconst (v := 2) hx hb dL_law_276 (by decide) ?_
        refine lv_iadd hx hb dL_law_277 ?_
        refine va_sld hx hb hX hbl hbA hS (vp_in_iff.mpr ⟨by rw [hi2]; omega, by rw [hi2]; omega⟩) dL_law_278 ?_
        refine pm_i (va_runV (As := [.int (xs ((nI (4 * j)) + 1).toNatClampNeg), .int (xs ((nI (4 * j)) + 2).toNatClampNeg)]) (rest := [.int ((lk O (xs ((nI (4 * j)) + 1).toNatClampNeg) (xs ((nI (4 * j)) + 2).toNatClampNeg)).1)]) ⟨hx, hb, hml, hown, hts⟩ (c_X2_lookUp l D cI cZ cT y a1 a2 a3 md sz fl O hrm mt wh _ (xs ((nI (4 * j)) + 1).toNatClampNeg) (xs ((nI (4 * j)) + 2).toNatClampNeg)) (cwV 2 hts gL_law_X2_lookUp rfl rfl rfl (by decide +kernel) ⟨Nat.le_of_ble_eq_true rfl, Nat.le_of_ble_eq_true rfl⟩) (pre_v ⟨rfl, hq1⟩ hKN (recv hKN hq1.1 rfl)) rfl rfl hl.1 rfl (lv_room (Nat.le_of_ble_eq_true rfl)) dL_law_279 ⟨by show _ ≤ 600000; omega, by show _ ≤ 7302250; omega⟩) hS (fun q _ h9 => by show s.heap.size ≤ q; rw [show q = y from h9]; exact hz2.1) (fun q h9 => by show s.heap.size ≤ q; rw [show q = y from h9]; exact hz2.1) (fun r279 H locs hr279 hz hk hS => ?_)
        obtain ⟨er279, hq2⟩ := hr279
        have hp2 := px_after hp1 hd hz (fun q h1 h2 => hk q h1 (fun h3 => h2 (Or.inl h3)))
        rw [er279]
        refine lv_icmp_eq (tgt := 448) hx hb dL_law_282 (by decide) (fun _ => ?_) (fun c9 => absurd rfl c9)
        refine lv_iinc (v := ((nI (4 * j)) + 4)) (lv' := [(3, .int ((nI (4 * j)) + 4)), (0, .ref b), (1, .ref x), (2, .ref y)]) hx hb dL_law_448 hl (k := 3) rfl rfl (by decide) rfl (fun ls hl => ?_)
        refine lv_goto (tgt := 18) hx hb dL_law_451 (by decide) ?_
        rw [hi4] at hl
        refine W.widen (k := 6 + 2 * (j + 1)) (n := 17251 + 42 * (j + 1)) (by omega) (by omega) ?_
        exact ih (j + 1) (by omega) (by omega) _ _ _ _ _ ⟨_, _, _, _, _, _, _, _, _, hp2, hq2, hrm, hd, ho, hz2⟩ hS _ (lv_sub hl [1, 2, 3, 0] rfl)
      · refine lv_tableIn (off := 255) (tgt := 287) hx hb dL_law_32 (by rw [q]; decide) (by rw [q]; decide) (by rw [q]; decide) (by decide) ?_
        refine lv_aload_n hx hb dL_law_287 rfl (lv_at hl 1 rfl) ?_
        refine pq_i (va_runV (As := []) (rest := []) ⟨hx, hb, hml, hown, hts⟩ (c_X1_method l D cI cZ cT ρ x tq th O mt wh _) (cwV 0 hts gL_law_X1_method rfl rfl rfl (by decide +kernel) ⟨Nat.le_of_ble_eq_true rfl, Nat.le_of_ble_eq_true rfl⟩) (pre_v ⟨rfl, hp⟩ hKN (recv hKN hp.1 rfl)) rfl rfl hl.1 rfl (lv_room (Nat.le_of_ble_eq_true rfl)) dL_law_288 ⟨by show _ ≤ 600000; omega, by show _ ≤ 7302250; omega⟩) (fun r288 hr288 => ?_)
        rw [hr288]
        refine lv_aload_n hx hb dL_law_291 rfl (lv_at hl 2 rfl) ?_
        refine pq_i (va_runV (As := []) (rest := [.int (mt)]) ⟨hx, hb, hml, hown, hts⟩ (c_X2_method l D cI cZ cT y a1 a2 a3 md sz fl O hrm mt wh _) (cwV 0 hts gL_law_X2_method rfl rfl rfl (by decide +kernel) ⟨Nat.le_of_ble_eq_true rfl, Nat.le_of_ble_eq_true rfl⟩) (pre_v ⟨rfl, hq⟩ hKN (recv hKN hq.1 rfl)) rfl rfl hl.1 rfl (lv_room (Nat.le_of_ble_eq_true rfl)) dL_law_292 ⟨by show _ ≤ 600000; omega, by show _ ≤ 7302250; omega⟩) (fun r292 hr292 => ?_)
        rw [hr292]
        refine lv_icmp_eq (tgt := 448) hx hb dL_law_295 (by decide) (fun _ => ?_) (fun c9 => absurd rfl c9)
        refine lv_iinc (v := ((nI (4 * j)) + 4)) (lv' := [(3, .int ((nI (4 * j)) + 4)), (0, .ref b), (1, .ref x), (2, .ref y)]) hx hb dL_law_448 hl (k := 3) rfl rfl (by decide) rfl (fun ls hl => ?_)
        refine lv_goto (tgt := 18) hx hb dL_law_451 (by decide) ?_
        rw [hi4] at hl
        refine W.widen (k := 6 + 2 * (j + 1)) (n := 17251 + 42 * (j + 1)) (by omega) (by omega) ?_
        exact ih (j + 1) (by omega) (by omega) _ _ _ _ _ ⟨_, _, _, _, _, _, _, _, _, hp, hq, hrm, hd, ho, hz2⟩ hS _ (lv_sub hl [1, 2, 3, 0] rfl)
      · refine lv_tableIn (off := 268) (tgt := 300) hx hb dL_law_32 (by rw [q]; decide) (by rw [q]; decide) (by rw [q]; decide) (by decide) ?_
        refine lv_aload_n hx hb dL_law_300 rfl (lv_at hl 1 rfl) ?_
        refine pq_i (va_runV (As := []) (rest := []) ⟨hx, hb, hml, hown, hts⟩ (c_X1_where l D cI cZ cT ρ x tq th O mt wh _) (cwV 0 hts gL_law_X1_where rfl rfl rfl (by decide +kernel) ⟨Nat.le_of_ble_eq_true rfl, Nat.le_of_ble_eq_true rfl⟩) (pre_v ⟨rfl, hp⟩ hKN (recv hKN hp.1 rfl)) rfl rfl hl.1 rfl (lv_room (Nat.le_of_ble_eq_true rfl)) dL_law_301 ⟨by show _ ≤ 600000; omega, by show _ ≤ 7302250; omega⟩) (fun r301 hr301 => ?_)
        rw [hr301]
        refine lv_aload_n hx hb dL_law_304 rfl (lv_at hl 2 rfl) ?_
        refine pq_i (va_runV (As := []) (rest := [.int (wh)]) ⟨hx, hb, hml, hown, hts⟩ (c_X2_where l D cI cZ cT y a1 a2 a3 md sz fl O hrm mt wh _) (cwV 0 hts gL_law_X2_where rfl rfl rfl (by decide +kernel) ⟨Nat.le_of_ble_eq_true rfl, Nat.le_of_ble_eq_true rfl⟩) (pre_v ⟨rfl, hq⟩ hKN (recv hKN hq.1 rfl)) rfl rfl hl.1 rfl (lv_room (Nat.le_of_ble_eq_true rfl)) dL_law_305 ⟨by show _ ≤ 600000; omega, by show _ ≤ 7302250; omega⟩) (fun r305 hr305 => ?_)
        rw [hr305]
        refine lv_icmp_eq (tgt := 448) hx hb dL_law_308 (by decide) (fun _ => ?_) (fun c9 => absurd rfl c9)
        refine lv_iinc (v := ((nI (4 * j)) + 4)) (lv' := [(3, .int ((nI (4 * j)) + 4)), (0, .ref b), (1, .ref x), (2, .ref y)]) hx hb dL_law_448 hl (k := 3) rfl rfl (by decide) rfl (fun ls hl => ?_)
        refine lv_goto (tgt := 18) hx hb dL_law_451 (by decide) ?_
        rw [hi4] at hl
        refine W.widen (k := 6 + 2 * (j + 1)) (n := 17251 + 42 * (j + 1)) (by omega) (by omega) ?_
        exact ih (j + 1) (by omega) (by omega) _ _ _ _ _ ⟨_, _, _, _, _, _, _, _, _, hp, hq, hrm, hd, ho, hz2⟩ hS _ (lv_sub hl [1, 2, 3, 0] rfl)
      · refine lv_tableIn (off := 281) (tgt := 313) hx hb dL_law_32 (by rw [q]; decide) (by rw [q]; decide) (by rw [q]; decide) (by decide) ?_
        refine lv_aload_n hx hb dL_law_313 rfl (lv_at hl 1 rfl) ?_
        refine lv_aload_n hx hb dL_law_314 rfl (lv_at hl 0 rfl) ?_
        refine lv_iload_n hx hb dL_law_315 rfl (lv_at hl 3 rfl) ?_
        refine lv_iconst (v := 1) hx hb dL_law_316 (by decide) ?_
        refine lv_iadd hx hb dL_law_317 ?_
        refine va_sld hx hb hX hbl hbA hS (vp_in_iff.mpr ⟨by rw [hi1]; omega, by rw [hi1]; omega⟩) dL_law_318 ?_
        refine pm_i (va_runV (As := [.int (xs ((nI (4 * j)) + 1).toNatClampNeg)]) (rest := []) ⟨hx, hb, hml, hown, hts⟩ (c_X1_above l D cI cZ cT ρ x tq th O mt wh _ (xs ((nI (4 * j)) + 1).toNatClampNeg)) (cwV 1 hts gL_law_X1_above rfl rfl rfl (by decide +kernel) ⟨Nat.le_of_ble_eq_true rfl, Nat.le_of_ble_eq_true rfl⟩) (pre_v ⟨rfl, hp⟩ hKN (recv hKN hp.1 rfl)) rfl rfl hl.1 rfl (lv_room (Nat.le_of_ble_eq_true rfl)) dL_law_319 ⟨by show _ ≤ 600000; omega, by show _ ≤ 7302250; omega⟩) hS (fun q _ h9 => by show s.heap.size ≤ q; rw [show q = x from h9]; exact ho x (by rw [hp.2.2.1]; decide)) (fun q h9 => by show s.heap.size ≤ q; rw [show q = x from h9]; exact ho x (by rw [hp.2.2.1]; decide)) (fun r319 H locs hr319 hz hk hS => ?_)
        obtain ⟨er319, hp1⟩ := hr319
        have hq1 := my_after hq hd (fun q h1 h2 => hk q h1 (fun h3 => by rw [show q = x from h3, hp.2.2.1] at h2; exact absurd h2 (by decide)))
        rw [er319]
        refine lv_aload_n hx hb dL_law_322 rfl (lv_at hl 2 rfl) ?_
        refine lv_aload_n hx hb dL_law_323 rfl (lv_at hl 0 rfl) ?_
        refine lv_iload_n hx hb dL_law_324 rfl (lv_at hl 3 rfl) ?_
        refine lv_iconst (v := 1) hx hb dL_law_325 (by decide) ?_
        refine lv_iadd hx hb dL_law_326 ?_
        refine va_sld hx hb hX hbl hbA hS (vp_in_iff.mpr ⟨by rw [hi1]; omega, by rw [hi1]; omega⟩) dL_law_327 ?_
        refine pm_i (va_runV (As := [.int (xs ((nI (4 * j)) + 1).toNatClampNeg)]) (rest := [.int ((abv O mt wh (xs ((nI (4 * j)) + 1).toNatClampNeg)).1)]) ⟨hx, hb, hml, hown, hts⟩ (c_X2_above l D cI cZ cT y a1 a2 a3 md sz fl O hrm mt wh _ (xs ((nI (4 * j)) + 1).toNatClampNeg)) (cwV 1 hts gL_law_X2_above rfl rfl rfl (by decide +kernel) ⟨Nat.le_of_ble_eq_true rfl, Nat.le_of_ble_eq_true rfl⟩) (pre_v ⟨rfl, hq1⟩ hKN (recv hKN hq1.1 rfl)) rfl rfl hl.1 rfl (lv_room (Nat.le_of_ble_eq_true rfl)) dL_law_328 ⟨by show _ ≤ 600000; omega, by show _ ≤ 7302250; omega⟩) hS (fun q _ h9 => by show s.heap.size ≤ q; rw [show q = y from h9]; exact hz2.1) (fun q h9 => by show s.heap.size ≤ q; rw [show q = y from h9]; exact hz2.1) (fun r328 H locs hr328 hz hk hS => ?_)
        obtain ⟨er328, hq2⟩ := hr328
        have hp2 := px_after hp1 hd hz (fun q h1 h2 => hk q h1 (fun h3 => h2 (Or.inl h3)))
        rw [er328]
        refine lv_icmp_eq (tgt := 448) hx hb dL_law_331 (by decide) (fun _ => ?_) (fun c9 => absurd rfl c9)
        refine lv_iinc (v := ((nI (4 * j)) + 4)) (lv' := [(3, .int ((nI (4 * j)) + 4)), (0, .ref b), (1, .ref x), (2, .ref y)]) hx hb dL_law_448 hl (k := 3) rfl rfl (by decide) rfl (fun ls hl => ?_)
        refine lv_goto (tgt := 18) hx hb dL_law_451 (by decide) ?_
        rw [hi4] at hl
        refine W.widen (k := 6 + 2 * (j + 1)) (n := 17251 + 42 * (j + 1)) (by omega) (by omega) ?_
        exact ih (j + 1) (by omega) (by omega) _ _ _ _ _ ⟨_, _, _, _, _, _, _, _, _, hp2, hq2, hrm, hd, ho, hz2⟩ hS _ (lv_sub hl [1, 2, 3, 0] rfl)
      · refine lv_tableIn (off := 304) (tgt := 336) hx hb dL_law_32 (by rw [q]; decide) (by rw [q]; decide) (by rw [q]; decide) (by decide) ?_
        refine lv_aload_n hx hb dL_law_336 rfl (lv_at hl 1 rfl) ?_
        refine lv_aload_n hx hb dL_law_337 rfl (lv_at hl 0 rfl) ?_
        refine lv_iload_n hx hb dL_law_338 rfl (lv_at hl 3 rfl) ?_
        refine lv_iconst (v := 1) hx hb dL_law_339 (by decide) ?_
        refine lv_iadd hx hb dL_law_340 ?_
        refine va_sld hx hb hX hbl hbA hS (vp_in_iff.mpr ⟨by rw [hi1]; omega, by rw [hi1]; omega⟩) dL_law_341 ?_
        refine lv_aload_n hx hb dL_law_342 rfl (lv_at hl 0 rfl) ?_
        refine lv_iload_n hx hb dL_law_343 rfl (lv_at hl 3 rfl) ?_
        refine lv_iconst (v := 2) hx hb dL_law_344 (by decide) ?_
        refine lv_iadd hx hb dL_law_345 ?_
        refine va_sld hx hb hX hbl hbA hS (vp_in_iff.mpr ⟨by rw [hi2]; omega, by rw [hi2]; omega⟩) dL_law_346 ?_
        refine pq_i (va_runV (As := [.int (xs ((nI (4 * j)) + 1).toNatClampNeg), .int (xs ((nI (4 * j)) + 2).toNatClampNeg)]) (rest := []) ⟨hx, hb, hml, hown, hts⟩ (c_X1_inherits l D cI cZ cT ρ x tq th O mt wh _ (xs ((nI (4 * j)) + 1).toNatClampNeg) (xs ((nI (4 * j)) + 2).toNatClampNeg)) (cwV 2 hts gL_law_X1_inherits rfl rfl rfl (by decide +kernel) ⟨Nat.le_of_ble_eq_true rfl, Nat.le_of_ble_eq_true rfl⟩) (pre_v ⟨rfl, hp⟩ hKN (recv hKN hp.1 rfl)) rfl rfl hl.1 rfl (lv_room (Nat.le_of_ble_eq_true rfl)) dL_law_347 ⟨by show _ ≤ 600000; omega, by show _ ≤ 7302250; omega⟩) (fun r347 hr347 => ?_)
        rw [hr347]
        refine lv_aload_n hx hb dL_law_350 rfl (lv_at hl 2 rfl) ?_
        refine lv_aload_n hx hb dL_law_351 rfl (lv_at hl 0 rfl) ?_
        refine lv_iload_n hx hb dL_law_352 rfl (lv_at hl 3 rfl) ?_
        refine lv_iconst (v := 1) hx hb dL_law_353 (by decide) ?_
        refine lv_iadd hx hb dL_law_354 ?_
        refine va_sld hx hb hX hbl hbA hS (vp_in_iff.mpr ⟨by rw [hi1]; omega, by rw [hi1]; omega⟩) dL_law_355 ?_
        refine lv_aload_n hx hb dL_law_356 rfl (lv_at hl 0 rfl) ?_
        refine lv_iload_n hx hb dL_law_357 rfl (lv_at hl 3 rfl) ?_
        refine lv_iconst (v := 2) hx hb dL_law_358 (by decide) ?_
        refine lv_iadd hx hb dL_law_359 ?_
        refine va_sld hx hb hX hbl hbA hS (vp_in_iff.mpr ⟨by rw [hi2]; omega, by rw [hi2]; omega⟩) dL_law_360 ?_
        refine pq_i (va_runV (As := [.int (xs ((nI (4 * j)) + 1).toNatClampNeg), .int (xs ((nI (4 * j)) + 2).toNatClampNeg)]) (rest := [.int (b2i (inhs O (xs ((nI (4 * j)) + 1).toNatClampNeg) (xs ((nI (4 * j)) + 2).toNatClampNeg)))]) ⟨hx, hb, hml, hown, hts⟩ (c_X2_inherits l D cI cZ cT y a1 a2 a3 md sz fl O hrm mt wh _ (xs ((nI (4 * j)) + 1).toNatClampNeg) (xs ((nI (4 * j)) + 2).toNatClampNeg)) (cwV 2 hts gL_law_X2_inherits rfl rfl rfl (by decide +kernel) ⟨Nat.le_of_ble_eq_true rfl, Nat.le_of_ble_eq_true rfl⟩) (pre_v ⟨rfl, hq⟩ hKN (recv hKN hq.1 rfl)) rfl rfl hl.1 rfl (lv_room (Nat.le_of_ble_eq_true rfl)) dL_law_361 ⟨by show _ ≤ 600000; omega, by show _ ≤ 7302250; omega⟩) (fun r361 hr361 => ?_)
        rw [hr361]
        refine lv_icmp_eq (tgt := 448) hx hb dL_law_364 (by decide) (fun _ => ?_) (fun c9 => absurd rfl c9)
        refine lv_iinc (v := ((nI (4 * j)) + 4)) (lv' := [(3, .int ((nI (4 * j)) + 4)), (0, .ref b), (1, .ref x), (2, .ref y)]) hx hb dL_law_448 hl (k := 3) rfl rfl (by decide) rfl (fun ls hl => ?_)
        refine lv_goto (tgt := 18) hx hb dL_law_451 (by decide) ?_
        rw [hi4] at hl
        refine W.widen (k := 6 + 2 * (j + 1)) (n := 17251 + 42 * (j + 1)) (by omega) (by omega) ?_
        exact ih (j + 1) (by omega) (by omega) _ _ _ _ _ ⟨_, _, _, _, _, _, _, _, _, hp, hq, hrm, hd, ho, hz2⟩ hS _ (lv_sub hl [1, 2, 3, 0] rfl)
      · refine lv_tableIn (off := 337) (tgt := 369) hx hb dL_law_32 (by rw [q]; decide) (by rw [q]; decide) (by rw [q]; decide) (by decide) ?_
        refine lv_aload_n hx hb dL_law_369 rfl (lv_at hl 1 rfl) ?_
        refine lv_aload_n hx hb dL_law_370 rfl (lv_at hl 0 rfl) ?_
        refine lv_iload_n hx hb dL_law_371 rfl (lv_at hl 3 rfl) ?_
        refine lv_iconst (v := 1) hx hb dL_law_372 (by decide) ?_
        refine lv_iadd hx hb dL_law_373 ?_
        refine va_sld hx hb hX hbl hbA hS (vp_in_iff.mpr ⟨by rw [hi1]; omega, by rw [hi1]; omega⟩) dL_law_374 ?_
        refine lv_aload_n hx hb dL_law_375 rfl (lv_at hl 0 rfl) ?_
        refine lv_iload_n hx hb dL_law_376 rfl (lv_at hl 3 rfl) ?_
        refine lv_iconst (v := 2) hx hb dL_law_377 (by decide) ?_
        refine lv_iadd hx hb dL_law_378 ?_
        refine va_sld hx hb hX hbl hbA hS (vp_in_iff.mpr ⟨by rw [hi2]; omega, by rw [hi2]; omega⟩) dL_law_379 ?_
        refine pm_i (va_runV (As := [.int (xs ((nI (4 * j)) + 1).toNatClampNeg), .int (xs ((nI (4 * j)) + 2).toNatClampNeg)]) (rest := []) ⟨hx, hb, hml, hown, hts⟩ (c_X1_become l D cI cZ cT ρ x tq th O mt wh _ (xs ((nI (4 * j)) + 1).toNatClampNeg) (xs ((nI (4 * j)) + 2).toNatClampNeg)) (cwV 2 hts gL_law_X1_become rfl rfl rfl (by decide +kernel) ⟨Nat.le_of_ble_eq_true rfl, Nat.le_of_ble_eq_true rfl⟩) (pre_v ⟨rfl, hp⟩ hKN (recv hKN hp.1 rfl)) rfl rfl hl.1 rfl (lv_room (Nat.le_of_ble_eq_true rfl)) dL_law_380 ⟨by show _ ≤ 600000; omega, by show _ ≤ 7302250; omega⟩) hS (fun q _ h9 => ho q h9) (fun q h9 => ho q h9) (fun r380 H locs hr380 hz hk hS => ?_)
        obtain ⟨er380, hp1⟩ := hr380
        have hq1 := my_after hq hd (fun q h1 h2 => hk q h1 (fun h3 => h3 h2))
        rw [er380]
        refine lv_aload_n hx hb dL_law_383 rfl (lv_at hl 2 rfl) ?_
        refine lv_aload_n hx hb dL_law_384 rfl (lv_at hl 0 rfl) ?_
        refine lv_iload_n hx hb dL_law_385 rfl (lv_at hl 3 rfl) ?_
        refine lv_iconst (v := 1) hx hb dL_law_386 (by decide) ?_
        refine lv_iadd hx hb dL_law_387 ?_
        refine va_sld hx hb hX hbl hbA hS (vp_in_iff.mpr ⟨by rw [hi1]; omega, by rw [hi1]; omega⟩) dL_law_388 ?_
        refine lv_aload_n hx hb dL_law_389 rfl (lv_at hl 0 rfl) ?_
        refine lv_iload_n hx hb dL_law_390 rfl (lv_at hl 3 rfl) ?_
        refine lv_iconst (v := 2) hx hb dL_law_391 (by decide) ?_
        refine lv_iadd hx hb dL_law_392 ?_
        refine va_sld hx hb hX hbl hbA hS (vp_in_iff.mpr ⟨by rw [hi2]; omega, by rw [hi2]; omega⟩) dL_law_393 ?_
        refine pm_i (va_runV (As := [.int (xs ((nI (4 * j)) + 1).toNatClampNeg), .int (xs ((nI (4 * j)) + 2).toNatClampNeg)]) (rest := [.int ((bec O (xs ((nI (4 * j)) + 1).toNatClampNeg) (xs ((nI (4 * j)) + 2).toNatClampNeg)).1)]) ⟨hx, hb, hml, hown, hts⟩ (c_X2_become l D cI cZ cT y a1 a2 a3 md sz fl O hrm mt wh _ (xs ((nI (4 * j)) + 1).toNatClampNeg) (xs ((nI (4 * j)) + 2).toNatClampNeg)) (cwV 2 hts gL_law_X2_become rfl rfl rfl (by decide +kernel) ⟨Nat.le_of_ble_eq_true rfl, Nat.le_of_ble_eq_true rfl⟩) (pre_v ⟨rfl, hq1⟩ hKN (recv hKN hq1.1 rfl)) rfl rfl hl.1 rfl (lv_room (Nat.le_of_ble_eq_true rfl)) dL_law_394 ⟨by show _ ≤ 600000; omega, by show _ ≤ 7302250; omega⟩) hS (fun q _ h9 => by show s.heap.size ≤ q; rw [show q = a3 from h9]; exact hz2.2.2.2) (fun q h9 => by show s.heap.size ≤ q; rw [show q = a3 from h9]; exact hz2.2.2.2) (fun r394 H locs hr394 hz hk hS => ?_)
        obtain ⟨er394, fl2, hrm2, hq2⟩ := hr394
        have hp2 := px_after hp1 hd hz (fun q h1 h2 => hk q h1 (fun h3 => h2 (Or.inr (Or.inr (Or.inr h3)))))
        rw [er394]
        refine lv_icmp_eq (tgt := 448) hx hb dL_law_397 (by decide) (fun _ => ?_) (fun c9 => absurd rfl c9)
        refine lv_iinc (v := ((nI (4 * j)) + 4)) (lv' := [(3, .int ((nI (4 * j)) + 4)), (0, .ref b), (1, .ref x), (2, .ref y)]) hx hb dL_law_448 hl (k := 3) rfl rfl (by decide) rfl (fun ls hl => ?_)
        refine lv_goto (tgt := 18) hx hb dL_law_451 (by decide) ?_
        rw [hi4] at hl
        refine W.widen (k := 6 + 2 * (j + 1)) (n := 17251 + 42 * (j + 1)) (by omega) (by omega) ?_
        exact ih (j + 1) (by omega) (by omega) _ _ _ _ _ ⟨_, _, _, _, _, _, _, _, _, hp2, hq2, hrm2, hd, ho, hz2⟩ hS _ (lv_sub hl [1, 2, 3, 0] rfl)
      · refine lv_tableIn (off := 370) (tgt := 402) hx hb dL_law_32 (by rw [q]; decide) (by rw [q]; decide) (by rw [q]; decide) (by decide) ?_
        refine lv_aload_n hx hb dL_law_402 rfl (lv_at hl 1 rfl) ?_
        refine lv_aload_n hx hb dL_law_403 rfl (lv_at hl 0 rfl) ?_
        refine lv_iload_n hx hb dL_law_404 rfl (lv_at hl 3 rfl) ?_
        refine lv_iconst (v := 1) hx hb dL_law_405 (by decide) ?_
        refine lv_iadd hx hb dL_law_406 ?_
        refine va_sld hx hb hX hbl hbA hS (vp_in_iff.mpr ⟨by rw [hi1]; omega, by rw [hi1]; omega⟩) dL_law_407 ?_
        refine pq_i (va_runV (As := [.int (xs ((nI (4 * j)) + 1).toNatClampNeg)]) (rest := []) ⟨hx, hb, hml, hown, hts⟩ (c_X1_users l D cI cZ cT ρ x tq th O mt wh _ (xs ((nI (4 * j)) + 1).toNatClampNeg)) (cwV 1 hts gL_law_X1_users rfl rfl rfl (by decide +kernel) ⟨Nat.le_of_ble_eq_true rfl, Nat.le_of_ble_eq_true rfl⟩) (pre_v ⟨rfl, hp⟩ hKN (recv hKN hp.1 rfl)) rfl rfl hl.1 rfl (lv_room (Nat.le_of_ble_eq_true rfl)) dL_law_408 ⟨by show _ ≤ 600000; omega, by show _ ≤ 7302250; omega⟩) (fun r408 hr408 => ?_)
        rw [hr408]
        refine lv_aload_n hx hb dL_law_411 rfl (lv_at hl 2 rfl) ?_
        refine lv_aload_n hx hb dL_law_412 rfl (lv_at hl 0 rfl) ?_
        refine lv_iload_n hx hb dL_law_413 rfl (lv_at hl 3 rfl) ?_
        refine lv_iconst (v := 1) hx hb dL_law_414 (by decide) ?_
        refine lv_iadd hx hb dL_law_415 ?_
        refine va_sld hx hb hX hbl hbA hS (vp_in_iff.mpr ⟨by rw [hi1]; omega, by rw [hi1]; omega⟩) dL_law_416 ?_
        refine pq_i (va_runV (As := [.int (xs ((nI (4 * j)) + 1).toNatClampNeg)]) (rest := [.int (usr O (xs ((nI (4 * j)) + 1).toNatClampNeg))]) ⟨hx, hb, hml, hown, hts⟩ (c_X2_users l D cI cZ cT y a1 a2 a3 md sz fl O hrm mt wh _ (xs ((nI (4 * j)) + 1).toNatClampNeg)) (cwV 1 hts gL_law_X2_users rfl rfl rfl (by decide +kernel) ⟨Nat.le_of_ble_eq_true rfl, Nat.le_of_ble_eq_true rfl⟩) (pre_v ⟨rfl, hq⟩ hKN (recv hKN hq.1 rfl)) rfl rfl hl.1 rfl (lv_room (Nat.le_of_ble_eq_true rfl)) dL_law_417 ⟨by show _ ≤ 600000; omega, by show _ ≤ 7302250; omega⟩) (fun r417 hr417 => ?_)
        rw [hr417]
        refine lv_icmp_eq (tgt := 448) hx hb dL_law_420 (by decide) (fun _ => ?_) (fun c9 => absurd rfl c9)
        refine lv_iinc (v := ((nI (4 * j)) + 4)) (lv' := [(3, .int ((nI (4 * j)) + 4)), (0, .ref b), (1, .ref x), (2, .ref y)]) hx hb dL_law_448 hl (k := 3) rfl rfl (by decide) rfl (fun ls hl => ?_)
        refine lv_goto (tgt := 18) hx hb dL_law_451 (by decide) ?_
        rw [hi4] at hl
        refine W.widen (k := 6 + 2 * (j + 1)) (n := 17251 + 42 * (j + 1)) (by omega) (by omega) ?_
        exact ih (j + 1) (by omega) (by omega) _ _ _ _ _ ⟨_, _, _, _, _, _, _, _, _, hp, hq, hrm, hd, ho, hz2⟩ hS _ (lv_sub hl [1, 2, 3, 0] rfl)
      · refine lv_tableIn (off := 393) (tgt := 425) hx hb dL_law_32 (by rw [q]; decide) (by rw [q]; decide) (by rw [q]; decide) (by decide) ?_
        refine lv_aload_n hx hb dL_law_425 rfl (lv_at hl 1 rfl) ?_
        refine lv_aload_n hx hb dL_law_426 rfl (lv_at hl 0 rfl) ?_
        refine lv_iload_n hx hb dL_law_427 rfl (lv_at hl 3 rfl) ?_
        refine lv_iconst (v := 1) hx hb dL_law_428 (by decide) ?_
        refine lv_iadd hx hb dL_law_429 ?_
        refine va_sld hx hb hX hbl hbA hS (vp_in_iff.mpr ⟨by rw [hi1]; omega, by rw [hi1]; omega⟩) dL_law_430 ?_
        refine pq_i (va_runV (As := [.int (xs ((nI (4 * j)) + 1).toNatClampNeg)]) (rest := []) ⟨hx, hb, hml, hown, hts⟩ (c_X1_senders l D cI cZ cT ρ x tq th O mt wh _ (xs ((nI (4 * j)) + 1).toNatClampNeg)) (cwV 1 hts gL_law_X1_senders rfl rfl rfl (by decide +kernel) ⟨Nat.le_of_ble_eq_true rfl, Nat.le_of_ble_eq_true rfl⟩) (pre_v ⟨rfl, hp⟩ hKN (recv hKN hp.1 rfl)) rfl rfl hl.1 rfl (lv_room (Nat.le_of_ble_eq_true rfl)) dL_law_431 ⟨by show _ ≤ 600000; omega, by show _ ≤ 7302250; omega⟩) (fun r431 hr431 => ?_)
        rw [hr431]
        refine lv_aload_n hx hb dL_law_434 rfl (lv_at hl 2 rfl) ?_
        refine lv_aload_n hx hb dL_law_435 rfl (lv_at hl 0 rfl) ?_
        refine lv_iload_n hx hb dL_law_436 rfl (lv_at hl 3 rfl) ?_
        refine lv_iconst (v := 1) hx hb dL_law_437 (by decide) ?_
        refine lv_iadd hx hb dL_law_438 ?_
        refine va_sld hx hb hX hbl hbA hS (vp_in_iff.mpr ⟨by rw [hi1]; omega, by rw [hi1]; omega⟩) dL_law_439 ?_
        refine pq_i (va_runV (As := [.int (xs ((nI (4 * j)) + 1).toNatClampNeg)]) (rest := [.int (sdr O (xs ((nI (4 * j)) + 1).toNatClampNeg))]) ⟨hx, hb, hml, hown, hts⟩ (c_X2_senders l D cI cZ cT y a1 a2 a3 md sz fl O hrm mt wh _ (xs ((nI (4 * j)) + 1).toNatClampNeg)) (cwV 1 hts gL_law_X2_senders rfl rfl rfl (by decide +kernel) ⟨Nat.le_of_ble_eq_true rfl, Nat.le_of_ble_eq_true rfl⟩) (pre_v ⟨rfl, hq⟩ hKN (recv hKN hq.1 rfl)) rfl rfl hl.1 rfl (lv_room (Nat.le_of_ble_eq_true rfl)) dL_law_440 ⟨by show _ ≤ 600000; omega, by show _ ≤ 7302250; omega⟩) (fun r440 hr440 => ?_)
        rw [hr440]
        refine lv_icmp_eq (tgt := 448) hx hb dL_law_443 (by decide) (fun _ => ?_) (fun c9 => absurd rfl c9)
        refine lv_iinc (v := ((nI (4 * j)) + 4)) (lv' := [(3, .int ((nI (4 * j)) + 4)), (0, .ref b), (1, .ref x), (2, .ref y)]) hx hb dL_law_448 hl (k := 3) rfl rfl (by decide) rfl (fun ls hl => ?_)
        refine lv_goto (tgt := 18) hx hb dL_law_451 (by decide) ?_
        rw [hi4] at hl
        refine W.widen (k := 6 + 2 * (j + 1)) (n := 17251 + 42 * (j + 1)) (by omega) (by omega) ?_
        exact ih (j + 1) (by omega) (by omega) _ _ _ _ _ ⟨_, _, _, _, _, _, _, _, _, hp, hq, hrm, hd, ho, hz2⟩ hS _ (lv_sub hl [1, 2, 3, 0] rfl)
      · refine lv_tableOut (tgt := 448) hx hb dL_law_32 (Or.inr q) (by decide) ?_
        refine lv_iinc (v := ((nI (4 * j)) + 4)) (lv' := [(3, .int ((nI (4 * j)) + 4)), (0, .ref b), (1, .ref x), (2, .ref y)]) hx hb dL_law_448 hl (k := 3) rfl rfl (by decide) rfl (fun ls hl => ?_)
        refine lv_goto (tgt := 18) hx hb dL_law_451 (by decide) ?_
        rw [hi4] at hl
        refine W.widen (k := 6 + 2 * (j + 1)) (n := 17251 + 42 * (j + 1)) (by omega) (by omega) ?_
        exact ih (j + 1) (by omega) (by omega) _ _ _ _ _ ⟨_, _, _, _, _, _, _, _, _, hp, hq, hrm, hd, ho, hz2⟩ hS _ (lv_sub hl [1, 2, 3, 0] rfl)
