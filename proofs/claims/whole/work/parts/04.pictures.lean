theorem b2i_t : b2i true = 1 := rfl
theorem b2i_f : b2i false = 0 := rfl
section PB
variable {p : Program} {l : Launch} {e : Env} {R : Room} {s : State} {m : MethodId} {args : Array Value} {below : List Frame} {meth : Method} {c : Code} {H : Heap} {locs : List Loc} {cells slots : Nat} {Q : State → Prop}
variable {pc : Nat} {ls : Array Slot} {rest st0 : List Value} {a : Array Value}
theorem pq_b {B : Bool} (hr : va_Run p l e R s m args below meth c H locs cells slots 0 0 (F0 m pc ls st0) rest (vp_Si (fun r => r = b2i B) a) (fun _ => False)) (k0 : B = false → W p l e R s m args below meth c H locs cells slots Q (F0 m (pc + 3) ls (.int 0 :: rest))) (k1 : B = true → W p l e R s m args below meth c H locs cells slots Q (F0 m (pc + 3) ls (.int 1 :: rest))) : W p l e R s m args below meth c H locs cells slots Q (F0 m pc ls st0) := by
  refine pq_i hr (fun r h => ?_)
  cases B with
  | false => rw [h]; exact k0 rfl
  | true => rw [h]; exact k1 rfl
end PB
/-! ===== an object of fields or bytes: its two cells ===== -/
def tg (D : va_G) (cI : ClassId) (a f : Nat) (fb : Bool) (n : Nat) (g : Nat → Int32) (H : Heap) : Prop :=
  va_at D vwCl (a, .inr (0, [.ref f, .int (b2i fb)])) H ∧ va_at D vwCl (f, .inl (cI, n, .inl g)) H ∧ n ≤ 40
theorem tg_keep {D : va_G} {cI : ClassId} {a f : Nat} {fb : Bool} {n : Nat} {g : Nat → Int32} {H H1 : Heap} (h : tg D cI a f fb n g H) (ka : H1[a]? = H[a]?) (kf : H1[f]? = H[f]?) : tg D cI a f fb n g H1 := ⟨h.1.kept ka, h.2.1.kept kf, h.2.2⟩
/-- what a look at an object's number answers: its address, and its cells -/
def tp (D : va_G) (cI : ClassId) (ρ : Nat → Nat) (th : Nat → Option Nat) (O : Ob) (o : Option Nat) (H : Heap) (r : Option Nat) : Prop :=
  (o = none ∧ r = none) ∨ ∃ j a f, o = some j ∧ r = some a ∧ th j = some a ∧ ρ a = 2 * j + 3 ∧ ρ f = 2 * j + 4 ∧ 1 ≤ j ∧ j ≤ 400 ∧ O.1 j = true ∧ tg D cI a f (O.2.1 j) (O.2.2.1 j) (O.2.2.2 j) H
theorem tp_none {D : va_G} {cI : ClassId} {ρ : Nat → Nat} {th : Nat → Option Nat} {O : Ob} {o : Option Nat} {H : Heap} (h : tp D cI ρ th O o H none) : o = none := by
  rcases h with ⟨h1, -⟩ | ⟨j, a, f, -, h1, -⟩
  · exact h1
  · cases h1
theorem tp_some {D : va_G} {cI : ClassId} {ρ : Nat → Nat} {th : Nat → Option Nat} {O : Ob} {o : Option Nat} {H : Heap} {a : Nat} (h : tp D cI ρ th O o H (some a)) : ∃ j f, o = some j ∧ th j = some a ∧ ρ a = 2 * j + 3 ∧ ρ f = 2 * j + 4 ∧ 1 ≤ j ∧ j ≤ 400 ∧ O.1 j = true ∧ tg D cI a f (O.2.1 j) (O.2.2.1 j) (O.2.2.2 j) H := by
  rcases h with ⟨-, h1⟩ | ⟨j, a', f, h0, h1, h2⟩
  · cases h1
  · cases h1
    exact ⟨j, f, h0, h2⟩
/-- the class's state: its object, the row of things, each thing; ρ tells of each own address what it is, so they are apart -/
def px (D : va_G) (cI cT : ClassId) (ρ : Nat → Nat) (h tq : Nat) (th : Nat → Option Nat) (O : Ob) (mt wh : Int32) (H : Heap) : Prop :=
  va_at D vwCl (h, .inr (1, [.ref tq, .int mt, .int wh])) H ∧ va_at D vwCl (tq, .inl (cT, 401, .inr (.inr (.inr (.inr th))))) H ∧ ρ h = 1 ∧ ρ tq = 2 ∧ (∀ q, ρ q ≠ 0 → q < H.size) ∧ wh.toInt % 2 = 0 ∧
  ∀ k, 1 ≤ k → k ≤ 400 → (O.1 k = false ∧ th k = none) ∨ (O.1 k = true ∧ ∃ a f, th k = some a ∧ ρ a = 2 * k + 3 ∧ ρ f = 2 * k + 4 ∧ tg D cI a f (O.2.1 k) (O.2.2.1 k) (O.2.2.2 k) H)
theorem px_keep {D : va_G} {cI cT : ClassId} {ρ : Nat → Nat} {h tq : Nat} {th : Nat → Option Nat} {O : Ob} {mt wh : Int32} {H H1 : Heap} (hp : px D cI cT ρ h tq th O mt wh H) (hz : H.size ≤ H1.size) (hk : ∀ q, ρ q ≠ 0 → H1[q]? = H[q]?) : px D cI cT ρ h tq th O mt wh H1 := by
  obtain ⟨h1, h2, r1, r2, hs, he, ho⟩ := hp
  refine ⟨h1.kept (hk h (by rw [r1]; decide)), h2.kept (hk tq (by rw [r2]; decide)), r1, r2, fun q hq => Nat.lt_of_lt_of_le (hs q hq) hz, he, fun k hk1 hk2 => ?_⟩
  rcases ho k hk1 hk2 with hn | ⟨hm, a, f, e1, e2, e3, ht⟩
  · exact Or.inl hn
  · exact Or.inr ⟨hm, a, f, e1, e2, e3, tg_keep ht (hk a (by rw [e2]; omega)) (hk f (by rw [e3]; omega))⟩
/-- the object's own cell has changed, nothing else -/
theorem px_found {D : va_G} {cI cT : ClassId} {ρ : Nat → Nat} {h tq : Nat} {th : Nat → Option Nat} {O : Ob} {mt wh mt' wh' : Int32} {H H1 : Heap} (hp : px D cI cT ρ h tq th O mt wh H) (hz : H1.size = H.size) (hk : ∀ q, q ≠ h → H1[q]? = H[q]?) (hh : va_at D vwCl (h, .inr (1, [.ref tq, .int mt', .int wh'])) H1) (hw : wh'.toInt % 2 = 0) : px D cI cT ρ h tq th O mt' wh' H1 := by
  obtain ⟨h1, h2, r1, r2, hs, he, ho⟩ := hp
  have hne : ∀ q, ρ q ≠ 1 → q ≠ h := fun q hq e => hq (by rw [e]; exact r1)
  refine ⟨hh, h2.kept (hk tq (hne tq (by rw [r2]; decide))), r1, r2, fun q hq => by rw [hz]; exact hs q hq, hw, fun k hk1 hk2 => ?_⟩
  rcases ho k hk1 hk2 with hn | ⟨hm, a, f, e1, e2, e3, ht⟩
  · exact Or.inl hn
  · exact Or.inr ⟨hm, a, f, e1, e2, e3, tg_keep ht (hk a (hne a (by rw [e2]; omega))) (hk f (hne f (by rw [e3]; omega)))⟩
/-- the fields of one object have changed, nothing else -/
theorem px_fields {D : va_G} {cI cT : ClassId} {ρ : Nat → Nat} {h tq : Nat} {th : Nat → Option Nat} {O : Ob} {mt wh : Int32} {H H1 : Heap} {j a f : Nat} {g : Nat → Int32} (hp : px D cI cT ρ h tq th O mt wh H) (hj : th j = some a) (hf : ρ f = 2 * j + 4) (ht : tg D cI a f (O.2.1 j) (O.2.2.1 j) (O.2.2.2 j) H) (hz : H.size ≤ H1.size) (hk : ∀ q, q < H.size → q ≠ f → H1[q]? = H[q]?) (hg : va_at D vwCl (f, .inl (cI, O.2.2.1 j, .inl g)) H1) : px D cI cT ρ h tq th (obf O j g) mt wh H1 := by
  obtain ⟨h1, h2, r1, r2, hs, he, ho⟩ := hp
  have hk' : ∀ q, ρ q ≠ 0 → ρ q ≠ 2 * j + 4 → H1[q]? = H[q]? := fun q hq hq2 => hk q (hs q hq) (fun e => hq2 (by rw [e]; exact hf))
  refine ⟨h1.kept (hk' h (by rw [r1]; decide) (by rw [r1]; omega)), h2.kept (hk' tq (by rw [r2]; decide) (by rw [r2]; omega)), r1, r2, fun q hq => Nat.lt_of_lt_of_le (hs q hq) hz, he, fun k hk1 hk2 => ?_⟩
  rcases ho k hk1 hk2 with hn | ⟨hm, a2, f2, e1, e2, e3, ht2⟩
  · exact Or.inl hn
  · refine Or.inr ⟨hm, a2, f2, e1, e2, e3, ?_⟩
    by_cases hkj : k = j
    · subst hkj
      have ea : a2 = a := Option.some.inj (e1.symm.trans hj)
      subst ea
      have ef : f2 = f := by
        have q1 := ht2.1
        have q2 := ht.1
        obtain ⟨r, g1, cell, g2, g3, g4, g5⟩ := q1
        obtain ⟨r', g1', cell', g2', g3', g4', g5'⟩ := q2
        have er : r = (RX0, TX0, 2) := (Option.some.inj g1).symm
        have er' : r' = (RX0, TX0, 2) := (Option.some.inj g1').symm
        subst er
        subst er'
        have ec : cell = cell' := Option.some.inj (g2.symm.trans g2')
        subst ec
        have q3 := (g5 0 (by decide)).symm.trans (g5' 0 (by decide))
        have q4 : Slot.val (Value.ref f2) = Slot.val (Value.ref f) := by simpa [vp_V] using q3
        cases q4
        rfl
      subst ef
      refine ⟨ht2.1.kept (hk' a2 (by rw [e2]; omega) (by rw [e2]; omega)), ?_, ht2.2.2⟩
      show va_at D vwCl (f2, .inl (cI, _, .inl (va_up O.2.2.2 k g k))) H1
      rw [va_up_self]
      exact hg
    · show tg D cI a2 f2 (O.2.1 k) (O.2.2.1 k) (va_up O.2.2.2 j g k) H1
      rw [va_up_ne _ _ hkj]
      exact tg_keep ht2 (hk' a2 (by rw [e2]; omega) (by rw [e2]; omega)) (hk' f2 (by rw [e3]; omega) (by rw [e3]; omega))
theorem px_tz {D : va_G} {cI cT : ClassId} {ρ : Nat → Nat} {h tq : Nat} {th : Nat → Option Nat} {O : Ob} {mt wh : Int32} {H : Heap} (hp : px D cI cT ρ h tq th O mt wh H) {z : Int} (h1 : 1 ≤ z) (h2 : z ≤ 400) : tp D cI ρ th O (tz O z) H (th z.toNat) := by
  obtain ⟨-, -, -, -, -, -, ho⟩ := hp
  unfold tz
  rcases ho z.toNat (by omega) (by omega) with ⟨hm, hn⟩ | ⟨hm, a, f, e1, e2, e3, ht⟩
  · rw [if_neg (by rw [hm]; simp)]
    exact Or.inl ⟨rfl, hn⟩
  · rw [if_pos ⟨h1, h2, hm⟩]
    exact Or.inr ⟨_, a, f, rfl, e1, e1, e2, e3, by omega, by omega, hm, ht⟩
theorem tz_out {O : Ob} {z : Int} (h : z < 1 ∨ 400 < z) : tz O z = none := by
  unfold tz
  rw [if_neg (by omega)]
theorem tz_some {O : Ob} {z : Int} {j : Nat} (h : tz O z = some j) : 1 ≤ z ∧ z ≤ 400 ∧ j = z.toNat ∧ O.1 j = true := by
  unfold tz at h
  split at h
  · rename_i hc
    cases h
    exact ⟨hc.1, hc.2.1, rfl, hc.2.2⟩
  · cases h
