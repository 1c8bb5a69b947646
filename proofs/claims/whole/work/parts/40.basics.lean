/-! the pure part: numbers, rows, tests -/
theorem bnd_s {α ρ : Type} (v : α) (k : α → Option ρ) : g_bnd (some v) k = k v := rfl
theorem nm_s {α ρ : Type} (a : α) (k : α → Option ρ) : g_nm a k = k a := rfl
theorem z_0 {ρ : Type} (k : Option ρ) : g_z (0 : Int32) k = k := if_pos (Or.inl rfl)
theorem z_1 {ρ : Type} (k : Option ρ) : g_z (1 : Int32) k = k := if_pos (Or.inr rfl)
theorem nz_2 {ρ : Type} (k : Option ρ) : g_nz (2 : Int32) k = k := if_neg (by decide)
theorem nI_ofNat (n : Nat) : Int32.ofNat n = nI n := rfl
theorem l0 : (0 : Int32) = nI 0 := rfl
theorem l1 : (1 : Int32) = nI 1 := rfl
theorem l2 : (2 : Int32) = nI 2 := rfl
theorem l3 : (3 : Int32) = nI 3 := rfl
theorem l4 : (4 : Int32) = nI 4 := rfl
theorem l5 : (5 : Int32) = nI 5 := rfl
theorem l6 : (6 : Int32) = nI 6 := rfl
theorem l7 : (7 : Int32) = nI 7 := rfl
theorem l8 : (8 : Int32) = nI 8 := rfl
theorem l9 : (9 : Int32) = nI 9 := rfl
theorem l20 : (20 : Int32) = nI 20 := rfl
theorem l21 : (21 : Int32) = nI 21 := rfl
theorem l99 : (99 : Int32) = nI 99 := rfl
theorem l255 : (255 : Int32) = nI 255 := rfl
theorem l9999 : (9999 : Int32) = nI 9999 := rfl
theorem cl0 : Int32.toNatClampNeg (0 : Int32) = 0 := rfl
theorem cl1 : Int32.toNatClampNeg (1 : Int32) = 1 := rfl
theorem cl2 : Int32.toNatClampNeg (2 : Int32) = 2 := rfl
theorem cl3 : Int32.toNatClampNeg (3 : Int32) = 3 := rfl
/-- places of a farm and of one of the people in the reference's row -/
theorem ix_f : ∀ f, f < 4 → ∀ w, w < 4 → (5 : Int32) + 4 * nI f + nI w = nI (5 + 4 * f + w) := by decide
theorem ix_p : ∀ p, p < 8 → ∀ w, w < 4 → (21 : Int32) + 4 * nI p + nI w = nI (21 + 4 * p + w) := by decide
theorem field_s (fu : Nat) {f w : Nat} (hf : f < 4) (hw : w < 4) : fX7_field fu (nI f) (nI w) = some (nI (5 + 4 * f + w)) := by
  unfold fX7_field
  rw [ix_f f hf w hw]
theorem spot_s (fu : Nat) {p w : Nat} (hp : p < 8) (hw : w < 4) : fX7_spot fu (nI p) (nI w) = some (nI (21 + 4 * p + w)) := by
  unfold fX7_spot
  rw [ix_p p hp w hw]
theorem ald53 {ρ : Type} {f : Nat → Int32} {k : Nat} {K : Int32 → Option ρ} (hk : k < 53) : g_ald f 53 (nI k) K = K (f k) := ald_nI hk (by decide)
theorem in53 {ρ : Type} {k : Nat} {K : Option ρ} (hk : k < 53) : g_in (nI k) 53 K = K := in_nI hk (by decide)
theorem its_s (fu : Nat) (t : MS) {p w : Nat} (hp : p < 8) (hw : w < 4) : fX7_its fu t (nI p) (nI w) = some (mgS t (21 + 4 * p + w)) := by
  unfold fX7_its
  rw [spot_s fu hp hw, bnd_s, ald53 (by omega)]
/-- comparisons of longs -/
theorem cmpL_lt {a b : Int64} : lg_cmp a b < 0 ↔ a < b := by
  unfold lg_cmp
  by_cases h1 : a > b
  · rw [if_pos h1]
    refine ⟨fun h => absurd h (by decide), fun h => ?_⟩
    have h1' : b < a := h1
    rw [Int64.lt_iff_toInt_lt] at h h1'
    omega
  · rw [if_neg h1]
    by_cases h2 : a = b
    · rw [if_pos h2]
      subst h2
      refine ⟨fun h => absurd h (by decide), fun h => ?_⟩
      rw [Int64.lt_iff_toInt_lt] at h
      omega
    · rw [if_neg h2]
      refine ⟨fun _ => ?_, fun _ => by decide⟩
      have h1' : ¬ b < a := h1
      have h3 : ¬ a.toInt = b.toInt := fun e => h2 (Int64.toInt_inj.mp e)
      rw [Int64.lt_iff_toInt_lt] at h1' ⊢
      omega
theorem cmpL_gt {a b : Int64} : 0 < lg_cmp a b ↔ b < a := by
  unfold lg_cmp
  by_cases h1 : a > b
  · rw [if_pos h1]
    exact ⟨fun _ => h1, fun _ => by decide⟩
  · rw [if_neg h1]
    by_cases h2 : a = b
    · rw [if_pos h2]
      exact ⟨fun h => absurd h (by decide), fun h => absurd h h1⟩
    · rw [if_neg h2]
      exact ⟨fun h => absurd h (by decide), fun h => absurd h h1⟩
theorem cmpL_eq {a b : Int64} : lg_cmp a b = 0 ↔ a = b := by
  unfold lg_cmp
  by_cases h1 : a > b
  · rw [if_pos h1]
    refine ⟨fun h => absurd h (by decide), fun h => ?_⟩
    have h1' : b < a := h1
    subst h
    rw [Int64.lt_iff_toInt_lt] at h1'
    omega
  · rw [if_neg h1]
    by_cases h2 : a = b
    · rw [if_pos h2]; exact ⟨fun _ => h2, fun _ => rfl⟩
    · rw [if_neg h2]
      exact ⟨fun h => absurd h (by decide), fun h => absurd h h2⟩
theorem lt64 {x y : Int32} : x.toInt64 < y.toInt64 ↔ x < y := by
  rw [Int64.lt_iff_toInt_lt, Int32.toInt_toInt64, Int32.toInt_toInt64, Int32.lt_iff_toInt_lt]
theorem cmp_lt {x y : Int32} : lg_cmp x.toInt64 y.toInt64 < 0 ↔ x < y := cmpL_lt.trans lt64
theorem cmp_gt {x y : Int32} : 0 < lg_cmp x.toInt64 y.toInt64 ↔ y < x := cmpL_gt.trans lt64
/-- what a test answers -/
def tb (c : Prop) [Decidable c] : Int32 := if c then 1 else 0
theorem in_s (fu : Nat) (x lo hi : Int32) : fX7_in fu x.toInt64 lo.toInt64 hi.toInt64 = some (tb (lo ≤ x ∧ x ≤ hi)) := by
  unfold fX7_in tb
  by_cases h1 : x < lo
  · rw [if_pos (cmp_lt.mpr h1), z_0, if_neg (fun h => absurd h.1 (Int32.not_le.mpr h1))]
  · rw [if_neg (fun h => h1 (cmp_lt.mp h))]
    by_cases h2 : hi < x
    · rw [if_pos (cmp_gt.mpr h2), z_0, if_neg (fun h => absurd h.2 (Int32.not_le.mpr h2))]
    · rw [if_neg (fun h => h2 (cmp_gt.mp h)), z_1, if_pos ⟨Int32.not_lt.mp h1, Int32.not_lt.mp h2⟩]
theorem within_s (fu : Nat) (x lo hi : Int32) : fX6_isWithin fu x lo hi = some (tb (lo ≤ x ∧ x ≤ hi)) := by
  unfold fX6_isWithin tb
  by_cases h1 : x < lo
  · rw [if_pos h1, z_0, if_neg (fun h => absurd h.1 (Int32.not_le.mpr h1))]
  · rw [if_neg h1]
    by_cases h2 : hi < x
    · rw [if_pos h2, z_0, if_neg (fun h => absurd h.2 (Int32.not_le.mpr h2))]
    · rw [if_neg h2, z_1, if_pos ⟨Int32.not_lt.mp h1, Int32.not_lt.mp h2⟩]
theorem z_tb {ρ : Type} (c : Prop) [Decidable c] (k : Option ρ) : g_z (tb c) k = k := by
  unfold tb
  by_cases h : c
  · rw [if_pos h, z_1]
  · rw [if_neg h, z_0]
theorem tb_0 (c : Prop) [Decidable c] : (tb c = 0) ↔ ¬ c := by
  unfold tb
  by_cases h : c
  · rw [if_pos h]; exact ⟨fun h => absurd h (by decide), fun g => absurd h g⟩
  · rw [if_neg h]; exact ⟨fun _ => h, fun _ => rfl⟩
theorem tb_if {ρ : Type} {c : Prop} [Decidable c] {a b : ρ} : (if tb c = 0 then a else b) = if c then b else a := by
  by_cases h : c
  · rw [if_pos h, if_neg (fun g => (tb_0 c).mp g h)]
  · rw [if_neg h, if_pos ((tb_0 c).mpr h)]
/-- a number within 0 .. n-1 is one of them -/
theorem rng {x : Int32} {n : Nat} (h1 : (0 : Int32) ≤ x) (h2 : x < nI n) (hn : n < 2 ^ 31) : ∃ k, k < n ∧ x = nI k := by
  have h0 : ¬ x < 0 := Int32.not_lt.mpr h1
  obtain ⟨j, hj, rfl⟩ := nI_of h0
  exact ⟨j, (nI_ltI hj hn).mp h2, rfl⟩
theorem rngL {x : Int32} {n : Nat} (h1 : (0 : Int32) ≤ x) (h2 : x ≤ nI n) (hn : n < 2 ^ 31) : ∃ k, k ≤ n ∧ x = nI k := by
  have h0 : ¬ x < 0 := Int32.not_lt.mpr h1
  obtain ⟨j, hj, rfl⟩ := nI_of h0
  exact ⟨j, (nI_leI hj hn).mp h2, rfl⟩
