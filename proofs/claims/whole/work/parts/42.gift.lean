/-! what one deserves, what is given -/
def pcN (n : Nat) : Nat := n % 2 + n / 2 % 2 + n / 4 % 2 + n / 8 % 2
def dsN (k d : Nat) : Nat := match k with
  | 1 => 4 + 2 * pcN (d % 16) - pcN (d / 16) + 3
  | 2 => (4 + 2 * pcN (d % 16) - pcN (d / 16)) / 2
  | 3 => if pcN (d / 16) = 0 then 12 else 4 + 2 * pcN (d % 16) - pcN (d / 16)
  | 4 => 4 + 2 * pcN (d % 16) - pcN (d / 16) + 1
  | 5 => if d % 2 = 1 then 0 else (4 + 2 * pcN (d % 16) - pcN (d / 16)) / 2
  | _ => 4 + 2 * pcN (d % 16) - pcN (d / 16)
theorem dsN_le : ∀ k, k < 6 → ∀ d, d < 256 → dsN k d ≤ 15 := by decide +kernel
theorem deserved_d : ∀ k, k < 6 → ∀ d, d < 256 → fX0_deserved 0 (nI k) (nI d) = some (nI (dsN k d)) := by decide +kernel
theorem deserved_s (fu : Nat) {k d : Nat} (hk : k < 6) (hd : d < 256) : fX0_deserved fu (nI k) (nI d) = some (nI (dsN k d)) := deserved_d k hk d hd
/-- fuel: more of it does no harm -/
theorem lp_mono2 {A B R : Type} {F : (A → B → Option R) → A → B → Option R} (hF : ∀ (K K' : A → B → Option R), (∀ a b r, K a b = some r → K' a b = some r) → ∀ a b r, F K a b = some r → F K' a b = some r) : ∀ (n m : Nat) (a : A) (b : B) (r : R), n ≤ m → g_lp (fun _ _ => none) F n a b = some r → g_lp (fun _ _ => none) F m a b = some r := by
  intro n
  induction n with
  | zero => intro m a b r _ h; cases h
  | succ n ih =>
    intro m a b r hm h
    obtain ⟨k, rfl⟩ : ∃ k, m = k + 1 := ⟨m - 1, by omega⟩
    exact hF _ _ (fun a b r h => ih k a b r (by omega) h) a b r h
theorem ones_mono (fu : Nat) (K K' : Int32 → Int32 → Option Int32) (h : ∀ a b r, K a b = some r → K' a b = some r) (a b r : Int32) (g : fX7_ones_b4B fu K a b = some r) : fX7_ones_b4B fu K' a b = some r := by
  unfold fX7_ones_b4B at g ⊢
  split at g
  · rw [if_pos (by assumption)]; exact g
  · rw [if_neg (by assumption)]; exact h _ _ _ g
theorem ones_d : ∀ d, d < 256 → g_lp (fun _ _ => none) (fX7_ones_b4B 0) 10 0 (nI d) = some (nI (pcN (d % 16) + pcN (d / 16))) := by decide +kernel
theorem ones_s {fu : Nat} (hf : 10 ≤ fu) {d : Nat} (hd : d < 256) : fX7_ones fu (nI d) = some (nI (pcN (d % 16) + pcN (d / 16))) :=
  lp_mono2 (F := fX7_ones_b4B fu) (ones_mono fu) 10 fu 0 (nI d) _ hf (ones_d d hd)
theorem sh4_d : ∀ d, d < 256 → nI d >>> ((4 : Int32) &&& (31 : Int32)) = nI (d / 16) ∧ nI d &&& (15 : Int32) = nI (d % 16) := by decide +kernel
theorem pcN_0 : pcN 0 = 0 := rfl
theorem pcN_16 : ∀ d, d < 16 → pcN (d % 16) + pcN (d / 16) = pcN d ∧ pcN d ≤ 4 := by decide
theorem farmer_d : ∀ g, g < 5 → ∀ b, b < 5 → ((4 : Int32) + (2 : Int32) * nI g) - nI b = (if (4 + 2 * g : Nat) < b then -nI (b - (4 + 2 * g)) else nI (4 + 2 * g - b)) := by decide
theorem b40_d : ∀ k, k < 6 → ∀ d, d < 256 → (if nI k = (1 : Int32) then (some (nI (4 + 2 * pcN (d % 16) - pcN (d / 16)) + (3 : Int32))) else (if nI k = (2 : Int32) then (g_nz (2 : Int32) (some (nI (4 + 2 * pcN (d % 16) - pcN (d / 16)) / (2 : Int32)))) else (if nI k = (3 : Int32) then (if nI (pcN (d / 16)) = (0 : Int32) then (some (12 : Int32)) else (some (nI (4 + 2 * pcN (d % 16) - pcN (d / 16))))) else (if nI k = (4 : Int32) then (some (nI (4 + 2 * pcN (d % 16) - pcN (d / 16)) + (1 : Int32))) else (if nI k = (5 : Int32) then (g_nz (2 : Int32) (if (nI d - nI d / (2 : Int32) * (2 : Int32)) = (1 : Int32) then (some (0 : Int32)) else (g_nz (2 : Int32) (some (nI (4 + 2 * pcN (d % 16) - pcN (d / 16)) / (2 : Int32)))))) else (some (nI (4 + 2 * pcN (d % 16) - pcN (d / 16))))))))) = some (nI (dsN k d)) := by decide +kernel
theorem deserves_s {fu : Nat} (hf : 10 ≤ fu) (t : MS) {p k d : Nat} (hp : p < 8) (h0 : mgS t (21 + 4 * p + 0) = nI k) (hk : k < 6) (h1 : mgS t (21 + 4 * p + 1) = nI d) (hd : d < 256) : fX7_deserves fu t (nI p) = some (nI (dsN k d)) := by
  have e1 : fX7_its fu t (nI p) (1 : Int32) = some (nI d) := by rw [l1, its_s fu t hp (by decide), h1]
  have e0 : fX7_its fu t (nI p) (0 : Int32) = some (nI k) := by rw [l0, its_s fu t hp (by decide), h0]
  have hb : pcN (d % 16) ≤ 4 := (pcN_16 (d % 16) (by omega)).2
  have hb2 : pcN (d / 16) ≤ 4 := (pcN_16 (d / 16) (by omega)).2
  have o1 := ones_s hf (d := d / 16) (by omega)
  have o2 := ones_s hf (d := d % 16) (by omega)
  rw [(pcN_16 (d / 16) (by omega)).1] at o1
  rw [(pcN_16 (d % 16) (by omega)).1] at o2
  have hb40 : fX7_deserves_b40 fu t (nI p) (nI d) (nI (pcN (d / 16))) (nI (4 + 2 * pcN (d % 16) - pcN (d / 16))) = some (nI (dsN k d)) := by
    unfold fX7_deserves_b40
    rw [e0, bnd_s]
    exact b40_d k hk d hd
  unfold fX7_deserves
  rw [e1, bnd_s, (sh4_d d hd).1, o1, bnd_s, (sh4_d d hd).2, o2, bnd_s, nm_s, farmer_d _ (by omega) _ (by omega)]
  by_cases h : (4 + 2 * pcN (d % 16) : Nat) < pcN (d / 16)
  · omega
  · rw [if_neg h, if_pos (by rw [l0]; exact nI_le (by omega) (by omega))]
    exact hb40
/-- the bucket's gift -/
def gfull (s : SS) (p k d st : Nat) : Nat := if k = 4 ∧ st ≠ p then dsN (vv s (21 + 4 * st + 0)) (vv s (21 + 4 * st + 1)) + vv s 4 - 1 else dsN k d + vv s 4
def gN (s : SS) (p k d st : Nat) : Nat := min (gfull s p k d st / 2 ^ vv s (21 + 4 * p + 3)) (vv s 2)
def gP (s : SS) (p : Nat) : Nat := gN s p (vv s (21 + 4 * p + 0)) (vv s (21 + 4 * p + 1)) (vv s (21 + 4 * p + 2))
theorem gN_well (s : SS) (p k d st : Nat) : gN s p k d st ≤ vv s 2 := Nat.min_le_right _ _
theorem sh_a : ∀ a, a < 10 → ((nI a &&& (31 : Int32)).toBitVec.smod 32).toNat = a := by decide
theorem shr_s {n a : Nat} (hn : n < 2 ^ 31) (ha : a < 10) : nI n >>> (nI a &&& (31 : Int32)) = nI (n / 2 ^ a) := pk_shrN hn _ a (sh_a a ha)
theorem min_c {a b : Nat} (ha : a < 2 ^ 31) (hb : b < 2 ^ 31) : (if nI b < nI a then nI b else nI a) = nI (min a b) := by
  by_cases h : b < a
  · rw [if_pos ((nI_ltI hb ha).mpr h), Nat.min_eq_right (Nat.le_of_lt h)]
  · rw [if_neg (fun g => h ((nI_ltI hb ha).mp g)), Nat.min_eq_left (Nat.not_lt.mp h)]
theorem ald8 {ρ : Type} {f : Nat → Int32} {k : Nat} {K : Int32 → Option ρ} (hk : k < 8) : g_ald f 8 (nI k) K = K (f k) := ald_nI hk (by decide)
theorem ald4 {ρ : Type} {f : Nat → Int32} {k : Nat} {K : Int32 → Option ρ} (hk : k < 4) : g_ald f 4 (nI k) K = K (f k) := ald_nI hk (by decide)
theorem ald3 {ρ : Type} {f : Nat → Int32} {k : Nat} {K : Int32 → Option ρ} (hk : k < 3) : g_ald f 3 (nI k) K = K (f k) := ald_nI hk (by decide)
theorem in8 {ρ : Type} {k : Nat} {K : Option ρ} (hk : k < 8) : g_in (nI k) 8 K = K := in_nI hk (by decide)
theorem in4 {ρ : Type} {k : Nat} {K : Option ρ} (hk : k < 4) : g_in (nI k) 4 K = K := in_nI hk (by decide)
theorem in3 {ρ : Type} {k : Nat} {K : Option ρ} (hk : k < 3) : g_in (nI k) 3 K = K := in_nI hk (by decide)
theorem gfull_le {s : SS} (hI : IS s) {p k d st : Nat} (hk : k < 6) (hd : d < 256) (hst : st < vv s 0) : gfull s p k d st ≤ 20 := by
  obtain ⟨h0, h1, h2, h3, h4, h5, h6⟩ := hI
  obtain ⟨a, b, c, e⟩ := h6 st hst
  unfold gfull
  have := h4.2
  have g1 := dsN_le k hk d hd
  have g2 := dsN_le (vv s (21 + 4 * st + 0)) (by have := a.2; omega) (vv s (21 + 4 * st + 1)) (by have := b.2; omega)
  split <;> omega
theorem gift_b60 (fu : Nat) {x : PS} {s : SS} (h : RP x s) (hI : IS s) {p v : Nat} (hp : p < vv s 0) (hv : v ≤ 20) : fX1_gift_b60 fu x (nI p) (nI v) = some (nI (min (v / 2 ^ vv s (21 + 4 * p + 3)) (vv s 2))) := by
  have h8 : vv s 0 ≤ 8 := hI.1.2
  obtain ⟨a, b, c, e⟩ := hI.2.2.2.2.2.2 p hp
  obtain ⟨q1, q2, q3, q4⟩ := h.2.2.2.2 p (by omega)
  unfold fX1_gift_b60
  rw [ald8 (by omega), q4, e.1, l0, ald3 (by decide), h.2.2.1 0 (by decide), hI.2.2.1.1, shr_s (by omega) (by have := e.2; omega), min_c]
  · exact Nat.lt_of_le_of_lt (Nat.div_le_self _ _) (by omega)
  · have := hI.2.2.1.2; omega
theorem gift_b46 (fu : Nat) {x : PS} {s : SS} (h : RP x s) (hI : IS s) {p k d : Nat} (hp : p < vv s 0) (hk : k < 6) (hd : d < 256) : fX1_gift_b46 fu x (nI p) (nI k) (nI d) = some (nI (min ((dsN k d + vv s 4) / 2 ^ vv s (21 + 4 * p + 3)) (vv s 2))) := by
  unfold fX1_gift_b46
  have g1 := dsN_le k hk d hd
  have g2 := hI.2.2.2.2.1
  rw [deserved_s fu hk hd, bnd_s, l2, ald3 (by decide), h.2.2.1 2 (by decide), g2.1, nm_s, nI_add]
  exact gift_b60 fu h hI hp (by have := g2.2; omega)
theorem gift_s (fu : Nat) {x : PS} {s : SS} (h : RP x s) (hI : IS s) {p k d st : Nat} (hp : p < vv s 0) (hk : k < 6) (hd : d < 256) (hst : st < vv s 0) : fX1_gift fu x (nI p) (nI k) (nI d) (nI st) = some (nI (gN s p k d st)) := by
  have h8 : vv s 0 ≤ 8 := hI.1.2
  have g2 := hI.2.2.2.2.1
  unfold fX1_gift gN gfull
  by_cases e1 : k = 4
  · subst e1
    rw [if_pos (show nI 4 = (4 : Int32) from rfl)]
    by_cases e2 : st = p
    · subst e2
      rw [if_pos rfl, if_neg (fun z => z.2 rfl)]
      exact gift_b46 fu h hI hp (by decide) hd
    · rw [if_neg (fun z => e2 ((nI_eq (by omega) (by omega)).mp z)), if_pos ⟨rfl, e2⟩]
      obtain ⟨a, b, c, e⟩ := hI.2.2.2.2.2.2 st hst
      obtain ⟨q1, q2, q3, q4⟩ := h.2.2.2.2 st (by omega)
      have g1 := dsN_le (vv s (21 + 4 * st + 0)) (by have := a.2; omega) (vv s (21 + 4 * st + 1)) (by have := b.2; omega)
      rw [ald8 (by omega), ald8 (by omega), q1, q2, a.1, b.1, deserved_s fu (by have := a.2; omega) (by have := b.2; omega), bnd_s, l2, ald3 (by decide), h.2.2.1 2 (by decide), g2.1, nm_s, nI_add]
      have hw : dsN (vv s (21 + 4 * st + 0)) (vv s (21 + 4 * st + 1)) + vv s 4 ≤ 20 := by have := g2.2; omega
      generalize dsN (vv s (21 + 4 * st + 0)) (vv s (21 + 4 * st + 1)) + vv s 4 = w at hw ⊢
      have e3 : (if (0 : Int32) < (nI w - (1 : Int32)) then (nI w - (1 : Int32)) else (0 : Int32)) = nI (w - 1) := by
        have : ∀ w, w < 21 → (if (0 : Int32) < (nI w - (1 : Int32)) then (nI w - (1 : Int32)) else (0 : Int32)) = nI (w - 1) := by decide
        exact this w (by omega)
      rw [e3]
      exact gift_b60 fu h hI hp (by omega)
  · rw [if_neg (show ¬ nI k = (4 : Int32) from fun z => e1 ((nI_eq (by omega) (by omega)).mp z)), if_neg (fun z => e1 z.1)]
    exact gift_b46 fu h hI hp hk hd
