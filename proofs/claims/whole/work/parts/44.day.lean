/-! the reference: gifts, pulls, a farm's use, a day -/
theorem its0 (fu : Nat) (t : MS) {p : Nat} (hp : p < 8) : fX7_its fu t (nI p) (0 : Int32) = some (mgS t (21 + 4 * p + 0)) := its_s fu t hp (w := 0) (by decide)
theorem its1 (fu : Nat) (t : MS) {p : Nat} (hp : p < 8) : fX7_its fu t (nI p) (1 : Int32) = some (mgS t (21 + 4 * p + 1)) := its_s fu t hp (w := 1) (by decide)
theorem its2 (fu : Nat) (t : MS) {p : Nat} (hp : p < 8) : fX7_its fu t (nI p) (2 : Int32) = some (mgS t (21 + 4 * p + 2)) := its_s fu t hp (w := 2) (by decide)
theorem its3 (fu : Nat) (t : MS) {p : Nat} (hp : p < 8) : fX7_its fu t (nI p) (3 : Int32) = some (mgS t (21 + 4 * p + 3)) := its_s fu t hp (w := 3) (by decide)
theorem fld0 (fu : Nat) {f : Nat} (hf : f < 4) : fX7_field fu (nI f) (0 : Int32) = some (nI (5 + 4 * f + 0)) := field_s fu hf (w := 0) (by decide)
theorem fld1 (fu : Nat) {f : Nat} (hf : f < 4) : fX7_field fu (nI f) (1 : Int32) = some (nI (5 + 4 * f + 1)) := field_s fu hf (w := 1) (by decide)
theorem fld2 (fu : Nat) {f : Nat} (hf : f < 4) : fX7_field fu (nI f) (2 : Int32) = some (nI (5 + 4 * f + 2)) := field_s fu hf (w := 2) (by decide)
theorem fld3 (fu : Nat) {f : Nat} (hf : f < 4) : fX7_field fu (nI f) (3 : Int32) = some (nI (5 + 4 * f + 3)) := field_s fu hf (w := 3) (by decide)
theorem spt0 (fu : Nat) {p : Nat} (hp : p < 8) : fX7_spot fu (nI p) (0 : Int32) = some (nI (21 + 4 * p + 0)) := spot_s fu hp (w := 0) (by decide)
theorem spt1 (fu : Nat) {p : Nat} (hp : p < 8) : fX7_spot fu (nI p) (1 : Int32) = some (nI (21 + 4 * p + 1)) := spot_s fu hp (w := 1) (by decide)
theorem spt2 (fu : Nat) {p : Nat} (hp : p < 8) : fX7_spot fu (nI p) (2 : Int32) = some (nI (21 + 4 * p + 2)) := spot_s fu hp (w := 2) (by decide)
theorem spt3 (fu : Nat) {p : Nat} (hp : p < 8) : fX7_spot fu (nI p) (3 : Int32) = some (nI (21 + 4 * p + 3)) := spot_s fu hp (w := 3) (by decide)
theorem a53_0 {ρ : Type} {f : Nat → Int32} {K : Int32 → Option ρ} : g_ald f 53 (0 : Int32) K = K (f 0) := ald53 (k := 0) (by decide)
theorem a53_1 {ρ : Type} {f : Nat → Int32} {K : Int32 → Option ρ} : g_ald f 53 (1 : Int32) K = K (f 1) := ald53 (k := 1) (by decide)
theorem a53_2 {ρ : Type} {f : Nat → Int32} {K : Int32 → Option ρ} : g_ald f 53 (2 : Int32) K = K (f 2) := ald53 (k := 2) (by decide)
theorem a53_3 {ρ : Type} {f : Nat → Int32} {K : Int32 → Option ρ} : g_ald f 53 (3 : Int32) K = K (f 3) := ald53 (k := 3) (by decide)
theorem a53_4 {ρ : Type} {f : Nat → Int32} {K : Int32 → Option ρ} : g_ald f 53 (4 : Int32) K = K (f 4) := ald53 (k := 4) (by decide)
theorem i53_1 {ρ : Type} {K : Option ρ} : g_in (1 : Int32) 53 K = K := in53 (k := 1) (by decide)
theorem i53_2 {ρ : Type} {K : Option ρ} : g_in (2 : Int32) 53 K = K := in53 (k := 2) (by decide)
theorem i53_0 {ρ : Type} {K : Option ρ} : g_in (0 : Int32) 53 K = K := in53 (k := 0) (by decide)
theorem a3_0 {ρ : Type} {f : Nat → Int32} {K : Int32 → Option ρ} : g_ald f 3 (0 : Int32) K = K (f 0) := ald3 (k := 0) (by decide)
theorem a3_1 {ρ : Type} {f : Nat → Int32} {K : Int32 → Option ρ} : g_ald f 3 (1 : Int32) K = K (f 1) := ald3 (k := 1) (by decide)
theorem a3_2 {ρ : Type} {f : Nat → Int32} {K : Int32 → Option ρ} : g_ald f 3 (2 : Int32) K = K (f 2) := ald3 (k := 2) (by decide)
theorem i3_0 {ρ : Type} {K : Option ρ} : g_in (0 : Int32) 3 K = K := in3 (k := 0) (by decide)
theorem mgS_u (t : MS) (k : Nat) (v : Int32) : mgS (muS t k v) = upd (mgS t) k v := rfl
theorem min_m {ρ : Type} {a b : Nat} (ha : a < 2 ^ 31) (hb : b < 2 ^ 31) (K : Int32 → ρ) : (if nI a ≤ nI b then K (nI a) else K (nI b)) = K (nI (min a b)) := by
  by_cases h : a ≤ b
  · rw [if_pos ((nI_leI ha hb).mpr h), Nat.min_eq_left h]
  · rw [if_neg (fun g => h ((nI_leI ha hb).mp g)), Nat.min_eq_right (by omega)]
theorem gives_b60 (fu : Nat) (t : MS) (hI : IS (mgS t)) {p v : Nat} (hp : p < vv (mgS t) 0) (hv : v ≤ 20) : fX7_gives_b60 fu t (nI p) (nI v) = some (nI (min (v / 2 ^ vv (mgS t) (21 + 4 * p + 3)) (vv (mgS t) 2))) := by
  have h8 : vv (mgS t) 0 ≤ 8 := hI.1.2
  obtain ⟨a, b, c, e⟩ := hI.2.2.2.2.2.2 p hp
  unfold fX7_gives_b60
  rw [its3 fu t (by omega), bnd_s, e.1, nm_s, shr_s (by omega) (by have := e.2; omega), a53_2, a53_2, hI.2.2.1.1]
  exact min_m (Nat.lt_of_le_of_lt (Nat.div_le_self _ _) (by omega)) (by have := hI.2.2.1.2; omega) some
theorem gives_s {fu : Nat} (hf : 10 ≤ fu) (t : MS) (hI : IS (mgS t)) {p : Nat} (hp : p < vv (mgS t) 0) : fX7_gives fu t (nI p) = some (nI (gP (mgS t) p)) := by
  have h8 : vv (mgS t) 0 ≤ 8 := hI.1.2
  obtain ⟨a, b, ⟨c, c2⟩, e⟩ := hI.2.2.2.2.2.2 p hp
  obtain ⟨a', b', c', e'⟩ := hI.2.2.2.2.2.2 (vv (mgS t) (21 + 4 * p + 2)) c2
  have g4 := hI.2.2.2.2.1
  have d1 := dsN_le (vv (mgS t) (21 + 4 * p + 0)) (by have := a.2; omega) (vv (mgS t) (21 + 4 * p + 1)) (by have := b.2; omega)
  have d2 := dsN_le (vv (mgS t) (21 + 4 * vv (mgS t) (21 + 4 * p + 2) + 0)) (by have := a'.2; omega) (vv (mgS t) (21 + 4 * vv (mgS t) (21 + 4 * p + 2) + 1)) (by have := b'.2; omega)
  unfold fX7_gives gP gN gfull
  rw [its2 fu t (by omega), bnd_s, deserves_s hf t (by omega) a.1 (by have := a.2; omega) b.1 (by have := b.2; omega), bnd_s, a53_4, nm_s, its0 fu t (by omega), bnd_s]
  rw [a.1, g4.1, nI_add, c.1]
  have ha2 := a.2
  generalize vv (mgS t) (21 + 4 * p + 0) = k at ha2 d1 ⊢
  generalize vv (mgS t) (21 + 4 * p + 1) = d at d1 ⊢
  generalize vv (mgS t) (21 + 4 * p + 2) = st at a' b' c' e' c2 d2 ⊢
  have hg4 := g4.2
  by_cases e1 : k = 4
  · subst e1
    rw [if_pos (show nI 4 = (4 : Int32) from rfl)]
    by_cases e2 : st = p
    · subst e2
      rw [if_pos rfl, if_neg (fun z => z.2 rfl)]
      exact gives_b60 fu t hI hp (by omega)
    · rw [if_neg (fun z => e2 ((nI_eq (by omega) (by omega)).mp z)), if_pos ⟨rfl, e2⟩]
      rw [deserves_s hf t (by omega) a'.1 (by have := a'.2; omega) b'.1 (by have := b'.2; omega), bnd_s, a53_4, g4.1, nm_s, nI_add]
      have hw20 : dsN (vv (mgS t) (21 + 4 * st + 0)) (vv (mgS t) (21 + 4 * st + 1)) + vv (mgS t) 4 ≤ 20 := by omega
      generalize dsN (vv (mgS t) (21 + 4 * st + 0)) (vv (mgS t) (21 + 4 * st + 1)) + vv (mgS t) 4 = w at hw20 ⊢
      by_cases hw : w = 0
      · subst hw
        rw [if_neg (by decide)]
        exact gives_b60 fu t hI hp (v := 0) (by omega)
      · have e3 : nI w - (1 : Int32) = nI (w - 1) := pk_sub (a := w) (b := 1) (by omega)
        rw [e3, if_pos (by rw [l0]; exact nI_le (by omega) (by omega))]
        exact gives_b60 fu t hI hp (by omega)
  · rw [if_neg (show ¬ nI k = (4 : Int32) from fun z => e1 ((nI_eq (by omega) (by omega)).mp z)), if_neg (fun z => e1 z.1)]
    exact gives_b60 fu t hI hp (by omega)
def pulN (s : SS) (p f : Nat) : SS := upd (upd (upd s (5 + 4 * f + 1) (nI (min 9999 (vv s (5 + 4 * f + 1) + gP s p)))) 2 (nI (vv s 2 - gP s p))) (21 + 4 * p + 3) (nI (min 9 (vv s (21 + 4 * p + 3) + 1)))
theorem gP_le {s : SS} (hI : IS s) {p : Nat} (hp : p < vv s 0) : gP s p ≤ 20 ∧ gP s p ≤ vv s 2 := by
  obtain ⟨a, b, ⟨c, c2⟩, e⟩ := hI.2.2.2.2.2.2 p hp
  refine ⟨Nat.le_trans (Nat.min_le_left _ _) (Nat.le_trans (Nat.div_le_self _ _) (gfull_le hI (by have := a.2; omega) (by have := b.2; omega) c2)), Nat.min_le_right _ _⟩
theorem IS_pul {s : SS} (hI : IS s) {p f : Nat} (hp : p < vv s 0) (hf : f < 4) : IS (pulN s p f) := by
  unfold pulN
  have h2 := hI.2.2.1.2
  exact IS_asked (IS_well (IS_store hI hf (Nat.min_le_left _ _)) (by omega)) (Nat.min_le_left _ _)
theorem pulls_s {fu : Nat} (hfu : 10 ≤ fu) (t : MS) (hI : IS (mgS t)) {p f : Nat} (hp : p < vv (mgS t) 0) (hf : f < 4) : fX7_pulls fu t (nI p) (nI f) = some (nI (gP (mgS t) p), msS t (pulN (mgS t) p f)) := by
  have h8 : vv (mgS t) 0 ≤ 8 := hI.1.2
  obtain ⟨a, b, ⟨c, c2⟩, e⟩ := hI.2.2.2.2.2.2 p hp
  obtain ⟨fa, fb, fc, fd⟩ := hI.2.2.2.2.2.1 f hf
  obtain ⟨g1, g2⟩ := gP_le hI hp
  have h2 := hI.2.2.1
  have he2 := e.2
  have hfb := fb.2
  unfold fX7_pulls
  rw [gives_s hfu t hI hp, bnd_s, fld1 fu hf, bnd_s, ald53 (by omega), nm_s, bnd_s, fb.1, nI_add, l9999, min_m (ρ := Option (Int32 × MS)) (by omega) (by decide) (fun z => fX7_pulls_b45 fu t (nI p) (nI (gP (mgS t) p)) z (nI (5 + 4 * f + 1)))]
  unfold fX7_pulls_b45
  rw [in53 (by omega), a53_2, i53_2, spt3 fu (by omega), bnd_s, ald53 (by omega), its3 fu _ (by omega), bnd_s, nI_clamp (by omega), cl2]
  have r2 : mgS (muS t (5 + 4 * f + 1) (nI (min (vv (mgS t) (5 + 4 * f + 1) + gP (mgS t) p) 9999))) 2 = nI (vv (mgS t) 2) := by
    rw [mgS_u, pk_un (by omega)]; exact h2.1
  have r3 : mgS (muS (muS t (5 + 4 * f + 1) (nI (min (vv (mgS t) (5 + 4 * f + 1) + gP (mgS t) p) 9999))) 2 (nI (vv (mgS t) 2) - nI (gP (mgS t) p))) (21 + 4 * p + 3) = nI (vv (mgS t) (21 + 4 * p + 3)) := by
    rw [mgS_u, mgS_u, pk_un (by omega), pk_un (by omega)]; exact e.1
  rw [r2, r3, pk_sub g2, Nat.min_comm]
  have fin : ∀ y : Int32, nI (vv (mgS t) (21 + 4 * p + 3)) + y = nI (min 9 (vv (mgS t) (21 + 4 * p + 3) + 1)) → fX7_pulls_b83 fu (muS (muS t (5 + 4 * f + 1) (nI (min 9999 (vv (mgS t) (5 + 4 * f + 1) + gP (mgS t) p)))) 2 (nI (vv (mgS t) 2 - gP (mgS t) p))) (nI (gP (mgS t) p)) y (nI (vv (mgS t) (21 + 4 * p + 3))) (nI (21 + 4 * p + 3)) = some (nI (gP (mgS t) p), msS t (pulN (mgS t) p f)) := by
    intro y hy
    unfold fX7_pulls_b83
    rw [in53 (by omega), hy, nI_clamp (by omega)]
    rfl
  by_cases h9 : (9 : Nat) ≤ vv (mgS t) (21 + 4 * p + 3)
  · rw [if_pos (by rw [l9]; exact nI_le h9 (by omega))]
    refine fin 0 ?_
    rw [show vv (mgS t) (21 + 4 * p + 3) = 9 by omega]
    rfl
  · rw [if_neg (by rw [l9]; exact nI_ge (by omega) (by decide))]
    refine fin 1 ?_
    rw [nI_1, Nat.min_eq_right (by omega)]
/-! the class: the same -/
theorem draw_s (fu : Nat) {x : PS} {s : SS} (h : RP x s) (hI : IS s) {p f : Nat} (hp : p < vv s 0) (hf : f < 4) : ∃ x', fX1_draw fu x (nI p) (nI f) = some (nI (gP s p), x') ∧ RP x' (pulN s p f) ∧ pgDryFarms x' = pgDryFarms x := by
  have h8 : vv s 0 ≤ 8 := hI.1.2
  obtain ⟨a, b, ⟨c, c2⟩, e⟩ := hI.2.2.2.2.2.2 p hp
  obtain ⟨q1, q2, q3, q4⟩ := h.2.2.2.2 p (by omega)
  obtain ⟨fa, fb, fc, fd⟩ := hI.2.2.2.2.2.1 f hf
  obtain ⟨r1, r2, r3, r4⟩ := h.2.2.2.1 f hf
  obtain ⟨g1, g2⟩ := gP_le hI hp
  have h2 := hI.2.2.1
  have he2 := e.2
  have hfb := fb.2
  have hg : fX1_gift fu x (nI p) (nI (vv s (21 + 4 * p + 0))) (nI (vv s (21 + 4 * p + 1))) (nI (vv s (21 + 4 * p + 2))) = some (nI (gP s p)) := gift_s fu h hI hp (by have := a.2; omega) (by have := b.2; omega) c2
  refine ⟨puAsked (puWater (puStore x f (nI (min 9999 (vv s (5 + 4 * f + 1) + gP s p)))) 0 (nI (vv s 2 - gP s p))) p (nI (min 9 (vv s (21 + 4 * p + 3) + 1))), ?_, RP_uAsked (RP_uWater (RP_uStore h hf _) (by decide) _) (by omega) _, rfl⟩
  unfold fX1_draw
  rw [ald8 (by omega), ald8 (by omega), ald8 (by omega), q1, q2, q3, a.1, b.1, c.1, hg, bnd_s, ald4 hf, r2, fb.1, in4 hf, a3_0, i3_0, ald8 (by omega), in8 (by omega), nI_add, l9999, min_c (by decide) (by omega), nI_clamp (by omega), cl0, nI_clamp (by omega)]
  have k1 : pgWater (puStore x f (nI (min 9999 (vv s (5 + 4 * f + 1) + gP s p)))) 0 = nI (vv s 2) := by
    show pgWater x 0 = _
    rw [h.2.2.1 0 (by decide)]; exact h2.1
  have k2 : ∀ z : Int32, pgAsked (puWater (puStore x f (nI (min 9999 (vv s (5 + 4 * f + 1) + gP s p)))) 0 z) p = nI (vv s (21 + 4 * p + 3)) := by
    intro z
    show pgAsked x p = _
    rw [q4]; exact e.1
  rw [k1, k2, pk_sub g2, nI_1, l9, min_c (by decide) (by omega)]
