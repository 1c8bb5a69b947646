/-! whom the bucket favours; what would be given -/
theorem m1_gt {n : Nat} (h : n < 2 ^ 31) : ¬ nI n ≤ (-1 : Int32) := by
  rw [Int32.le_iff_toInt_le, nI_toInt h]
  have : (-1 : Int32).toInt = -1 := by decide
  omega
theorem gP_31 {s : SS} (hI : IS s) {p : Nat} (hp : p < vv s 0) : gP s p < 2 ^ 31 := by
  have := (gP_le hI hp).1
  omega
theorem fav_l {fu : Nat} (hF : 10 ≤ fu) (g : Int32) (o : SS) {x : PS} {t : MS} (hR : RP x (mgS t)) (hI : IS (mgS t)) : ∀ (n q fuel fuel' b : Nat), q + n = vv (mgS t) 0 → n < fuel → n < fuel' → b < vv (mgS t) 0 → ∃ j, g_lp (fun _ _ _ => none) (fX6_favourite_b20B fu g x) fuel o (nI b) (nI q) = some (nI j, o) ∧ g_lp (fun _ _ _ _ => none) (fX7_favourite_b6B fu) fuel' t (nI b) (nI (gP (mgS t) b)) (nI q) = some (nI j, t) := by
  have h8 := hI.1.2
  intro n
  induction n with
  | zero =>
    intro q fuel fuel' b hq hf hf' hb
    obtain ⟨j, rfl⟩ : ∃ j, fuel = j + 1 := ⟨fuel - 1, by omega⟩
    obtain ⟨j', rfl⟩ : ∃ j, fuel' = j + 1 := ⟨fuel' - 1, by omega⟩
    rw [g_lp_s, g_lp_s]
    unfold fX6_favourite_b20B fX7_favourite_b6B
    rw [hR.1, a53_0, hI.1.1, if_pos (nI_le (by omega) (by omega)), if_pos (nI_le (by omega) (by omega)), if_pos (nI_pos' (by omega))]
    exact ⟨b, rfl, rfl⟩
  | succ n ih =>
    intro q fuel fuel' b hq hf hf' hb
    obtain ⟨j, rfl⟩ : ∃ j, fuel = j + 1 := ⟨fuel - 1, by omega⟩
    obtain ⟨j', rfl⟩ : ∃ j, fuel' = j + 1 := ⟨fuel' - 1, by omega⟩
    have g1 := gP_31 hI (p := q) (by omega)
    have g2 := gP_31 hI hb
    have ihj := fun b => ih (q + 1) j j' b (by omega) (by omega) (by omega)
    rw [g_lp_s, g_lp_s]
    generalize g_lp (fun _ _ _ => none) (fX6_favourite_b20B fu g x) j = K6 at ihj ⊢
    generalize g_lp (fun _ _ _ _ => none) (fX7_favourite_b6B fu) j' = K7 at ihj ⊢
    unfold fX6_favourite_b20B fX7_favourite_b6B fX7_favourite_b34
    rw [hR.1, a53_0, hI.1.1, if_neg (nI_ge (by omega) (by omega)), if_neg (nI_ge (by omega) (by omega)), givenTo_s fu hR hI (p := q) (by omega), bnd_s, givenTo_s fu hR hI hb, bnd_s, gives_s hF t hI (p := q) (by omega), bnd_s]
    by_cases hc : gP (mgS t) q ≤ gP (mgS t) b
    · rw [if_pos (nI_le hc g2), if_pos (nI_le hc g2), if_pos (nI_le hc g2), nm_s, nm_s, nI_1]
      exact ihj b hb
    · rw [if_neg (nI_ge (by omega) g1), if_neg (nI_ge (by omega) g1), if_neg (nI_ge (by omega) g1), nm_s, nm_s, nI_1]
      exact ihj q (by omega)
theorem pr_favourite {fu : Nat} (hF : 5000 ≤ fu) {g : Int32} {o : SS} {h k : PS} {p : TPS} {s : SHS} {t : MS} (hJ : JJ g o h k p s t) : ∃ r o' t', fX6_favourite fu g o h = some (r, o') ∧ fX7_favourite fu t = some (r, t') ∧ JJ g o' h k p s t' := by
  obtain ⟨hR, hI⟩ := hJ.2.1
  have h8 := hI.1.2
  obtain ⟨fu1, rfl⟩ : ∃ f, fu = f + 1 := ⟨fu - 1, by omega⟩
  unfold fX6_favourite fX7_favourite fX7_favourite_b6
  rw [g_lp_s]
  by_cases h0 : vv (mgS t) 0 = 0
  · have e : mgS t 0 = 0 := by rw [hI.1.1, h0]; rfl
    unfold fX7_favourite_b6B
    rw [hR.1, a53_0, e, if_pos rfl, if_pos (by decide), if_neg (by decide), f6_3, f7_3]
    exact ⟨_, _, _, rfl, rfl, JJ_f hJ 3 (by decide)⟩
  · obtain ⟨j, e1, e2⟩ := fav_l (fu := fu1 + 1) (by omega) g o hR hI (vv (mgS t) 0 - 1) 1 (fu1 + 1) fu1 0 (by omega) (by omega) (by omega) (by omega)
    have f1 : fX6_favourite_b20 (fu1 + 1) g h o 0 1 = some (nI j, o) := e1
    have g0 := gP_31 hI (p := 0) (by omega)
    have st : ∀ K, fX7_favourite_b6B (fu1 + 1) K t (-1) (-1) 0 = K t (nI 0) (nI (gP (mgS t) 0)) (nI 1) := by
      intro K
      unfold fX7_favourite_b6B fX7_favourite_b34
      rw [a53_0, hI.1.1, l0, if_neg (nI_ge (by omega) (by omega)), gives_s (by omega) t hI (p := 0) (by omega), bnd_s, if_neg (m1_gt g0), if_neg (m1_gt g0), nm_s]
      rfl
    rw [hR.1, hI.1.1, if_neg (show ¬ nI (vv (mgS t) 0) = 0 from nI_ne0 (by omega) (by omega)), f1, st, e2]
    exact ⟨_, _, _, rfl, rfl, hJ⟩
/-! the greatest of some gifts -/
def argm (G : Nat → Nat) : Nat → Nat → Int32 → Int32 → Int32
  | 0, _, b, _ => b
  | n + 1, q, b, m => if nI (G q) ≤ m then argm G n (q + 1) b m else argm G n (q + 1) (nI q) (nI (G q))
theorem upd_uu (s : SS) (i : Nat) (a b : Int32) : upd (upd s i a) i b = upd s i b := by
  funext k
  unfold upd
  split <;> rfl
theorem mu_ms (t : MS) (x : SS) (k : Nat) (v : Int32) : muS (msS t x) k v = msS t (upd x k v) := rfl
theorem mgS_s (t : MS) (x : SS) : mgS (msS t x) = x := rfl
theorem ms_id (t : MS) : msS t (mgS t) = t := rfl
theorem most_l {fu : Nat} (hF : 10 ≤ fu) (t : MS) (s0 : SS) (G : Nat → Nat) {p w : Nat} (hp : p < 8) (hw : w < 4) (N : Nat) (hN : N < 2 ^ 31) (hG : ∀ v, v < N → IS (upd s0 (21 + 4 * p + w) (nI v)) ∧ p < vv (upd s0 (21 + 4 * p + w) (nI v)) 0 ∧ gP (upd s0 (21 + 4 * p + w) (nI v)) p = G v) (was : Int32) : ∀ (n q fuel : Nat) (b m x : Int32), q + n = N → n < fuel → g_lp (fun _ _ _ _ => none) (fX7_mostGiven_b17B fu (nI p) (nI w) (nI N) was) fuel (msS t (upd s0 (21 + 4 * p + w) x)) b m (nI q) = some (argm G n q b m, msS t (upd s0 (21 + 4 * p + w) was)) := by
  intro n
  induction n with
  | zero =>
    intro q fuel b m x hq hf
    obtain ⟨j, rfl⟩ : ∃ j, fuel = j + 1 := ⟨fuel - 1, by omega⟩
    rw [g_lp_s]
    unfold fX7_mostGiven_b17B
    rw [if_pos (nI_le (by omega) (by omega)), spot_s fu hp hw, bnd_s, in53 (by omega), nI_clamp (by omega), mu_ms, upd_uu]
    rfl
  | succ n ih =>
    intro q fuel b m x hq hf
    obtain ⟨j, rfl⟩ : ∃ j, fuel = j + 1 := ⟨fuel - 1, by omega⟩
    obtain ⟨g1, g2, g3⟩ := hG q (by omega)
    have ihj := fun b m x => ih (q + 1) j b m x (by omega) (by omega)
    rw [g_lp_s]
    generalize g_lp (fun _ _ _ _ => none) (fX7_mostGiven_b17B fu (nI p) (nI w) (nI N) was) j = K at ihj ⊢
    unfold fX7_mostGiven_b17B fX7_mostGiven_b56
    rw [if_neg (nI_ge (by omega) (by omega)), spot_s fu hp hw, bnd_s, in53 (by omega), nI_clamp (by omega), mu_ms, upd_uu, gives_s hF (msS t (upd s0 (21 + 4 * p + w) (nI q))) g1 g2, bnd_s, mgS_s, g3]
    unfold argm
    by_cases hc : nI (G q) ≤ m
    · rw [if_pos hc, if_pos hc, if_pos hc, nm_s, nI_1]
      exact ihj b m (nI q)
    · rw [if_neg hc, if_neg hc, if_neg hc, nm_s, nI_1]
      exact ihj (nI q) (nI (G q)) (nI q)
theorem most_s {fu : Nat} (hF : 10 ≤ fu) (t : MS) (G : Nat → Nat) {p w : Nat} (hp : p < 8) (hw : w < 4) (N : Nat) (hN : N < 2 ^ 31) (hf : N < fu) (hG : ∀ v, v < N → IS (upd (mgS t) (21 + 4 * p + w) (nI v)) ∧ p < vv (upd (mgS t) (21 + 4 * p + w) (nI v)) 0 ∧ gP (upd (mgS t) (21 + 4 * p + w) (nI v)) p = G v) : fX7_mostGiven fu t (nI p) (nI w) (nI N) = some (argm G N 0 0 (-1), t) := by
  unfold fX7_mostGiven
  rw [its_s fu t hp hw, bnd_s]
  have e := most_l hF t (mgS t) G hp hw N hN hG (mgS t (21 + 4 * p + w)) N 0 fu 0 (-1) (mgS t (21 + 4 * p + w)) (by omega) hf
  rw [upd_id _ _ rfl, ms_id] at e
  exact e
theorem gP_step (s : SS) (p : Nat) {v : Nat} (hv : v < 2 ^ 31) : gP (upd s (21 + 4 * p + 2) (nI v)) p = gN s p (vv s (21 + 4 * p + 0)) (vv s (21 + 4 * p + 1)) v := by
  unfold gP gN gfull
  rw [vv_us _ _ hv, vv_un _ _ (by omega), vv_un _ _ (by omega), vv_un _ _ (by omega), vv_un _ _ (by omega), vv_un _ _ (by omega), vv_un _ _ (by omega), vv_un _ _ (by omega)]
theorem gP_kind (s : SS) (p : Nat) {v : Nat} (hv : v < 2 ^ 31) : gP (upd s (21 + 4 * p + 0) (nI v)) p = gN s p v (vv s (21 + 4 * p + 1)) (vv s (21 + 4 * p + 2)) := by
  unfold gP gN gfull
  rw [vv_us _ _ hv, vv_un _ _ (show 21 + 4 * p + 1 ≠ 21 + 4 * p + 0 by omega), vv_un _ _ (show 21 + 4 * p + 2 ≠ 21 + 4 * p + 0 by omega), vv_un _ _ (show 21 + 4 * p + 3 ≠ 21 + 4 * p + 0 by omega), vv_un _ _ (show 4 ≠ 21 + 4 * p + 0 by omega), vv_un _ _ (show 2 ≠ 21 + 4 * p + 0 by omega)]
  by_cases hc : v = 4 ∧ vv s (21 + 4 * p + 2) ≠ p
  · rw [if_pos hc, if_pos hc, vv_un _ _ (by have := hc.2; omega), vv_un _ _ (by omega)]
  · rw [if_neg hc, if_neg hc]
theorem gP_deed (s : SS) (p : Nat) {v : Nat} (hv : v < 2 ^ 31) : gP (upd s (21 + 4 * p + 1) (nI v)) p = gN s p (vv s (21 + 4 * p + 0)) v (vv s (21 + 4 * p + 2)) := by
  unfold gP gN gfull
  rw [vv_us _ _ hv, vv_un _ _ (show 21 + 4 * p + 0 ≠ 21 + 4 * p + 1 by omega), vv_un _ _ (show 21 + 4 * p + 2 ≠ 21 + 4 * p + 1 by omega), vv_un _ _ (show 21 + 4 * p + 3 ≠ 21 + 4 * p + 1 by omega), vv_un _ _ (show 4 ≠ 21 + 4 * p + 1 by omega), vv_un _ _ (show 2 ≠ 21 + 4 * p + 1 by omega)]
  by_cases hc : vv s (21 + 4 * p + 0) = 4 ∧ vv s (21 + 4 * p + 2) ≠ p
  · rw [if_pos hc, if_pos hc, vv_un _ _ (by omega), vv_un _ _ (by have := hc.2; omega)]
  · rw [if_neg hc, if_neg hc]
theorem step_l (fu : Nat) (g : Int32) (o : SS) {x : PS} {s : SS} (hR : RP x s) (hI : IS s) {p : Nat} (hp : p < vv s 0) : ∀ (n q fuel : Nat) (b m : Int32), q + n = vv s 0 → n < fuel → g_lp (fun _ _ _ _ => none) (fX6_step_b24B fu g x (nI p)) fuel o b m (nI q) = some (argm (fun v => gN s p (vv s (21 + 4 * p + 0)) (vv s (21 + 4 * p + 1)) v) n q b m, o) := by
  have h8 := hI.1.2
  obtain ⟨d1, d2, d3, d4⟩ := hI.2.2.2.2.2.2 p hp
  obtain ⟨q1, q2, q3, q4⟩ := hR.2.2.2.2 p (by omega)
  have hd1 := d1.2
  have hd2 := d2.2
  intro n
  induction n with
  | zero =>
    intro q fuel b m hq hf
    obtain ⟨j, rfl⟩ : ∃ j, fuel = j + 1 := ⟨fuel - 1, by omega⟩
    rw [g_lp_s]
    unfold fX6_step_b24B
    rw [hR.1, hI.1.1, if_pos (nI_le (by omega) (by omega))]
    rfl
  | succ n ih =>
    intro q fuel b m hq hf
    obtain ⟨j, rfl⟩ : ∃ j, fuel = j + 1 := ⟨fuel - 1, by omega⟩
    have ihj := fun b m => ih (q + 1) j b m (by omega) (by omega)
    rw [g_lp_s]
    generalize g_lp (fun _ _ _ _ => none) (fX6_step_b24B fu g x (nI p)) j = K at ihj ⊢
    unfold fX6_step_b24B
    rw [hR.1, hI.1.1, if_neg (nI_ge (by omega) (by omega)), ald8 (by omega), ald8 (by omega), q1, q2, d1.1, d2.1, gift_s fu hR hI hp (by omega) (by omega) (st := q) (by omega), bnd_s]
    unfold argm
    by_cases hc : nI (gN s p (vv s (21 + 4 * p + 0)) (vv s (21 + 4 * p + 1)) q) ≤ m
    · rw [if_pos hc, if_pos hc, nm_s, nI_1]
      exact ihj b m
    · rw [if_neg hc, if_neg hc, nm_s, nI_1]
      exact ihj _ _
theorem pr_step {fu : Nat} (hF : 5000 ≤ fu) {g : Int32} {o : SS} {h k : PS} {p : TPS} {s : SHS} {t : MS} (hJ : JJ g o h k p s t) (a : Int32) : ∃ r o' t', fX6_step fu g o h a = some (r, o') ∧ fX7_step fu t a = some (r, t') ∧ JJ g o' h k p s t' := by
  obtain ⟨hR, hI⟩ := hJ.2.1
  have h8 := hI.1.2
  unfold fX6_step fX7_step
  rw [isThere_s fu hR hI, isPerson_s, bnd_s, bnd_s, tb_if, tb_if]
  by_cases ha : (0 : Int32) ≤ a ∧ a ≤ mgS t 0 - 1
  · rw [if_pos ha, if_pos ha, a53_0]
    obtain ⟨f, hf, rfl⟩ := rngP hI ha
    have e1 := step_l fu g o hR hI hf (vv (mgS t) 0) 0 fu 0 (-1) (by omega) (by omega)
    have f1 : fX6_step_b24 fu g h (nI f) o 0 (-1) 0 = _ := e1
    have e2 := most_s (fu := fu) (by omega) t (fun v => gN (mgS t) f (vv (mgS t) (21 + 4 * f + 0)) (vv (mgS t) (21 + 4 * f + 1)) v) (p := f) (w := 2) (by omega) (by decide) (vv (mgS t) 0) (by omega) (by omega) (fun v hv => ⟨IS_step hI hv, by rw [vv_un _ _ (by omega)]; exact hf, gP_step _ _ (by omega)⟩)
    rw [f1, hI.1.1, l2, e2, bnd_s]
    exact ⟨_, _, _, rfl, rfl, hJ⟩
  · rw [if_neg ha, if_neg ha, f6_0, f7_0]
    exact ⟨_, _, _, rfl, rfl, JJ_f hJ 0 (by decide)⟩
theorem kind_l (fu : Nat) (g : Int32) (o : SS) {x : PS} {s : SS} (hR : RP x s) (hI : IS s) {p : Nat} (hp : p < vv s 0) : ∀ (n q fuel : Nat) (b m : Int32), q + n = 6 → n < fuel → g_lp (fun _ _ _ _ => none) (fX6_kind_b24B fu g x (nI p)) fuel o b m (nI q) = some (argm (fun v => gN s p v (vv s (21 + 4 * p + 1)) (vv s (21 + 4 * p + 2))) n q b m, o) := by
  have h8 := hI.1.2
  obtain ⟨d1, d2, ⟨d3, d32⟩, d4⟩ := hI.2.2.2.2.2.2 p hp
  obtain ⟨q1, q2, q3, q4⟩ := hR.2.2.2.2 p (by omega)
  have hd2 := d2.2
  intro n
  induction n with
  | zero =>
    intro q fuel b m hq hf
    obtain ⟨j, rfl⟩ : ∃ j, fuel = j + 1 := ⟨fuel - 1, by omega⟩
    rw [g_lp_s]
    unfold fX6_kind_b24B
    rw [if_pos (show (6 : Int32) ≤ nI q from nI_le (a := 6) (by omega) (by omega))]
    rfl
  | succ n ih =>
    intro q fuel b m hq hf
    obtain ⟨j, rfl⟩ : ∃ j, fuel = j + 1 := ⟨fuel - 1, by omega⟩
    have ihj := fun b m => ih (q + 1) j b m (by omega) (by omega)
    rw [g_lp_s]
    generalize g_lp (fun _ _ _ _ => none) (fX6_kind_b24B fu g x (nI p)) j = K at ihj ⊢
    unfold fX6_kind_b24B
    rw [if_neg (show ¬ (6 : Int32) ≤ nI q from nI_ge (b := 6) (by omega) (by omega)), ald8 (by omega), ald8 (by omega), q2, q3, d2.1, d3.1, gift_s fu hR hI hp (k := q) (by omega) (by omega) d32, bnd_s]
    unfold argm
    by_cases hc : nI (gN s p q (vv s (21 + 4 * p + 1)) (vv s (21 + 4 * p + 2))) ≤ m
    · rw [if_pos hc, if_pos hc, nm_s, nI_1]
      exact ihj b m
    · rw [if_neg hc, if_neg hc, nm_s, nI_1]
      exact ihj _ _
theorem pr_kind {fu : Nat} (hF : 5000 ≤ fu) {g : Int32} {o : SS} {h k : PS} {p : TPS} {s : SHS} {t : MS} (hJ : JJ g o h k p s t) (a : Int32) : ∃ r o' t', fX6_kind fu g o h a = some (r, o') ∧ fX7_kind fu t a = some (r, t') ∧ JJ g o' h k p s t' := by
  obtain ⟨hR, hI⟩ := hJ.2.1
  have h8 := hI.1.2
  unfold fX6_kind fX7_kind
  rw [isThere_s fu hR hI, isPerson_s, bnd_s, bnd_s, tb_if, tb_if]
  by_cases ha : (0 : Int32) ≤ a ∧ a ≤ mgS t 0 - 1
  · rw [if_pos ha, if_pos ha]
    obtain ⟨f, hf, rfl⟩ := rngP hI ha
    have e1 := kind_l fu g o hR hI hf 6 0 fu 0 (-1) (by omega) (by omega)
    have f1 : fX6_kind_b24 fu g h (nI f) o 0 (-1) 0 = _ := e1
    have e2 := most_s (fu := fu) (by omega) t (fun v => gN (mgS t) f v (vv (mgS t) (21 + 4 * f + 1)) (vv (mgS t) (21 + 4 * f + 2))) (p := f) (w := 0) (by omega) (by decide) 6 (by omega) (by omega) (fun v hv => ⟨IS_kind hI (by omega), by rw [vv_un _ _ (by omega)]; exact hf, gP_kind _ _ (by omega)⟩)
    rw [f1, l0, l6, e2, bnd_s]
    exact ⟨_, _, _, rfl, rfl, hJ⟩
  · rw [if_neg ha, if_neg ha, f6_0, f7_0]
    exact ⟨_, _, _, rfl, rfl, JJ_f hJ 0 (by decide)⟩
/-! how many sets of deeds give so much -/
def cnt (G : Nat → Nat) (v : Int32) : Nat → Nat → Int32 → Int32
  | 0, _, c => c
  | n + 1, q, c => if nI (G q) = v then cnt G v n (q + 1) (c + 1) else cnt G v n (q + 1) c
theorem l256 : (256 : Int32) = nI 256 := rfl
theorem did6_l (fu : Nat) (g : Int32) (o : SS) {x : PS} {s : SS} (hR : RP x s) (hI : IS s) {p : Nat} (hp : p < vv s 0) (v : Int32) : ∀ (n q fuel : Nat) (c : Int32), q + n = 256 → n < fuel → g_lp (fun _ _ _ => none) (fX6_did_b26B fu g x (nI p) v) fuel o c (nI q) = some (cnt (fun d => gN s p (vv s (21 + 4 * p + 0)) d (vv s (21 + 4 * p + 2))) v n q c, o) := by
  have h8 := hI.1.2
  obtain ⟨d1, d2, ⟨d3, d32⟩, d4⟩ := hI.2.2.2.2.2.2 p hp
  obtain ⟨q1, q2, q3, q4⟩ := hR.2.2.2.2 p (by omega)
  have hd1 := d1.2
  intro n
  induction n with
  | zero =>
    intro q fuel c hq hf
    obtain ⟨j, rfl⟩ : ∃ j, fuel = j + 1 := ⟨fuel - 1, by omega⟩
    rw [g_lp_s]
    unfold fX6_did_b26B
    rw [if_pos (show (255 : Int32) < nI q from nI_lt (a := 255) (by omega) (by omega))]
    rfl
  | succ n ih =>
    intro q fuel c hq hf
    obtain ⟨j, rfl⟩ : ∃ j, fuel = j + 1 := ⟨fuel - 1, by omega⟩
    have ihj := fun c => ih (q + 1) j c (by omega) (by omega)
    rw [g_lp_s]
    generalize g_lp (fun _ _ _ => none) (fX6_did_b26B fu g x (nI p) v) j = K at ihj ⊢
    unfold fX6_did_b26B
    rw [if_neg (show ¬ (255 : Int32) < nI q from nI_nlt (a := 255) (by omega) (by omega)), ald8 (by omega), ald8 (by omega), q1, q3, d1.1, d3.1, gift_s fu hR hI hp (k := vv s (21 + 4 * p + 0)) (d := q) (by omega) (by omega) d32, bnd_s]
    unfold cnt
    by_cases hc : nI (gN s p (vv s (21 + 4 * p + 0)) q (vv s (21 + 4 * p + 2))) = v
    · rw [if_pos hc, if_pos hc, nm_s, nm_s, nI_1]
      exact ihj _
    · rw [if_neg hc, if_neg hc, nm_s, nI_1]
      exact ihj _
theorem did7_l {fu : Nat} (hF : 10 ≤ fu) (t : MS) (s0 : SS) (hI : IS s0) {p : Nat} (hp : p < vv s0 0) (v was : Int32) : ∀ (n q fuel : Nat) (c x : Int32), q + n = 256 → n < fuel → g_lp (fun _ _ _ => none) (fX7_did_b32B fu (nI p) v was) fuel (msS t (upd s0 (21 + 4 * p + 1) x)) c (nI q) = some (cnt (fun d => gN s0 p (vv s0 (21 + 4 * p + 0)) d (vv s0 (21 + 4 * p + 2))) v n q c, msS t (upd s0 (21 + 4 * p + 1) was)) := by
  have h8 := hI.1.2
  intro n
  induction n with
  | zero =>
    intro q fuel c x hq hf
    obtain ⟨j, rfl⟩ : ∃ j, fuel = j + 1 := ⟨fuel - 1, by omega⟩
    rw [g_lp_s]
    unfold fX7_did_b32B
    rw [if_pos (show (256 : Int32) ≤ nI q from nI_le (a := 256) (by omega) (by omega)), spt1 fu (by omega), bnd_s, in53 (by omega), nI_clamp (by omega), mu_ms, upd_uu]
    rfl
  | succ n ih =>
    intro q fuel c x hq hf
    obtain ⟨j, rfl⟩ : ∃ j, fuel = j + 1 := ⟨fuel - 1, by omega⟩
    have g1 : IS (upd s0 (21 + 4 * p + 1) (nI q)) := IS_deeds hI (by omega)
    have g2 : p < vv (upd s0 (21 + 4 * p + 1) (nI q)) 0 := by rw [vv_un _ _ (by omega)]; exact hp
    have ihj := fun c x => ih (q + 1) j c x (by omega) (by omega)
    rw [g_lp_s]
    generalize g_lp (fun _ _ _ => none) (fX7_did_b32B fu (nI p) v was) j = K at ihj ⊢
    unfold fX7_did_b32B
    rw [if_neg (show ¬ (256 : Int32) ≤ nI q from nI_ge (b := 256) (by omega) (by omega)), spt1 fu (by omega), bnd_s, in53 (by omega), nI_clamp (by omega), mu_ms, upd_uu, gives_s hF (msS t (upd s0 (21 + 4 * p + 1) (nI q))) g1 g2, bnd_s, mgS_s, gP_deed _ _ (by omega)]
    unfold cnt
    by_cases hc : nI (gN s0 p (vv s0 (21 + 4 * p + 0)) q (vv s0 (21 + 4 * p + 2))) = v
    · rw [if_pos hc, if_pos hc, nm_s, nm_s, nI_1]
      exact ihj _ (nI q)
    · rw [if_neg hc, if_neg hc, nm_s, nm_s, nI_1, Int32.add_zero]
      exact ihj _ (nI q)
theorem pr_did {fu : Nat} (hF : 5000 ≤ fu) {g : Int32} {o : SS} {h k : PS} {p : TPS} {s : SHS} {t : MS} (hJ : JJ g o h k p s t) (a b : Int32) : ∃ r o' t', fX6_did fu g o h a b = some (r, o') ∧ fX7_did fu t a b = some (r, t') ∧ JJ g o' h k p s t' := by
  obtain ⟨hR, hI⟩ := hJ.2.1
  have h8 := hI.1.2
  have fin : ∃ r o' t', fX6_did_b15 fu g h o = some (r, o') ∧ fX7_did_b12 fu t = some (r, t') ∧ JJ g o' h k p s t' := by
    unfold fX6_did_b15 fX7_did_b12
    rw [f6_0, f7_0]
    exact ⟨_, _, _, rfl, rfl, JJ_f hJ 0 (by decide)⟩
  unfold fX6_did fX7_did
  rw [isThere_s fu hR hI, isPerson_s, bnd_s, bnd_s, tb_if, tb_if]
  by_cases ha : (0 : Int32) ≤ a ∧ a ≤ mgS t 0 - 1
  · rw [if_pos ha, if_pos ha]
    obtain ⟨f, hf, rfl⟩ := rngP hI ha
    by_cases hb : (0 : Int32) ≤ b
    · have e1 := did6_l fu g o hR hI hf b 256 0 fu 0 (by omega) (by omega)
      have f1 : fX6_did_b26 fu g h (nI f) b o 0 0 = _ := e1
      have e2 := did7_l (fu := fu) (by omega) t (mgS t) hI hf b (mgS t (21 + 4 * f + 1)) 256 0 fu 0 (mgS t (21 + 4 * f + 1)) (by omega) (by omega)
      rw [upd_id _ _ rfl, ms_id] at e2
      have f2 : fX7_did_b32 fu (nI f) b (mgS t (21 + 4 * f + 1)) t 0 0 = _ := e2
      rw [if_pos hb, if_pos hb, f1, its1 fu t (by omega), bnd_s, f2]
      exact ⟨_, _, _, rfl, rfl, hJ⟩
    · rw [if_neg hb, if_neg hb]; exact fin
  · rw [if_neg ha, if_neg ha]; exact fin
/-! the fewest deeds that suffice -/
def onN (d : Nat) : Nat := pcN (d % 16) + pcN (d / 16)
theorem bcO (fu : Nat) {d : Nat} (hd : d < 256) : fJ6_bitCount_0f7a4 fu (nI d) = some (nI (onN d)) := bc_s fu hd
theorem onN_le : ∀ d, d < 256 → onN d ≤ 8 := by decide +kernel
theorem deeds_l {fu : Nat} (hF : 10 ≤ fu) (g : Int32) (o : SS) {x : PS} (t : MS) {s0 : SS} (hR : RP x s0) (hI : IS s0) {p : Nat} (hp : p < vv s0 0) (v was : Int32) : ∀ (n q fuel fuel' : Nat) (b m y : Int32), q + n = 256 → n < fuel → n < fuel' → (b = -1 ∧ m = 1000000 ∨ ∃ c, c < 256 ∧ b = nI c ∧ m = nI (onN c)) → (∃ j, j < 256 ∧ g_lp (fun _ _ _ _ => none) (fX6_deeds_b36B fu g x (nI p) v) fuel o b m (nI q) = some (nI j, o) ∧ g_lp (fun _ _ _ => none) (fX7_deeds_b40B fu (nI p) v was) fuel' (msS t (upd s0 (21 + 4 * p + 1) y)) b (nI q) = some (nI j, msS t (upd s0 (21 + 4 * p + 1) was))) ∨ (g_lp (fun _ _ _ _ => none) (fX6_deeds_b36B fu g x (nI p) v) fuel o b m (nI q) = some (-1000000004, foN o 3) ∧ g_lp (fun _ _ _ => none) (fX7_deeds_b40B fu (nI p) v was) fuel' (msS t (upd s0 (21 + 4 * p + 1) y)) b (nI q) = some (-1000000004, ftN (msS t (upd s0 (21 + 4 * p + 1) was)) 3)) := by
  have h8 := hI.1.2
  obtain ⟨d1, d2, d3, d4⟩ := hI.2.2.2.2.2.2 p hp
  obtain ⟨q1, q2, q3, q4⟩ := hR.2.2.2.2 p (by omega)
  have hd1 := d1.2
  intro n
  induction n with
  | zero =>
    intro q fuel fuel' b m y hq hf hf' hb
    obtain ⟨j, rfl⟩ : ∃ j, fuel = j + 1 := ⟨fuel - 1, by omega⟩
    obtain ⟨j', rfl⟩ : ∃ j, fuel' = j + 1 := ⟨fuel' - 1, by omega⟩
    rw [g_lp_s, g_lp_s]
    unfold fX6_deeds_b36B fX7_deeds_b40B
    rw [if_pos (show (255 : Int32) < nI q from nI_lt (a := 255) (by omega) (by omega)), if_pos (show (256 : Int32) ≤ nI q from nI_le (a := 256) (by omega) (by omega)), spt1 fu (by omega), bnd_s, in53 (by omega), nI_clamp (by omega), mu_ms, upd_uu]
    rcases hb with ⟨rfl, rfl⟩ | ⟨c, hc, rfl, rfl⟩
    · rw [if_neg (by decide), if_neg (by decide), f6_3, f7_3]
      exact Or.inr ⟨rfl, rfl⟩
    · rw [if_pos (nI_pos' (by omega)), if_pos (nI_pos' (by omega))]
      exact Or.inl ⟨c, hc, rfl, rfl⟩
  | succ n ih =>
    intro q fuel fuel' b m y hq hf hf' hb
    obtain ⟨j, rfl⟩ : ∃ j, fuel = j + 1 := ⟨fuel - 1, by omega⟩
    obtain ⟨j', rfl⟩ : ∃ j, fuel' = j + 1 := ⟨fuel' - 1, by omega⟩
    have hq1 : q < 256 := by omega
    have k0 : mgS (msS t (upd s0 (21 + 4 * p + 1) (nI q))) (21 + 4 * p + 0) = nI (vv s0 (21 + 4 * p + 0)) := by
      rw [mgS_s, pk_un (by omega)]; exact d1.1
    have k1 : mgS (msS t (upd s0 (21 + 4 * p + 1) (nI q))) (21 + 4 * p + 1) = nI q := by
      rw [mgS_s, pk_us]
    have ds : fX7_deserves fu (msS t (upd s0 (21 + 4 * p + 1) (nI q))) (nI p) = some (nI (dsN (vv s0 (21 + 4 * p + 0)) q)) := deserves_s hF _ (by omega) k0 (by omega) k1 hq1
    have dl := dsN_le (vv s0 (21 + 4 * p + 0)) (by omega) q hq1
    have s6 : ∀ K, fX6_deeds_b36B fu g x (nI p) v K o b m (nI q) = if m ≤ nI (onN q) then K o b m (nI (q + 1)) else (if nI (dsN (vv s0 (21 + 4 * p + 0)) q) < v then K o b m (nI (q + 1)) else K o (nI q) (nI (onN q)) (nI (q + 1))) := by
      intro K
      unfold fX6_deeds_b36B
      rw [if_neg (show ¬ (255 : Int32) < nI q from nI_nlt (a := 255) (by omega) (by omega)), bcO fu hq1, bnd_s, ald8 (by omega), q1, d1.1, deserved_s fu (by omega) hq1, bnd_s, nm_s, nm_s, nI_1]
    have s7 : ∀ K, fX7_deeds_b40B fu (nI p) v was K (msS t (upd s0 (21 + 4 * p + 1) y)) b (nI q) = if nI (dsN (vv s0 (21 + 4 * p + 0)) q) < v then K (msS t (upd s0 (21 + 4 * p + 1) (nI q))) b (nI (q + 1)) else (if b < 0 then K (msS t (upd s0 (21 + 4 * p + 1) (nI q))) (nI q) (nI (q + 1)) else g_bnd (fX7_ones fu (nI q)) (fun u76 => g_bnd (fX7_ones fu b) (fun u81 => if u81 ≤ u76 then K (msS t (upd s0 (21 + 4 * p + 1) (nI q))) b (nI (q + 1)) else K (msS t (upd s0 (21 + 4 * p + 1) (nI q))) (nI q) (nI (q + 1))))) := by
      intro K
      unfold fX7_deeds_b40B
      rw [if_neg (show ¬ (256 : Int32) ≤ nI q from nI_ge (b := 256) (by omega) (by omega)), spt1 fu (by omega), bnd_s, in53 (by omega), nI_clamp (by omega), mu_ms, upd_uu, ds, bnd_s, nm_s, nm_s, nI_1]
    rw [g_lp_s, g_lp_s, s6, s7]
    have i1 := ih (q + 1) j j' b m (nI q) (by omega) (by omega) (by omega) hb
    have i2 := ih (q + 1) j j' (nI q) (nI (onN q)) (nI q) (by omega) (by omega) (by omega) (Or.inr ⟨q, hq1, rfl, rfl⟩)
    have ol := onN_le q hq1
    by_cases hv : nI (dsN (vv s0 (21 + 4 * p + 0)) q) < v
    · rw [if_pos hv, if_pos hv]
      split
      · exact i1
      · exact i1
    · rw [if_neg hv, if_neg hv]
      rcases hb with ⟨rfl, rfl⟩ | ⟨c, hc, rfl, rfl⟩
      · rw [if_pos (show (-1 : Int32) < 0 by decide), if_neg (show ¬ (1000000 : Int32) ≤ nI (onN q) from nI_ge (b := 1000000) (by omega) (by decide))]
        exact i2
      · have oc := onN_le c hc
        rw [if_neg (nI_pos (by omega)), ones_s hF hq1, bnd_s, ones_s hF hc, bnd_s]
        show _ ∨ _
        by_cases hm : onN c ≤ onN q
        · rw [if_pos (show nI (onN c) ≤ nI (onN q) from nI_le hm (by omega)), if_pos (show nI (pcN (c % 16) + pcN (c / 16)) ≤ nI (pcN (q % 16) + pcN (q / 16)) from nI_le hm (Nat.lt_of_le_of_lt ol (by decide)))]
          exact i1
        · rw [if_neg (show ¬ nI (onN c) ≤ nI (onN q) from nI_ge (by omega) (by omega)), if_neg (show ¬ nI (pcN (c % 16) + pcN (c / 16)) ≤ nI (pcN (q % 16) + pcN (q / 16)) from nI_ge (Nat.not_le.mp hm) (Nat.lt_of_le_of_lt oc (by decide)))]
          exact i2
theorem pr_deeds {fu : Nat} (hF : 5000 ≤ fu) {g : Int32} {o : SS} {h k : PS} {p : TPS} {s : SHS} {t : MS} (hJ : JJ g o h k p s t) (a b : Int32) : ∃ r o' t', fX6_deeds fu g o h a b = some (r, o') ∧ fX7_deeds fu t a b = some (r, t') ∧ JJ g o' h k p s t' := by
  obtain ⟨hR, hI⟩ := hJ.2.1
  have h8 := hI.1.2
  have fin : ∃ r o' t', fX6_deeds_b21 fu g h o = some (r, o') ∧ fX7_deeds_b20 fu t = some (r, t') ∧ JJ g o' h k p s t' := by
    unfold fX6_deeds_b21 fX7_deeds_b20
    rw [f6_0, f7_0]
    exact ⟨_, _, _, rfl, rfl, JJ_f hJ 0 (by decide)⟩
  unfold fX6_deeds fX7_deeds
  rw [isThere_s fu hR hI, isPerson_s, bnd_s, bnd_s, tb_if, tb_if]
  by_cases ha : (0 : Int32) ≤ a ∧ a ≤ mgS t 0 - 1
  · rw [if_pos ha, if_pos ha, within_s, bnd_s, tb_if, in_k fu b 0 15 0 15 (by decide) (by decide), bnd_s, tb_if]
    obtain ⟨f, hf, rfl⟩ := rngP hI ha
    by_cases hb : (0 : Int32) ≤ b ∧ b ≤ 15
    · have e := deeds_l (fu := fu) (by omega) g o t hR hI hf b (mgS t (21 + 4 * f + 1)) 256 0 fu fu (-1) 1000000 (mgS t (21 + 4 * f + 1)) (by omega) (by omega) (by omega) (Or.inl ⟨rfl, rfl⟩)
      rw [upd_id _ _ rfl, ms_id] at e
      rw [if_pos hb, if_pos hb, its1 fu t (by omega), bnd_s]
      rcases e with ⟨j, hj, e1, e2⟩ | ⟨e1, e2⟩
      · have f1 : fX6_deeds_b36 fu g h (nI f) b o (-1) 1000000 0 = _ := e1
        have f2 : fX7_deeds_b40 fu (nI f) b (mgS t (21 + 4 * f + 1)) t (-1) 0 = _ := e2
        rw [f1, f2]
        exact ⟨_, _, _, rfl, rfl, hJ⟩
      · have f1 : fX6_deeds_b36 fu g h (nI f) b o (-1) 1000000 0 = _ := e1
        have f2 : fX7_deeds_b40 fu (nI f) b (mgS t (21 + 4 * f + 1)) t (-1) 0 = _ := e2
        rw [f1, f2]
        exact ⟨_, _, _, rfl, rfl, JJ_f hJ 3 (by decide)⟩
    · rw [if_neg hb, if_neg hb]; exact fin
  · rw [if_neg ha, if_neg ha]; exact fin
