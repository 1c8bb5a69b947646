/-! what one is worth -/
def swF (p : Nat) (s : SS) (f : Nat) : SS := if s (5 + 4 * f + 3) = nI p then upd s (5 + 4 * f + 3) (-1) else s
theorem swF_un (p : Nat) (s : SS) (f : Nat) {k : Nat} (hk : k ≠ 5 + 4 * f + 3) : swF p s f k = s k := by
  unfold swF
  split
  · exact pk_un hk
  · rfl
theorem swF_eq (p : Nat) (s : SS) (f : Nat) : upd s (5 + 4 * f + 3) (if s (5 + 4 * f + 3) = nI p then -1 else s (5 + 4 * f + 3)) = swF p s f := by
  unfold swF
  split
  · rfl
  · exact upd_id _ _ rfl
theorem IS_sw {s : SS} (hI : IS s) (p : Nat) {f : Nat} (hf : f < 4) : IS (swF p s f) := by
  unfold swF
  split
  · exact IS_sends hI hf (Or.inl rfl)
  · exact hI
theorem thN_sw (p : Nat) (s : SS) (f : Nat) : thN (swF p s f) = thN s := by
  unfold swF
  split
  · exact thN_u _ _ (by intros; omega)
  · rfl
theorem RP_sw {x : PS} {s : SS} (hR : RP x s) (p : Nat) {f : Nat} (hf : f < 4) : RP (if s (5 + 4 * f + 3) = nI p then puSends x f (-1) else x) (swF p s f) := by
  unfold swF
  split
  · exact RP_uSends hR hf _
  · exact hR
def sw4 (p : Nat) (s : SS) : SS := swF p (swF p (swF p (swF p s 0) 1) 2) 3
theorem IS_sw4 {s : SS} (hI : IS s) (p : Nat) : IS (sw4 p s) := IS_sw (IS_sw (IS_sw (IS_sw hI p (by decide)) p (by decide)) p (by decide)) p (by decide)
theorem thN_sw4 (p : Nat) (s : SS) : thN (sw4 p s) = thN s := by
  unfold sw4
  rw [thN_sw, thN_sw, thN_sw, thN_sw]
theorem snm_st (fu : Nat) (p : Nat) {x : PS} {s : SS} (hR : RP x s) {f : Nat} (hf : f < 4) (K : PS → Int32 → Option PS) : fX1_sendNoMore_b2B fu (nI p) K x (nI f) = K (if s (5 + 4 * f + 3) = nI p then puSends x f (-1) else x) (nI (f + 1)) := by
  obtain ⟨q1, q2, q3, q4⟩ := hR.2.2.2.1 f hf
  unfold fX1_sendNoMore_b2B
  rw [if_neg (show ¬ (4 : Int32) ≤ nI f from nI_ge (b := 4) hf (by decide)), ald4 hf, q4, in4 hf, nm_s, nm_s, nI_1, nI_clamp (by omega)]
  split <;> rfl
theorem snm_s {fu : Nat} (hF : 10 ≤ fu) (p : Nat) {x : PS} {s : SS} (hR : RP x s) : ∃ x', fX1_sendNoMore fu x (nI p) = some x' ∧ RP x' (sw4 p s) := by
  obtain ⟨k, rfl⟩ : ∃ k, fu = k + 5 := ⟨fu - 5, by omega⟩
  have r1 := RP_sw hR p (f := 0) (by decide)
  have r2 := RP_sw r1 p (f := 1) (by decide)
  have r3 := RP_sw r2 p (f := 2) (by decide)
  have r4 := RP_sw r3 p (f := 3) (by decide)
  refine ⟨_, ?_, r4⟩
  show g_lp _ (fX1_sendNoMore_b2B (k + 5) (nI p)) (k + 5) x (nI 0) = _
  rw [g_lp_s, snm_st (k + 5) p hR (by decide), g_lp_s, snm_st (k + 5) p r1 (by decide), g_lp_s, snm_st (k + 5) p r2 (by decide), g_lp_s, snm_st (k + 5) p r3 (by decide), g_lp_s]
  unfold fX1_sendNoMore_b2B
  rw [if_pos (show (4 : Int32) ≤ nI (3 + 1) by decide)]
/-- what was sent is put back -/
theorem back4 {c s e : SS} (h : ∀ k, k ≠ 5 + 4 * 0 + 3 → k ≠ 5 + 4 * 1 + 3 → k ≠ 5 + 4 * 2 + 3 → k ≠ 5 + 4 * 3 + 3 → c k = s k) (h0 : e 0 = s (5 + 4 * 0 + 3)) (h1 : e 1 = s (5 + 4 * 1 + 3)) (h2 : e 2 = s (5 + 4 * 2 + 3)) (h3 : e 3 = s (5 + 4 * 3 + 3)) : upd (upd (upd (upd c (5 + 4 * 0 + 3) (e 0)) (5 + 4 * 1 + 3) (e 1)) (5 + 4 * 2 + 3) (e 2)) (5 + 4 * 3 + 3) (e 3) = s := by
  funext k
  by_cases k3 : k = 5 + 4 * 3 + 3
  · subst k3; rw [pk_us, h3]
  · rw [pk_un k3]
    by_cases k2 : k = 5 + 4 * 2 + 3
    · subst k2; rw [pk_us, h2]
    · rw [pk_un k2]
      by_cases k1 : k = 5 + 4 * 1 + 3
      · subst k1; rw [pk_us, h1]
      · rw [pk_un k1]
        by_cases k0 : k = 5 + 4 * 0 + 3
        · subst k0; rw [pk_us, h0]
        · rw [pk_un k0]; exact h k k0 k1 k2 k3
theorem wor_st (fu : Nat) (p m : Nat) (w : Int32) (t : MS) (c a : SS) (d : Int32) (e : SS) {f : Nat} (hf : f < 4) (K : MS → Int32 → Option (Int32 × MS)) : fX7_worth_b31B fu (nI p) (nI m) w K (NF t c a d e) (nI f) = K (NF t (swF p c f) a d (upd e f (c (5 + 4 * f + 3)))) (nI (f + 1)) := by
  unfold fX7_worth_b31B fX7_worth_b87
  rw [if_neg (show ¬ (4 : Int32) ≤ nI f from nI_ge (b := 4) hf (by decide)), fld3 fu hf, bnd_s, ald53 (by omega), in4 hf, bnd_s, nI_clamp (by omega), NF_ue, NF_e, NF_S, ald4 hf, ald4 hf, pk_us, in53 (by omega), in53 (by omega), nm_s, nm_s, nI_1, nI_clamp (by omega), NF_u, NF_u, ← swF_eq]
  split <;> rfl
theorem wor2_st (fu : Nat) (x3 x4 : Int32) (t : MS) (c a : SS) (d : Int32) (e : SS) {f : Nat} (hf : f < 4) (K : MS → Int32 → Option (Int32 × MS)) : fX7_worth_b104B fu x3 x4 K (NF t c a d e) (nI f) = K (NF t (upd c (5 + 4 * f + 3) (e f)) a d e) (nI (f + 1)) := by
  unfold fX7_worth_b104B
  rw [if_neg (show ¬ (4 : Int32) ≤ nI f from nI_ge (b := 4) hf (by decide)), fld3 fu hf, bnd_s, NF_e, ald4 hf, in53 (by omega), nm_s, nI_1, nI_clamp (by omega), NF_u]
theorem wor_s {fu : Nat} (hF : 5000 ≤ fu) (p : Nat) {m : Nat} (hm : m ≤ 60) (w : Int32) (t : MS) {s : SS} (hI : IS s) (a : SS) (d : Int32) (e : SS) : ∃ a' d' e', fX7_worth_b31 fu (nI p) (nI m) w (NF t s a d e) 0 = some (nI (dryN m (sw4 p s)) - w, NF t s a' d' e') := by
  obtain ⟨k, rfl⟩ : ∃ k, fu = k + 5 := ⟨fu - 5, by omega⟩
  obtain ⟨d', h1⟩ := dryOn_s hF t a d (upd (upd (upd (upd e 0 (s (5 + 4 * 0 + 3))) 1 (swF p s 0 (5 + 4 * 1 + 3))) 2 (swF p (swF p s 0) 1 (5 + 4 * 2 + 3))) 3 (swF p (swF p (swF p s 0) 1) 2 (5 + 4 * 3 + 3))) (IS_sw4 hI p) hm
  refine ⟨sw4 p s, d', upd (upd (upd (upd e 0 (s (5 + 4 * 0 + 3))) 1 (swF p s 0 (5 + 4 * 1 + 3))) 2 (swF p (swF p s 0) 1 (5 + 4 * 2 + 3))) 3 (swF p (swF p (swF p s 0) 1) 2 (5 + 4 * 3 + 3)), ?_⟩
  show g_lp _ (fX7_worth_b31B (k + 5) (nI p) (nI m) w) (k + 5) (NF t s a d e) (nI 0) = _
  rw [g_lp_s, wor_st (k + 5) p m w t s a d e (by decide), g_lp_s, wor_st (k + 5) p m w t _ a d _ (by decide), g_lp_s, wor_st (k + 5) p m w t _ a d _ (by decide), g_lp_s, wor_st (k + 5) p m w t _ a d _ (by decide), g_lp_s]
  unfold fX7_worth_b31B
  rw [if_pos (show (4 : Int32) ≤ nI (3 + 1) by decide)]
  have h1' : fX7_dryOn (k + 5) (NF t (swF p (swF p (swF p (swF p s 0) (0 + 1)) (0 + 1 + 1)) (0 + 1 + 1 + 1)) a d (upd (upd (upd (upd e 0 (s (5 + 4 * 0 + 3))) (0 + 1) (swF p s 0 (5 + 4 * (0 + 1) + 3))) (0 + 1 + 1) (swF p (swF p s 0) (0 + 1) (5 + 4 * (0 + 1 + 1) + 3))) (0 + 1 + 1 + 1) (swF p (swF p (swF p s 0) (0 + 1)) (0 + 1 + 1) (5 + 4 * (0 + 1 + 1 + 1) + 3)))) (nI m) = _ := h1
  rw [h1', bnd_s]
  generalize hE : upd (upd (upd (upd e 0 (s (5 + 4 * 0 + 3))) 1 (swF p s 0 (5 + 4 * 1 + 3))) 2 (swF p (swF p s 0) 1 (5 + 4 * 2 + 3))) 3 (swF p (swF p (swF p s 0) 1) 2 (5 + 4 * 3 + 3)) = E
  show g_lp _ (fX7_worth_b104B (k + 5) w (nI (dryN m (sw4 p s)))) (k + 5) (NF t (sw4 p s) (sw4 p s) d' E) (nI 0) = _
  rw [g_lp_s, wor2_st (k + 5) _ _ t _ _ _ E (by decide), g_lp_s, wor2_st (k + 5) _ _ t _ _ _ E (by decide), g_lp_s, wor2_st (k + 5) _ _ t _ _ _ E (by decide), g_lp_s, wor2_st (k + 5) _ _ t _ _ _ E (by decide), g_lp_s]
  unfold fX7_worth_b104B
  rw [if_pos (show (4 : Int32) ≤ nI (3 + 1) by decide)]
  have eb := back4 (c := sw4 p s) (s := s) (e := E) (fun k q0 q1 q2 q3 => by unfold sw4; rw [swF_un _ _ _ q3, swF_un _ _ _ q2, swF_un _ _ _ q1, swF_un _ _ _ q0]) (by rw [← hE, pk_un (by omega), pk_un (by omega), pk_un (by omega), pk_us]) (by rw [← hE, pk_un (by omega), pk_un (by omega), pk_us, swF_un _ _ _ (by omega)]) (by rw [← hE, pk_un (by omega), pk_us, swF_un _ _ _ (by omega), swF_un _ _ _ (by omega)]) (by rw [← hE, pk_us, swF_un _ _ _ (by omega), swF_un _ _ _ (by omega), swF_un _ _ _ (by omega)])
  have eb' : upd (upd (upd (upd (sw4 p s) (5 + 4 * 0 + 3) (E 0)) (5 + 4 * (0 + 1) + 3) (E (0 + 1))) (5 + 4 * (0 + 1 + 1) + 3) (E (0 + 1 + 1))) (5 + 4 * (0 + 1 + 1 + 1) + 3) (E (0 + 1 + 1 + 1)) = s := eb
  rw [eb']
theorem pr_worth {fu : Nat} (hF : 5000 ≤ fu) {g : Int32} {o : SS} {h k : PS} {p : TPS} {s : SHS} {t : MS} (hJ : JJ g o h k p s t) (q : PS) (a b : Int32) : ∃ r o' q' t', fX6_worth fu g o h q a b = some (r, o', q') ∧ fX7_worth fu t a b = some (r, t') ∧ JJ g o' h k p s t' := by
  obtain ⟨hR, hI⟩ := hJ.2.1
  have h8 := hI.1.2
  have fin : ∃ r o' q' t', fX6_worth_b21 fu g h o q = some (r, o', q') ∧ fX7_worth_b15 fu t = some (r, t') ∧ JJ g o' h k p s t' := by
    unfold fX6_worth_b21 fX7_worth_b15
    rw [f6_0, f7_0]
    exact ⟨_, _, _, _, rfl, rfl, JJ_f hJ 0 (by decide)⟩
  unfold fX6_worth fX7_worth
  rw [isThere_s fu hR hI, isPerson_s, bnd_s, bnd_s, tb_if, tb_if]
  by_cases ha : (0 : Int32) ≤ a ∧ a ≤ mgS t 0 - 1
  · rw [if_pos ha, if_pos ha, within_s, bnd_s, tb_if, isSoon_s, bnd_s, tb_if]
    obtain ⟨f, hf, rfl⟩ := rngP hI ha
    by_cases hb : (1 : Int32) ≤ b ∧ b ≤ 20
    · obtain ⟨n, hn1, hn2, rfl⟩ := rng1 (n := 20) hb (by decide)
      have f2 : ∀ q, fX1_become fu q h = some h := fun _ => rfl
      obtain ⟨r1, x1, a1, a2, a3, a4⟩ := dot_s hF g hR hI hR hI rfl (n := n) (by omega) (L := 1000000) (by omega)
      obtain ⟨x2, b1, b2⟩ := snm_s (fu := fu) (by omega) f hR
      obtain ⟨r3, x3, c1, c2, c3, c4⟩ := dot_s hF g hR hI b2 (IS_sw4 hI f) (thN_sw4 f _) (n := n) (by omega) (L := 1000000) (by omega)
      have v1 := dryN_le n hI
      have v2 := dryN_le n (IS_sw4 hI f)
      rw [a3 (by omega)] at a1
      rw [c3 (by omega)] at c1
      have a1' : fX6_dryOfTrial fu g h h (nI n) 1000000 = some (nI (dryN n (mgS t)), x1) := a1
      have c1' : fX6_dryOfTrial fu g h x2 (nI n) 1000000 = some (nI (dryN n (sw4 f (mgS t))), x3) := c1
      obtain ⟨d1, e1⟩ := dryOn_s hF t (mgAside t) (mgDryNow t) (mgSent t) hI (n := n) (by omega)
      rw [NF_id] at e1
      obtain ⟨a', d', e', e2⟩ := wor_s hF f (m := n) (by omega) (nI (dryN n (mgS t))) t hI (mgS t) d1 (mgSent t)
      rw [if_pos hb, if_pos hb, f2, bnd_s, a1', bnd_s, f2, bnd_s, b1, bnd_s, c1', bnd_s, e1, bnd_s, e2]
      exact ⟨_, _, _, _, rfl, rfl, NF_J hJ a' d' e'⟩
    · rw [if_neg hb, if_neg hb]; exact fin
  · rw [if_neg ha, if_neg ha]; exact fin
