/-! a parish is read -/
theorem sav_l (fu : Nat) : ∀ (n q fuel : Nat) (t : MS), q + n = 53 → n < fuel → (∀ j, j < q → mgOther t j = mgS t j) → ∃ b, (∀ j, j < 53 → b j = mgS t j) ∧ g_lp (fun _ _ => none) (fX7_saves_b2B fu) fuel t (nI q) = some (msOther t b) := by
  intro n
  induction n with
  | zero =>
    intro q fuel t hq hf h
    obtain ⟨j, rfl⟩ : ∃ j, fuel = j + 1 := ⟨fuel - 1, by omega⟩
    refine ⟨mgOther t, fun j hj => h j (by omega), ?_⟩
    rw [g_lp_s]
    unfold fX7_saves_b2B
    rw [if_pos (show (53 : Int32) ≤ nI q from nI_le (a := 53) (by omega) (by omega))]
    rfl
  | succ n ih =>
    intro q fuel t hq hf h
    obtain ⟨j, rfl⟩ : ∃ j, fuel = j + 1 := ⟨fuel - 1, by omega⟩
    obtain ⟨b, h1, h2⟩ := ih (q + 1) j (muOther t q (mgS t q)) (by omega) (by omega) (fun i hi => by
      show upd (mgOther t) q (mgS t q) i = mgS t i
      by_cases e : i = q
      · subst e; exact pk_us
      · rw [pk_un e]; exact h i (by omega))
    refine ⟨b, h1, ?_⟩
    have st : ∀ K, fX7_saves_b2B fu K t (nI q) = K (muOther t q (mgS t q)) (nI (q + 1)) := by
      intro K
      unfold fX7_saves_b2B
      rw [if_neg (show ¬ (53 : Int32) ≤ nI q from nI_ge (b := 53) (by omega) (by decide)), ald53 (by omega), in53 (by omega), nm_s, nI_1, nI_clamp (by omega)]
    rw [g_lp_s, st, h2]
    rfl
theorem put_l (fu : Nat) : ∀ (n q fuel : Nat) (t : MS), q + n = 53 → n < fuel → (∀ j, j < q → mgS t j = mgOther t j) → ∃ b, (∀ j, j < 53 → b j = mgOther t j) ∧ g_lp (fun _ _ => none) (fX7_putsBack_b2B fu) fuel t (nI q) = some (msS t b) := by
  intro n
  induction n with
  | zero =>
    intro q fuel t hq hf h
    obtain ⟨j, rfl⟩ : ∃ j, fuel = j + 1 := ⟨fuel - 1, by omega⟩
    refine ⟨mgS t, fun j hj => h j (by omega), ?_⟩
    rw [g_lp_s]
    unfold fX7_putsBack_b2B
    rw [if_pos (show (53 : Int32) ≤ nI q from nI_le (a := 53) (by omega) (by omega))]
    rfl
  | succ n ih =>
    intro q fuel t hq hf h
    obtain ⟨j, rfl⟩ : ∃ j, fuel = j + 1 := ⟨fuel - 1, by omega⟩
    obtain ⟨b, h1, h2⟩ := ih (q + 1) j (muS t q (mgOther t q)) (by omega) (by omega) (fun i hi => by
      show upd (mgS t) q (mgOther t q) i = mgOther t i
      by_cases e : i = q
      · subst e; exact pk_us
      · rw [pk_un e]; exact h i (by omega))
    refine ⟨b, h1, ?_⟩
    have st : ∀ K, fX7_putsBack_b2B fu K t (nI q) = K (muS t q (mgOther t q)) (nI (q + 1)) := by
      intro K
      unfold fX7_putsBack_b2B
      rw [if_neg (show ¬ (53 : Int32) ≤ nI q from nI_ge (b := 53) (by omega) (by decide)), ald53 (by omega), in53 (by omega), nm_s, nI_1, nI_clamp (by omega)]
    rw [g_lp_s, st, h2]
    rfl
theorem PQ_sw (B : Nat → Nat) (L : Nat) (t : MS) (s : SS) (q : Nat) (v w x : Int32) : msIsWrong (PQ B L t s q v w) x = PQ B L t s q v x := rfl
theorem PQ_tw (B : Nat → Nat) (L : Nat) (t : MS) (s : SS) (q : Nat) (v w x : Int32) : mgIsWrong (msTaped (PQ B L t s q v w) x) = w := rfl
theorem PQ_tf (B : Nat → Nat) (L : Nat) (t : MS) (s : SS) (q : Nat) (v w x : Int32) : mgFrom (msTaped (PQ B L t s q v w) x) = nI q := rfl
theorem PQ_o (B : Nat → Nat) (L : Nat) (t : MS) (s : SS) (q : Nat) (v w : Int32) : mgOther (PQ B L t s q v w) = mgOther t := rfl
theorem PQ_l (B : Nat → Nat) (L : Nat) (t : MS) (s : SS) (q : Nat) (v w : Int32) : mgTaped (PQ B L t s q v w) = mgTaped t := rfl
theorem b83_1 {fu : Nat} (hF : 5000 ≤ fu) (B : Nat → Nat) (L : Nat) (t : MS) (s : SS) (q : Nat) (v w : Int32) (x : Int32) : ∃ s', (∀ j, j < 53 → s' j = mgOther t j) ∧ fX7_parish_b83 fu (PQ B L t s q v w) x 1 = some (-1 - nI q, msTaped (PQ B L t s' q v 1) 0) := by
  obtain ⟨s', h1, h2⟩ := put_l fu 53 0 fu (PQ B L t s q v 1) (by omega) (by omega) (fun j hj => absurd hj (by omega))
  have f1 : fX7_putsBack fu (PQ B L t s q v 1) = some (msS (PQ B L t s q v 1) s') := h2
  refine ⟨s', h1, ?_⟩
  unfold fX7_parish_b83 fX7_parish_b97
  rw [z_1, PQ_sw, PQ_w, if_neg (show ¬ (1 : Int32) = 0 by decide), f1, bnd_s, PQ_sS, PQ_tw, if_neg (show ¬ (1 : Int32) = 0 by decide), PQ_tf]
theorem b83_0 (fu : Nat) (B : Nat → Nat) (L : Nat) (t : MS) (s : SS) (q : Nat) (v w : Int32) (x : Int32) : fX7_parish_b83 fu (PQ B L t s q v w) x 0 = some (x, msTaped (PQ B L t s q v 0) 0) := by
  unfold fX7_parish_b83 fX7_parish_b97
  rw [z_0, PQ_sw, PQ_w, if_pos (show (0 : Int32) = 0 from rfl), PQ_tw, if_pos (show (0 : Int32) = 0 from rfl)]
theorem b64_s (fu : Nat) (p : TPS) {B : Nat → Nat} {L : Nat} {z : TKS} {M c q : Nat} (hC : CUT B L z M) (hX : TX B L z M c q) (x : PS) : fX2_readInto_b64 fu p (ksAt z (nI c)) x = some (-1 - nI q, ksAt z (nI c), x) := by
  unfold fX2_readInto_b64
  rw [place_s fu hC hX, bnd_s]
theorem par_l {fu : Nat} (hF : 5000 ≤ fu) (p : TPS) {B : Nat → Nat} {L : Nat} {z : TKS} {M : Nat} (hC : CUT B L z M) {t : MS} (hT : TAP B L t) : ∀ (n c q k fuel fuel' : Nat) (x : PS) (s : SS) (v : Int32), M ≤ c + n → n < fuel → n < fuel' → 1 ≤ k → 2 * k ≤ c + 2 → TX B L z M c q → RP x s → IS s → ∃ r zz x' t', g_lp (fun _ _ _ => none) (fX2_readInto_b10B fu p) fuel (ksAt z (nI c)) x (nI k) = some (r, zz, x') ∧ g_bnd (fX7_item fu (PQ B L t s q v 0)) (fun u => g_lp (fun _ _ => none) (fX7_parish_b24B fu) fuel' u (nI k)) = some (r, t') ∧ ((∃ m, r = nI m ∧ m ≤ 120 ∧ ∃ s' q' v', t' = msTaped (PQ B L t s' q' v' 0) 0 ∧ RP x' s' ∧ IS s') ∨ (∃ q', r = -1 - nI q' ∧ q' ≤ 120 ∧ ∃ s' v', t' = msTaped (PQ B L t s' q' v' 1) 0 ∧ ∀ j, j < 53 → s' j = mgOther t j)) := by
  obtain ⟨hL, hM, hB, hb⟩ := id hC
  intro n
  induction n with
  | zero =>
    intro c q k fuel fuel' x s v hn hf hf' hk1 hk2 hX hR hI
    obtain ⟨j, rfl⟩ : ∃ j, fuel = j + 1 := ⟨fuel - 1, by omega⟩
    obtain ⟨j', rfl⟩ : ∃ j, fuel' = j + 1 := ⟨fuel' - 1, by omega⟩
    have hcM := TX_cM hX
    obtain ⟨r0, u0, e1, e2, e3, e4⟩ := itm_s hF hC hX hT hR hI v
    have hr0 : r0.1 = 0 := by
      rcases OUT_01 e4 with h | h
      · exact h
      · exfalso
        obtain ⟨c', q', s', v', h1, h2, -⟩ := e3 h
        have := TX_cM h2
        omega
    obtain ⟨c', q', s', v', h1, h2, h3, h4⟩ := e4
    have hq' := TX_q h2
    rcases h4 with ⟨h4, -⟩ | ⟨h4, h5⟩
    · rw [hr0] at h4; exact absurd h4 (by decide)
    · obtain ⟨s2, g1, g2⟩ := b83_1 hF B L t s' q' v' 1 (nI k)
      refine ⟨-1 - nI q', ksAt z (nI c'), r0.2.2, _, ?_, ?_, Or.inr ⟨q', rfl, by omega, s2, v', rfl, g1⟩⟩
      · rw [g_lp_s]
        unfold fX2_readInto_b10B
        rw [if_neg (show ¬ (120 : Int32) < nI k from nI_nlt (a := 120) (by omega) (by decide)), e1, bnd_s, h4, if_pos (show (0 : Int32) = 0 from rfl), h3, b64_s fu p hC h2]
      · rw [e2, bnd_s, h5, g_lp_s]
        unfold fX7_parish_b24B fX7_parish_b59
        rw [PQ_w, if_neg (show ¬ (1 : Int32) = 0 by decide), if_neg (show ¬ (1 : Int32) = 0 by decide), g2]
  | succ n ih =>
    intro c q k fuel fuel' x s v hn hf hf' hk1 hk2 hX hR hI
    obtain ⟨j, rfl⟩ : ∃ j, fuel = j + 1 := ⟨fuel - 1, by omega⟩
    obtain ⟨j', rfl⟩ : ∃ j, fuel' = j + 1 := ⟨fuel' - 1, by omega⟩
    have hcM := TX_cM hX
    obtain ⟨r0, u0, e1, e2, e3, e4⟩ := itm_s hF hC hX hT hR hI v
    rcases OUT_01 e4 with hr | hr
    · obtain ⟨c', q', s', v', h1, h2, h3, h4⟩ := e4
      have hq' := TX_q h2
      rcases h4 with ⟨h4, -⟩ | ⟨h4, h5⟩
      · rw [hr] at h4; exact absurd h4 (by decide)
      · obtain ⟨s2, g1, g2⟩ := b83_1 hF B L t s' q' v' 1 (nI k)
        refine ⟨-1 - nI q', ksAt z (nI c'), r0.2.2, _, ?_, ?_, Or.inr ⟨q', rfl, by omega, s2, v', rfl, g1⟩⟩
        · rw [g_lp_s]
          unfold fX2_readInto_b10B
          rw [if_neg (show ¬ (120 : Int32) < nI k from nI_nlt (a := 120) (by omega) (by decide)), e1, bnd_s, h4, if_pos (show (0 : Int32) = 0 from rfl), h3, b64_s fu p hC h2]
        · rw [e2, bnd_s, h5, g_lp_s]
          unfold fX7_parish_b24B fX7_parish_b59
          rw [PQ_w, if_neg (show ¬ (1 : Int32) = 0 by decide), if_neg (show ¬ (1 : Int32) = 0 by decide), g2]
    · obtain ⟨c', q', s', v', h1, h2, h3, h4⟩ := e3 hr
      have hq' := TX_q h2
      have hcM' := TX_cM h2
      rcases h4 with ⟨h4, h5, h6, h7⟩ | ⟨h4, -⟩
      · have by7 : fX7_byteAt fu (PQ B L t s' q' v' 0) (nI q') = some (by' B L q') := byteAt_s fu hT s' _ _ v' 0 (by omega)
        have s6 : ∀ K, fX2_readInto_b10B fu p K (ksAt z (nI c)) x (nI k) = if q' = L then some (nI k, ksAt z (nI c'), r0.2.2) else if q' < L ∧ srt (B q') = 3 then g_bnd (fX5_goOn fu (ksAt z (nI c'))) (fun u55 => K u55 r0.2.2 (nI (k + 1))) else some (-1 - nI q', ksAt z (nI c'), r0.2.2) := by
          intro K
          have ia : fX5_isAt fu (ksAt z (nI c')) (3 : Int32) = some (tb (q' < L ∧ srt (B q') = 3)) := isAt_s fu hC h2 (s := 3) (by omega)
          unfold fX2_readInto_b10B
          rw [if_neg (show ¬ (120 : Int32) < nI k from nI_nlt (a := 120) (by omega) (by decide)), e1, bnd_s, h4, if_neg (show ¬ (1 : Int32) = 0 by decide), h3, isEnd_s fu hC h2, bnd_s, tb_if, ia, bnd_s, tb_if, b64_s fu p hC h2]
          simp only [nm_s, nI_1]
        have s7 : ∀ K, fX7_parish_b24B fu K (PQ B L t s' q' v' 0) (nI k) = if q' < L ∧ srt (B q') = 3 then g_bnd (fX7_item fu (PQ B L t s' (skp B L (enq B L q')) v' 0)) (fun u50 => K u50 (nI (k + 1))) else fX7_parish_b59 fu (PQ B L t s' q' v' 0) (nI k) := by
          intro K
          unfold fX7_parish_b24B
          rw [PQ_w, if_pos (show (0 : Int32) = 0 from rfl), PQ_f, by7, bnd_s, mst_s hF hT s' v' hq', bnd_s]
          by_cases h59 : q' < L ∧ srt (B q') = 3
          · rw [if_pos ((is59 hT q').mpr h59), if_pos h59]
            simp only [nm_s, nI_1]
          · rw [if_neg (fun w => h59 ((is59 hT q').mp w)), if_neg h59]
        have l59 : fX7_parish_b59 fu (PQ B L t s' q' v' 0) (nI k) = if q' = L then fX7_parish_b83 fu (PQ B L t s' q' v' 0) (nI k) 0 else fX7_parish_b83 fu (PQ B L t s' q' v' 0) (nI k) 1 := by
          unfold fX7_parish_b59
          rw [PQ_w, if_pos (show (0 : Int32) = 0 from rfl), PQ_l, hT.2.1, PQ_f]
          by_cases hqL : q' = L
          · rw [if_pos hqL, if_pos (nI_le (by omega) (by omega))]
          · rw [if_neg hqL, if_neg (nI_ge (by omega) (by omega))]
        rw [g_lp_s, s6, e2, bnd_s, h5, g_lp_s, s7]
        by_cases hqL : q' = L
        · rw [if_pos hqL, if_neg (fun w => by have := w.1; omega), l59, if_pos hqL, b83_0]
          exact ⟨_, _, _, _, rfl, rfl, Or.inl ⟨k, rfl, by omega, s', q', v', rfl, h6, h7⟩⟩
        · rw [if_neg hqL]
          by_cases h59 : q' < L ∧ srt (B q') = 3
          · obtain ⟨g1, g2⟩ := goOn_s fu hM h2 h59.1
            rw [if_pos h59, if_pos h59, g1, bnd_s]
            exact ih (c' + 1) _ (k + 1) j j' r0.2.2 s' v' (by omega) (by omega) (by omega) (by omega) (by omega) g2 h6 h7
          · obtain ⟨s2, g1, g2⟩ := b83_1 hF B L t s' q' v' 0 (nI k)
            rw [if_neg h59, if_neg h59, l59, if_neg hqL, g2]
            exact ⟨_, _, _, _, rfl, rfl, Or.inr ⟨q', rfl, by omega, s2, v', rfl, g1⟩⟩
      · rw [hr] at h4; exact absurd h4 (by decide)
theorem JJ_fr {g : Int32} {o : SS} {h k : PS} {p : TPS} {s : SHS} {t : MS} (hJ : JJ g o h k p s t) (v : Int32) : JJ g o h k p s (msFrom t v) := hJ
theorem JJ_to {g : Int32} {o : SS} {h k : PS} {p : TPS} {s : SHS} {t : MS} (hJ : JJ g o h k p s t) (v : Int32) : JJ g o h k p s (msTo t v) := hJ
theorem JJ_vl {g : Int32} {o : SS} {h k : PS} {p : TPS} {s : SHS} {t : MS} (hJ : JJ g o h k p s t) (v : Int32) : JJ g o h k p s (msValue t v) := hJ
theorem JJ_wr {g : Int32} {o : SS} {h k : PS} {p : TPS} {s : SHS} {t : MS} (hJ : JJ g o h k p s t) (v : Int32) : JJ g o h k p s (msIsWrong t v) := hJ
theorem JJ_ot {g : Int32} {o : SS} {h k : PS} {p : TPS} {s : SHS} {t : MS} (hJ : JJ g o h k p s t) (v : SS) : JJ g o h k p s (msOther t v) := hJ
theorem JJ_tp {g : Int32} {o : SS} {h k : PS} {p : TPS} {s : SHS} {t : MS} (hJ : JJ g o h k p s t) : JJ g o h k (tsLength p 0) s (msTaped t 0) := ⟨hJ.1, hJ.2.1, hJ.2.2.1, ⟨0, by omega, rfl, rfl, fun j hj => absurd hj (by omega)⟩, hJ.2.2.2.2⟩
theorem PF_J {g : Int32} {o : SS} {h k : PS} {p : TPS} {s : SHS} {t : MS} (hJ : JJ g o h k p s t) (b : SS) (fr to v w : Int32) {h' : PS} {s' : SS} (h1 : RP h' s') (h2 : IS s') : JJ g o h' k (tsLength p 0) s (msTaped (PF (msOther t b) s' fr to v w) 0) := JJ_tp (JJ_wr (JJ_vl (JJ_to (JJ_fr (JJ_S (JJ_ot hJ b) h1 h2) fr) to) v) w)
theorem PQ_J {g : Int32} {o : SS} {h k : PS} {p : TPS} {s : SHS} {t : MS} (hJ : JJ g o h k p s t) (B : Nat → Nat) (L : Nat) (b : SS) (q : Nat) (v w : Int32) {h' : PS} {s' : SS} (h1 : RP h' s') (h2 : IS s') : JJ g o h' k (tsLength p 0) s (msTaped (PQ B L (msOther t b) s' q v w) 0) := PF_J hJ b (nI q) (nI (enq B L q)) v w h1 h2
theorem m1_neg : ∀ q, q < 121 → (-1 : Int32) - nI q < 0 := by decide +kernel
theorem pr_parish {fu : Nat} (hF : 5000 ≤ fu) {g : Int32} {o : SS} {h k : PS} {p : TPS} {s : SHS} {t : MS} (hJ : JJ g o h k p s t) (q : PS) (z : TKS) : ∃ r h' q' p' z' t', fX6_parish fu g h q p z = some (r, h', q', p', z') ∧ fX7_parish fu t = some (r, t') ∧ JJ g o h' k p' s t' := by
  obtain ⟨hR, hI⟩ := hJ.2.1
  obtain ⟨L, hL, l1, l2, l3⟩ := hJ.2.2.2.1
  have hB : ∀ j, j < L → (mgTape t j).toNatClampNeg < 256 ∧ mgTape t j = nI ((mgTape t j).toNatClampNeg) := by
    intro j hj
    obtain ⟨-, b, hb, e⟩ := l3 j hj
    rw [e, nI_clamp (by omega)]
    exact ⟨hb, rfl⟩
  obtain ⟨z1, M, s1, s2, s3, s4⟩ := scan_s hF hL l1 (B := fun j => (mgTape t j).toNatClampNeg) (fun j hj => (hB j hj).1) (fun j hj => by rw [(l3 j hj).1]; exact (hB j hj).2) z
  have hC : CUT (fun j => (mgTape t j).toNatClampNeg) L z1 M := ⟨hL, s2, fun j hj => (hB j hj).1, s3⟩
  obtain ⟨b, b1, b2⟩ := sav_l fu 53 0 fu t (by omega) (by omega) (fun j hj => absurd hj (by omega))
  have f1 : fX7_saves fu t = some (msOther t b) := b2
  have hT : TAP (fun j => (mgTape t j).toNatClampNeg) L (msOther t b) := ⟨hL, l2, hB⟩
  have tk := token_s hF hT (mgS t) (mgFrom t) (mgValue t) 0 (k := 0) (by omega)
  have f2 : fX7_token fu (msTo (msIsWrong (msOther t b) 0) 0) = some (PQ (fun j => (mgTape t j).toNatClampNeg) L (msOther t b) (mgS t) (skp (fun j => (mgTape t j).toNatClampNeg) L 0) (mgValue t) 0) := tk
  have fp : fX1_become fu q h = some h := rfl
  have hcM := TX_cM s4
  obtain ⟨r, zz, x', t', p1, p2, p3⟩ := par_l hF p hC hT M 0 _ 1 fu fu h (mgS t) (mgValue t) (by omega) (by omega) (by omega) (by omega) (by omega) s4 hR hI
  have g1 : fX2_readInto_b10 fu p (ksAt z1 (nI 0)) h 1 = some (r, zz, x') := p1
  have g2 : fX7_parish fu t = some (r, t') := by
    unfold fX7_parish
    rw [f1, bnd_s, z_0, f2, bnd_s]
    exact p2
  have g3 : fX2_readInto fu z h p = some (r, zz, x') := by
    unfold fX2_readInto
    rw [s1, bnd_s]
    exact g1
  unfold fX6_parish
  rw [fp, bnd_s, g3, bnd_s]
  rcases p3 with ⟨m, rfl, hm, s', q', v', rfl, h6, h7⟩ | ⟨q', rfl, hq', s', v', rfl, h6⟩
  · refine ⟨nI m, x', x', tsLength p 0, zz, _, ?_, g2, PQ_J hJ _ L b q' v' 0 h6 h7⟩
    show (if nI m < 0 then _ else _) = _
    rw [if_neg (nI_pos (by omega))]
    rfl
  · have e : ∀ j, j < 53 → mgS t j = s' j := fun j hj => ((h6 j hj).trans (b1 j hj)).symm
    refine ⟨-1 - nI q', h, x', tsLength p 0, zz, _, ?_, g2, PQ_J hJ _ L b q' v' 1 (RP_c e hR) (IS_c e hI)⟩
    show (if (-1 : Int32) - nI q' < 0 then _ else _) = _
    rw [if_pos (m1_neg q' (by omega))]
