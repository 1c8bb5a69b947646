/-! what an item's parts leave on both sides -/
theorem TX_q {B : Nat → Nat} {L : Nat} {z : TKS} {M c q : Nat} (h : TX B L z M c q) : q ≤ L := by
  rcases TX_i h with ⟨h1, -⟩ | ⟨h1, -⟩ <;> omega
def PQ (B : Nat → Nat) (L : Nat) (t : MS) (s : SS) (q : Nat) (v w : Int32) : MS := PF t s (nI q) (nI (enq B L q)) v w
def OUT (B : Nat → Nat) (L : Nat) (z : TKS) (M : Nat) (t : MS) (c : Nat) (r : Int32 × TKS × PS) (u : MS) : Prop := ∃ c' q' s' v, c ≤ c' ∧ TX B L z M c' q' ∧ r.2.1 = ksAt z (nI c') ∧ ((r.1 = 1 ∧ u = PQ B L t s' q' v 0 ∧ RP r.2.2 s' ∧ IS s') ∨ (r.1 = 0 ∧ u = PQ B L t s' q' v 1))
theorem OUT_m {B : Nat → Nat} {L : Nat} {z : TKS} {M : Nat} {t : MS} {c d : Nat} {r : Int32 × TKS × PS} {u : MS} (h : OUT B L z M t c r u) (hd : d ≤ c) : OUT B L z M t d r u := by
  obtain ⟨c', q', s', v, h1, h2⟩ := h
  exact ⟨c', q', s', v, by omega, h2⟩
/-- the number that stands here may be so much at most -/
def okN (B : Nat → Nat) (L q : Nat) (hi : Int32) : Prop := q < L ∧ srt (B q) = 2 ∧ nI (vcq B L q) ≤ hi
theorem vcq_le (B : Nat → Nat) (L q : Nat) : vcq B L q ≤ 10000 := vc_le B _ _ _ (by omega)
theorem rn_s (fu : Nat) {B : Nat → Nat} {L : Nat} {z : TKS} {M c q : Nat} (hC : CUT B L z M) (h : TX B L z M c q) (hi : Int32) {n f : Nat} (hn : n ≤ 8) (hf : f < n) (row : SS) : (okN B L q hi ∧ fX2_readNumber fu n (ksAt z (nI c)) row (nI f) hi = some (1, ksAt z (nI (c + 1)), upd row f (nI (vcq B L q))) ∧ TX B L z M (c + 1) (skp B L (enq B L q))) ∨ (¬ okN B L q hi ∧ fX2_readNumber fu n (ksAt z (nI c)) row (nI f) hi = some (0, ksAt z (nI c), row)) := by
  have hv := vcq_le B L q
  unfold fX2_readNumber
  rcases takeNumber_s fu hC h hi with ⟨a, b, d⟩ | ⟨a, b⟩
  · refine Or.inl ⟨a, ?_, d⟩
    rw [b, bnd_s]
    show (if (0 : Int32) ≤ nI (vcq B L q) then _ else _) = _
    rw [if_pos (nI_pos' (by omega)), in_nI hf (by omega), z_1, nI_clamp (by omega)]
  · refine Or.inr ⟨a, ?_⟩
    rw [b, bnd_s]
    show (if (0 : Int32) ≤ -1 then _ else _) = _
    rw [if_neg (by decide), z_0]
theorem num_s {fu : Nat} (hF : 5000 ≤ fu) {B : Nat → Nat} {L : Nat} {t : MS} (hT : TAP B L t) (s : SS) (v hi : Int32) {q : Nat} (hq : q ≤ L) {N : Nat} (hi9 : hi = nI N ∧ N ≤ 9999 ∨ hi = -1) : (okN B L q hi ∧ fX7_number fu (PQ B L t s q v 0) 0 hi = some (PQ B L t s (skp B L (enq B L q)) (nI (vcq B L q)) 0)) ∨ (¬ okN B L q hi ∧ ∃ v', fX7_number fu (PQ B L t s q v 0) 0 hi = some (PQ B L t s q v' 1)) := number_s hF hT s v hi hq hi9
theorem enq_le (B : Nat → Nat) {L q : Nat} (h : q ≤ L) : enq B L q ≤ L := by
  by_cases h1 : q < L
  · exact (enq_ge B h1).2
  · have : q = L := by omega
    subst this
    rw [enq_L]
    exact Nat.le_refl _
theorem mst_s {fu : Nat} (hF : 5000 ≤ fu) {B : Nat → Nat} {L : Nat} {t : MS} (hT : TAP B L t) (s : SS) (v : Int32) {q : Nat} (hq : q ≤ L) : fX7_must fu (PQ B L t s q v 0) 1 = some (PQ B L t s (skp B L (enq B L q)) v 0) := must_y hF hT s (nI q) v (enq_le B hq)
theorem PQ_S (B : Nat → Nat) (L : Nat) (t : MS) (s : SS) (q : Nat) (v w : Int32) : mgS (PQ B L t s q v w) = s := rfl
theorem PQ_v (B : Nat → Nat) (L : Nat) (t : MS) (s : SS) (q : Nat) (v w : Int32) : mgValue (PQ B L t s q v w) = v := rfl
theorem PQ_w (B : Nat → Nat) (L : Nat) (t : MS) (s : SS) (q : Nat) (v w : Int32) : mgIsWrong (PQ B L t s q v w) = w := rfl
theorem PQ_f (B : Nat → Nat) (L : Nat) (t : MS) (s : SS) (q : Nat) (v w : Int32) : mgFrom (PQ B L t s q v w) = nI q := rfl
theorem PQ_u (B : Nat → Nat) (L : Nat) (t : MS) (s : SS) (q : Nat) (v w : Int32) (k : Nat) (x : Int32) : muS (PQ B L t s q v w) k x = PQ B L t (upd s k x) q v w := rfl
theorem PQ_sS (B : Nat → Nat) (L : Nat) (t : MS) (s s' : SS) (q : Nat) (v w : Int32) : msS (PQ B L t s q v w) s' = PQ B L t s' q v w := rfl
theorem wrd_s {fu : Nat} (hF : 5000 ≤ fu) {B : Nat → Nat} {L : Nat} {t : MS} (hT : TAP B L t) (s : SS) (v w : Int32) {q : Nat} (hq : q ≤ L) : fX7_word fu (PQ B L t s q v w) = some (wdv B L q w) := word_s hF hT s v w hq
theorem muw (fu : Nat) (B : Nat → Nat) (L : Nat) (t : MS) (s : SS) (q : Nat) (v x : Int32) : fX7_must fu (PQ B L t s q v 1) x = some (PQ B L t s q v 1) := must_w fu t s _ _ v x
theorem mun (fu : Nat) (B : Nat → Nat) (L : Nat) (t : MS) (s : SS) (q : Nat) (v : Int32) : fX7_must fu (PQ B L t s q v 0) 0 = some (PQ B L t s q v 1) := must_n fu t s _ _ v
theorem nuw (fu : Nat) (B : Nat → Nat) (L : Nat) (t : MS) (s : SS) (q : Nat) (v lo hi : Int32) : fX7_number fu (PQ B L t s q v 1) lo hi = some (PQ B L t s q v 1) := number_w fu t s _ _ v lo hi
theorem inh_s (fu : Nat) {B : Nat → Nat} {L : Nat} {t : MS} (hT : TAP B L t) (s : SS) (v : Int32) {q : Nat} (hq : q ≤ L) : fX7_isNumberHere fu (PQ B L t s q v 0) = some (tb (q < L ∧ srt (B q) = 2)) := by
  have hL := hT.1
  unfold fX7_isNumberHere
  rw [PQ_w, if_pos rfl, PQ_f]
  unfold PQ
  rw [byteAt_s fu hT s _ _ v 0 (by omega), bnd_s, isDig_s fu hT, bnd_s, tb_if, z_0, z_1]
  unfold tb
  split <;> rfl
theorem inh_w (fu : Nat) (B : Nat → Nat) (L : Nat) (t : MS) (s : SS) (q : Nat) (v : Int32) : fX7_isNumberHere fu (PQ B L t s q v 1) = some 0 := by
  unfold fX7_isNumberHere
  rw [PQ_w, if_neg (by decide), z_0]
/-! one's step -/
theorem stp_w {fu : Nat} (hF : 5000 ≤ fu) {B : Nat → Nat} {L : Nat} {t : MS} (hT : TAP B L t) (s : SS) (v : Int32) {q : Nat} (hq : q ≤ L) (p : Int32) : fX7_personItem_b104 fu (PQ B L t s q v 1) p = some (PQ B L t s q v 1) := by
  unfold fX7_personItem_b104
  rw [wrd_s hF hT s v 1 hq, bnd_s, if_neg (wdv_0 (w := 10) (by decide) C_step)]
theorem stp_s {fu : Nat} (hF : 5000 ≤ fu) {B : Nat → Nat} {L : Nat} {z : TKS} {M c q : Nat} (hC : CUT B L z M) (hX : TX B L z M c q) {t : MS} (hT : TAP B L t) {x : PS} {s : SS} (hR : RP x s) (hI : IS s) {p : Nat} (hp : vv s 0 = p + 1) (v : Int32) : ∃ r u, fX2_readPerson_b42 fu (ksAt z (nI c)) x (nI p) = some r ∧ fX7_personItem_b104 fu (PQ B L t s q v 0) (nI p) = some u ∧ OUT B L z M t c r u := by
  have h8 := hI.1.2
  have hq := TX_q hX
  unfold fX2_readPerson_b42 fX7_personItem_b104
  rw [wrd_s hF hT s v 0 hq, bnd_s]
  rcases takesWord_s hF hC (w := 10) (by decide) hX with ⟨a1, a2, a3⟩ | ⟨a1, a2⟩
  · have hq1 := TX_q a3
    rw [a2, bnd_s, if_pos ((wdv_c (w := 10) (by decide) C_step).mpr a1), mst_s hF hT s v hq, bnd_s, spt2 fu (by omega)]
    have e0 : pgPeople x - 1 = nI p := by rw [hR.1, hI.1.1, hp]; exact nI_pred p
    rw [e0]
    show ∃ r u, (if (1 : Int32) = 0 then _ else _) = _ ∧ _
    rw [if_neg (by decide)]
    rcases rn_s fu hC a3 (nI p) (n := 8) (f := p) (by omega) (by omega) (pgSteps x) with ⟨b1, b2, b3⟩ | ⟨b1, b2⟩
    · rcases num_s hF hT s v (nI p) hq1 (N := p) (Or.inl ⟨rfl, by omega⟩) with ⟨c1, c2⟩ | ⟨c1, c2⟩
      · have hv : vcq B L (skp B L (enq B L q)) ≤ p := (nI_leI (by have := vcq_le B L (skp B L (enq B L q)); omega) (by omega)).mp b1.2.2
        rw [b2, bnd_s, c2, bnd_s, bnd_s, PQ_w, if_pos rfl, PQ_v]
        unfold fX7_personItem_b150
        rw [in53 (by omega), nI_clamp (by omega), PQ_u]
        show ∃ r u, (if (1 : Int32) = 0 then _ else _) = _ ∧ _
        rw [if_neg (by decide), z_1]
        exact ⟨_, _, rfl, rfl, c + 1 + 1, _, _, _, by omega, b3, rfl, Or.inl ⟨rfl, rfl, RP_uSteps hR (by omega) _, IS_step hI (by omega)⟩⟩
      · exact absurd b1 c1
    · rcases num_s hF hT s v (nI p) hq1 (N := p) (Or.inl ⟨rfl, by omega⟩) with ⟨c1, c2⟩ | ⟨c1, v', c2⟩
      · exact absurd c1 b1
      · rw [b2, bnd_s, c2, bnd_s, bnd_s, PQ_w, if_neg (show ¬ (1 : Int32) = 0 by decide)]
        unfold fX7_personItem_b150
        rw [in53 (by omega), nI_clamp (by omega), PQ_u]
        show ∃ r u, (if (0 : Int32) = 0 then _ else _) = _ ∧ _
        rw [if_pos rfl, z_0]
        exact ⟨_, _, rfl, rfl, c + 1, _, _, _, by omega, a3, rfl, Or.inr ⟨rfl, rfl⟩⟩
  · rw [a2, bnd_s, if_neg (fun w => a1 ((wdv_c (w := 10) (by decide) C_step).mp w))]
    show ∃ r u, (if (0 : Int32) = 0 then _ else _) = _ ∧ _
    rw [if_pos rfl, z_1]
    exact ⟨_, _, rfl, rfl, c, _, _, _, by omega, hX, rfl, Or.inl ⟨rfl, rfl, hR, hI⟩⟩
/-! one's deeds -/
theorem dd_l {fu : Nat} (hF : 5000 ≤ fu) {B : Nat → Nat} {L : Nat} {z : TKS} {M : Nat} (hC : CUT B L z M) {t : MS} (hT : TAP B L t) {p : Nat} (hp : p < 8) : ∀ (n i fuel fuel' : Nat) (c q : Nat) (x : PS) (s : SS) (v : Int32), i + n = 3 → n < fuel → n < fuel' → TX B L z M c q → RP x s → IS s → p < vv s 0 → ∃ c' q' x' s' v' b, c ≤ c' ∧ TX B L z M c' q' ∧ vv s' 0 = vv s 0 ∧ ((b = 1 ∧ RP x' s' ∧ IS s' ∧ g_lp (fun _ _ => none) (fX7_personItem_b52B fu (nI p)) fuel' (PQ B L t s q v 0) (nI i) = fX7_personItem_b104 fu (PQ B L t s' q' v' 0) (nI p)) ∨ (b = 0 ∧ g_lp (fun _ _ => none) (fX7_personItem_b52B fu (nI p)) fuel' (PQ B L t s q v 0) (nI i) = fX7_personItem_b104 fu (PQ B L t s' q' v' 1) (nI p))) ∧ fX2_readDeeds_b24 fu (g_lp (fun _ _ _ => none) (fX2_readDeeds_b2B fu (nI p)) fuel) (nI p) (ksAt z (nI c)) x (nI i) = some (b, ksAt z (nI c'), x') := by
  intro n
  induction n with
  | zero =>
    intro i fuel fuel' c q x s v hi hf hf' hX hR hI hps
    obtain ⟨j, rfl⟩ : ∃ j, fuel = j + 1 := ⟨fuel - 1, by omega⟩
    obtain ⟨j', rfl⟩ : ∃ j, fuel' = j + 1 := ⟨fuel' - 1, by omega⟩
    have hq := TX_q hX
    have hi3 : i = 3 := by omega
    subst hi3
    obtain ⟨d1, d2, d3, d4⟩ := hI.2.2.2.2.2.2 p hps
    obtain ⟨q1, q2, q3, q4⟩ := hR.2.2.2.2 p hp
    have hd2 := d2.2
    rcases takeNumber_s fu hC hX 7 with ⟨a1, a2, a3⟩ | ⟨a1, a2⟩
    · rcases num_s hF hT s v 7 hq (N := 7) (Or.inl ⟨rfl, by omega⟩) with ⟨c1, c2⟩ | ⟨c1, c2⟩
      · have hv : vcq B L q ≤ 7 := (nI_leI (b := 7) (by have := vcq_le B L q; omega) (by omega)).mp a1.2.2
        obtain ⟨o1, o2⟩ := or_d (vv s (21 + 4 * p + 1)) (by omega) (vcq B L q) (by omega)
        refine ⟨c + 1, _, _, _, nI (vcq B L q), 1, by omega, a3, ?_, Or.inl ⟨rfl, RP_uDeeds hR hp (nI (vv s (21 + 4 * p + 1) ||| 2 ^ vcq B L q)), IS_deeds hI o2, ?_⟩, ?_⟩
        · exact vv_un _ _ (by omega)
        · rw [g_lp_s]
          unfold fX7_personItem_b52B fX7_personItem_b87
          rw [c2, bnd_s, spt1 fu hp, bnd_s, PQ_S, ald53 (by omega), PQ_w, if_pos rfl, PQ_v, in53 (by omega), nm_s, if_pos (by decide), nI_clamp (by omega), PQ_u, d2.1, o1]
        · unfold fX2_readDeeds_b24
          rw [a2, bnd_s]
          show (if (0 : Int32) ≤ nI (vcq B L q) then _ else _) = _
          rw [if_pos (nI_pos' (by omega)), ald8 hp, in8 hp, nm_s, nI_clamp (by omega), q2, d2.1, o1, g_lp_s]
          unfold fX2_readDeeds_b2B
          rw [if_pos (by decide), z_1]
      · exact absurd a1 c1
    · rcases num_s hF hT s v 7 hq (N := 7) (Or.inl ⟨rfl, by omega⟩) with ⟨c1, c2⟩ | ⟨c1, v', c2⟩
      · exact absurd c1 a1
      · refine ⟨c, q, x, upd s (21 + 4 * p + 1) (s (21 + 4 * p + 1) ||| 0), v', 0, by omega, hX, vv_un _ _ (by omega), Or.inr ⟨rfl, ?_⟩, ?_⟩
        · rw [g_lp_s]
          unfold fX7_personItem_b52B fX7_personItem_b87
          rw [c2, bnd_s, spt1 fu hp, bnd_s, PQ_S, ald53 (by omega), PQ_w, if_neg (by decide), in53 (by omega), nm_s, if_pos (by decide), nI_clamp (by omega), PQ_u]
        · unfold fX2_readDeeds_b24
          rw [a2, bnd_s]
          show (if (0 : Int32) ≤ -1 then _ else _) = _
          rw [if_neg (by decide), z_0]
  | succ n ih =>
    intro i fuel fuel' c q x s v hi hf hf' hX hR hI hps
    obtain ⟨j, rfl⟩ : ∃ j, fuel = j + 1 := ⟨fuel - 1, by omega⟩
    obtain ⟨j', rfl⟩ : ∃ j, fuel' = j + 1 := ⟨fuel' - 1, by omega⟩
    have hq := TX_q hX
    obtain ⟨d1, d2, d3, d4⟩ := hI.2.2.2.2.2.2 p hps
    obtain ⟨q1, q2, q3, q4⟩ := hR.2.2.2.2 p hp
    have hd2 := d2.2
    rcases takeNumber_s fu hC hX 7 with ⟨a1, a2, a3⟩ | ⟨a1, a2⟩
    · rcases num_s hF hT s v 7 hq (N := 7) (Or.inl ⟨rfl, by omega⟩) with ⟨c1, c2⟩ | ⟨c1, c2⟩
      · have hv : vcq B L q ≤ 7 := (nI_leI (b := 7) (by have := vcq_le B L q; omega) (by omega)).mp a1.2.2
        obtain ⟨o1, o2⟩ := or_d (vv s (21 + 4 * p + 1)) (by omega) (vcq B L q) (by omega)
        have hq1 := TX_q a3
        have r1 := RP_uDeeds hR hp (nI (vv s (21 + 4 * p + 1) ||| 2 ^ vcq B L q))
        have r2 : IS (upd s (21 + 4 * p + 1) (nI (vv s (21 + 4 * p + 1) ||| 2 ^ vcq B L q))) := IS_deeds hI o2
        have r3 : vv (upd s (21 + 4 * p + 1) (nI (vv s (21 + 4 * p + 1) ||| 2 ^ vcq B L q))) 0 = vv s 0 := vv_un _ _ (by omega)
        have s7 : ∀ K, fX7_personItem_b52B fu (nI p) K (PQ B L t s q v 0) (nI i) = if skp B L (enq B L q) < L ∧ srt (B (skp B L (enq B L q))) = 2 then K (PQ B L t (upd s (21 + 4 * p + 1) (nI (vv s (21 + 4 * p + 1) ||| 2 ^ vcq B L q))) (skp B L (enq B L q)) (nI (vcq B L q)) 0) (nI (i + 1)) else fX7_personItem_b104 fu (PQ B L t (upd s (21 + 4 * p + 1) (nI (vv s (21 + 4 * p + 1) ||| 2 ^ vcq B L q))) (skp B L (enq B L q)) (nI (vcq B L q)) 0) (nI p) := by
          intro K
          unfold fX7_personItem_b52B fX7_personItem_b87
          rw [c2, bnd_s, spt1 fu hp, bnd_s, PQ_S, ald53 (by omega), PQ_w, if_pos rfl, PQ_v, in53 (by omega), nm_s, nI_1, if_neg (show ¬ (4 : Int32) ≤ nI (i + 1) from nI_ge (b := 4) (by omega) (by decide)), nI_clamp (by omega), PQ_u, d2.1, o1, inh_s fu hT _ _ hq1, bnd_s, tb_if]
        have s6 : fX2_readDeeds_b24 fu (g_lp (fun _ _ _ => none) (fX2_readDeeds_b2B fu (nI p)) (j + 1)) (nI p) (ksAt z (nI c)) x (nI i) = if skp B L (enq B L q) < L ∧ srt (B (skp B L (enq B L q))) = 2 then fX2_readDeeds_b24 fu (g_lp (fun _ _ _ => none) (fX2_readDeeds_b2B fu (nI p)) j) (nI p) (ksAt z (nI (c + 1))) (puDeeds x p (nI (vv s (21 + 4 * p + 1) ||| 2 ^ vcq B L q))) (nI (i + 1)) else some (1, ksAt z (nI (c + 1)), puDeeds x p (nI (vv s (21 + 4 * p + 1) ||| 2 ^ vcq B L q))) := by
          have st : ∀ (K : TKS → PS → Int32 → Option (Int32 × TKS × PS)), fX2_readDeeds_b24 fu K (nI p) (ksAt z (nI c)) x (nI i) = K (ksAt z (nI (c + 1))) (puDeeds x p (nI (vv s (21 + 4 * p + 1) ||| 2 ^ vcq B L q))) (nI (i + 1)) := by
            intro K
            unfold fX2_readDeeds_b24
            rw [a2, bnd_s]
            show (if (0 : Int32) ≤ nI (vcq B L q) then _ else _) = _
            rw [if_pos (nI_pos' (by omega)), ald8 hp, in8 hp, nm_s, nI_1, nI_clamp (by omega), q2, d2.1, o1]
          rw [st, g_lp_s]
          generalize g_lp (fun _ _ _ => none) (fX2_readDeeds_b2B fu (nI p)) j = K
          unfold fX2_readDeeds_b2B
          have ia : fX5_isAt fu (ksAt z (nI (c + 1))) (2 : Int32) = some (tb (skp B L (enq B L q) < L ∧ srt (B (skp B L (enq B L q))) = 2)) := isAt_s fu hC a3 (s := 2) (by omega)
          rw [if_neg (show ¬ (4 : Int32) ≤ nI (i + 1) from nI_ge (b := 4) (by omega) (by decide)), if_neg (nI_nle (by omega) (by omega)), ia, bnd_s, tb_if, z_1]
        rw [s6]
        by_cases hh : skp B L (enq B L q) < L ∧ srt (B (skp B L (enq B L q))) = 2
        · rw [if_pos hh]
          obtain ⟨c', q', x', s', v', b, e1, e2, e3, e4, e5⟩ := ih (i + 1) j j' (c + 1) (skp B L (enq B L q)) _ _ (nI (vcq B L q)) (by omega) (by omega) (by omega) a3 r1 r2 (by omega)
          refine ⟨c', q', x', s', v', b, by omega, e2, by omega, ?_, e5⟩
          rw [g_lp_s, s7, if_pos hh]
          exact e4
        · rw [if_neg hh]
          refine ⟨c + 1, _, _, _, nI (vcq B L q), 1, by omega, a3, r3, Or.inl ⟨rfl, r1, r2, ?_⟩, rfl⟩
          rw [g_lp_s, s7, if_neg hh]
      · exact absurd a1 c1
    · rcases num_s hF hT s v 7 hq (N := 7) (Or.inl ⟨rfl, by omega⟩) with ⟨c1, c2⟩ | ⟨c1, v', c2⟩
      · exact absurd c1 a1
      · refine ⟨c, q, x, upd s (21 + 4 * p + 1) (s (21 + 4 * p + 1) ||| 0), v', 0, by omega, hX, vv_un _ _ (by omega), Or.inr ⟨rfl, ?_⟩, ?_⟩
        · rw [g_lp_s]
          unfold fX7_personItem_b52B fX7_personItem_b87
          rw [c2, bnd_s, spt1 fu hp, bnd_s, PQ_S, ald53 (by omega), PQ_w, if_neg (by decide), in53 (by omega), nm_s, nI_1, if_neg (show ¬ (4 : Int32) ≤ nI (i + 1) from nI_ge (b := 4) (by omega) (by decide)), nI_clamp (by omega), PQ_u, inh_w, bnd_s, if_pos rfl]
        · unfold fX2_readDeeds_b24
          rw [a2, bnd_s]
          show (if (0 : Int32) ≤ -1 then _ else _) = _
          rw [if_neg (by decide), z_0]
/-! a person -/
theorem addFull (fu : Nat) {x : PS} {s : SS} (h : RP x s) (hI : IS s) (h8 : ¬ vv s 0 < 8) (k : Int32) : fX1_addPerson fu x k = some (-1, x) := by
  have h9 := hI.1.2
  have e8 : vv s 0 = 8 := by omega
  unfold fX1_addPerson
  rw [h.1, hI.1.1, e8, if_neg (by decide)]
theorem per_s {fu : Nat} (hF : 5000 ≤ fu) {B : Nat → Nat} {L : Nat} {z : TKS} {M c q : Nat} (hC : CUT B L z M) (hX : TX B L z M c q) (hqL : q < L) {t : MS} (hT : TAP B L t) {x : PS} {s : SS} (hR : RP x s) (hI : IS s) {k : Nat} (hk : k ≤ 5) (v : Int32) : ∃ r u, fX2_readPerson fu (ksAt z (nI c)) x (nI k) = some r ∧ fX7_personItem fu (PQ B L t s q v 0) (nI k) = some u ∧ ((r.1 = 1 → OUT B L z M t (c + 1) r u) ∧ OUT B L z M t c r u) := by
  have h8 := hI.1.2
  have hq := TX_q hX
  unfold fX2_readPerson fX7_personItem fX7_personItem_b17
  rw [PQ_S, a53_0, hI.1.1]
  by_cases hn : vv s 0 < 8
  · obtain ⟨x', e1, e2⟩ := addPerson_s fu hR hI hn k
    obtain ⟨i1, i2⟩ := IS_add hI hn hk
    obtain ⟨g1, g2⟩ := goOn_s fu hC.2.1 hX hqL
    have hq1 := TX_q g2
    have ad := adds_s fu (PQ B L t s (skp B L (enq B L q)) v 0) hI hn k
    rw [PQ_S, PQ_sS] at ad
    rw [if_neg (show ¬ (8 : Int32) ≤ nI (vv s 0) from nI_ge (b := 8) hn (by decide)), e1, bnd_s, mst_s hF hT s v hq, bnd_s, PQ_w, if_pos rfl, ad, bnd_s]
    show ∃ r u, (if (0 : Int32) ≤ nI (vv s 0) then _ else _) = _ ∧ g_bnd (fX7_word fu (PQ B L t (addN s k) (skp B L (enq B L q)) v 0)) _ = _ ∧ _
    rw [if_pos (nI_pos' (by omega)), g1, bnd_s, wrd_s hF hT _ v 0 hq1, bnd_s]
    rcases takesWord_s hF hC (w := 9) (by decide) g2 with ⟨a1, a2, a3⟩ | ⟨a1, a2⟩
    · have hq2 := TX_q a3
      rw [a2, bnd_s, if_pos ((wdv_c (w := 9) (by decide) C_did).mpr a1)]
      show ∃ r u, (if (1 : Int32) = 0 then _ else _) = _ ∧ g_bnd (fX7_must fu (PQ B L t (addN s k) (skp B L (enq B L q)) v 0) 1) _ = _ ∧ _
      rw [if_neg (by decide), mst_s hF hT _ v hq1, bnd_s]
      obtain ⟨fu1, rfl⟩ : ∃ f, fu = f + 1 := ⟨fu - 1, by omega⟩
      obtain ⟨c', q', x2, s2, v2, b, d1, d2, d3, d4, d5⟩ := dd_l hF hC hT (p := vv s 0) hn 3 0 fu1 (fu1 + 1) (c + 1 + 1) _ x' (addN s k) v (by omega) (by omega) (by omega) a3 e2 i1 (by omega)
      have f1 : fX2_readDeeds (fu1 + 1) (ksAt z (nI (c + 1 + 1))) x' (nI (vv s 0)) = some (b, ksAt z (nI c'), x2) := by
        rw [← d5]
        show g_lp (fun _ _ _ => none) (fX2_readDeeds_b2B (fu1 + 1) (nI (vv s 0))) (fu1 + 1) (ksAt z (nI (c + 1 + 1))) x' 0 = _
        rw [g_lp_s]
        generalize g_lp (fun _ _ _ => none) (fX2_readDeeds_b2B (fu1 + 1) (nI (vv s 0))) fu1 = K
        unfold fX2_readDeeds_b2B
        rw [if_neg (by decide), if_pos (by decide)]
        rfl
      have hq' := TX_q d2
      rw [f1, bnd_s]
      rcases d4 with ⟨rfl, r1, r2, r3⟩ | ⟨rfl, r3⟩
      · have f2 : fX7_personItem_b52 (fu1 + 1) (nI (vv s 0)) (PQ B L t (addN s k) (skp B L (enq B L (skp B L (enq B L q)))) v 0) 0 = _ := r3
        obtain ⟨r, u, w1, w2, w3⟩ := stp_s hF hC d2 hT r1 r2 (p := vv s 0) (by omega) v2
        refine ⟨r, u, ?_, ?_, fun _ => OUT_m w3 (by omega), OUT_m w3 (by omega)⟩
        · show (if (1 : Int32) = 0 then _ else _) = _
          rw [if_neg (by decide)]; exact w1
        · show fX7_personItem_b52 (fu1 + 1) (nI (vv s 0)) (PQ B L t (addN s k) (skp B L (enq B L (skp B L (enq B L q)))) v 0) 0 = _
          rw [f2]; exact w2
      · have f2 : fX7_personItem_b52 (fu1 + 1) (nI (vv s 0)) (PQ B L t (addN s k) (skp B L (enq B L (skp B L (enq B L q)))) v 0) 0 = _ := r3
        rw [stp_w hF hT s2 v2 hq'] at f2
        refine ⟨(0, ksAt z (nI c'), x2), PQ B L t s2 q' v2 1, ?_, f2, fun w => absurd w (by decide : ¬ (0 : Int32) = 1), ⟨c', q', s2, v2, by omega, d2, rfl, Or.inr ⟨rfl, rfl⟩⟩⟩
        show (if (0 : Int32) = 0 then _ else _) = _
        rw [if_pos rfl, z_0]
    · rw [a2, bnd_s, if_neg (fun w => a1 ((wdv_c (w := 9) (by decide) C_did).mp w))]
      obtain ⟨r, u, w1, w2, w3⟩ := stp_s hF hC g2 hT e2 i1 (p := vv s 0) i2 v
      refine ⟨r, u, ?_, w2, fun _ => w3, OUT_m w3 (by omega)⟩
      show (if (0 : Int32) = 0 then _ else _) = _
      rw [if_pos rfl]; exact w1
  · rw [if_pos (show (8 : Int32) ≤ nI (vv s 0) from nI_le (a := 8) (by omega) (by omega)), addFull fu hR hI hn, bnd_s, mun, bnd_s, PQ_w, if_neg (show ¬ (1 : Int32) = 0 by decide)]
    refine ⟨(0, ksAt z (nI c), x), PQ B L t s q v 1, ?_, rfl, fun w => absurd w (by decide : ¬ (0 : Int32) = 1), ⟨c, q, s, v, by omega, hX, rfl, Or.inr ⟨rfl, rfl⟩⟩⟩
    show (if (0 : Int32) ≤ -1 then _ else _) = _
    rw [if_neg (by decide), z_0]
