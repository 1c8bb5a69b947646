/-! a farm's parts -/
theorem pt_w {fu : Nat} (hF : 5000 ≤ fu) {B : Nat → Nat} {L : Nat} {t : MS} (hT : TAP B L t) (s : SS) (v : Int32) {q : Nat} (hq : q ≤ L) {w : Nat} (hw : w < 14) {C : Int64} (hC : C = lN (cd w (wl w))) (i hi : Int32) : fX7_partItem fu (PQ B L t s q v 1) C i hi = some (PQ B L t s q v 1) := by
  unfold fX7_partItem
  rw [wrd_s hF hT s v 1 hq, bnd_s, if_neg (wdv_0 hw hC)]
/-- a part that isn't told, one that is, one that is wrong -/
theorem pt_s {fu : Nat} (hF : 5000 ≤ fu) {B : Nat → Nat} {L : Nat} {z : TKS} {M c q : Nat} (hC : CUT B L z M) (hX : TX B L z M c q) {t : MS} (hT : TAP B L t) (s : SS) (v : Int32) {w : Nat} (hw : w < 14) {C : Int64} (hCw : C = lN (cd w (wl w))) {i : Nat} (hi : i < 53) {hh : Int32} {N : Nat} (hi9 : hh = nI N ∧ N ≤ 9999 ∨ hh = -1) {n f : Nat} (hn : n ≤ 8) (hf : f < n) (row : SS) : (fX5_takesWord fu w (ksAt z (nI c)) = some (0, ksAt z (nI c)) ∧ fX7_partItem fu (PQ B L t s q v 0) C (nI i) hh = some (PQ B L t s q v 0)) ∨ (fX5_takesWord fu w (ksAt z (nI c)) = some (1, ksAt z (nI (c + 1))) ∧ ((∃ y q' v', nI y ≤ hh ∧ y ≤ 10000 ∧ fX2_readNumber fu n (ksAt z (nI (c + 1))) row (nI f) hh = some (1, ksAt z (nI (c + 1 + 1)), upd row f (nI y)) ∧ fX7_partItem fu (PQ B L t s q v 0) C (nI i) hh = some (PQ B L t (upd s i (nI y)) q' v' 0) ∧ TX B L z M (c + 1 + 1) q') ∨ (∃ q' v', fX2_readNumber fu n (ksAt z (nI (c + 1))) row (nI f) hh = some (0, ksAt z (nI (c + 1)), row) ∧ fX7_partItem fu (PQ B L t s q v 0) C (nI i) hh = some (PQ B L t s q' v' 1) ∧ TX B L z M (c + 1) q'))) := by
  have hq := TX_q hX
  unfold fX7_partItem
  rw [wrd_s hF hT s v 0 hq, bnd_s]
  rcases takesWord_s hF hC hw hX with ⟨a1, a2, a3⟩ | ⟨a1, a2⟩
  · have hq1 := TX_q a3
    refine Or.inr ⟨a2, ?_⟩
    rw [if_pos ((wdv_c hw hCw).mpr a1), mst_s hF hT s v hq, bnd_s]
    rcases rn_s fu hC a3 hh hn hf row with ⟨b1, b2, b3⟩ | ⟨b1, b2⟩
    · rcases num_s hF hT s v hh hq1 hi9 with ⟨c1, c2⟩ | ⟨c1, c2⟩
      · refine Or.inl ⟨_, _, nI (vcq B L (skp B L (enq B L q))), b1.2.2, vcq_le _ _ _, b2, ?_, b3⟩
        unfold fX7_partItem_b46
        rw [c2, bnd_s, PQ_w, if_pos rfl, PQ_v, in53 hi, nI_clamp (by omega), PQ_u]
      · exact absurd b1 c1
    · rcases num_s hF hT s v hh hq1 hi9 with ⟨c1, c2⟩ | ⟨c1, v', c2⟩
      · exact absurd c1 b1
      · refine Or.inr ⟨_, v', b2, ?_, a3⟩
        unfold fX7_partItem_b46
        rw [c2, bnd_s, PQ_w, if_neg (show ¬ (1 : Int32) = 0 by decide), PQ_S, ald53 hi, in53 hi, nI_clamp (by omega), PQ_u, upd_id _ _ rfl]
  · refine Or.inl ⟨a2, ?_⟩
    rw [if_neg (fun w => a1 ((wdv_c hw hCw).mp w))]
theorem le_i {y N : Nat} (hN : N < 2 ^ 31) (hy : y ≤ 10000) (h : nI y ≤ nI N) : y ≤ N := (nI_leI (by omega) hN).mp h
theorem s0_hi {s : SS} (hI : IS s) : s 0 - 1 = nI (vv s 0 - 1) ∧ vv s 0 - 1 ≤ 9999 ∨ s 0 - 1 = -1 := by
  have h8 := hI.1.2
  rw [hI.1.1]
  by_cases h : vv s 0 = 0
  · rw [h]; exact Or.inr (by decide)
  · exact Or.inl ⟨pk_sub (a := vv s 0) (b := 1) (by omega), by omega⟩
theorem y_sends {s : SS} (hI : IS s) {y : Nat} (hy : y ≤ 10000) (h : nI y ≤ s 0 - 1) : y < vv s 0 := by
  have h8 := hI.1.2
  rw [hI.1.1] at h
  exact (nI_ltI (by omega) (by omega)).mp ((le_pred (by omega)).mp h)
theorem fmS3 {fu : Nat} (hF : 5000 ≤ fu) {B : Nat → Nat} {L : Nat} {z : TKS} {M c q : Nat} (hC : CUT B L z M) (hX : TX B L z M c q) {t : MS} (hT : TAP B L t) {x : PS} {s : SS} (hR : RP x s) (hI : IS s) {f : Nat} (hf : f < 4) (v : Int32) : ∃ r u, fX2_readFarm_b72 fu (ksAt z (nI c)) x (nI f) = some r ∧ fX7_partItem fu (PQ B L t s q v 0) 20101267 (nI (5 + 4 * f + 3)) (s 0 - 1) = some u ∧ OUT B L z M t c r u := by
  unfold fX2_readFarm_b72
  rw [hR.1]
  rcases pt_s hF hC hX hT s v (w := 13) (by decide) C_sends (i := 5 + 4 * f + 3) (by omega) (s0_hi hI) (n := 4) (f := f) (by omega) hf (pgSends x) with ⟨a1, a2⟩ | ⟨a1, ⟨y, q', v', b1, b2, b3, b4, b5⟩ | ⟨q', v', b3, b4, b5⟩⟩
  · rw [a1, bnd_s]
    refine ⟨(1, ksAt z (nI c), x), _, ?_, a2, c, q, s, v, by omega, hX, rfl, Or.inl ⟨rfl, rfl, hR, hI⟩⟩
    show (if (0 : Int32) = 0 then _ else _) = _
    rw [if_pos rfl, z_1]
  · rw [a1, bnd_s]
    refine ⟨(1, ksAt z (nI (c + 1 + 1)), puSends x f (nI y)), _, ?_, b4, c + 1 + 1, q', _, v', by omega, b5, rfl, Or.inl ⟨rfl, rfl, RP_uSends hR hf _, IS_sends hI hf (Or.inr ⟨y, y_sends hI b2 b1, rfl⟩)⟩⟩
    show (if (1 : Int32) = 0 then _ else _) = _
    rw [if_neg (by decide), b3, bnd_s]
    show (if (1 : Int32) = 0 then _ else _) = _
    rw [if_neg (by decide), z_1]
    rfl
  · rw [a1, bnd_s]
    refine ⟨(0, ksAt z (nI (c + 1)), x), _, ?_, b4, c + 1, q', s, v', by omega, b5, rfl, Or.inr ⟨rfl, rfl⟩⟩
    show (if (1 : Int32) = 0 then _ else _) = _
    rw [if_neg (by decide), b3, bnd_s]
    show (if (0 : Int32) = 0 then _ else _) = _
    rw [if_pos rfl, z_0]
    rfl
/-- what the reference does of a farm behind its number: the second part on -/
def fmB (fu : Nat) (u : MS) (f : Int32) : Option MS := g_bnd (fX7_field fu f (1 : Int32)) (fun u47 => g_bnd (fX7_partItem fu u (8243 : Int64) u47 (9999 : Int32)) (fun u53 => g_bnd (fX7_field fu f (3 : Int32)) (fun u62 => g_ald (mgS u53) 53 (0 : Int32) (fun v70 => g_bnd (fX7_partItem fu u53 (20101267 : Int64) u62 (v70 - (1 : Int32))) (fun u73 => some u73)))))
theorem fmB_w {fu : Nat} (hF : 5000 ≤ fu) {B : Nat → Nat} {L : Nat} {t : MS} (hT : TAP B L t) (s : SS) (v : Int32) {q : Nat} (hq : q ≤ L) {f : Nat} (hf : f < 4) : fmB fu (PQ B L t s q v 1) (nI f) = some (PQ B L t s q v 1) := by
  unfold fmB
  rw [fld1 fu hf, bnd_s, pt_w hF hT s v hq (w := 12) (by decide) C_has, bnd_s, fld3 fu hf, bnd_s, a53_0, pt_w hF hT s v hq (w := 13) (by decide) C_sends, bnd_s]
theorem fmS2 {fu : Nat} (hF : 5000 ≤ fu) {B : Nat → Nat} {L : Nat} {z : TKS} {M c q : Nat} (hC : CUT B L z M) (hX : TX B L z M c q) {t : MS} (hT : TAP B L t) {x : PS} {s : SS} (hR : RP x s) (hI : IS s) {f : Nat} (hf : f < 4) (v : Int32) : ∃ r u, fX2_readFarm_b43 fu (ksAt z (nI c)) x (nI f) = some r ∧ fmB fu (PQ B L t s q v 0) (nI f) = some u ∧ OUT B L z M t c r u := by
  unfold fX2_readFarm_b43 fmB
  rw [fld1 fu hf, bnd_s, fld3 fu hf]
  rcases pt_s hF hC hX hT s v (w := 12) (by decide) C_has (i := 5 + 4 * f + 1) (by omega) (hh := 9999) (N := 9999) (Or.inl ⟨rfl, by omega⟩) (n := 4) (f := f) (by omega) hf (pgStore x) with ⟨a1, a2⟩ | ⟨a1, ⟨y, q', v', b1, b2, b3, b4, b5⟩ | ⟨q', v', b3, b4, b5⟩⟩
  · obtain ⟨r, u, w1, w2, w3⟩ := fmS3 hF hC hX hT hR hI hf v
    refine ⟨r, u, ?_, ?_, w3⟩
    · rw [a1, bnd_s]
      show (if (0 : Int32) = 0 then _ else _) = _
      rw [if_pos rfl]; exact w1
    · rw [a2, bnd_s, bnd_s, PQ_S, a53_0, w2, bnd_s]
  · have hy : y ≤ 9999 := le_i (by omega) b2 b1
    obtain ⟨r, u, w1, w2, w3⟩ := fmS3 hF hC b5 hT (RP_uStore hR hf (nI y)) (IS_store hI hf hy) hf v'
    have e0 : upd s (5 + 4 * f + 1) (nI y) 0 = s 0 := pk_un (by omega)
    rw [e0] at w2
    refine ⟨r, u, ?_, ?_, OUT_m w3 (by omega)⟩
    · rw [a1, bnd_s]
      show (if (1 : Int32) = 0 then _ else _) = _
      rw [if_neg (by decide), b3, bnd_s]
      show (if (1 : Int32) = 0 then _ else _) = _
      rw [if_neg (by decide)]; exact w1
    · rw [b4, bnd_s, bnd_s, PQ_S, a53_0, e0, w2, bnd_s]
  · refine ⟨(0, ksAt z (nI (c + 1)), x), PQ B L t s q' v' 1, ?_, ?_, c + 1, q', s, v', by omega, b5, rfl, Or.inr ⟨rfl, rfl⟩⟩
    · rw [a1, bnd_s]
      show (if (1 : Int32) = 0 then _ else _) = _
      rw [if_neg (by decide), b3, bnd_s]
      show (if (0 : Int32) = 0 then _ else _) = _
      rw [if_pos rfl, z_0]
      rfl
    · rw [b4, bnd_s, bnd_s, PQ_S, a53_0, pt_w hF hT s v' (TX_q b5) (w := 13) (by decide) C_sends, bnd_s]
theorem fm_e (fu : Nat) (u : MS) (f : Int32) : fX7_farmItem_b26 fu u f = g_bnd (fX7_field fu f (0 : Int32)) (fun u33 => g_bnd (fX7_partItem fu u (464036 : Int64) u33 (20 : Int32)) (fun u38 => fmB fu u38 f)) := rfl
theorem fmS1 {fu : Nat} (hF : 5000 ≤ fu) {B : Nat → Nat} {L : Nat} {z : TKS} {M c q : Nat} (hC : CUT B L z M) (hX : TX B L z M c q) {t : MS} (hT : TAP B L t) {x : PS} {s : SS} (hR : RP x s) (hI : IS s) (v : Int32) : ∃ r u, fX2_readFarm fu (ksAt z (nI c)) x = some r ∧ (g_bnd (fX7_number fu (PQ B L t s q v 0) (0 : Int32) (3 : Int32)) (fun u8 => if (mgIsWrong u8) = (0 : Int32) then (fX7_farmItem_b26 fu u8 (mgValue u8)) else (fX7_farmItem_b26 fu u8 (0 : Int32)))) = some u ∧ OUT B L z M t c r u := by
  have hq := TX_q hX
  unfold fX2_readFarm
  rcases takeNumber_s fu hC hX 3 with ⟨a1, a2, a3⟩ | ⟨a1, a2⟩
  · rcases num_s hF hT s v 3 hq (N := 3) (Or.inl ⟨rfl, by omega⟩) with ⟨c1, c2⟩ | ⟨c1, c2⟩
    · have hv := vcq_le B L q
      have hf : vcq B L q < 4 := by have := le_i (N := 3) (by omega) hv a1.2.2; omega
      generalize vcq B L q = f at a2 c2 hf hv
      rw [a2, bnd_s, c2, bnd_s, PQ_w, if_pos (show (0 : Int32) = 0 from rfl), PQ_v, fm_e, fld0 fu hf, bnd_s]
      show ∃ r u, (if (0 : Int32) ≤ nI f then _ else _) = _ ∧ _
      rw [if_pos (nI_pos' (by omega))]
      rcases pt_s hF hC a3 hT s (nI f) (w := 11) (by decide) C_need (i := 5 + 4 * f + 0) (by omega) (hh := 20) (N := 20) (Or.inl ⟨rfl, by omega⟩) (n := 4) (f := f) (by omega) hf (pgNeed x) with ⟨d1, d2⟩ | ⟨d1, ⟨y, q', v', b1, b2, b3, b4, b5⟩ | ⟨q', v', b3, b4, b5⟩⟩
      · obtain ⟨r, u, w1, w2, w3⟩ := fmS2 hF hC a3 hT hR hI hf (nI f)
        refine ⟨r, u, ?_, ?_, OUT_m w3 (by omega)⟩
        · show g_bnd (fX5_takesWord fu 11 (ksAt z (nI (c + 1)))) _ = _
          rw [d1, bnd_s]
          show (if (0 : Int32) = 0 then _ else _) = _
          rw [if_pos rfl]; exact w1
        · rw [d2, bnd_s]; exact w2
      · have hy : y ≤ 20 := le_i (by omega) b2 b1
        obtain ⟨r, u, w1, w2, w3⟩ := fmS2 hF hC b5 hT (RP_uNeed hR hf (nI y)) (IS_need hI hf hy) hf v'
        refine ⟨r, u, ?_, ?_, OUT_m w3 (by omega)⟩
        · show g_bnd (fX5_takesWord fu 11 (ksAt z (nI (c + 1)))) _ = _
          rw [d1, bnd_s]
          show (if (1 : Int32) = 0 then _ else g_bnd (fX2_readNumber fu 4 (ksAt z (nI (c + 1 + 1))) (pgNeed x) (nI f) 20) _) = _
          rw [if_neg (by decide), b3, bnd_s]
          show (if (1 : Int32) = 0 then _ else _) = _
          rw [if_neg (by decide)]; exact w1
        · rw [b4, bnd_s]; exact w2
      · refine ⟨(0, ksAt z (nI (c + 1 + 1)), x), PQ B L t s q' v' 1, ?_, ?_, c + 1 + 1, q', s, v', by omega, b5, rfl, Or.inr ⟨rfl, rfl⟩⟩
        · show g_bnd (fX5_takesWord fu 11 (ksAt z (nI (c + 1)))) _ = _
          rw [d1, bnd_s]
          show (if (1 : Int32) = 0 then _ else g_bnd (fX2_readNumber fu 4 (ksAt z (nI (c + 1 + 1))) (pgNeed x) (nI f) 20) _) = _
          rw [if_neg (by decide), b3, bnd_s]
          show (if (0 : Int32) = 0 then _ else _) = _
          rw [if_pos rfl, z_0]
          rfl
        · rw [b4, bnd_s, fmB_w hF hT s v' (TX_q b5) hf]
    · exact absurd a1 c1
  · rcases num_s hF hT s v 3 hq (N := 3) (Or.inl ⟨rfl, by omega⟩) with ⟨c1, c2⟩ | ⟨c1, v', c2⟩
    · exact absurd c1 a1
    · refine ⟨(0, ksAt z (nI c), x), PQ B L t s q v' 1, ?_, ?_, c, q, s, v', by omega, hX, rfl, Or.inr ⟨rfl, rfl⟩⟩
      · rw [a2, bnd_s]
        show (if (0 : Int32) ≤ -1 then _ else _) = _
        rw [if_neg (by decide), z_0]
      · rw [c2, bnd_s, PQ_w, if_neg (show ¬ (1 : Int32) = 0 by decide), fm_e, l0, field_s fu (f := 0) (w := 0) (by decide) (by decide), bnd_s]
        have e := pt_w hF hT s v' hq (w := 11) (by decide) C_need (nI (5 + 4 * 0 + 0)) 20
        rw [e, bnd_s]
        exact fmB_w hF hT s v' hq (f := 0) (by decide)
/-! the well, the spring -/
theorem wat_s {fu : Nat} (hF : 5000 ≤ fu) {B : Nat → Nat} {L : Nat} {z : TKS} {M c q : Nat} (hC : CUT B L z M) (hX : TX B L z M c q) {t : MS} (hT : TAP B L t) {x : PS} {s : SS} (hR : RP x s) (hI : IS s) (v : Int32) {j : Nat} (hj : j < 2) {N : Nat} (hN : N ≤ 9999) (hIS : ∀ y, y ≤ N → IS (upd s (2 + j) (nI y))) : ∃ r u, (g_bnd (fX2_readNumber fu 3 (ksAt z (nI c)) (pgWater x) (nI j) (nI N)) (fun u103 => g_z u103.1 (some (u103.1, u103.2.1, (psWater x u103.2.2))))) = some r ∧ (g_bnd (fX7_number fu (PQ B L t s q v 0) 0 (nI N)) (fun u89 => fX7_item_b102 fu u89 (nI (2 + j)))) = some u ∧ OUT B L z M t c r u := by
  have hq := TX_q hX
  rcases rn_s fu hC hX (nI N) (n := 3) (f := j) (by omega) (by omega) (pgWater x) with ⟨b1, b2, b3⟩ | ⟨b1, b2⟩
  · rcases num_s hF hT s v (nI N) hq (N := N) (Or.inl ⟨rfl, hN⟩) with ⟨c1, c2⟩ | ⟨c1, c2⟩
    · have hv := vcq_le B L q
      have hy := le_i (by omega) hv b1.2.2
      refine ⟨(1, ksAt z (nI (c + 1)), puWater x j (nI (vcq B L q))), PQ B L t (upd s (2 + j) (nI (vcq B L q))) (skp B L (enq B L q)) (nI (vcq B L q)) 0, ?_, ?_, c + 1, _, _, _, by omega, b3, rfl, Or.inl ⟨rfl, rfl, RP_uWater hR (by omega) _, hIS _ hy⟩⟩
      · rw [b2, bnd_s, z_1]; rfl
      · unfold fX7_item_b102 fX7_item_b131
        rw [c2, bnd_s, PQ_w, if_pos rfl, PQ_v, in53 (by omega), nI_clamp (by omega), PQ_u]
    · exact absurd b1 c1
  · rcases num_s hF hT s v (nI N) hq (N := N) (Or.inl ⟨rfl, hN⟩) with ⟨c1, c2⟩ | ⟨c1, v', c2⟩
    · exact absurd c1 b1
    · refine ⟨(0, ksAt z (nI c), x), PQ B L t s q v' 1, ?_, ?_, c, q, s, v', by omega, hX, rfl, Or.inr ⟨rfl, rfl⟩⟩
      · rw [b2, bnd_s, z_0]; rfl
      · unfold fX7_item_b102 fX7_item_b131
        rw [c2, bnd_s, PQ_w, if_neg (show ¬ (1 : Int32) = 0 by decide), PQ_S, ald53 (by omega), in53 (by omega), nI_clamp (by omega), PQ_u, upd_id _ _ rfl]
/-! the kind that is told -/
def kw (k : Nat) : Nat := if k = 0 then 5 else k - 1
theorem kw_lt {k : Nat} (hk : k ≤ 5) : kw k < 14 := by
  unfold kw
  split <;> omega
theorem name_d : ∀ k, k < 6 → fX0_nameOf 0 (nI k) = some (kw k) := by decide
theorem name_s (fu : Nat) {k : Nat} (hk : k ≤ 5) : fX0_nameOf fu (nI k) = some (kw k) := name_d k (by omega)
theorem kh_s {fu : Nat} (hF : 5000 ≤ fu) {B : Nat → Nat} {L : Nat} {t : MS} (hT : TAP B L t) (s : SS) (v : Int32) {q : Nat} (hq : q ≤ L) : (∃ k, k ≤ 5 ∧ isW B L (kw k) q ∧ (∀ j, j < k → ¬ isW B L (kw j) q) ∧ fX7_kindHere fu (PQ B L t s q v 0) = some (nI k)) ∨ ((∀ k, k ≤ 5 → ¬ isW B L (kw k) q) ∧ fX7_kindHere fu (PQ B L t s q v 0) = some (-1)) := by
  unfold fX7_kindHere
  rw [wrd_s hF hT s v 0 hq, bnd_s]
  have w0 := wdv_c (B := B) (L := L) (q := q) (w := 5) (by decide) C_farmer
  have w1 := wdv_c (B := B) (L := L) (q := q) (w := 0) (by decide) C_lazy
  have w2 := wdv_c (B := B) (L := L) (q := q) (w := 1) (by decide) C_kind
  have w3 := wdv_c (B := B) (L := L) (q := q) (w := 2) (by decide) C_stranger
  have w4 := wdv_c (B := B) (L := L) (q := q) (w := 3) (by decide) C_sham
  have w5 := wdv_c (B := B) (L := L) (q := q) (w := 4) (by decide) C_priest
  by_cases h0 : isW B L 5 q
  · rw [if_pos (w0.mpr h0)]
    exact Or.inl ⟨0, by omega, h0, fun j hj => absurd hj (by omega), rfl⟩
  rw [if_neg (fun w => h0 (w0.mp w))]
  by_cases h1 : isW B L 0 q
  · rw [if_pos (w1.mpr h1)]
    refine Or.inl ⟨1, by omega, h1, fun j hj => ?_, rfl⟩
    have : j = 0 := by omega
    subst this; exact h0
  rw [if_neg (fun w => h1 (w1.mp w))]
  by_cases h2 : isW B L 1 q
  · rw [if_pos (w2.mpr h2)]
    refine Or.inl ⟨2, by omega, h2, fun j hj => ?_, rfl⟩
    have : j = 0 ∨ j = 1 := by omega
    rcases this with rfl | rfl
    · exact h0
    · exact h1
  rw [if_neg (fun w => h2 (w2.mp w))]
  by_cases h3 : isW B L 2 q
  · rw [if_pos (w3.mpr h3)]
    refine Or.inl ⟨3, by omega, h3, fun j hj => ?_, rfl⟩
    have : j = 0 ∨ j = 1 ∨ j = 2 := by omega
    rcases this with rfl | rfl | rfl
    · exact h0
    · exact h1
    · exact h2
  rw [if_neg (fun w => h3 (w3.mp w))]
  by_cases h4 : isW B L 3 q
  · rw [if_pos (w4.mpr h4)]
    refine Or.inl ⟨4, by omega, h4, fun j hj => ?_, rfl⟩
    have : j = 0 ∨ j = 1 ∨ j = 2 ∨ j = 3 := by omega
    rcases this with rfl | rfl | rfl | rfl
    · exact h0
    · exact h1
    · exact h2
    · exact h3
  rw [if_neg (fun w => h4 (w4.mp w))]
  have five : ∀ j, j < 5 → ¬ isW B L (kw j) q := by
    intro j hj
    have : j = 0 ∨ j = 1 ∨ j = 2 ∨ j = 3 ∨ j = 4 := by omega
    rcases this with rfl | rfl | rfl | rfl | rfl
    · exact h0
    · exact h1
    · exact h2
    · exact h3
    · exact h4
  by_cases h5 : isW B L 4 q
  · rw [if_pos (w5.mpr h5)]
    exact Or.inl ⟨5, by omega, h5, five, rfl⟩
  rw [if_neg (fun w => h5 (w5.mp w))]
  refine Or.inr ⟨fun k hk => ?_, rfl⟩
  by_cases e : k = 5
  · subst e; exact h5
  · exact five k (by omega)
/-- the class finds a kind -/
theorem ri_y {fu : Nat} (hF : 5000 ≤ fu) {B : Nat → Nat} {L : Nat} {z : TKS} {M c q : Nat} (hC : CUT B L z M) (hX : TX B L z M c q) (x : PS) {k : Nat} (hk : k ≤ 5) (hw : isW B L (kw k) q) : ∀ (n i fuel : Nat), i + n = k → n < fuel → (∀ j, j < k → ¬ isW B L (kw j) q) → g_lp (fun _ _ _ => none) (fX2_readItem_b2B fu) fuel (ksAt z (nI c)) x (nI i) = g_bnd (fX2_readPerson fu (ksAt z (nI c)) x (nI k)) (fun u25 => g_z u25.1 (some (u25.1, u25.2.1, u25.2.2))) := by
  intro n
  induction n with
  | zero =>
    intro i fuel hi hf hno
    obtain ⟨j, rfl⟩ : ∃ j, fuel = j + 1 := ⟨fuel - 1, by omega⟩
    have hik : i = k := by omega
    subst hik
    rw [g_lp_s]
    unfold fX2_readItem_b2B
    rw [if_neg (show ¬ (6 : Int32) ≤ nI i from nI_ge (b := 6) (by omega) (by decide)), name_s fu hk, bnd_s]
    rcases isAtWord_s hF hC (kw_lt hk) hX with ⟨a1, a2⟩ | ⟨a1, a2⟩
    · rw [a2, bnd_s, if_neg (by decide)]
    · exact absurd hw a1
  | succ n ih =>
    intro i fuel hi hf hno
    obtain ⟨j, rfl⟩ : ∃ j, fuel = j + 1 := ⟨fuel - 1, by omega⟩
    have st : ∀ K, fX2_readItem_b2B fu K (ksAt z (nI c)) x (nI i) = K (ksAt z (nI c)) x (nI (i + 1)) := by
      intro K
      unfold fX2_readItem_b2B
      rw [if_neg (show ¬ (6 : Int32) ≤ nI i from nI_ge (b := 6) (by omega) (by decide)), name_s fu (by omega), bnd_s]
      rcases isAtWord_s hF hC (kw_lt (k := i) (by omega)) hX with ⟨a1, a2⟩ | ⟨a1, a2⟩
      · exact absurd a1 (hno i (by omega))
      · rw [a2, bnd_s, if_pos rfl, nm_s, nI_1]
    rw [g_lp_s, st]
    exact ih (i + 1) j (by omega) (by omega) hno
theorem ri_n {fu : Nat} (hF : 5000 ≤ fu) {B : Nat → Nat} {L : Nat} {z : TKS} {M c q : Nat} (hC : CUT B L z M) (hX : TX B L z M c q) (x : PS) (hno : ∀ k, k ≤ 5 → ¬ isW B L (kw k) q) (K0 : TKS → PS → Int32 → Option (Int32 × TKS × PS)) : ∀ (n i fuel : Nat), i + n = 6 → n < fuel → g_lp (fun _ _ _ => none) (fX2_readItem_b2B fu) fuel (ksAt z (nI c)) x (nI i) = fX2_readItem_b2B fu K0 (ksAt z (nI c)) x (nI 6) := by
  intro n
  induction n with
  | zero =>
    intro i fuel hi hf
    obtain ⟨j, rfl⟩ : ∃ j, fuel = j + 1 := ⟨fuel - 1, by omega⟩
    have hik : i = 6 := by omega
    subst hik
    rw [g_lp_s]
    unfold fX2_readItem_b2B
    rw [if_pos (show (6 : Int32) ≤ nI 6 by decide), if_pos (show (6 : Int32) ≤ nI 6 by decide)]
  | succ n ih =>
    intro i fuel hi hf
    obtain ⟨j, rfl⟩ : ∃ j, fuel = j + 1 := ⟨fuel - 1, by omega⟩
    have st : ∀ K, fX2_readItem_b2B fu K (ksAt z (nI c)) x (nI i) = K (ksAt z (nI c)) x (nI (i + 1)) := by
      intro K
      unfold fX2_readItem_b2B
      rw [if_neg (show ¬ (6 : Int32) ≤ nI i from nI_ge (b := 6) (by omega) (by decide)), name_s fu (by omega), bnd_s]
      rcases isAtWord_s hF hC (kw_lt (k := i) (by omega)) hX with ⟨a1, a2⟩ | ⟨a1, a2⟩
      · exact absurd a1 (hno i (by omega))
      · rw [a2, bnd_s, if_pos rfl, nm_s, nI_1]
    rw [g_lp_s, st]
    exact ih (i + 1) j (by omega) (by omega)
theorem OUT_01 {B : Nat → Nat} {L : Nat} {z : TKS} {M : Nat} {t : MS} {c : Nat} {r : Int32 × TKS × PS} {u : MS} (h : OUT B L z M t c r u) : r.1 = 0 ∨ r.1 = 1 := by
  obtain ⟨c', q', s', v, h1, h2, h3, h4 | h4⟩ := h
  · exact Or.inr h4.1
  · exact Or.inl h4.1
theorem z_01 {ρ : Type} {x : Int32} (h : x = 0 ∨ x = 1) (k : Option ρ) : g_z x k = k := if_pos h
/-! an item -/
theorem itm_s {fu : Nat} (hF : 5000 ≤ fu) {B : Nat → Nat} {L : Nat} {z : TKS} {M c q : Nat} (hC : CUT B L z M) (hX : TX B L z M c q) {t : MS} (hT : TAP B L t) {x : PS} {s : SS} (hR : RP x s) (hI : IS s) (v : Int32) : ∃ r u, fX2_readItem fu (ksAt z (nI c)) x = some r ∧ fX7_item fu (PQ B L t s q v 0) = some u ∧ ((r.1 = 1 → OUT B L z M t (c + 1) r u) ∧ OUT B L z M t c r u) := by
  have hq := TX_q hX
  unfold fX7_item
  rcases kh_s hF hT s v hq with ⟨k, k1, k2, k3, k4⟩ | ⟨k3, k4⟩
  · obtain ⟨r, u, p1, p2, p3, p4⟩ := per_s hF hC hX k2.1 hT hR hI k1 v
    have e : fX2_readItem fu (ksAt z (nI c)) x = _ := ri_y hF hC hX x k1 k2 k 0 fu (by omega) (by omega) k3
    refine ⟨r, u, ?_, ?_, p3, p4⟩
    · rw [e, p1, bnd_s, z_01 (OUT_01 p4)]
    · rw [k4, bnd_s, wrd_s hF hT s v 0 hq, bnd_s, if_neg (nI_pos (by omega)), p2, bnd_s]
  · have e : fX2_readItem fu (ksAt z (nI c)) x = _ := ri_n hF hC hX x k3 (fun _ _ _ => none) 6 0 fu (by omega) (by omega)
    rw [e, k4, bnd_s, wrd_s hF hT s v 0 hq, bnd_s, if_pos (show (-1 : Int32) < 0 by decide)]
    unfold fX2_readItem_b2B
    rw [if_pos (show (6 : Int32) ≤ nI 6 by decide)]
    have w6 := wdv_c (B := B) (L := L) (q := q) (w := 6) (by decide) C_farm
    have w7 := wdv_c (B := B) (L := L) (q := q) (w := 7) (by decide) C_well
    have w8 := wdv_c (B := B) (L := L) (q := q) (w := 8) (by decide) C_spring
    rcases takesWord_s hF hC (w := 6) (by decide) hX with ⟨a1, a2, a3⟩ | ⟨a1, a2⟩
    · obtain ⟨r, u, p1, p2, p3⟩ := fmS1 hF hC a3 hT hR hI v
      refine ⟨r, u, ?_, ?_, fun _ => p3, OUT_m p3 (by omega)⟩
      · rw [a2, bnd_s]
        show (if (1 : Int32) = 0 then _ else g_bnd (fX2_readFarm fu (ksAt z (nI (c + 1))) x) _) = _
        rw [if_neg (by decide), p1, bnd_s, z_01 (OUT_01 p3)]
      · rw [if_pos (w6.mpr a1)]
        unfold fX7_farmItem
        rw [mst_s hF hT s v hq, bnd_s, p2, bnd_s]
    · rw [a2, bnd_s, if_neg (fun w => a1 (w6.mp w))]
      show ∃ r u, (if (0 : Int32) = 0 then g_bnd (fX5_takesWord fu 7 (ksAt z (nI c))) _ else _) = _ ∧ _
      rw [if_pos (show (0 : Int32) = 0 from rfl)]
      rcases takesWord_s hF hC (w := 7) (by decide) hX with ⟨b1, b2, b3⟩ | ⟨b1, b2⟩
      · obtain ⟨r, u, p1, p2, p3⟩ := wat_s hF hC b3 hT hR hI v (j := 0) (by omega) (N := 9999) (by omega) (fun y hy => IS_well hI hy)
        refine ⟨r, u, ?_, ?_, fun _ => p3, OUT_m p3 (by omega)⟩
        · rw [b2, bnd_s, a3_0, mw0]
          show (if (1 : Int32) = 0 then _ else g_bnd (fX2_readNumber fu 3 (ksAt z (nI (c + 1))) (pgWater x) (nI 0) (nI 9999)) _) = _
          rw [if_neg (by decide)]
          exact p1
        · rw [if_pos (w7.mpr b1)]
          unfold fX7_item_b50 fX7_item_b71 fX7_item_b89
          rw [if_neg (show ¬ (1 : Int32) = 0 by decide), mst_s hF hT s v hq, bnd_s, if_neg (show ¬ (1 : Int32) = 0 by decide)]
          exact p2
      · rw [b2, bnd_s, if_neg (fun w => b1 (w7.mp w))]
        show ∃ r u, (if (0 : Int32) = 0 then g_bnd (fX5_takesWord fu 8 (ksAt z (nI c))) _ else _) = _ ∧ _
        rw [if_pos (show (0 : Int32) = 0 from rfl)]
        unfold fX7_item_b50
        rw [if_pos (show (0 : Int32) = 0 from rfl)]
        rcases takesWord_s hF hC (w := 8) (by decide) hX with ⟨d1, d2, d3⟩ | ⟨d1, d2⟩
        · obtain ⟨r, u, p1, p2, p3⟩ := wat_s hF hC d3 hT hR hI v (j := 1) (by omega) (N := 99) (by omega) (fun y hy => IS_spring hI hy)
          refine ⟨r, u, ?_, ?_, fun _ => p3, OUT_m p3 (by omega)⟩
          · rw [d2, bnd_s, a3_1, mw1]
            show (if (1 : Int32) = 0 then _ else g_bnd (fX2_readNumber fu 3 (ksAt z (nI (c + 1))) (pgWater x) (nI 1) (nI 99)) _) = _
            rw [if_neg (by decide)]
            exact p1
          · rw [if_pos (w8.mpr d1)]
            unfold fX7_item_b71 fX7_item_b89
            rw [mst_s hF hT s v hq, bnd_s, if_pos (show (0 : Int32) = 0 from rfl)]
            exact p2
        · refine ⟨(0, ksAt z (nI c), x), PQ B L t s q v 1, ?_, ?_, fun w => absurd w (by decide : ¬ (0 : Int32) = 1), c, q, s, v, by omega, hX, rfl, Or.inr ⟨rfl, rfl⟩⟩
          · rw [d2, bnd_s]
            show (if (0 : Int32) = 0 then _ else _) = _
            rw [if_pos rfl, z_0]
          · rw [if_neg (fun w => d1 (w8.mp w))]
            unfold fX7_item_b71 fX7_item_b89 fX7_item_b102 fX7_item_b131
            rw [mun, bnd_s, if_pos (show (0 : Int32) = 0 from rfl), nuw, bnd_s, if_pos (show (0 : Int32) = 0 from rfl), PQ_w, if_neg (show ¬ (1 : Int32) = 0 by decide), PQ_S, a53_3]
            have i3 : ∀ (K : Option MS), g_in (3 : Int32) 53 K = K := fun K => in53 (k := 3) (by decide)
            rw [i3, PQ_u]
            have c3 : Int32.toNatClampNeg (3 : Int32) = 3 := rfl
            rw [c3, upd_id _ _ rfl]
