/-! the invariant under single updates -/
theorem IS_well {s : SS} (hI : IS s) {v : Nat} (hv : v ≤ 9999) : IS (upd s (2) (nI v)) := by
  obtain ⟨h0, h1, h2, h3, h4, h5, h6⟩ := hI
  have e0 : vv (upd s (2) (nI v)) 0 = vv s 0 := vv_un _ _ (by omega)
  refine ⟨ok_un _ _ (by omega) h0, trivial, ok_us _ _ hv (by decide), ok_un _ _ (by omega) h3, ok_un _ _ (by omega) h4, fun g hg => ?_, fun g hg => ?_⟩
  · obtain ⟨a, b, c, d⟩ := h5 g hg
    refine ⟨?_, ?_, ?_, ?_⟩
    · exact ok_un _ _ (by omega) a
    · exact ok_un _ _ (by omega) b
    · exact ok_un _ _ (by omega) c
    · rcases d with d | ⟨d1, d2⟩
      · exact Or.inl (by rw [pk_un (by omega)]; exact d)
      · exact Or.inr ⟨ok_un _ _ (by omega) d1, by rw [vv_un _ _ (by omega), e0]; exact d2⟩
  · rw [e0] at hg
    obtain ⟨a, b, ⟨c1, c2⟩, d⟩ := h6 g hg
    refine ⟨?_, ?_, ⟨?_, ?_⟩, ?_⟩
    · exact ok_un _ _ (by omega) a
    · exact ok_un _ _ (by omega) b
    · exact ok_un _ _ (by omega) c1
    · rw [vv_un _ _ (by omega), e0]; exact c2
    · exact ok_un _ _ (by omega) d
theorem IS_spring {s : SS} (hI : IS s) {v : Nat} (hv : v ≤ 99) : IS (upd s (3) (nI v)) := by
  obtain ⟨h0, h1, h2, h3, h4, h5, h6⟩ := hI
  have e0 : vv (upd s (3) (nI v)) 0 = vv s 0 := vv_un _ _ (by omega)
  refine ⟨ok_un _ _ (by omega) h0, trivial, ok_un _ _ (by omega) h2, ok_us _ _ hv (by decide), ok_un _ _ (by omega) h4, fun g hg => ?_, fun g hg => ?_⟩
  · obtain ⟨a, b, c, d⟩ := h5 g hg
    refine ⟨?_, ?_, ?_, ?_⟩
    · exact ok_un _ _ (by omega) a
    · exact ok_un _ _ (by omega) b
    · exact ok_un _ _ (by omega) c
    · rcases d with d | ⟨d1, d2⟩
      · exact Or.inl (by rw [pk_un (by omega)]; exact d)
      · exact Or.inr ⟨ok_un _ _ (by omega) d1, by rw [vv_un _ _ (by omega), e0]; exact d2⟩
  · rw [e0] at hg
    obtain ⟨a, b, ⟨c1, c2⟩, d⟩ := h6 g hg
    refine ⟨?_, ?_, ⟨?_, ?_⟩, ?_⟩
    · exact ok_un _ _ (by omega) a
    · exact ok_un _ _ (by omega) b
    · exact ok_un _ _ (by omega) c1
    · rw [vv_un _ _ (by omega), e0]; exact c2
    · exact ok_un _ _ (by omega) d
theorem IS_bottom {s : SS} (hI : IS s) {v : Nat} (hv : v ≤ 5) : IS (upd s (4) (nI v)) := by
  obtain ⟨h0, h1, h2, h3, h4, h5, h6⟩ := hI
  have e0 : vv (upd s (4) (nI v)) 0 = vv s 0 := vv_un _ _ (by omega)
  refine ⟨ok_un _ _ (by omega) h0, trivial, ok_un _ _ (by omega) h2, ok_un _ _ (by omega) h3, ok_us _ _ hv (by decide), fun g hg => ?_, fun g hg => ?_⟩
  · obtain ⟨a, b, c, d⟩ := h5 g hg
    refine ⟨?_, ?_, ?_, ?_⟩
    · exact ok_un _ _ (by omega) a
    · exact ok_un _ _ (by omega) b
    · exact ok_un _ _ (by omega) c
    · rcases d with d | ⟨d1, d2⟩
      · exact Or.inl (by rw [pk_un (by omega)]; exact d)
      · exact Or.inr ⟨ok_un _ _ (by omega) d1, by rw [vv_un _ _ (by omega), e0]; exact d2⟩
  · rw [e0] at hg
    obtain ⟨a, b, ⟨c1, c2⟩, d⟩ := h6 g hg
    refine ⟨?_, ?_, ⟨?_, ?_⟩, ?_⟩
    · exact ok_un _ _ (by omega) a
    · exact ok_un _ _ (by omega) b
    · exact ok_un _ _ (by omega) c1
    · rw [vv_un _ _ (by omega), e0]; exact c2
    · exact ok_un _ _ (by omega) d
theorem IS_day {s : SS} (hI : IS s) (v : Int32)  : IS (upd s (1) v) := by
  obtain ⟨h0, h1, h2, h3, h4, h5, h6⟩ := hI
  have e0 : vv (upd s (1) v) 0 = vv s 0 := vv_un _ _ (by omega)
  refine ⟨ok_un _ _ (by omega) h0, trivial, ok_un _ _ (by omega) h2, ok_un _ _ (by omega) h3, ok_un _ _ (by omega) h4, fun g hg => ?_, fun g hg => ?_⟩
  · obtain ⟨a, b, c, d⟩ := h5 g hg
    refine ⟨?_, ?_, ?_, ?_⟩
    · exact ok_un _ _ (by omega) a
    · exact ok_un _ _ (by omega) b
    · exact ok_un _ _ (by omega) c
    · rcases d with d | ⟨d1, d2⟩
      · exact Or.inl (by rw [pk_un (by omega)]; exact d)
      · exact Or.inr ⟨ok_un _ _ (by omega) d1, by rw [vv_un _ _ (by omega), e0]; exact d2⟩
  · rw [e0] at hg
    obtain ⟨a, b, ⟨c1, c2⟩, d⟩ := h6 g hg
    refine ⟨?_, ?_, ⟨?_, ?_⟩, ?_⟩
    · exact ok_un _ _ (by omega) a
    · exact ok_un _ _ (by omega) b
    · exact ok_un _ _ (by omega) c1
    · rw [vv_un _ _ (by omega), e0]; exact c2
    · exact ok_un _ _ (by omega) d
theorem IS_need {s : SS} (hI : IS s) {q v : Nat} (hq : q < 4) (hv : v ≤ 20) : IS (upd s (5 + 4 * q + 0) (nI v)) := by
  obtain ⟨h0, h1, h2, h3, h4, h5, h6⟩ := hI
  have e0 : vv (upd s (5 + 4 * q + 0) (nI v)) 0 = vv s 0 := vv_un _ _ (by omega)
  refine ⟨ok_un _ _ (by omega) h0, trivial, ok_un _ _ (by omega) h2, ok_un _ _ (by omega) h3, ok_un _ _ (by omega) h4, fun g hg => ?_, fun g hg => ?_⟩
  · obtain ⟨a, b, c, d⟩ := h5 g hg
    refine ⟨?_, ?_, ?_, ?_⟩
    · by_cases e : g = q
      · subst e; exact ok_us _ _ hv (by decide)
      · exact ok_un _ _ (by omega) a
    · exact ok_un _ _ (by omega) b
    · exact ok_un _ _ (by omega) c
    · rcases d with d | ⟨d1, d2⟩
      · exact Or.inl (by rw [pk_un (by omega)]; exact d)
      · exact Or.inr ⟨ok_un _ _ (by omega) d1, by rw [vv_un _ _ (by omega), e0]; exact d2⟩
  · rw [e0] at hg
    obtain ⟨a, b, ⟨c1, c2⟩, d⟩ := h6 g hg
    refine ⟨?_, ?_, ⟨?_, ?_⟩, ?_⟩
    · exact ok_un _ _ (by omega) a
    · exact ok_un _ _ (by omega) b
    · exact ok_un _ _ (by omega) c1
    · rw [vv_un _ _ (by omega), e0]; exact c2
    · exact ok_un _ _ (by omega) d
theorem IS_store {s : SS} (hI : IS s) {q v : Nat} (hq : q < 4) (hv : v ≤ 9999) : IS (upd s (5 + 4 * q + 1) (nI v)) := by
  obtain ⟨h0, h1, h2, h3, h4, h5, h6⟩ := hI
  have e0 : vv (upd s (5 + 4 * q + 1) (nI v)) 0 = vv s 0 := vv_un _ _ (by omega)
  refine ⟨ok_un _ _ (by omega) h0, trivial, ok_un _ _ (by omega) h2, ok_un _ _ (by omega) h3, ok_un _ _ (by omega) h4, fun g hg => ?_, fun g hg => ?_⟩
  · obtain ⟨a, b, c, d⟩ := h5 g hg
    refine ⟨?_, ?_, ?_, ?_⟩
    · exact ok_un _ _ (by omega) a
    · by_cases e : g = q
      · subst e; exact ok_us _ _ hv (by decide)
      · exact ok_un _ _ (by omega) b
    · exact ok_un _ _ (by omega) c
    · rcases d with d | ⟨d1, d2⟩
      · exact Or.inl (by rw [pk_un (by omega)]; exact d)
      · exact Or.inr ⟨ok_un _ _ (by omega) d1, by rw [vv_un _ _ (by omega), e0]; exact d2⟩
  · rw [e0] at hg
    obtain ⟨a, b, ⟨c1, c2⟩, d⟩ := h6 g hg
    refine ⟨?_, ?_, ⟨?_, ?_⟩, ?_⟩
    · exact ok_un _ _ (by omega) a
    · exact ok_un _ _ (by omega) b
    · exact ok_un _ _ (by omega) c1
    · rw [vv_un _ _ (by omega), e0]; exact c2
    · exact ok_un _ _ (by omega) d
theorem IS_thirst {s : SS} (hI : IS s) {q v : Nat} (hq : q < 4) (hv : v ≤ 9999) : IS (upd s (5 + 4 * q + 2) (nI v)) := by
  obtain ⟨h0, h1, h2, h3, h4, h5, h6⟩ := hI
  have e0 : vv (upd s (5 + 4 * q + 2) (nI v)) 0 = vv s 0 := vv_un _ _ (by omega)
  refine ⟨ok_un _ _ (by omega) h0, trivial, ok_un _ _ (by omega) h2, ok_un _ _ (by omega) h3, ok_un _ _ (by omega) h4, fun g hg => ?_, fun g hg => ?_⟩
  · obtain ⟨a, b, c, d⟩ := h5 g hg
    refine ⟨?_, ?_, ?_, ?_⟩
    · exact ok_un _ _ (by omega) a
    · exact ok_un _ _ (by omega) b
    · by_cases e : g = q
      · subst e; exact ok_us _ _ hv (by decide)
      · exact ok_un _ _ (by omega) c
    · rcases d with d | ⟨d1, d2⟩
      · exact Or.inl (by rw [pk_un (by omega)]; exact d)
      · exact Or.inr ⟨ok_un _ _ (by omega) d1, by rw [vv_un _ _ (by omega), e0]; exact d2⟩
  · rw [e0] at hg
    obtain ⟨a, b, ⟨c1, c2⟩, d⟩ := h6 g hg
    refine ⟨?_, ?_, ⟨?_, ?_⟩, ?_⟩
    · exact ok_un _ _ (by omega) a
    · exact ok_un _ _ (by omega) b
    · exact ok_un _ _ (by omega) c1
    · rw [vv_un _ _ (by omega), e0]; exact c2
    · exact ok_un _ _ (by omega) d
theorem IS_sends {s : SS} (hI : IS s) {q : Nat} {v : Int32} (hq : q < 4) (hv : v = -1 ∨ ∃ k, k < vv s 0 ∧ v = nI k) : IS (upd s (5 + 4 * q + 3) v) := by
  obtain ⟨h0, h1, h2, h3, h4, h5, h6⟩ := hI
  have e0 : vv (upd s (5 + 4 * q + 3) v) 0 = vv s 0 := vv_un _ _ (by omega)
  refine ⟨ok_un _ _ (by omega) h0, trivial, ok_un _ _ (by omega) h2, ok_un _ _ (by omega) h3, ok_un _ _ (by omega) h4, fun g hg => ?_, fun g hg => ?_⟩
  · obtain ⟨a, b, c, d⟩ := h5 g hg
    refine ⟨?_, ?_, ?_, ?_⟩
    · exact ok_un _ _ (by omega) a
    · exact ok_un _ _ (by omega) b
    · exact ok_un _ _ (by omega) c
    · by_cases e : g = q
      · subst e
        rw [pk_us]
        rcases hv with hv | ⟨k, hk, hv⟩
        · exact Or.inl hv
        · have h08 := h0.2
          have q1 := ok_of (s := upd s (5 + 4 * g + 3) v) (j := 5 + 4 * g + 3) (v := k) (hi := 7) (by rw [pk_us]; exact hv) (by omega) (by decide)
          exact Or.inr ⟨q1.1, by rw [q1.2, e0]; exact hk⟩
      · rcases d with d | ⟨d1, d2⟩
        · exact Or.inl (by rw [pk_un (by omega)]; exact d)
        · exact Or.inr ⟨ok_un _ _ (by omega) d1, by rw [vv_un _ _ (by omega), e0]; exact d2⟩
  · rw [e0] at hg
    obtain ⟨a, b, ⟨c1, c2⟩, d⟩ := h6 g hg
    refine ⟨?_, ?_, ⟨?_, ?_⟩, ?_⟩
    · exact ok_un _ _ (by omega) a
    · exact ok_un _ _ (by omega) b
    · exact ok_un _ _ (by omega) c1
    · rw [vv_un _ _ (by omega), e0]; exact c2
    · exact ok_un _ _ (by omega) d
theorem IS_kind {s : SS} (hI : IS s) {q v : Nat} (hv : v ≤ 5) : IS (upd s (21 + 4 * q + 0) (nI v)) := by
  obtain ⟨h0, h1, h2, h3, h4, h5, h6⟩ := hI
  have e0 : vv (upd s (21 + 4 * q + 0) (nI v)) 0 = vv s 0 := vv_un _ _ (by omega)
  refine ⟨ok_un _ _ (by omega) h0, trivial, ok_un _ _ (by omega) h2, ok_un _ _ (by omega) h3, ok_un _ _ (by omega) h4, fun g hg => ?_, fun g hg => ?_⟩
  · obtain ⟨a, b, c, d⟩ := h5 g hg
    refine ⟨?_, ?_, ?_, ?_⟩
    · exact ok_un _ _ (by omega) a
    · exact ok_un _ _ (by omega) b
    · exact ok_un _ _ (by omega) c
    · rcases d with d | ⟨d1, d2⟩
      · exact Or.inl (by rw [pk_un (by omega)]; exact d)
      · exact Or.inr ⟨ok_un _ _ (by omega) d1, by rw [vv_un _ _ (by omega), e0]; exact d2⟩
  · rw [e0] at hg
    obtain ⟨a, b, ⟨c1, c2⟩, d⟩ := h6 g hg
    refine ⟨?_, ?_, ⟨?_, ?_⟩, ?_⟩
    · by_cases e : g = q
      · subst e; exact ok_us _ _ hv (by decide)
      · exact ok_un _ _ (by omega) a
    · exact ok_un _ _ (by omega) b
    · exact ok_un _ _ (by omega) c1
    · rw [vv_un _ _ (by omega), e0]; exact c2
    · exact ok_un _ _ (by omega) d
theorem IS_deeds {s : SS} (hI : IS s) {q v : Nat} (hv : v ≤ 255) : IS (upd s (21 + 4 * q + 1) (nI v)) := by
  obtain ⟨h0, h1, h2, h3, h4, h5, h6⟩ := hI
  have e0 : vv (upd s (21 + 4 * q + 1) (nI v)) 0 = vv s 0 := vv_un _ _ (by omega)
  refine ⟨ok_un _ _ (by omega) h0, trivial, ok_un _ _ (by omega) h2, ok_un _ _ (by omega) h3, ok_un _ _ (by omega) h4, fun g hg => ?_, fun g hg => ?_⟩
  · obtain ⟨a, b, c, d⟩ := h5 g hg
    refine ⟨?_, ?_, ?_, ?_⟩
    · exact ok_un _ _ (by omega) a
    · exact ok_un _ _ (by omega) b
    · exact ok_un _ _ (by omega) c
    · rcases d with d | ⟨d1, d2⟩
      · exact Or.inl (by rw [pk_un (by omega)]; exact d)
      · exact Or.inr ⟨ok_un _ _ (by omega) d1, by rw [vv_un _ _ (by omega), e0]; exact d2⟩
  · rw [e0] at hg
    obtain ⟨a, b, ⟨c1, c2⟩, d⟩ := h6 g hg
    refine ⟨?_, ?_, ⟨?_, ?_⟩, ?_⟩
    · exact ok_un _ _ (by omega) a
    · by_cases e : g = q
      · subst e; exact ok_us _ _ hv (by decide)
      · exact ok_un _ _ (by omega) b
    · exact ok_un _ _ (by omega) c1
    · rw [vv_un _ _ (by omega), e0]; exact c2
    · exact ok_un _ _ (by omega) d
theorem IS_step {s : SS} (hI : IS s) {q v : Nat} (hv : v < vv s 0) : IS (upd s (21 + 4 * q + 2) (nI v)) := by
  obtain ⟨h0, h1, h2, h3, h4, h5, h6⟩ := hI
  have e0 : vv (upd s (21 + 4 * q + 2) (nI v)) 0 = vv s 0 := vv_un _ _ (by omega)
  refine ⟨ok_un _ _ (by omega) h0, trivial, ok_un _ _ (by omega) h2, ok_un _ _ (by omega) h3, ok_un _ _ (by omega) h4, fun g hg => ?_, fun g hg => ?_⟩
  · obtain ⟨a, b, c, d⟩ := h5 g hg
    refine ⟨?_, ?_, ?_, ?_⟩
    · exact ok_un _ _ (by omega) a
    · exact ok_un _ _ (by omega) b
    · exact ok_un _ _ (by omega) c
    · rcases d with d | ⟨d1, d2⟩
      · exact Or.inl (by rw [pk_un (by omega)]; exact d)
      · exact Or.inr ⟨ok_un _ _ (by omega) d1, by rw [vv_un _ _ (by omega), e0]; exact d2⟩
  · rw [e0] at hg
    obtain ⟨a, b, ⟨c1, c2⟩, d⟩ := h6 g hg
    refine ⟨?_, ?_, ⟨?_, ?_⟩, ?_⟩
    · exact ok_un _ _ (by omega) a
    · exact ok_un _ _ (by omega) b
    · by_cases e : g = q
      · subst e; exact ok_us _ _ (by have := h0.2; omega) (by decide)
      · exact ok_un _ _ (by omega) c1
    · rw [e0]
      by_cases e : g = q
      · subst e; rw [vv_us _ _ (by have := h0.2; omega)]; exact hv
      · rw [vv_un _ _ (by omega)]; exact c2
    · exact ok_un _ _ (by omega) d
theorem IS_asked {s : SS} (hI : IS s) {q v : Nat} (hv : v ≤ 9) : IS (upd s (21 + 4 * q + 3) (nI v)) := by
  obtain ⟨h0, h1, h2, h3, h4, h5, h6⟩ := hI
  have e0 : vv (upd s (21 + 4 * q + 3) (nI v)) 0 = vv s 0 := vv_un _ _ (by omega)
  refine ⟨ok_un _ _ (by omega) h0, trivial, ok_un _ _ (by omega) h2, ok_un _ _ (by omega) h3, ok_un _ _ (by omega) h4, fun g hg => ?_, fun g hg => ?_⟩
  · obtain ⟨a, b, c, d⟩ := h5 g hg
    refine ⟨?_, ?_, ?_, ?_⟩
    · exact ok_un _ _ (by omega) a
    · exact ok_un _ _ (by omega) b
    · exact ok_un _ _ (by omega) c
    · rcases d with d | ⟨d1, d2⟩
      · exact Or.inl (by rw [pk_un (by omega)]; exact d)
      · exact Or.inr ⟨ok_un _ _ (by omega) d1, by rw [vv_un _ _ (by omega), e0]; exact d2⟩
  · rw [e0] at hg
    obtain ⟨a, b, ⟨c1, c2⟩, d⟩ := h6 g hg
    refine ⟨?_, ?_, ⟨?_, ?_⟩, ?_⟩
    · exact ok_un _ _ (by omega) a
    · exact ok_un _ _ (by omega) b
    · exact ok_un _ _ (by omega) c1
    · rw [vv_un _ _ (by omega), e0]; exact c2
    · by_cases e : g = q
      · subst e; exact ok_us _ _ hv (by decide)
      · exact ok_un _ _ (by omega) d
