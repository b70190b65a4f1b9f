/-! ===== what is within its bounds, and what isn't ===== -/
theorem oo_ix (x : Int32) {n : Nat} (hn : n < 2 ^ 31) : (x < 0 ∨ nI n ≤ x) ∨ ∃ j : Nat, j < n ∧ x = nI j := by
  rcases pk_ix x hn with h | h | h
  · exact Or.inl (Or.inl h)
  · exact Or.inl (Or.inr h)
  · exact Or.inr h
theorem oE_in {j n : Nat} (h : j < n) (hn : n < 2 ^ 31) : fE_isBelow (nI j) (nI n) = some 1 := by
  unfold fE_isBelow
  rw [if_neg (nI_pos (by omega)), if_neg (nI_ge h hn)]
  exact xgd_pos (Or.inr rfl) _
theorem oE_out {x y : Int32} (h : x < 0 ∨ y ≤ x) : fE_isBelow x y = some 0 := by
  unfold fE_isBelow
  by_cases h0 : x < 0
  · rw [if_pos h0]; exact xgd_pos (Or.inl rfl) _
  · rw [if_neg h0, if_pos (h.resolve_left h0)]; exact xgd_pos (Or.inl rfl) _
theorem uE_in {j n : Nat} (h : j ≤ n) (hn : n < 2 ^ 31) : fE_isUpTo (nI j) (nI n) = some 1 := by
  unfold fE_isUpTo
  rw [if_neg (nI_pos (by omega)), if_neg (nI_nlt h hn)]
  exact xgd_pos (Or.inr rfl) _
theorem uE_out {x y : Int32} (h : x < 0 ∨ y < x) : fE_isUpTo x y = some 0 := by
  unfold fE_isUpTo
  by_cases h0 : x < 0
  · rw [if_pos h0]; exact xgd_pos (Or.inl rfl) _
  · rw [if_neg h0, if_pos (h.resolve_left h0)]; exact xgd_pos (Or.inl rfl) _
theorem wM_in {j n : Nat} (h : j ≤ n) (hn : n < 2 ^ 31) : fM_within (nI j) 0 (nI n) = some 1 := by
  unfold fM_within
  rw [if_neg (nI_pos (by omega)), if_neg (nI_nlt h hn)]
  exact xgd_pos (Or.inr rfl) _
theorem wM_out {x y : Int32} (h : x < 0 ∨ y < x) : fM_within x 0 y = some 0 := by
  unfold fM_within
  by_cases h0 : x < 0
  · rw [if_pos h0]; exact xgd_pos (Or.inl rfl) _
  · rw [if_neg h0, if_pos (h.resolve_left h0)]; exact xgd_pos (Or.inl rfl) _
theorem uu_ix (x : Int32) {n : Nat} (hn : n + 1 < 2 ^ 31) : (x < 0 ∨ nI n < x) ∨ ∃ j : Nat, j ≤ n ∧ x = nI j := by
  rcases oo_ix x hn with (h | h) | ⟨j, h, e⟩
  · exact Or.inl (Or.inl h)
  · refine Or.inl (Or.inr ?_)
    rw [Int32.lt_iff_toInt_lt, nI_toInt (by omega)]
    rw [Int32.le_iff_toInt_le, nI_toInt (by omega)] at h
    omega
  · exact Or.inr ⟨j, by omega, e⟩
theorem g11 (Y : Mem) : fM_goes 1 1 Y = some (1, up2 Y 0 0 0) := by
  unfold fM_goes; rw [if_neg (by decide), if_neg (by decide)]
  unfold fM_goes_18; rw [xlt_eq]; simp only [up2_at]; rw [if_pos trivial]; exact xgd_pos (Or.inr rfl) _
theorem g0 (z : Int32) (Y : Mem) : fM_goes 0 z Y = some (0, up2 Y 0 0 1) := by
  unfold fM_goes; rw [if_pos rfl]
  unfold fM_goes_18; rw [xlt_eq]; simp only [up2_at]; rw [ if_neg (by decide)]; exact xgd_pos (Or.inl rfl) _
theorem g10 (Y : Mem) : fM_goes 1 0 Y = some (0, up2 Y 0 0 2) := by
  unfold fM_goes; rw [if_neg (by decide), if_pos rfl]
  unfold fM_goes_18; rw [xlt_eq]; simp only [up2_at]; rw [ if_neg (by decide)]; exact xgd_pos (Or.inl rfl) _
theorem me1 : fE_mustExist 1 = some () := if_neg (by decide)
theorem ma1 : fE_mustBeAllowed 1 = some () := if_neg (by decide)
theorem eE_Paper {j : Nat} (h : j < 9) : fE_isPaper (nI j) = some 1 := by
  unfold fE_isPaper
  rw [show fE_isBelow (nI j) 9 = some 1 from oE_in h (by decide)]; exact xgd_pos (Or.inr rfl) _
theorem eE_Paper0 {x : Int32} (h : x < 0 ∨ nI 9 ≤ x) : fE_isPaper x = some 0 := by
  unfold fE_isPaper
  rw [show fE_isBelow x 9 = some 0 from oE_out h]; exact xgd_pos (Or.inl rfl) _
theorem eM_Paper {j : Nat} (h : j < 9) : fM_isPaper (nI j) = some 1 := by
  unfold fM_isPaper
  rw [if_neg (nI_pos (by omega)), if_neg (show ¬ (9 : Int32) ≤ nI j from nI_ge h (by decide))]; exact xgd_pos (Or.inr rfl) _
theorem eM_Paper0 {x : Int32} (h : x < 0 ∨ nI 9 ≤ x) : fM_isPaper x = some 0 := by
  unfold fM_isPaper
  by_cases h0 : x < 0
  · rw [if_pos h0]; exact xgd_pos (Or.inl rfl) _
  · rw [if_neg h0, if_pos (show (9 : Int32) ≤ x from h.resolve_left h0)]; exact xgd_pos (Or.inl rfl) _
theorem eE_Session {j : Nat} (h : j < 6) : fE_isSession (nI j) = some 1 := by
  unfold fE_isSession
  rw [show fE_isBelow (nI j) 6 = some 1 from oE_in h (by decide)]; exact xgd_pos (Or.inr rfl) _
theorem eE_Session0 {x : Int32} (h : x < 0 ∨ nI 6 ≤ x) : fE_isSession x = some 0 := by
  unfold fE_isSession
  rw [show fE_isBelow x 6 = some 0 from oE_out h]; exact xgd_pos (Or.inl rfl) _
theorem eM_Session {j : Nat} (h : j < 6) : fM_isSession (nI j) = some 1 := by
  unfold fM_isSession
  rw [if_neg (nI_pos (by omega)), if_neg (show ¬ (6 : Int32) ≤ nI j from nI_ge h (by decide))]; exact xgd_pos (Or.inr rfl) _
theorem eM_Session0 {x : Int32} (h : x < 0 ∨ nI 6 ≤ x) : fM_isSession x = some 0 := by
  unfold fM_isSession
  by_cases h0 : x < 0
  · rw [if_pos h0]; exact xgd_pos (Or.inl rfl) _
  · rw [if_neg h0, if_pos (show (6 : Int32) ≤ x from h.resolve_left h0)]; exact xgd_pos (Or.inl rfl) _
theorem eE_Candidate {j : Nat} (h : j < 40) : fE_isCandidate (nI j) = some 1 := by
  unfold fE_isCandidate
  rw [show fE_isBelow (nI j) 40 = some 1 from oE_in h (by decide)]; exact xgd_pos (Or.inr rfl) _
theorem eE_Candidate0 {x : Int32} (h : x < 0 ∨ nI 40 ≤ x) : fE_isCandidate x = some 0 := by
  unfold fE_isCandidate
  rw [show fE_isBelow x 40 = some 0 from oE_out h]; exact xgd_pos (Or.inl rfl) _
theorem eM_Candidate {j : Nat} (h : j < 40) : fM_isCandidate (nI j) = some 1 := by
  unfold fM_isCandidate
  rw [if_neg (nI_pos (by omega)), if_neg (show ¬ (40 : Int32) ≤ nI j from nI_ge h (by decide))]; exact xgd_pos (Or.inr rfl) _
theorem eM_Candidate0 {x : Int32} (h : x < 0 ∨ nI 40 ≤ x) : fM_isCandidate x = some 0 := by
  unfold fM_isCandidate
  by_cases h0 : x < 0
  · rw [if_pos h0]; exact xgd_pos (Or.inl rfl) _
  · rw [if_neg h0, if_pos (show (40 : Int32) ≤ x from h.resolve_left h0)]; exact xgd_pos (Or.inl rfl) _
theorem eE_Room {j : Nat} (h : j < 4) : fE_isRoom (nI j) = some 1 := by
  unfold fE_isRoom
  rw [show fE_isBelow (nI j) 4 = some 1 from oE_in h (by decide)]; exact xgd_pos (Or.inr rfl) _
theorem eE_Room0 {x : Int32} (h : x < 0 ∨ nI 4 ≤ x) : fE_isRoom x = some 0 := by
  unfold fE_isRoom
  rw [show fE_isBelow x 4 = some 0 from oE_out h]; exact xgd_pos (Or.inl rfl) _
theorem eM_Room {j : Nat} (h : j < 4) : fM_isRoom (nI j) = some 1 := by
  unfold fM_isRoom
  rw [if_neg (nI_pos (by omega)), if_neg (show ¬ (4 : Int32) ≤ nI j from nI_ge h (by decide))]; exact xgd_pos (Or.inr rfl) _
theorem eM_Room0 {x : Int32} (h : x < 0 ∨ nI 4 ≤ x) : fM_isRoom x = some 0 := by
  unfold fM_isRoom
  by_cases h0 : x < 0
  · rw [if_pos h0]; exact xgd_pos (Or.inl rfl) _
  · rw [if_neg h0, if_pos (show (4 : Int32) ≤ x from h.resolve_left h0)]; exact xgd_pos (Or.inl rfl) _
theorem eE_Invigilator {j : Nat} (h : j < 10) : fE_isInvigilator (nI j) = some 1 := by
  unfold fE_isInvigilator
  rw [show fE_isBelow (nI j) 10 = some 1 from oE_in h (by decide)]; exact xgd_pos (Or.inr rfl) _
theorem eE_Invigilator0 {x : Int32} (h : x < 0 ∨ nI 10 ≤ x) : fE_isInvigilator x = some 0 := by
  unfold fE_isInvigilator
  rw [show fE_isBelow x 10 = some 0 from oE_out h]; exact xgd_pos (Or.inl rfl) _
theorem eM_Invigilator {j : Nat} (h : j < 10) : fM_isInvigilator (nI j) = some 1 := by
  unfold fM_isInvigilator
  rw [if_neg (nI_pos (by omega)), if_neg (show ¬ (10 : Int32) ≤ nI j from nI_ge h (by decide))]; exact xgd_pos (Or.inr rfl) _
theorem eM_Invigilator0 {x : Int32} (h : x < 0 ∨ nI 10 ≤ x) : fM_isInvigilator x = some 0 := by
  unfold fM_isInvigilator
  by_cases h0 : x < 0
  · rw [if_pos h0]; exact xgd_pos (Or.inl rfl) _
  · rw [if_neg h0, if_pos (show (10 : Int32) ≤ x from h.resolve_left h0)]; exact xgd_pos (Or.inl rfl) _
