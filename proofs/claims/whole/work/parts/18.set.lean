section SET
variable {z b : Nat} {n : Lg} {M N : Mem}
theorem pm_rule (h : RR z b n M N) (x1 : Int32) : Rw z b n (f_yX8_rule M x1) (f_yX9_rule N x1) := by
  unfold f_yX8_rule f_yX9_rule
  rcases ix6 x1 2 (by decide) with h1 | ⟨r, hr, rfl⟩
  · rw [in_out (n := 2) (by decide) (by decide) h1]
    by_cases h0 : x1 < 0
    · simp only [h0, ↓gd_b, gd_t, gd_f, ↓ob1_s, ob1_s, ↓ob2_s, ob2_s, ↓om_n, ↓om_s, om_n, om_s, ↓lt1, ↓reduceIte, or_true, true_or, or_false, false_or, and_true, true_and, and_false, false_and, not_true_eq_false, not_false_eq_true, ite_self, S2_ret, eq_self]; exact h
    · have h2 : ¬ x1 ≤ 1 := fun z => by
        have h3 := h1.resolve_left h0
        rw [Int32.le_iff_toInt_le] at z h3
        exact absurd (Int.le_trans h3 z) (by decide)
      simp only [h0, h2, ↓gd_b, gd_t, gd_f, ↓ob1_s, ob1_s, ↓ob2_s, ob2_s, ↓om_n, ↓om_s, om_n, om_s, ↓lt1, ↓reduceIte, or_true, true_or, or_false, false_or, and_true, true_and, and_false, false_and, not_true_eq_false, not_false_eq_true, ite_self, S2_ret, eq_self]; exact h
  · rw [in_in (n := 2) (by decide) hr (by decide)]
    simp (disch := omega) only [↓gd_b, gd_t, gd_f, ↓ob1_s, ob1_s, ↓ob2_s, ob2_s, ↓om_n, ↓om_s, om_n, om_s, ↓lt1, ↓reduceIte, or_true, true_or, or_false, false_or, and_true, true_and, and_false, false_and, not_true_eq_false, not_false_eq_true, ite_self, S2_ret, eq_self, llA, llM, llm, llS, lle_f, lle_t, lle2_f, lle2_t, llt_f, llt_t, llt2_f, llt2_t, leq_f, leq_t, lz_f, lzl_t, nI_add, nI_clamp, nle_f, nle_t, nlt_f, nlt_t, neq_f, neq_t, one_ne, h.nrule]
    refine h.wrule ?_
    rcases (by omega : r = 0 ∨ r = 1) with rfl | rfl
    · exact Or.inl rfl
    · exact Or.inr rfl
theorem pm_order (h : RR z b n M N) (x1 : Int32) : Rw z b n (f_yX8_order M x1) (f_yX9_order N x1) := by
  unfold f_yX8_order f_yX9_order
  rcases ix6 x1 3 (by decide) with h1 | ⟨r, hr, rfl⟩
  · rw [in_out (n := 3) (by decide) (by decide) h1]
    by_cases h0 : x1 < 0
    · simp only [h0, ↓gd_b, gd_t, gd_f, ↓ob1_s, ob1_s, ↓ob2_s, ob2_s, ↓om_n, ↓om_s, om_n, om_s, ↓lt1, ↓reduceIte, or_true, true_or, or_false, false_or, and_true, true_and, and_false, false_and, not_true_eq_false, not_false_eq_true, ite_self, S2_ret, eq_self]; exact h
    · have h2 : ¬ x1 ≤ 2 := fun z => by
        have h3 := h1.resolve_left h0
        rw [Int32.le_iff_toInt_le] at z h3
        exact absurd (Int.le_trans h3 z) (by decide)
      simp only [h0, h2, ↓gd_b, gd_t, gd_f, ↓ob1_s, ob1_s, ↓ob2_s, ob2_s, ↓om_n, ↓om_s, om_n, om_s, ↓lt1, ↓reduceIte, or_true, true_or, or_false, false_or, and_true, true_and, and_false, false_and, not_true_eq_false, not_false_eq_true, ite_self, S2_ret, eq_self]; exact h
  · rw [in_in (n := 3) (by decide) hr (by decide)]
    simp (disch := omega) only [↓gd_b, gd_t, gd_f, ↓ob1_s, ob1_s, ↓ob2_s, ob2_s, ↓om_n, ↓om_s, om_n, om_s, ↓lt1, ↓reduceIte, or_true, true_or, or_false, false_or, and_true, true_and, and_false, false_and, not_true_eq_false, not_false_eq_true, ite_self, S2_ret, eq_self, llA, llM, llm, llS, lle_f, lle_t, lle2_f, lle2_t, llt_f, llt_t, llt2_f, llt2_t, leq_f, leq_t, lz_f, lzl_t, nI_add, nI_clamp, nle_f, nle_t, nlt_f, nlt_t, neq_f, neq_t, one_ne, h.norder]
    refine h.worder ?_
    rcases (by omega : r = 0 ∨ r = 1 ∨ r = 2) with rfl | rfl | rfl
    · exact Or.inl rfl
    · exact Or.inr (Or.inl rfl)
    · exact Or.inr (Or.inr rfl)
theorem keep_in {t r : Nat} (v : Int32) (hr : r < 6) : f_yX5_keep M t (nI r) v = some (mp M 15 t r v) := by
  unfold f_yX5_keep
  rw [slot_in hr]
  simp (disch := omega) only [↓gd_b, gd_t, gd_f, ↓ob1_s, ob1_s, ↓ob2_s, ob2_s, ↓om_n, ↓om_s, om_n, om_s, ↓lt1, ↓reduceIte, or_true, true_or, or_false, false_or, and_true, true_and, and_false, false_and, not_true_eq_false, not_false_eq_true, ite_self, S2_ret, eq_self, llA, llM, llm, llS, lle_f, lle_t, lle2_f, lle2_t, llt_f, llt_t, llt2_f, llt2_t, leq_f, leq_t, lz_f, lzl_t, nI_add, nI_clamp, nle_f, nle_t, nlt_f, nlt_t, neq_f, neq_t, one_ne]
theorem grasp_in {t r : Nat} (v : Int32) (hr : r < 6) : f_yX5_grasp M t (nI r) v = some (mp M 16 t r v) := by
  unfold f_yX5_grasp
  rw [slot_in hr]
  simp (disch := omega) only [↓gd_b, gd_t, gd_f, ↓ob1_s, ob1_s, ↓ob2_s, ob2_s, ↓om_n, ↓om_s, om_n, om_s, ↓lt1, ↓reduceIte, or_true, true_or, or_false, false_or, and_true, true_and, and_false, false_and, not_true_eq_false, not_false_eq_true, ite_self, S2_ret, eq_self, llA, llM, llm, llS, lle_f, lle_t, lle2_f, lle2_t, llt_f, llt_t, llt2_f, llt2_t, leq_f, leq_t, lz_f, lzl_t, nI_add, nI_clamp, nle_f, nle_t, nlt_f, nlt_t, neq_f, neq_t, one_ne]
theorem kept_in {t r : Nat} (hr : r < 6) : f_yX5_kept M t (nI r) = some (M 15 t r) := by
  unfold f_yX5_kept
  rw [slot_in hr]
  simp (disch := omega) only [↓gd_b, gd_t, gd_f, ↓ob1_s, ob1_s, ↓ob2_s, ob2_s, ↓om_n, ↓om_s, om_n, om_s, ↓lt1, ↓reduceIte, or_true, true_or, or_false, false_or, and_true, true_and, and_false, false_and, not_true_eq_false, not_false_eq_true, ite_self, S2_ret, eq_self, llA, llM, llm, llS, lle_f, lle_t, lle2_f, lle2_t, llt_f, llt_t, llt2_f, llt2_t, leq_f, leq_t, lz_f, lzl_t, nI_add, nI_clamp, nle_f, nle_t, nlt_f, nlt_t, neq_f, neq_t, one_ne]
theorem held_in {t r : Nat} (hr : r < 6) : f_yX5_held M t (nI r) = some (M 16 t r) := by
  unfold f_yX5_held
  rw [slot_in hr]
  simp (disch := omega) only [↓gd_b, gd_t, gd_f, ↓ob1_s, ob1_s, ↓ob2_s, ob2_s, ↓om_n, ↓om_s, om_n, om_s, ↓lt1, ↓reduceIte, or_true, true_or, or_false, false_or, and_true, true_and, and_false, false_and, not_true_eq_false, not_false_eq_true, ite_self, S2_ret, eq_self, llA, llM, llm, llS, lle_f, lle_t, lle2_f, lle2_t, llt_f, llt_t, llt2_f, llt2_t, leq_f, leq_t, lz_f, lzl_t, nI_add, nI_clamp, nle_f, nle_t, nlt_f, nlt_t, neq_f, neq_t, one_ne]
theorem become_eq {t : Nat} (s x u : Int32) : f_yX5_become M t s x u = some (mp (mp (mp M 6 t 0 s) 6 t 11 x) 6 t 12 u) := rfl
theorem pm_set (h : RR z b n M N) (x1 x2 x3 : Int32) : Rw z b n (f_yX8_set M x1 x2 x3) (f_yX9_set N x1 x2 x3) := by
  unfold f_yX8_set f_yX9_set f_yX9_isThread
  rcases ix6 x1 6 (by decide) with h1 | ⟨t, ht, rfl⟩
  · rw [at_out h1, in_out (n := 6) (by decide) (by decide) h1]; exact S2.ret ⟨rfl, h⟩
  · rw [at_in ht, in_in (n := 6) (by decide) ht (by decide)]
    by_cases h0 : M 6 t 0 = 0
    · simp (disch := omega) only [↓gd_b, gd_t, gd_f, ↓ob1_s, ob1_s, ↓ob2_s, ob2_s, ↓om_n, ↓om_s, om_n, om_s, ↓lt1, ↓reduceIte, or_true, true_or, or_false, false_or, and_true, true_and, and_false, false_and, not_true_eq_false, not_false_eq_true, ite_self, S2_ret, eq_self, llA, llM, llm, llS, lle_f, lle_t, lle2_f, lle2_t, llt_f, llt_t, llt2_f, llt2_t, leq_f, leq_t, lz_f, lzl_t, nI_add, nI_clamp, nle_f, nle_t, nlt_f, nlt_t, neq_f, neq_t, one_ne, h.n31, h0]; exact h
    · rcases ix6 x2 6 (by decide) with h2 | ⟨r, hr, rfl⟩
      · rw [slot_out h2, in_out (n := 6) (by decide) (by decide) h2]
        simp (disch := omega) only [↓gd_b, gd_t, gd_f, ↓ob1_s, ob1_s, ↓ob2_s, ob2_s, ↓om_n, ↓om_s, om_n, om_s, ↓lt1, ↓reduceIte, or_true, true_or, or_false, false_or, and_true, true_and, and_false, false_and, not_true_eq_false, not_false_eq_true, ite_self, S2_ret, eq_self, llA, llM, llm, llS, lle_f, lle_t, lle2_f, lle2_t, llt_f, llt_t, llt2_f, llt2_t, leq_f, leq_t, lz_f, lzl_t, nI_add, nI_clamp, nle_f, nle_t, nlt_f, nlt_t, neq_f, neq_t, one_ne, h.n31, h0]; exact h
      · rw [slot_in hr, in_in (n := 6) (by decide) hr (by decide)]
        simp (disch := omega) only [↓gd_b, gd_t, gd_f, ↓ob1_s, ob1_s, ↓ob2_s, ob2_s, ↓om_n, ↓om_s, om_n, om_s, ↓lt1, ↓reduceIte, or_true, true_or, or_false, false_or, and_true, true_and, and_false, false_and, not_true_eq_false, not_false_eq_true, ite_self, S2_ret, eq_self, llA, llM, llm, llS, lle_f, lle_t, lle2_f, lle2_t, llt_f, llt_t, llt2_f, llt2_t, leq_f, leq_t, lz_f, lzl_t, nI_add, nI_clamp, nle_f, nle_t, nlt_f, nlt_t, neq_f, neq_t, one_ne, h.n31, h0, keep_in _ hr]; exact h.w15 ht hr x3
theorem pm_give (h : RR z b n M N) (x1 x2 x3 : Int32) : Rw z b n (f_yX8_give M x1 x2 x3) (f_yX9_give N x1 x2 x3) := by
  unfold f_yX8_give f_yX9_give f_yX9_isThread
  rcases ix6 x1 6 (by decide) with h1 | ⟨t, ht, rfl⟩
  · rw [at_out h1, in_out (n := 6) (by decide) (by decide) h1]; exact S2.ret ⟨rfl, h⟩
  · rw [at_in ht, in_in (n := 6) (by decide) ht (by decide)]
    by_cases h0 : M 6 t 0 = 0
    · simp (disch := omega) only [↓gd_b, gd_t, gd_f, ↓ob1_s, ob1_s, ↓ob2_s, ob2_s, ↓om_n, ↓om_s, om_n, om_s, ↓lt1, ↓reduceIte, or_true, true_or, or_false, false_or, and_true, true_and, and_false, false_and, not_true_eq_false, not_false_eq_true, ite_self, S2_ret, eq_self, llA, llM, llm, llS, lle_f, lle_t, lle2_f, lle2_t, llt_f, llt_t, llt2_f, llt2_t, leq_f, leq_t, lz_f, lzl_t, nI_add, nI_clamp, nle_f, nle_t, nlt_f, nlt_t, neq_f, neq_t, one_ne, h.n31, h0]; exact h
    · rcases ix6 x2 6 (by decide) with h2 | ⟨r, hr, rfl⟩
      · rw [slot_out h2, in_out (n := 6) (by decide) (by decide) h2]
        simp (disch := omega) only [↓gd_b, gd_t, gd_f, ↓ob1_s, ob1_s, ↓ob2_s, ob2_s, ↓om_n, ↓om_s, om_n, om_s, ↓lt1, ↓reduceIte, or_true, true_or, or_false, false_or, and_true, true_and, and_false, false_and, not_true_eq_false, not_false_eq_true, ite_self, S2_ret, eq_self, llA, llM, llm, llS, lle_f, lle_t, lle2_f, lle2_t, llt_f, llt_t, llt2_f, llt2_t, leq_f, leq_t, lz_f, lzl_t, nI_add, nI_clamp, nle_f, nle_t, nlt_f, nlt_t, neq_f, neq_t, one_ne, h.n31, h0]; exact h
      · rw [slot_in hr, in_in (n := 6) (by decide) hr (by decide)]
        by_cases h4 : x3 = -4
        · simp (disch := omega) only [↓gd_b, gd_t, gd_f, ↓ob1_s, ob1_s, ↓ob2_s, ob2_s, ↓om_n, ↓om_s, om_n, om_s, ↓lt1, ↓reduceIte, or_true, true_or, or_false, false_or, and_true, true_and, and_false, false_and, not_true_eq_false, not_false_eq_true, ite_self, S2_ret, eq_self, llA, llM, llm, llS, lle_f, lle_t, lle2_f, lle2_t, llt_f, llt_t, llt2_f, llt2_t, leq_f, leq_t, lz_f, lzl_t, nI_add, nI_clamp, nle_f, nle_t, nlt_f, nlt_t, neq_f, neq_t, one_ne, h.n31, h0, h4, grasp_in _ hr]
          exact h.w16 ht hr h0 (Or.inl rfl)
        · rcases h.ix x3 with h3 | ⟨i, hi, rfl⟩
          · rw [h.sato h3, h.isTo h3]
            simp (disch := omega) only [↓gd_b, gd_t, gd_f, ↓ob1_s, ob1_s, ↓ob2_s, ob2_s, ↓om_n, ↓om_s, om_n, om_s, ↓lt1, ↓reduceIte, or_true, true_or, or_false, false_or, and_true, true_and, and_false, false_and, not_true_eq_false, not_false_eq_true, ite_self, S2_ret, eq_self, llA, llM, llm, llS, lle_f, lle_t, lle2_f, lle2_t, llt_f, llt_t, llt2_f, llt2_t, leq_f, leq_t, lz_f, lzl_t, nI_add, nI_clamp, nle_f, nle_t, nlt_f, nlt_t, neq_f, neq_t, one_ne, h.n31, h0, h4]; exact h
          · rw [h.sat hi, h.isT hi]
            have h32 := h.z32
            simp (disch := omega) only [↓gd_b, gd_t, gd_f, ↓ob1_s, ob1_s, ↓ob2_s, ob2_s, ↓om_n, ↓om_s, om_n, om_s, ↓lt1, ↓reduceIte, or_true, true_or, or_false, false_or, and_true, true_and, and_false, false_and, not_true_eq_false, not_false_eq_true, ite_self, S2_ret, eq_self, llA, llM, llm, llS, lle_f, lle_t, lle2_f, lle2_t, llt_f, llt_t, llt2_f, llt2_t, leq_f, leq_t, lz_f, lzl_t, nI_add, nI_clamp, nle_f, nle_t, nlt_f, nlt_t, neq_f, neq_t, one_ne, h.n31, h0, grasp_in _ hr]
            exact h.w16 ht hr h0 (Or.inr ⟨i, hi, rfl⟩)
theorem pm_start (h : RR z b n M N) (x1 : Int32) : Rw z b n (f_yX8_start M x1) (f_yX9_start N x1) := by
  unfold f_yX8_start f_yX9_start
  rcases ix6 x1 6 (by decide) with h1 | ⟨t, ht, rfl⟩
  · rw [at_out h1, in_out (n := 6) (by decide) (by decide) h1]; exact S2.ret ⟨rfl, h⟩
  · rw [at_in ht, in_in (n := 6) (by decide) ht (by decide)]
    by_cases h1 : M 6 t 0 = 1
    · have h0 : ¬ M 6 t 0 = 0 := by rw [h1]; decide
      obtain ⟨a1, a2, a3, a4, a5, a6, a7, a8, a9, a10, a11⟩ := h.ti ht
      simp (disch := omega) only [↓gd_b, gd_t, gd_f, ↓ob1_s, ob1_s, ↓ob2_s, ob2_s, ↓om_n, ↓om_s, om_n, om_s, ↓lt1, ↓reduceIte, or_true, true_or, or_false, false_or, and_true, true_and, and_false, false_and, not_true_eq_false, not_false_eq_true, ite_self, S2_ret, eq_self, llA, llM, llm, llS, lle_f, lle_t, lle2_f, lle2_t, llt_f, llt_t, llt2_f, llt2_t, leq_f, leq_t, lz_f, lzl_t, nI_add, nI_clamp, nle_f, nle_t, nlt_f, nlt_t, neq_f, neq_t, one_ne, h.n31, h1, become_eq]
      refine h.bec ht h0 (Or.inl ⟨rfl, rfl, rfl⟩) (mp_eq _ _ _ _ _) ?_ ?_ (fun p y hp => mp_ne _ _ (by omega))
      · rw [mp_ne _ _ (by omega), h.n39 ht h0]
        exact a9 (by rw [h1]; decide) (by rw [h1]; decide) (by rw [h1]; decide)
      · rw [mp_ne _ _ (by omega), h.n40 ht h0]
        exact a10 (by rw [h1]; decide) (by rw [h1]; decide)
    · simp (disch := omega) only [↓gd_b, gd_t, gd_f, ↓ob1_s, ob1_s, ↓ob2_s, ob2_s, ↓om_n, ↓om_s, om_n, om_s, ↓lt1, ↓reduceIte, or_true, true_or, or_false, false_or, and_true, true_and, and_false, false_and, not_true_eq_false, not_false_eq_true, ite_self, S2_ret, eq_self, llA, llM, llm, llS, lle_f, lle_t, lle2_f, lle2_t, llt_f, llt_t, llt2_f, llt2_t, leq_f, leq_t, lz_f, lzl_t, nI_add, nI_clamp, nle_f, nle_t, nlt_f, nlt_t, neq_f, neq_t, one_ne, h.n31, h1]; exact h
end SET
