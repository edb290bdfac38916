section GET
variable {z b : Nat} {n : Lg} {M N : Mem}
theorem one_ne : ¬ (1 : Int32) = 0 := by decide
theorem st_cases {st : Nat} (h : st ≤ 7) : st = 0 ∨ st = 1 ∨ st = 2 ∨ st = 3 ∨ st = 4 ∨ st = 5 ∨ st = 6 ∨ st = 7 := by omega
theorem pm_told (h : RR z b n M N) (x1 x2 : Int32) : Rv (f_yX8_told M x1 x2) (f_yX9_told N x1 x2) := by
  unfold f_yX8_told f_yX9_told
  rcases ix6 x1 6 (by decide) with h1 | ⟨t, ht, rfl⟩
  · rw [at_out h1, in_out (n := 6) (by decide) (by decide) h1]; exact S2.ret rfl
  · rw [at_in ht, in_in (n := 6) (by decide) ht (by decide)]
    rcases ix6 x2 9 (by decide) with h2 | ⟨r, hr, rfl⟩
    · rw [in_out (n := 9) (by decide) (by decide) h2]
      have hn : ∀ k : Nat, k < 9 → ¬ x2 = nI k := fun k hk e => by
        rw [e] at h2
        exact h2.elim (nI_pos (by omega)) (nI_ge hk (by decide))
      have n0 : ¬ x2 = 0 := hn 0 (by decide)
      have n1 : ¬ x2 = 1 := hn 1 (by decide)
      have n2 : ¬ x2 = 2 := hn 2 (by decide)
      have n3 : ¬ x2 = 3 := hn 3 (by decide)
      have n4 : ¬ x2 = 4 := hn 4 (by decide)
      have n5 : ¬ x2 = 5 := hn 5 (by decide)
      have n6 : ¬ x2 = 6 := hn 6 (by decide)
      have n7 : ¬ x2 = 7 := hn 7 (by decide)
      have n8 : ¬ x2 = 8 := hn 8 (by decide)
      simp (disch := omega) only [↓gd_b, gd_t, gd_f, ↓ob1_s, ob1_s, ↓ob2_s, ob2_s, ↓om_n, ↓om_s, om_n, om_s, ↓lt1, ↓reduceIte, or_true, true_or, or_false, false_or, and_true, true_and, and_false, false_and, not_true_eq_false, not_false_eq_true, ite_self, S2_ret, eq_self, llA, llM, llm, llS, lle_f, lle_t, lle2_f, lle2_t, llt_f, llt_t, llt2_f, llt2_t, leq_f, leq_t, lz_f, lzl_t, nI_add, nI_clamp, nle_f, nle_t, nlt_f, nlt_t, neq_f, neq_t, one_ne, n0, n1, n2, n3, n4, n5, n6, n7, n8]
    · rw [in_in (n := 9) (by decide) hr (by decide)]
      obtain ⟨⟨st, b1, b2⟩, b3, b4, b5, b6, b7, b8, b9, b10, b11, b12⟩ := h.ti ht
      have e31 := h.n31 ht
      rcases (by omega : r = 0 ∨ r = 1 ∨ r = 2 ∨ r = 3 ∨ r = 4 ∨ r = 5 ∨ r = 6 ∨ r = 7 ∨ r = 8) with rfl | rfl | rfl | rfl | rfl | rfl | rfl | rfl | rfl
      · by_cases h0 : M 6 t 0 = 0 <;> simp (disch := omega) only [↓gd_b, gd_t, gd_f, ↓ob1_s, ob1_s, ↓ob2_s, ob2_s, ↓om_n, ↓om_s, om_n, om_s, ↓lt1, ↓reduceIte, or_true, true_or, or_false, false_or, and_true, true_and, and_false, false_and, not_true_eq_false, not_false_eq_true, ite_self, S2_ret, eq_self, llA, llM, llm, llS, lle_f, lle_t, lle2_f, lle2_t, llt_f, llt_t, llt2_f, llt2_t, leq_f, leq_t, lz_f, lzl_t, nI_add, nI_clamp, nle_f, nle_t, nlt_f, nlt_t, neq_f, neq_t, one_ne, e31, h0]
      · by_cases h0 : M 6 t 0 = 0 <;> simp (disch := omega) only [↓gd_b, gd_t, gd_f, ↓ob1_s, ob1_s, ↓ob2_s, ob2_s, ↓om_n, ↓om_s, om_n, om_s, ↓lt1, ↓reduceIte, or_true, true_or, or_false, false_or, and_true, true_and, and_false, false_and, not_true_eq_false, not_false_eq_true, ite_self, S2_ret, eq_self, llA, llM, llm, llS, lle_f, lle_t, lle2_f, lle2_t, llt_f, llt_t, llt2_f, llt2_t, leq_f, leq_t, lz_f, lzl_t, nI_add, nI_clamp, nle_f, nle_t, nlt_f, nlt_t, neq_f, neq_t, one_ne, e31, h0, h.n34]
      · by_cases h0 : M 6 t 0 = 0 <;> simp (disch := omega) only [↓gd_b, gd_t, gd_f, ↓ob1_s, ob1_s, ↓ob2_s, ob2_s, ↓om_n, ↓om_s, om_n, om_s, ↓lt1, ↓reduceIte, or_true, true_or, or_false, false_or, and_true, true_and, and_false, false_and, not_true_eq_false, not_false_eq_true, ite_self, S2_ret, eq_self, llA, llM, llm, llS, lle_f, lle_t, lle2_f, lle2_t, llt_f, llt_t, llt2_f, llt2_t, leq_f, leq_t, lz_f, lzl_t, nI_add, nI_clamp, nle_f, nle_t, nlt_f, nlt_t, neq_f, neq_t, one_ne, e31, h0, h.n37]
      · by_cases h0 : M 6 t 0 = 0 <;> simp (disch := omega) only [↓gd_b, gd_t, gd_f, ↓ob1_s, ob1_s, ↓ob2_s, ob2_s, ↓om_n, ↓om_s, om_n, om_s, ↓lt1, ↓reduceIte, or_true, true_or, or_false, false_or, and_true, true_and, and_false, false_and, not_true_eq_false, not_false_eq_true, ite_self, S2_ret, eq_self, llA, llM, llm, llS, lle_f, lle_t, lle2_f, lle2_t, llt_f, llt_t, llt2_f, llt2_t, leq_f, leq_t, lz_f, lzl_t, nI_add, nI_clamp, nle_f, nle_t, nlt_f, nlt_t, neq_f, neq_t, one_ne, e31, h0, h.n38]
      · have e := h.n35 ht
        by_cases h0 : M 6 t 0 = 0 <;> by_cases h4 : M 6 t 4 = 0 <;> simp (disch := omega) only [↓gd_b, gd_t, gd_f, ↓ob1_s, ob1_s, ↓ob2_s, ob2_s, ↓om_n, ↓om_s, om_n, om_s, ↓lt1, ↓reduceIte, or_true, true_or, or_false, false_or, and_true, true_and, and_false, false_and, not_true_eq_false, not_false_eq_true, ite_self, S2_ret, eq_self, llA, llM, llm, llS, lle_f, lle_t, lle2_f, lle2_t, llt_f, llt_t, llt2_f, llt2_t, leq_f, leq_t, lz_f, lzl_t, nI_add, nI_clamp, nle_f, nle_t, nlt_f, nlt_t, neq_f, neq_t, one_ne, e31, h0, e, h4]
      · rw [b2] at b10
        rcases st_cases b1 with rfl | rfl | rfl | rfl | rfl | rfl | rfl | rfl
        · have e := b10 (by decide) (by decide) (by decide)
          simp (disch := omega) only [↓gd_b, gd_t, gd_f, ↓ob1_s, ob1_s, ↓ob2_s, ob2_s, ↓om_n, ↓om_s, om_n, om_s, ↓lt1, ↓reduceIte, or_true, true_or, or_false, false_or, and_true, true_and, and_false, false_and, not_true_eq_false, not_false_eq_true, ite_self, S2_ret, eq_self, llA, llM, llm, llS, lle_f, lle_t, lle2_f, lle2_t, llt_f, llt_t, llt2_f, llt2_t, leq_f, leq_t, lz_f, lzl_t, nI_add, nI_clamp, nle_f, nle_t, nlt_f, nlt_t, neq_f, neq_t, one_ne, e31, b2, e]
        all_goals have e := h.n39 ht (by rw [b2]; decide)
        · have e' := b10 (by decide) (by decide) (by decide)
          simp (disch := omega) only [↓gd_b, gd_t, gd_f, ↓ob1_s, ob1_s, ↓ob2_s, ob2_s, ↓om_n, ↓om_s, om_n, om_s, ↓lt1, ↓reduceIte, or_true, true_or, or_false, false_or, and_true, true_and, and_false, false_and, not_true_eq_false, not_false_eq_true, ite_self, S2_ret, eq_self, llA, llM, llm, llS, lle_f, lle_t, lle2_f, lle2_t, llt_f, llt_t, llt2_f, llt2_t, leq_f, leq_t, lz_f, lzl_t, nI_add, nI_clamp, nle_f, nle_t, nlt_f, nlt_t, neq_f, neq_t, one_ne, e31, b2, e, f_yX9_in, e']
        · have e' := b10 (by decide) (by decide) (by decide)
          simp (disch := omega) only [↓gd_b, gd_t, gd_f, ↓ob1_s, ob1_s, ↓ob2_s, ob2_s, ↓om_n, ↓om_s, om_n, om_s, ↓lt1, ↓reduceIte, or_true, true_or, or_false, false_or, and_true, true_and, and_false, false_and, not_true_eq_false, not_false_eq_true, ite_self, S2_ret, eq_self, llA, llM, llm, llS, lle_f, lle_t, lle2_f, lle2_t, llt_f, llt_t, llt2_f, llt2_t, leq_f, leq_t, lz_f, lzl_t, nI_add, nI_clamp, nle_f, nle_t, nlt_f, nlt_t, neq_f, neq_t, one_ne, e31, b2, e, f_yX9_in, e']
        · simp (disch := omega) only [↓gd_b, gd_t, gd_f, ↓ob1_s, ob1_s, ↓ob2_s, ob2_s, ↓om_n, ↓om_s, om_n, om_s, ↓lt1, ↓reduceIte, or_true, true_or, or_false, false_or, and_true, true_and, and_false, false_and, not_true_eq_false, not_false_eq_true, ite_self, S2_ret, eq_self, llA, llM, llm, llS, lle_f, lle_t, lle2_f, lle2_t, llt_f, llt_t, llt2_f, llt2_t, leq_f, leq_t, lz_f, lzl_t, nI_add, nI_clamp, nle_f, nle_t, nlt_f, nlt_t, neq_f, neq_t, one_ne, e31, b2, e, f_yX9_in]
        · simp (disch := omega) only [↓gd_b, gd_t, gd_f, ↓ob1_s, ob1_s, ↓ob2_s, ob2_s, ↓om_n, ↓om_s, om_n, om_s, ↓lt1, ↓reduceIte, or_true, true_or, or_false, false_or, and_true, true_and, and_false, false_and, not_true_eq_false, not_false_eq_true, ite_self, S2_ret, eq_self, llA, llM, llm, llS, lle_f, lle_t, lle2_f, lle2_t, llt_f, llt_t, llt2_f, llt2_t, leq_f, leq_t, lz_f, lzl_t, nI_add, nI_clamp, nle_f, nle_t, nlt_f, nlt_t, neq_f, neq_t, one_ne, e31, b2, e, f_yX9_in]
        · have e' := b10 (by decide) (by decide) (by decide)
          simp (disch := omega) only [↓gd_b, gd_t, gd_f, ↓ob1_s, ob1_s, ↓ob2_s, ob2_s, ↓om_n, ↓om_s, om_n, om_s, ↓lt1, ↓reduceIte, or_true, true_or, or_false, false_or, and_true, true_and, and_false, false_and, not_true_eq_false, not_false_eq_true, ite_self, S2_ret, eq_self, llA, llM, llm, llS, lle_f, lle_t, lle2_f, lle2_t, llt_f, llt_t, llt2_f, llt2_t, leq_f, leq_t, lz_f, lzl_t, nI_add, nI_clamp, nle_f, nle_t, nlt_f, nlt_t, neq_f, neq_t, one_ne, e31, b2, e, f_yX9_in, e']
        · simp (disch := omega) only [↓gd_b, gd_t, gd_f, ↓ob1_s, ob1_s, ↓ob2_s, ob2_s, ↓om_n, ↓om_s, om_n, om_s, ↓lt1, ↓reduceIte, or_true, true_or, or_false, false_or, and_true, true_and, and_false, false_and, not_true_eq_false, not_false_eq_true, ite_self, S2_ret, eq_self, llA, llM, llm, llS, lle_f, lle_t, lle2_f, lle2_t, llt_f, llt_t, llt2_f, llt2_t, leq_f, leq_t, lz_f, lzl_t, nI_add, nI_clamp, nle_f, nle_t, nlt_f, nlt_t, neq_f, neq_t, one_ne, e31, b2, e, f_yX9_in]
        · have e' := b10 (by decide) (by decide) (by decide)
          simp (disch := omega) only [↓gd_b, gd_t, gd_f, ↓ob1_s, ob1_s, ↓ob2_s, ob2_s, ↓om_n, ↓om_s, om_n, om_s, ↓lt1, ↓reduceIte, or_true, true_or, or_false, false_or, and_true, true_and, and_false, false_and, not_true_eq_false, not_false_eq_true, ite_self, S2_ret, eq_self, llA, llM, llm, llS, lle_f, lle_t, lle2_f, lle2_t, llt_f, llt_t, llt2_f, llt2_t, leq_f, leq_t, lz_f, lzl_t, nI_add, nI_clamp, nle_f, nle_t, nlt_f, nlt_t, neq_f, neq_t, one_ne, e31, b2, e, f_yX9_in, e']
      · rw [b2] at b11
        rcases st_cases b1 with rfl | rfl | rfl | rfl | rfl | rfl | rfl | rfl
        · have e := b11 (by decide) (by decide)
          simp (disch := omega) only [↓gd_b, gd_t, gd_f, ↓ob1_s, ob1_s, ↓ob2_s, ob2_s, ↓om_n, ↓om_s, om_n, om_s, ↓lt1, ↓reduceIte, or_true, true_or, or_false, false_or, and_true, true_and, and_false, false_and, not_true_eq_false, not_false_eq_true, ite_self, S2_ret, eq_self, llA, llM, llm, llS, lle_f, lle_t, lle2_f, lle2_t, llt_f, llt_t, llt2_f, llt2_t, leq_f, leq_t, lz_f, lzl_t, nI_add, nI_clamp, nle_f, nle_t, nlt_f, nlt_t, neq_f, neq_t, one_ne, e31, b2, e]
        all_goals have e := h.n40 ht (by rw [b2]; decide)
        · have e' := b11 (by decide) (by decide)
          simp (disch := omega) only [↓gd_b, gd_t, gd_f, ↓ob1_s, ob1_s, ↓ob2_s, ob2_s, ↓om_n, ↓om_s, om_n, om_s, ↓lt1, ↓reduceIte, or_true, true_or, or_false, false_or, and_true, true_and, and_false, false_and, not_true_eq_false, not_false_eq_true, ite_self, S2_ret, eq_self, llA, llM, llm, llS, lle_f, lle_t, lle2_f, lle2_t, llt_f, llt_t, llt2_f, llt2_t, leq_f, leq_t, lz_f, lzl_t, nI_add, nI_clamp, nle_f, nle_t, nlt_f, nlt_t, neq_f, neq_t, one_ne, e31, b2, e, e']
        · have e' := b11 (by decide) (by decide)
          simp (disch := omega) only [↓gd_b, gd_t, gd_f, ↓ob1_s, ob1_s, ↓ob2_s, ob2_s, ↓om_n, ↓om_s, om_n, om_s, ↓lt1, ↓reduceIte, or_true, true_or, or_false, false_or, and_true, true_and, and_false, false_and, not_true_eq_false, not_false_eq_true, ite_self, S2_ret, eq_self, llA, llM, llm, llS, lle_f, lle_t, lle2_f, lle2_t, llt_f, llt_t, llt2_f, llt2_t, leq_f, leq_t, lz_f, lzl_t, nI_add, nI_clamp, nle_f, nle_t, nlt_f, nlt_t, neq_f, neq_t, one_ne, e31, b2, e, e']
        · have e' := b11 (by decide) (by decide)
          simp (disch := omega) only [↓gd_b, gd_t, gd_f, ↓ob1_s, ob1_s, ↓ob2_s, ob2_s, ↓om_n, ↓om_s, om_n, om_s, ↓lt1, ↓reduceIte, or_true, true_or, or_false, false_or, and_true, true_and, and_false, false_and, not_true_eq_false, not_false_eq_true, ite_self, S2_ret, eq_self, llA, llM, llm, llS, lle_f, lle_t, lle2_f, lle2_t, llt_f, llt_t, llt2_f, llt2_t, leq_f, leq_t, lz_f, lzl_t, nI_add, nI_clamp, nle_f, nle_t, nlt_f, nlt_t, neq_f, neq_t, one_ne, e31, b2, e, e']
        · simp (disch := omega) only [↓gd_b, gd_t, gd_f, ↓ob1_s, ob1_s, ↓ob2_s, ob2_s, ↓om_n, ↓om_s, om_n, om_s, ↓lt1, ↓reduceIte, or_true, true_or, or_false, false_or, and_true, true_and, and_false, false_and, not_true_eq_false, not_false_eq_true, ite_self, S2_ret, eq_self, llA, llM, llm, llS, lle_f, lle_t, lle2_f, lle2_t, llt_f, llt_t, llt2_f, llt2_t, leq_f, leq_t, lz_f, lzl_t, nI_add, nI_clamp, nle_f, nle_t, nlt_f, nlt_t, neq_f, neq_t, one_ne, e31, b2, e]
        · simp (disch := omega) only [↓gd_b, gd_t, gd_f, ↓ob1_s, ob1_s, ↓ob2_s, ob2_s, ↓om_n, ↓om_s, om_n, om_s, ↓lt1, ↓reduceIte, or_true, true_or, or_false, false_or, and_true, true_and, and_false, false_and, not_true_eq_false, not_false_eq_true, ite_self, S2_ret, eq_self, llA, llM, llm, llS, lle_f, lle_t, lle2_f, lle2_t, llt_f, llt_t, llt2_f, llt2_t, leq_f, leq_t, lz_f, lzl_t, nI_add, nI_clamp, nle_f, nle_t, nlt_f, nlt_t, neq_f, neq_t, one_ne, e31, b2, e]
        · have e' := b11 (by decide) (by decide)
          simp (disch := omega) only [↓gd_b, gd_t, gd_f, ↓ob1_s, ob1_s, ↓ob2_s, ob2_s, ↓om_n, ↓om_s, om_n, om_s, ↓lt1, ↓reduceIte, or_true, true_or, or_false, false_or, and_true, true_and, and_false, false_and, not_true_eq_false, not_false_eq_true, ite_self, S2_ret, eq_self, llA, llM, llm, llS, lle_f, lle_t, lle2_f, lle2_t, llt_f, llt_t, llt2_f, llt2_t, leq_f, leq_t, lz_f, lzl_t, nI_add, nI_clamp, nle_f, nle_t, nlt_f, nlt_t, neq_f, neq_t, one_ne, e31, b2, e, e']
        · have e' := b11 (by decide) (by decide)
          simp (disch := omega) only [↓gd_b, gd_t, gd_f, ↓ob1_s, ob1_s, ↓ob2_s, ob2_s, ↓om_n, ↓om_s, om_n, om_s, ↓lt1, ↓reduceIte, or_true, true_or, or_false, false_or, and_true, true_and, and_false, false_and, not_true_eq_false, not_false_eq_true, ite_self, S2_ret, eq_self, llA, llM, llm, llS, lle_f, lle_t, lle2_f, lle2_t, llt_f, llt_t, llt2_f, llt2_t, leq_f, leq_t, lz_f, lzl_t, nI_add, nI_clamp, nle_f, nle_t, nlt_f, nlt_t, neq_f, neq_t, one_ne, e31, b2, e, e']
      · by_cases h0 : M 6 t 0 = 0 <;> simp (disch := omega) only [↓gd_b, gd_t, gd_f, ↓ob1_s, ob1_s, ↓ob2_s, ob2_s, ↓om_n, ↓om_s, om_n, om_s, ↓lt1, ↓reduceIte, or_true, true_or, or_false, false_or, and_true, true_and, and_false, false_and, not_true_eq_false, not_false_eq_true, ite_self, S2_ret, eq_self, llA, llM, llm, llS, lle_f, lle_t, lle2_f, lle2_t, llt_f, llt_t, llt2_f, llt2_t, leq_f, leq_t, lz_f, lzl_t, nI_add, nI_clamp, nle_f, nle_t, nlt_f, nlt_t, neq_f, neq_t, one_ne, e31, h0, h.n46]
      · by_cases h0 : M 6 t 0 = 0 <;> simp (disch := omega) only [↓gd_b, gd_t, gd_f, ↓ob1_s, ob1_s, ↓ob2_s, ob2_s, ↓om_n, ↓om_s, om_n, om_s, ↓lt1, ↓reduceIte, or_true, true_or, or_false, false_or, and_true, true_and, and_false, false_and, not_true_eq_false, not_false_eq_true, ite_self, S2_ret, eq_self, llA, llM, llm, llS, lle_f, lle_t, lle2_f, lle2_t, llt_f, llt_t, llt2_f, llt2_t, leq_f, leq_t, lz_f, lzl_t, nI_add, nI_clamp, nle_f, nle_t, nlt_f, nlt_t, neq_f, neq_t, one_ne, e31, h0, h.n43]
end GET
