section OFF
variable {z b : Nat} {n : Lg} {M N : Mem}
theorem iadd0 (c : Int32) : c + 0 = c := Int32.add_zero c
theorem lk_howMany (h : RR z b n M N) {s y : Int32} (hs : s = 3 ∨ s = 4) : ∀ d k m c, k + d = 6 → S2 (f_yX1_howMany_L16 (m + d + 1) M s y c 6 (nI k)) (f_yX9_howMany_L5 (m + d + 1) N y s c (nI k)) (fun a b => a = b) := by
  intro d
  induction d with
  | zero =>
    intro k m c hk
    rw [f_yX1_howMany_L16, f_yX9_howMany_L5]
    simp (disch := omega) only [↓gd_b, gd_t, gd_f, ↓ob1_s, ob1_s, ↓ob2_s, ob2_s, ↓om_n, ↓om_s, om_n, om_s, ↓lt1, ↓reduceIte, or_true, true_or, or_false, false_or, and_true, true_and, and_false, false_and, not_true_eq_false, not_false_eq_true, ite_self, S2_ret, eq_self, llA, llM, llm, llS, lle_f, lle_t, lle2_f, lle2_t, llt_f, llt_t, llt2_f, llt2_t, leq_f, leq_t, lz_f, lzl_t, nI_add, nI_clamp, nle_f, nle_t, nlt_f, nlt_t, neq_f, neq_t]
  | succ d ih =>
    intro k m c hk
    have hk6 : k < 6 := by omega
    rw [f_yX1_howMany_L16, f_yX9_howMany_L5]
    by_cases h1 : M 6 k 0 = s
    · have h0 : ¬ M 6 k 0 = 0 := by rw [h1]; rcases hs with rfl | rfl <;> decide
      by_cases h2 : M 6 k 11 = y
      · simp (disch := omega) only [↓gd_b, gd_t, gd_f, ↓ob1_s, ob1_s, ↓ob2_s, ob2_s, ↓om_n, ↓om_s, om_n, om_s, ↓lt1, ↓reduceIte, or_true, true_or, or_false, false_or, and_true, true_and, and_false, false_and, not_true_eq_false, not_false_eq_true, ite_self, S2_ret, eq_self, llA, llM, llm, llS, lle_f, lle_t, lle2_f, lle2_t, llt_f, llt_t, llt2_f, llt2_t, leq_f, leq_t, lz_f, lzl_t, nI_add, nI_clamp, nle_f, nle_t, nlt_f, nlt_t, neq_f, neq_t, h.n31, h.n39 hk6 h0, h1, h2]
        exact ih (k + 1) m (c + 1) (by omega)
      · simp (disch := omega) only [↓gd_b, gd_t, gd_f, ↓ob1_s, ob1_s, ↓ob2_s, ob2_s, ↓om_n, ↓om_s, om_n, om_s, ↓lt1, ↓reduceIte, or_true, true_or, or_false, false_or, and_true, true_and, and_false, false_and, not_true_eq_false, not_false_eq_true, ite_self, S2_ret, eq_self, llA, llM, llm, llS, lle_f, lle_t, lle2_f, lle2_t, llt_f, llt_t, llt2_f, llt2_t, leq_f, leq_t, lz_f, lzl_t, nI_add, nI_clamp, nle_f, nle_t, nlt_f, nlt_t, neq_f, neq_t, h.n31, h.n39 hk6 h0, h1, h2, iadd0]
        exact ih (k + 1) m c (by omega)
    · simp (disch := omega) only [↓gd_b, gd_t, gd_f, ↓ob1_s, ob1_s, ↓ob2_s, ob2_s, ↓om_n, ↓om_s, om_n, om_s, ↓lt1, ↓reduceIte, or_true, true_or, or_false, false_or, and_true, true_and, and_false, false_and, not_true_eq_false, not_false_eq_true, ite_self, S2_ret, eq_self, llA, llM, llm, llS, lle_f, lle_t, lle2_f, lle2_t, llt_f, llt_t, llt2_f, llt2_t, leq_f, leq_t, lz_f, lzl_t, nI_add, nI_clamp, nle_f, nle_t, nlt_f, nlt_t, neq_f, neq_t, h.n31, h1, iadd0]
      exact ih (k + 1) m c (by omega)
theorem lk_howMany' (h : RR z b n M N) {s y : Int32} (hs : s = 3 ∨ s = 4) : S2 (f_yX1_howMany M s y) (f_yX9_howMany N y s) (fun a b => a = b) := lk_howMany h hs 6 0 63 0 (by decide)
theorem pm_of (h : RR z b n M N) (x1 x2 : Int32) : Rv (f_yX8_of M x1 x2) (f_yX9_of N x1 x2) := by
  have h32 := h.z32
  unfold f_yX8_of f_yX9_of
  rcases h.ix x1 with h1 | ⟨i, hi, rfl⟩
  · rw [h.sato h1, h.isTo h1]; exact S2.ret rfl
  · obtain ⟨l, kd, a1, a2, a3, a4, a5, a6, a7, a8⟩ := h.oi hi
    rw [h.sat hi, h.isT hi]
    rcases ix6 x2 6 (by decide) with h2 | ⟨r, hr, rfl⟩
    · rw [in_out (n := 6) (by decide) (by decide) h2]
      have hn : ∀ k : Nat, k < 6 → ¬ x2 = nI k := fun k hk e => by
        rw [e] at h2
        exact h2.elim (nI_pos (by omega)) (nI_ge hk (by decide))
      have n0 : ¬ x2 = 0 := hn 0 (by decide)
      have n1 : ¬ x2 = 1 := hn 1 (by decide)
      have n2 : ¬ x2 = 2 := hn 2 (by decide)
      have n3 : ¬ x2 = 3 := hn 3 (by decide)
      have n4 : ¬ x2 = 4 := hn 4 (by decide)
      have n5 : ¬ x2 = 5 := hn 5 (by decide)
      simp (disch := omega) only [↓gd_b, gd_t, gd_f, ↓ob1_s, ob1_s, ↓ob2_s, ob2_s, ↓om_n, ↓om_s, om_n, om_s, ↓lt1, ↓reduceIte, or_true, true_or, or_false, false_or, and_true, true_and, and_false, false_and, not_true_eq_false, not_false_eq_true, ite_self, S2_ret, eq_self, llA, llM, llm, llS, lle_f, lle_t, lle2_f, lle2_t, llt_f, llt_t, llt2_f, llt2_t, leq_f, leq_t, lz_f, lzl_t, nI_add, nI_clamp, nle_f, nle_t, nlt_f, nlt_t, neq_f, neq_t, one_ne, n0, n1, n2, n3, n4, n5]
    · rw [in_in (n := 6) (by decide) hr (by decide)]
      rcases (by omega : r = 0 ∨ r = 1 ∨ r = 2 ∨ r = 3 ∨ r = 4 ∨ r = 5) with rfl | rfl | rfl | rfl | rfl | rfl
      · simp (disch := omega) only [↓gd_b, gd_t, gd_f, ↓ob1_s, ob1_s, ↓ob2_s, ob2_s, ↓om_n, ↓om_s, om_n, om_s, ↓lt1, ↓reduceIte, or_true, true_or, or_false, false_or, and_true, true_and, and_false, false_and, not_true_eq_false, not_false_eq_true, ite_self, S2_ret, eq_self, llA, llM, llm, llS, lle_f, lle_t, lle2_f, lle2_t, llt_f, llt_t, llt2_f, llt2_t, leq_f, leq_t, lz_f, lzl_t, nI_add, nI_clamp, nle_f, nle_t, nlt_f, nlt_t, neq_f, neq_t, one_ne, h.g1, h.n21]
      · by_cases hk : kd ≤ 3
        · have hl := a6 hk
          by_cases hk0 : kd = 0
          · have e := a7 hk0
            subst hl hk0
            simp (disch := omega) only [↓gd_b, gd_t, gd_f, ↓ob1_s, ob1_s, ↓ob2_s, ob2_s, ↓om_n, ↓om_s, om_n, om_s, ↓lt1, ↓reduceIte, or_true, true_or, or_false, false_or, and_true, true_and, and_false, false_and, not_true_eq_false, not_false_eq_true, ite_self, S2_ret, eq_self, llA, llM, llm, llS, lle_f, lle_t, lle2_f, lle2_t, llt_f, llt_t, llt2_f, llt2_t, leq_f, leq_t, lz_f, lzl_t, nI_add, nI_clamp, nle_f, nle_t, nlt_f, nlt_t, neq_f, neq_t, one_ne, h.g1, h.n21, h.n22, h.n23, a5, a2, f_yX7_isRow, f_yX9_isBox, f_yX9_in, e]
            rfl
          · simp (disch := omega) only [↓gd_b, gd_t, gd_f, ↓ob1_s, ob1_s, ↓ob2_s, ob2_s, ↓om_n, ↓om_s, om_n, om_s, ↓lt1, ↓reduceIte, or_true, true_or, or_false, false_or, and_true, true_and, and_false, false_and, not_true_eq_false, not_false_eq_true, ite_self, S2_ret, eq_self, llA, llM, llm, llS, lle_f, lle_t, lle2_f, lle2_t, llt_f, llt_t, llt2_f, llt2_t, leq_f, leq_t, lz_f, lzl_t, nI_add, nI_clamp, nle_f, nle_t, nlt_f, nlt_t, neq_f, neq_t, one_ne, h.g1, h.n21, h.n22, h.n23, a5, f_yX7_isRow, f_yX9_isBox, f_yX9_in]
        · simp (disch := omega) only [↓gd_b, gd_t, gd_f, ↓ob1_s, ob1_s, ↓ob2_s, ob2_s, ↓om_n, ↓om_s, om_n, om_s, ↓lt1, ↓reduceIte, or_true, true_or, or_false, false_or, and_true, true_and, and_false, false_and, not_true_eq_false, not_false_eq_true, ite_self, S2_ret, eq_self, llA, llM, llm, llS, lle_f, lle_t, lle2_f, lle2_t, llt_f, llt_t, llt2_f, llt2_t, leq_f, leq_t, lz_f, lzl_t, nI_add, nI_clamp, nle_f, nle_t, nlt_f, nlt_t, neq_f, neq_t, one_ne, h.g1, h.n21, h.n22, h.n23, a5, a2, f_yX7_isRow, f_yX9_isBox, f_yX9_in]
      · simp (disch := omega) only [↓gd_b, gd_t, gd_f, ↓ob1_s, ob1_s, ↓ob2_s, ob2_s, ↓om_n, ↓om_s, om_n, om_s, ↓lt1, ↓reduceIte, or_true, true_or, or_false, false_or, and_true, true_and, and_false, false_and, not_true_eq_false, not_false_eq_true, ite_self, S2_ret, eq_self, llA, llM, llm, llS, lle_f, lle_t, lle2_f, lle2_t, llt_f, llt_t, llt2_f, llt2_t, leq_f, leq_t, lz_f, lzl_t, nI_add, nI_clamp, nle_f, nle_t, nlt_f, nlt_t, neq_f, neq_t, one_ne, h.g1, h.n25]
      · simp (disch := omega) only [↓gd_b, gd_t, gd_f, ↓ob1_s, ob1_s, ↓ob2_s, ob2_s, ↓om_n, ↓om_s, om_n, om_s, ↓lt1, ↓reduceIte, or_true, true_or, or_false, false_or, and_true, true_and, and_false, false_and, not_true_eq_false, not_false_eq_true, ite_self, S2_ret, eq_self, llA, llM, llm, llS, lle_f, lle_t, lle2_f, lle2_t, llt_f, llt_t, llt2_f, llt2_t, leq_f, leq_t, lz_f, lzl_t, nI_add, nI_clamp, nle_f, nle_t, nlt_f, nlt_t, neq_f, neq_t, one_ne, h.g1, h.n26]
      · simp (disch := omega) only [↓gd_b, gd_t, gd_f, ↓ob1_s, ob1_s, ↓ob2_s, ob2_s, ↓om_n, ↓om_s, om_n, om_s, ↓lt1, ↓reduceIte, or_true, true_or, or_false, false_or, and_true, true_and, and_false, false_and, not_true_eq_false, not_false_eq_true, ite_self, S2_ret, eq_self, llA, llM, llm, llS, lle_f, lle_t, lle2_f, lle2_t, llt_f, llt_t, llt2_f, llt2_t, leq_f, leq_t, lz_f, lzl_t, nI_add, nI_clamp, nle_f, nle_t, nlt_f, nlt_t, neq_f, neq_t, one_ne, h.g1]
        exact (lk_howMany' h (Or.inl rfl)).b11 (fun x y e => S2.ret e)
      · simp (disch := omega) only [↓gd_b, gd_t, gd_f, ↓ob1_s, ob1_s, ↓ob2_s, ob2_s, ↓om_n, ↓om_s, om_n, om_s, ↓lt1, ↓reduceIte, or_true, true_or, or_false, false_or, and_true, true_and, and_false, false_and, not_true_eq_false, not_false_eq_true, ite_self, S2_ret, eq_self, llA, llM, llm, llS, lle_f, lle_t, lle2_f, lle2_t, llt_f, llt_t, llt2_f, llt2_t, leq_f, leq_t, lz_f, lzl_t, nI_add, nI_clamp, nle_f, nle_t, nlt_f, nlt_t, neq_f, neq_t, one_ne, h.g1]
        exact (lk_howMany' h (Or.inr rfl)).b11 (fun x y e => S2.ret e)
/-! under way -/
def uw (st : Nat) : Int32 := if 2 ≤ st ∧ st ≤ 6 then 1 else 0
theorem uwM {t st : Nat} (hst : st ≤ 7) (e : M 6 t 0 = nI st) : f_yX5_isUnderWay M t = some (uw st) := by
  unfold f_yX5_isUnderWay uw
  rw [e]
  by_cases h1 : 2 ≤ st
  · by_cases h2 : st ≤ 6 <;> simp (disch := omega) only [↓gd_b, gd_t, gd_f, ↓ob1_s, ob1_s, ↓ob2_s, ob2_s, ↓om_n, ↓om_s, om_n, om_s, ↓lt1, ↓reduceIte, or_true, true_or, or_false, false_or, and_true, true_and, and_false, false_and, not_true_eq_false, not_false_eq_true, ite_self, S2_ret, eq_self, llA, llM, llm, llS, lle_f, lle_t, lle2_f, lle2_t, llt_f, llt_t, llt2_f, llt2_t, leq_f, leq_t, lz_f, lzl_t, nI_add, nI_clamp, nle_f, nle_t, nlt_f, nlt_t, neq_f, neq_t, h1, h2]
  · simp (disch := omega) only [↓gd_b, gd_t, gd_f, ↓ob1_s, ob1_s, ↓ob2_s, ob2_s, ↓om_n, ↓om_s, om_n, om_s, ↓lt1, ↓reduceIte, or_true, true_or, or_false, false_or, and_true, true_and, and_false, false_and, not_true_eq_false, not_false_eq_true, ite_self, S2_ret, eq_self, llA, llM, llm, llS, lle_f, lle_t, lle2_f, lle2_t, llt_f, llt_t, llt2_f, llt2_t, leq_f, leq_t, lz_f, lzl_t, nI_add, nI_clamp, nle_f, nle_t, nlt_f, nlt_t, neq_f, neq_t]
theorem uwN (h : RR z b n M N) {t st : Nat} (ht : t < 6) (hst : st ≤ 7) (e : M 6 t 0 = nI st) : f_yX9_isUnderWay N (nI t) = some (uw st) := by
  unfold f_yX9_isUnderWay f_yX9_in uw
  by_cases h1 : 2 ≤ st
  · by_cases h2 : st ≤ 6 <;> simp (disch := omega) only [↓gd_b, gd_t, gd_f, ↓ob1_s, ob1_s, ↓ob2_s, ob2_s, ↓om_n, ↓om_s, om_n, om_s, ↓lt1, ↓reduceIte, or_true, true_or, or_false, false_or, and_true, true_and, and_false, false_and, not_true_eq_false, not_false_eq_true, ite_self, S2_ret, eq_self, llA, llM, llm, llS, lle_f, lle_t, lle2_f, lle2_t, llt_f, llt_t, llt2_f, llt2_t, leq_f, leq_t, lz_f, lzl_t, nI_add, nI_clamp, nle_f, nle_t, nlt_f, nlt_t, neq_f, neq_t, h1, h2, h.n31, e]
  · simp (disch := omega) only [↓gd_b, gd_t, gd_f, ↓ob1_s, ob1_s, ↓ob2_s, ob2_s, ↓om_n, ↓om_s, om_n, om_s, ↓lt1, ↓reduceIte, or_true, true_or, or_false, false_or, and_true, true_and, and_false, false_and, not_true_eq_false, not_false_eq_true, ite_self, S2_ret, eq_self, llA, llM, llm, llS, lle_f, lle_t, lle2_f, lle2_t, llt_f, llt_t, llt2_f, llt2_t, leq_f, leq_t, lz_f, lzl_t, nI_add, nI_clamp, nle_f, nle_t, nlt_f, nlt_t, neq_f, neq_t, h.n31, e]
theorem uw_cases (st : Nat) : (uw st = 1 ∧ 2 ≤ st ∧ st ≤ 6) ∨ (uw st = 0 ∧ ¬ (2 ≤ st ∧ st ≤ 6)) := by
  unfold uw
  by_cases h : 2 ≤ st ∧ st ≤ 6
  · rw [if_pos h]; exact Or.inl ⟨rfl, h⟩
  · rw [if_neg h]; exact Or.inr ⟨rfl, h⟩
theorem lk_under (h : RR z b n M N) {y : Int32} : ∀ d k m c, k + d = 6 → ∃ c', f_yX1_howManyUnderWay_L13 (m + d + 1) M c 6 (nI k) = some c' ∧ f_yX9_count_L16 (m + d + 1) N y c (nI k) = f_yX9_count_L16 (m + 1) N y c' 6 := by
  intro d
  induction d with
  | zero =>
    intro k m c hk
    obtain rfl : k = 6 := by omega
    refine ⟨c, ?_, rfl⟩
    rw [f_yX1_howManyUnderWay_L13]
    simp (disch := omega) only [↓gd_b, gd_t, gd_f, ↓ob1_s, ob1_s, ↓ob2_s, ob2_s, ↓om_n, ↓om_s, om_n, om_s, ↓lt1, ↓reduceIte, or_true, true_or, or_false, false_or, and_true, true_and, and_false, false_and, not_true_eq_false, not_false_eq_true, ite_self, S2_ret, eq_self, llA, llM, llm, llS, lle_f, lle_t, lle2_f, lle2_t, llt_f, llt_t, llt2_f, llt2_t, leq_f, leq_t, lz_f, lzl_t, nI_add, nI_clamp, nle_f, nle_t, nlt_f, nlt_t, neq_f, neq_t]
  | succ d ih =>
    intro k m c hk
    have hk6 : k < 6 := by omega
    obtain ⟨st, s1, s2⟩ := (h.ti hk6).1
    rw [f_yX1_howManyUnderWay_L13, f_yX9_count_L16]
    rcases uw_cases st with ⟨e, _⟩ | ⟨e, _⟩
    · obtain ⟨c', e1, e2⟩ := ih (k + 1) m (c + 1) (by omega)
      refine ⟨c', ?_, ?_⟩
      · rw [← e1]
        simp (disch := omega) only [↓gd_b, gd_t, gd_f, ↓ob1_s, ob1_s, ↓ob2_s, ob2_s, ↓om_n, ↓om_s, om_n, om_s, ↓lt1, ↓reduceIte, or_true, true_or, or_false, false_or, and_true, true_and, and_false, false_and, not_true_eq_false, not_false_eq_true, ite_self, S2_ret, eq_self, llA, llM, llm, llS, lle_f, lle_t, lle2_f, lle2_t, llt_f, llt_t, llt2_f, llt2_t, leq_f, leq_t, lz_f, lzl_t, nI_add, nI_clamp, nle_f, nle_t, nlt_f, nlt_t, neq_f, neq_t, uwM s1 s2, e, one_ne]
        rfl
      · rw [← e2]
        simp (disch := omega) only [↓gd_b, gd_t, gd_f, ↓ob1_s, ob1_s, ↓ob2_s, ob2_s, ↓om_n, ↓om_s, om_n, om_s, ↓lt1, ↓reduceIte, or_true, true_or, or_false, false_or, and_true, true_and, and_false, false_and, not_true_eq_false, not_false_eq_true, ite_self, S2_ret, eq_self, llA, llM, llm, llS, lle_f, lle_t, lle2_f, lle2_t, llt_f, llt_t, llt2_f, llt2_t, leq_f, leq_t, lz_f, lzl_t, nI_add, nI_clamp, nle_f, nle_t, nlt_f, nlt_t, neq_f, neq_t, uwN h hk6 s1 s2, e, one_ne]
        rfl
    · obtain ⟨c', e1, e2⟩ := ih (k + 1) m c (by omega)
      refine ⟨c', ?_, ?_⟩
      · rw [← e1]
        simp (disch := omega) only [↓gd_b, gd_t, gd_f, ↓ob1_s, ob1_s, ↓ob2_s, ob2_s, ↓om_n, ↓om_s, om_n, om_s, ↓lt1, ↓reduceIte, or_true, true_or, or_false, false_or, and_true, true_and, and_false, false_and, not_true_eq_false, not_false_eq_true, ite_self, S2_ret, eq_self, llA, llM, llm, llS, lle_f, lle_t, lle2_f, lle2_t, llt_f, llt_t, llt2_f, llt2_t, leq_f, leq_t, lz_f, lzl_t, nI_add, nI_clamp, nle_f, nle_t, nlt_f, nlt_t, neq_f, neq_t, uwM s1 s2, e, one_ne]
        rfl
      · rw [← e2]
        simp (disch := omega) only [↓gd_b, gd_t, gd_f, ↓ob1_s, ob1_s, ↓ob2_s, ob2_s, ↓om_n, ↓om_s, om_n, om_s, ↓lt1, ↓reduceIte, or_true, true_or, or_false, false_or, and_true, true_and, and_false, false_and, not_true_eq_false, not_false_eq_true, ite_self, S2_ret, eq_self, llA, llM, llm, llS, lle_f, lle_t, lle2_f, lle2_t, llt_f, llt_t, llt2_f, llt2_t, leq_f, leq_t, lz_f, lzl_t, nI_add, nI_clamp, nle_f, nle_t, nlt_f, nlt_t, neq_f, neq_t, uwN h hk6 s1 s2, e, one_ne, iadd0]
        rfl
theorem pm_count (h : RR z b n M N) (x1 : Int32) : Rv (f_yX8_count M x1) (f_yX9_count N x1) := by
  unfold f_yX9_count
  rcases ix6 x1 17 (by decide) with h1 | ⟨r, hr, rfl⟩
  · rw [in_out (n := 17) (by decide) (by decide) h1]
    have hn : ∀ k : Nat, k < 17 → ¬ x1 = nI k := fun k hk e => by
      rw [e] at h1
      exact h1.elim (nI_pos (by omega)) (nI_ge hk (by decide))
    have e : f_yX8_count M x1 = some (-1) := by
      unfold f_yX8_count
      have n0 : ¬ x1 = 0 := hn 0 (by decide)
      have n1 : ¬ x1 = 1 := hn 1 (by decide)
      have n2 : ¬ x1 = 2 := hn 2 (by decide)
      have n3 : ¬ x1 = 3 := hn 3 (by decide)
      have n4 : ¬ x1 = 4 := hn 4 (by decide)
      have n5 : ¬ x1 = 5 := hn 5 (by decide)
      have n6 : ¬ x1 = 6 := hn 6 (by decide)
      have n7 : ¬ x1 = 7 := hn 7 (by decide)
      have n8 : ¬ x1 = 8 := hn 8 (by decide)
      have n9 : ¬ x1 = 9 := hn 9 (by decide)
      have n10 : ¬ x1 = 10 := hn 10 (by decide)
      have n11 : ¬ x1 = 11 := hn 11 (by decide)
      have n12 : ¬ x1 = 12 := hn 12 (by decide)
      have n13 : ¬ x1 = 13 := hn 13 (by decide)
      have n14 : ¬ x1 = 14 := hn 14 (by decide)
      have n15 : ¬ x1 = 15 := hn 15 (by decide)
      have n16 : ¬ x1 = 16 := hn 16 (by decide)
      by_cases h0 : x1 < 1
      · simp only [h0, n0, n1, n2, n3, n4, n5, n6, n7, n8, n9, n10, n11, n12, n13, n14, n15, n16, ↓reduceIte]
      · have h11 : (11 : Int32) < x1 := by
          rcases h1 with h1 | h1
          · exact absurd (show x1 < 1 by rw [Int32.lt_iff_toInt_lt] at h1 ⊢; exact Int.lt_trans h1 (by decide)) h0
          · rw [Int32.lt_iff_toInt_lt]
            rw [Int32.le_iff_toInt_le] at h1
            exact Int.lt_of_lt_of_le (by decide) h1
        simp only [h0, h11, n0, n1, n2, n3, n4, n5, n6, n7, n8, n9, n10, n11, n12, n13, n14, n15, n16, ↓reduceIte]
    rw [e]; exact S2.ret rfl
  · rw [in_in (n := 17) (by decide) hr (by decide)]
    obtain ⟨c', e1, e2⟩ := lk_under (y := nI r) h 6 0 63 0 (by decide)
    have e1' : f_yX1_howManyUnderWay M = some c' := e1
    have e2' : f_yX9_count_L16 70 N (nI r) 0 0 = f_yX9_count_L16 (63 + 1) N (nI r) c' 6 := e2
    rw [e2', f_yX9_count_L16]
    unfold f_yX8_count
    have d66 : (6 : Int32) ≤ 6 := by decide
    rcases (by omega : r = 0 ∨ (1 ≤ r ∧ r ≤ 11) ∨ r = 12 ∨ r = 13 ∨ r = 14 ∨ r = 15 ∨ r = 16) with rfl | hr | rfl | rfl | rfl | rfl | rfl
    · simp (disch := omega) only [↓gd_b, gd_t, gd_f, ↓ob1_s, ob1_s, ↓ob2_s, ob2_s, ↓om_n, ↓om_s, om_n, om_s, ↓lt1, ↓reduceIte, or_true, true_or, or_false, false_or, and_true, true_and, and_false, false_and, not_true_eq_false, not_false_eq_true, ite_self, S2_ret, eq_self, llA, llM, llm, llS, lle_f, lle_t, lle2_f, lle2_t, llt_f, llt_t, llt2_f, llt2_t, leq_f, leq_t, lz_f, lzl_t, nI_add, nI_clamp, nle_f, nle_t, nlt_f, nlt_t, neq_f, neq_t, one_ne, d66, h.ntime]
    · have e3 := h.n51 (show r < 12 by omega)
      rcases (by omega : r = 1 ∨ r = 2 ∨ r = 3 ∨ r = 4 ∨ r = 5 ∨ r = 6 ∨ r = 7 ∨ r = 8 ∨ r = 9 ∨ r = 10 ∨ r = 11) with rfl | rfl | rfl | rfl | rfl | rfl | rfl | rfl | rfl | rfl | rfl <;> simp (disch := omega) only [↓gd_b, gd_t, gd_f, ↓ob1_s, ob1_s, ↓ob2_s, ob2_s, ↓om_n, ↓om_s, om_n, om_s, ↓lt1, ↓reduceIte, or_true, true_or, or_false, false_or, and_true, true_and, and_false, false_and, not_true_eq_false, not_false_eq_true, ite_self, S2_ret, eq_self, llA, llM, llm, llS, lle_f, lle_t, lle2_f, lle2_t, llt_f, llt_t, llt2_f, llt2_t, leq_f, leq_t, lz_f, lzl_t, nI_add, nI_clamp, nle_f, nle_t, nlt_f, nlt_t, neq_f, neq_t, one_ne, d66, e3]
    · simp (disch := omega) only [↓gd_b, gd_t, gd_f, ↓ob1_s, ob1_s, ↓ob2_s, ob2_s, ↓om_n, ↓om_s, om_n, om_s, ↓lt1, ↓reduceIte, or_true, true_or, or_false, false_or, and_true, true_and, and_false, false_and, not_true_eq_false, not_false_eq_true, ite_self, S2_ret, eq_self, llA, llM, llm, llS, lle_f, lle_t, lle2_f, lle2_t, llt_f, llt_t, llt2_f, llt2_t, leq_f, leq_t, lz_f, lzl_t, nI_add, nI_clamp, nle_f, nle_t, nlt_f, nlt_t, neq_f, neq_t, one_ne, d66, h.nmany]
    · simp (disch := omega) only [↓gd_b, gd_t, gd_f, ↓ob1_s, ob1_s, ↓ob2_s, ob2_s, ↓om_n, ↓om_s, om_n, om_s, ↓lt1, ↓reduceIte, or_true, true_or, or_false, false_or, and_true, true_and, and_false, false_and, not_true_eq_false, not_false_eq_true, ite_self, S2_ret, eq_self, llA, llM, llm, llS, lle_f, lle_t, lle2_f, lle2_t, llt_f, llt_t, llt2_f, llt2_t, leq_f, leq_t, lz_f, lzl_t, nI_add, nI_clamp, nle_f, nle_t, nlt_f, nlt_t, neq_f, neq_t, one_ne, d66, h.nsz]
    · simp (disch := omega) only [↓gd_b, gd_t, gd_f, ↓ob1_s, ob1_s, ↓ob2_s, ob2_s, ↓om_n, ↓om_s, om_n, om_s, ↓lt1, ↓reduceIte, or_true, true_or, or_false, false_or, and_true, true_and, and_false, false_and, not_true_eq_false, not_false_eq_true, ite_self, S2_ret, eq_self, llA, llM, llm, llS, lle_f, lle_t, lle2_f, lle2_t, llt_f, llt_t, llt2_f, llt2_t, leq_f, leq_t, lz_f, lzl_t, nI_add, nI_clamp, nle_f, nle_t, nlt_f, nlt_t, neq_f, neq_t, one_ne, d66, e1']
    · simp (disch := omega) only [↓gd_b, gd_t, gd_f, ↓ob1_s, ob1_s, ↓ob2_s, ob2_s, ↓om_n, ↓om_s, om_n, om_s, ↓lt1, ↓reduceIte, or_true, true_or, or_false, false_or, and_true, true_and, and_false, false_and, not_true_eq_false, not_false_eq_true, ite_self, S2_ret, eq_self, llA, llM, llm, llS, lle_f, lle_t, lle2_f, lle2_t, llt_f, llt_t, llt2_f, llt2_t, leq_f, leq_t, lz_f, lzl_t, nI_add, nI_clamp, nle_f, nle_t, nlt_f, nlt_t, neq_f, neq_t, one_ne, d66, h.nacts]
    · simp (disch := omega) only [↓gd_b, gd_t, gd_f, ↓ob1_s, ob1_s, ↓ob2_s, ob2_s, ↓om_n, ↓om_s, om_n, om_s, ↓lt1, ↓reduceIte, or_true, true_or, or_false, false_or, and_true, true_and, and_false, false_and, not_true_eq_false, not_false_eq_true, ite_self, S2_ret, eq_self, llA, llM, llm, llS, lle_f, lle_t, lle2_f, lle2_t, llt_f, llt_t, llt2_f, llt2_t, leq_f, leq_t, lz_f, lzl_t, nI_add, nI_clamp, nle_f, nle_t, nlt_f, nlt_t, neq_f, neq_t, one_ne, d66, h.nmet]
/-! log, trace -/
theorem xor_nn {a d : Nat} (ha : a < 2147483648) (hd : d < 2147483648) : 0 ≤ (nI a ^^^ nI d) := by
  rw [Int32.le_iff_toInt_le]
  show 0 ≤ (nI a ^^^ nI d).toBitVec.toInt
  rw [Int32.toBitVec_xor]
  have h1 : (nI a).toBitVec.msb = false := by
    rw [BitVec.msb_eq_toInt]
    have : (nI a).toBitVec.toInt = (a : Int) := nI_toInt ha
    rw [this]; simp
  have h2 : (nI d).toBitVec.msb = false := by
    rw [BitVec.msb_eq_toInt]
    have : (nI d).toBitVec.toInt = (d : Int) := nI_toInt hd
    rw [this]; simp
  have h3 : ((nI a).toBitVec ^^^ (nI d).toBitVec).msb = false := by rw [BitVec.msb_xor, h1, h2]; rfl
  rw [BitVec.msb_eq_toInt] at h3
  have := of_decide_eq_false h3
  exact Int.not_lt.mp this
theorem fmod {a d : Nat} (ha : a < 2147483648) (h0 : 0 < d) (hd : d < 2147483648) : f_yJ9_floorMod_7cf53 (nI a) (nI d) = some (nI (a % d)) := by
  unfold f_yJ9_floorMod_7cf53
  rw [gd_pos _ (nI_ne0 h0 hd), if_pos (xor_nn ha hd), pk_rem ha h0 hd]
theorem pm_log {w : Nat → Int32} {q : Nat} {f g : Int32} (h : RR z b (w, w, q, q, f, g) M N) (hn : q < 1000000) (x1 x2 : Int32) : Rv (f_yX8_log M x1 x2) (f_yX9_log N x1 x2) := by
  unfold f_yX8_log f_yX9_log
  by_cases h0 : x1 < 0
  · rw [if_pos h0, if_pos h0]; exact S2.ret rfl
  · obtain ⟨k, hk, rfl⟩ := nI_of h0
    rw [if_neg h0, if_neg h0]
    rcases ix6 x2 3 (by decide) with h2 | ⟨r, hr, rfl⟩
    · rw [in_out (n := 3) (by decide) (by decide) h2]
      by_cases h3 : x2 < 0
      · simp only [h3, ↓gd_b, gd_t, gd_f, ↓ob1_s, ob1_s, ↓ob2_s, ob2_s, ↓om_n, ↓om_s, om_n, om_s, ↓lt1, ↓reduceIte, or_true, true_or, or_false, false_or, and_true, true_and, and_false, false_and, not_true_eq_false, not_false_eq_true, ite_self, S2_ret, eq_self]
      · have h4 : ¬ x2 ≤ 2 := fun z => by
          have h3 := h2.resolve_left h3
          rw [Int32.le_iff_toInt_le] at z h3
          exact absurd (Int.le_trans h3 z) (by decide)
        simp only [h3, h4, ↓gd_b, gd_t, gd_f, ↓ob1_s, ob1_s, ↓ob2_s, ob2_s, ↓om_n, ↓om_s, om_n, om_s, ↓lt1, ↓reduceIte, or_true, true_or, or_false, false_or, and_true, true_and, and_false, false_and, not_true_eq_false, not_false_eq_true, ite_self, S2_ret, eq_self]
    · rw [in_in (n := 3) (by decide) hr (by decide)]
      have q2 : M 4 0 2 = nI q := h.mlog
      have q3 : N 20 0 12 = nI q := h.nlog
      have q4 : N 52 0 = w := h.n52
      have q5 : M 13 0 = w := h.m13
      unfold f_yX6_logged
      by_cases h60 : 60 ≤ k
      · simp (disch := omega) only [↓gd_b, gd_t, gd_f, ↓ob1_s, ob1_s, ↓ob2_s, ob2_s, ↓om_n, ↓om_s, om_n, om_s, ↓lt1, ↓reduceIte, or_true, true_or, or_false, false_or, and_true, true_and, and_false, false_and, not_true_eq_false, not_false_eq_true, ite_self, S2_ret, eq_self, llA, llM, llm, llS, lle_f, lle_t, lle2_f, lle2_t, llt_f, llt_t, llt2_f, llt2_t, leq_f, leq_t, lz_f, lzl_t, nI_add, nI_clamp, nle_f, nle_t, nlt_f, nlt_t, neq_f, neq_t, one_ne]
      · by_cases hq : q ≤ k
        · simp (disch := omega) only [↓gd_b, gd_t, gd_f, ↓ob1_s, ob1_s, ↓ob2_s, ob2_s, ↓om_n, ↓om_s, om_n, om_s, ↓lt1, ↓reduceIte, or_true, true_or, or_false, false_or, and_true, true_and, and_false, false_and, not_true_eq_false, not_false_eq_true, ite_self, S2_ret, eq_self, llA, llM, llm, llS, lle_f, lle_t, lle2_f, lle2_t, llt_f, llt_t, llt2_f, llt2_t, leq_f, leq_t, lz_f, lzl_t, nI_add, nI_clamp, nle_f, nle_t, nlt_f, nlt_t, neq_f, neq_t, one_ne, q3, q2, nI_leI]
        · have e1 : nI q - 1 - nI k = nI (q - 1 - k) := by
            rw [show (1 : Int32) = nI 1 from rfl, llS' 1 (by omega), llS' k (by omega)]
          have e2 : f_yJ9_floorMod_7cf53 (nI (q - 1 - k)) 60 = some (nI ((q - 1 - k) % 60)) := fmod (d := 60) (by omega) (by decide) (by decide)
          have e3 : nI (q - 1 - k) - nI (q - 1 - k) / 60 * 60 = nI ((q - 1 - k) % 60) := pk_rem (d := 60) (by omega) (by decide) (by decide)
          rw [q3, q2, e1, e2, e3]
          have hm := Nat.mod_lt (q - 1 - k) (show 0 < 60 by decide)
          generalize (q - 1 - k) % 60 = m at hm
          simp (disch := omega) only [↓gd_b, gd_t, gd_f, ↓ob1_s, ob1_s, ↓ob2_s, ob2_s, ↓om_n, ↓om_s, om_n, om_s, ↓lt1, ↓reduceIte, or_true, true_or, or_false, false_or, and_true, true_and, and_false, false_and, not_true_eq_false, not_false_eq_true, ite_self, S2_ret, eq_self, llA, llM, llm, llS, lle_f, lle_t, lle2_f, lle2_t, llt_f, llt_t, llt2_f, llt2_t, leq_f, leq_t, lz_f, lzl_t, nI_add, nI_clamp, nle_f, nle_t, nlt_f, nlt_t, neq_f, neq_t, one_ne, nI_leI, q4, q5]
          rw [show m * 3 + r = 3 * m + r by omega]
theorem pm_trace (h : RR z b n M N) (x1 : Int32) : Rv (f_yX8_trace M x1) (f_yX9_trace N x1) := by
  unfold f_yX8_trace f_yX9_trace f_yX4_bodyThatBegan f_yX4_bodiesOf
  rcases h.xi with ⟨e1, e2⟩ | ⟨k, hk, e1, e2, e3⟩
  · rw [e1, e2]
    have e : f_yX9_in x1 0 (0 - 1) = some 0 := by
      refine in_out (n := 0) (by decide) (by decide) ?_
      by_cases h0 : x1 < 0
      · exact Or.inl h0
      · obtain ⟨j, hj, rfl⟩ := nI_of h0
        exact Or.inr (nI_le (by omega) hj)
    rw [e]
    exact S2.ret rfl
  · rw [e1, e2]
    rcases st_cases hk with rfl | rfl | rfl | rfl | rfl | rfl | rfl | rfl
    · rcases ix6 x1 1 (by decide) with h1 | ⟨r, hr, rfl⟩
      · rw [show sl (bk 0) = 1 from rfl, in_out (n := 1) (by decide) (by decide) h1]
        by_cases h0 : x1 < 0
        · simp (disch := omega) only [↓gd_b, gd_t, gd_f, ↓ob1_s, ob1_s, ↓ob2_s, ob2_s, ↓om_n, ↓om_s, om_n, om_s, ↓lt1, ↓reduceIte, or_true, true_or, or_false, false_or, and_true, true_and, and_false, false_and, not_true_eq_false, not_false_eq_true, ite_self, S2_ret, eq_self, llA, llM, llm, llS, lle_f, lle_t, lle2_f, lle2_t, llt_f, llt_t, llt2_f, llt2_t, leq_f, leq_t, lz_f, lzl_t, nI_add, nI_clamp, nle_f, nle_t, nlt_f, nlt_t, neq_f, neq_t, h0, one_ne, reduceCtorEq]
        · have h2 : (1 : Int32) ≤ x1 := h1.resolve_left h0
          simp (disch := omega) only [↓gd_b, gd_t, gd_f, ↓ob1_s, ob1_s, ↓ob2_s, ob2_s, ↓om_n, ↓om_s, om_n, om_s, ↓lt1, ↓reduceIte, or_true, true_or, or_false, false_or, and_true, true_and, and_false, false_and, not_true_eq_false, not_false_eq_true, ite_self, S2_ret, eq_self, llA, llM, llm, llS, lle_f, lle_t, lle2_f, lle2_t, llt_f, llt_t, llt2_f, llt2_t, leq_f, leq_t, lz_f, lzl_t, nI_add, nI_clamp, nle_f, nle_t, nlt_f, nlt_t, neq_f, neq_t, h0, h2]
      · rw [show sl (bk 0) = 1 from rfl, in_in (n := 1) (by decide) hr (by decide)]
        have e4 := e3 r hr
        simp (disch := omega) only [↓gd_b, gd_t, gd_f, ↓ob1_s, ob1_s, ↓ob2_s, ob2_s, ↓om_n, ↓om_s, om_n, om_s, ↓lt1, ↓reduceIte, or_true, true_or, or_false, false_or, and_true, true_and, and_false, false_and, not_true_eq_false, not_false_eq_true, ite_self, S2_ret, eq_self, llA, llM, llm, llS, lle_f, lle_t, lle2_f, lle2_t, llt_f, llt_t, llt2_f, llt2_t, leq_f, leq_t, lz_f, lzl_t, nI_add, nI_clamp, nle_f, nle_t, nlt_f, nlt_t, neq_f, neq_t, one_ne, e4]
        rfl
    · rcases ix6 x1 3 (by decide) with h1 | ⟨r, hr, rfl⟩
      · rw [show sl (bk 1) = 3 from rfl, in_out (n := 3) (by decide) (by decide) h1]
        by_cases h0 : x1 < 0
        · simp (disch := omega) only [↓gd_b, gd_t, gd_f, ↓ob1_s, ob1_s, ↓ob2_s, ob2_s, ↓om_n, ↓om_s, om_n, om_s, ↓lt1, ↓reduceIte, or_true, true_or, or_false, false_or, and_true, true_and, and_false, false_and, not_true_eq_false, not_false_eq_true, ite_self, S2_ret, eq_self, llA, llM, llm, llS, lle_f, lle_t, lle2_f, lle2_t, llt_f, llt_t, llt2_f, llt2_t, leq_f, leq_t, lz_f, lzl_t, nI_add, nI_clamp, nle_f, nle_t, nlt_f, nlt_t, neq_f, neq_t, h0, one_ne, reduceCtorEq]
        · have h2 : (3 : Int32) ≤ x1 := h1.resolve_left h0
          simp (disch := omega) only [↓gd_b, gd_t, gd_f, ↓ob1_s, ob1_s, ↓ob2_s, ob2_s, ↓om_n, ↓om_s, om_n, om_s, ↓lt1, ↓reduceIte, or_true, true_or, or_false, false_or, and_true, true_and, and_false, false_and, not_true_eq_false, not_false_eq_true, ite_self, S2_ret, eq_self, llA, llM, llm, llS, lle_f, lle_t, lle2_f, lle2_t, llt_f, llt_t, llt2_f, llt2_t, leq_f, leq_t, lz_f, lzl_t, nI_add, nI_clamp, nle_f, nle_t, nlt_f, nlt_t, neq_f, neq_t, h0, h2]
      · rw [show sl (bk 1) = 3 from rfl, in_in (n := 3) (by decide) hr (by decide)]
        have e4 := e3 r hr
        simp (disch := omega) only [↓gd_b, gd_t, gd_f, ↓ob1_s, ob1_s, ↓ob2_s, ob2_s, ↓om_n, ↓om_s, om_n, om_s, ↓lt1, ↓reduceIte, or_true, true_or, or_false, false_or, and_true, true_and, and_false, false_and, not_true_eq_false, not_false_eq_true, ite_self, S2_ret, eq_self, llA, llM, llm, llS, lle_f, lle_t, lle2_f, lle2_t, llt_f, llt_t, llt2_f, llt2_t, leq_f, leq_t, lz_f, lzl_t, nI_add, nI_clamp, nle_f, nle_t, nlt_f, nlt_t, neq_f, neq_t, one_ne, e4]
        rfl
    · rcases ix6 x1 4 (by decide) with h1 | ⟨r, hr, rfl⟩
      · rw [show sl (bk 2) = 4 from rfl, in_out (n := 4) (by decide) (by decide) h1]
        by_cases h0 : x1 < 0
        · simp (disch := omega) only [↓gd_b, gd_t, gd_f, ↓ob1_s, ob1_s, ↓ob2_s, ob2_s, ↓om_n, ↓om_s, om_n, om_s, ↓lt1, ↓reduceIte, or_true, true_or, or_false, false_or, and_true, true_and, and_false, false_and, not_true_eq_false, not_false_eq_true, ite_self, S2_ret, eq_self, llA, llM, llm, llS, lle_f, lle_t, lle2_f, lle2_t, llt_f, llt_t, llt2_f, llt2_t, leq_f, leq_t, lz_f, lzl_t, nI_add, nI_clamp, nle_f, nle_t, nlt_f, nlt_t, neq_f, neq_t, h0, one_ne, reduceCtorEq]
        · have h2 : (4 : Int32) ≤ x1 := h1.resolve_left h0
          simp (disch := omega) only [↓gd_b, gd_t, gd_f, ↓ob1_s, ob1_s, ↓ob2_s, ob2_s, ↓om_n, ↓om_s, om_n, om_s, ↓lt1, ↓reduceIte, or_true, true_or, or_false, false_or, and_true, true_and, and_false, false_and, not_true_eq_false, not_false_eq_true, ite_self, S2_ret, eq_self, llA, llM, llm, llS, lle_f, lle_t, lle2_f, lle2_t, llt_f, llt_t, llt2_f, llt2_t, leq_f, leq_t, lz_f, lzl_t, nI_add, nI_clamp, nle_f, nle_t, nlt_f, nlt_t, neq_f, neq_t, h0, h2]
      · rw [show sl (bk 2) = 4 from rfl, in_in (n := 4) (by decide) hr (by decide)]
        have e4 := e3 r hr
        simp (disch := omega) only [↓gd_b, gd_t, gd_f, ↓ob1_s, ob1_s, ↓ob2_s, ob2_s, ↓om_n, ↓om_s, om_n, om_s, ↓lt1, ↓reduceIte, or_true, true_or, or_false, false_or, and_true, true_and, and_false, false_and, not_true_eq_false, not_false_eq_true, ite_self, S2_ret, eq_self, llA, llM, llm, llS, lle_f, lle_t, lle2_f, lle2_t, llt_f, llt_t, llt2_f, llt2_t, leq_f, leq_t, lz_f, lzl_t, nI_add, nI_clamp, nle_f, nle_t, nlt_f, nlt_t, neq_f, neq_t, one_ne, e4]
        rfl
    · rcases ix6 x1 5 (by decide) with h1 | ⟨r, hr, rfl⟩
      · rw [show sl (bk 3) = 5 from rfl, in_out (n := 5) (by decide) (by decide) h1]
        by_cases h0 : x1 < 0
        · simp (disch := omega) only [↓gd_b, gd_t, gd_f, ↓ob1_s, ob1_s, ↓ob2_s, ob2_s, ↓om_n, ↓om_s, om_n, om_s, ↓lt1, ↓reduceIte, or_true, true_or, or_false, false_or, and_true, true_and, and_false, false_and, not_true_eq_false, not_false_eq_true, ite_self, S2_ret, eq_self, llA, llM, llm, llS, lle_f, lle_t, lle2_f, lle2_t, llt_f, llt_t, llt2_f, llt2_t, leq_f, leq_t, lz_f, lzl_t, nI_add, nI_clamp, nle_f, nle_t, nlt_f, nlt_t, neq_f, neq_t, h0, one_ne, reduceCtorEq]
        · have h2 : (5 : Int32) ≤ x1 := h1.resolve_left h0
          simp (disch := omega) only [↓gd_b, gd_t, gd_f, ↓ob1_s, ob1_s, ↓ob2_s, ob2_s, ↓om_n, ↓om_s, om_n, om_s, ↓lt1, ↓reduceIte, or_true, true_or, or_false, false_or, and_true, true_and, and_false, false_and, not_true_eq_false, not_false_eq_true, ite_self, S2_ret, eq_self, llA, llM, llm, llS, lle_f, lle_t, lle2_f, lle2_t, llt_f, llt_t, llt2_f, llt2_t, leq_f, leq_t, lz_f, lzl_t, nI_add, nI_clamp, nle_f, nle_t, nlt_f, nlt_t, neq_f, neq_t, h0, h2]
      · rw [show sl (bk 3) = 5 from rfl, in_in (n := 5) (by decide) hr (by decide)]
        have e4 := e3 r hr
        simp (disch := omega) only [↓gd_b, gd_t, gd_f, ↓ob1_s, ob1_s, ↓ob2_s, ob2_s, ↓om_n, ↓om_s, om_n, om_s, ↓lt1, ↓reduceIte, or_true, true_or, or_false, false_or, and_true, true_and, and_false, false_and, not_true_eq_false, not_false_eq_true, ite_self, S2_ret, eq_self, llA, llM, llm, llS, lle_f, lle_t, lle2_f, lle2_t, llt_f, llt_t, llt2_f, llt2_t, leq_f, leq_t, lz_f, lzl_t, nI_add, nI_clamp, nle_f, nle_t, nlt_f, nlt_t, neq_f, neq_t, one_ne, e4]
        rfl
    · rcases ix6 x1 1 (by decide) with h1 | ⟨r, hr, rfl⟩
      · rw [show sl (bk 4) = 1 from rfl, in_out (n := 1) (by decide) (by decide) h1]
        by_cases h0 : x1 < 0
        · simp (disch := omega) only [↓gd_b, gd_t, gd_f, ↓ob1_s, ob1_s, ↓ob2_s, ob2_s, ↓om_n, ↓om_s, om_n, om_s, ↓lt1, ↓reduceIte, or_true, true_or, or_false, false_or, and_true, true_and, and_false, false_and, not_true_eq_false, not_false_eq_true, ite_self, S2_ret, eq_self, llA, llM, llm, llS, lle_f, lle_t, lle2_f, lle2_t, llt_f, llt_t, llt2_f, llt2_t, leq_f, leq_t, lz_f, lzl_t, nI_add, nI_clamp, nle_f, nle_t, nlt_f, nlt_t, neq_f, neq_t, h0, one_ne, reduceCtorEq]
        · have h2 : (1 : Int32) ≤ x1 := h1.resolve_left h0
          simp (disch := omega) only [↓gd_b, gd_t, gd_f, ↓ob1_s, ob1_s, ↓ob2_s, ob2_s, ↓om_n, ↓om_s, om_n, om_s, ↓lt1, ↓reduceIte, or_true, true_or, or_false, false_or, and_true, true_and, and_false, false_and, not_true_eq_false, not_false_eq_true, ite_self, S2_ret, eq_self, llA, llM, llm, llS, lle_f, lle_t, lle2_f, lle2_t, llt_f, llt_t, llt2_f, llt2_t, leq_f, leq_t, lz_f, lzl_t, nI_add, nI_clamp, nle_f, nle_t, nlt_f, nlt_t, neq_f, neq_t, h0, h2]
      · rw [show sl (bk 4) = 1 from rfl, in_in (n := 1) (by decide) hr (by decide)]
        have e4 := e3 r hr
        simp (disch := omega) only [↓gd_b, gd_t, gd_f, ↓ob1_s, ob1_s, ↓ob2_s, ob2_s, ↓om_n, ↓om_s, om_n, om_s, ↓lt1, ↓reduceIte, or_true, true_or, or_false, false_or, and_true, true_and, and_false, false_and, not_true_eq_false, not_false_eq_true, ite_self, S2_ret, eq_self, llA, llM, llm, llS, lle_f, lle_t, lle2_f, lle2_t, llt_f, llt_t, llt2_f, llt2_t, leq_f, leq_t, lz_f, lzl_t, nI_add, nI_clamp, nle_f, nle_t, nlt_f, nlt_t, neq_f, neq_t, one_ne, e4]
        rfl
    · rcases ix6 x1 1 (by decide) with h1 | ⟨r, hr, rfl⟩
      · rw [show sl (bk 5) = 1 from rfl, in_out (n := 1) (by decide) (by decide) h1]
        by_cases h0 : x1 < 0
        · simp (disch := omega) only [↓gd_b, gd_t, gd_f, ↓ob1_s, ob1_s, ↓ob2_s, ob2_s, ↓om_n, ↓om_s, om_n, om_s, ↓lt1, ↓reduceIte, or_true, true_or, or_false, false_or, and_true, true_and, and_false, false_and, not_true_eq_false, not_false_eq_true, ite_self, S2_ret, eq_self, llA, llM, llm, llS, lle_f, lle_t, lle2_f, lle2_t, llt_f, llt_t, llt2_f, llt2_t, leq_f, leq_t, lz_f, lzl_t, nI_add, nI_clamp, nle_f, nle_t, nlt_f, nlt_t, neq_f, neq_t, h0, one_ne, reduceCtorEq]
        · have h2 : (1 : Int32) ≤ x1 := h1.resolve_left h0
          simp (disch := omega) only [↓gd_b, gd_t, gd_f, ↓ob1_s, ob1_s, ↓ob2_s, ob2_s, ↓om_n, ↓om_s, om_n, om_s, ↓lt1, ↓reduceIte, or_true, true_or, or_false, false_or, and_true, true_and, and_false, false_and, not_true_eq_false, not_false_eq_true, ite_self, S2_ret, eq_self, llA, llM, llm, llS, lle_f, lle_t, lle2_f, lle2_t, llt_f, llt_t, llt2_f, llt2_t, leq_f, leq_t, lz_f, lzl_t, nI_add, nI_clamp, nle_f, nle_t, nlt_f, nlt_t, neq_f, neq_t, h0, h2]
      · rw [show sl (bk 5) = 1 from rfl, in_in (n := 1) (by decide) hr (by decide)]
        have e4 := e3 r hr
        simp (disch := omega) only [↓gd_b, gd_t, gd_f, ↓ob1_s, ob1_s, ↓ob2_s, ob2_s, ↓om_n, ↓om_s, om_n, om_s, ↓lt1, ↓reduceIte, or_true, true_or, or_false, false_or, and_true, true_and, and_false, false_and, not_true_eq_false, not_false_eq_true, ite_self, S2_ret, eq_self, llA, llM, llm, llS, lle_f, lle_t, lle2_f, lle2_t, llt_f, llt_t, llt2_f, llt2_t, leq_f, leq_t, lz_f, lzl_t, nI_add, nI_clamp, nle_f, nle_t, nlt_f, nlt_t, neq_f, neq_t, one_ne, e4]
        rfl
    · rcases ix6 x1 1 (by decide) with h1 | ⟨r, hr, rfl⟩
      · rw [show sl (bk 6) = 1 from rfl, in_out (n := 1) (by decide) (by decide) h1]
        by_cases h0 : x1 < 0
        · simp (disch := omega) only [↓gd_b, gd_t, gd_f, ↓ob1_s, ob1_s, ↓ob2_s, ob2_s, ↓om_n, ↓om_s, om_n, om_s, ↓lt1, ↓reduceIte, or_true, true_or, or_false, false_or, and_true, true_and, and_false, false_and, not_true_eq_false, not_false_eq_true, ite_self, S2_ret, eq_self, llA, llM, llm, llS, lle_f, lle_t, lle2_f, lle2_t, llt_f, llt_t, llt2_f, llt2_t, leq_f, leq_t, lz_f, lzl_t, nI_add, nI_clamp, nle_f, nle_t, nlt_f, nlt_t, neq_f, neq_t, h0, one_ne, reduceCtorEq]
        · have h2 : (1 : Int32) ≤ x1 := h1.resolve_left h0
          simp (disch := omega) only [↓gd_b, gd_t, gd_f, ↓ob1_s, ob1_s, ↓ob2_s, ob2_s, ↓om_n, ↓om_s, om_n, om_s, ↓lt1, ↓reduceIte, or_true, true_or, or_false, false_or, and_true, true_and, and_false, false_and, not_true_eq_false, not_false_eq_true, ite_self, S2_ret, eq_self, llA, llM, llm, llS, lle_f, lle_t, lle2_f, lle2_t, llt_f, llt_t, llt2_f, llt2_t, leq_f, leq_t, lz_f, lzl_t, nI_add, nI_clamp, nle_f, nle_t, nlt_f, nlt_t, neq_f, neq_t, h0, h2]
      · rw [show sl (bk 6) = 1 from rfl, in_in (n := 1) (by decide) hr (by decide)]
        have e4 := e3 r hr
        simp (disch := omega) only [↓gd_b, gd_t, gd_f, ↓ob1_s, ob1_s, ↓ob2_s, ob2_s, ↓om_n, ↓om_s, om_n, om_s, ↓lt1, ↓reduceIte, or_true, true_or, or_false, false_or, and_true, true_and, and_false, false_and, not_true_eq_false, not_false_eq_true, ite_self, S2_ret, eq_self, llA, llM, llm, llS, lle_f, lle_t, lle2_f, lle2_t, llt_f, llt_t, llt2_f, llt2_t, leq_f, leq_t, lz_f, lzl_t, nI_add, nI_clamp, nle_f, nle_t, nlt_f, nlt_t, neq_f, neq_t, one_ne, e4]
        rfl
    · rcases ix6 x1 1 (by decide) with h1 | ⟨r, hr, rfl⟩
      · rw [show sl (bk 7) = 1 from rfl, in_out (n := 1) (by decide) (by decide) h1]
        by_cases h0 : x1 < 0
        · simp (disch := omega) only [↓gd_b, gd_t, gd_f, ↓ob1_s, ob1_s, ↓ob2_s, ob2_s, ↓om_n, ↓om_s, om_n, om_s, ↓lt1, ↓reduceIte, or_true, true_or, or_false, false_or, and_true, true_and, and_false, false_and, not_true_eq_false, not_false_eq_true, ite_self, S2_ret, eq_self, llA, llM, llm, llS, lle_f, lle_t, lle2_f, lle2_t, llt_f, llt_t, llt2_f, llt2_t, leq_f, leq_t, lz_f, lzl_t, nI_add, nI_clamp, nle_f, nle_t, nlt_f, nlt_t, neq_f, neq_t, h0, one_ne, reduceCtorEq]
        · have h2 : (1 : Int32) ≤ x1 := h1.resolve_left h0
          simp (disch := omega) only [↓gd_b, gd_t, gd_f, ↓ob1_s, ob1_s, ↓ob2_s, ob2_s, ↓om_n, ↓om_s, om_n, om_s, ↓lt1, ↓reduceIte, or_true, true_or, or_false, false_or, and_true, true_and, and_false, false_and, not_true_eq_false, not_false_eq_true, ite_self, S2_ret, eq_self, llA, llM, llm, llS, lle_f, lle_t, lle2_f, lle2_t, llt_f, llt_t, llt2_f, llt2_t, leq_f, leq_t, lz_f, lzl_t, nI_add, nI_clamp, nle_f, nle_t, nlt_f, nlt_t, neq_f, neq_t, h0, h2]
      · rw [show sl (bk 7) = 1 from rfl, in_in (n := 1) (by decide) hr (by decide)]
        have e4 := e3 r hr
        simp (disch := omega) only [↓gd_b, gd_t, gd_f, ↓ob1_s, ob1_s, ↓ob2_s, ob2_s, ↓om_n, ↓om_s, om_n, om_s, ↓lt1, ↓reduceIte, or_true, true_or, or_false, false_or, and_true, true_and, and_false, false_and, not_true_eq_false, not_false_eq_true, ite_self, S2_ret, eq_self, llA, llM, llm, llS, lle_f, lle_t, lle2_f, lle2_t, llt_f, llt_t, llt2_f, llt2_t, leq_f, leq_t, lz_f, lzl_t, nI_add, nI_clamp, nle_f, nle_t, nlt_f, nlt_t, neq_f, neq_t, one_ne, e4]
        rfl
end OFF
