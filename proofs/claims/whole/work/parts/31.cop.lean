section COP
variable {z b t q r : Nat} {w v : Nat → Int32} {M N : Mem}
theorem idx2 (V : Int32) {k l : Nat} (hk : k < 12) (hl : l ≤ 12) :
    ((V + nI k < 0 ∨ nI l ≤ V + nI k) ∧ (lg_cmp (V.toInt64 + (nI k).toInt64) 0 < 0 ∨ (¬ lg_cmp (V.toInt64 + (nI k).toInt64) 0 < 0 ∧ ¬ lg_cmp (V.toInt64 + (nI k).toInt64) (nI l).toInt64 < 0))) ∨
    ∃ p, p < l ∧ V + nI k = nI p ∧ ¬ lg_cmp (V.toInt64 + (nI k).toInt64) 0 < 0 ∧ lg_cmp (V.toInt64 + (nI k).toInt64) (nI l).toInt64 < 0 ∧ (V.toInt64 + (nI k).toInt64).toInt32 = nI p := by
  have e1 : (V.toInt64 + (nI k).toInt64).toInt = V.toInt + (k : Int) := by rw [lg_i2l_add, nI_toInt (by omega)]
  have e2 : (nI l).toInt64.toInt = (l : Int) := by rw [Int32.toInt_toInt64, nI_toInt (by omega)]
  have e3 : (V + nI k).toInt = (V.toInt + (k : Int)).bmod (2 ^ 32) := by rw [Int32.toInt_add, nI_toInt (by omega)]
  have e4 : (V.toInt64 + (nI k).toInt64).toInt32 = V + nI k := by rw [lg_l2i_add, lg_l2i_i2l, lg_l2i_i2l]
  have e5 : (0 : Int64).toInt = 0 := rfl
  have e6 : (0 : Int32).toInt = 0 := rfl
  have b1 := Int32.le_toInt V
  have b2 := Int32.toInt_lt V
  rw [lg_cmp_lt, lg_cmp_lt, Int64.lt_iff_toInt_lt, Int64.lt_iff_toInt_lt, e1, e2, e4, e5, Int32.lt_iff_toInt_lt, Int32.le_iff_toInt_le, e3, nI_toInt (by omega), e6]
  rw [Int.bmod_def] at *
  by_cases c1 : V.toInt + (k : Int) < 0
  · left
    refine ⟨?_, Or.inl c1⟩
    omega
  · by_cases c2 : V.toInt + (k : Int) < (l : Int)
    · right
      refine ⟨(V.toInt + (k : Int)).toNat, by omega, ?_, c1, c2, ?_⟩
      · refine Int32.toInt_inj.mp ?_
        rw [e3, nI_toInt (by omega)]
        omega
      · refine Int32.toInt_inj.mp ?_
        rw [e3, nI_toInt (by omega)]
        omega
    · left
      refine ⟨?_, Or.inr ⟨c1, c2⟩⟩
      omega
theorem cp_stop {y2 y3 : Int32} {k m i : Nat} (hi : i < 32) (hf : ¬ N 20 0 7 = 0) : f_yX9_copies_L59 (m + 1) N (nI i) y2 y3 (nI k) = some N := by
  rw [f_yX9_copies_L59, gd_b hi (by decide)]
  by_cases h1 : N 23 0 (nI i).toNatClampNeg ≤ nI k
  · rw [if_pos h1]
  · rw [if_neg h1, if_neg hf]
theorem cp2 {n : Lg} (h : RR z b n M N) {i1 i2 k1 k2 : Nat} {X : Int32} (e1 : M 8 i1 0 = nI k1) (e2 : M 8 i2 0 = nI k2) (h1 : 4 ≤ k1) (h1' : k1 ≤ 7) (h2 : 4 ≤ k2) (h2' : k2 ≤ 7) (hX : 6 ≤ k1 → X = -4 ∨ ∃ j : Nat, j < z ∧ X = nI j) :
    (f_yX9_fits N (nI k2) (nI k1) X = some 0 ∧ (f_yX7_takesFrom M i2 i1 = some 0 ∨ (f_yX7_takesFrom M i2 i1 = some 1 ∧ f_yX7_isRowOfThings M i2 = some 1 ∧ f_yX4_fits M X i2 = some 0))) ∨
    (f_yX9_fits N (nI k2) (nI k1) X = some 1 ∧ f_yX7_takesFrom M i2 i1 = some 1 ∧ (f_yX7_isRowOfThings M i2 = some 0 ∨ (f_yX7_isRowOfThings M i2 = some 1 ∧ f_yX4_fits M X i2 = some 1)) ∧ (6 ≤ k2 → 6 ≤ k1)) := by
  unfold f_yX7_takesFrom f_yX7_isRowOfThings
  rcases (by omega : k2 = 4 ∨ k2 = 5 ∨ k2 = 6 ∨ k2 = 7) with rfl | rfl | rfl | rfl
  · unfold f_yX9_fits
    rcases (by omega : k1 = 4 ∨ k1 = 5 ∨ 6 ≤ k1) with rfl | rfl | hk
    · right; simp (disch := omega) only [↓gd_b, gd_t, gd_f, ↓ob1_s, ob1_s, ↓ob2_s, ob2_s, ↓om_n, ↓om_s, om_n, om_s, ↓lt1, ↓reduceIte, or_true, true_or, or_false, false_or, and_true, true_and, and_false, false_and, not_true_eq_false, not_false_eq_true, ite_self, S2_ret, eq_self, llA, llM, llm, llS, lle_f, lle_t, lle2_f, lle2_t, llt_f, llt_t, llt2_f, llt2_t, leq_f, leq_t, lz_f, lzl_t, nI_add, nI_clamp, nle_f, nle_t, nlt_f, nlt_t, neq_f, neq_t, e1, e2, one_ne]; decide
    · right; simp (disch := omega) only [↓gd_b, gd_t, gd_f, ↓ob1_s, ob1_s, ↓ob2_s, ob2_s, ↓om_n, ↓om_s, om_n, om_s, ↓lt1, ↓reduceIte, or_true, true_or, or_false, false_or, and_true, true_and, and_false, false_and, not_true_eq_false, not_false_eq_true, ite_self, S2_ret, eq_self, llA, llM, llm, llS, lle_f, lle_t, lle2_f, lle2_t, llt_f, llt_t, llt2_f, llt2_t, leq_f, leq_t, lz_f, lzl_t, nI_add, nI_clamp, nle_f, nle_t, nlt_f, nlt_t, neq_f, neq_t, e1, e2, one_ne]; decide
    · left; simp (disch := omega) only [↓gd_b, gd_t, gd_f, ↓ob1_s, ob1_s, ↓ob2_s, ob2_s, ↓om_n, ↓om_s, om_n, om_s, ↓lt1, ↓reduceIte, or_true, true_or, or_false, false_or, and_true, true_and, and_false, false_and, not_true_eq_false, not_false_eq_true, ite_self, S2_ret, eq_self, llA, llM, llm, llS, lle_f, lle_t, lle2_f, lle2_t, llt_f, llt_t, llt2_f, llt2_t, leq_f, leq_t, lz_f, lzl_t, nI_add, nI_clamp, nle_f, nle_t, nlt_f, nlt_t, neq_f, neq_t, e1, e2]
  · unfold f_yX9_fits
    rcases (by omega : k1 = 4 ∨ k1 = 5 ∨ 6 ≤ k1) with rfl | rfl | hk
    · left; simp (disch := omega) only [↓gd_b, gd_t, gd_f, ↓ob1_s, ob1_s, ↓ob2_s, ob2_s, ↓om_n, ↓om_s, om_n, om_s, ↓lt1, ↓reduceIte, or_true, true_or, or_false, false_or, and_true, true_and, and_false, false_and, not_true_eq_false, not_false_eq_true, ite_self, S2_ret, eq_self, llA, llM, llm, llS, lle_f, lle_t, lle2_f, lle2_t, llt_f, llt_t, llt2_f, llt2_t, leq_f, leq_t, lz_f, lzl_t, nI_add, nI_clamp, nle_f, nle_t, nlt_f, nlt_t, neq_f, neq_t, e1, e2]
    · right; simp (disch := omega) only [↓gd_b, gd_t, gd_f, ↓ob1_s, ob1_s, ↓ob2_s, ob2_s, ↓om_n, ↓om_s, om_n, om_s, ↓lt1, ↓reduceIte, or_true, true_or, or_false, false_or, and_true, true_and, and_false, false_and, not_true_eq_false, not_false_eq_true, ite_self, S2_ret, eq_self, llA, llM, llm, llS, lle_f, lle_t, lle2_f, lle2_t, llt_f, llt_t, llt2_f, llt2_t, leq_f, leq_t, lz_f, lzl_t, nI_add, nI_clamp, nle_f, nle_t, nlt_f, nlt_t, neq_f, neq_t, e1, e2, one_ne]; decide
    · left; simp (disch := omega) only [↓gd_b, gd_t, gd_f, ↓ob1_s, ob1_s, ↓ob2_s, ob2_s, ↓om_n, ↓om_s, om_n, om_s, ↓lt1, ↓reduceIte, or_true, true_or, or_false, false_or, and_true, true_and, and_false, false_and, not_true_eq_false, not_false_eq_true, ite_self, S2_ret, eq_self, llA, llM, llm, llS, lle_f, lle_t, lle2_f, lle2_t, llt_f, llt_t, llt2_f, llt2_t, leq_f, leq_t, lz_f, lzl_t, nI_add, nI_clamp, nle_f, nle_t, nlt_f, nlt_t, neq_f, neq_t, e1, e2]
  · by_cases hk : 6 ≤ k1
    · obtain ⟨s, s1, s2, s3⟩ := fits2 h (hX hk) e2 (by decide)
      rw [s3 k1 hk h1', s2]
      rcases s1 with rfl | rfl
      · left; simp (disch := omega) only [↓gd_b, gd_t, gd_f, ↓ob1_s, ob1_s, ↓ob2_s, ob2_s, ↓om_n, ↓om_s, om_n, om_s, ↓lt1, ↓reduceIte, or_true, true_or, or_false, false_or, and_true, true_and, and_false, false_and, not_true_eq_false, not_false_eq_true, ite_self, S2_ret, eq_self, llA, llM, llm, llS, lle_f, lle_t, lle2_f, lle2_t, llt_f, llt_t, llt2_f, llt2_t, leq_f, leq_t, lz_f, lzl_t, nI_add, nI_clamp, nle_f, nle_t, nlt_f, nlt_t, neq_f, neq_t, e1, e2]
      · right; simp (disch := omega) only [↓gd_b, gd_t, gd_f, ↓ob1_s, ob1_s, ↓ob2_s, ob2_s, ↓om_n, ↓om_s, om_n, om_s, ↓lt1, ↓reduceIte, or_true, true_or, or_false, false_or, and_true, true_and, and_false, false_and, not_true_eq_false, not_false_eq_true, ite_self, S2_ret, eq_self, llA, llM, llm, llS, lle_f, lle_t, lle2_f, lle2_t, llt_f, llt_t, llt2_f, llt2_t, leq_f, leq_t, lz_f, lzl_t, nI_add, nI_clamp, nle_f, nle_t, nlt_f, nlt_t, neq_f, neq_t, e1, e2]
        exact fun _ => trivial
    · left; unfold f_yX9_fits; simp (disch := omega) only [↓gd_b, gd_t, gd_f, ↓ob1_s, ob1_s, ↓ob2_s, ob2_s, ↓om_n, ↓om_s, om_n, om_s, ↓lt1, ↓reduceIte, or_true, true_or, or_false, false_or, and_true, true_and, and_false, false_and, not_true_eq_false, not_false_eq_true, ite_self, S2_ret, eq_self, llA, llM, llm, llS, lle_f, lle_t, lle2_f, lle2_t, llt_f, llt_t, llt2_f, llt2_t, leq_f, leq_t, lz_f, lzl_t, nI_add, nI_clamp, nle_f, nle_t, nlt_f, nlt_t, neq_f, neq_t, e1, e2]
  · by_cases hk : 6 ≤ k1
    · obtain ⟨s, s1, s2, s3⟩ := fits2 h (hX hk) e2 (by decide)
      rw [s3 k1 hk h1', s2]
      rcases s1 with rfl | rfl
      · left; simp (disch := omega) only [↓gd_b, gd_t, gd_f, ↓ob1_s, ob1_s, ↓ob2_s, ob2_s, ↓om_n, ↓om_s, om_n, om_s, ↓lt1, ↓reduceIte, or_true, true_or, or_false, false_or, and_true, true_and, and_false, false_and, not_true_eq_false, not_false_eq_true, ite_self, S2_ret, eq_self, llA, llM, llm, llS, lle_f, lle_t, lle2_f, lle2_t, llt_f, llt_t, llt2_f, llt2_t, leq_f, leq_t, lz_f, lzl_t, nI_add, nI_clamp, nle_f, nle_t, nlt_f, nlt_t, neq_f, neq_t, e1, e2]
      · right; simp (disch := omega) only [↓gd_b, gd_t, gd_f, ↓ob1_s, ob1_s, ↓ob2_s, ob2_s, ↓om_n, ↓om_s, om_n, om_s, ↓lt1, ↓reduceIte, or_true, true_or, or_false, false_or, and_true, true_and, and_false, false_and, not_true_eq_false, not_false_eq_true, ite_self, S2_ret, eq_self, llA, llM, llm, llS, lle_f, lle_t, lle2_f, lle2_t, llt_f, llt_t, llt2_f, llt2_t, leq_f, leq_t, lz_f, lzl_t, nI_add, nI_clamp, nle_f, nle_t, nlt_f, nlt_t, neq_f, neq_t, e1, e2]
        exact fun _ => trivial
    · left; unfold f_yX9_fits; simp (disch := omega) only [↓gd_b, gd_t, gd_f, ↓ob1_s, ob1_s, ↓ob2_s, ob2_s, ↓om_n, ↓om_s, om_n, om_s, ↓lt1, ↓reduceIte, or_true, true_or, or_false, false_or, and_true, true_and, and_false, false_and, not_true_eq_false, not_false_eq_true, ite_self, S2_ret, eq_self, llA, llM, llm, llS, lle_f, lle_t, lle2_f, lle2_t, llt_f, llt_t, llt2_f, llt2_t, leq_f, leq_t, lz_f, lzl_t, nI_add, nI_clamp, nle_f, nle_t, nlt_f, nlt_t, neq_f, neq_t, e1, e2]
theorem lk_copy {i1 i2 k1 k2 l1 l2 : Nat} {V : Int32} (hi1 : i1 < z) (hi2 : i2 < z) (h1 : 4 ≤ k1) (h1' : k1 ≤ 7) (h2 : 4 ≤ k2) (h2' : k2 ≤ 7) (hl1 : l1 ≤ 12) (hl2 : l2 ≤ 12) :
    ∀ d k m m' (M N : Mem), k + d = l1 → RR z b (n0 w v q r) M N → M 8 i1 0 = nI k1 → M 8 i1 4 = nI l1 → M 8 i2 0 = nI k2 → M 8 i2 4 = nI l2 → M 6 t 0 = 2 →
    Ra t b w v q r (f_yX0_copy_L37 (m + d + 1) M i1 i2 V (nI k)) (f_yX9_copies_L59 (m' + d + 2) N (nI i1) (nI i2) V (nI k)) := by
  intro d
  induction d with
  | zero =>
    intro k m m' M N hk h a1 a2 a3 a4 a5
    obtain rfl : k = l1 := by omega
    have h32 := h.z32
    have e23 : N 23 0 i1 = nI k := by rw [h.n23 (by omega), a2]
    have hle : nI k ≤ nI k := nI_le (Nat.le_refl _) (by omega)
    rw [f_yX0_copy_L37, f_yX9_copies_L59]
    simp (disch := omega) only [↓gd_b, gd_t, gd_f, ↓ob1_s, ob1_s, ↓ob2_s, ob2_s, ↓om_n, ↓om_s, om_n, om_s, ↓lt1, ↓reduceIte, or_true, true_or, or_false, false_or, and_true, true_and, and_false, false_and, not_true_eq_false, not_false_eq_true, ite_self, S2_ret, eq_self, llA, llM, llm, llS, lle_f, lle_t, lle2_f, lle2_t, llt_f, llt_t, llt2_f, llt2_t, leq_f, leq_t, lz_f, lzl_t, nI_add, nI_clamp, nle_f, nle_t, nlt_f, nlt_t, neq_f, neq_t, a2, e23, hle]
    exact AO.fine h
  | succ d ih =>
    intro k m m' M N hk h a1 a2 a3 a4 a5
    have h32 := h.z32
    have hk1 : k < l1 := by omega
    have e23 : N 23 0 i1 = nI l1 := by rw [h.n23 (by omega), a2]
    have e23' : N 23 0 i2 = nI l2 := by rw [h.n23 (by omega), a4]
    have e21 : N 21 0 i1 = nI k1 := by rw [h.n21 (by omega), a1]
    have e21' : N 21 0 i2 = nI k2 := by rw [h.n21 (by omega), a3]
    have e24 := h.n24 (i := i1) (r := k) (by omega) hk1 hl1 a2
    have e7 : N 20 0 7 = 0 := h.nfl
    have hle : ¬ nI l1 ≤ nI k := fun ww => by rw [nI_leI (by omega) (by omega)] at ww; omega
    obtain ⟨l, kk, b1, b2, b3, b4, b5, b6, b7, pl⟩ := h.oi hi1
    have hkk : kk = k1 := (nI_eq (by omega) (by omega)).mp (by rw [← b5, a1])
    have hll : l = l1 := (nI_eq (by omega) (by omega)).mp (by rw [← b2, a2])
    subst hkk hll
    rw [f_yX0_copy_L37, f_yX9_copies_L59]
    rcases idx2 V (k := k) (l := l2) (by omega) hl2 with ⟨c1, c2⟩ | ⟨p, hp, c1, c2, c3, c4⟩
    · have hpl : f_yX7_hasPlace M i2 (V + nI k) = some 0 := by
        unfold f_yX7_hasPlace
        rw [a4, nI_clamp (by omega)]
        by_cases h0 : V + nI k < 0
        · rw [if_pos h0]
        · rw [if_neg h0, if_pos (c1.resolve_left h0)]
      have hst : f_yX9_copies_L59 (m' + d + 2) (mp N 20 0 7 2) (nI i1) (nI i2) V (nI (k + 1)) = some (mp N 20 0 7 2) := cp_stop (by omega) (by rw [mp_eq]; decide)
      have hst' : f_yX9_copies_L59 (m' + (d + 1) + 1) (mp N 20 0 7 2) (nI i1) (nI i2) V (nI (k + 1)) = some (mp N 20 0 7 2) := hst
      rcases c2 with c2 | ⟨c2, c3⟩
      · simp (disch := omega) only [↓gd_b, gd_t, gd_f, ↓ob1_s, ob1_s, ↓ob2_s, ob2_s, ↓om_n, ↓om_s, om_n, om_s, ↓lt1, ↓reduceIte, or_true, true_or, or_false, false_or, and_true, true_and, and_false, false_and, not_true_eq_false, not_false_eq_true, ite_self, S2_ret, eq_self, llA, llM, llm, llS, lle_f, lle_t, lle2_f, lle2_t, llt_f, llt_t, llt2_f, llt2_t, leq_f, leq_t, lz_f, lzl_t, nI_add, nI_clamp, nle_f, nle_t, nlt_f, nlt_t, neq_f, neq_t, a2, e23, hle, hpl, e7, c2, bad_eq, hst']
        exact AO.bad h (f := 2) (by decide) (by decide) a5
      · simp (disch := omega) only [↓gd_b, gd_t, gd_f, ↓ob1_s, ob1_s, ↓ob2_s, ob2_s, ↓om_n, ↓om_s, om_n, om_s, ↓lt1, ↓reduceIte, or_true, true_or, or_false, false_or, and_true, true_and, and_false, false_and, not_true_eq_false, not_false_eq_true, ite_self, S2_ret, eq_self, llA, llM, llm, llS, lle_f, lle_t, lle2_f, lle2_t, llt_f, llt_t, llt2_f, llt2_t, leq_f, leq_t, lz_f, lzl_t, nI_add, nI_clamp, nle_f, nle_t, nlt_f, nlt_t, neq_f, neq_t, a2, e23, e23', hle, hpl, e7, c2, c3, bad_eq, hst']
        exact AO.bad h (f := 2) (by decide) (by decide) a5
    · have hpl : f_yX7_hasPlace M i2 (nI p) = some 1 := by
        unfold f_yX7_hasPlace
        have h1 : ¬ nI l2 ≤ nI p := fun ww => by rw [nI_leI (by omega) (by omega)] at ww; omega
        simp (disch := omega) only [↓gd_b, gd_t, gd_f, ↓ob1_s, ob1_s, ↓ob2_s, ob2_s, ↓om_n, ↓om_s, om_n, om_s, ↓lt1, ↓reduceIte, or_true, true_or, or_false, false_or, and_true, true_and, and_false, false_and, not_true_eq_false, not_false_eq_true, ite_self, S2_ret, eq_self, llA, llM, llm, llS, lle_f, lle_t, lle2_f, lle2_t, llt_f, llt_t, llt2_f, llt2_t, leq_f, leq_t, lz_f, lzl_t, nI_add, nI_clamp, nle_f, nle_t, nlt_f, nlt_t, neq_f, neq_t, a4, h1]
      have hX : 6 ≤ kk → M 19 i1 k = -4 ∨ ∃ j : Nat, j < z ∧ M 19 i1 k = nI j := fun h6 => pl h6 k hk1
      rcases cp2 h (X := M 19 i1 k) a1 a3 h1 h1' h2 h2' hX with ⟨f1, f2⟩ | ⟨f1, f2, f3, f4⟩
      · have hst : f_yX9_copies_L59 (m' + d + 2) (mp N 20 0 7 4) (nI i1) (nI i2) V (nI (k + 1)) = some (mp N 20 0 7 4) := cp_stop (by omega) (by rw [mp_eq]; decide)
        have hst' : f_yX9_copies_L59 (m' + (d + 1) + 1) (mp N 20 0 7 4) (nI i1) (nI i2) V (nI (k + 1)) = some (mp N 20 0 7 4) := hst
        rcases f2 with f2 | ⟨f2, f3, f4⟩
        · simp (disch := omega) only [↓gd_b, gd_t, gd_f, ↓ob1_s, ob1_s, ↓ob2_s, ob2_s, ↓om_n, ↓om_s, om_n, om_s, ↓lt1, ↓reduceIte, or_true, true_or, or_false, false_or, and_true, true_and, and_false, false_and, not_true_eq_false, not_false_eq_true, ite_self, S2_ret, eq_self, llA, llM, llm, llS, lle_f, lle_t, lle2_f, lle2_t, llt_f, llt_t, llt2_f, llt2_t, leq_f, leq_t, lz_f, lzl_t, nI_add, nI_clamp, nle_f, nle_t, nlt_f, nlt_t, neq_f, neq_t, a2, e23, e23', e21, e21', e24, hle, c1, hpl, one_ne, e7, c2, c3, f1, f2, bad_eq, hst']
          exact AO.bad h (f := 4) (by decide) (by decide) a5
        · simp (disch := omega) only [↓gd_b, gd_t, gd_f, ↓ob1_s, ob1_s, ↓ob2_s, ob2_s, ↓om_n, ↓om_s, om_n, om_s, ↓lt1, ↓reduceIte, or_true, true_or, or_false, false_or, and_true, true_and, and_false, false_and, not_true_eq_false, not_false_eq_true, ite_self, S2_ret, eq_self, llA, llM, llm, llS, lle_f, lle_t, lle2_f, lle2_t, llt_f, llt_t, llt2_f, llt2_t, leq_f, leq_t, lz_f, lzl_t, nI_add, nI_clamp, nle_f, nle_t, nlt_f, nlt_t, neq_f, neq_t, a2, e23, e23', e21, e21', e24, hle, c1, hpl, one_ne, e7, c2, c3, f1, f2, f3, f4, bad_eq, hst']
          exact AO.bad h (f := 4) (by decide) (by decide) a5
      · have hw := h.w19 (v := M 19 i1 k) hi2 hp a4 hl2 (fun ww => hX (f4 (by
          rw [a3] at ww
          rcases ww with ww | ww
          · have := (nI_eq (by omega) (by decide)).mp (show nI k2 = nI 6 from ww); omega
          · have := (nI_eq (by omega) (by decide)).mp (show nI k2 = nI 7 from ww); omega)))
        have go := ih (k + 1) m m' _ _ (by omega) hw (by rw [mp_ne _ _ (by omega)]; exact a1) (by rw [mp_ne _ _ (by omega)]; exact a2) (by rw [mp_ne _ _ (by omega)]; exact a3) (by rw [mp_ne _ _ (by omega)]; exact a4) (by rw [mp_ne _ _ (by omega)]; exact a5)
        rcases f3 with f3 | ⟨f3, f5⟩
        · simp (disch := omega) only [↓gd_b, gd_t, gd_f, ↓ob1_s, ob1_s, ↓ob2_s, ob2_s, ↓om_n, ↓om_s, om_n, om_s, ↓lt1, ↓reduceIte, or_true, true_or, or_false, false_or, and_true, true_and, and_false, false_and, not_true_eq_false, not_false_eq_true, ite_self, S2_ret, eq_self, llA, llM, llm, llS, lle_f, lle_t, lle2_f, lle2_t, llt_f, llt_t, llt2_f, llt2_t, leq_f, leq_t, lz_f, lzl_t, nI_add, nI_clamp, nle_f, nle_t, nlt_f, nlt_t, neq_f, neq_t, a2, a4, e23, e23', e21, e21', e24, hle, c1, hpl, one_ne, e7, c2, c3, c4, f1, f2, f3]
          exact go
        · simp (disch := omega) only [↓gd_b, gd_t, gd_f, ↓ob1_s, ob1_s, ↓ob2_s, ob2_s, ↓om_n, ↓om_s, om_n, om_s, ↓lt1, ↓reduceIte, or_true, true_or, or_false, false_or, and_true, true_and, and_false, false_and, not_true_eq_false, not_false_eq_true, ite_self, S2_ret, eq_self, llA, llM, llm, llS, lle_f, lle_t, lle2_f, lle2_t, llt_f, llt_t, llt2_f, llt2_t, leq_f, leq_t, lz_f, lzl_t, nI_add, nI_clamp, nle_f, nle_t, nlt_f, nlt_t, neq_f, neq_t, a2, a4, e23, e23', e21, e21', e24, hle, c1, hpl, one_ne, e7, c2, c3, c4, f1, f2, f3, f5]
          exact go
theorem o_copy (h : RR z b (n0 w v q r) M N) (ht : t < 6) (h2 : M 6 t 0 = 2) {a c d : Int32} (ka : okn (sc 5 (3 * 21)) a = 1) (kc : okn (sc 5 (3 * 21 + 1)) c = 1) (kd : okn (sc 5 (3 * 21 + 2)) d = 1) :
    Ra t b w v q r (f_yX0_useRows M t (nI 21) a c d) (f_yX9_rows N (nI t) (nI 21) (6 * nI t + a) c d) := by
  have h0 : ¬ M 6 t 0 = 0 := by rw [h2]; decide
  have h32 := h.z32
  have g1 := h.g1
  unfold f_yX0_useRows f_yX9_rows f_yX0_copy f_yX9_copies f_yX7_isRow
  obtain ⟨x, hx, rfl⟩ := okn_in (L := 5) (by decide) ka
  obtain ⟨y, hy, rfl⟩ := okn_in (L := 5) (by decide) kc
  obtain ⟨u, hu, rfl⟩ := okn_in (L := 5) (by decide) kd
  have e49 := h.n49 ht (r := u) (by omega)
  rcases hand2 h ht h0 (y := x) (by omega) with ⟨e1, e2, e3⟩ | ⟨i1, hi1, e1, e2, e3⟩
  · rcases hand2 h ht h0 (y := y) (by omega) with ⟨f1, f2, f3⟩ | ⟨i2, hi2, f1, f2, f3⟩
    · simp (disch := omega) only [↓gd_b, gd_t, gd_f, ↓ob1_s, ob1_s, ↓ob2_s, ob2_s, ↓om_n, ↓om_s, om_n, om_s, ↓lt1, ↓reduceIte, or_true, true_or, or_false, false_or, and_true, true_and, and_false, false_and, not_true_eq_false, not_false_eq_true, ite_self, S2_ret, eq_self, llA, llM, llm, llS, lle_f, lle_t, lle2_f, lle2_t, llt_f, llt_t, llt2_f, llt2_t, leq_f, leq_t, lz_f, lzl_t, nI_add, nI_clamp, nle_f, nle_t, nlt_f, nlt_t, neq_f, neq_t, e2, e3, f2, f3, e49, kept_in, bad_eq]
      exact AO.bad h (f := 1) (by decide) (by decide) h2
    · obtain ⟨l', kk', l1', l2', l3', k7', e8', k3', k0', pl'⟩ := h.oi hi2
      have e21' : N 21 0 i2 = nI kk' := by rw [h.n21 (by omega), e8']
      by_cases hk : kk' < 4
      · simp (disch := omega) only [↓gd_b, gd_t, gd_f, ↓ob1_s, ob1_s, ↓ob2_s, ob2_s, ↓om_n, ↓om_s, om_n, om_s, ↓lt1, ↓reduceIte, or_true, true_or, or_false, false_or, and_true, true_and, and_false, false_and, not_true_eq_false, not_false_eq_true, ite_self, S2_ret, eq_self, llA, llM, llm, llS, lle_f, lle_t, lle2_f, lle2_t, llt_f, llt_t, llt2_f, llt2_t, leq_f, leq_t, lz_f, lzl_t, nI_add, nI_clamp, nle_f, nle_t, nlt_f, nlt_t, neq_f, neq_t, e2, e3, f2, f3, e49, kept_in, bad_eq, g1, e8', e21']
        exact AO.bad h (f := 3) (by decide) (by decide) h2
      · simp (disch := omega) only [↓gd_b, gd_t, gd_f, ↓ob1_s, ob1_s, ↓ob2_s, ob2_s, ↓om_n, ↓om_s, om_n, om_s, ↓lt1, ↓reduceIte, or_true, true_or, or_false, false_or, and_true, true_and, and_false, false_and, not_true_eq_false, not_false_eq_true, ite_self, S2_ret, eq_self, llA, llM, llm, llS, lle_f, lle_t, lle2_f, lle2_t, llt_f, llt_t, llt2_f, llt2_t, leq_f, leq_t, lz_f, lzl_t, nI_add, nI_clamp, nle_f, nle_t, nlt_f, nlt_t, neq_f, neq_t, e2, e3, f2, f3, e49, kept_in, bad_eq, g1, e8', e21', one_ne]
        exact AO.bad h (f := 1) (by decide) (by decide) h2
  · obtain ⟨l, kk, l1, l2, l3, k7, e8, k3, k0, pl⟩ := h.oi hi1
    have e21 : N 21 0 i1 = nI kk := by rw [h.n21 (by omega), e8]
    rcases hand2 h ht h0 (y := y) (by omega) with ⟨f1, f2, f3⟩ | ⟨i2, hi2, f1, f2, f3⟩
    · by_cases hk : kk < 4
      · simp (disch := omega) only [↓gd_b, gd_t, gd_f, ↓ob1_s, ob1_s, ↓ob2_s, ob2_s, ↓om_n, ↓om_s, om_n, om_s, ↓lt1, ↓reduceIte, or_true, true_or, or_false, false_or, and_true, true_and, and_false, false_and, not_true_eq_false, not_false_eq_true, ite_self, S2_ret, eq_self, llA, llM, llm, llS, lle_f, lle_t, lle2_f, lle2_t, llt_f, llt_t, llt2_f, llt2_t, leq_f, leq_t, lz_f, lzl_t, nI_add, nI_clamp, nle_f, nle_t, nlt_f, nlt_t, neq_f, neq_t, e2, e3, f2, f3, e49, kept_in, bad_eq, g1, e8, e21]
        exact AO.bad h (f := 3) (by decide) (by decide) h2
      · simp (disch := omega) only [↓gd_b, gd_t, gd_f, ↓ob1_s, ob1_s, ↓ob2_s, ob2_s, ↓om_n, ↓om_s, om_n, om_s, ↓lt1, ↓reduceIte, or_true, true_or, or_false, false_or, and_true, true_and, and_false, false_and, not_true_eq_false, not_false_eq_true, ite_self, S2_ret, eq_self, llA, llM, llm, llS, lle_f, lle_t, lle2_f, lle2_t, llt_f, llt_t, llt2_f, llt2_t, leq_f, leq_t, lz_f, lzl_t, nI_add, nI_clamp, nle_f, nle_t, nlt_f, nlt_t, neq_f, neq_t, e2, e3, f2, f3, e49, kept_in, bad_eq, g1, e8, e21, one_ne]
        exact AO.bad h (f := 1) (by decide) (by decide) h2
    · obtain ⟨l', kk', l1', l2', l3', k7', e8', k3', k0', pl'⟩ := h.oi hi2
      have e21' : N 21 0 i2 = nI kk' := by rw [h.n21 (by omega), e8']
      by_cases hk : kk < 4
      · simp (disch := omega) only [↓gd_b, gd_t, gd_f, ↓ob1_s, ob1_s, ↓ob2_s, ob2_s, ↓om_n, ↓om_s, om_n, om_s, ↓lt1, ↓reduceIte, or_true, true_or, or_false, false_or, and_true, true_and, and_false, false_and, not_true_eq_false, not_false_eq_true, ite_self, S2_ret, eq_self, llA, llM, llm, llS, lle_f, lle_t, lle2_f, lle2_t, llt_f, llt_t, llt2_f, llt2_t, leq_f, leq_t, lz_f, lzl_t, nI_add, nI_clamp, nle_f, nle_t, nlt_f, nlt_t, neq_f, neq_t, e2, e3, f2, f3, e49, kept_in, bad_eq, g1, e8, e21]
        exact AO.bad h (f := 3) (by decide) (by decide) h2
      · by_cases hk' : kk' < 4
        · simp (disch := omega) only [↓gd_b, gd_t, gd_f, ↓ob1_s, ob1_s, ↓ob2_s, ob2_s, ↓om_n, ↓om_s, om_n, om_s, ↓lt1, ↓reduceIte, or_true, true_or, or_false, false_or, and_true, true_and, and_false, false_and, not_true_eq_false, not_false_eq_true, ite_self, S2_ret, eq_self, llA, llM, llm, llS, lle_f, lle_t, lle2_f, lle2_t, llt_f, llt_t, llt2_f, llt2_t, leq_f, leq_t, lz_f, lzl_t, nI_add, nI_clamp, nle_f, nle_t, nlt_f, nlt_t, neq_f, neq_t, e2, e3, f2, f3, e49, kept_in, bad_eq, g1, e8, e21, e8', e21', one_ne]
          exact AO.bad h (f := 3) (by decide) (by decide) h2
        · have key := lk_copy (b := b) (t := t) (V := M 15 t u) hi1 hi2 (by omega) k7 (by omega) k7' l1 l1' l 0 (69 - l) (68 - l) M N (by omega) h e8 l2 e8' l2' h2
          rw [show 69 - l + l + 1 = 70 by omega, show 68 - l + l + 2 = 70 by omega] at key
          simp (disch := omega) only [↓gd_b, gd_t, gd_f, ↓ob1_s, ob1_s, ↓ob2_s, ob2_s, ↓om_n, ↓om_s, om_n, om_s, ↓lt1, ↓reduceIte, or_true, true_or, or_false, false_or, and_true, true_and, and_false, false_and, not_true_eq_false, not_false_eq_true, ite_self, S2_ret, eq_self, llA, llM, llm, llS, lle_f, lle_t, lle2_f, lle2_t, llt_f, llt_t, llt2_f, llt2_t, leq_f, leq_t, lz_f, lzl_t, nI_add, nI_clamp, nle_f, nle_t, nlt_f, nlt_t, neq_f, neq_t, e2, e3, f2, f3, e49, kept_in, g1, e8, e21, e8', e21', one_ne]
          obtain ⟨⟨x1, x2⟩, y1, q1, q2, q3⟩ := key
          have q1' : f_yX0_copy_L37 70 M i1 i2 (M 15 t u) 0 = some (x1, x2) := q1
          have q2' : f_yX9_copies_L59 70 N (nI i1) (nI i2) (M 15 t u) 0 = some y1 := q2
          rw [q1', q2', ob2_s, ob1_s]
          exact S2.ret q3
end COP
