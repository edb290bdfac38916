section ROW
variable {z b t q r : Nat} {w v : Nat → Int32} {M N : Mem}
theorem place2 {i l : Nat} (V : Int32) (e4 : M 8 i 4 = nI l) (hl : l ≤ 12) : (f_yX7_hasPlace M i V = some 0 ∧ f_yX9_in V 0 (nI l - 1) = some 0) ∨ ∃ p, p < l ∧ V = nI p ∧ f_yX7_hasPlace M i (nI p) = some 1 ∧ f_yX9_in (nI p) 0 (nI (l - 1)) = some 1 := by
  have hp := pred_int (z := l) (by omega)
  rcases ix6 V l (by omega) with h1 | ⟨p, hp1, rfl⟩
  · refine Or.inl ⟨?_, in_out hp (by omega) h1⟩
    unfold f_yX7_hasPlace
    rw [e4, nI_clamp (by omega)]
    by_cases h0 : V < 0
    · rw [if_pos h0]
    · rw [if_neg h0, if_pos (h1.resolve_left h0)]
  · refine Or.inr ⟨p, hp1, rfl, ?_, by rw [← llS' 1 (by omega)]; exact in_in hp hp1 (by omega)⟩
    unfold f_yX7_hasPlace
    have h1 : ¬ nI l ≤ nI p := fun ww => by rw [nI_leI (by omega) (by omega)] at ww; omega
    simp (disch := omega) only [↓gd_b, gd_t, gd_f, ↓ob1_s, ob1_s, ↓ob2_s, ob2_s, ↓om_n, ↓om_s, om_n, om_s, ↓lt1, ↓reduceIte, or_true, true_or, or_false, false_or, and_true, true_and, and_false, false_and, not_true_eq_false, not_false_eq_true, ite_self, S2_ret, eq_self, llA, llM, llm, llS, lle_f, lle_t, lle2_f, lle2_t, llt_f, llt_t, llt2_f, llt2_t, leq_f, leq_t, lz_f, lzl_t, nI_add, nI_clamp, nle_f, nle_t, nlt_f, nlt_t, neq_f, neq_t, e4, h1]
theorem fits2 {n : Lg} (h : RR z b n M N) {i kk : Nat} {V : Int32} (hV : V = -4 ∨ ∃ j : Nat, j < z ∧ V = nI j) (e8 : M 8 i 0 = nI kk) (hk : kk = 6 ∨ kk = 7) : ∃ s : Int32, (s = 0 ∨ s = 1) ∧ f_yX4_fits M V i = some s ∧ ∀ kf, 6 ≤ kf → kf ≤ 7 → f_yX9_fits N (nI kk) (nI kf) V = some s := by
  have h32 := h.z32
  rcases hV with rfl | ⟨j, hj, rfl⟩
  · refine ⟨1, Or.inr rfl, ?_, fun kf k1 k2 => ?_⟩
    · unfold f_yX4_fits
      rw [h.sato (Or.inl (by decide)), ob1_s, om_n]
    · unfold f_yX9_fits
      rcases hk with rfl | rfl <;> simp (disch := omega) only [↓gd_b, gd_t, gd_f, ↓ob1_s, ob1_s, ↓ob2_s, ob2_s, ↓om_n, ↓om_s, om_n, om_s, ↓lt1, ↓reduceIte, or_true, true_or, or_false, false_or, and_true, true_and, and_false, false_and, not_true_eq_false, not_false_eq_true, ite_self, S2_ret, eq_self, llA, llM, llm, llS, lle_f, lle_t, lle2_f, lle2_t, llt_f, llt_t, llt2_f, llt2_t, leq_f, leq_t, lz_f, lzl_t, nI_add, nI_clamp, nle_f, nle_t, nlt_f, nlt_t, neq_f, neq_t]
  · obtain ⟨l, kj, l1, l2, l3, k7, e8j, k3, k0, pl⟩ := h.oi hj
    have bM := bxM k7 e8j
    have bN := bxN (N := N) (i := j) (by omega) k7 (by rw [h.n21 (by omega), e8j])
    have g1 := h.g1
    rcases hk with rfl | rfl
    · refine ⟨1, Or.inr rfl, ?_, fun kf k1 k2 => ?_⟩
      · unfold f_yX4_fits
        simp (disch := omega) only [↓gd_b, gd_t, gd_f, ↓ob1_s, ob1_s, ↓ob2_s, ob2_s, ↓om_n, ↓om_s, om_n, om_s, ↓lt1, ↓reduceIte, or_true, true_or, or_false, false_or, and_true, true_and, and_false, false_and, not_true_eq_false, not_false_eq_true, ite_self, S2_ret, eq_self, llA, llM, llm, llS, lle_f, lle_t, lle2_f, lle2_t, llt_f, llt_t, llt2_f, llt2_t, leq_f, leq_t, lz_f, lzl_t, nI_add, nI_clamp, nle_f, nle_t, nlt_f, nlt_t, neq_f, neq_t, h.sat hj, e8]
      · unfold f_yX9_fits
        simp (disch := omega) only [↓gd_b, gd_t, gd_f, ↓ob1_s, ob1_s, ↓ob2_s, ob2_s, ↓om_n, ↓om_s, om_n, om_s, ↓lt1, ↓reduceIte, or_true, true_or, or_false, false_or, and_true, true_and, and_false, false_and, not_true_eq_false, not_false_eq_true, ite_self, S2_ret, eq_self, llA, llM, llm, llS, lle_f, lle_t, lle2_f, lle2_t, llt_f, llt_t, llt2_f, llt2_t, leq_f, leq_t, lz_f, lzl_t, nI_add, nI_clamp, nle_f, nle_t, nlt_f, nlt_t, neq_f, neq_t]
    · refine ⟨bx kj, (bx_cases kj).elim (fun e => Or.inr e.1) (fun e => Or.inl e.1), ?_, fun kf k1 k2 => ?_⟩
      · unfold f_yX4_fits
        rcases bx_cases kj with ⟨eb, _⟩ | ⟨eb, _⟩
        · simp (disch := omega) only [↓gd_b, gd_t, gd_f, ↓ob1_s, ob1_s, ↓ob2_s, ob2_s, ↓om_n, ↓om_s, om_n, om_s, ↓lt1, ↓reduceIte, or_true, true_or, or_false, false_or, and_true, true_and, and_false, false_and, not_true_eq_false, not_false_eq_true, ite_self, S2_ret, eq_self, llA, llM, llm, llS, lle_f, lle_t, lle2_f, lle2_t, llt_f, llt_t, llt2_f, llt2_t, leq_f, leq_t, lz_f, lzl_t, nI_add, nI_clamp, nle_f, nle_t, nlt_f, nlt_t, neq_f, neq_t, h.sat hj, e8, g1, bM, eb, one_ne]
        · simp (disch := omega) only [↓gd_b, gd_t, gd_f, ↓ob1_s, ob1_s, ↓ob2_s, ob2_s, ↓om_n, ↓om_s, om_n, om_s, ↓lt1, ↓reduceIte, or_true, true_or, or_false, false_or, and_true, true_and, and_false, false_and, not_true_eq_false, not_false_eq_true, ite_self, S2_ret, eq_self, llA, llM, llm, llS, lle_f, lle_t, lle2_f, lle2_t, llt_f, llt_t, llt2_f, llt2_t, leq_f, leq_t, lz_f, lzl_t, nI_add, nI_clamp, nle_f, nle_t, nlt_f, nlt_t, neq_f, neq_t, h.sat hj, e8, g1, bM, eb]
      · unfold f_yX9_fits
        rcases bx_cases kj with ⟨eb, _⟩ | ⟨eb, _⟩
        · simp (disch := omega) only [↓gd_b, gd_t, gd_f, ↓ob1_s, ob1_s, ↓ob2_s, ob2_s, ↓om_n, ↓om_s, om_n, om_s, ↓lt1, ↓reduceIte, or_true, true_or, or_false, false_or, and_true, true_and, and_false, false_and, not_true_eq_false, not_false_eq_true, ite_self, S2_ret, eq_self, llA, llM, llm, llS, lle_f, lle_t, lle2_f, lle2_t, llt_f, llt_t, llt2_f, llt2_t, leq_f, leq_t, lz_f, lzl_t, nI_add, nI_clamp, nle_f, nle_t, nlt_f, nlt_t, neq_f, neq_t, bN, eb, one_ne]
        · simp (disch := omega) only [↓gd_b, gd_t, gd_f, ↓ob1_s, ob1_s, ↓ob2_s, ob2_s, ↓om_n, ↓om_s, om_n, om_s, ↓lt1, ↓reduceIte, or_true, true_or, or_false, false_or, and_true, true_and, and_false, false_and, not_true_eq_false, not_false_eq_true, ite_self, S2_ret, eq_self, llA, llM, llm, llS, lle_f, lle_t, lle2_f, lle2_t, llt_f, llt_t, llt2_f, llt2_t, leq_f, leq_t, lz_f, lzl_t, nI_add, nI_clamp, nle_f, nle_t, nlt_f, nlt_t, neq_f, neq_t, bN, eb]
theorem o_rows (h : RR z b (n0 w v q r) M N) (ht : t < 6) (h2 : M 6 t 0 = 2) {o : Nat} (ho : 16 ≤ o) (ho2 : o < 21) {a c d : Int32} (ka : okn (sc 5 (3 * o)) a = 1) (kc : okn (sc 5 (3 * o + 1)) c = 1) (kd : okn (sc 5 (3 * o + 2)) d = 1) :
    Ra t b w v q r (f_yX0_useRows M t (nI o) a c d) (f_yX9_rows N (nI t) (nI o) (6 * nI t + a) c d) := by
  have h0 : ¬ M 6 t 0 = 0 := by rw [h2]; decide
  have h32 := h.z32
  have g1 := h.g1
  unfold f_yX0_useRows f_yX9_rows
  rcases (by omega : o = 16 ∨ o = 17 ∨ o = 18 ∨ o = 19 ∨ o = 20) with rfl | rfl | rfl | rfl | rfl
  · obtain ⟨x, hx, rfl⟩ := okn_in (L := 5) (by decide) ka
    obtain ⟨y, hy, rfl⟩ := okn_in (L := 5) (by decide) kc
    unfold f_yX0_readSize f_yX7_isRow
    rcases hand2 h ht h0 (y := y) (by omega) with ⟨e1, e2, e3⟩ | ⟨i, hi, e1, e2, e3⟩
    · simp (disch := omega) only [↓gd_b, gd_t, gd_f, ↓ob1_s, ob1_s, ↓ob2_s, ob2_s, ↓om_n, ↓om_s, om_n, om_s, ↓lt1, ↓reduceIte, or_true, true_or, or_false, false_or, and_true, true_and, and_false, false_and, not_true_eq_false, not_false_eq_true, ite_self, S2_ret, eq_self, llA, llM, llm, llS, lle_f, lle_t, lle2_f, lle2_t, llt_f, llt_t, llt2_f, llt2_t, leq_f, leq_t, lz_f, lzl_t, nI_add, nI_clamp, nle_f, nle_t, nlt_f, nlt_t, neq_f, neq_t, e2, e3, bad_eq]
      exact AO.bad h (f := 1) (by decide) (by decide) h2
    · obtain ⟨l, kk, l1, l2, l3, k7, e8, k3, k0, pl⟩ := h.oi hi
      have e21 : N 21 0 i = nI kk := by rw [h.n21 (by omega), e8]
      have e23 : N 23 0 i = nI l := by rw [h.n23 (by omega), l2]
      by_cases hk : kk < 4
      · simp (disch := omega) only [↓gd_b, gd_t, gd_f, ↓ob1_s, ob1_s, ↓ob2_s, ob2_s, ↓om_n, ↓om_s, om_n, om_s, ↓lt1, ↓reduceIte, or_true, true_or, or_false, false_or, and_true, true_and, and_false, false_and, not_true_eq_false, not_false_eq_true, ite_self, S2_ret, eq_self, llA, llM, llm, llS, lle_f, lle_t, lle2_f, lle2_t, llt_f, llt_t, llt2_f, llt2_t, leq_f, leq_t, lz_f, lzl_t, nI_add, nI_clamp, nle_f, nle_t, nlt_f, nlt_t, neq_f, neq_t, e2, e3, g1, e8, e21, bad_eq]
        exact AO.bad h (f := 3) (by decide) (by decide) h2
      · simp (disch := omega) only [↓gd_b, gd_t, gd_f, ↓ob1_s, ob1_s, ↓ob2_s, ob2_s, ↓om_n, ↓om_s, om_n, om_s, ↓lt1, ↓reduceIte, or_true, true_or, or_false, false_or, and_true, true_and, and_false, false_and, not_true_eq_false, not_false_eq_true, ite_self, S2_ret, eq_self, llA, llM, llm, llS, lle_f, lle_t, lle2_f, lle2_t, llt_f, llt_t, llt2_f, llt2_t, leq_f, leq_t, lz_f, lzl_t, nI_add, nI_clamp, nle_f, nle_t, nlt_f, nlt_t, neq_f, neq_t, e2, e3, g1, e8, e21, e23, l2, one_ne, keep_in]
        exact AO.fine (h.w15 ht (by omega) _)
  · obtain ⟨x, hx, rfl⟩ := okn_in (L := 5) (by decide) ka
    obtain ⟨y, hy, rfl⟩ := okn_in (L := 5) (by decide) kc
    obtain ⟨u, hu, rfl⟩ := okn_in (L := 5) (by decide) kd
    have e49 := h.n49 ht (r := u) (by omega)
    unfold f_yX0_readNumber f_yX7_isRowOfNumbers
    rcases hand2 h ht h0 (y := y) (by omega) with ⟨e1, e2, e3⟩ | ⟨i, hi, e1, e2, e3⟩
    · simp (disch := omega) only [↓gd_b, gd_t, gd_f, ↓ob1_s, ob1_s, ↓ob2_s, ob2_s, ↓om_n, ↓om_s, om_n, om_s, ↓lt1, ↓reduceIte, or_true, true_or, or_false, false_or, and_true, true_and, and_false, false_and, not_true_eq_false, not_false_eq_true, ite_self, S2_ret, eq_self, llA, llM, llm, llS, lle_f, lle_t, lle2_f, lle2_t, llt_f, llt_t, llt2_f, llt2_t, leq_f, leq_t, lz_f, lzl_t, nI_add, nI_clamp, nle_f, nle_t, nlt_f, nlt_t, neq_f, neq_t, e2, e3, kept_in, bad_eq]
      exact AO.bad h (f := 1) (by decide) (by decide) h2
    · obtain ⟨l, kk, l1, l2, l3, k7, e8, k3, k0, pl⟩ := h.oi hi
      have e21 : N 21 0 i = nI kk := by rw [h.n21 (by omega), e8]
      have e23 : N 23 0 i = nI l := by rw [h.n23 (by omega), l2]
      rcases (by omega : kk = 4 ∨ kk = 5 ∨ (kk ≠ 4 ∧ kk ≠ 5)) with rfl | rfl | hk
      · rcases place2 (M 15 t u) l2 l1 with ⟨p1, p2⟩ | ⟨p, hp, pe, p1, p2⟩
        · simp (disch := omega) only [↓gd_b, gd_t, gd_f, ↓ob1_s, ob1_s, ↓ob2_s, ob2_s, ↓om_n, ↓om_s, om_n, om_s, ↓lt1, ↓reduceIte, or_true, true_or, or_false, false_or, and_true, true_and, and_false, false_and, not_true_eq_false, not_false_eq_true, ite_self, S2_ret, eq_self, llA, llM, llm, llS, lle_f, lle_t, lle2_f, lle2_t, llt_f, llt_t, llt2_f, llt2_t, leq_f, leq_t, lz_f, lzl_t, nI_add, nI_clamp, nle_f, nle_t, nlt_f, nlt_t, neq_f, neq_t, e2, e3, g1, e8, e21, e23, e49, kept_in, one_ne, p1, p2, bad_eq]
          exact AO.bad h (f := 2) (by decide) (by decide) h2
        · have e24 := h.n24 (i := i) (r := p) (by omega) hp l1 l2
          simp (disch := omega) only [↓gd_b, gd_t, gd_f, ↓ob1_s, ob1_s, ↓ob2_s, ob2_s, ↓om_n, ↓om_s, om_n, om_s, ↓lt1, ↓reduceIte, or_true, true_or, or_false, false_or, and_true, true_and, and_false, false_and, not_true_eq_false, not_false_eq_true, ite_self, S2_ret, eq_self, llA, llM, llm, llS, lle_f, lle_t, lle2_f, lle2_t, llt_f, llt_t, llt2_f, llt2_t, leq_f, leq_t, lz_f, lzl_t, nI_add, nI_clamp, nle_f, nle_t, nlt_f, nlt_t, neq_f, neq_t, e2, e3, g1, e8, e21, e23, e49, kept_in, one_ne, pe, p1, p2, l2, e24, keep_in]
          exact AO.fine (h.w15 ht (by omega) _)
      · rcases place2 (M 15 t u) l2 l1 with ⟨p1, p2⟩ | ⟨p, hp, pe, p1, p2⟩
        · simp (disch := omega) only [↓gd_b, gd_t, gd_f, ↓ob1_s, ob1_s, ↓ob2_s, ob2_s, ↓om_n, ↓om_s, om_n, om_s, ↓lt1, ↓reduceIte, or_true, true_or, or_false, false_or, and_true, true_and, and_false, false_and, not_true_eq_false, not_false_eq_true, ite_self, S2_ret, eq_self, llA, llM, llm, llS, lle_f, lle_t, lle2_f, lle2_t, llt_f, llt_t, llt2_f, llt2_t, leq_f, leq_t, lz_f, lzl_t, nI_add, nI_clamp, nle_f, nle_t, nlt_f, nlt_t, neq_f, neq_t, e2, e3, g1, e8, e21, e23, e49, kept_in, one_ne, p1, p2, bad_eq]
          exact AO.bad h (f := 2) (by decide) (by decide) h2
        · have e24 := h.n24 (i := i) (r := p) (by omega) hp l1 l2
          simp (disch := omega) only [↓gd_b, gd_t, gd_f, ↓ob1_s, ob1_s, ↓ob2_s, ob2_s, ↓om_n, ↓om_s, om_n, om_s, ↓lt1, ↓reduceIte, or_true, true_or, or_false, false_or, and_true, true_and, and_false, false_and, not_true_eq_false, not_false_eq_true, ite_self, S2_ret, eq_self, llA, llM, llm, llS, lle_f, lle_t, lle2_f, lle2_t, llt_f, llt_t, llt2_f, llt2_t, leq_f, leq_t, lz_f, lzl_t, nI_add, nI_clamp, nle_f, nle_t, nlt_f, nlt_t, neq_f, neq_t, e2, e3, g1, e8, e21, e23, e49, kept_in, one_ne, pe, p1, p2, l2, e24, keep_in]
          exact AO.fine (h.w15 ht (by omega) _)
      · simp (disch := omega) only [↓gd_b, gd_t, gd_f, ↓ob1_s, ob1_s, ↓ob2_s, ob2_s, ↓om_n, ↓om_s, om_n, om_s, ↓lt1, ↓reduceIte, or_true, true_or, or_false, false_or, and_true, true_and, and_false, false_and, not_true_eq_false, not_false_eq_true, ite_self, S2_ret, eq_self, llA, llM, llm, llS, lle_f, lle_t, lle2_f, lle2_t, llt_f, llt_t, llt2_f, llt2_t, leq_f, leq_t, lz_f, lzl_t, nI_add, nI_clamp, nle_f, nle_t, nlt_f, nlt_t, neq_f, neq_t, e2, e3, g1, e8, e21, kept_in, bad_eq]
        exact AO.bad h (f := 3) (by decide) (by decide) h2
  · obtain ⟨x, hx, rfl⟩ := okn_in (L := 5) (by decide) ka
    obtain ⟨y, hy, rfl⟩ := okn_in (L := 5) (by decide) kc
    obtain ⟨u, hu, rfl⟩ := okn_in (L := 5) (by decide) kd
    have e49 := h.n49 ht (r := u) (by omega)
    have e49y := h.n49 ht (r := y) (by omega)
    unfold f_yX0_writeNumber f_yX7_isRowOfNumbers
    rcases hand2 h ht h0 (y := x) (by omega) with ⟨e1, e2, e3⟩ | ⟨i, hi, e1, e2, e3⟩
    · simp (disch := omega) only [↓gd_b, gd_t, gd_f, ↓ob1_s, ob1_s, ↓ob2_s, ob2_s, ↓om_n, ↓om_s, om_n, om_s, ↓lt1, ↓reduceIte, or_true, true_or, or_false, false_or, and_true, true_and, and_false, false_and, not_true_eq_false, not_false_eq_true, ite_self, S2_ret, eq_self, llA, llM, llm, llS, lle_f, lle_t, lle2_f, lle2_t, llt_f, llt_t, llt2_f, llt2_t, leq_f, leq_t, lz_f, lzl_t, nI_add, nI_clamp, nle_f, nle_t, nlt_f, nlt_t, neq_f, neq_t, e2, e3, kept_in, bad_eq]
      exact AO.bad h (f := 1) (by decide) (by decide) h2
    · obtain ⟨l, kk, l1, l2, l3, k7, e8, k3, k0, pl⟩ := h.oi hi
      have e21 : N 21 0 i = nI kk := by rw [h.n21 (by omega), e8]
      have e23 : N 23 0 i = nI l := by rw [h.n23 (by omega), l2]
      rcases (by omega : kk = 4 ∨ kk = 5 ∨ (kk ≠ 4 ∧ kk ≠ 5)) with rfl | rfl | hk
      · rcases place2 (M 15 t y) l2 l1 with ⟨p1, p2⟩ | ⟨p, hp, pe, p1, p2⟩
        · simp (disch := omega) only [↓gd_b, gd_t, gd_f, ↓ob1_s, ob1_s, ↓ob2_s, ob2_s, ↓om_n, ↓om_s, om_n, om_s, ↓lt1, ↓reduceIte, or_true, true_or, or_false, false_or, and_true, true_and, and_false, false_and, not_true_eq_false, not_false_eq_true, ite_self, S2_ret, eq_self, llA, llM, llm, llS, lle_f, lle_t, lle2_f, lle2_t, llt_f, llt_t, llt2_f, llt2_t, leq_f, leq_t, lz_f, lzl_t, nI_add, nI_clamp, nle_f, nle_t, nlt_f, nlt_t, neq_f, neq_t, e2, e3, g1, e8, e21, e23, e49, e49y, kept_in, one_ne, p1, p2, bad_eq]
          exact AO.bad h (f := 2) (by decide) (by decide) h2
        · simp (disch := omega) only [↓gd_b, gd_t, gd_f, ↓ob1_s, ob1_s, ↓ob2_s, ob2_s, ↓om_n, ↓om_s, om_n, om_s, ↓lt1, ↓reduceIte, or_true, true_or, or_false, false_or, and_true, true_and, and_false, false_and, not_true_eq_false, not_false_eq_true, ite_self, S2_ret, eq_self, llA, llM, llm, llS, lle_f, lle_t, lle2_f, lle2_t, llt_f, llt_t, llt2_f, llt2_t, leq_f, leq_t, lz_f, lzl_t, nI_add, nI_clamp, nle_f, nle_t, nlt_f, nlt_t, neq_f, neq_t, e2, e3, g1, e8, e21, e23, e49, e49y, kept_in, one_ne, pe, p1, p2, l2]
          exact AO.fine (h.w19 hi hp l2 l1 (fun ww => by rw [e8] at ww; exact absurd ww (by decide)))
      · rcases place2 (M 15 t y) l2 l1 with ⟨p1, p2⟩ | ⟨p, hp, pe, p1, p2⟩
        · simp (disch := omega) only [↓gd_b, gd_t, gd_f, ↓ob1_s, ob1_s, ↓ob2_s, ob2_s, ↓om_n, ↓om_s, om_n, om_s, ↓lt1, ↓reduceIte, or_true, true_or, or_false, false_or, and_true, true_and, and_false, false_and, not_true_eq_false, not_false_eq_true, ite_self, S2_ret, eq_self, llA, llM, llm, llS, lle_f, lle_t, lle2_f, lle2_t, llt_f, llt_t, llt2_f, llt2_t, leq_f, leq_t, lz_f, lzl_t, nI_add, nI_clamp, nle_f, nle_t, nlt_f, nlt_t, neq_f, neq_t, e2, e3, g1, e8, e21, e23, e49, e49y, kept_in, one_ne, p1, p2, bad_eq]
          exact AO.bad h (f := 2) (by decide) (by decide) h2
        · simp (disch := omega) only [↓gd_b, gd_t, gd_f, ↓ob1_s, ob1_s, ↓ob2_s, ob2_s, ↓om_n, ↓om_s, om_n, om_s, ↓lt1, ↓reduceIte, or_true, true_or, or_false, false_or, and_true, true_and, and_false, false_and, not_true_eq_false, not_false_eq_true, ite_self, S2_ret, eq_self, llA, llM, llm, llS, lle_f, lle_t, lle2_f, lle2_t, llt_f, llt_t, llt2_f, llt2_t, leq_f, leq_t, lz_f, lzl_t, nI_add, nI_clamp, nle_f, nle_t, nlt_f, nlt_t, neq_f, neq_t, e2, e3, g1, e8, e21, e23, e49, e49y, kept_in, one_ne, pe, p1, p2, l2]
          exact AO.fine (h.w19 hi hp l2 l1 (fun ww => by rw [e8] at ww; exact absurd ww (by decide)))
      · simp (disch := omega) only [↓gd_b, gd_t, gd_f, ↓ob1_s, ob1_s, ↓ob2_s, ob2_s, ↓om_n, ↓om_s, om_n, om_s, ↓lt1, ↓reduceIte, or_true, true_or, or_false, false_or, and_true, true_and, and_false, false_and, not_true_eq_false, not_false_eq_true, ite_self, S2_ret, eq_self, llA, llM, llm, llS, lle_f, lle_t, lle2_f, lle2_t, llt_f, llt_t, llt2_f, llt2_t, leq_f, leq_t, lz_f, lzl_t, nI_add, nI_clamp, nle_f, nle_t, nlt_f, nlt_t, neq_f, neq_t, e2, e3, g1, e8, e21, kept_in, bad_eq]
        exact AO.bad h (f := 3) (by decide) (by decide) h2
  · obtain ⟨x, hx, rfl⟩ := okn_in (L := 5) (by decide) ka
    obtain ⟨y, hy, rfl⟩ := okn_in (L := 5) (by decide) kc
    obtain ⟨u, hu, rfl⟩ := okn_in (L := 5) (by decide) kd
    have e49 := h.n49 ht (r := u) (by omega)
    unfold f_yX0_takeThing f_yX7_isRowOfThings
    rcases hand2 h ht h0 (y := y) (by omega) with ⟨e1, e2, e3⟩ | ⟨i, hi, e1, e2, e3⟩
    · simp (disch := omega) only [↓gd_b, gd_t, gd_f, ↓ob1_s, ob1_s, ↓ob2_s, ob2_s, ↓om_n, ↓om_s, om_n, om_s, ↓lt1, ↓reduceIte, or_true, true_or, or_false, false_or, and_true, true_and, and_false, false_and, not_true_eq_false, not_false_eq_true, ite_self, S2_ret, eq_self, llA, llM, llm, llS, lle_f, lle_t, lle2_f, lle2_t, llt_f, llt_t, llt2_f, llt2_t, leq_f, leq_t, lz_f, lzl_t, nI_add, nI_clamp, nle_f, nle_t, nlt_f, nlt_t, neq_f, neq_t, e2, e3, kept_in, bad_eq]
      exact AO.bad h (f := 1) (by decide) (by decide) h2
    · obtain ⟨l, kk, l1, l2, l3, k7, e8, k3, k0, pl⟩ := h.oi hi
      have e21 : N 21 0 i = nI kk := by rw [h.n21 (by omega), e8]
      have e23 : N 23 0 i = nI l := by rw [h.n23 (by omega), l2]
      rcases (by omega : kk = 6 ∨ kk = 7 ∨ kk ≤ 5) with rfl | rfl | hk
      · rcases place2 (M 15 t u) l2 l1 with ⟨p1, p2⟩ | ⟨p, hp, pe, p1, p2⟩
        · simp (disch := omega) only [↓gd_b, gd_t, gd_f, ↓ob1_s, ob1_s, ↓ob2_s, ob2_s, ↓om_n, ↓om_s, om_n, om_s, ↓lt1, ↓reduceIte, or_true, true_or, or_false, false_or, and_true, true_and, and_false, false_and, not_true_eq_false, not_false_eq_true, ite_self, S2_ret, eq_self, llA, llM, llm, llS, lle_f, lle_t, lle2_f, lle2_t, llt_f, llt_t, llt2_f, llt2_t, leq_f, leq_t, lz_f, lzl_t, nI_add, nI_clamp, nle_f, nle_t, nlt_f, nlt_t, neq_f, neq_t, e2, e3, g1, e8, e21, e23, e49, kept_in, one_ne, p1, p2, bad_eq]
          exact AO.bad h (f := 2) (by decide) (by decide) h2
        · have e24 := h.n24 (i := i) (r := p) (by omega) hp l1 l2
          simp (disch := omega) only [↓gd_b, gd_t, gd_f, ↓ob1_s, ob1_s, ↓ob2_s, ob2_s, ↓om_n, ↓om_s, om_n, om_s, ↓lt1, ↓reduceIte, or_true, true_or, or_false, false_or, and_true, true_and, and_false, false_and, not_true_eq_false, not_false_eq_true, ite_self, S2_ret, eq_self, llA, llM, llm, llS, lle_f, lle_t, lle2_f, lle2_t, llt_f, llt_t, llt2_f, llt2_t, leq_f, leq_t, lz_f, lzl_t, nI_add, nI_clamp, nle_f, nle_t, nlt_f, nlt_t, neq_f, neq_t, e2, e3, g1, e8, e21, e23, e49, kept_in, one_ne, pe, p1, p2, l2, e24, grasp_in]
          exact AO.fine (h.w16 ht (by omega) h0 (pl (by decide) p hp))
      · rcases place2 (M 15 t u) l2 l1 with ⟨p1, p2⟩ | ⟨p, hp, pe, p1, p2⟩
        · simp (disch := omega) only [↓gd_b, gd_t, gd_f, ↓ob1_s, ob1_s, ↓ob2_s, ob2_s, ↓om_n, ↓om_s, om_n, om_s, ↓lt1, ↓reduceIte, or_true, true_or, or_false, false_or, and_true, true_and, and_false, false_and, not_true_eq_false, not_false_eq_true, ite_self, S2_ret, eq_self, llA, llM, llm, llS, lle_f, lle_t, lle2_f, lle2_t, llt_f, llt_t, llt2_f, llt2_t, leq_f, leq_t, lz_f, lzl_t, nI_add, nI_clamp, nle_f, nle_t, nlt_f, nlt_t, neq_f, neq_t, e2, e3, g1, e8, e21, e23, e49, kept_in, one_ne, p1, p2, bad_eq]
          exact AO.bad h (f := 2) (by decide) (by decide) h2
        · have e24 := h.n24 (i := i) (r := p) (by omega) hp l1 l2
          simp (disch := omega) only [↓gd_b, gd_t, gd_f, ↓ob1_s, ob1_s, ↓ob2_s, ob2_s, ↓om_n, ↓om_s, om_n, om_s, ↓lt1, ↓reduceIte, or_true, true_or, or_false, false_or, and_true, true_and, and_false, false_and, not_true_eq_false, not_false_eq_true, ite_self, S2_ret, eq_self, llA, llM, llm, llS, lle_f, lle_t, lle2_f, lle2_t, llt_f, llt_t, llt2_f, llt2_t, leq_f, leq_t, lz_f, lzl_t, nI_add, nI_clamp, nle_f, nle_t, nlt_f, nlt_t, neq_f, neq_t, e2, e3, g1, e8, e21, e23, e49, kept_in, one_ne, pe, p1, p2, l2, e24, grasp_in]
          exact AO.fine (h.w16 ht (by omega) h0 (pl (by decide) p hp))
      · simp (disch := omega) only [↓gd_b, gd_t, gd_f, ↓ob1_s, ob1_s, ↓ob2_s, ob2_s, ↓om_n, ↓om_s, om_n, om_s, ↓lt1, ↓reduceIte, or_true, true_or, or_false, false_or, and_true, true_and, and_false, false_and, not_true_eq_false, not_false_eq_true, ite_self, S2_ret, eq_self, llA, llM, llm, llS, lle_f, lle_t, lle2_f, lle2_t, llt_f, llt_t, llt2_f, llt2_t, leq_f, leq_t, lz_f, lzl_t, nI_add, nI_clamp, nle_f, nle_t, nlt_f, nlt_t, neq_f, neq_t, e2, e3, g1, e8, e21, kept_in, bad_eq]
        exact AO.bad h (f := 3) (by decide) (by decide) h2
  · obtain ⟨x, hx, rfl⟩ := okn_in (L := 5) (by decide) ka
    obtain ⟨y, hy, rfl⟩ := okn_in (L := 5) (by decide) kc
    obtain ⟨u, hu, rfl⟩ := okn_in (L := 5) (by decide) kd
    have e49 := h.n49 ht (r := y) (by omega)
    have e50 := h.n50 ht (r := u) (by omega) h0
    have hV := (h.ti ht).2.2.2.2.2.2.2.2.2.2 u (by omega)
    unfold f_yX0_putThing f_yX7_isRowOfThings
    rcases hand2 h ht h0 (y := x) (by omega) with ⟨e1, e2, e3⟩ | ⟨i, hi, e1, e2, e3⟩
    · simp (disch := omega) only [↓gd_b, gd_t, gd_f, ↓ob1_s, ob1_s, ↓ob2_s, ob2_s, ↓om_n, ↓om_s, om_n, om_s, ↓lt1, ↓reduceIte, or_true, true_or, or_false, false_or, and_true, true_and, and_false, false_and, not_true_eq_false, not_false_eq_true, ite_self, S2_ret, eq_self, llA, llM, llm, llS, lle_f, lle_t, lle2_f, lle2_t, llt_f, llt_t, llt2_f, llt2_t, leq_f, leq_t, lz_f, lzl_t, nI_add, nI_clamp, nle_f, nle_t, nlt_f, nlt_t, neq_f, neq_t, e2, e3, kept_in, held_in, bad_eq]
      exact AO.bad h (f := 1) (by decide) (by decide) h2
    · obtain ⟨l, kk, l1, l2, l3, k7, e8, k3, k0, pl⟩ := h.oi hi
      have e21 : N 21 0 i = nI kk := by rw [h.n21 (by omega), e8]
      have e23 : N 23 0 i = nI l := by rw [h.n23 (by omega), l2]
      rcases (by omega : kk = 6 ∨ kk = 7 ∨ kk ≤ 5) with rfl | rfl | hk
      · rcases place2 (M 15 t y) l2 l1 with ⟨p1, p2⟩ | ⟨p, hp, pe, p1, p2⟩
        · simp (disch := omega) only [↓gd_b, gd_t, gd_f, ↓ob1_s, ob1_s, ↓ob2_s, ob2_s, ↓om_n, ↓om_s, om_n, om_s, ↓lt1, ↓reduceIte, or_true, true_or, or_false, false_or, and_true, true_and, and_false, false_and, not_true_eq_false, not_false_eq_true, ite_self, S2_ret, eq_self, llA, llM, llm, llS, lle_f, lle_t, lle2_f, lle2_t, llt_f, llt_t, llt2_f, llt2_t, leq_f, leq_t, lz_f, lzl_t, nI_add, nI_clamp, nle_f, nle_t, nlt_f, nlt_t, neq_f, neq_t, e2, e3, g1, e8, e21, e23, e49, kept_in, held_in, one_ne, p1, p2, bad_eq]
          exact AO.bad h (f := 2) (by decide) (by decide) h2
        · obtain ⟨s, s1, s2, s3⟩ := fits2 h hV e8 (by decide)
          have s4 : f_yX9_fits N (nI 6) 6 (M 16 t u) = some s := s3 6 (by decide) (by decide)
          rcases s1 with rfl | rfl
          · simp (disch := omega) only [↓gd_b, gd_t, gd_f, ↓ob1_s, ob1_s, ↓ob2_s, ob2_s, ↓om_n, ↓om_s, om_n, om_s, ↓lt1, ↓reduceIte, or_true, true_or, or_false, false_or, and_true, true_and, and_false, false_and, not_true_eq_false, not_false_eq_true, ite_self, S2_ret, eq_self, llA, llM, llm, llS, lle_f, lle_t, lle2_f, lle2_t, llt_f, llt_t, llt2_f, llt2_t, leq_f, leq_t, lz_f, lzl_t, nI_add, nI_clamp, nle_f, nle_t, nlt_f, nlt_t, neq_f, neq_t, e2, e3, g1, e8, e21, e23, e49, e50, kept_in, held_in, one_ne, pe, p1, p2, s2, s4, bad_eq]
            exact AO.bad h (f := 4) (by decide) (by decide) h2
          · simp (disch := omega) only [↓gd_b, gd_t, gd_f, ↓ob1_s, ob1_s, ↓ob2_s, ob2_s, ↓om_n, ↓om_s, om_n, om_s, ↓lt1, ↓reduceIte, or_true, true_or, or_false, false_or, and_true, true_and, and_false, false_and, not_true_eq_false, not_false_eq_true, ite_self, S2_ret, eq_self, llA, llM, llm, llS, lle_f, lle_t, lle2_f, lle2_t, llt_f, llt_t, llt2_f, llt2_t, leq_f, leq_t, lz_f, lzl_t, nI_add, nI_clamp, nle_f, nle_t, nlt_f, nlt_t, neq_f, neq_t, e2, e3, g1, e8, e21, e23, e49, e50, kept_in, held_in, one_ne, pe, p1, p2, s2, s4, l2]
            exact AO.fine (h.w19 hi hp l2 l1 (fun _ => hV))
      · rcases place2 (M 15 t y) l2 l1 with ⟨p1, p2⟩ | ⟨p, hp, pe, p1, p2⟩
        · simp (disch := omega) only [↓gd_b, gd_t, gd_f, ↓ob1_s, ob1_s, ↓ob2_s, ob2_s, ↓om_n, ↓om_s, om_n, om_s, ↓lt1, ↓reduceIte, or_true, true_or, or_false, false_or, and_true, true_and, and_false, false_and, not_true_eq_false, not_false_eq_true, ite_self, S2_ret, eq_self, llA, llM, llm, llS, lle_f, lle_t, lle2_f, lle2_t, llt_f, llt_t, llt2_f, llt2_t, leq_f, leq_t, lz_f, lzl_t, nI_add, nI_clamp, nle_f, nle_t, nlt_f, nlt_t, neq_f, neq_t, e2, e3, g1, e8, e21, e23, e49, kept_in, held_in, one_ne, p1, p2, bad_eq]
          exact AO.bad h (f := 2) (by decide) (by decide) h2
        · obtain ⟨s, s1, s2, s3⟩ := fits2 h hV e8 (by decide)
          have s4 : f_yX9_fits N (nI 7) 6 (M 16 t u) = some s := s3 6 (by decide) (by decide)
          rcases s1 with rfl | rfl
          · simp (disch := omega) only [↓gd_b, gd_t, gd_f, ↓ob1_s, ob1_s, ↓ob2_s, ob2_s, ↓om_n, ↓om_s, om_n, om_s, ↓lt1, ↓reduceIte, or_true, true_or, or_false, false_or, and_true, true_and, and_false, false_and, not_true_eq_false, not_false_eq_true, ite_self, S2_ret, eq_self, llA, llM, llm, llS, lle_f, lle_t, lle2_f, lle2_t, llt_f, llt_t, llt2_f, llt2_t, leq_f, leq_t, lz_f, lzl_t, nI_add, nI_clamp, nle_f, nle_t, nlt_f, nlt_t, neq_f, neq_t, e2, e3, g1, e8, e21, e23, e49, e50, kept_in, held_in, one_ne, pe, p1, p2, s2, s4, bad_eq]
            exact AO.bad h (f := 4) (by decide) (by decide) h2
          · simp (disch := omega) only [↓gd_b, gd_t, gd_f, ↓ob1_s, ob1_s, ↓ob2_s, ob2_s, ↓om_n, ↓om_s, om_n, om_s, ↓lt1, ↓reduceIte, or_true, true_or, or_false, false_or, and_true, true_and, and_false, false_and, not_true_eq_false, not_false_eq_true, ite_self, S2_ret, eq_self, llA, llM, llm, llS, lle_f, lle_t, lle2_f, lle2_t, llt_f, llt_t, llt2_f, llt2_t, leq_f, leq_t, lz_f, lzl_t, nI_add, nI_clamp, nle_f, nle_t, nlt_f, nlt_t, neq_f, neq_t, e2, e3, g1, e8, e21, e23, e49, e50, kept_in, held_in, one_ne, pe, p1, p2, s2, s4, l2]
            exact AO.fine (h.w19 hi hp l2 l1 (fun _ => hV))
      · simp (disch := omega) only [↓gd_b, gd_t, gd_f, ↓ob1_s, ob1_s, ↓ob2_s, ob2_s, ↓om_n, ↓om_s, om_n, om_s, ↓lt1, ↓reduceIte, or_true, true_or, or_false, false_or, and_true, true_and, and_false, false_and, not_true_eq_false, not_false_eq_true, ite_self, S2_ret, eq_self, llA, llM, llm, llS, lle_f, lle_t, lle2_f, lle2_t, llt_f, llt_t, llt2_f, llt2_t, leq_f, leq_t, lz_f, lzl_t, nI_add, nI_clamp, nle_f, nle_t, nlt_f, nlt_t, neq_f, neq_t, e2, e3, g1, e8, e21, kept_in, held_in, bad_eq]
        exact AO.bad h (f := 3) (by decide) (by decide) h2
end ROW
