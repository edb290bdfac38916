section THI
variable {z b t q r : Nat} {w v : Nat → Int32} {M N : Mem}
theorem hand2 {n : Lg} (h : RR z b n M N) (ht : t < 6) (h0 : ¬ M 6 t 0 = 0) {y : Nat} (hy : y < 6) : (M 16 t y = -4 ∧ N 50 0 (6 * t + y) = -4 ∧ f_yX0_inHand M t (nI y) = some none) ∨ ∃ i, i < z ∧ M 16 t y = nI i ∧ N 50 0 (6 * t + y) = nI i ∧ f_yX0_inHand M t (nI y) = some (some i) := by
  have e := h.n50 ht hy h0
  have e2 := held_in (M := M) (t := t) hy
  rcases (h.ti ht).2.2.2.2.2.2.2.2.2.2 y hy with h1 | ⟨i, hi, h1⟩
  · refine Or.inl ⟨h1, by rw [e, h1], ?_⟩
    unfold f_yX0_inHand
    rw [e2, ob1_s, h1, h.sato (Or.inl (by decide)), ob1_s, om_n]
  · refine Or.inr ⟨i, hi, h1, by rw [e, h1], ?_⟩
    unfold f_yX0_inHand
    rw [e2, ob1_s, h1, h.sat hi, ob1_s, om_s]
def bx (kd : Nat) : Int32 := if 1 ≤ kd ∧ kd ≤ 3 then 1 else 0
theorem bx_cases (kd : Nat) : (bx kd = 1 ∧ 1 ≤ kd ∧ kd ≤ 3) ∨ (bx kd = 0 ∧ ¬ (1 ≤ kd ∧ kd ≤ 3)) := by
  unfold bx
  by_cases h : 1 ≤ kd ∧ kd ≤ 3
  · rw [if_pos h]; exact Or.inl ⟨rfl, h⟩
  · rw [if_neg h]; exact Or.inr ⟨rfl, h⟩
theorem bxM {i kd : Nat} (hk : kd ≤ 7) (e : M 8 i 0 = nI kd) : f_yX7_isBox M i = some (bx kd) := by
  unfold f_yX7_isBox bx
  rw [e]
  rcases (by omega : kd = 0 ∨ (1 ≤ kd ∧ kd ≤ 3) ∨ 4 ≤ kd) with h | h | h
  · simp (disch := omega) only [↓gd_b, gd_t, gd_f, ↓ob1_s, ob1_s, ↓ob2_s, ob2_s, ↓om_n, ↓om_s, om_n, om_s, ↓lt1, ↓reduceIte, or_true, true_or, or_false, false_or, and_true, true_and, and_false, false_and, not_true_eq_false, not_false_eq_true, ite_self, S2_ret, eq_self, llA, llM, llm, llS, lle_f, lle_t, lle2_f, lle2_t, llt_f, llt_t, llt2_f, llt2_t, leq_f, leq_t, lz_f, lzl_t, nI_add, nI_clamp, nle_f, nle_t, nlt_f, nlt_t, neq_f, neq_t]
  · simp (disch := omega) only [↓gd_b, gd_t, gd_f, ↓ob1_s, ob1_s, ↓ob2_s, ob2_s, ↓om_n, ↓om_s, om_n, om_s, ↓lt1, ↓reduceIte, or_true, true_or, or_false, false_or, and_true, true_and, and_false, false_and, not_true_eq_false, not_false_eq_true, ite_self, S2_ret, eq_self, llA, llM, llm, llS, lle_f, lle_t, lle2_f, lle2_t, llt_f, llt_t, llt2_f, llt2_t, leq_f, leq_t, lz_f, lzl_t, nI_add, nI_clamp, nle_f, nle_t, nlt_f, nlt_t, neq_f, neq_t]
  · simp (disch := omega) only [↓gd_b, gd_t, gd_f, ↓ob1_s, ob1_s, ↓ob2_s, ob2_s, ↓om_n, ↓om_s, om_n, om_s, ↓lt1, ↓reduceIte, or_true, true_or, or_false, false_or, and_true, true_and, and_false, false_and, not_true_eq_false, not_false_eq_true, ite_self, S2_ret, eq_self, llA, llM, llm, llS, lle_f, lle_t, lle2_f, lle2_t, llt_f, llt_t, llt2_f, llt2_t, leq_f, leq_t, lz_f, lzl_t, nI_add, nI_clamp, nle_f, nle_t, nlt_f, nlt_t, neq_f, neq_t]
theorem bxN {i kd : Nat} (hi : i < 32) (hk : kd ≤ 7) (e : N 21 0 i = nI kd) : f_yX9_isBox N (nI i) = some (bx kd) := by
  unfold f_yX9_isBox f_yX9_in bx
  rcases (by omega : kd = 0 ∨ (1 ≤ kd ∧ kd ≤ 3) ∨ 4 ≤ kd) with h | h | h
  · simp (disch := omega) only [↓gd_b, gd_t, gd_f, ↓ob1_s, ob1_s, ↓ob2_s, ob2_s, ↓om_n, ↓om_s, om_n, om_s, ↓lt1, ↓reduceIte, or_true, true_or, or_false, false_or, and_true, true_and, and_false, false_and, not_true_eq_false, not_false_eq_true, ite_self, S2_ret, eq_self, llA, llM, llm, llS, lle_f, lle_t, lle2_f, lle2_t, llt_f, llt_t, llt2_f, llt2_t, leq_f, leq_t, lz_f, lzl_t, nI_add, nI_clamp, nle_f, nle_t, nlt_f, nlt_t, neq_f, neq_t, e]
  · simp (disch := omega) only [↓gd_b, gd_t, gd_f, ↓ob1_s, ob1_s, ↓ob2_s, ob2_s, ↓om_n, ↓om_s, om_n, om_s, ↓lt1, ↓reduceIte, or_true, true_or, or_false, false_or, and_true, true_and, and_false, false_and, not_true_eq_false, not_false_eq_true, ite_self, S2_ret, eq_self, llA, llM, llm, llS, lle_f, lle_t, lle2_f, lle2_t, llt_f, llt_t, llt2_f, llt2_t, leq_f, leq_t, lz_f, lzl_t, nI_add, nI_clamp, nle_f, nle_t, nlt_f, nlt_t, neq_f, neq_t, e, one_ne]
  · simp (disch := omega) only [↓gd_b, gd_t, gd_f, ↓ob1_s, ob1_s, ↓ob2_s, ob2_s, ↓om_n, ↓om_s, om_n, om_s, ↓lt1, ↓reduceIte, or_true, true_or, or_false, false_or, and_true, true_and, and_false, false_and, not_true_eq_false, not_false_eq_true, ite_self, S2_ret, eq_self, llA, llM, llm, llS, lle_f, lle_t, lle2_f, lle2_t, llt_f, llt_t, llt2_f, llt2_t, leq_f, leq_t, lz_f, lzl_t, nI_add, nI_clamp, nle_f, nle_t, nlt_f, nlt_t, neq_f, neq_t, e]
theorem o_holds (h : RR z b (n0 w v q r) M N) (ht : t < 6) (h2 : M 6 t 0 = 2) {o : Nat} (ho : 8 ≤ o) (ho2 : o < 12) {a c d : Int32} (ka : okn (sc 5 (3 * o)) a = 1) (kc : okn (sc 5 (3 * o + 1)) c = 1) (kd : okn (sc 5 (3 * o + 2)) d = 1) :
    Ra t b w v q r (f_yX0_useThings M t (nI o) a c d) (f_yX9_holds N (nI t) (nI o) (6 * nI t + a) c d) := by
  have h0 : ¬ M 6 t 0 = 0 := by rw [h2]; decide
  have h32 := h.z32
  unfold f_yX0_useThings f_yX9_holds
  rcases (by omega : o = 8 ∨ o = 9 ∨ o = 10 ∨ o = 11) with rfl | rfl | rfl | rfl
  · obtain ⟨x, hx, rfl⟩ := okn_in (L := 5) (by decide) ka
    obtain ⟨y, hy, rfl⟩ := okn_in (L := 5) (by decide) kc
    have e1 := h.n49 ht (r := y) (by omega)
    unfold f_yX0_holdNumber
    by_cases hm : M 15 t y = -1
    · simp (disch := omega) only [↓gd_b, gd_t, gd_f, ↓ob1_s, ob1_s, ↓ob2_s, ob2_s, ↓om_n, ↓om_s, om_n, om_s, ↓lt1, ↓reduceIte, or_true, true_or, or_false, false_or, and_true, true_and, and_false, false_and, not_true_eq_false, not_false_eq_true, ite_self, S2_ret, eq_self, llA, llM, llm, llS, lle_f, lle_t, lle2_f, lle2_t, llt_f, llt_t, llt2_f, llt2_t, leq_f, leq_t, lz_f, lzl_t, nI_add, nI_clamp, nle_f, nle_t, nlt_f, nlt_t, neq_f, neq_t, kept_in, e1, hm, grasp_in]
      exact AO.fine (h.w16 ht (by omega) h0 (Or.inl rfl))
    · rcases h.ix (M 15 t y) with h1 | ⟨i, hi, h1⟩
      · simp (disch := omega) only [↓gd_b, gd_t, gd_f, ↓ob1_s, ob1_s, ↓ob2_s, ob2_s, ↓om_n, ↓om_s, om_n, om_s, ↓lt1, ↓reduceIte, or_true, true_or, or_false, false_or, and_true, true_and, and_false, false_and, not_true_eq_false, not_false_eq_true, ite_self, S2_ret, eq_self, llA, llM, llm, llS, lle_f, lle_t, lle2_f, lle2_t, llt_f, llt_t, llt2_f, llt2_t, leq_f, leq_t, lz_f, lzl_t, nI_add, nI_clamp, nle_f, nle_t, nlt_f, nlt_t, neq_f, neq_t, kept_in, e1, hm, h.sato h1, h.isTo h1, bad_eq]
        exact AO.bad h (f := 2) (by decide) (by decide) h2
      · simp (disch := omega) only [↓gd_b, gd_t, gd_f, ↓ob1_s, ob1_s, ↓ob2_s, ob2_s, ↓om_n, ↓om_s, om_n, om_s, ↓lt1, ↓reduceIte, or_true, true_or, or_false, false_or, and_true, true_and, and_false, false_and, not_true_eq_false, not_false_eq_true, ite_self, S2_ret, eq_self, llA, llM, llm, llS, lle_f, lle_t, lle2_f, lle2_t, llt_f, llt_t, llt2_f, llt2_t, leq_f, leq_t, lz_f, lzl_t, nI_add, nI_clamp, nle_f, nle_t, nlt_f, nlt_t, neq_f, neq_t, kept_in, e1, h1, h.sat hi, h.isT hi, grasp_in, one_ne]
        exact AO.fine (h.w16 ht (by omega) h0 (Or.inr ⟨i, hi, rfl⟩))
  · obtain ⟨x, hx, rfl⟩ := okn_in (L := 5) (by decide) ka
    obtain ⟨k, hk, rfl⟩ := okn_in (L := 7) (by decide) kc
    obtain ⟨y, hy, rfl⟩ := okn_in (L := 5) (by decide) kd
    have e1 := h.n49 ht (r := y) (by omega)
    unfold f_yX0_makeThing
    by_cases hz : z = 32
    · by_cases hk3 : k < 4
      · simp (disch := omega) only [↓gd_b, gd_t, gd_f, ↓ob1_s, ob1_s, ↓ob2_s, ob2_s, ↓om_n, ↓om_s, om_n, om_s, ↓lt1, ↓reduceIte, or_true, true_or, or_false, false_or, and_true, true_and, and_false, false_and, not_true_eq_false, not_false_eq_true, ite_self, S2_ret, eq_self, llA, llM, llm, llS, lle_f, lle_t, lle2_f, lle2_t, llt_f, llt_t, llt2_f, llt2_t, leq_f, leq_t, lz_f, lzl_t, nI_add, nI_clamp, nle_f, nle_t, nlt_f, nlt_t, neq_f, neq_t, kept_in, e1, full_yes h hz, h.nsz, h.sz, one_ne, bad_eq]
        exact AO.bad h (f := 11) (by decide) (by decide) h2
      · simp (disch := omega) only [↓gd_b, gd_t, gd_f, ↓ob1_s, ob1_s, ↓ob2_s, ob2_s, ↓om_n, ↓om_s, om_n, om_s, ↓lt1, ↓reduceIte, or_true, true_or, or_false, false_or, and_true, true_and, and_false, false_and, not_true_eq_false, not_false_eq_true, ite_self, S2_ret, eq_self, llA, llM, llm, llS, lle_f, lle_t, lle2_f, lle2_t, llt_f, llt_t, llt2_f, llt2_t, leq_f, leq_t, lz_f, lzl_t, nI_add, nI_clamp, nle_f, nle_t, nlt_f, nlt_t, neq_f, neq_t, kept_in, e1, full_yes h hz, h.nsz, h.sz, one_ne, bad_eq]
        exact AO.bad h (f := 11) (by decide) (by decide) h2
    · have hz' : z < 32 := by omega
      by_cases hk3 : k < 4
      · obtain ⟨⟨r1, M1⟩, ⟨r2, N1⟩, q1, q2, q3, q4, q5, q6⟩ := lk_make (kd := k) (l := 0) h hz' (by omega) (by decide) (M 15 t y) (Or.inl ⟨by omega, rfl⟩)
        have q1' : f_yX4_make M (nI k) 0 = some (r1, M1) := q1
        simp only at q3 q4 q5 q6
        subst q3 q4
        simp (disch := omega) only [↓gd_b, gd_t, gd_f, ↓ob1_s, ob1_s, ↓ob2_s, ob2_s, ↓om_n, ↓om_s, om_n, om_s, ↓lt1, ↓reduceIte, or_true, true_or, or_false, false_or, and_true, true_and, and_false, false_and, not_true_eq_false, not_false_eq_true, ite_self, S2_ret, eq_self, llA, llM, llm, llS, lle_f, lle_t, lle2_f, lle2_t, llt_f, llt_t, llt2_f, llt2_t, leq_f, leq_t, lz_f, lzl_t, nI_add, nI_clamp, nle_f, nle_t, nlt_f, nlt_t, neq_f, neq_t, kept_in, e1, full_no h hz', h.nsz, h.sz, q1', q2, grasp_in]
        exact AO.fine (q5.w16 ht (by omega) (by rw [q6]; exact h0) (Or.inr ⟨z, by omega, rfl⟩))
      · by_cases h12 : M 15 t y ≤ 12
        · by_cases h00 : (0 : Int32) ≤ M 15 t y
          · have hn : ¬ M 15 t y < 0 := fun ww => by
              rw [Int32.lt_iff_toInt_lt] at ww
              rw [Int32.le_iff_toInt_le] at h00
              omega
            obtain ⟨l, hl, hv⟩ := nI_of2 (n := 12) (by decide) hn h12
            obtain ⟨⟨r1, M1⟩, ⟨r2, N1⟩, q1, q2, q3, q4, q5, q6⟩ := lk_make (kd := k) (l := l) h hz' (by omega) hl (nI l) (Or.inr ⟨by omega, rfl⟩)
            simp only at q3 q4 q5 q6
            subst q3 q4
            simp (disch := omega) only [↓gd_b, gd_t, gd_f, ↓ob1_s, ob1_s, ↓ob2_s, ob2_s, ↓om_n, ↓om_s, om_n, om_s, ↓lt1, ↓reduceIte, or_true, true_or, or_false, false_or, and_true, true_and, and_false, false_and, not_true_eq_false, not_false_eq_true, ite_self, S2_ret, eq_self, llA, llM, llm, llS, lle_f, lle_t, lle2_f, lle2_t, llt_f, llt_t, llt2_f, llt2_t, leq_f, leq_t, lz_f, lzl_t, nI_add, nI_clamp, nle_f, nle_t, nlt_f, nlt_t, neq_f, neq_t, kept_in, e1, hv, full_no h hz', h.nsz, h.sz, q1, q2, grasp_in]
            exact AO.fine (q5.w16 ht (by omega) (by rw [q6]; exact h0) (Or.inr ⟨z, by omega, rfl⟩))
          · simp (disch := omega) only [↓gd_b, gd_t, gd_f, ↓ob1_s, ob1_s, ↓ob2_s, ob2_s, ↓om_n, ↓om_s, om_n, om_s, ↓lt1, ↓reduceIte, or_true, true_or, or_false, false_or, and_true, true_and, and_false, false_and, not_true_eq_false, not_false_eq_true, ite_self, S2_ret, eq_self, llA, llM, llm, llS, lle_f, lle_t, lle2_f, lle2_t, llt_f, llt_t, llt2_f, llt2_t, leq_f, leq_t, lz_f, lzl_t, nI_add, nI_clamp, nle_f, nle_t, nlt_f, nlt_t, neq_f, neq_t, kept_in, e1, h12, h00, full_no h hz', h.nsz, h.sz, bad_eq]
            exact AO.bad h (f := 5) (by decide) (by decide) h2
        · simp (disch := omega) only [↓gd_b, gd_t, gd_f, ↓ob1_s, ob1_s, ↓ob2_s, ob2_s, ↓om_n, ↓om_s, om_n, om_s, ↓lt1, ↓reduceIte, or_true, true_or, or_false, false_or, and_true, true_and, and_false, false_and, not_true_eq_false, not_false_eq_true, ite_self, S2_ret, eq_self, llA, llM, llm, llS, lle_f, lle_t, lle2_f, lle2_t, llt_f, llt_t, llt2_f, llt2_t, leq_f, leq_t, lz_f, lzl_t, nI_add, nI_clamp, nle_f, nle_t, nlt_f, nlt_t, neq_f, neq_t, kept_in, e1, h12, full_no h hz', h.nsz, h.sz, bad_eq]
          exact AO.bad h (f := 11) (by decide) (by decide) h2
  · obtain ⟨x, hx, rfl⟩ := okn_in (L := 5) (by decide) ka
    obtain ⟨y, hy, rfl⟩ := okn_in (L := 5) (by decide) kc
    obtain ⟨u, hu, rfl⟩ := okn_in (L := 5) (by decide) kd
    have e1 := h.n50 ht (r := y) (by omega) h0
    have e2 := h.n50 ht (r := u) (by omega) h0
    by_cases he : M 16 t y = M 16 t u
    · simp (disch := omega) only [↓gd_b, gd_t, gd_f, ↓ob1_s, ob1_s, ↓ob2_s, ob2_s, ↓om_n, ↓om_s, om_n, om_s, ↓lt1, ↓reduceIte, or_true, true_or, or_false, false_or, and_true, true_and, and_false, false_and, not_true_eq_false, not_false_eq_true, ite_self, S2_ret, eq_self, llA, llM, llm, llS, lle_f, lle_t, lle2_f, lle2_t, llt_f, llt_t, llt2_f, llt2_t, leq_f, leq_t, lz_f, lzl_t, nI_add, nI_clamp, nle_f, nle_t, nlt_f, nlt_t, neq_f, neq_t, held_in, e1, e2, he, keep_in]
      exact AO.fine (h.w15 ht (by omega) _)
    · simp (disch := omega) only [↓gd_b, gd_t, gd_f, ↓ob1_s, ob1_s, ↓ob2_s, ob2_s, ↓om_n, ↓om_s, om_n, om_s, ↓lt1, ↓reduceIte, or_true, true_or, or_false, false_or, and_true, true_and, and_false, false_and, not_true_eq_false, not_false_eq_true, ite_self, S2_ret, eq_self, llA, llM, llm, llS, lle_f, lle_t, lle2_f, lle2_t, llt_f, llt_t, llt2_f, llt2_t, leq_f, leq_t, lz_f, lzl_t, nI_add, nI_clamp, nle_f, nle_t, nlt_f, nlt_t, neq_f, neq_t, held_in, e1, e2, he, keep_in]
      exact AO.fine (h.w15 ht (by omega) _)
  · obtain ⟨x, hx, rfl⟩ := okn_in (L := 5) (by decide) ka
    obtain ⟨y, hy, rfl⟩ := okn_in (L := 5) (by decide) kc
    have e1 := h.n50 ht (r := y) (by omega) h0
    simp (disch := omega) only [↓gd_b, gd_t, gd_f, ↓ob1_s, ob1_s, ↓ob2_s, ob2_s, ↓om_n, ↓om_s, om_n, om_s, ↓lt1, ↓reduceIte, or_true, true_or, or_false, false_or, and_true, true_and, and_false, false_and, not_true_eq_false, not_false_eq_true, ite_self, S2_ret, eq_self, llA, llM, llm, llS, lle_f, lle_t, lle2_f, lle2_t, llt_f, llt_t, llt2_f, llt2_t, leq_f, leq_t, lz_f, lzl_t, nI_add, nI_clamp, nle_f, nle_t, nlt_f, nlt_t, neq_f, neq_t, held_in, e1, grasp_in]
    exact AO.fine (h.w16 ht (by omega) h0 ((h.ti ht).2.2.2.2.2.2.2.2.2.2 y (by omega)))
theorem o_boxes (h : RR z b (n0 w v q r) M N) (ht : t < 6) (h2 : M 6 t 0 = 2) {o : Nat} (ho : 12 ≤ o) (ho2 : o < 16) {a c d : Int32} (ka : okn (sc 5 (3 * o)) a = 1) (kc : okn (sc 5 (3 * o + 1)) c = 1) :
    Ra t b w v q r (f_yX0_useThings M t (nI o) a c d) (f_yX9_boxes N (nI t) (nI o) (6 * nI t + a) c) := by
  have h0 : ¬ M 6 t 0 = 0 := by rw [h2]; decide
  have h32 := h.z32
  unfold f_yX0_useThings f_yX9_boxes
  rcases (by omega : o = 12 ∨ o = 13 ∨ o = 14 ∨ o = 15) with rfl | rfl | rfl | rfl
  · obtain ⟨x, hx, rfl⟩ := okn_in (L := 5) (by decide) ka
    obtain ⟨y, hy, rfl⟩ := okn_in (L := 5) (by decide) kc
    unfold f_yX0_readCount
    rcases hand2 h ht h0 (y := y) (by omega) with ⟨e1, e2, e3⟩ | ⟨i, hi, e1, e2, e3⟩
    · simp (disch := omega) only [↓gd_b, gd_t, gd_f, ↓ob1_s, ob1_s, ↓ob2_s, ob2_s, ↓om_n, ↓om_s, om_n, om_s, ↓lt1, ↓reduceIte, or_true, true_or, or_false, false_or, and_true, true_and, and_false, false_and, not_true_eq_false, not_false_eq_true, ite_self, S2_ret, eq_self, llA, llM, llm, llS, lle_f, lle_t, lle2_f, lle2_t, llt_f, llt_t, llt2_f, llt2_t, leq_f, leq_t, lz_f, lzl_t, nI_add, nI_clamp, nle_f, nle_t, nlt_f, nlt_t, neq_f, neq_t, e2, e3, bad_eq]
      exact AO.bad h (f := 1) (by decide) (by decide) h2
    · obtain ⟨l, kk, l1, l2, l3, k7, e8, k3, k0, pl⟩ := h.oi hi
      have g1 := h.g1
      have bM := bxM k7 e8
      have bN := bxN (N := N) (i := i) (by omega) k7 (by rw [h.n21 (by omega), e8])
      rcases bx_cases kk with ⟨eb, _⟩ | ⟨eb, _⟩
      · have e22 := h.n22 (i := i) (by omega)
        simp (disch := omega) only [↓gd_b, gd_t, gd_f, ↓ob1_s, ob1_s, ↓ob2_s, ob2_s, ↓om_n, ↓om_s, om_n, om_s, ↓lt1, ↓reduceIte, or_true, true_or, or_false, false_or, and_true, true_and, and_false, false_and, not_true_eq_false, not_false_eq_true, ite_self, S2_ret, eq_self, llA, llM, llm, llS, lle_f, lle_t, lle2_f, lle2_t, llt_f, llt_t, llt2_f, llt2_t, leq_f, leq_t, lz_f, lzl_t, nI_add, nI_clamp, nle_f, nle_t, nlt_f, nlt_t, neq_f, neq_t, e2, e3, g1, bM, bN, eb, one_ne, keep_in, e22]
        exact AO.fine (h.w15 ht (by omega) _)
      · simp (disch := omega) only [↓gd_b, gd_t, gd_f, ↓ob1_s, ob1_s, ↓ob2_s, ob2_s, ↓om_n, ↓om_s, om_n, om_s, ↓lt1, ↓reduceIte, or_true, true_or, or_false, false_or, and_true, true_and, and_false, false_and, not_true_eq_false, not_false_eq_true, ite_self, S2_ret, eq_self, llA, llM, llm, llS, lle_f, lle_t, lle2_f, lle2_t, llt_f, llt_t, llt2_f, llt2_t, leq_f, leq_t, lz_f, lzl_t, nI_add, nI_clamp, nle_f, nle_t, nlt_f, nlt_t, neq_f, neq_t, e2, e3, g1, bM, bN, eb, bad_eq]
        exact AO.bad h (f := 3) (by decide) (by decide) h2
  · obtain ⟨x, hx, rfl⟩ := okn_in (L := 5) (by decide) ka
    obtain ⟨y, hy, rfl⟩ := okn_in (L := 5) (by decide) kc
    have e49 := h.n49 ht (r := y) (by omega)
    unfold f_yX0_bump
    rcases hand2 h ht h0 (y := x) (by omega) with ⟨e1, e2, e3⟩ | ⟨i, hi, e1, e2, e3⟩
    · simp (disch := omega) only [↓gd_b, gd_t, gd_f, ↓ob1_s, ob1_s, ↓ob2_s, ob2_s, ↓om_n, ↓om_s, om_n, om_s, ↓lt1, ↓reduceIte, or_true, true_or, or_false, false_or, and_true, true_and, and_false, false_and, not_true_eq_false, not_false_eq_true, ite_self, S2_ret, eq_self, llA, llM, llm, llS, lle_f, lle_t, lle2_f, lle2_t, llt_f, llt_t, llt2_f, llt2_t, leq_f, leq_t, lz_f, lzl_t, nI_add, nI_clamp, nle_f, nle_t, nlt_f, nlt_t, neq_f, neq_t, e2, e3, kept_in, bad_eq]
      exact AO.bad h (f := 1) (by decide) (by decide) h2
    · obtain ⟨l, kk, l1, l2, l3, k7, e8, k3, k0, pl⟩ := h.oi hi
      have g1 := h.g1
      have bM := bxM k7 e8
      have bN := bxN (N := N) (i := i) (by omega) k7 (by rw [h.n21 (by omega), e8])
      rcases bx_cases kk with ⟨eb, eb1, _⟩ | ⟨eb, _⟩
      · have e22 := h.n22 (i := i) (by omega)
        simp (disch := omega) only [↓gd_b, gd_t, gd_f, ↓ob1_s, ob1_s, ↓ob2_s, ob2_s, ↓om_n, ↓om_s, om_n, om_s, ↓lt1, ↓reduceIte, or_true, true_or, or_false, false_or, and_true, true_and, and_false, false_and, not_true_eq_false, not_false_eq_true, ite_self, S2_ret, eq_self, llA, llM, llm, llS, lle_f, lle_t, lle2_f, lle2_t, llt_f, llt_t, llt2_f, llt2_t, leq_f, leq_t, lz_f, lzl_t, nI_add, nI_clamp, nle_f, nle_t, nlt_f, nlt_t, neq_f, neq_t, e2, e3, g1, bM, bN, eb, one_ne, kept_in, e22, e49]
        exact AO.fine (h.wcnt _ hi (by rw [e8]; exact nI_ne0 eb1 (by omega)))
      · simp (disch := omega) only [↓gd_b, gd_t, gd_f, ↓ob1_s, ob1_s, ↓ob2_s, ob2_s, ↓om_n, ↓om_s, om_n, om_s, ↓lt1, ↓reduceIte, or_true, true_or, or_false, false_or, and_true, true_and, and_false, false_and, not_true_eq_false, not_false_eq_true, ite_self, S2_ret, eq_self, llA, llM, llm, llS, lle_f, lle_t, lle2_f, lle2_t, llt_f, llt_t, llt2_f, llt2_t, leq_f, leq_t, lz_f, lzl_t, nI_add, nI_clamp, nle_f, nle_t, nlt_f, nlt_t, neq_f, neq_t, e2, e3, g1, bM, bN, eb, kept_in, bad_eq]
        exact AO.bad h (f := 3) (by decide) (by decide) h2
  · obtain ⟨x, hx, rfl⟩ := okn_in (L := 5) (by decide) ka
    obtain ⟨y, hy, rfl⟩ := okn_in (L := 5) (by decide) kc
    unfold f_yX0_weighInto
    rcases hand2 h ht h0 (y := y) (by omega) with ⟨e1, e2, e3⟩ | ⟨i, hi, e1, e2, e3⟩
    · simp (disch := omega) only [↓gd_b, gd_t, gd_f, ↓ob1_s, ob1_s, ↓ob2_s, ob2_s, ↓om_n, ↓om_s, om_n, om_s, ↓lt1, ↓reduceIte, or_true, true_or, or_false, false_or, and_true, true_and, and_false, false_and, not_true_eq_false, not_false_eq_true, ite_self, S2_ret, eq_self, llA, llM, llm, llS, lle_f, lle_t, lle2_f, lle2_t, llt_f, llt_t, llt2_f, llt2_t, leq_f, leq_t, lz_f, lzl_t, nI_add, nI_clamp, nle_f, nle_t, nlt_f, nlt_t, neq_f, neq_t, e2, e3, bad_eq]
      exact AO.bad h (f := 1) (by decide) (by decide) h2
    · have g1 := h.g1
      obtain ⟨⟨r1, M1⟩, ⟨r2, N1⟩, q1, q2, q3, q4⟩ := lk_weigh h hi
      simp only at q3 q4
      subst q3
      simp (disch := omega) only [↓gd_b, gd_t, gd_f, ↓ob1_s, ob1_s, ↓ob2_s, ob2_s, ↓om_n, ↓om_s, om_n, om_s, ↓lt1, ↓reduceIte, or_true, true_or, or_false, false_or, and_true, true_and, and_false, false_and, not_true_eq_false, not_false_eq_true, ite_self, S2_ret, eq_self, llA, llM, llm, llS, lle_f, lle_t, lle2_f, lle2_t, llt_f, llt_t, llt2_f, llt2_t, leq_f, leq_t, lz_f, lzl_t, nI_add, nI_clamp, nle_f, nle_t, nlt_f, nlt_t, neq_f, neq_t, e2, e3, g1, q1, q2, keep_in]
      exact AO.fine (q4.w15 ht (by omega) _)
  · obtain ⟨x, hx, rfl⟩ := okn_in (L := 5) (by decide) ka
    obtain ⟨y, hy, rfl⟩ := okn_in (L := 5) (by decide) kc
    unfold f_yX0_readMark f_yX7_isCrate
    rcases hand2 h ht h0 (y := y) (by omega) with ⟨e1, e2, e3⟩ | ⟨i, hi, e1, e2, e3⟩
    · simp (disch := omega) only [↓gd_b, gd_t, gd_f, ↓ob1_s, ob1_s, ↓ob2_s, ob2_s, ↓om_n, ↓om_s, om_n, om_s, ↓lt1, ↓reduceIte, or_true, true_or, or_false, false_or, and_true, true_and, and_false, false_and, not_true_eq_false, not_false_eq_true, ite_self, S2_ret, eq_self, llA, llM, llm, llS, lle_f, lle_t, lle2_f, lle2_t, llt_f, llt_t, llt2_f, llt2_t, leq_f, leq_t, lz_f, lzl_t, nI_add, nI_clamp, nle_f, nle_t, nlt_f, nlt_t, neq_f, neq_t, e2, e3, bad_eq]
      exact AO.bad h (f := 1) (by decide) (by decide) h2
    · obtain ⟨l, kk, l1, l2, l3, k7, e8, k3, k0, pl⟩ := h.oi hi
      have g1 := h.g1
      have e21 : N 21 0 i = nI kk := by rw [h.n21 (by omega), e8]
      have bN := bxN (i := i) (by omega) k7 e21
      rcases (by omega : kk = 2 ∨ kk = 3 ∨ kk = 1 ∨ kk = 0 ∨ 4 ≤ kk) with rfl | rfl | rfl | rfl | hk4
      · simp (disch := omega) only [↓gd_b, gd_t, gd_f, ↓ob1_s, ob1_s, ↓ob2_s, ob2_s, ↓om_n, ↓om_s, om_n, om_s, ↓lt1, ↓reduceIte, or_true, true_or, or_false, false_or, and_true, true_and, and_false, false_and, not_true_eq_false, not_false_eq_true, ite_self, S2_ret, eq_self, llA, llM, llm, llS, lle_f, lle_t, lle2_f, lle2_t, llt_f, llt_t, llt2_f, llt2_t, leq_f, leq_t, lz_f, lzl_t, nI_add, nI_clamp, nle_f, nle_t, nlt_f, nlt_t, neq_f, neq_t, e2, e3, g1, bN, e8, e21, show bx 2 = 1 from rfl, one_ne, keep_in]
        exact AO.fine (h.w15 ht (by omega) _)
      · simp (disch := omega) only [↓gd_b, gd_t, gd_f, ↓ob1_s, ob1_s, ↓ob2_s, ob2_s, ↓om_n, ↓om_s, om_n, om_s, ↓lt1, ↓reduceIte, or_true, true_or, or_false, false_or, and_true, true_and, and_false, false_and, not_true_eq_false, not_false_eq_true, ite_self, S2_ret, eq_self, llA, llM, llm, llS, lle_f, lle_t, lle2_f, lle2_t, llt_f, llt_t, llt2_f, llt2_t, leq_f, leq_t, lz_f, lzl_t, nI_add, nI_clamp, nle_f, nle_t, nlt_f, nlt_t, neq_f, neq_t, e2, e3, g1, bN, e8, e21, show bx 3 = 1 from rfl, one_ne, keep_in]
        exact AO.fine (h.w15 ht (by omega) _)
      · simp (disch := omega) only [↓gd_b, gd_t, gd_f, ↓ob1_s, ob1_s, ↓ob2_s, ob2_s, ↓om_n, ↓om_s, om_n, om_s, ↓lt1, ↓reduceIte, or_true, true_or, or_false, false_or, and_true, true_and, and_false, false_and, not_true_eq_false, not_false_eq_true, ite_self, S2_ret, eq_self, llA, llM, llm, llS, lle_f, lle_t, lle2_f, lle2_t, llt_f, llt_t, llt2_f, llt2_t, leq_f, leq_t, lz_f, lzl_t, nI_add, nI_clamp, nle_f, nle_t, nlt_f, nlt_t, neq_f, neq_t, e2, e3, g1, bN, e8, e21, show bx 1 = 1 from rfl, one_ne, bad_eq]
        exact AO.bad h (f := 3) (by decide) (by decide) h2
      · simp (disch := omega) only [↓gd_b, gd_t, gd_f, ↓ob1_s, ob1_s, ↓ob2_s, ob2_s, ↓om_n, ↓om_s, om_n, om_s, ↓lt1, ↓reduceIte, or_true, true_or, or_false, false_or, and_true, true_and, and_false, false_and, not_true_eq_false, not_false_eq_true, ite_self, S2_ret, eq_self, llA, llM, llm, llS, lle_f, lle_t, lle2_f, lle2_t, llt_f, llt_t, llt2_f, llt2_t, leq_f, leq_t, lz_f, lzl_t, nI_add, nI_clamp, nle_f, nle_t, nlt_f, nlt_t, neq_f, neq_t, e2, e3, g1, bN, e8, e21, show bx 0 = 0 from rfl, bad_eq]
        exact AO.bad h (f := 3) (by decide) (by decide) h2
      · have eb : bx kk = 0 := by unfold bx; rw [if_neg (by omega)]
        simp (disch := omega) only [↓gd_b, gd_t, gd_f, ↓ob1_s, ob1_s, ↓ob2_s, ob2_s, ↓om_n, ↓om_s, om_n, om_s, ↓lt1, ↓reduceIte, or_true, true_or, or_false, false_or, and_true, true_and, and_false, false_and, not_true_eq_false, not_false_eq_true, ite_self, S2_ret, eq_self, llA, llM, llm, llS, lle_f, lle_t, lle2_f, lle2_t, llt_f, llt_t, llt2_f, llt2_t, leq_f, leq_t, lz_f, lzl_t, nI_add, nI_clamp, nle_f, nle_t, nlt_f, nlt_t, neq_f, neq_t, e2, e3, g1, bN, e8, e21, eb, bad_eq]
        exact AO.bad h (f := 3) (by decide) (by decide) h2
end THI
