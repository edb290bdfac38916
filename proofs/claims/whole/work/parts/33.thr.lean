section THR
variable {z b t q r : Nat} {w v : Nat → Int32} {M N : Mem}
theorem o_thr (h : RR z b (n0 w v q r) M N) (hb : b + 6 < 2147483647) (ht : t < 6) (h2 : M 6 t 0 = 2) {o : Nat} (ho : 27 ≤ o) (ho2 : o < 31) {x : Nat} (hx : x < 6) :
    Ra t (b + 6) w v q r (f_yX0_useThreads M t (nI o) (nI x)) (f_yX9_stops N (nI t) (nI o) (M 15 t x)) := by
  have h0 : ¬ M 6 t 0 = 0 := by rw [h2]; decide
  have e35 := h.n35 ht
  obtain ⟨a1, a2, a3, a4, a5, a6, a7, a8, a9, a10, a11⟩ := h.ti ht
  have h11 : M 6 t 11 = -4 := a9 (by rw [h2]; decide) (by rw [h2]; decide) (by rw [h2]; decide)
  have h12 : M 6 t 12 = -4 := a10 (by rw [h2]; decide) (by rw [h2]; decide)
  unfold f_yX0_useThreads f_yX9_stops
  rw [kept_in hx, ob1_s]
  by_cases h27 : o = 27
  · subst h27
    unfold f_yX0_sleep f_yX5_takeFlag
    rcases a4 with hf | hf
    · have hs : mp M 6 t 4 0 = M := mp_same hf
      by_cases hV : M 15 t x ≤ 0
      · simp (disch := omega) only [↓gd_b, gd_t, gd_f, ↓ob1_s, ob1_s, ↓ob2_s, ob2_s, ↓om_n, ↓om_s, om_n, om_s, ↓lt1, ↓reduceIte, or_true, true_or, or_false, false_or, and_true, true_and, and_false, false_and, not_true_eq_false, not_false_eq_true, ite_self, S2_ret, eq_self, llA, llM, llm, llS, lle_f, lle_t, lle2_f, lle2_t, llt_f, llt_t, llt2_f, llt2_t, leq_f, leq_t, lz_f, lzl_t, nI_add, nI_clamp, nle_f, nle_t, nlt_f, nlt_t, neq_f, neq_t, e35, hf, hs, hV]
        exact (AO.fine h).up (by omega)
      · obtain ⟨u, u1, u2⟩ := later2 (M := M) (M 15 t x)
        have r5 : mp N 31 0 t 5 20 0 2 = M 2 0 0 := by rw [mp_ne _ _ (by omega), h.ntime]
        simp (disch := omega) only [↓gd_b, gd_t, gd_f, ↓ob1_s, ob1_s, ↓ob2_s, ob2_s, ↓om_n, ↓om_s, om_n, om_s, ↓lt1, ↓reduceIte, or_true, true_or, or_false, false_or, and_true, true_and, and_false, false_and, not_true_eq_false, not_false_eq_true, ite_self, S2_ret, eq_self, llA, llM, llm, llS, lle_f, lle_t, lle2_f, lle2_t, llt_f, llt_t, llt2_f, llt2_t, leq_f, leq_t, lz_f, lzl_t, nI_add, nI_clamp, nle_f, nle_t, nlt_f, nlt_t, neq_f, neq_t, e35, hf, hs, hV, u1, r5, u2, become_eq]
        refine (AO.fine (h.bec (s := 5) (x := -4) (u := u) ht h0 (Or.inr (Or.inr (Or.inl ⟨rfl, rfl⟩))) ?_ ?_ ?_ ?_)).up (by omega)
        · simp [mp]
        · rw [mp_ne _ _ (by omega), mp_ne _ _ (by omega), h.n39 ht h0, h11]
        · simp [mp]
        · intro p y hp
          rw [mp_ne _ _ (by omega), mp_ne _ _ (by omega)]
    · simp (disch := omega) only [↓gd_b, gd_t, gd_f, ↓ob1_s, ob1_s, ↓ob2_s, ob2_s, ↓om_n, ↓om_s, om_n, om_s, ↓lt1, ↓reduceIte, or_true, true_or, or_false, false_or, and_true, true_and, and_false, false_and, not_true_eq_false, not_false_eq_true, ite_self, S2_ret, eq_self, llA, llM, llm, llS, lle_f, lle_t, lle2_f, lle2_t, llt_f, llt_t, llt2_f, llt2_t, leq_f, leq_t, lz_f, lzl_t, nI_add, nI_clamp, nle_f, nle_t, nlt_f, nlt_t, neq_f, neq_t, e35, hf, one_ne, bad_eq]
      exact (AO.bad (h.wt4 ht (v := 0) (Or.inl rfl)) (f := 9) (by decide) (by decide) (by rw [mp_ne _ _ (by omega)]; exact h2)).up (by omega)
  · rcases ix6 (M 15 t x) 6 (by decide) with h1 | ⟨j, hj, e⟩
    · have hi : f_yX9_in (M 15 t x) 0 5 = some 0 := in_out (n := 6) (by decide) (by decide) h1
      simp (disch := omega) only [↓gd_b, gd_t, gd_f, ↓ob1_s, ob1_s, ↓ob2_s, ob2_s, ↓om_n, ↓om_s, om_n, om_s, ↓lt1, ↓reduceIte, or_true, true_or, or_false, false_or, and_true, true_and, and_false, false_and, not_true_eq_false, not_false_eq_true, ite_self, S2_ret, eq_self, llA, llM, llm, llS, lle_f, lle_t, lle2_f, lle2_t, llt_f, llt_t, llt2_f, llt2_t, leq_f, leq_t, lz_f, lzl_t, nI_add, nI_clamp, nle_f, nle_t, nlt_f, nlt_t, neq_f, neq_t, at_out h1, hi, bad_eq]
      exact (AO.bad h (f := 2) (by decide) (by decide) h2).up (by omega)
    · have hi : f_yX9_in (nI j) 0 5 = some 1 := in_in (n := 6) (by decide) hj (by decide)
      obtain ⟨⟨st, s1, s2⟩, c2, c3, c4, c5, c6, c7, c8, c9, c10, c11⟩ := h.ti hj
      have e31 := h.n31 hj
      rcases (by omega : o = 28 ∨ o = 29 ∨ o = 30) with rfl | rfl | rfl
      · unfold f_yX0_join f_yX5_takeFlag
        have hM := uwM s1 s2
        have hN := uwN h hj s1 s2
        rcases uw_cases st with ⟨eu, _⟩ | ⟨eu, _⟩
        · rcases a4 with hf | hf
          · have hs : mp M 6 t 4 0 = M := mp_same hf
            simp (disch := omega) only [↓gd_b, gd_t, gd_f, ↓ob1_s, ob1_s, ↓ob2_s, ob2_s, ↓om_n, ↓om_s, om_n, om_s, ↓lt1, ↓reduceIte, or_true, true_or, or_false, false_or, and_true, true_and, and_false, false_and, not_true_eq_false, not_false_eq_true, ite_self, S2_ret, eq_self, llA, llM, llm, llS, lle_f, lle_t, lle2_f, lle2_t, llt_f, llt_t, llt2_f, llt2_t, leq_f, leq_t, lz_f, lzl_t, nI_add, nI_clamp, nle_f, nle_t, nlt_f, nlt_t, neq_f, neq_t, e, at_in hj, hi, one_ne, hM, hN, eu, e35, hf, hs, become_eq]
            refine (AO.fine (h.bec (s := 6) (x := nI j) (u := -4) ht h0 (Or.inr (Or.inr (Or.inr ⟨rfl, rfl, j, hj, rfl⟩))) ?_ ?_ ?_ ?_)).up (by omega)
            · simp [mp]
            · simp [mp]
            · rw [mp_ne _ _ (by omega), mp_ne _ _ (by omega), h.n40 ht h0, h12]
            · intro p y hp
              rw [mp_ne _ _ (by omega), mp_ne _ _ (by omega)]
          · simp (disch := omega) only [↓gd_b, gd_t, gd_f, ↓ob1_s, ob1_s, ↓ob2_s, ob2_s, ↓om_n, ↓om_s, om_n, om_s, ↓lt1, ↓reduceIte, or_true, true_or, or_false, false_or, and_true, true_and, and_false, false_and, not_true_eq_false, not_false_eq_true, ite_self, S2_ret, eq_self, llA, llM, llm, llS, lle_f, lle_t, lle2_f, lle2_t, llt_f, llt_t, llt2_f, llt2_t, leq_f, leq_t, lz_f, lzl_t, nI_add, nI_clamp, nle_f, nle_t, nlt_f, nlt_t, neq_f, neq_t, e, at_in hj, hi, one_ne, hM, hN, eu, e35, hf, bad_eq]
            exact (AO.bad (h.wt4 ht (v := 0) (Or.inl rfl)) (f := 9) (by decide) (by decide) (by rw [mp_ne _ _ (by omega)]; exact h2)).up (by omega)
        · simp (disch := omega) only [↓gd_b, gd_t, gd_f, ↓ob1_s, ob1_s, ↓ob2_s, ob2_s, ↓om_n, ↓om_s, om_n, om_s, ↓lt1, ↓reduceIte, or_true, true_or, or_false, false_or, and_true, true_and, and_false, false_and, not_true_eq_false, not_false_eq_true, ite_self, S2_ret, eq_self, llA, llM, llm, llS, lle_f, lle_t, lle2_f, lle2_t, llt_f, llt_t, llt2_f, llt2_t, leq_f, leq_t, lz_f, lzl_t, nI_add, nI_clamp, nle_f, nle_t, nlt_f, nlt_t, neq_f, neq_t, e, at_in hj, hi, one_ne, hM, hN, eu]
          exact (AO.fine h).up (by omega)
      · unfold f_yX0_startNew
        by_cases h1 : M 6 j 0 = 1
        · have hj0 : ¬ M 6 j 0 = 0 := by rw [h1]; decide
          simp (disch := omega) only [↓gd_b, gd_t, gd_f, ↓ob1_s, ob1_s, ↓ob2_s, ob2_s, ↓om_n, ↓om_s, om_n, om_s, ↓lt1, ↓reduceIte, or_true, true_or, or_false, false_or, and_true, true_and, and_false, false_and, not_true_eq_false, not_false_eq_true, ite_self, S2_ret, eq_self, llA, llM, llm, llS, lle_f, lle_t, lle2_f, lle2_t, llt_f, llt_t, llt2_f, llt2_t, leq_f, leq_t, lz_f, lzl_t, nI_add, nI_clamp, nle_f, nle_t, nlt_f, nlt_t, neq_f, neq_t, e, at_in hj, hi, one_ne, e31, h1, become_eq]
          refine (AO.fine (h.bec (s := 2) (x := -4) (u := -4) hj hj0 (Or.inl ⟨rfl, rfl, rfl⟩) ?_ ?_ ?_ ?_)).up (by omega)
          · simp [mp]
          · rw [mp_ne _ _ (by omega), h.n39 hj hj0]
            exact c9 (by rw [h1]; decide) (by rw [h1]; decide) (by rw [h1]; decide)
          · rw [mp_ne _ _ (by omega), h.n40 hj hj0]
            exact c10 (by rw [h1]; decide) (by rw [h1]; decide)
          · intro p y hp
            rw [mp_ne _ _ (by omega)]
        · simp (disch := omega) only [↓gd_b, gd_t, gd_f, ↓ob1_s, ob1_s, ↓ob2_s, ob2_s, ↓om_n, ↓om_s, om_n, om_s, ↓lt1, ↓reduceIte, or_true, true_or, or_false, false_or, and_true, true_and, and_false, false_and, not_true_eq_false, not_false_eq_true, ite_self, S2_ret, eq_self, llA, llM, llm, llS, lle_f, lle_t, lle2_f, lle2_t, llt_f, llt_t, llt2_f, llt2_t, leq_f, leq_t, lz_f, lzl_t, nI_add, nI_clamp, nle_f, nle_t, nlt_f, nlt_t, neq_f, neq_t, e, at_in hj, hi, one_ne, e31, h1, bad_eq]
          exact (AO.bad h (f := 10) (by decide) (by decide) h2).up (by omega)
      · obtain ⟨k, M', N', q1, q2, q3, _⟩ := lk_break h (by omega) hj
        simp (disch := omega) only [↓gd_b, gd_t, gd_f, ↓ob1_s, ob1_s, ↓ob2_s, ob2_s, ↓om_n, ↓om_s, om_n, om_s, ↓lt1, ↓reduceIte, or_true, true_or, or_false, false_or, and_true, true_and, and_false, false_and, not_true_eq_false, not_false_eq_true, ite_self, S2_ret, eq_self, llA, llM, llm, llS, lle_f, lle_t, lle2_f, lle2_t, llt_f, llt_t, llt2_f, llt2_t, leq_f, leq_t, lz_f, lzl_t, nI_add, nI_clamp, nle_f, nle_t, nlt_f, nlt_t, neq_f, neq_t, e, at_in hj, hi, one_ne, q1, q2]
        exact (AO.fine q3).up (by omega)
theorem o_han (h : RR z b (n0 w v q r) M N) (ht : t < 6) (h2 : M 6 t 0 = 2) {o : Nat} (ho : 31 ≤ o) (ho2 : o < 37) {a c : Int32} (ka : okn (sc 5 (3 * o)) a = 1) (kc : okn (sc 5 (3 * o + 1)) c = 1) :
    Ra t b w v q r (f_yX0_useHandlers M t (nI o) a c) (f_yX9_rests N (nI t) (nI o) a c) := by
  have h0 : ¬ M 6 t 0 = 0 := by rw [h2]; decide
  unfold f_yX0_useHandlers f_yX9_rests
  rcases (by omega : o = 31 ∨ o = 32 ∨ o = 33 ∨ o = 34 ∨ o = 35 ∨ o = 36) with rfl | rfl | rfl | rfl | rfl | rfl
  · obtain ⟨x, hx, rfl⟩ := okn_in (L := 5) (by decide) ka
    have e35 := h.n35 ht
    unfold f_yX5_takeFlag
    rcases (h.ti ht).2.2.2.1 with hf | hf
    · simp (disch := omega) only [↓gd_b, gd_t, gd_f, ↓ob1_s, ob1_s, ↓ob2_s, ob2_s, ↓om_n, ↓om_s, om_n, om_s, ↓lt1, ↓reduceIte, or_true, true_or, or_false, false_or, and_true, true_and, and_false, false_and, not_true_eq_false, not_false_eq_true, ite_self, S2_ret, eq_self, llA, llM, llm, llS, lle_f, lle_t, lle2_f, lle2_t, llt_f, llt_t, llt2_f, llt2_t, leq_f, leq_t, lz_f, lzl_t, nI_add, nI_clamp, nle_f, nle_t, nlt_f, nlt_t, neq_f, neq_t, e35, hf, keep_in]
      rw [mp_swap M 6 t 4 _ 15 t x _ (by omega)]
      exact AO.fine ((h.w15 ht (by omega) _).wt4 ht (Or.inl rfl))
    · simp (disch := omega) only [↓gd_b, gd_t, gd_f, ↓ob1_s, ob1_s, ↓ob2_s, ob2_s, ↓om_n, ↓om_s, om_n, om_s, ↓lt1, ↓reduceIte, or_true, true_or, or_false, false_or, and_true, true_and, and_false, false_and, not_true_eq_false, not_false_eq_true, ite_self, S2_ret, eq_self, llA, llM, llm, llS, lle_f, lle_t, lle2_f, lle2_t, llt_f, llt_t, llt2_f, llt2_t, leq_f, leq_t, lz_f, lzl_t, nI_add, nI_clamp, nle_f, nle_t, nlt_f, nlt_t, neq_f, neq_t, e35, hf, one_ne, keep_in]
      rw [mp_swap M 6 t 4 _ 15 t x _ (by omega)]
      exact AO.fine ((h.w15 ht (by omega) _).wt4 ht (Or.inl rfl))
  · obtain ⟨x, hx, rfl⟩ := okn_in (L := 5) (by decide) ka
    have e49 : mp N 20 0 7 7 49 0 (6 * t + x) = M 15 t x := by rw [mp_ne _ _ (by omega), h.n49 ht (by omega)]
    simp (disch := omega) only [↓gd_b, gd_t, gd_f, ↓ob1_s, ob1_s, ↓ob2_s, ob2_s, ↓om_n, ↓om_s, om_n, om_s, ↓lt1, ↓reduceIte, or_true, true_or, or_false, false_or, and_true, true_and, and_false, false_and, not_true_eq_false, not_false_eq_true, ite_self, S2_ret, eq_self, llA, llM, llm, llS, lle_f, lle_t, lle2_f, lle2_t, llt_f, llt_t, llt2_f, llt2_t, leq_f, leq_t, lz_f, lzl_t, nI_add, nI_clamp, nle_f, nle_t, nlt_f, nlt_t, neq_f, neq_t, kept_in, e49]
    refine ⟨z, 7, by decide, rfl, ?_, fun _ => ?_⟩
    · rw [if_pos (show nI 7 = 7 from rfl)]
      show RR z b (w, v, q, r, nI 7, mp M 6 t 6 (M 15 t x) 6 t 6) (mp M 6 t 6 (M 15 t x)) _
      rw [mp_eq]
      exact ((h.wt6 (M 15 t x) ht).wf7 7).wf8 (M 15 t x)
    · show mp M 6 t 6 (M 15 t x) 6 t 0 = 2
      rw [mp_ne _ _ (by omega)]
      exact h2
  · obtain ⟨x, hx, rfl⟩ := okn_in (L := 40) (by decide) ka
    obtain ⟨⟨s, s1, s2⟩, s3⟩ := h.hi ht
    have e46 : N 46 0 t = nI s := by rw [h.n46 ht, s2]
    unfold f_yX2_push
    by_cases hs : s = 8
    · subst hs
      simp (disch := omega) only [↓gd_b, gd_t, gd_f, ↓ob1_s, ob1_s, ↓ob2_s, ob2_s, ↓om_n, ↓om_s, om_n, om_s, ↓lt1, ↓reduceIte, or_true, true_or, or_false, false_or, and_true, true_and, and_false, false_and, not_true_eq_false, not_false_eq_true, ite_self, S2_ret, eq_self, llA, llM, llm, llS, lle_f, lle_t, lle2_f, lle2_t, llt_f, llt_t, llt2_f, llt2_t, leq_f, leq_t, lz_f, lzl_t, nI_add, nI_clamp, nle_f, nle_t, nlt_f, nlt_t, neq_f, neq_t, s2, e46, bad_eq]
      exact AO.bad h (f := 11) (by decide) (by decide) h2
    · have r1 : mp M 17 t s (nI x) 7 t 0 = nI s := by rw [mp_ne _ _ (by omega), s2]
      have r2 : mp (mp M 17 t s (nI x)) 18 t s c 7 t 0 = nI s := by rw [mp_ne _ _ (by omega), r1]
      have r3 : mp N 47 0 (8 * t + s) (nI x) 46 0 t = nI s := by rw [mp_ne _ _ (by omega), e46]
      have r4 : mp (mp N 47 0 (8 * t + s) (nI x)) 48 0 (8 * t + s) c 46 0 t = nI s := by rw [mp_ne _ _ (by omega), r3]
      simp (disch := omega) only [↓gd_b, gd_t, gd_f, ↓ob1_s, ob1_s, ↓ob2_s, ob2_s, ↓om_n, ↓om_s, om_n, om_s, ↓lt1, ↓reduceIte, or_true, true_or, or_false, false_or, and_true, true_and, and_false, false_and, not_true_eq_false, not_false_eq_true, ite_self, S2_ret, eq_self, llA, llM, llm, llS, lle_f, lle_t, lle2_f, lle2_t, llt_f, llt_t, llt2_f, llt2_t, leq_f, leq_t, lz_f, lzl_t, nI_add, nI_clamp, nle_f, nle_t, nlt_f, nlt_t, neq_f, neq_t, s2, e46, r1, r2, r3, r4, one_ne]
      exact AO.fine (((h.w17 ht (by omega) hx).w18 ht (by omega) c).w7 ht (by omega))
  · obtain ⟨⟨s, s1, s2⟩, s3⟩ := h.hi ht
    have e46 : N 46 0 t = nI s := by rw [h.n46 ht, s2]
    unfold f_yJ9_max_7cf53
    by_cases hs : s = 0
    · subst hs
      have r1 : (nI 0 - 1 : Int32) < 0 := by decide
      have r2 : (nI 0 - 0 : Int32) = 0 := by decide
      simp (disch := omega) only [↓gd_b, gd_t, gd_f, ↓ob1_s, ob1_s, ↓ob2_s, ob2_s, ↓om_n, ↓om_s, om_n, om_s, ↓lt1, ↓reduceIte, or_true, true_or, or_false, false_or, and_true, true_and, and_false, false_and, not_true_eq_false, not_false_eq_true, ite_self, S2_ret, eq_self, llA, llM, llm, llS, lle_f, lle_t, lle2_f, lle2_t, llt_f, llt_t, llt2_f, llt2_t, leq_f, leq_t, lz_f, lzl_t, nI_add, nI_clamp, nle_f, nle_t, nlt_f, nlt_t, neq_f, neq_t, s2, e46, r1, r2]
      exact AO.fine (h.w7 (q := 0) ht (by decide))
    · simp (disch := omega) only [↓gd_b, gd_t, gd_f, ↓ob1_s, ob1_s, ↓ob2_s, ob2_s, ↓om_n, ↓om_s, om_n, om_s, ↓lt1, ↓reduceIte, or_true, true_or, or_false, false_or, and_true, true_and, and_false, false_and, not_true_eq_false, not_false_eq_true, ite_self, S2_ret, eq_self, llA, llM, llm, llS, lle_f, lle_t, lle2_f, lle2_t, llt_f, llt_t, llt2_f, llt2_t, leq_f, leq_t, lz_f, lzl_t, nI_add, nI_clamp, nle_f, nle_t, nlt_f, nlt_t, neq_f, neq_t, s2, e46]
      exact AO.fine (h.w7 (q := s - 1) ht (by omega))
  · obtain ⟨x, hx, rfl⟩ := okn_in (L := 5) (by decide) ka
    obtain ⟨y, hy, rfl⟩ := okn_in (L := 5) (by decide) kc
    have e44 := h.n44 ht
    have r1 : mp M 15 t x (M 6 t 7) 6 t 8 = M 6 t 8 := mp_ne _ _ (by omega)
    have r2 : mp N 49 0 (6 * t + x) (M 6 t 7) 45 0 t = M 6 t 8 := by rw [mp_ne _ _ (by omega), h.n45 ht]
    simp (disch := omega) only [↓gd_b, gd_t, gd_f, ↓ob1_s, ob1_s, ↓ob2_s, ob2_s, ↓om_n, ↓om_s, om_n, om_s, ↓lt1, ↓reduceIte, or_true, true_or, or_false, false_or, and_true, true_and, and_false, false_and, not_true_eq_false, not_false_eq_true, ite_self, S2_ret, eq_self, llA, llM, llm, llS, lle_f, lle_t, lle2_f, lle2_t, llt_f, llt_t, llt2_f, llt2_t, leq_f, leq_t, lz_f, lzl_t, nI_add, nI_clamp, nle_f, nle_t, nlt_f, nlt_t, neq_f, neq_t, keep_in, e44, r1, r2]
    exact AO.fine ((h.w15 ht (by omega) _).w15 ht (by omega) _)
  · simp (disch := omega) only [↓gd_b, gd_t, gd_f, ↓ob1_s, ob1_s, ↓ob2_s, ob2_s, ↓om_n, ↓om_s, om_n, om_s, ↓lt1, ↓reduceIte, or_true, true_or, or_false, false_or, and_true, true_and, and_false, false_and, not_true_eq_false, not_false_eq_true, ite_self, S2_ret, eq_self, llA, llM, llm, llS, lle_f, lle_t, lle2_f, lle2_t, llt_f, llt_t, llt2_f, llt2_t, leq_f, leq_t, lz_f, lzl_t, nI_add, nI_clamp, nle_f, nle_t, nlt_f, nlt_t, neq_f, neq_t]
    exact AO.fine h
end THR
