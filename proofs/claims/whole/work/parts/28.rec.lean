/-! the acts -/
theorem okn_in {L : Nat} {v : Int32} (hL : L < 2147483648) (h : okn (nI L) v = 1) : ∃ r, r ≤ L ∧ v = nI r := by
  unfold okn at h
  have h1 : ¬ nI L = -1 := of_eq_false (lz_f (t := L) hL 1 (by decide) (by decide))
  rw [if_neg h1] at h
  by_cases h2 : v < 0
  · rw [if_pos h2] at h
    exact absurd h (by decide)
  · rw [if_neg h2] at h
    obtain ⟨j, j1, rfl⟩ := nI_of h2
    by_cases h3 : nI L < nI j
    · rw [if_pos h3] at h
      exact absurd h (by decide)
    · rw [nI_ltI hL j1] at h3
      exact ⟨j, by omega, rfl⟩
theorem wn_inv {x a c d : Int32} (h : f_yX3_isWellNamed x a c d = some 1) : ∃ o, o < 37 ∧ x = nI o ∧ okn (sc 5 (3 * o)) a = 1 ∧ okn (sc 5 (3 * o + 1)) c = 1 ∧ okn (sc 5 (3 * o + 2)) d = 1 := by
  rcases ix6 x 37 (by decide) with h1 | ⟨o, ho, rfl⟩
  · unfold f_yX3_isWellNamed at h
    by_cases h0 : x < 0
    · rw [if_pos h0] at h
      exact absurd h (by decide)
    · rw [if_neg h0, if_pos (show (37 : Int32) ≤ x from h1.resolve_left h0)] at h
      exact absurd h (by decide)
  · refine ⟨o, ho, rfl, ?_⟩
    rw [wn_eq ho] at h
    rcases okn_cases (sc 5 (3 * o)) a with e1 | e1
    · rw [if_pos e1] at h
      exact absurd h (by decide)
    · rcases okn_cases (sc 5 (3 * o + 1)) c with e2 | e2
      · rw [if_neg (by rw [e1]; decide), if_pos e2] at h
        exact absurd h (by decide)
      · rcases okn_cases (sc 5 (3 * o + 2)) d with e3 | e3
        · rw [if_neg (by rw [e1]; decide), if_neg (by rw [e2]; decide), if_pos e3] at h
          exact absurd h (by decide)
        · exact ⟨e1, e2, e3⟩
abbrev n0 (w v : Nat → Int32) (q r : Nat) : Lg := (w, v, q, r, 0, 0)
/-- what an act leaves: x of the class, y of the other -/
def AO (t b : Nat) (w v : Nat → Int32) (q r : Nat) (x : Int32 × Mem) (y : Mem) : Prop := ∃ z f, f < 12 ∧ x.1 = nI f ∧ RR z b (w, v, q, r, nI f, if nI f = 7 then x.2 6 t 6 else 0) x.2 y ∧ (f ≠ 0 → x.2 6 t 0 = 2)
abbrev Ra (t b : Nat) (w v : Nat → Int32) (q r : Nat) (a : Option (Int32 × Mem)) (c : Option Mem) : Prop := S2 a c (AO t b w v q r)
section REC
variable {z b t q r : Nat} {w v : Nat → Int32} {M N : Mem}
theorem AO.fine (h : RR z b (n0 w v q r) M N) : AO t b w v q r (0, M) N :=
  ⟨z, 0, by decide, rfl, by rw [if_neg (by decide)]; exact h, fun hh => absurd rfl hh⟩
theorem AO.bad (h : RR z b (n0 w v q r) M N) {f : Nat} (hf : f < 12) (h7 : f ≠ 7) (h2 : M 6 t 0 = 2) : AO t b w v q r (nI f, M) (mp N 20 0 7 (nI f)) :=
  ⟨z, f, hf, rfl, by
    rw [if_neg (show ¬ nI f = 7 from fun e => h7 ((nI_eq (by omega) (by decide)).mp (show nI f = nI 7 from e)))]
    exact h.wf7 (nI f), fun _ => h2⟩
theorem bad_eq (x : Int32) : f_yX9_bad N x = some (mp N 20 0 7 x) := rfl
theorem div_n1 (x : Int32) : x / (-1) = -x := Int32.toInt_inj.mp (by
  rw [Int32.toInt_div, Int32.toInt_neg x, show (-1 : Int32).toInt = -1 from rfl, Int.tdiv_neg, Int.tdiv_one])
theorem o_reckon (h : RR z b (n0 w v q r) M N) (ht : t < 6) (h2 : M 6 t 0 = 2) {o : Nat} (ho : o < 8) {a c d : Int32} (ka : okn (sc 5 (3 * o)) a = 1) (kc : okn (sc 5 (3 * o + 1)) c = 1) (kd : okn (sc 5 (3 * o + 2)) d = 1) :
    Ra t b w v q r (f_yX0_reckon M t (nI o) a c d) (f_yX9_numbers N (nI t) (nI o) a c d) := by
  have h0 : ¬ M 6 t 0 = 0 := by rw [h2]; decide
  unfold f_yX0_reckon f_yX9_numbers
  rcases (by omega : o = 0 ∨ o = 1 ∨ o = 2 ∨ o = 3 ∨ o = 4 ∨ o = 5 ∨ o = 6 ∨ o = 7) with rfl | rfl | rfl | rfl | rfl | rfl | rfl | rfl
  · obtain ⟨x, hx, rfl⟩ := okn_in (L := 5) (by decide) ka
    simp (disch := omega) only [↓gd_b, gd_t, gd_f, ↓ob1_s, ob1_s, ↓ob2_s, ob2_s, ↓om_n, ↓om_s, om_n, om_s, ↓lt1, ↓reduceIte, or_true, true_or, or_false, false_or, and_true, true_and, and_false, false_and, not_true_eq_false, not_false_eq_true, ite_self, S2_ret, eq_self, llA, llM, llm, llS, lle_f, lle_t, lle2_f, lle2_t, llt_f, llt_t, llt2_f, llt2_t, leq_f, leq_t, lz_f, lzl_t, nI_add, nI_clamp, nle_f, nle_t, nlt_f, nlt_t, neq_f, neq_t, keep_in]
    exact AO.fine (h.w15 ht (by omega) _)
  · obtain ⟨x, hx, rfl⟩ := okn_in (L := 5) (by decide) ka
    obtain ⟨y, hy, rfl⟩ := okn_in (L := 5) (by decide) kc
    have e1 := h.n49 ht (r := x) (by omega)
    have e2 := h.n49 ht (r := y) (by omega)
    simp (disch := omega) only [↓gd_b, gd_t, gd_f, ↓ob1_s, ob1_s, ↓ob2_s, ob2_s, ↓om_n, ↓om_s, om_n, om_s, ↓lt1, ↓reduceIte, or_true, true_or, or_false, false_or, and_true, true_and, and_false, false_and, not_true_eq_false, not_false_eq_true, ite_self, S2_ret, eq_self, llA, llM, llm, llS, lle_f, lle_t, lle2_f, lle2_t, llt_f, llt_t, llt2_f, llt2_t, leq_f, leq_t, lz_f, lzl_t, nI_add, nI_clamp, nle_f, nle_t, nlt_f, nlt_t, neq_f, neq_t, keep_in, kept_in, e1, e2]
    exact AO.fine (h.w15 ht (by omega) _)
  · obtain ⟨x, hx, rfl⟩ := okn_in (L := 5) (by decide) ka
    obtain ⟨y, hy, rfl⟩ := okn_in (L := 5) (by decide) kc
    have e1 := h.n49 ht (r := x) (by omega)
    have e2 := h.n49 ht (r := y) (by omega)
    simp (disch := omega) only [↓gd_b, gd_t, gd_f, ↓ob1_s, ob1_s, ↓ob2_s, ob2_s, ↓om_n, ↓om_s, om_n, om_s, ↓lt1, ↓reduceIte, or_true, true_or, or_false, false_or, and_true, true_and, and_false, false_and, not_true_eq_false, not_false_eq_true, ite_self, S2_ret, eq_self, llA, llM, llm, llS, lle_f, lle_t, lle2_f, lle2_t, llt_f, llt_t, llt2_f, llt2_t, leq_f, leq_t, lz_f, lzl_t, nI_add, nI_clamp, nle_f, nle_t, nlt_f, nlt_t, neq_f, neq_t, keep_in, kept_in, e1, e2]
    exact AO.fine (h.w15 ht (by omega) _)
  · obtain ⟨x, hx, rfl⟩ := okn_in (L := 5) (by decide) ka
    obtain ⟨y, hy, rfl⟩ := okn_in (L := 5) (by decide) kc
    have e1 := h.n49 ht (r := x) (by omega)
    have e2 := h.n49 ht (r := y) (by omega)
    simp (disch := omega) only [↓gd_b, gd_t, gd_f, ↓ob1_s, ob1_s, ↓ob2_s, ob2_s, ↓om_n, ↓om_s, om_n, om_s, ↓lt1, ↓reduceIte, or_true, true_or, or_false, false_or, and_true, true_and, and_false, false_and, not_true_eq_false, not_false_eq_true, ite_self, S2_ret, eq_self, llA, llM, llm, llS, lle_f, lle_t, lle2_f, lle2_t, llt_f, llt_t, llt2_f, llt2_t, leq_f, leq_t, lz_f, lzl_t, nI_add, nI_clamp, nle_f, nle_t, nlt_f, nlt_t, neq_f, neq_t, keep_in, kept_in, e1, e2]
    exact AO.fine (h.w15 ht (by omega) _)
  · obtain ⟨x, hx, rfl⟩ := okn_in (L := 5) (by decide) ka
    obtain ⟨y, hy, rfl⟩ := okn_in (L := 5) (by decide) kc
    have e1 := h.n49 ht (r := x) (by omega)
    have e2 := h.n49 ht (r := y) (by omega)
    unfold f_yX0_divide
    by_cases hz : M 15 t y = 0
    · simp (disch := omega) only [↓gd_b, gd_t, gd_f, ↓ob1_s, ob1_s, ↓ob2_s, ob2_s, ↓om_n, ↓om_s, om_n, om_s, ↓lt1, ↓reduceIte, or_true, true_or, or_false, false_or, and_true, true_and, and_false, false_and, not_true_eq_false, not_false_eq_true, ite_self, S2_ret, eq_self, llA, llM, llm, llS, lle_f, lle_t, lle2_f, lle2_t, llt_f, llt_t, llt2_f, llt2_t, leq_f, leq_t, lz_f, lzl_t, nI_add, nI_clamp, nle_f, nle_t, nlt_f, nlt_t, neq_f, neq_t, kept_in, e1, e2, hz, bad_eq]
      exact AO.bad h (f := 6) (by decide) (by decide) h2
    · by_cases hm : M 15 t y = -1
      · have hm0 : ¬ (-1 : Int32) = 0 := by decide
        simp (disch := omega) only [↓gd_b, gd_t, gd_f, ↓ob1_s, ob1_s, ↓ob2_s, ob2_s, ↓om_n, ↓om_s, om_n, om_s, ↓lt1, ↓reduceIte, or_true, true_or, or_false, false_or, and_true, true_and, and_false, false_and, not_true_eq_false, not_false_eq_true, ite_self, S2_ret, eq_self, llA, llM, llm, llS, lle_f, lle_t, lle2_f, lle2_t, llt_f, llt_t, llt2_f, llt2_t, leq_f, leq_t, lz_f, lzl_t, nI_add, nI_clamp, nle_f, nle_t, nlt_f, nlt_t, neq_f, neq_t, keep_in, kept_in, e1, e2, hm, hm0, div_n1]
        exact AO.fine (h.w15 ht (by omega) _)
      · simp (disch := omega) only [↓gd_b, gd_t, gd_f, ↓ob1_s, ob1_s, ↓ob2_s, ob2_s, ↓om_n, ↓om_s, om_n, om_s, ↓lt1, ↓reduceIte, or_true, true_or, or_false, false_or, and_true, true_and, and_false, false_and, not_true_eq_false, not_false_eq_true, ite_self, S2_ret, eq_self, llA, llM, llm, llS, lle_f, lle_t, lle2_f, lle2_t, llt_f, llt_t, llt2_f, llt2_t, leq_f, leq_t, lz_f, lzl_t, nI_add, nI_clamp, nle_f, nle_t, nlt_f, nlt_t, neq_f, neq_t, keep_in, kept_in, e1, e2, hm, hz]
        exact AO.fine (h.w15 ht (by omega) _)
  · obtain ⟨x, hx, rfl⟩ := okn_in (L := 5) (by decide) ka
    obtain ⟨y, hy, rfl⟩ := okn_in (L := 5) (by decide) kc
    obtain ⟨u, hu, rfl⟩ := okn_in (L := 5) (by decide) kd
    have e1 := h.n49 ht (r := u) (by omega)
    have e2 := h.n49 ht (r := y) (by omega)
    by_cases hm : M 15 t u ≤ M 15 t y
    · simp (disch := omega) only [↓gd_b, gd_t, gd_f, ↓ob1_s, ob1_s, ↓ob2_s, ob2_s, ↓om_n, ↓om_s, om_n, om_s, ↓lt1, ↓reduceIte, or_true, true_or, or_false, false_or, and_true, true_and, and_false, false_and, not_true_eq_false, not_false_eq_true, ite_self, S2_ret, eq_self, llA, llM, llm, llS, lle_f, lle_t, lle2_f, lle2_t, llt_f, llt_t, llt2_f, llt2_t, leq_f, leq_t, lz_f, lzl_t, nI_add, nI_clamp, nle_f, nle_t, nlt_f, nlt_t, neq_f, neq_t, keep_in, kept_in, e1, e2, hm]
      exact AO.fine (h.w15 ht (by omega) _)
    · simp (disch := omega) only [↓gd_b, gd_t, gd_f, ↓ob1_s, ob1_s, ↓ob2_s, ob2_s, ↓om_n, ↓om_s, om_n, om_s, ↓lt1, ↓reduceIte, or_true, true_or, or_false, false_or, and_true, true_and, and_false, false_and, not_true_eq_false, not_false_eq_true, ite_self, S2_ret, eq_self, llA, llM, llm, llS, lle_f, lle_t, lle2_f, lle2_t, llt_f, llt_t, llt2_f, llt2_t, leq_f, leq_t, lz_f, lzl_t, nI_add, nI_clamp, nle_f, nle_t, nlt_f, nlt_t, neq_f, neq_t, keep_in, kept_in, e1, e2, hm]
      exact AO.fine (h.w15 ht (by omega) _)
  · obtain ⟨x, hx, rfl⟩ := okn_in (L := 40) (by decide) ka
    obtain ⟨l, l1, l2, l3⟩ := lk_jump h ht h0 hx
    simp (disch := omega) only [↓gd_b, gd_t, gd_f, ↓ob1_s, ob1_s, ↓ob2_s, ob2_s, ↓om_n, ↓om_s, om_n, om_s, ↓lt1, ↓reduceIte, or_true, true_or, or_false, false_or, and_true, true_and, and_false, false_and, not_true_eq_false, not_false_eq_true, ite_self, S2_ret, eq_self, llA, llM, llm, llS, lle_f, lle_t, lle2_f, lle2_t, llt_f, llt_t, llt2_f, llt2_t, leq_f, leq_t, lz_f, lzl_t, nI_add, nI_clamp, nle_f, nle_t, nlt_f, nlt_t, neq_f, neq_t, l2, l3]
    exact AO.fine (h.wt3 ht l1)
  · obtain ⟨x, hx, rfl⟩ := okn_in (L := 40) (by decide) ka
    obtain ⟨y, hy, rfl⟩ := okn_in (L := 5) (by decide) kc
    obtain ⟨l, l1, l2, l3⟩ := lk_jump h ht h0 hx
    have e2 := h.n49 ht (r := y) (by omega)
    by_cases hz : M 15 t y = 0
    · simp (disch := omega) only [↓gd_b, gd_t, gd_f, ↓ob1_s, ob1_s, ↓ob2_s, ob2_s, ↓om_n, ↓om_s, om_n, om_s, ↓lt1, ↓reduceIte, or_true, true_or, or_false, false_or, and_true, true_and, and_false, false_and, not_true_eq_false, not_false_eq_true, ite_self, S2_ret, eq_self, llA, llM, llm, llS, lle_f, lle_t, lle2_f, lle2_t, llt_f, llt_t, llt2_f, llt2_t, leq_f, leq_t, lz_f, lzl_t, nI_add, nI_clamp, nle_f, nle_t, nlt_f, nlt_t, neq_f, neq_t, kept_in, e2, hz, l2, l3]
      exact AO.fine (h.wt3 ht l1)
    · simp (disch := omega) only [↓gd_b, gd_t, gd_f, ↓ob1_s, ob1_s, ↓ob2_s, ob2_s, ↓om_n, ↓om_s, om_n, om_s, ↓lt1, ↓reduceIte, or_true, true_or, or_false, false_or, and_true, true_and, and_false, false_and, not_true_eq_false, not_false_eq_true, ite_self, S2_ret, eq_self, llA, llM, llm, llS, lle_f, lle_t, lle2_f, lle2_t, llt_f, llt_t, llt2_f, llt2_t, leq_f, leq_t, lz_f, lzl_t, nI_add, nI_clamp, nle_f, nle_t, nlt_f, nlt_t, neq_f, neq_t, kept_in, e2, hz]
      exact AO.fine h
end REC
