/-! what goes over all threads, over all things -/
section ALL
variable {z : Nat} {n : Lg}
theorem l6n {k : Nat} (hk : k < 6) : ¬ (6 : Int32) ≤ nI k := of_eq_false (lle_f (k := 6) hk (by decide))
theorem lk_tellEach {x : Nat} (hx : x < z) : ∀ d k m b (M N : Mem), k + d = 6 → b + d < 2147483647 → RR z b n M N → Rm z (b + d) n (f_yX1_tellEach_L11 (m + d + 1) M x 6 (nI k)) (f_yX9_enters_L195 (m + d + 1) N (nI x) (nI k)) := by
  intro d
  induction d with
  | zero =>
    intro k m b M N hk hb h
    obtain rfl : k = 6 := by omega
    rw [f_yX1_tellEach_L11, f_yX9_enters_L195]
    simp (disch := omega) only [↓gd_b, gd_t, gd_f, ↓ob1_s, ob1_s, ↓ob2_s, ob2_s, ↓om_n, ↓om_s, om_n, om_s, ↓lt1, ↓reduceIte, or_true, true_or, or_false, false_or, and_true, true_and, and_false, false_and, not_true_eq_false, not_false_eq_true, ite_self, S2_ret, eq_self, llA, llM, llm, llS, lle_f, lle_t, lle2_f, lle2_t, llt_f, llt_t, llt2_f, llt2_t, leq_f, leq_t, lz_f, lzl_t, nI_add, nI_clamp, nle_f, nle_t, nlt_f, nlt_t, neq_f, neq_t]
    exact h
  | succ d ih =>
    intro k m b M N hk hb h
    have hk6 : k < 6 := by omega
    have h32 := h.z32
    rw [f_yX1_tellEach_L11, f_yX9_enters_L195]
    by_cases h1 : M 6 k 0 = 4
    · have h0 : ¬ M 6 k 0 = 0 := by rw [h1]; decide
      have e39 := h.n39 hk6 h0
      by_cases h2 : M 6 k 11 = nI x
      · obtain ⟨M', N', q1, q2, q3⟩ := lk_told h (by omega) hk6 hx h1 h2
        have g1 := q3.g1
        simp (disch := omega) only [↓gd_b, gd_t, gd_f, ↓ob1_s, ob1_s, ↓ob2_s, ob2_s, ↓om_n, ↓om_s, om_n, om_s, ↓lt1, ↓reduceIte, or_true, true_or, or_false, false_or, and_true, true_and, and_false, false_and, not_true_eq_false, not_false_eq_true, ite_self, S2_ret, eq_self, llA, llM, llm, llS, lle_f, lle_t, lle2_f, lle2_t, llt_f, llt_t, llt2_f, llt2_t, leq_f, leq_t, lz_f, lzl_t, nI_add, nI_clamp, nle_f, nle_t, nlt_f, nlt_t, neq_f, neq_t, h.n31, e39, h1, h2, q1, q2, g1]
        exact S2.mono (ih (k + 1) m (b + 1) M' N' (by omega) (by omega) q3) (fun _ _ q => q.mono (by omega) (by omega))
      · simp (disch := omega) only [↓gd_b, gd_t, gd_f, ↓ob1_s, ob1_s, ↓ob2_s, ob2_s, ↓om_n, ↓om_s, om_n, om_s, ↓lt1, ↓reduceIte, or_true, true_or, or_false, false_or, and_true, true_and, and_false, false_and, not_true_eq_false, not_false_eq_true, ite_self, S2_ret, eq_self, llA, llM, llm, llS, lle_f, lle_t, lle2_f, lle2_t, llt_f, llt_t, llt2_f, llt2_t, leq_f, leq_t, lz_f, lzl_t, nI_add, nI_clamp, nle_f, nle_t, nlt_f, nlt_t, neq_f, neq_t, h.n31, e39, h1, h2]
        exact S2.mono (ih (k + 1) m b M N (by omega) (by omega) h) (fun _ _ q => q.mono (by omega) (by omega))
    · simp (disch := omega) only [↓gd_b, gd_t, gd_f, ↓ob1_s, ob1_s, ↓ob2_s, ob2_s, ↓om_n, ↓om_s, om_n, om_s, ↓lt1, ↓reduceIte, or_true, true_or, or_false, false_or, and_true, true_and, and_false, false_and, not_true_eq_false, not_false_eq_true, ite_self, S2_ret, eq_self, llA, llM, llm, llS, lle_f, lle_t, lle2_f, lle2_t, llt_f, llt_t, llt2_f, llt2_t, leq_f, leq_t, lz_f, lzl_t, nI_add, nI_clamp, nle_f, nle_t, nlt_f, nlt_t, neq_f, neq_t, h.n31, h1]
      exact S2.mono (ih (k + 1) m b M N (by omega) (by omega) h) (fun _ _ q => q.mono (by omega) (by omega))
/-! the time goes on -/
theorem goes_lo {k m : Nat} (hk : k < 6) (N : Mem) : f_yX9_goes_L12 (m + 1) N (nI k) = (if N 40 0 k = (-4) then f_yX9_goes_L12 m N (nI (k + 1)) else (if N 20 0 2 < N 40 0 k then f_yX9_goes_L12 m N (nI (k + 1)) else (if N 31 0 k = 5 then f_yX9_goes_L12 m (mp (mp N 40 0 k (-4)) 31 0 k 2) (nI (k + 1)) else (if N 31 0 k = 4 then ob1 (f_yX9_isTold N (nI k)) (fun N1 => f_yX9_goes_L12 m N1 (nI (k + 1))) else f_yX9_goes_L12 m N (nI (k + 1)))))) := by
  rw [f_yX9_goes_L12, if_neg (l6n hk), gd_b hk (by decide), nI_clamp (by omega), show nI k + 1 = nI (k + 1) from llA k 1]
  rfl
theorem goes_hi {m : Nat} (N : Mem) : f_yX9_goes_L12 (m + 1) N (nI 6) = f_yX9_goes_L12 1 N 6 := by
  rw [f_yX9_goes_L12, if_pos (by decide), f_yX9_goes_L12, if_pos (by decide)]
theorem lk_pass : ∀ d k m b (M N : Mem), k + d = 6 → b + d < 2147483647 → RR z b n M N → ∃ M' N', f_yX1_passTime_L20 (m + d + 1) M 6 (nI k) = some M' ∧ f_yX9_goes_L12 (m + d + 1) N (nI k) = f_yX9_goes_L12 1 N' 6 ∧ RR z (b + d) n M' N' := by
  intro d
  induction d with
  | zero =>
    intro k m b M N hk hb h
    obtain rfl : k = 6 := by omega
    refine ⟨M, N, ?_, goes_hi N, h⟩
    rw [f_yX1_passTime_L20]
    simp (disch := omega) only [↓gd_b, gd_t, gd_f, ↓ob1_s, ob1_s, ↓ob2_s, ob2_s, ↓om_n, ↓om_s, om_n, om_s, ↓lt1, ↓reduceIte, or_true, true_or, or_false, false_or, and_true, true_and, and_false, false_and, not_true_eq_false, not_false_eq_true, ite_self, S2_ret, eq_self, llA, llM, llm, llS, lle_f, lle_t, lle2_f, lle2_t, llt_f, llt_t, llt2_f, llt2_t, leq_f, leq_t, lz_f, lzl_t, nI_add, nI_clamp, nle_f, nle_t, nlt_f, nlt_t, neq_f, neq_t]
  | succ d ih =>
    intro k m b M N hk hb h
    have hk6 : k < 6 := by omega
    have h32 := h.z32
    have go : ∀ b' (M' N' : Mem), b' ≤ b + 1 → RR z b' n M' N' → ∃ M1 N1, f_yX1_passTime_L20 (m + (d + 1)) M' 6 (nI (k + 1)) = some M1 ∧ f_yX9_goes_L12 (m + (d + 1)) N' (nI (k + 1)) = f_yX9_goes_L12 1 N1 6 ∧ RR z (b + (d + 1)) n M1 N1 := by
      intro b' M' N' hb' h'
      obtain ⟨M1, N1, q1, q2, q3⟩ := ih (k + 1) m b' M' N' (by omega) (by omega) h'
      exact ⟨M1, N1, q1, q2, q3.mono (by omega) (by omega)⟩
    obtain ⟨⟨st, s1, s2⟩, a2, a3, a4, a5, a6, a7, a8, a9, a10, a11⟩ := h.ti hk6
    rw [f_yX1_passTime_L20, goes_lo hk6]
    have e31 := h.n31 hk6
    by_cases h45 : st = 4 ∨ st = 5
    · have h0 : ¬ M 6 k 0 = 0 := by rw [s2]; exact nI_ne0 (by omega) (by omega)
      have e40 := h.n40 hk6 h0
      by_cases h1 : M 6 k 12 = -4
      · simp (disch := omega) only [↓gd_b, gd_t, gd_f, ↓ob1_s, ob1_s, ↓ob2_s, ob2_s, ↓om_n, ↓om_s, om_n, om_s, ↓lt1, ↓reduceIte, or_true, true_or, or_false, false_or, and_true, true_and, and_false, false_and, not_true_eq_false, not_false_eq_true, ite_self, S2_ret, eq_self, llA, llM, llm, llS, lle_f, lle_t, lle2_f, lle2_t, llt_f, llt_t, llt2_f, llt2_t, leq_f, leq_t, lz_f, lzl_t, nI_add, nI_clamp, nle_f, nle_t, nlt_f, nlt_t, neq_f, neq_t, e40, h1]
        exact go b M N (by omega) h
      · by_cases h2 : M 6 k 12 ≤ M 2 0 0
        · have h3 : ¬ M 2 0 0 < M 6 k 12 := fun w => by
            rw [Int32.lt_iff_toInt_lt] at w
            rw [Int32.le_iff_toInt_le] at h2
            omega
          rcases h45 with rfl | rfl
          · have h4 : M 6 k 0 = 4 := s2
            obtain ⟨x, x1, x2⟩ := a7 (Or.inr h4)
            obtain ⟨M', N', q1, q2, q3⟩ := lk_told h (by omega) hk6 x1 h4 x2
            have g1 := h.g1
            have hs := h.sat x1
            simp (disch := omega) only [↓gd_b, gd_t, gd_f, ↓ob1_s, ob1_s, ↓ob2_s, ob2_s, ↓om_n, ↓om_s, om_n, om_s, ↓lt1, ↓reduceIte, or_true, true_or, or_false, false_or, and_true, true_and, and_false, false_and, not_true_eq_false, not_false_eq_true, ite_self, S2_ret, eq_self, llA, llM, llm, llS, lle_f, lle_t, lle2_f, lle2_t, llt_f, llt_t, llt2_f, llt2_t, leq_f, leq_t, lz_f, lzl_t, nI_add, nI_clamp, nle_f, nle_t, nlt_f, nlt_t, neq_f, neq_t, e40, e31, h.ntime, h1, h2, h3, s2, x2, hs, g1, q1, q2]
            exact go (b + 1) M' N' (by omega) q3
          · simp (disch := omega) only [↓gd_b, gd_t, gd_f, ↓ob1_s, ob1_s, ↓ob2_s, ob2_s, ↓om_n, ↓om_s, om_n, om_s, ↓lt1, ↓reduceIte, or_true, true_or, or_false, false_or, and_true, true_and, and_false, false_and, not_true_eq_false, not_false_eq_true, ite_self, S2_ret, eq_self, llA, llM, llm, llS, lle_f, lle_t, lle2_f, lle2_t, llt_f, llt_t, llt2_f, llt2_t, leq_f, leq_t, lz_f, lzl_t, nI_add, nI_clamp, nle_f, nle_t, nlt_f, nlt_t, neq_f, neq_t, e40, e31, h.ntime, h1, h2, h3, s2, become_eq]
            refine go b _ _ (by omega) (h.bec (t := k) hk6 h0 (Or.inl ⟨rfl, rfl, rfl⟩) ?_ ?_ ?_ ?_)
            · simp [mp]
            · rw [mp_ne _ _ (by omega), mp_ne _ _ (by omega), h.n39 hk6 h0]
              exact a9 (by rw [s2]; decide) (by rw [s2]; decide) (by rw [s2]; decide)
            · rw [mp_ne _ _ (by omega), mp_eq]
            · intro p y hp
              rw [mp_ne _ _ (by omega), mp_ne _ _ (by omega)]
        · have h3 : M 2 0 0 < M 6 k 12 := by
            rw [Int32.lt_iff_toInt_lt]
            rw [Int32.le_iff_toInt_le] at h2
            omega
          simp (disch := omega) only [↓gd_b, gd_t, gd_f, ↓ob1_s, ob1_s, ↓ob2_s, ob2_s, ↓om_n, ↓om_s, om_n, om_s, ↓lt1, ↓reduceIte, or_true, true_or, or_false, false_or, and_true, true_and, and_false, false_and, not_true_eq_false, not_false_eq_true, ite_self, S2_ret, eq_self, llA, llM, llm, llS, lle_f, lle_t, lle2_f, lle2_t, llt_f, llt_t, llt2_f, llt2_t, leq_f, leq_t, lz_f, lzl_t, nI_add, nI_clamp, nle_f, nle_t, nlt_f, nlt_t, neq_f, neq_t, e40, h.ntime, h1, h2, h3]
          exact go b M N (by omega) h
    · have n4 : ¬ M 6 k 0 = 4 := fun w => by
        rw [s2] at w
        exact h45 (Or.inl ((nI_eq (by omega) (by decide)).mp (show nI st = nI 4 from w)))
      have n5 : ¬ M 6 k 0 = 5 := fun w => by
        rw [s2] at w
        exact h45 (Or.inr ((nI_eq (by omega) (by decide)).mp (show nI st = nI 5 from w)))
      have e12 := a10 n4 n5
      have hg := go b M N (by omega) h
      rw [e31, if_neg n5, if_neg n4]
      simp (disch := omega) only [↓gd_b, gd_t, gd_f, ↓ob1_s, ob1_s, ↓ob2_s, ob2_s, ↓om_n, ↓om_s, om_n, om_s, ↓lt1, ↓reduceIte, or_true, true_or, or_false, false_or, and_true, true_and, and_false, false_and, not_true_eq_false, not_false_eq_true, ite_self, S2_ret, eq_self, llA, llM, llm, llS, lle_f, lle_t, lle2_f, lle2_t, llt_f, llt_t, llt2_f, llt2_t, leq_f, leq_t, lz_f, lzl_t, nI_add, nI_clamp, nle_f, nle_t, nlt_f, nlt_t, neq_f, neq_t, e12]
      exact hg
theorem lk_passTime {b : Nat} {M N : Mem} (h : RR z b n M N) (hb : b + 6 < 2147483647) : ∃ M' N', f_yX1_passTime M = some M' ∧ f_yX9_goes N = f_yX9_goes_L12 1 N' 6 ∧ RR z (b + 6) n M' N' := by
  have h1 := h.wtime (M 2 0 0 + 1)
  obtain ⟨M', N', q1, q2, q3⟩ := lk_pass 6 0 63 b _ _ (by decide) hb h1
  refine ⟨M', N', q1, ?_, q3⟩
  unfold f_yX9_goes
  rw [h.ntime]
  exact q2
/-! a thread ends -/
theorem lk_endJ {t b : Nat} (ht : t < 6) : ∀ d k m (M N : Mem), k + d = 6 → RR z b n M N → M 6 t 0 = 7 → S2 (f_yX1_end_L89 (m + d + 1) M t 6 (nI k)) (f_yX9_ends_L60 (m + d + 1) N (nI t) (nI k)) (fun a c => RR z b n a c ∧ a 6 t 0 = 7) := by
  intro d
  induction d with
  | zero =>
    intro k m M N hk h h7
    obtain rfl : k = 6 := by omega
    rw [f_yX1_end_L89, f_yX9_ends_L60]
    simp (disch := omega) only [↓gd_b, gd_t, gd_f, ↓ob1_s, ob1_s, ↓ob2_s, ob2_s, ↓om_n, ↓om_s, om_n, om_s, ↓lt1, ↓reduceIte, or_true, true_or, or_false, false_or, and_true, true_and, and_false, false_and, not_true_eq_false, not_false_eq_true, ite_self, S2_ret, eq_self, llA, llM, llm, llS, lle_f, lle_t, lle2_f, lle2_t, llt_f, llt_t, llt2_f, llt2_t, leq_f, leq_t, lz_f, lzl_t, nI_add, nI_clamp, nle_f, nle_t, nlt_f, nlt_t, neq_f, neq_t]
    exact ⟨h, h7⟩
  | succ d ih =>
    intro k m M N hk h h7
    have hk6 : k < 6 := by omega
    rw [f_yX1_end_L89, f_yX9_ends_L60]
    by_cases h1 : M 6 k 0 = 6
    · have h0 : ¬ M 6 k 0 = 0 := by rw [h1]; decide
      have e39 := h.n39 hk6 h0
      by_cases h2 : M 6 k 11 = nI t
      · simp (disch := omega) only [↓gd_b, gd_t, gd_f, ↓ob1_s, ob1_s, ↓ob2_s, ob2_s, ↓om_n, ↓om_s, om_n, om_s, ↓lt1, ↓reduceIte, or_true, true_or, or_false, false_or, and_true, true_and, and_false, false_and, not_true_eq_false, not_false_eq_true, ite_self, S2_ret, eq_self, llA, llM, llm, llS, lle_f, lle_t, lle2_f, lle2_t, llt_f, llt_t, llt2_f, llt2_t, leq_f, leq_t, lz_f, lzl_t, nI_add, nI_clamp, nle_f, nle_t, nlt_f, nlt_t, neq_f, neq_t, h.n31, e39, h1, h2, become_eq]
        have hkt : ¬ t = k := fun e => by
          rw [e, h1] at h7
          exact absurd h7 (by decide)
        refine ih (k + 1) m _ _ (by omega) (h.bec (t := k) hk6 h0 (Or.inl ⟨rfl, rfl, rfl⟩) ?_ ?_ ?_ ?_) (by rw [mp_ne _ _ (by omega), mp_ne _ _ (by omega), mp_ne _ _ (by omega)]; exact h7)
        · simp [mp]
        · simp [mp]
        · rw [mp_ne _ _ (by omega), mp_ne _ _ (by omega), h.n40 hk6 h0]
          exact (h.ti hk6).2.2.2.2.2.2.2.2.2.1 (by rw [h1]; decide) (by rw [h1]; decide)
        · intro p y hp
          rw [mp_ne _ _ (by omega), mp_ne _ _ (by omega)]
      · simp (disch := omega) only [↓gd_b, gd_t, gd_f, ↓ob1_s, ob1_s, ↓ob2_s, ob2_s, ↓om_n, ↓om_s, om_n, om_s, ↓lt1, ↓reduceIte, or_true, true_or, or_false, false_or, and_true, true_and, and_false, false_and, not_true_eq_false, not_false_eq_true, ite_self, S2_ret, eq_self, llA, llM, llm, llS, lle_f, lle_t, lle2_f, lle2_t, llt_f, llt_t, llt2_f, llt2_t, leq_f, leq_t, lz_f, lzl_t, nI_add, nI_clamp, nle_f, nle_t, nlt_f, nlt_t, neq_f, neq_t, h.n31, e39, h1, h2]
        exact ih (k + 1) m _ _ (by omega) h h7
    · simp (disch := omega) only [↓gd_b, gd_t, gd_f, ↓ob1_s, ob1_s, ↓ob2_s, ob2_s, ↓om_n, ↓om_s, om_n, om_s, ↓lt1, ↓reduceIte, or_true, true_or, or_false, false_or, and_true, true_and, and_false, false_and, not_true_eq_false, not_false_eq_true, ite_self, S2_ret, eq_self, llA, llM, llm, llS, lle_f, lle_t, lle2_f, lle2_t, llt_f, llt_t, llt2_f, llt2_t, leq_f, leq_t, lz_f, lzl_t, nI_add, nI_clamp, nle_f, nle_t, nlt_f, nlt_t, neq_f, neq_t, h.n31, h1]
      exact ih (k + 1) m _ _ (by omega) h h7
theorem lk_endT {t b : Nat} (ht : t < 6) : ∀ d i m (M N : Mem), i + d = z → RR z b n M N → M 6 t 0 = 7 → S2 (f_yX1_end_L23 (m + d + 1) M t (nI i)) (f_yX9_ends_L25 (m + d + 1) N (nI t) (nI i)) (fun a c => RR z b n a c ∧ a 6 t 0 = 7) := by
  intro d
  induction d with
  | zero =>
    intro i m M N hk h h7
    obtain rfl : i = z := by omega
    have h32 := h.z32
    rw [f_yX1_end_L23, f_yX9_ends_L25, h.nsz, h.sz, if_pos (nI_le (Nat.le_refl _) (by omega)), if_pos (nI_le (Nat.le_refl _) (by omega))]
    exact lk_endJ ht 6 0 63 M N (by decide) h h7
  | succ d ih =>
    intro i m M N hk h h7
    have h32 := h.z32
    have hi : i < z := by omega
    have hlt : ¬ nI z ≤ nI i := fun w => by
      rw [nI_leI (by omega) (by omega)] at w
      omega
    rw [f_yX1_end_L23, f_yX9_ends_L25, h.nsz, h.sz, if_neg hlt, if_neg hlt, h.sat hi]
    by_cases h1 : M 8 i 2 = nI t
    · obtain ⟨M', N', q1, q2, q3, q4⟩ := lk_vac h hi
      have g1 := h.g1
      simp (disch := omega) only [↓gd_b, gd_t, gd_f, ↓ob1_s, ob1_s, ↓ob2_s, ob2_s, ↓om_n, ↓om_s, om_n, om_s, ↓lt1, ↓reduceIte, or_true, true_or, or_false, false_or, and_true, true_and, and_false, false_and, not_true_eq_false, not_false_eq_true, ite_self, S2_ret, eq_self, llA, llM, llm, llS, lle_f, lle_t, lle2_f, lle2_t, llt_f, llt_t, llt2_f, llt2_t, leq_f, leq_t, lz_f, lzl_t, nI_add, nI_clamp, nle_f, nle_t, nlt_f, nlt_t, neq_f, neq_t, h.n25, h1, g1, q1, q2]
      exact ih (i + 1) m M' N' (by omega) q3 (by rw [q4 t (by rw [h7]; decide)]; exact h7)
    · have g1 := h.g1
      simp (disch := omega) only [↓gd_b, gd_t, gd_f, ↓ob1_s, ob1_s, ↓ob2_s, ob2_s, ↓om_n, ↓om_s, om_n, om_s, ↓lt1, ↓reduceIte, or_true, true_or, or_false, false_or, and_true, true_and, and_false, false_and, not_true_eq_false, not_false_eq_true, ite_self, S2_ret, eq_self, llA, llM, llm, llS, lle_f, lle_t, lle2_f, lle2_t, llt_f, llt_t, llt2_f, llt2_t, leq_f, leq_t, lz_f, lzl_t, nI_add, nI_clamp, nle_f, nle_t, nlt_f, nlt_t, neq_f, neq_t, h.n25, h1, g1]
      exact ih (i + 1) m M N (by omega) h h7
theorem lk_end7 {t b : Nat} {M N : Mem} (h : RR z b n M N) (ht : t < 6) (h2 : M 6 t 0 = 2) (v w : Int32) : S2 (f_yX1_end M t v w) (f_yX9_ends N (nI t) v w) (fun a c => RR z b n a c ∧ a 6 t 0 = 7) := by
  have h32 := h.z32
  have h0 : ¬ M 6 t 0 = 0 := by rw [h2]; decide
  obtain ⟨a1, a2, a3, a4, a5, a6, a7, a8, a9, a10, a11⟩ := h.ti ht
  have h3 := h.bec (N' := mp N 31 0 t 7) (s := 7) (x := -4) (u := -4) ht h0 (Or.inr (Or.inl ⟨rfl, rfl, rfl⟩)) (mp_eq _ _ _ _ _)
    (by rw [mp_ne _ _ (by omega), h.n39 ht h0]; exact a9 (by rw [h2]; decide) (by rw [h2]; decide) (by rw [h2]; decide))
    (by rw [mp_ne _ _ (by omega), h.n40 ht h0]; exact a10 (by rw [h2]; decide) (by rw [h2]; decide))
    (fun p y hp => mp_ne _ _ (by omega))
  have h4 := (h3.wt (k := 9) ht (by decide) v).wt (k := 10) ht (by decide) w
  have key := lk_endT (b := b) ht z 0 (69 - z) _ _ (by omega) h4 (by simp [mp])
  rw [show 69 - z + z + 1 = 70 by omega] at key
  unfold f_yX1_end f_yX9_ends
  rw [become_eq, ob1_s, gd_b ht (by decide), nI_clamp (by omega)]
  exact key
theorem lk_end {t b : Nat} {M N : Mem} (h : RR z b n M N) (ht : t < 6) (h2 : M 6 t 0 = 2) (v w : Int32) : Rm z b n (f_yX1_end M t v w) (f_yX9_ends N (nI t) v w) := S2.mono (lk_end7 h ht h2 v w) (fun _ _ q => q.1)
end ALL
