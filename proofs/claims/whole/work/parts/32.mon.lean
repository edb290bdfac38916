section MON
variable {z b t q r : Nat} {w v : Nat → Int32} {M N : Mem}
theorem AO.up {b' : Nat} {x : Int32 × Mem} {y : Mem} (h : AO t b w v q r x y) (hb : b ≤ b') : AO t b' w v q r x y := by
  obtain ⟨z, f, h1, h2, h3, h4⟩ := h
  exact ⟨z, f, h1, h2, h3.mono hb (by omega), h4⟩
theorem later2 (V : Int32) : ∃ u, f_yX1_timeAfter M V = some u ∧ f_yX9_later (M 2 0 0) V = some u := by
  unfold f_yX1_timeAfter f_yX9_later f_yJ9_min_7cf53
  by_cases h : V ≤ 1000000
  · have h1 : ¬ (1000000 : Int32) < V := fun ww => by
      rw [Int32.lt_iff_toInt_lt] at ww
      rw [Int32.le_iff_toInt_le] at h
      omega
    rw [if_neg h1, if_pos h, ob1_s]
    exact ⟨_, rfl, rfl⟩
  · have h1 : (1000000 : Int32) < V := by
      rw [Int32.lt_iff_toInt_lt]
      rw [Int32.le_iff_toInt_le] at h
      omega
    rw [if_pos h1, if_neg h, ob1_s]
    exact ⟨_, rfl, rfl⟩
theorem lk_await {n : Lg} (h : RR z b n M N) (hb : b < 2147483647) (ht : t < 6) (h2 : M 6 t 0 = 2) {i : Nat} (hi : i < z) (u : Int32) :
    Rm z (b + 1) n (ob1 (f_yX1_await M t i u) (fun M8 => gd (i < (M8 60 0 1).toNatClampNeg) (ob1 (f_yX1_vacate M8 i) (fun M11 => some M11))))
      (lt1 (mp (mp (mp (mp N 41 0 t (N 26 0 i)) 39 0 t (nI i)) 31 0 t 4) 40 0 t u) (fun N8 => lt1 (mp N8 42 0 t (N8 20 0 6)) (fun N9 => lt1 (mp N9 20 0 6 ((N9 20 0 6) + 1)) (fun N10 => ob1 (f_yX9_isLeft N10 (nI i)) (fun N12 => (some N12)))))) := by
  have h32 := h.z32
  have h0 : ¬ M 6 t 0 = 0 := by rw [h2]; decide
  unfold f_yX1_await f_yX1_stamp
  have r1 : mp (mp (mp (mp M 6 t 13 (M 8 i 3)) 6 t 0 4) 6 t 11 (nI i)) 6 t 12 u 2 0 2 = M 2 0 2 := by simp [mp]
  have r2 : mp (mp (mp (mp (mp M 6 t 13 (M 8 i 3)) 6 t 0 4) 6 t 11 (nI i)) 6 t 12 u) 6 t 14 (M 2 0 2) 2 0 2 = M 2 0 2 := by simp [mp]
  have r3 : mp (mp (mp (mp N 41 0 t (N 26 0 i)) 39 0 t (nI i)) 31 0 t 4) 40 0 t u 20 0 6 = M 2 0 2 := by rw [mp_ne _ _ (by omega), mp_ne _ _ (by omega), mp_ne _ _ (by omega), mp_ne _ _ (by omega), h.nbegun]
  have r4 : mp (mp (mp (mp (mp N 41 0 t (N 26 0 i)) 39 0 t (nI i)) 31 0 t 4) 40 0 t u) 42 0 t (M 2 0 2) 20 0 6 = M 2 0 2 := by rw [mp_ne _ _ (by omega), r3]
  have e26 := h.n26 (i := i) (by omega)
  have h3 : RR z (b + 1) n (mp (mp (mp (mp (mp (mp M 6 t 13 (M 8 i 3)) 6 t 0 4) 6 t 11 (nI i)) 6 t 12 u) 6 t 14 (M 2 0 2)) 2 0 2 (M 2 0 2 + 1)) (mp (mp (mp (mp (mp (mp N 41 0 t (N 26 0 i)) 39 0 t (nI i)) 31 0 t 4) 40 0 t u) 42 0 t (M 2 0 2)) 20 0 6 (M 2 0 2 + 1)) := by
    refine h.becB (s := 4) (u := u) (d := M 8 i 3) ht h0 hb hi (Or.inr rfl) ?_ ?_ ?_ ?_ ?_ ?_ ?_ ?_ ?_ ?_ ?_ ?_ ?_ ?_ ?_ ?_
    · simp [mp]
    · simp [mp]
    · simp [mp]
    · simp [mp]
    · simp [mp]
    · intro k k0 k11 k12 k13 k14; simp [mp, k0, k11, k12, k13, k14]
    · intro u hu; funext k; simp [mp, hu]
    · intro c i k hc h2; rw [mp_ne _ _ h2]; simp [mp, hc]
    · simp [mp]
    · simp [mp]
    · simp [mp]
    · simp [mp]
    · rw [mp_ne _ _ (by omega), mp_ne _ _ (by omega), mp_ne _ _ (by omega), mp_ne _ _ (by omega), mp_ne _ _ (by omega), mp_eq, e26]
    · simp [mp]
    · simp [mp]
    · intro p y hp h2
      rw [mp_ne _ _ (by omega), mp_ne _ _ (by omega), mp_ne _ _ (by omega), mp_ne _ _ (by omega), mp_ne _ _ (by omega), mp_ne _ _ (by omega)]
  simp only [lt1, become_eq, ob1_s, r1, r2, r3, r4]
  rw [h3.g1, nI_clamp (by omega), gd_pos _ hi]
  exact (lk_vacate h3 hi).b11 (fun a c hq => S2.ret hq)
theorem o_mon (h : RR z b (n0 w v q r) M N) (hb : b + 6 < 2147483647) (ht : t < 6) (h2 : M 6 t 0 = 2) {o : Nat} (ho : 22 ≤ o) (ho2 : o < 27) {a c : Int32} (ka : okn (sc 5 (3 * o)) a = 1) (kc : okn (sc 5 (3 * o + 1)) c = 1) :
    Ra t (b + 6) w v q r (f_yX0_useMonitors M t (nI o) a c) (f_yX9_enters N (nI t) (nI o) (6 * nI t + a) c) := by
  have h0 : ¬ M 6 t 0 = 0 := by rw [h2]; decide
  have h32 := h.z32
  have g1 := h.g1
  have h12 : M 6 t 12 = -4 := (h.ti ht).2.2.2.2.2.2.2.2.2.1 (by rw [h2]; decide) (by rw [h2]; decide)
  have hxx : ∃ x, x ≤ 5 ∧ a = nI x := by
    rcases (by omega : o = 22 ∨ o = 23 ∨ o = 24 ∨ o = 25 ∨ o = 26) with rfl | rfl | rfl | rfl | rfl <;> exact okn_in (L := 5) (by decide) ka
  obtain ⟨x, hx, rfl⟩ := hxx
  unfold f_yX0_useMonitors f_yX9_enters
  rcases hand2 h ht h0 (y := x) (by omega) with ⟨e1, e2, e3⟩ | ⟨i, hi, e1, e2, e3⟩
  · simp (disch := omega) only [↓gd_b, gd_t, gd_f, ↓ob1_s, ob1_s, ↓ob2_s, ob2_s, ↓om_n, ↓om_s, om_n, om_s, ↓lt1, ↓reduceIte, or_true, true_or, or_false, false_or, and_true, true_and, and_false, false_and, not_true_eq_false, not_false_eq_true, ite_self, S2_ret, eq_self, llA, llM, llm, llS, lle_f, lle_t, lle2_f, lle2_t, llt_f, llt_t, llt2_f, llt2_t, leq_f, leq_t, lz_f, lzl_t, nI_add, nI_clamp, nle_f, nle_t, nlt_f, nlt_t, neq_f, neq_t, e2, e3, bad_eq]
    exact (AO.bad h (f := 1) (by decide) (by decide) h2).up (by omega)
  · have e25 := h.n25 (i := i) (by omega)
    have e26 := h.n26 (i := i) (by omega)
    by_cases hin : M 8 i 2 = nI t
    · rcases (by omega : o = 22 ∨ o = 23 ∨ o = 24 ∨ o = 25 ∨ o = 26) with rfl | rfl | rfl | rfl | rfl
      · unfold f_yX0_enter
        simp (disch := omega) only [↓gd_b, gd_t, gd_f, ↓ob1_s, ob1_s, ↓ob2_s, ob2_s, ↓om_n, ↓om_s, om_n, om_s, ↓lt1, ↓reduceIte, or_true, true_or, or_false, false_or, and_true, true_and, and_false, false_and, not_true_eq_false, not_false_eq_true, ite_self, S2_ret, eq_self, llA, llM, llm, llS, lle_f, lle_t, lle2_f, lle2_t, llt_f, llt_t, llt2_f, llt2_t, leq_f, leq_t, lz_f, lzl_t, nI_add, nI_clamp, nle_f, nle_t, nlt_f, nlt_t, neq_f, neq_t, e2, e3, g1, e25, e26, hin, one_ne]
        exact (AO.fine (h.wdep _ hi)).up (by omega)
      · unfold f_yX0_leave
        have h3 := h.wdep (M 8 i 3 - 1) hi
        have r1 : mp M 8 i 3 (M 8 i 3 - 1) 8 i 3 = M 8 i 3 - 1 := mp_eq _ _ _ _ _
        have r2 : mp N 26 0 i (M 8 i 3 - 1) 26 0 i = M 8 i 3 - 1 := mp_eq _ _ _ _ _
        by_cases hz : M 8 i 3 - 1 = 0
        · obtain ⟨M', N', q1, q2, q3⟩ := lk_vacate h3 hi
          rw [hz] at h3 r1 r2 q1 q2
          simp (disch := omega) only [↓gd_b, gd_t, gd_f, ↓ob1_s, ob1_s, ↓ob2_s, ob2_s, ↓om_n, ↓om_s, om_n, om_s, ↓lt1, ↓reduceIte, or_true, true_or, or_false, false_or, and_true, true_and, and_false, false_and, not_true_eq_false, not_false_eq_true, ite_self, S2_ret, eq_self, llA, llM, llm, llS, lle_f, lle_t, lle2_f, lle2_t, llt_f, llt_t, llt2_f, llt2_t, leq_f, leq_t, lz_f, lzl_t, nI_add, nI_clamp, nle_f, nle_t, nlt_f, nlt_t, neq_f, neq_t, e2, e3, g1, e25, e26, hin, hz, r1, r2, q1, q2]
          exact (AO.fine q3).up (by omega)
        · simp (disch := omega) only [↓gd_b, gd_t, gd_f, ↓ob1_s, ob1_s, ↓ob2_s, ob2_s, ↓om_n, ↓om_s, om_n, om_s, ↓lt1, ↓reduceIte, or_true, true_or, or_false, false_or, and_true, true_and, and_false, false_and, not_true_eq_false, not_false_eq_true, ite_self, S2_ret, eq_self, llA, llM, llm, llS, lle_f, lle_t, lle2_f, lle2_t, llt_f, llt_t, llt2_f, llt2_t, leq_f, leq_t, lz_f, lzl_t, nI_add, nI_clamp, nle_f, nle_t, nlt_f, nlt_t, neq_f, neq_t, e2, e3, g1, e25, e26, hin, r1, r2, hz]
          exact (AO.fine h3).up (by omega)
      · obtain ⟨y, hy, rfl⟩ := okn_in (L := 5) (by decide) kc
        have e49 := h.n49 ht (r := y) (by omega)
        have e35 := h.n35 ht
        have n26 : ¬ (nI 24 : Int32) = 22 := by decide
        unfold f_yX0_waitOn f_yX5_takeFlag f_yX9_waits
        rcases (h.ti ht).2.2.2.1 with hf | hf
        · have hs : mp M 6 t 4 0 = M := mp_same hf
          by_cases hV : M 15 t y ≤ 0
          · obtain ⟨M', N', q1, q2, q3⟩ := lk_await h (by omega) ht h2 hi (-4)
            simp (disch := omega) only [↓gd_b, gd_t, gd_f, ↓ob1_s, ob1_s, ↓ob2_s, ob2_s, ↓om_n, ↓om_s, om_n, om_s, ↓lt1, ↓reduceIte, or_true, true_or, or_false, false_or, and_true, true_and, and_false, false_and, not_true_eq_false, not_false_eq_true, ite_self, S2_ret, eq_self, llA, llM, llm, llS, lle_f, lle_t, lle2_f, lle2_t, llt_f, llt_t, llt2_f, llt2_t, leq_f, leq_t, lz_f, lzl_t, nI_add, nI_clamp, nle_f, nle_t, nlt_f, nlt_t, neq_f, neq_t, e2, e3, g1, e25, hin, kept_in, e49, e35, hf, hs, hV]
            obtain ⟨M8, m1, m2⟩ := ob1_some q1
            obtain ⟨m3, m4⟩ := gd_some m2
            obtain ⟨M9, m5, m6⟩ := ob1_some m4
            cases m6
            have q2' : ob1 (f_yX9_isLeft (mp (mp (mp (mp (mp (mp N 41 0 t (N 26 0 i)) 39 0 t (nI i)) 31 0 t 4) 40 0 t (-4)) 42 0 t (mp (mp (mp (mp N 41 0 t (N 26 0 i)) 39 0 t (nI i)) 31 0 t 4) 40 0 t (-4) 20 0 6)) 20 0 6 (mp (mp (mp (mp (mp N 41 0 t (N 26 0 i)) 39 0 t (nI i)) 31 0 t 4) 40 0 t (-4)) 42 0 t (mp (mp (mp (mp N 41 0 t (N 26 0 i)) 39 0 t (nI i)) 31 0 t 4) 40 0 t (-4) 20 0 6) 20 0 6 + 1)) (nI i)) (fun N12 => (some N12)) = some N' := q2
            rw [m1, ob1_s, gd_pos _ m3, m5, ob1_s, ob2_s, q2', ob1_s]
            exact S2.ret ((AO.fine q3).up (by omega))
          · obtain ⟨u, u1, u2⟩ := later2 (M := M) (M 15 t y)
            obtain ⟨M', N', q1, q2, q3⟩ := lk_await h (by omega) ht h2 hi u
            have r5 : mp (mp (mp N 41 0 t (N 26 0 i)) 39 0 t (nI i)) 31 0 t 4 20 0 2 = M 2 0 0 := by rw [mp_ne _ _ (by omega), mp_ne _ _ (by omega), mp_ne _ _ (by omega), h.ntime]
            simp (disch := omega) only [↓gd_b, gd_t, gd_f, ↓ob1_s, ob1_s, ↓ob2_s, ob2_s, ↓om_n, ↓om_s, om_n, om_s, ↓lt1, ↓reduceIte, or_true, true_or, or_false, false_or, and_true, true_and, and_false, false_and, not_true_eq_false, not_false_eq_true, ite_self, S2_ret, eq_self, llA, llM, llm, llS, lle_f, lle_t, lle2_f, lle2_t, llt_f, llt_t, llt2_f, llt2_t, leq_f, leq_t, lz_f, lzl_t, nI_add, nI_clamp, nle_f, nle_t, nlt_f, nlt_t, neq_f, neq_t, e2, e3, g1, e25, hin, kept_in, e49, e35, hf, hs, hV, u1, r5, u2]
            obtain ⟨M8, m1, m2⟩ := ob1_some q1
            obtain ⟨m3, m4⟩ := gd_some m2
            obtain ⟨M9, m5, m6⟩ := ob1_some m4
            cases m6
            have q2' : ob1 (f_yX9_isLeft (mp (mp (mp (mp (mp (mp N 41 0 t (N 26 0 i)) 39 0 t (nI i)) 31 0 t 4) 40 0 t u) 42 0 t (mp (mp (mp (mp N 41 0 t (N 26 0 i)) 39 0 t (nI i)) 31 0 t 4) 40 0 t u 20 0 6)) 20 0 6 (mp (mp (mp (mp (mp N 41 0 t (N 26 0 i)) 39 0 t (nI i)) 31 0 t 4) 40 0 t u) 42 0 t (mp (mp (mp (mp N 41 0 t (N 26 0 i)) 39 0 t (nI i)) 31 0 t 4) 40 0 t u 20 0 6) 20 0 6 + 1)) (nI i)) (fun N12 => (some N12)) = some N' := q2
            rw [m1, ob1_s, gd_pos _ m3, m5, ob1_s, ob2_s, q2', ob1_s]
            exact S2.ret ((AO.fine q3).up (by omega))
        · simp (disch := omega) only [↓gd_b, gd_t, gd_f, ↓ob1_s, ob1_s, ↓ob2_s, ob2_s, ↓om_n, ↓om_s, om_n, om_s, ↓lt1, ↓reduceIte, or_true, true_or, or_false, false_or, and_true, true_and, and_false, false_and, not_true_eq_false, not_false_eq_true, ite_self, S2_ret, eq_self, llA, llM, llm, llS, lle_f, lle_t, lle2_f, lle2_t, llt_f, llt_t, llt2_f, llt2_t, leq_f, leq_t, lz_f, lzl_t, nI_add, nI_clamp, nle_f, nle_t, nlt_f, nlt_t, neq_f, neq_t, e2, e3, g1, e25, hin, kept_in, e49, e35, hf, one_ne, bad_eq]
          exact (AO.bad (h.wt4 ht (v := 0) (Or.inl rfl)) (f := 9) (by decide) (by decide) (by rw [mp_ne _ _ (by omega)]; exact h2)).up (by omega)
      · obtain ⟨M', N', q1, q2, q3⟩ := lk_tellNext h (by omega) hi
        simp (disch := omega) only [↓gd_b, gd_t, gd_f, ↓ob1_s, ob1_s, ↓ob2_s, ob2_s, ↓om_n, ↓om_s, om_n, om_s, ↓lt1, ↓reduceIte, or_true, true_or, or_false, false_or, and_true, true_and, and_false, false_and, not_true_eq_false, not_false_eq_true, ite_self, S2_ret, eq_self, llA, llM, llm, llS, lle_f, lle_t, lle2_f, lle2_t, llt_f, llt_t, llt2_f, llt2_t, leq_f, leq_t, lz_f, lzl_t, nI_add, nI_clamp, nle_f, nle_t, nlt_f, nlt_t, neq_f, neq_t, e2, e3, g1, e25, hin, q1]
        rw [q2]
        exact S2.ret ((AO.fine q3).up (by omega))
      · obtain ⟨M', N', q1, q2, q3⟩ := lk_tellEach hi 6 0 63 b M N (by decide) hb h
        have q1' : f_yX1_tellEach M i = some M' := q1
        have q2' : f_yX9_enters_L195 70 N (nI i) 0 = some N' := q2
        simp (disch := omega) only [↓gd_b, gd_t, gd_f, ↓ob1_s, ob1_s, ↓ob2_s, ob2_s, ↓om_n, ↓om_s, om_n, om_s, ↓lt1, ↓reduceIte, or_true, true_or, or_false, false_or, and_true, true_and, and_false, false_and, not_true_eq_false, not_false_eq_true, ite_self, S2_ret, eq_self, llA, llM, llm, llS, lle_f, lle_t, lle2_f, lle2_t, llt_f, llt_t, llt2_f, llt2_t, leq_f, leq_t, lz_f, lzl_t, nI_add, nI_clamp, nle_f, nle_t, nlt_f, nlt_t, neq_f, neq_t, e2, e3, g1, e25, hin, q1', q2']
        exact AO.fine q3
    · by_cases ho3 : o = 22
      · subst ho3
        unfold f_yX0_enter
        obtain ⟨M', N', q1, q2, q3⟩ := lk_getIn (N0 := mp (mp N 39 0 t (nI i)) 41 0 t 1) (d := 1) h (by omega) ht hi h0 (by simp [mp]) (by rw [mp_ne _ _ (by omega), mp_ne _ _ (by omega), h.n40 ht h0, h12]) (mp_eq _ _ _ _ _) (fun p y hp => by rw [mp_ne _ _ (by omega), mp_ne _ _ (by omega)])
        simp (disch := omega) only [↓gd_b, gd_t, gd_f, ↓ob1_s, ob1_s, ↓ob2_s, ob2_s, ↓om_n, ↓om_s, om_n, om_s, ↓lt1, ↓reduceIte, or_true, true_or, or_false, false_or, and_true, true_and, and_false, false_and, not_true_eq_false, not_false_eq_true, ite_self, S2_ret, eq_self, llA, llM, llm, llS, lle_f, lle_t, lle2_f, lle2_t, llt_f, llt_t, llt2_f, llt2_t, leq_f, leq_t, lz_f, lzl_t, nI_add, nI_clamp, nle_f, nle_t, nlt_f, nlt_t, neq_f, neq_t, e2, e3, g1, e25, hin, q1, q2]
        exact (AO.fine q3).up (by omega)
      · simp (disch := omega) only [↓gd_b, gd_t, gd_f, ↓ob1_s, ob1_s, ↓ob2_s, ob2_s, ↓om_n, ↓om_s, om_n, om_s, ↓lt1, ↓reduceIte, or_true, true_or, or_false, false_or, and_true, true_and, and_false, false_and, not_true_eq_false, not_false_eq_true, ite_self, S2_ret, eq_self, llA, llM, llm, llS, lle_f, lle_t, lle2_f, lle2_t, llt_f, llt_t, llt2_f, llt2_t, leq_f, leq_t, lz_f, lzl_t, nI_add, nI_clamp, nle_f, nle_t, nlt_f, nlt_t, neq_f, neq_t, e2, e3, g1, e25, hin, bad_eq]
        exact (AO.bad h (f := 8) (by decide) (by decide) h2).up (by omega)
end MON
