section INN
variable {z b : Nat} {n : Lg} {M N : Mem}
theorem mp_cg {A B : Mem} {c i k : Nat} {v : Int32} {c' i' k' : Nat} (e : A c' i' k' = B c' i' k') : mp A c i k v c' i' k' = mp B c i k v c' i' k' := by
  unfold mp
  rw [e]
/-- to get in where nobody is -/
theorem lk_in1 {N0 : Mem} {t x : Nat} {d : Int32} (h : RR z b n M N) (ht : t < 6) (hx : x < z) (h0 : ¬ M 6 t 0 = 0) (ho : M 8 x 2 = -4)
    (e39 : N0 39 0 t = nI x) (e40 : N0 40 0 t = -4) (e41 : N0 41 0 t = d)
    (eN : ∀ p y, ¬ (y = t ∧ (p = 31 ∨ p = 39 ∨ p = 40 ∨ p = 41 ∨ p = 42)) → N0 p 0 y = N p 0 y) :
    ∃ N', f_yX9_getIn N0 (nI t) = some N' ∧ RR z b n (mp (mp (mp (mp (mp M 8 x 2 (nI t)) 8 x 3 d) 6 t 0 2) 6 t 11 (-4)) 6 t 12 (-4)) N' := by
  have h32 := h.z32
  refine ⟨mp (mp (mp (mp N0 25 0 x (nI t)) 26 0 x d) 31 0 t 2) 39 0 t (-4), ?_, ?_⟩
  · unfold f_yX9_getIn
    have e25 : N0 25 0 x = -4 := by rw [eN _ _ (by omega), h.n25 (by omega), ho]
    have e41' : mp N0 25 0 x (nI t) 41 0 t = d := by rw [mp_ne _ _ (by omega), e41]
    simp (disch := omega) only [↓gd_b, gd_t, gd_f, ↓ob1_s, ob1_s, ↓ob2_s, ob2_s, ↓om_n, ↓om_s, om_n, om_s, ↓lt1, ↓reduceIte, or_true, true_or, or_false, false_or, and_true, true_and, and_false, false_and, not_true_eq_false, not_false_eq_true, ite_self, S2_ret, eq_self, llA, llM, llm, llS, lle_f, lle_t, lle2_f, lle2_t, llt_f, llt_t, llt2_f, llt2_t, leq_f, leq_t, lz_f, lzl_t, nI_add, nI_clamp, nle_f, nle_t, nlt_f, nlt_t, neq_f, neq_t, e39, e25, e41']
  · have h1 := (h.wown hx (v := nI t) (Or.inr ⟨t, ht, rfl⟩)).wdep d hx
    refine h1.bec ht (by rw [mp_ne _ _ (by omega), mp_ne _ _ (by omega)]; exact h0) (Or.inl ⟨rfl, rfl, rfl⟩) ?_ ?_ ?_ ?_
    · rw [mp_ne _ _ (by omega), mp_eq]
    · rw [mp_eq]
    · rw [mp_ne _ _ (by omega), mp_ne _ _ (by omega), mp_ne _ _ (by omega), mp_ne _ _ (by omega), e40]
    · intro p y hp
      rw [mp_ne _ _ (by omega), mp_ne _ _ (by omega)]
      exact mp_cg (mp_cg (eN p y hp))
theorem letIn_eq {x : Nat} (v d : Int32) : f_yX7_letIn M x v d = some (mp (mp M 8 x 2 v) 8 x 3 d) := rfl
theorem lk_getIn {N0 : Mem} {t x : Nat} {d : Int32} (h : RR z b n M N) (hb : b < 2147483647) (ht : t < 6) (hx : x < z) (h0 : ¬ M 6 t 0 = 0)
    (e39 : N0 39 0 t = nI x) (e40 : N0 40 0 t = -4) (e41 : N0 41 0 t = d)
    (eN : ∀ p y, ¬ (y = t ∧ (p = 31 ∨ p = 39 ∨ p = 40 ∨ p = 41 ∨ p = 42)) → N0 p 0 y = N p 0 y) :
    Rm z (b + 1) n (f_yX1_getIn M t (some x) d) (f_yX9_getIn N0 (nI t)) := by
  have h32 := h.z32
  by_cases ho : M 8 x 2 = -4
  · obtain ⟨N', e1, e2⟩ := lk_in1 h ht hx h0 ho e39 e40 e41 eN
    rw [e1]
    unfold f_yX1_getIn
    rw [om_s, if_pos ho, letIn_eq, ob1_s, become_eq, ob1_s]
    exact S2.ret (e2.mono (by omega) (by omega))
  · have e25 : ¬ N0 25 0 x = -4 := by rw [eN _ _ (by omega), h.n25 (by omega)]; exact ho
    have e206 : N0 20 0 6 = M 2 0 2 := by rw [eN _ _ (by omega), h.nbegun]
    unfold f_yX1_getIn f_yX9_getIn f_yX1_stamp
    rw [om_s, if_neg ho, become_eq, ob1_s]
    simp (disch := omega) only [↓gd_b, gd_t, gd_f, ↓ob1_s, ob1_s, ↓ob2_s, ob2_s, ↓om_n, ↓om_s, om_n, om_s, ↓lt1, ↓reduceIte, or_true, true_or, or_false, false_or, and_true, true_and, and_false, false_and, not_true_eq_false, not_false_eq_true, ite_self, S2_ret, eq_self, llA, llM, llm, llS, lle_f, lle_t, lle2_f, lle2_t, llt_f, llt_t, llt2_f, llt2_t, leq_f, leq_t, lz_f, lzl_t, nI_add, nI_clamp, nle_f, nle_t, nlt_f, nlt_t, neq_f, neq_t, e39, e25]
    refine h.becB (s := 3) (u := -4) (d := d) ht h0 hb hx (Or.inl ⟨rfl, rfl⟩) ?_ ?_ ?_ ?_ ?_ ?_ ?_ ?_ ?_ ?_ ?_ ?_ ?_ ?_ ?_ ?_
    · simp [mp]
    · simp [mp]
    · simp [mp]
    · simp [mp]
    · simp [mp]
    · intro k k0 k11 k12 k13 k14; simp [mp, k0, k11, k12, k13, k14]
    · intro u hu; funext k; simp [mp, hu]
    · intro c i k hc h2; rw [mp_ne _ _ h2]; simp [mp, hc]
    · simp [mp]
    · simp [mp]
    · rw [mp_ne _ _ (by omega), mp_ne _ _ (by omega), mp_ne _ _ (by omega), e39]
    · rw [mp_ne _ _ (by omega), mp_ne _ _ (by omega), mp_ne _ _ (by omega), e40]
    · rw [mp_ne _ _ (by omega), mp_ne _ _ (by omega), mp_ne _ _ (by omega), e41]
    · rw [mp_ne _ _ (by omega), mp_eq, mp_ne _ _ (by omega), e206]
    · rw [mp_eq, mp_ne _ _ (by omega), mp_ne _ _ (by omega), e206]
    · intro p y hp h2
      rw [mp_ne _ _ (by omega), mp_ne _ _ (by omega), mp_ne _ _ (by omega), eN p y hp]
/-! who is next -/
def NX (M : Mem) (s y : Int32) (k : Nat) (o : Option Nat) (r : Int32) : Prop := (o = none ∧ r = -4) ∨ ∃ u : Nat, u < k ∧ u < 6 ∧ o = some u ∧ r = nI u ∧ M 6 u 0 = s ∧ M 6 u 11 = y
theorem lk_next (h : RR z b n M N) {s y : Int32} (hs : s = 3 ∨ s = 4) : ∀ d k m o r, k + d = 6 → NX M s y k o r → S2 (f_yX1_next_L16 (m + d + 1) M s y o 6 (nI k)) (f_yX9_next_L6 (m + d + 1) N s y r (nI k)) (NX M s y 6) := by
  intro d
  induction d with
  | zero =>
    intro k m o r hk hq
    obtain rfl : k = 6 := by omega
    rw [f_yX1_next_L16, f_yX9_next_L6]
    rcases hq with ⟨rfl, rfl⟩ | ⟨u, u1, u2, rfl, rfl, u3⟩
    · simp (disch := omega) only [↓gd_b, gd_t, gd_f, ↓ob1_s, ob1_s, ↓ob2_s, ob2_s, ↓om_n, ↓om_s, om_n, om_s, ↓lt1, ↓reduceIte, or_true, true_or, or_false, false_or, and_true, true_and, and_false, false_and, not_true_eq_false, not_false_eq_true, ite_self, S2_ret, eq_self, llA, llM, llm, llS, lle_f, lle_t, lle2_f, lle2_t, llt_f, llt_t, llt2_f, llt2_t, leq_f, leq_t, lz_f, lzl_t, nI_add, nI_clamp, nle_f, nle_t, nlt_f, nlt_t, neq_f, neq_t]
      exact Or.inl ⟨rfl, rfl⟩
    · simp (disch := omega) only [↓gd_b, gd_t, gd_f, ↓ob1_s, ob1_s, ↓ob2_s, ob2_s, ↓om_n, ↓om_s, om_n, om_s, ↓lt1, ↓reduceIte, or_true, true_or, or_false, false_or, and_true, true_and, and_false, false_and, not_true_eq_false, not_false_eq_true, ite_self, S2_ret, eq_self, llA, llM, llm, llS, lle_f, lle_t, lle2_f, lle2_t, llt_f, llt_t, llt2_f, llt2_t, leq_f, leq_t, lz_f, lzl_t, nI_add, nI_clamp, nle_f, nle_t, nlt_f, nlt_t, neq_f, neq_t]
      exact Or.inr ⟨u, u1, u2, rfl, rfl, u3⟩
  | succ d ih =>
    intro k m o r hk hq
    have hk6 : k < 6 := by omega
    have up : ∀ o r, NX M s y k o r → NX M s y (k + 1) o r := fun o r hh => hh.imp id (fun ⟨u, a1, a2⟩ => ⟨u, by omega, a2⟩)
    rw [f_yX1_next_L16, f_yX9_next_L6]
    by_cases h1 : M 6 k 0 = s
    · have h0 : ¬ M 6 k 0 = 0 := by rw [h1]; rcases hs with rfl | rfl <;> decide
      by_cases h2 : M 6 k 11 = y
      · have hkB : inB M k := by unfold inB; rw [h1]; exact hs
        have hnew : NX M s y (k + 1) (some k) (nI k) := Or.inr ⟨k, by omega, hk6, rfl, rfl, h1, h2⟩
        rcases hq with ⟨rfl, rfl⟩ | ⟨u, u1, u2, rfl, rfl, u3, u4⟩
        · simp (disch := omega) only [↓gd_b, gd_t, gd_f, ↓ob1_s, ob1_s, ↓ob2_s, ob2_s, ↓om_n, ↓om_s, om_n, om_s, ↓lt1, ↓reduceIte, or_true, true_or, or_false, false_or, and_true, true_and, and_false, false_and, not_true_eq_false, not_false_eq_true, ite_self, S2_ret, eq_self, llA, llM, llm, llS, lle_f, lle_t, lle2_f, lle2_t, llt_f, llt_t, llt2_f, llt2_t, leq_f, leq_t, lz_f, lzl_t, nI_add, nI_clamp, nle_f, nle_t, nlt_f, nlt_t, neq_f, neq_t, h.n31, h.n39 hk6 h0, h1, h2]
          exact ih (k + 1) m _ _ (by omega) hnew
        · have huB : inB M u := by unfold inB; rw [u3]; exact hs
          have hold : NX M s y (k + 1) (some u) (nI u) := Or.inr ⟨u, by omega, u2, rfl, rfl, u3, u4⟩
          obtain ⟨m0, m1, m2, m3, m4⟩ := h.si
          have hd := m4 u k u2 hk6 (by omega) huB hkB
          have eu := h.n42 u2 huB
          have ek := h.n42 hk6 hkB
          rcases h.ci.2.2.1 with ho | ho | ho
          · by_cases hle : M 6 u 14 ≤ M 6 k 14
            · have hlt : ¬ M 6 k 14 < M 6 u 14 := fun w => by
                rw [Int32.lt_iff_toInt_lt] at w
                rw [Int32.le_iff_toInt_le] at hle
                omega
              simp (disch := omega) only [↓gd_b, gd_t, gd_f, ↓ob1_s, ob1_s, ↓ob2_s, ob2_s, ↓om_n, ↓om_s, om_n, om_s, ↓lt1, ↓reduceIte, or_true, true_or, or_false, false_or, and_true, true_and, and_false, false_and, not_true_eq_false, not_false_eq_true, ite_self, S2_ret, eq_self, llA, llM, llm, llS, lle_f, lle_t, lle2_f, lle2_t, llt_f, llt_t, llt2_f, llt2_t, leq_f, leq_t, lz_f, lzl_t, nI_add, nI_clamp, nle_f, nle_t, nlt_f, nlt_t, neq_f, neq_t, h.n31, h.n39 hk6 h0, h1, h2, h.norder, ho, eu, ek, hle, hlt]
              exact ih (k + 1) m _ _ (by omega) hold
            · have hlt : M 6 k 14 < M 6 u 14 := by
                rw [Int32.lt_iff_toInt_lt]
                rw [Int32.le_iff_toInt_le] at hle
                omega
              simp (disch := omega) only [↓gd_b, gd_t, gd_f, ↓ob1_s, ob1_s, ↓ob2_s, ob2_s, ↓om_n, ↓om_s, om_n, om_s, ↓lt1, ↓reduceIte, or_true, true_or, or_false, false_or, and_true, true_and, and_false, false_and, not_true_eq_false, not_false_eq_true, ite_self, S2_ret, eq_self, llA, llM, llm, llS, lle_f, lle_t, lle2_f, lle2_t, llt_f, llt_t, llt2_f, llt2_t, leq_f, leq_t, lz_f, lzl_t, nI_add, nI_clamp, nle_f, nle_t, nlt_f, nlt_t, neq_f, neq_t, h.n31, h.n39 hk6 h0, h1, h2, h.norder, ho, eu, ek, hle, hlt]
              exact ih (k + 1) m _ _ (by omega) hnew
          · by_cases hle : M 6 u 14 ≤ M 6 k 14
            · have hlt : ¬ M 6 k 14 ≤ M 6 u 14 := fun w => by
                rw [Int32.le_iff_toInt_le] at w hle
                exact hd (Int32.toInt_inj.mp (by omega))
              simp (disch := omega) only [↓gd_b, gd_t, gd_f, ↓ob1_s, ob1_s, ↓ob2_s, ob2_s, ↓om_n, ↓om_s, om_n, om_s, ↓lt1, ↓reduceIte, or_true, true_or, or_false, false_or, and_true, true_and, and_false, false_and, not_true_eq_false, not_false_eq_true, ite_self, S2_ret, eq_self, llA, llM, llm, llS, lle_f, lle_t, lle2_f, lle2_t, llt_f, llt_t, llt2_f, llt2_t, leq_f, leq_t, lz_f, lzl_t, nI_add, nI_clamp, nle_f, nle_t, nlt_f, nlt_t, neq_f, neq_t, h.n31, h.n39 hk6 h0, h1, h2, h.norder, ho, eu, ek, hle, hlt, one_ne]
              exact ih (k + 1) m _ _ (by omega) hnew
            · have hlt : M 6 k 14 ≤ M 6 u 14 := by
                rw [Int32.le_iff_toInt_le] at hle ⊢
                omega
              simp (disch := omega) only [↓gd_b, gd_t, gd_f, ↓ob1_s, ob1_s, ↓ob2_s, ob2_s, ↓om_n, ↓om_s, om_n, om_s, ↓lt1, ↓reduceIte, or_true, true_or, or_false, false_or, and_true, true_and, and_false, false_and, not_true_eq_false, not_false_eq_true, ite_self, S2_ret, eq_self, llA, llM, llm, llS, lle_f, lle_t, lle2_f, lle2_t, llt_f, llt_t, llt2_f, llt2_t, leq_f, leq_t, lz_f, lzl_t, nI_add, nI_clamp, nle_f, nle_t, nlt_f, nlt_t, neq_f, neq_t, h.n31, h.n39 hk6 h0, h1, h2, h.norder, ho, eu, ek, hle, hlt, one_ne]
              exact ih (k + 1) m _ _ (by omega) hold
          · have z20 : ¬ (2 : Int32) = 0 := by decide
            have z21 : ¬ (2 : Int32) = 1 := by decide
            by_cases hle : M 6 u 14 ≤ M 6 k 14
            · simp (disch := omega) only [↓gd_b, gd_t, gd_f, ↓ob1_s, ob1_s, ↓ob2_s, ob2_s, ↓om_n, ↓om_s, om_n, om_s, ↓lt1, ↓reduceIte, or_true, true_or, or_false, false_or, and_true, true_and, and_false, false_and, not_true_eq_false, not_false_eq_true, ite_self, S2_ret, eq_self, llA, llM, llm, llS, lle_f, lle_t, lle2_f, lle2_t, llt_f, llt_t, llt2_f, llt2_t, leq_f, leq_t, lz_f, lzl_t, nI_add, nI_clamp, nle_f, nle_t, nlt_f, nlt_t, neq_f, neq_t, h.n31, h.n39 hk6 h0, h1, h2, h.norder, ho, hle, z20, z21]
              exact ih (k + 1) m _ _ (by omega) hold
            · simp (disch := omega) only [↓gd_b, gd_t, gd_f, ↓ob1_s, ob1_s, ↓ob2_s, ob2_s, ↓om_n, ↓om_s, om_n, om_s, ↓lt1, ↓reduceIte, or_true, true_or, or_false, false_or, and_true, true_and, and_false, false_and, not_true_eq_false, not_false_eq_true, ite_self, S2_ret, eq_self, llA, llM, llm, llS, lle_f, lle_t, lle2_f, lle2_t, llt_f, llt_t, llt2_f, llt2_t, leq_f, leq_t, lz_f, lzl_t, nI_add, nI_clamp, nle_f, nle_t, nlt_f, nlt_t, neq_f, neq_t, h.n31, h.n39 hk6 h0, h1, h2, h.norder, ho, hle, z20, z21]
              exact ih (k + 1) m _ _ (by omega) hold
      · rcases hq with ⟨rfl, rfl⟩ | ⟨u, u1, u2, rfl, rfl, u3⟩
        · simp (disch := omega) only [↓gd_b, gd_t, gd_f, ↓ob1_s, ob1_s, ↓ob2_s, ob2_s, ↓om_n, ↓om_s, om_n, om_s, ↓lt1, ↓reduceIte, or_true, true_or, or_false, false_or, and_true, true_and, and_false, false_and, not_true_eq_false, not_false_eq_true, ite_self, S2_ret, eq_self, llA, llM, llm, llS, lle_f, lle_t, lle2_f, lle2_t, llt_f, llt_t, llt2_f, llt2_t, leq_f, leq_t, lz_f, lzl_t, nI_add, nI_clamp, nle_f, nle_t, nlt_f, nlt_t, neq_f, neq_t, h.n31, h.n39 hk6 h0, h1, h2]
          exact ih (k + 1) m _ _ (by omega) (Or.inl ⟨rfl, rfl⟩)
        · simp (disch := omega) only [↓gd_b, gd_t, gd_f, ↓ob1_s, ob1_s, ↓ob2_s, ob2_s, ↓om_n, ↓om_s, om_n, om_s, ↓lt1, ↓reduceIte, or_true, true_or, or_false, false_or, and_true, true_and, and_false, false_and, not_true_eq_false, not_false_eq_true, ite_self, S2_ret, eq_self, llA, llM, llm, llS, lle_f, lle_t, lle2_f, lle2_t, llt_f, llt_t, llt2_f, llt2_t, leq_f, leq_t, lz_f, lzl_t, nI_add, nI_clamp, nle_f, nle_t, nlt_f, nlt_t, neq_f, neq_t, h.n31, h.n39 hk6 h0, h1, h2]
          exact ih (k + 1) m _ _ (by omega) (Or.inr ⟨u, by omega, u2, rfl, rfl, u3⟩)
    · rcases hq with ⟨rfl, rfl⟩ | ⟨u, u1, u2, rfl, rfl, u3⟩
      · simp (disch := omega) only [↓gd_b, gd_t, gd_f, ↓ob1_s, ob1_s, ↓ob2_s, ob2_s, ↓om_n, ↓om_s, om_n, om_s, ↓lt1, ↓reduceIte, or_true, true_or, or_false, false_or, and_true, true_and, and_false, false_and, not_true_eq_false, not_false_eq_true, ite_self, S2_ret, eq_self, llA, llM, llm, llS, lle_f, lle_t, lle2_f, lle2_t, llt_f, llt_t, llt2_f, llt2_t, leq_f, leq_t, lz_f, lzl_t, nI_add, nI_clamp, nle_f, nle_t, nlt_f, nlt_t, neq_f, neq_t, h.n31, h1]
        exact ih (k + 1) m _ _ (by omega) (Or.inl ⟨rfl, rfl⟩)
      · simp (disch := omega) only [↓gd_b, gd_t, gd_f, ↓ob1_s, ob1_s, ↓ob2_s, ob2_s, ↓om_n, ↓om_s, om_n, om_s, ↓lt1, ↓reduceIte, or_true, true_or, or_false, false_or, and_true, true_and, and_false, false_and, not_true_eq_false, not_false_eq_true, ite_self, S2_ret, eq_self, llA, llM, llm, llS, lle_f, lle_t, lle2_f, lle2_t, llt_f, llt_t, llt2_f, llt2_t, leq_f, leq_t, lz_f, lzl_t, nI_add, nI_clamp, nle_f, nle_t, nlt_f, nlt_t, neq_f, neq_t, h.n31, h1]
        exact ih (k + 1) m _ _ (by omega) (Or.inr ⟨u, by omega, u2, rfl, rfl, u3⟩)
theorem lk_next' (h : RR z b n M N) {s y : Int32} (hs : s = 3 ∨ s = 4) : S2 (f_yX1_next M s y) (f_yX9_next N s y) (NX M s y 6) := lk_next h hs 6 0 63 none (-4) (by decide) (Or.inl ⟨rfl, rfl⟩)
theorem lk_vac (h : RR z b n M N) {x : Nat} (hx : x < z) : S2 (f_yX1_vacate M x) (f_yX9_isLeft N (nI x)) (fun a c => RR z b n a c ∧ ∀ u, ¬ M 6 u 0 = 3 → a 6 u 0 = M 6 u 0) := by
  have h32 := h.z32
  unfold f_yX1_vacate f_yX9_isLeft
  have h2 := (h.wown hx (v := -4) (Or.inl rfl)).wdep 0 hx
  have ho : mp (mp M 8 x 2 (-4)) 8 x 3 0 8 x 2 = -4 := by simp [mp]
  have hfr : ∀ u, mp (mp M 8 x 2 (-4)) 8 x 3 0 6 u 0 = M 6 u 0 := fun u => by simp [mp]
  rw [letIn_eq, ob1_s]
  simp (disch := omega) only [↓gd_b, gd_t, gd_f, ↓ob1_s, ob1_s, ↓ob2_s, ob2_s, ↓om_n, ↓om_s, om_n, om_s, ↓lt1, ↓reduceIte, or_true, true_or, or_false, false_or, and_true, true_and, and_false, false_and, not_true_eq_false, not_false_eq_true, ite_self, S2_ret, eq_self, llA, llM, llm, llS, lle_f, lle_t, lle2_f, lle2_t, llt_f, llt_t, llt2_f, llt2_t, leq_f, leq_t, lz_f, lzl_t, nI_add, nI_clamp, nle_f, nle_t, nlt_f, nlt_t, neq_f, neq_t, h2.g1]
  generalize mp (mp M 8 x 2 (-4)) 8 x 3 0 = M2 at *
  generalize mp (mp N 25 0 x (-4)) 26 0 x 0 = N2 at *
  refine (lk_next' h2 (s := 3) (y := nI x) (Or.inl rfl)).b11 (fun o r hq => ?_)
  rcases hq with ⟨rfl, rfl⟩ | ⟨u, u1, u2, rfl, rfl, u3, u4⟩
  · exact S2.ret ⟨h2, fun u _ => hfr u⟩
  · have h0 : ¬ M2 6 u 0 = 0 := by rw [u3]; decide
    have huB : inB M2 u := Or.inl u3
    obtain ⟨a1, a2, a3, a4, a5, a6, a7, a8, a9, a10, a11⟩ := h2.ti u2
    obtain ⟨N', e1, e2⟩ := lk_in1 (N0 := N2) (d := M2 6 u 13) h2 u2 hx h0 ho (by rw [h2.n39 u2 h0, u4]) (by rw [h2.n40 u2 h0]; exact a10 (by rw [u3]; decide) (by rw [u3]; decide)) (h2.n41 u2 huB) (fun _ _ _ => rfl)
    have hne : ¬ nI u = -4 := fun w => by
      have := lz_f (t := u) (by omega) 4 (by decide) (by decide)
      exact (this ▸ w : False)
    rw [om_s, gd_pos _ u2, letIn_eq, ob1_s, become_eq, ob1_s, if_neg hne, e1]
    refine S2.ret ⟨e2, fun u' hu' => ?_⟩
    have huu : ¬ u' = u := fun e => hu' (by rw [e, ← hfr u, u3])
    rw [mp_ne _ _ (by omega), mp_ne _ _ (by omega), mp_ne _ _ (by omega), mp_ne _ _ (by omega), mp_ne _ _ (by omega), hfr]
theorem lk_vacate (h : RR z b n M N) {x : Nat} (hx : x < z) : Rm z b n (f_yX1_vacate M x) (f_yX9_isLeft N (nI x)) := S2.mono (lk_vac h hx) (fun _ _ q => q.1)
theorem lk_told (h : RR z b n M N) (hb : b < 2147483647) {t x : Nat} (ht : t < 6) (hx : x < z) (h4 : M 6 t 0 = 4) (h11 : M 6 t 11 = nI x) : Rm z (b + 1) n (f_yX1_getIn M t (some x) (M 6 t 13)) (f_yX9_isTold N (nI t)) := by
  have h0 : ¬ M 6 t 0 = 0 := by rw [h4]; decide
  have hB : inB M t := Or.inr h4
  have hq := lk_getIn (N0 := mp N 40 0 t (-4)) (d := M 6 t 13) h hb ht hx h0 (by rw [mp_ne _ _ (by omega), h.n39 ht h0, h11]) (mp_eq _ _ _ _ _) (by rw [mp_ne _ _ (by omega), h.n41 ht hB]) (fun p y hp => mp_ne _ _ (by omega))
  unfold f_yX9_isTold
  obtain ⟨a, c, e1, e2, e3⟩ := hq
  simp (disch := omega) only [↓gd_b, gd_t, gd_f, ↓ob1_s, ob1_s, ↓ob2_s, ob2_s, ↓om_n, ↓om_s, om_n, om_s, ↓lt1, ↓reduceIte, or_true, true_or, or_false, false_or, and_true, true_and, and_false, false_and, not_true_eq_false, not_false_eq_true, ite_self, S2_ret, eq_self, llA, llM, llm, llS, lle_f, lle_t, lle2_f, lle2_t, llt_f, llt_t, llt2_f, llt2_t, leq_f, leq_t, lz_f, lzl_t, nI_add, nI_clamp, nle_f, nle_t, nlt_f, nlt_t, neq_f, neq_t, e1, e2]
  exact e3
theorem lk_tellNext (h : RR z b n M N) (hb : b < 2147483647) {x : Nat} (hx : x < z) : Rm z (b + 1) n (f_yX1_tellNext M x) (ob1 (f_yX9_next N 4 (nI x)) (fun r => if r = (-4) then some N else ob1 (f_yX9_isTold N r) (fun N' => some N'))) := by
  unfold f_yX1_tellNext
  refine (lk_next' h (s := 4) (y := nI x) (Or.inr rfl)).b11 (fun o r hq => ?_)
  rcases hq with ⟨rfl, rfl⟩ | ⟨u, u1, u2, rfl, rfl, u3, u4⟩
  · exact S2.ret (h.mono (by omega) (by omega))
  · have hne : ¬ nI u = -4 := fun w => by
      have := lz_f (t := u) (by omega) 4 (by decide) (by decide)
      exact (this ▸ w : False)
    rw [om_s, gd_pos _ u2, if_neg hne]
    exact (lk_told h hb u2 hx u3 u4).b11 (fun a c hq => S2.ret hq)
theorem lk_break (h : RR z b n M N) (hb : b < 2147483647) {t : Nat} (ht : t < 6) : ∃ r M' N', f_yX1_interrupt M t = some M' ∧ f_yX9_broken N (nI t) = some (r, N') ∧ RR z (b + 1) n M' N' ∧ (∃ st : Nat, st ≤ 7 ∧ M 6 t 0 = nI st ∧ r = uw st) ∧ (r = 0 → M' = M) := by
  obtain ⟨⟨st, s1, s2⟩, a2, a3, a4, a5, a6, a7, a8, a9, a10, a11⟩ := h.ti ht
  have hN := uwN h ht s1 s2
  have e31 := h.n31 ht
  unfold f_yX1_interrupt f_yX9_broken
  rw [in_in (n := 6) (by decide) ht (by decide), hN]
  rcases (by omega : (st = 0 ∨ st = 1 ∨ st = 7) ∨ st = 2 ∨ st = 3 ∨ st = 4 ∨ st = 5 ∨ st = 6) with h7 | rfl | rfl | rfl | rfl | rfl
  · refine ⟨0, M, N, ?_, ?_, h.mono (by omega) (by omega), ⟨st, s1, s2, ?_⟩, fun _ => rfl⟩
    · rcases h7 with rfl | rfl | rfl <;> simp (disch := omega) only [↓gd_b, gd_t, gd_f, ↓ob1_s, ob1_s, ↓ob2_s, ob2_s, ↓om_n, ↓om_s, om_n, om_s, ↓lt1, ↓reduceIte, or_true, true_or, or_false, false_or, and_true, true_and, and_false, false_and, not_true_eq_false, not_false_eq_true, ite_self, S2_ret, eq_self, llA, llM, llm, llS, lle_f, lle_t, lle2_f, lle2_t, llt_f, llt_t, llt2_f, llt2_t, leq_f, leq_t, lz_f, lzl_t, nI_add, nI_clamp, nle_f, nle_t, nlt_f, nlt_t, neq_f, neq_t, s2]
    · rcases h7 with rfl | rfl | rfl <;> simp (disch := omega) only [↓gd_b, gd_t, gd_f, ↓ob1_s, ob1_s, ↓ob2_s, ob2_s, ↓om_n, ↓om_s, om_n, om_s, ↓lt1, ↓reduceIte, or_true, true_or, or_false, false_or, and_true, true_and, and_false, false_and, not_true_eq_false, not_false_eq_true, ite_self, S2_ret, eq_self, llA, llM, llm, llS, lle_f, lle_t, lle2_f, lle2_t, llt_f, llt_t, llt2_f, llt2_t, leq_f, leq_t, lz_f, lzl_t, nI_add, nI_clamp, nle_f, nle_t, nlt_f, nlt_t, neq_f, neq_t, one_ne, show uw 0 = 0 from rfl, show uw 1 = 0 from rfl, show uw 7 = 0 from rfl]
    · rcases h7 with rfl | rfl | rfl <;> rfl
  · refine ⟨1, mp M 6 t 4 1, mp N 35 0 t 1, ?_, ?_, (h.wt4 ht (Or.inr rfl)).mono (by omega) (by omega), ⟨2, s1, s2, rfl⟩, fun w => absurd w (by decide)⟩
    · simp (disch := omega) only [↓gd_b, gd_t, gd_f, ↓ob1_s, ob1_s, ↓ob2_s, ob2_s, ↓om_n, ↓om_s, om_n, om_s, ↓lt1, ↓reduceIte, or_true, true_or, or_false, false_or, and_true, true_and, and_false, false_and, not_true_eq_false, not_false_eq_true, ite_self, S2_ret, eq_self, llA, llM, llm, llS, lle_f, lle_t, lle2_f, lle2_t, llt_f, llt_t, llt2_f, llt2_t, leq_f, leq_t, lz_f, lzl_t, nI_add, nI_clamp, nle_f, nle_t, nlt_f, nlt_t, neq_f, neq_t, s2]
    · simp (disch := omega) only [↓gd_b, gd_t, gd_f, ↓ob1_s, ob1_s, ↓ob2_s, ob2_s, ↓om_n, ↓om_s, om_n, om_s, ↓lt1, ↓reduceIte, or_true, true_or, or_false, false_or, and_true, true_and, and_false, false_and, not_true_eq_false, not_false_eq_true, ite_self, S2_ret, eq_self, llA, llM, llm, llS, lle_f, lle_t, lle2_f, lle2_t, llt_f, llt_t, llt2_f, llt2_t, leq_f, leq_t, lz_f, lzl_t, nI_add, nI_clamp, nle_f, nle_t, nlt_f, nlt_t, neq_f, neq_t, one_ne, show uw 2 = 1 from rfl, e31, s2]
  · refine ⟨1, mp M 6 t 4 1, mp N 35 0 t 1, ?_, ?_, (h.wt4 ht (Or.inr rfl)).mono (by omega) (by omega), ⟨3, s1, s2, rfl⟩, fun w => absurd w (by decide)⟩
    · simp (disch := omega) only [↓gd_b, gd_t, gd_f, ↓ob1_s, ob1_s, ↓ob2_s, ob2_s, ↓om_n, ↓om_s, om_n, om_s, ↓lt1, ↓reduceIte, or_true, true_or, or_false, false_or, and_true, true_and, and_false, false_and, not_true_eq_false, not_false_eq_true, ite_self, S2_ret, eq_self, llA, llM, llm, llS, lle_f, lle_t, lle2_f, lle2_t, llt_f, llt_t, llt2_f, llt2_t, leq_f, leq_t, lz_f, lzl_t, nI_add, nI_clamp, nle_f, nle_t, nlt_f, nlt_t, neq_f, neq_t, s2]
    · simp (disch := omega) only [↓gd_b, gd_t, gd_f, ↓ob1_s, ob1_s, ↓ob2_s, ob2_s, ↓om_n, ↓om_s, om_n, om_s, ↓lt1, ↓reduceIte, or_true, true_or, or_false, false_or, and_true, true_and, and_false, false_and, not_true_eq_false, not_false_eq_true, ite_self, S2_ret, eq_self, llA, llM, llm, llS, lle_f, lle_t, lle2_f, lle2_t, llt_f, llt_t, llt2_f, llt2_t, leq_f, leq_t, lz_f, lzl_t, nI_add, nI_clamp, nle_f, nle_t, nlt_f, nlt_t, neq_f, neq_t, one_ne, show uw 3 = 1 from rfl, e31, s2]
  · have h4 : M 6 t 0 = 4 := s2
    have h0 : ¬ M 6 t 0 = 0 := by rw [h4]; decide
    obtain ⟨x, x1, x2⟩ := a7 (Or.inr h4)
    have h1 := h.wt5 (v := 1) ht (Or.inr rfl)
    have h0' : ¬ mp M 6 t 5 1 6 t 0 = 0 := by rw [mp_ne _ _ (by omega)]; exact h0
    have hB' : inB (mp M 6 t 5 1) t := Or.inr (by rw [mp_ne _ _ (by omega)]; exact h4)
    have e11 : mp M 6 t 5 1 6 t 11 = nI x := by rw [mp_ne _ _ (by omega)]; exact x2
    have e31' : mp (mp N 36 0 t 1) 40 0 t (-4) 31 0 t = nI 4 := by rw [mp_ne _ _ (by omega), mp_ne _ _ (by omega), e31, s2]
    have hq := lk_getIn (N0 := mp (mp N 36 0 t 1) 40 0 t (-4)) (d := mp M 6 t 5 1 6 t 13) h1 hb ht x1 h0' (by rw [mp_ne _ _ (by omega), h1.n39 ht h0', e11]) (mp_eq _ _ _ _ _) (by rw [mp_ne _ _ (by omega), h1.n41 ht hB']) (fun p y hp => mp_ne _ _ (by omega))
    obtain ⟨M', N', q1, q2, q3⟩ := hq
    have h32 := h.z32
    refine ⟨1, M', N', ?_, ?_, q3, ⟨4, s1, s2, rfl⟩, fun w => absurd w (by decide)⟩
    · simp (disch := omega) only [↓gd_b, gd_t, gd_f, ↓ob1_s, ob1_s, ↓ob2_s, ob2_s, ↓om_n, ↓om_s, om_n, om_s, ↓lt1, ↓reduceIte, or_true, true_or, or_false, false_or, and_true, true_and, and_false, false_and, not_true_eq_false, not_false_eq_true, ite_self, S2_ret, eq_self, llA, llM, llm, llS, lle_f, lle_t, lle2_f, lle2_t, llt_f, llt_t, llt2_f, llt2_t, leq_f, leq_t, lz_f, lzl_t, nI_add, nI_clamp, nle_f, nle_t, nlt_f, nlt_t, neq_f, neq_t, s2, e11, h1.sat x1, h1.g1, q1]
    · simp (disch := omega) only [↓gd_b, gd_t, gd_f, ↓ob1_s, ob1_s, ↓ob2_s, ob2_s, ↓om_n, ↓om_s, om_n, om_s, ↓lt1, ↓reduceIte, or_true, true_or, or_false, false_or, and_true, true_and, and_false, false_and, not_true_eq_false, not_false_eq_true, ite_self, S2_ret, eq_self, llA, llM, llm, llS, lle_f, lle_t, lle2_f, lle2_t, llt_f, llt_t, llt2_f, llt2_t, leq_f, leq_t, lz_f, lzl_t, nI_add, nI_clamp, nle_f, nle_t, nlt_f, nlt_t, neq_f, neq_t, one_ne, show uw 4 = 1 from rfl, e31, s2, e31', q2]
  · have h1 := h.wt5 (v := 1) ht (Or.inr rfl)
    refine ⟨1, _, mp (mp (mp (mp N 36 0 t 1) 40 0 t (-4)) 31 0 t 2) 39 0 t (-4), ?_, ?_, (h1.bec (N' := mp (mp (mp (mp N 36 0 t 1) 40 0 t (-4)) 31 0 t 2) 39 0 t (-4)) ht (by rw [mp_ne _ _ (by omega), s2]; decide) (Or.inl ⟨rfl, rfl, rfl⟩) (by simp [mp]) (by simp [mp]) (by simp [mp]) (fun p y hp => by rw [mp_ne _ _ (by omega), mp_ne _ _ (by omega), mp_ne _ _ (by omega)])).mono (by omega) (by omega), ⟨5, s1, s2, rfl⟩, fun w => absurd w (by decide)⟩
    · simp (disch := omega) only [↓gd_b, gd_t, gd_f, ↓ob1_s, ob1_s, ↓ob2_s, ob2_s, ↓om_n, ↓om_s, om_n, om_s, ↓lt1, ↓reduceIte, or_true, true_or, or_false, false_or, and_true, true_and, and_false, false_and, not_true_eq_false, not_false_eq_true, ite_self, S2_ret, eq_self, llA, llM, llm, llS, lle_f, lle_t, lle2_f, lle2_t, llt_f, llt_t, llt2_f, llt2_t, leq_f, leq_t, lz_f, lzl_t, nI_add, nI_clamp, nle_f, nle_t, nlt_f, nlt_t, neq_f, neq_t, s2, become_eq]
    · have e31' : mp (mp N 36 0 t 1) 40 0 t (-4) 31 0 t = nI 5 := by rw [mp_ne _ _ (by omega), mp_ne _ _ (by omega), e31, s2]
      simp (disch := omega) only [↓gd_b, gd_t, gd_f, ↓ob1_s, ob1_s, ↓ob2_s, ob2_s, ↓om_n, ↓om_s, om_n, om_s, ↓lt1, ↓reduceIte, or_true, true_or, or_false, false_or, and_true, true_and, and_false, false_and, not_true_eq_false, not_false_eq_true, ite_self, S2_ret, eq_self, llA, llM, llm, llS, lle_f, lle_t, lle2_f, lle2_t, llt_f, llt_t, llt2_f, llt2_t, leq_f, leq_t, lz_f, lzl_t, nI_add, nI_clamp, nle_f, nle_t, nlt_f, nlt_t, neq_f, neq_t, one_ne, show uw 5 = 1 from rfl, e31, s2, e31']
  · have h1 := h.wt5 (v := 1) ht (Or.inr rfl)
    refine ⟨1, _, mp (mp (mp (mp N 36 0 t 1) 40 0 t (-4)) 31 0 t 2) 39 0 t (-4), ?_, ?_, (h1.bec (N' := mp (mp (mp (mp N 36 0 t 1) 40 0 t (-4)) 31 0 t 2) 39 0 t (-4)) ht (by rw [mp_ne _ _ (by omega), s2]; decide) (Or.inl ⟨rfl, rfl, rfl⟩) (by simp [mp]) (by simp [mp]) (by simp [mp]) (fun p y hp => by rw [mp_ne _ _ (by omega), mp_ne _ _ (by omega), mp_ne _ _ (by omega)])).mono (by omega) (by omega), ⟨6, s1, s2, rfl⟩, fun w => absurd w (by decide)⟩
    · simp (disch := omega) only [↓gd_b, gd_t, gd_f, ↓ob1_s, ob1_s, ↓ob2_s, ob2_s, ↓om_n, ↓om_s, om_n, om_s, ↓lt1, ↓reduceIte, or_true, true_or, or_false, false_or, and_true, true_and, and_false, false_and, not_true_eq_false, not_false_eq_true, ite_self, S2_ret, eq_self, llA, llM, llm, llS, lle_f, lle_t, lle2_f, lle2_t, llt_f, llt_t, llt2_f, llt2_t, leq_f, leq_t, lz_f, lzl_t, nI_add, nI_clamp, nle_f, nle_t, nlt_f, nlt_t, neq_f, neq_t, s2, become_eq]
    · have e31' : mp (mp N 36 0 t 1) 40 0 t (-4) 31 0 t = nI 6 := by rw [mp_ne _ _ (by omega), mp_ne _ _ (by omega), e31, s2]
      simp (disch := omega) only [↓gd_b, gd_t, gd_f, ↓ob1_s, ob1_s, ↓ob2_s, ob2_s, ↓om_n, ↓om_s, om_n, om_s, ↓lt1, ↓reduceIte, or_true, true_or, or_false, false_or, and_true, true_and, and_false, false_and, not_true_eq_false, not_false_eq_true, ite_self, S2_ret, eq_self, llA, llM, llm, llS, lle_f, lle_t, lle2_f, lle2_t, llt_f, llt_t, llt2_f, llt2_t, leq_f, leq_t, lz_f, lzl_t, nI_add, nI_clamp, nle_f, nle_t, nlt_f, nlt_t, neq_f, neq_t, one_ne, show uw 6 = 1 from rfl, e31, s2, e31']
theorem pm_broken (h : RR z b n M N) (hb : b < 2147483647) (x1 : Int32) : Rw z (b + 1) n (f_yX8_broken M x1) (f_yX9_broken N x1) := by
  rcases ix6 x1 6 (by decide) with h1 | ⟨t, ht, rfl⟩
  · unfold f_yX8_broken f_yX9_broken
    rw [at_out h1, in_out (n := 6) (by decide) (by decide) h1]; exact S2.ret ⟨rfl, h.mono (by omega) (by omega)⟩
  · obtain ⟨r, M', N', q1, q2, q3, ⟨st, s1, s2, s3⟩, q5⟩ := lk_break h hb ht
    rw [q2]
    unfold f_yX8_broken
    rw [at_in ht]
    rcases uw_cases st with ⟨e, _⟩ | ⟨e, _⟩
    · simp (disch := omega) only [↓gd_b, gd_t, gd_f, ↓ob1_s, ob1_s, ↓ob2_s, ob2_s, ↓om_n, ↓om_s, om_n, om_s, ↓lt1, ↓reduceIte, or_true, true_or, or_false, false_or, and_true, true_and, and_false, false_and, not_true_eq_false, not_false_eq_true, ite_self, S2_ret, eq_self, llA, llM, llm, llS, lle_f, lle_t, lle2_f, lle2_t, llt_f, llt_t, llt2_f, llt2_t, leq_f, leq_t, lz_f, lzl_t, nI_add, nI_clamp, nle_f, nle_t, nlt_f, nlt_t, neq_f, neq_t, uwM s1 s2, e, one_ne, q1]
      exact ⟨by rw [s3, e], q3⟩
    · simp (disch := omega) only [↓gd_b, gd_t, gd_f, ↓ob1_s, ob1_s, ↓ob2_s, ob2_s, ↓om_n, ↓om_s, om_n, om_s, ↓lt1, ↓reduceIte, or_true, true_or, or_false, false_or, and_true, true_and, and_false, false_and, not_true_eq_false, not_false_eq_true, ite_self, S2_ret, eq_self, llA, llM, llm, llS, lle_f, lle_t, lle2_f, lle2_t, llt_f, llt_t, llt2_f, llt2_t, leq_f, leq_t, lz_f, lzl_t, nI_add, nI_clamp, nle_f, nle_t, nlt_f, nlt_t, neq_f, neq_t, uwM s1 s2, e]
      rw [e] at s3
      exact ⟨s3.symm, by rw [← q5 s3]; exact q3⟩
end INN
