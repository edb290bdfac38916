section NEWT
variable {z b : Nat} {n : Lg} {M N : Mem}
theorem dc_46 (x : Nat) : dc (46, x) = (7, x, 0) := rfl
theorem dc_49 (x : Nat) : dc (49, x) = (15, x / 6, x % 6) := rfl
theorem dc_50 (x : Nat) : dc (50, x) = (16, x / 6, x % 6) := rfl
theorem RR.ren {M' N' : Mem} {t p : Nat} {rk : Int32} (h : RR z b n M N) (ht : t < 6) (hp : p < 8)
    (m0 : M' 6 t 0 = 1) (m1 : M' 6 t 1 = nI p) (m2 : M' 6 t 2 = rk) (m11 : M' 6 t 11 = -4) (m12 : M' 6 t 12 = -4) (mz : ∀ k, k = 3 ∨ k = 4 ∨ k = 5 ∨ k = 7 ∨ k = 8 ∨ k = 9 ∨ k = 10 ∨ k = 15 → M' 6 t k = 0)
    (e6 : ∀ u, u ≠ t → M' 6 u = M 6 u) (e7 : ∀ u, u ≠ t → M' 7 u = M 7 u) (m7 : M' 7 t 0 = 0) (e15 : ∀ u, u ≠ t → M' 15 u = M 15 u) (m15 : ∀ r, r < 6 → M' 15 t r = 0) (e16 : ∀ u, u ≠ t → M' 16 u = M 16 u) (m16 : ∀ r, r < 6 → M' 16 t r = -4)
    (e : ∀ c, c ≠ 6 → c ≠ 7 → c ≠ 15 → c ≠ 16 → M' c = M c)
    (n31 : N' 31 0 t = 1) (n32 : N' 32 0 t = nI p) (n33 : N' 33 0 t = rk) (n39 : N' 39 0 t = -4) (n40 : N' 40 0 t = -4)
    (nz : ∀ k, k = 3 ∨ k = 4 ∨ k = 5 ∨ k = 7 ∨ k = 8 ∨ k = 9 ∨ k = 10 ∨ k = 15 → N' (tmk k) 0 t = 0) (n46 : N' 46 0 t = 0)
    (n49 : ∀ r, r < 6 → N' 49 0 (6 * t + r) = 0) (n50 : ∀ r, r < 6 → N' 50 0 (6 * t + r) = -4)
    (eN : ∀ q x, ¬ (x = t ∧ 31 ≤ q ∧ q ≤ 46) → ¬ ((q = 49 ∨ q = 50) ∧ 6 * t ≤ x ∧ x < 6 * t + 6) → N' q 0 x = N q 0 x) : RR z b n M' N' := by
  have hl : lc M' = lc M := by
    funext i
    unfold lc
    rw [e 8 (by decide) (by decide) (by decide) (by decide)]
  refine ⟨?_, ?_⟩
  · intro c i k q hq
    by_cases hc6 : c = 6
    · subst hc6
      rw [co_6] at hq
      by_cases hi : i < 6 ∧ k < 16 ∧ k ≠ 6 ∧ gc M' i k = true
      · rw [if_pos hi] at hq
        cases hq
        obtain ⟨i1, i2, i3, i4⟩ := hi
        by_cases hit : i = t
        · subst hit
          by_cases k0 : k = 0
          · subst k0; rw [m0]; exact n31.symm
          by_cases k1 : k = 1
          · subst k1; rw [m1]; exact n32.symm
          by_cases k2 : k = 2
          · subst k2; rw [m2]; exact n33.symm
          by_cases k11 : k = 11
          · subst k11; rw [m11]; exact n39.symm
          by_cases k12 : k = 12
          · subst k12; rw [m12]; exact n40.symm
          by_cases k13 : k = 13 ∨ k = 14
          · exfalso
            unfold gc at i4
            rw [if_neg (by omega), if_pos k13, m0] at i4
            exact absurd i4 (by decide)
          · rw [mz k (by omega)]
            exact (nz k (by omega)).symm
        · have hg : gc M i k = true := by
            unfold gc at i4 ⊢
            rw [e6 i hit] at i4
            exact i4
          rw [e6 i hit, eN _ _ (fun w => hit w.1) (fun w => by have := (tkm_tmk k i2 i3).2; omega)]
          exact (h.th i1 i2 i3 hg).symm
      · rw [if_neg hi] at hq; cases hq
    by_cases hc7 : c = 7
    · subst hc7
      replace hq : (if i < 6 ∧ k = 0 then some (46, i) else none) = some q := hq
      by_cases hi : i < 6 ∧ k = 0
      · rw [if_pos hi] at hq
        cases hq
        obtain ⟨i1, rfl⟩ := hi
        by_cases hit : i = t
        · subst hit; rw [m7, n46]
        · rw [e7 i hit, eN _ _ (by omega) (by omega)]
          exact (h.n46 i1).symm
      · rw [if_neg hi] at hq; cases hq
    by_cases hc15 : c = 15
    · subst hc15
      replace hq : (if i < 6 ∧ k < 6 then some (49, 6 * i + k) else none) = some q := hq
      by_cases hi : i < 6 ∧ k < 6
      · rw [if_pos hi] at hq
        cases hq
        by_cases hit : i = t
        · subst hit; rw [m15 k hi.2, n49 k hi.2]
        · rw [e15 i hit, eN _ _ (by omega) (by omega)]
          exact (h.n49 hi.1 hi.2).symm
      · rw [if_neg hi] at hq; cases hq
    by_cases hc16 : c = 16
    · subst hc16
      rw [co_16] at hq
      by_cases hi : i < 6 ∧ k < 6 ∧ gc M' i 20 = true
      · rw [if_pos hi] at hq
        cases hq
        by_cases hit : i = t
        · subst hit; rw [m16 k hi.2.1, n50 k hi.2.1]
        · rw [e16 i hit, eN _ _ (by omega) (by omega)]
          refine (h.n50 hi.1 hi.2.1 (fun w => ?_)).symm
          have := hi.2.2
          rw [show gc M' i 20 = decide (¬ M' 6 i 0 = 0) from rfl, e6 i hit] at this
          exact of_decide_eq_true this w
      · rw [if_neg hi] at hq; cases hq
    · rw [hl, co_else (gc M') (gc M) (lc M) i k hc6 hc16] at hq
      have hd := dc_co hq
      obtain ⟨p', x⟩ := q
      rw [e c hc6 hc7 hc15 hc16, eN p' x, h.1 c i k _ hq]
      · rintro ⟨_, w1, w2⟩
        by_cases w : p' = 46
        · subst w; rw [dc_46] at hd; exact hc7 (Prod.mk.inj hd).1.symm
        · rw [dc_t w1 (by omega)] at hd; exact hc6 (Prod.mk.inj hd).1.symm
      · rintro ⟨w | w, _⟩
        · subst w; rw [dc_49] at hd; exact hc15 (Prod.mk.inj hd).1.symm
        · subst w; rw [dc_50] at hd; exact hc16 (Prod.mk.inj hd).1.symm
  · obtain ⟨a1, a2, a3, a4, a5, a6, a7, a8, a9⟩ := h.2
    refine ⟨?_, ?_, ?_, ?_, ?_, ?_, ?_, ?_, ?_⟩
    · rw [e 60 (by decide) (by decide) (by decide) (by decide), e 1 (by decide) (by decide) (by decide) (by decide)]; exact a1
    · rw [e 8 (by decide) (by decide) (by decide) (by decide), e 19 (by decide) (by decide) (by decide) (by decide)]; exact a2
    · intro u hu
      by_cases hut : u = t
      · subst hut
        unfold TI
        rw [m0, m1, m11, m12, mz 3 (by decide), mz 4 (by decide), mz 5 (by decide)]
        exact ⟨⟨1, by decide, rfl⟩, fun w => absurd w (by decide), fun _ => ⟨p, hp, rfl⟩, Or.inl rfl, Or.inl rfl, ⟨0, by decide, rfl⟩, fun w => absurd w (by decide), fun w => absurd w (by decide), fun _ _ _ => rfl, fun _ _ => rfl, fun r hr => Or.inl (m16 r hr)⟩
      · rw [e6 u hut, e16 u hut]; exact a3 u hu
    · intro u hu
      by_cases hut : u = t
      · subst hut
        rw [e 17 (by decide) (by decide) (by decide) (by decide)]
        exact ⟨⟨0, by decide, by rw [m7]; rfl⟩, (a4 u hu).2⟩
      · rw [e7 u hut, e 17 (by decide) (by decide) (by decide) (by decide)]; exact a4 u hu
    · rw [e 5 (by decide) (by decide) (by decide) (by decide), e 14 (by decide) (by decide) (by decide) (by decide)]; exact a5
    · unfold CI at *; rw [e 0 (by decide) (by decide) (by decide) (by decide), e 2 (by decide) (by decide) (by decide) (by decide), e 4 (by decide) (by decide) (by decide) (by decide), e 13 (by decide) (by decide) (by decide) (by decide)]; exact a6
    · exact ⟨fun q hq => by rw [eN 30 q (by omega) (by omega)]; exact a7.1 q hq, by rw [← a7.2.1]; funext q; exact eN 52 q (by omega) (by omega), by rw [eN 20 12 (by omega) (by omega)]; exact a7.2.2.1, by rw [eN 20 7 (by omega) (by omega)]; exact a7.2.2.2.1, by rw [eN 20 8 (by omega) (by omega)]; exact a7.2.2.2.2⟩
    · unfold XI at *
      rw [e 1 (by decide) (by decide) (by decide) (by decide), eN 20 1 (by omega) (by omega)]
      rcases a8 with a8 | ⟨k, k1, k2, k3, k4⟩
      · exact Or.inl a8
      · exact Or.inr ⟨k, k1, k2, k3, fun q hq => by rw [eN 27 q (by omega) (by omega)]; exact k4 q hq⟩
    · exact SI.no a9 e6 (by rw [e 2 (by decide) (by decide) (by decide) (by decide)]) (by unfold inB; rw [m0]; decide)
theorem pm_thread (h : RR z b n M N) (x1 x2 x3 : Int32) : Rw z b n (f_yX8_thread M x1 x2 x3) (f_yX9_thread N x1 x2 x3) := by
  unfold f_yX8_thread f_yX9_thread
  rcases ix6 x1 6 (by decide) with h1 | ⟨t, ht, rfl⟩
  · rw [at_out h1, in_out (n := 6) (by decide) (by decide) h1]
    rcases ix6 x2 8 (by decide) with h2 | ⟨p, hp, rfl⟩
    · rw [pat_out h2]; exact S2.ret ⟨rfl, h⟩
    · rw [pat_in hp]; exact S2.ret ⟨rfl, h⟩
  · rw [at_in ht, in_in (n := 6) (by decide) ht (by decide)]
    rcases ix6 x2 8 (by decide) with h2 | ⟨p, hp, rfl⟩
    · rw [pat_out h2, in_out (n := 8) (by decide) (by decide) h2]; exact S2.ret ⟨rfl, h⟩
    · rw [pat_in hp, in_in (n := 8) (by decide) hp (by decide)]
      rcases ix6 x3 10 (by decide) with h3 | ⟨r, hr, rfl⟩
      · rw [in_out (n := 10) (by decide) (by decide) h3]
        by_cases h0 : x3 < 0
        · simp only [h0, one_ne, ↓gd_b, gd_t, gd_f, ↓ob1_s, ob1_s, ↓ob2_s, ob2_s, ↓om_n, ↓om_s, om_n, om_s, ↓lt1, ↓reduceIte, or_true, true_or, or_false, false_or, and_true, true_and, and_false, false_and, not_true_eq_false, not_false_eq_true, ite_self, S2_ret, eq_self]; exact h
        · have h2 : ¬ x3 ≤ 9 := fun w => by
            have h4 := h3.resolve_left h0
            rw [Int32.le_iff_toInt_le] at w h4
            exact absurd (Int.le_trans h4 w) (by decide)
          simp only [h0, h2, one_ne, ↓gd_b, gd_t, gd_f, ↓ob1_s, ob1_s, ↓ob2_s, ob2_s, ↓om_n, ↓om_s, om_n, om_s, ↓lt1, ↓reduceIte, or_true, true_or, or_false, false_or, and_true, true_and, and_false, false_and, not_true_eq_false, not_false_eq_true, ite_self, S2_ret, eq_self]; exact h
      · rw [in_in (n := 10) (by decide) hr (by decide)]
        obtain ⟨st, s1, s2⟩ := (h.ti ht).1
        rcases uw_cases st with ⟨e, _⟩ | ⟨e, _⟩
        · simp (disch := omega) only [↓gd_b, gd_t, gd_f, ↓ob1_s, ob1_s, ↓ob2_s, ob2_s, ↓om_n, ↓om_s, om_n, om_s, ↓lt1, ↓reduceIte, or_true, true_or, or_false, false_or, and_true, true_and, and_false, false_and, not_true_eq_false, not_false_eq_true, ite_self, S2_ret, eq_self, llA, llM, llm, llS, lle_f, lle_t, lle2_f, lle2_t, llt_f, llt_t, llt2_f, llt2_t, leq_f, leq_t, lz_f, lzl_t, nI_add, nI_clamp, nle_f, nle_t, nlt_f, nlt_t, neq_f, neq_t, one_ne, uwM s1 s2, uwN h ht s1 s2, e]
          exact h
        · have hb : ∀ N0 : Mem, ∃ N', f_yX9_thread_L145 70 N0 (nI t) 0 = some (1, N') ∧ (∀ r, 0 ≤ r → r < 6 → N' 49 0 (6 * t + r) = 0 ∧ N' 50 0 (6 * t + r) = -4) ∧ ∀ p x, ¬ ((p = 49 ∨ p = 50) ∧ 6 * t + 0 ≤ x ∧ x < 6 * t + 6) → N' p 0 x = N0 p 0 x := fun N0 => lk_fill ht 6 0 63 N0 (by decide)
          simp (disch := omega) only [↓gd_b, gd_t, gd_f, ↓ob1_s, ob1_s, ↓ob2_s, ob2_s, ↓om_n, ↓om_s, om_n, om_s, ↓lt1, ↓reduceIte, or_true, true_or, or_false, false_or, and_true, true_and, and_false, false_and, not_true_eq_false, not_false_eq_true, ite_self, S2_ret, eq_self, llA, llM, llm, llS, lle_f, lle_t, lle2_f, lle2_t, llt_f, llt_t, llt2_f, llt2_t, leq_f, leq_t, lz_f, lzl_t, nI_add, nI_clamp, nle_f, nle_t, nlt_f, nlt_t, neq_f, neq_t, one_ne, uwM s1 s2, uwN h ht s1 s2, e, f_yX5_renew, become_eq]
          obtain ⟨N', f1, f2, f3⟩ := hb (mp (mp (mp (mp (mp (mp (mp (mp (mp (mp (mp (mp (mp (mp N 31 0 t 1) 32 0 t (nI p)) 33 0 t (nI r)) 34 0 t 0) 35 0 t 0) 36 0 t 0) 37 0 t 0) 38 0 t 0) 39 0 t (-4)) 40 0 t (-4)) 43 0 t 0) 44 0 t 0) 45 0 t 0) 46 0 t 0)
          rw [f1]
          refine S2.ret ⟨rfl, ?_⟩
          show RR z b n _ N'
          refine h.ren (rk := nI r) ht hp ?_ ?_ ?_ ?_ ?_ ?_ ?_ ?_ ?_ ?_ ?_ ?_ ?_ ?_ ?_ ?_ ?_ ?_ ?_ ?_ ?_ ?_ ?_ ?_
          · simp [mp, rwm]
          · simp [mp, rwm]
          · simp [mp, rwm]
          · simp [mp, rwm]
          · simp [mp, rwm]
          · rintro k (rfl | rfl | rfl | rfl | rfl | rfl | rfl | rfl) <;> simp [mp, rwm]
          · intro u hu; funext k; simp [mp, rwm, hu]
          · intro u hu; funext k; simp [mp, rwm, hu]
          · simp [mp, rwm]
          · intro u hu; funext k; simp [mp, rwm, hu]
          · intro r hr; simp [mp, rwm, flw, hr]
          · intro u hu; funext k; simp [mp, rwm, hu]
          · intro r hr; simp [mp, rwm, flw, hr]
          · intro c h6 h7 h15 h16; funext i k; simp [mp, rwm, h6, h7, h15, h16]
          · rw [f3 _ _ (by omega)]; simp [mp]
          · rw [f3 _ _ (by omega)]; simp [mp]
          · rw [f3 _ _ (by omega)]; simp [mp]
          · rw [f3 _ _ (by omega)]; simp [mp]
          · rw [f3 _ _ (by omega)]; simp [mp]
          · rintro k (rfl | rfl | rfl | rfl | rfl | rfl | rfl | rfl) <;> (simp only [tmk]; rw [f3 _ _ (by omega)]; simp [mp])
          · rw [f3 _ _ (by omega)]; simp [mp]
          · exact fun r hr => (f2 r (by omega) hr).1
          · exact fun r hr => (f2 r (by omega) hr).2
          · intro q x h1 h2
            rw [f3 q x (by omega)]
            rw [mp_ne _ _ (by omega), mp_ne _ _ (by omega), mp_ne _ _ (by omega), mp_ne _ _ (by omega), mp_ne _ _ (by omega), mp_ne _ _ (by omega), mp_ne _ _ (by omega), mp_ne _ _ (by omega), mp_ne _ _ (by omega), mp_ne _ _ (by omega), mp_ne _ _ (by omega), mp_ne _ _ (by omega), mp_ne _ _ (by omega), mp_ne _ _ (by omega)]
end NEWT
