section MAK
variable {z b : Nat} {n : Lg} {M N : Mem}
theorem OI.up {z' : Nat} {r pl : Nat → Int32} (h : OI z r pl) (hz : z ≤ z') : OI z' r pl := by
  obtain ⟨l, kd, a1, a2, a3, a4, a5, a6, a7, a8⟩ := h
  exact ⟨l, kd, a1, a2, a3, a4, a5, a6, a7, fun hk j hj => (a8 hk j hj).imp id (fun ⟨x, h1, h2⟩ => ⟨x, by omega, h2⟩)⟩
theorem TI.up {z' : Nat} {r hd : Nat → Int32} (h : TI z r hd) (hz : z ≤ z') : TI z' r hd := by
  obtain ⟨a1, a2, a3, a4, a5, a6, a7, a8, a9, a10, a11⟩ := h
  exact ⟨a1, a2, a3, a4, a5, a6, fun q => let ⟨x, h1, h2⟩ := a7 q; ⟨x, by omega, h2⟩, a8, a9, a10, fun j hj => (a11 j hj).imp id (fun ⟨x, h1, h2⟩ => ⟨x, by omega, h2⟩)⟩
def pv (kd : Nat) : Int32 := if 6 ≤ kd then -4 else 0
theorem RR.mak {M' N' : Mem} {kd l : Nat} (h : RR z b n M N) (hz : z < 32) (hkd : kd ≤ 7) (hl : l ≤ 12) (hkl : kd ≤ 3 → l = 0)
    (m0 : M' 8 z 0 = nI kd) (m1 : M' 8 z 1 = 0) (m2 : M' 8 z 2 = -4) (m3 : M' 8 z 3 = 0) (m4 : M' 8 z 4 = nI l) (m19 : ∀ j, j < l → M' 19 z j = pv kd)
    (g0 : M' 60 0 0 = nI (z + 1)) (g1 : M' 60 0 1 = nI (z + 1)) (sz : M' 1 0 0 = nI (z + 1)) (wk : M' 1 0 1 = M 1 0 1)
    (e8 : ∀ u, u ≠ z → M' 8 u = M 8 u) (e19 : ∀ u, u ≠ z → M' 19 u = M 19 u) (e : ∀ c, c ≠ 1 → c ≠ 8 → c ≠ 19 → c ≠ 60 → M' c = M c)
    (n21 : N' 21 0 z = nI kd) (n22 : N' 22 0 z = 0) (n23 : N' 23 0 z = nI l) (n25 : N' 25 0 z = -4) (n26 : N' 26 0 z = 0) (n24 : ∀ j, j < 12 → N' 24 0 (12 * z + j) = pv kd) (n20 : N' 20 0 0 = nI (z + 1))
    (eN : ∀ q x, ¬ (x = z ∧ (q = 21 ∨ q = 22 ∨ q = 23 ∨ q = 25 ∨ q = 26)) → ¬ (q = 24 ∧ 12 * z ≤ x ∧ x < 12 * z + 12) → ¬ (q = 20 ∧ x = 0) → N' q 0 x = N q 0 x) : RR (z + 1) b n M' N' := by
  have hg : gc M' = gc M := by
    funext t k
    unfold gc
    rw [e 6 (by decide) (by decide) (by decide) (by decide)]
  refine ⟨?_, ?_⟩
  · intro c i k q hq
    rw [hg] at hq
    by_cases hc8 : c = 8
    · subst hc8
      replace hq : (if i < 32 then (tg8 k).map (fun p => (p, i)) else none) = some q := hq
      by_cases hi : i < 32
      · rw [if_pos hi] at hq
        by_cases hiz : i = z
        · subst hiz
          unfold tg8 at hq
          split at hq <;> cases hq
          · rw [m0]; exact n21.symm
          · rw [m1]; exact n22.symm
          · rw [m2]; exact n25.symm
          · rw [m3]; exact n26.symm
          · rw [m4]; exact n23.symm
        · have hq2 : co (gc M) (lc M) 8 i k = some q := by
            show (if i < 32 then (tg8 k).map (fun p => (p, i)) else none) = some q
            rw [if_pos hi]; exact hq
          rw [e8 i hiz, h.1 8 i k q hq2]
          have hd := dc_co hq2
          obtain ⟨p, x⟩ := q
          have hx : x = i ∧ 21 ≤ p ∧ p ≤ 26 ∧ p ≠ 24 := by
            unfold tg8 at hq
            split at hq <;> cases hq <;> simp
          exact (eN p x (by omega) (by omega) (by omega)).symm
      · rw [if_neg hi] at hq; cases hq
    by_cases hc19 : c = 19
    · subst hc19
      replace hq : (if i < 32 ∧ k < 12 ∧ k < lc M' i then some (24, 12 * i + k) else none) = some q := hq
      by_cases hi : i < 32 ∧ k < 12 ∧ k < lc M' i
      · rw [if_pos hi] at hq
        cases hq
        obtain ⟨i1, i2, i3⟩ := hi
        by_cases hiz : i = z
        · subst hiz
          unfold lc at i3
          rw [m4, nI_clamp (by omega)] at i3
          rw [m19 k i3]; exact (n24 k i2).symm
        · have hlc : lc M' i = lc M i := by unfold lc; rw [e8 i hiz]
          rw [e19 i hiz]
          rw [eN 24 (12 * i + k) (by omega) (by omega) (by omega)]
          exact h.1 19 i k (24, 12 * i + k) (show (if i < 32 ∧ k < 12 ∧ k < lc M i then some (24, 12 * i + k) else none) = _ by rw [if_pos ⟨i1, i2, by omega⟩])
      · rw [if_neg hi] at hq; cases hq
    by_cases hc1 : c = 1
    · subst hc1
      replace hq : (if i = 0 then (c20 1 k).map (fun x => (20, x)) else none) = some q := hq
      by_cases hi : i = 0
      · rw [if_pos hi] at hq
        subst hi
        by_cases hk : k = 0
        · subst hk
          cases hq
          rw [sz]; exact n20.symm
        · have hn : c20 1 k = none := by unfold c20; simp [hk]
          rw [hn] at hq; cases hq
      · rw [if_neg hi] at hq; cases hq
    by_cases hc60 : c = 60
    · subst hc60
      replace hq : (if i = 0 then (c20 60 k).map (fun x => (20, x)) else none) = some q := hq
      split at hq <;> cases hq
    · have hq2 : co (gc M) (lc M) c i k = some q := by
        have hco : co (gc M) (lc M') c i k = co (gc M) (lc M) c i k := by
          unfold co
          split <;> first | rfl | (exact absurd rfl hc19)
        rw [← hco]; exact hq
      have hd := dc_co hq2
      obtain ⟨p, x⟩ := q
      rw [e c hc1 hc8 hc19 hc60, h.1 c i k _ hq2]
      refine (eN p x ?_ ?_ ?_).symm
      · rintro ⟨_, w | w | w | w | w⟩ <;> subst w <;> exact hc8 (Prod.mk.inj hd).1.symm
      · rintro ⟨w, _⟩
        subst w; exact hc19 (Prod.mk.inj hd).1.symm
      · rintro ⟨w1, w2⟩
        subst w1 w2; exact hc1 (Prod.mk.inj hd).1.symm
  · obtain ⟨a1, a2, a3, a4, a5, a6, a7, a8, a9⟩ := h.2
    refine ⟨⟨by omega, g1, g0, sz⟩, ?_, ?_, ?_, ?_, ?_, ?_, ?_, ?_⟩
    · intro u hu
      by_cases huz : u = z
      · subst huz
        refine ⟨l, kd, hl, m4, Or.inl m2, hkd, m0, hkl, fun _ => m1, fun hk j hj => Or.inl ?_⟩
        rw [m19 j hj]; exact if_pos hk
      · rw [e8 u huz, e19 u huz]; exact (a2 u (by omega)).up (by omega)
    · intro u hu
      rw [e 6 (by decide) (by decide) (by decide) (by decide), e 16 (by decide) (by decide) (by decide) (by decide)]; exact (a3 u hu).up (by omega)
    · rw [e 7 (by decide) (by decide) (by decide) (by decide), e 17 (by decide) (by decide) (by decide) (by decide)]; exact a4
    · rw [e 5 (by decide) (by decide) (by decide) (by decide), e 14 (by decide) (by decide) (by decide) (by decide)]; exact a5
    · unfold CI at *; rw [e 0 (by decide) (by decide) (by decide) (by decide), e 2 (by decide) (by decide) (by decide) (by decide), e 4 (by decide) (by decide) (by decide) (by decide), e 13 (by decide) (by decide) (by decide) (by decide)]; exact a6
    · exact ⟨fun q hq => by rw [eN 30 q (by omega) (by omega) (by omega)]; exact a7.1 q hq, by rw [← a7.2.1]; funext q; exact eN 52 q (by omega) (by omega) (by omega), by rw [eN 20 12 (by omega) (by omega) (by omega)]; exact a7.2.2.1, by rw [eN 20 7 (by omega) (by omega) (by omega)]; exact a7.2.2.2.1, by rw [eN 20 8 (by omega) (by omega) (by omega)]; exact a7.2.2.2.2⟩
    · unfold XI at *
      rw [wk, eN 20 1 (by omega) (by omega) (by omega)]
      rcases a8 with a8 | ⟨k, k1, k2, k3, k4⟩
      · exact Or.inl a8
      · exact Or.inr ⟨k, k1, k2, k3, fun q hq => by rw [eN 27 q (by omega) (by omega) (by omega)]; exact k4 q hq⟩
    · unfold SI inB at *; rw [e 2 (by decide) (by decide) (by decide) (by decide), e 6 (by decide) (by decide) (by decide) (by decide)]; exact a9
theorem lk_cells {kd : Nat} (hkd : kd ≤ 7) (hz : z < 32) : ∀ d k m (N0 : Mem), k + d = 12 → ∃ N1, f_yX9_make_L53 (m + d + 1) N0 (nI kd) (nI z) (nI k) = some (nI z, mp N1 20 0 0 (N0 20 0 0 + 1)) ∧ (∀ j, k ≤ j → j < 12 → N1 24 0 (12 * z + j) = pv kd) ∧ ∀ p x, ¬ (p = 24 ∧ 12 * z + k ≤ x ∧ x < 12 * z + 12) → N1 p 0 x = N0 p 0 x := by
  intro d
  induction d with
  | zero =>
    intro k m N0 hk
    obtain rfl : k = 12 := by omega
    refine ⟨N0, ?_, fun j h1 h2 => by omega, fun _ _ _ => rfl⟩
    rw [f_yX9_make_L53]
    simp (disch := omega) only [↓gd_b, gd_t, gd_f, ↓ob1_s, ob1_s, ↓ob2_s, ob2_s, ↓om_n, ↓om_s, om_n, om_s, ↓lt1, ↓reduceIte, or_true, true_or, or_false, false_or, and_true, true_and, and_false, false_and, not_true_eq_false, not_false_eq_true, ite_self, S2_ret, eq_self, llA, llM, llm, llS, lle_f, lle_t, lle2_f, lle2_t, llt_f, llt_t, llt2_f, llt2_t, leq_f, leq_t, lz_f, lzl_t, nI_add, nI_clamp, nle_f, nle_t, nlt_f, nlt_t, neq_f, neq_t]
  | succ d ih =>
    intro k m N0 hk
    obtain ⟨N1, e1, e2, e3⟩ := ih (k + 1) m (mp N0 24 0 (12 * z + k) (pv kd)) (by omega)
    refine ⟨N1, ?_, ?_, ?_⟩
    · rw [mp_ne _ _ (by omega)] at e1
      rw [f_yX9_make_L53, ← e1]
      unfold pv
      by_cases h6 : 6 ≤ kd
      · simp (disch := omega) only [↓gd_b, gd_t, gd_f, ↓ob1_s, ob1_s, ↓ob2_s, ob2_s, ↓om_n, ↓om_s, om_n, om_s, ↓lt1, ↓reduceIte, or_true, true_or, or_false, false_or, and_true, true_and, and_false, false_and, not_true_eq_false, not_false_eq_true, ite_self, S2_ret, eq_self, llA, llM, llm, llS, lle_f, lle_t, lle2_f, lle2_t, llt_f, llt_t, llt2_f, llt2_t, leq_f, leq_t, lz_f, lzl_t, nI_add, nI_clamp, nle_f, nle_t, nlt_f, nlt_t, neq_f, neq_t, h6]
        rfl
      · simp (disch := omega) only [↓gd_b, gd_t, gd_f, ↓ob1_s, ob1_s, ↓ob2_s, ob2_s, ↓om_n, ↓om_s, om_n, om_s, ↓lt1, ↓reduceIte, or_true, true_or, or_false, false_or, and_true, true_and, and_false, false_and, not_true_eq_false, not_false_eq_true, ite_self, S2_ret, eq_self, llA, llM, llm, llS, lle_f, lle_t, lle2_f, lle2_t, llt_f, llt_t, llt2_f, llt2_t, leq_f, leq_t, lz_f, lzl_t, nI_add, nI_clamp, nle_f, nle_t, nlt_f, nlt_t, neq_f, neq_t, h6]
        rfl
    · intro j h1 h2
      by_cases e : j = k
      · subst e
        rw [e3 _ _ (by omega), mp_eq]
      · exact e2 j (by omega) h2
    · intro p x hp
      rw [e3 p x (by omega), mp_ne _ _ (by omega)]
theorem full_no (h : RR z b n M N) (hz : z < 32) : f_yX4_isFull M = some 0 := by
  unfold f_yX4_isFull
  rw [h.sz]
  simp (disch := omega) only [↓gd_b, gd_t, gd_f, ↓ob1_s, ob1_s, ↓ob2_s, ob2_s, ↓om_n, ↓om_s, om_n, om_s, ↓lt1, ↓reduceIte, or_true, true_or, or_false, false_or, and_true, true_and, and_false, false_and, not_true_eq_false, not_false_eq_true, ite_self, S2_ret, eq_self, llA, llM, llm, llS, lle_f, lle_t, lle2_f, lle2_t, llt_f, llt_t, llt2_f, llt2_t, leq_f, leq_t, lz_f, lzl_t, nI_add, nI_clamp, nle_f, nle_t, nlt_f, nlt_t, neq_f, neq_t]
theorem full_yes (h : RR z b n M N) (hz : z = 32) : f_yX4_isFull M = some 1 := by
  unfold f_yX4_isFull
  rw [h.sz]
  simp (disch := omega) only [↓gd_b, gd_t, gd_f, ↓ob1_s, ob1_s, ↓ob2_s, ob2_s, ↓om_n, ↓om_s, om_n, om_s, ↓lt1, ↓reduceIte, or_true, true_or, or_false, false_or, and_true, true_and, and_false, false_and, not_true_eq_false, not_false_eq_true, ite_self, S2_ret, eq_self, llA, llM, llm, llS, lle_f, lle_t, lle2_f, lle2_t, llt_f, llt_t, llt2_f, llt2_t, leq_f, leq_t, lz_f, lzl_t, nI_add, nI_clamp, nle_f, nle_t, nlt_f, nlt_t, neq_f, neq_t]
/-- what the second memory's make gives -/
theorem makN (h : RR z b n M N) (hz : z < 32) {kd l : Nat} (hkd : kd ≤ 7) (x2 : Int32) (hx : (kd ≤ 3 ∧ l = 0) ∨ (3 < kd ∧ x2 = nI l)) :
    ∃ N', f_yX9_make N (nI kd) x2 = some (nI z, N') ∧ N' 21 0 z = nI kd ∧ N' 22 0 z = 0 ∧ N' 23 0 z = nI l ∧ N' 25 0 z = -4 ∧ N' 26 0 z = 0 ∧ (∀ j, j < 12 → N' 24 0 (12 * z + j) = pv kd) ∧ N' 20 0 0 = nI (z + 1) ∧
      ∀ q x, ¬ (x = z ∧ (q = 21 ∨ q = 22 ∨ q = 23 ∨ q = 25 ∨ q = 26)) → ¬ (q = 24 ∧ 12 * z ≤ x ∧ x < 12 * z + 12) → ¬ (q = 20 ∧ x = 0) → N' q 0 x = N q 0 x := by
  have hb : ∀ N0 : Mem, ∃ N1, f_yX9_make_L53 70 N0 (nI kd) (nI z) 0 = some (nI z, mp N1 20 0 0 (N0 20 0 0 + 1)) ∧ (∀ j, 0 ≤ j → j < 12 → N1 24 0 (12 * z + j) = pv kd) ∧ ∀ p x, ¬ (p = 24 ∧ 12 * z + 0 ≤ x ∧ x < 12 * z + 12) → N1 p 0 x = N0 p 0 x := fun N0 => lk_cells hkd hz 12 0 57 N0 (by decide)
  obtain ⟨N1, f1, f2, f3⟩ := hb (mp (mp (mp (mp (mp N 21 0 z (nI kd)) 22 0 z 0) 23 0 z (nI l)) 25 0 z (-4)) 26 0 z 0)
  have e20 : (mp (mp (mp (mp (mp N 21 0 z (nI kd)) 22 0 z 0) 23 0 z (nI l)) 25 0 z (-4)) 26 0 z 0) 20 0 0 = nI z := by simp [mp, h.nsz, h.sz]
  rw [e20] at f1
  refine ⟨mp N1 20 0 0 (nI z + 1), ?_, ?_, ?_, ?_, ?_, ?_, ?_, ?_, ?_⟩
  · rw [← f1]
    unfold f_yX9_make
    rcases hx with ⟨h1, rfl⟩ | ⟨h1, rfl⟩
    · simp (disch := omega) only [↓gd_b, gd_t, gd_f, ↓ob1_s, ob1_s, ↓ob2_s, ob2_s, ↓om_n, ↓om_s, om_n, om_s, ↓lt1, ↓reduceIte, or_true, true_or, or_false, false_or, and_true, true_and, and_false, false_and, not_true_eq_false, not_false_eq_true, ite_self, S2_ret, eq_self, llA, llM, llm, llS, lle_f, lle_t, lle2_f, lle2_t, llt_f, llt_t, llt2_f, llt2_t, leq_f, leq_t, lz_f, lzl_t, nI_add, nI_clamp, nle_f, nle_t, nlt_f, nlt_t, neq_f, neq_t, h.nsz, h.sz]
      rfl
    · simp (disch := omega) only [↓gd_b, gd_t, gd_f, ↓ob1_s, ob1_s, ↓ob2_s, ob2_s, ↓om_n, ↓om_s, om_n, om_s, ↓lt1, ↓reduceIte, or_true, true_or, or_false, false_or, and_true, true_and, and_false, false_and, not_true_eq_false, not_false_eq_true, ite_self, S2_ret, eq_self, llA, llM, llm, llS, lle_f, lle_t, lle2_f, lle2_t, llt_f, llt_t, llt2_f, llt2_t, leq_f, leq_t, lz_f, lzl_t, nI_add, nI_clamp, nle_f, nle_t, nlt_f, nlt_t, neq_f, neq_t, h.nsz, h.sz]
  · rw [mp_ne _ _ (by omega), f3 _ _ (by omega)]; simp [mp]
  · rw [mp_ne _ _ (by omega), f3 _ _ (by omega)]; simp [mp]
  · rw [mp_ne _ _ (by omega), f3 _ _ (by omega)]; simp [mp]
  · rw [mp_ne _ _ (by omega), f3 _ _ (by omega)]; simp [mp]
  · rw [mp_ne _ _ (by omega), f3 _ _ (by omega)]; simp [mp]
  · intro j hj
    rw [mp_ne _ _ (by omega)]; exact f2 j (by omega) hj
  · rw [mp_eq, nI_1]
  · intro q x h1 h2 h3
    rw [mp_ne _ _ (by omega), f3 q x (by omega), mp_ne _ _ (by omega), mp_ne _ _ (by omega), mp_ne _ _ (by omega), mp_ne _ _ (by omega), mp_ne _ _ (by omega)]
theorem lk_make (h : RR z b n M N) (hz : z < 32) {kd l : Nat} (hkd : kd ≤ 7) (hl : l ≤ 12) (x2 : Int32) (hx : (kd ≤ 3 ∧ l = 0) ∨ (3 < kd ∧ x2 = nI l)) :
    S2 (f_yX4_make M (nI kd) (nI l)) (f_yX9_make N (nI kd) x2) (fun x y => x.1 = nI z ∧ y.1 = nI z ∧ RR (z + 1) b n x.2 y.2 ∧ ∀ t k, x.2 6 t k = M 6 t k) := by
  obtain ⟨N', n0, n1, n2, n3, n4, n5, n6, n7, n8⟩ := makN h hz hkd x2 hx
  rw [n0]
  unfold f_yX4_make
  rw [full_no h hz]
  have hg1 : gro M (nI kd) (nI l) 1 0 0 = nI z := by simp [gro, h.sz]
  have hg0 : gro M (nI kd) (nI l) 60 0 0 = nI z := by simp [gro, h.g0]
  have hg2 : gro M (nI kd) (nI l) 60 0 1 = nI (z + 1) := by simp [gro, h.g1]; rw [nI_clamp (by omega)]
  have ez : (M 60 0 1).toNatClampNeg = z := by rw [h.g1, nI_clamp (by omega)]
  have hk0 : gro M (nI kd) (nI l) 8 z 0 = nI kd := by simp [gro, ez]
  have hk4 : gro M (nI kd) (nI l) 8 z 4 = nI l := by simp [gro, ez]
  have hcond : (¬ nI l < 0 ∧ nI l ≤ 12 ∧ (M 60 0 1).toNatClampNeg < 32 ∧ M 1 0 0 = nI (M 60 0 1).toNatClampNeg ∧ (M 60 0 0).toNatClampNeg ≤ (M 60 0 1).toNatClampNeg) := by
    refine ⟨nI_pos (by omega), nI_le (b := 12) hl (by decide), by omega, by rw [ez, h.sz], ?_⟩
    rw [ez, h.g0, nI_clamp (by omega)]; exact Nat.le_refl z
  by_cases h6 : 6 ≤ kd
  · have er : f_yX7_isRowOfThings (gro M (nI kd) (nI l)) z = some 1 := by
      unfold f_yX7_isRowOfThings
      rw [hk0]
      rcases (by omega : kd = 6 ∨ kd = 7) with rfl | rfl <;> simp (disch := omega) only [↓gd_b, gd_t, gd_f, ↓ob1_s, ob1_s, ↓ob2_s, ob2_s, ↓om_n, ↓om_s, om_n, om_s, ↓lt1, ↓reduceIte, or_true, true_or, or_false, false_or, and_true, true_and, and_false, false_and, not_true_eq_false, not_false_eq_true, ite_self, S2_ret, eq_self, llA, llM, llm, llS, lle_f, lle_t, lle2_f, lle2_t, llt_f, llt_t, llt2_f, llt2_t, leq_f, leq_t, lz_f, lzl_t, nI_add, nI_clamp, nle_f, nle_t, nlt_f, nlt_t, neq_f, neq_t]
    have c2 : (rwm (gro M (nI kd) (nI l)) 19 z (flw (gro M (nI kd) (nI l) 19 z) l (-4))) 1 0 0 = nI z := by rw [rwm_ne _ _ (by omega), hg1]
    have c3 : (rwm (gro M (nI kd) (nI l)) 19 z (flw (gro M (nI kd) (nI l) 19 z) l (-4))) 60 0 0 = nI z := by rw [rwm_ne _ _ (by omega), hg0]
    have c4 : (rwm (gro M (nI kd) (nI l)) 19 z (flw (gro M (nI kd) (nI l) 19 z) l (-4))) 60 0 1 = nI (z + 1) := by rw [rwm_ne _ _ (by omega), hg2]
    rw [ob1_s, if_pos rfl, if_neg hcond.1, if_pos hcond.2.1, gd_pos _ hcond, ez]
    simp (disch := omega) only [↓gd_b, gd_t, gd_f, ↓ob1_s, ob1_s, ↓ob2_s, ob2_s, ↓om_n, ↓om_s, om_n, om_s, ↓lt1, ↓reduceIte, or_true, true_or, or_false, false_or, and_true, true_and, and_false, false_and, not_true_eq_false, not_false_eq_true, ite_self, S2_ret, eq_self, llA, llM, llm, llS, lle_f, lle_t, lle2_f, lle2_t, llt_f, llt_t, llt2_f, llt2_t, leq_f, leq_t, lz_f, lzl_t, nI_add, nI_clamp, nle_f, nle_t, nlt_f, nlt_t, neq_f, neq_t, er, one_ne, hk4, c2, c3, c4]
    refine ⟨h.mak hz hkd hl (by omega) ?_ ?_ ?_ ?_ ?_ ?_ ?_ ?_ ?_ ?_ ?_ ?_ ?_ n1 n2 n3 n4 n5 n6 n7 n8, ?_⟩
    · simp [mp, rwm, gro, ez]
    · simp [mp, rwm, gro, ez]
    · simp [mp, rwm, gro, ez]
    · simp [mp, rwm, gro, ez]
    · simp [mp, rwm, gro, ez]
    · intro j hj; simp [mp, rwm, flw, hj, pv, h6]
    · simp [mp]
    · rw [mp_ne _ _ (by omega), mp_ne _ _ (by omega), c4]
    · rw [mp_eq, mp_ne _ _ (by omega), c2, nI_1]
    · rw [mp_ne _ _ (by omega), mp_ne _ _ (by omega), rwm_ne _ _ (by omega)]; simp [gro]
    · intro u hu; funext k; simp [mp, rwm, gro, hu, ez]
    · intro u hu; funext k; simp [mp, rwm, gro, hu, ez]
    · intro c h1 h8 h19 h60; funext i k; simp [mp, rwm, gro, h1, h8, h19, h60]
    · intro t k; simp [mp, rwm, gro]
  · have er : f_yX7_isRowOfThings (gro M (nI kd) (nI l)) z = some 0 := by
      unfold f_yX7_isRowOfThings
      rw [hk0]
      simp (disch := omega) only [↓gd_b, gd_t, gd_f, ↓ob1_s, ob1_s, ↓ob2_s, ob2_s, ↓om_n, ↓om_s, om_n, om_s, ↓lt1, ↓reduceIte, or_true, true_or, or_false, false_or, and_true, true_and, and_false, false_and, not_true_eq_false, not_false_eq_true, ite_self, S2_ret, eq_self, llA, llM, llm, llS, lle_f, lle_t, lle2_f, lle2_t, llt_f, llt_t, llt2_f, llt2_t, leq_f, leq_t, lz_f, lzl_t, nI_add, nI_clamp, nle_f, nle_t, nlt_f, nlt_t, neq_f, neq_t]
    rw [ob1_s, if_pos rfl, if_neg hcond.1, if_pos hcond.2.1, gd_pos _ hcond, ez]
    simp (disch := omega) only [↓gd_b, gd_t, gd_f, ↓ob1_s, ob1_s, ↓ob2_s, ob2_s, ↓om_n, ↓om_s, om_n, om_s, ↓lt1, ↓reduceIte, or_true, true_or, or_false, false_or, and_true, true_and, and_false, false_and, not_true_eq_false, not_false_eq_true, ite_self, S2_ret, eq_self, llA, llM, llm, llS, lle_f, lle_t, lle2_f, lle2_t, llt_f, llt_t, llt2_f, llt2_t, leq_f, leq_t, lz_f, lzl_t, nI_add, nI_clamp, nle_f, nle_t, nlt_f, nlt_t, neq_f, neq_t, er, one_ne, hg0, hg1, hg2]
    refine ⟨h.mak hz hkd hl (by omega) ?_ ?_ ?_ ?_ ?_ ?_ ?_ ?_ ?_ ?_ ?_ ?_ ?_ n1 n2 n3 n4 n5 n6 n7 n8, ?_⟩
    · simp [mp, gro, ez]
    · simp [mp, gro, ez]
    · simp [mp, gro, ez]
    · simp [mp, gro, ez]
    · simp [mp, gro, ez]
    · intro j hj; simp [mp, gro, ez, pv, h6]
    · simp [mp]
    · rw [mp_ne _ _ (by omega), mp_ne _ _ (by omega), hg2]
    · rw [mp_eq, mp_ne _ _ (by omega), hg1, nI_1]
    · rw [mp_ne _ _ (by omega), mp_ne _ _ (by omega)]; simp [gro]
    · intro u hu; funext k; simp [mp, gro, hu, ez]
    · intro u hu; funext k; simp [mp, gro, hu, ez]
    · intro c h1 h8 h19 h60; funext i k; simp [mp, gro, h1, h8, h19, h60]
    · intro t k; simp [mp, gro]
abbrev Rx (b : Nat) (n : Lg) (a c : Option (Int32 × Mem)) : Prop := S2 a c (fun x y => x.1 = y.1 ∧ ∃ z, RR z b n x.2 y.2)
theorem Rw.x {a c : Option (Int32 × Mem)} (h : Rw z b n a c) : Rx b n a c := S2.mono h (fun x y hq => ⟨hq.1, z, hq.2⟩)
theorem pm_thing (h : RR z b n M N) (x1 x2 : Int32) : Rx b n (f_yX8_thing M x1 x2) (f_yX9_thing N x1 x2) := by
  have h32 := h.z32
  unfold f_yX8_thing f_yX9_thing
  rcases ix6 x1 8 (by decide) with h1 | ⟨kd, hkd, rfl⟩
  · rw [in_out (n := 8) (by decide) (by decide) h1]
    by_cases h0 : x1 < 0
    · simp only [h0, ↓gd_b, gd_t, gd_f, ↓ob1_s, ob1_s, ↓ob2_s, ob2_s, ↓om_n, ↓om_s, om_n, om_s, ↓lt1, ↓reduceIte, or_true, true_or, or_false, false_or, and_true, true_and, and_false, false_and, not_true_eq_false, not_false_eq_true, ite_self, S2_ret, eq_self]; exact ⟨z, h⟩
    · have h2 : ¬ x1 ≤ 7 := fun w => by
        have h4 := h1.resolve_left h0
        rw [Int32.le_iff_toInt_le] at w h4
        exact absurd (Int.le_trans h4 w) (by decide)
      simp only [h0, h2, ↓gd_b, gd_t, gd_f, ↓ob1_s, ob1_s, ↓ob2_s, ob2_s, ↓om_n, ↓om_s, om_n, om_s, ↓lt1, ↓reduceIte, or_true, true_or, or_false, false_or, and_true, true_and, and_false, false_and, not_true_eq_false, not_false_eq_true, ite_self, S2_ret, eq_self]; exact ⟨z, h⟩
  · rw [in_in (n := 8) (by decide) hkd (by decide)]
    by_cases hk : kd ≤ 3
    · by_cases hz : z = 32
      · simp (disch := omega) only [↓gd_b, gd_t, gd_f, ↓ob1_s, ob1_s, ↓ob2_s, ob2_s, ↓om_n, ↓om_s, om_n, om_s, ↓lt1, ↓reduceIte, or_true, true_or, or_false, false_or, and_true, true_and, and_false, false_and, not_true_eq_false, not_false_eq_true, ite_self, S2_ret, eq_self, llA, llM, llm, llS, lle_f, lle_t, lle2_f, lle2_t, llt_f, llt_t, llt2_f, llt2_t, leq_f, leq_t, lz_f, lzl_t, nI_add, nI_clamp, nle_f, nle_t, nlt_f, nlt_t, neq_f, neq_t, one_ne, full_yes h hz, h.nsz, h.sz]
        exact ⟨z, h⟩
      · simp (disch := omega) only [↓gd_b, gd_t, gd_f, ↓ob1_s, ob1_s, ↓ob2_s, ob2_s, ↓om_n, ↓om_s, om_n, om_s, ↓lt1, ↓reduceIte, or_true, true_or, or_false, false_or, and_true, true_and, and_false, false_and, not_true_eq_false, not_false_eq_true, ite_self, S2_ret, eq_self, llA, llM, llm, llS, lle_f, lle_t, lle2_f, lle2_t, llt_f, llt_t, llt2_f, llt2_t, leq_f, leq_t, lz_f, lzl_t, nI_add, nI_clamp, nle_f, nle_t, nlt_f, nlt_t, neq_f, neq_t, one_ne, full_no h (by omega), h.nsz, h.sz]
        exact (lk_make (l := 0) h (by omega) (by omega) (by decide) x2 (Or.inl ⟨hk, rfl⟩)).b22 (fun x m y k hq => S2.ret ⟨hq.1.trans hq.2.1.symm, z + 1, hq.2.2.1⟩)
    · rcases ix6 x2 13 (by decide) with h2 | ⟨l, hl, rfl⟩
      · rw [in_out (n := 13) (by decide) (by decide) h2]
        by_cases h0 : x2 < 0
        · simp (disch := omega) only [↓gd_b, gd_t, gd_f, ↓ob1_s, ob1_s, ↓ob2_s, ob2_s, ↓om_n, ↓om_s, om_n, om_s, ↓lt1, ↓reduceIte, or_true, true_or, or_false, false_or, and_true, true_and, and_false, false_and, not_true_eq_false, not_false_eq_true, ite_self, S2_ret, eq_self, llA, llM, llm, llS, lle_f, lle_t, lle2_f, lle2_t, llt_f, llt_t, llt2_f, llt2_t, leq_f, leq_t, lz_f, lzl_t, nI_add, nI_clamp, nle_f, nle_t, nlt_f, nlt_t, neq_f, neq_t, one_ne, h0]; exact ⟨z, h⟩
        · have h3 : ¬ x2 ≤ 12 := fun w => by
            have h4 := h2.resolve_left h0
            rw [Int32.le_iff_toInt_le] at w h4
            exact absurd (Int.le_trans h4 w) (by decide)
          simp (disch := omega) only [↓gd_b, gd_t, gd_f, ↓ob1_s, ob1_s, ↓ob2_s, ob2_s, ↓om_n, ↓om_s, om_n, om_s, ↓lt1, ↓reduceIte, or_true, true_or, or_false, false_or, and_true, true_and, and_false, false_and, not_true_eq_false, not_false_eq_true, ite_self, S2_ret, eq_self, llA, llM, llm, llS, lle_f, lle_t, lle2_f, lle2_t, llt_f, llt_t, llt2_f, llt2_t, leq_f, leq_t, lz_f, lzl_t, nI_add, nI_clamp, nle_f, nle_t, nlt_f, nlt_t, neq_f, neq_t, one_ne, h0, h3]; exact ⟨z, h⟩
      · rw [in_in (n := 13) (by decide) hl (by decide)]
        by_cases hz : z = 32
        · simp (disch := omega) only [↓gd_b, gd_t, gd_f, ↓ob1_s, ob1_s, ↓ob2_s, ob2_s, ↓om_n, ↓om_s, om_n, om_s, ↓lt1, ↓reduceIte, or_true, true_or, or_false, false_or, and_true, true_and, and_false, false_and, not_true_eq_false, not_false_eq_true, ite_self, S2_ret, eq_self, llA, llM, llm, llS, lle_f, lle_t, lle2_f, lle2_t, llt_f, llt_t, llt2_f, llt2_t, leq_f, leq_t, lz_f, lzl_t, nI_add, nI_clamp, nle_f, nle_t, nlt_f, nlt_t, neq_f, neq_t, one_ne, full_yes h hz, h.nsz, h.sz]
          exact ⟨z, h⟩
        · simp (disch := omega) only [↓gd_b, gd_t, gd_f, ↓ob1_s, ob1_s, ↓ob2_s, ob2_s, ↓om_n, ↓om_s, om_n, om_s, ↓lt1, ↓reduceIte, or_true, true_or, or_false, false_or, and_true, true_and, and_false, false_and, not_true_eq_false, not_false_eq_true, ite_self, S2_ret, eq_self, llA, llM, llm, llS, lle_f, lle_t, lle2_f, lle2_t, llt_f, llt_t, llt2_f, llt2_t, leq_f, leq_t, lz_f, lzl_t, nI_add, nI_clamp, nle_f, nle_t, nlt_f, nlt_t, neq_f, neq_t, one_ne, full_no h (by omega), h.nsz, h.sz]
          exact (lk_make (l := l) h (by omega) (by omega) (by omega) (nI l) (Or.inr ⟨by omega, rfl⟩)).b22 (fun x m y k hq => S2.ret ⟨hq.1.trans hq.2.1.symm, z + 1, hq.2.2.1⟩)
end MAK
