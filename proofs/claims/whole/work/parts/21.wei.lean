section WEI
variable {z b : Nat} {n : Lg} {M N : Mem}
theorem R0.nx {g : Gd} {ln : Nat → Nat} {N' : Mem} (h : R0 g ln M N) (e : ∀ p x, p ≠ 27 → ¬ (p = 20 ∧ x = 1) → N' p 0 x = N p 0 x) : R0 g ln M N' := by
  intro c i k q hq
  have hd := dc_co hq
  obtain ⟨p, x⟩ := q
  rw [e p x, h c i k _ hq]
  · rintro rfl
    have h1 := Prod.mk.inj (show ((6, x, 0) : Nat × Nat × Nat) = (c, i, k) from hd)
    have h2 := Prod.mk.inj h1.2
    obtain ⟨rfl, rfl, rfl⟩ := (⟨h1.1, h2.1, h2.2⟩ : 6 = c ∧ x = i ∧ 0 = k)
    rw [co_6] at hq
    split at hq
    · have := (Prod.mk.inj (Option.some.inj hq)).1
      exact absurd this (by decide)
    · cases hq
  · rintro ⟨rfl, rfl⟩
    have h1 := Prod.mk.inj (show ((99, 0, 0) : Nat × Nat × Nat) = (c, i, k) from hd)
    have h2 := Prod.mk.inj h1.2
    obtain ⟨rfl, rfl, rfl⟩ := (⟨h1.1, h2.1, h2.2⟩ : 99 = c ∧ 0 = i ∧ 0 = k)
    cases (show (none : Option (Nat × Nat)) = some (20, 1) from hq)
theorem RR.wgh {N' : Mem} {k : Nat} (h : RR z b n M N) (hk : k ≤ 7) (e : ∀ p x, p ≠ 27 → ¬ (p = 20 ∧ x = 1) → N' p 0 x = N p 0 x) (e1 : N' 20 0 1 = nI (sl (bk k))) (e2 : ∀ q, q < sl (bk k) → N' 27 0 q = sc (bk k) q) : RR z b n (mp M 1 0 1 (nI k)) N' := by
  refine ⟨?_, ?_⟩
  · rw [gc_mp _ (by decide), lc_mp _ (by decide)]
    exact (h.1.left rfl _).nx e
  · obtain ⟨a1, a2, a3, a4, a5, a6, a7, a8, a9⟩ := h.2
    refine ⟨?_, ?_, ?_, ?_, ?_, ?_, ?_, ?_, ?_⟩
    · rw [mp_pool M (c' := 60) _ (by decide), mp_ne M _ (k' := 0) (by decide)]; exact a1
    · rw [mp_pool M (c' := 8) _ (by decide), mp_pool M (c' := 19) _ (by decide)]; exact a2
    · rw [mp_pool M (c' := 6) _ (by decide), mp_pool M (c' := 16) _ (by decide)]; exact a3
    · rw [mp_pool M (c' := 7) _ (by decide), mp_pool M (c' := 17) _ (by decide)]; exact a4
    · rw [mp_pool M (c' := 5) _ (by decide), mp_pool M (c' := 14) _ (by decide)]; exact a5
    · unfold CI at *; rw [mp_pool M (c' := 0) _ (by decide), mp_pool M (c' := 2) _ (by decide), mp_pool M (c' := 4) _ (by decide), mp_pool M (c' := 13) _ (by decide)]; exact a6
    · exact ⟨fun q hq => by rw [e 30 q (by decide) (by omega)]; exact a7.1 q hq, by rw [← a7.2.1]; funext q; exact e 52 q (by decide) (by omega), by rw [e 20 12 (by decide) (by omega)]; exact a7.2.2.1, by rw [e 20 7 (by decide) (by omega)]; exact a7.2.2.2.1, by rw [e 20 8 (by decide) (by omega)]; exact a7.2.2.2.2⟩
    · exact Or.inr ⟨k, hk, mp_eq _ _ _ _ _, e1, e2⟩
    · unfold SI inB at *; rw [mp_pool M (c' := 2) _ (by decide), mp_pool M (c' := 6) _ (by decide)]; exact a9
def lv (N : Mem) (k : Nat) (v : Int32) : Mem := mp (mp N 27 0 k v) 20 0 1 (nI (k + 1))
theorem lv_eq {k : Nat} (hk : k < 40) (e : N 20 0 1 = nI k) (x : Int32) : f_yX9_leaves N x = some (lv N k x) := by
  unfold f_yX9_leaves lv
  rw [e]
  simp (disch := omega) only [↓gd_b, gd_t, gd_f, ↓ob1_s, ob1_s, ↓ob2_s, ob2_s, ↓om_n, ↓om_s, om_n, om_s, ↓lt1, ↓reduceIte, or_true, true_or, or_false, false_or, and_true, true_and, and_false, false_and, not_true_eq_false, not_false_eq_true, ite_self, S2_ret, eq_self, llA, llM, llm, llS, lle_f, lle_t, lle2_f, lle2_t, llt_f, llt_t, llt2_f, llt2_t, leq_f, leq_t, lz_f, lzl_t, nI_add, nI_clamp, nle_f, nle_t, nlt_f, nlt_t, neq_f, neq_t]
  rw [mp_ne N _ (by omega), e, nI_1]
theorem lv_1 (N : Mem) (k : Nat) (v : Int32) : lv N k v 20 0 1 = nI (k + 1) := mp_eq _ _ _ _ _
theorem lv_p (N : Mem) (k : Nat) (v : Int32) {p x : Nat} (h : p ≠ 27) (h2 : ¬ (p = 20 ∧ x = 1)) : lv N k v p 0 x = N p 0 x := by
  unfold lv
  rw [mp_ne _ _ (by omega), mp_ne _ _ (by omega)]
theorem lv_s (N : Mem) (k : Nat) (v : Int32) : lv N k v 27 0 k = v := by simp [lv, mp]
theorem lv_o (N : Mem) {k q : Nat} (v : Int32) (h : q ≠ k) : lv N k v 27 0 q = N 27 0 q := by simp [lv, mp, h]
theorem lk_weigh (h : RR z b n M N) {i : Nat} (hi : i < z) : Rw z b n (f_yX4_weightOf M i) (f_yX9_weighs N (nI i)) := by
  have h32 := h.z32
  obtain ⟨l, kd, a1, a2, a3, a4, a5, a6, a7, a8⟩ := h.oi hi
  unfold f_yX4_weightOf f_yX9_weighs
  have f0 : mp M 1 0 1 (M 8 i 0) 8 i 0 = nI kd := by rw [mp_ne _ _ (by omega), a5]
  have f1 : mp M 1 0 1 (M 8 i 0) 8 i 1 = M 8 i 1 := mp_ne _ _ (by omega)
  have f4 : mp M 1 0 1 (M 8 i 0) 8 i 4 = nI l := by rw [mp_ne _ _ (by omega), a2]
  have g0 : mp N 20 0 1 0 20 0 1 = nI 0 := mp_eq _ _ _ _ _
  have g1 : mp N 20 0 1 0 21 0 i = nI kd := by rw [mp_ne _ _ (by omega), h.n21 (by omega), a5]
  have g2 : mp N 20 0 1 0 22 0 i = M 8 i 1 := by rw [mp_ne _ _ (by omega), h.n22 (by omega)]
  have g3 : mp N 20 0 1 0 23 0 i = nI l := by rw [mp_ne _ _ (by omega), h.n23 (by omega), a2]
  have ge : ∀ p x, p ≠ 27 → ¬ (p = 20 ∧ x = 1) → mp N 20 0 1 0 p 0 x = N p 0 x := fun p x _ h2 => mp_ne _ _ (by omega)
  have L0 := fun v => lv_eq (N := mp N 20 0 1 0) (by decide) g0 v
  have L1 := fun (N : Mem) (u v : Int32) => lv_eq (N := lv N 0 u) (by decide) (lv_1 N 0 u) v
  have L2 := fun (N : Mem) (u v : Int32) => lv_eq (N := lv N 1 u) (by decide) (lv_1 N 1 u) v
  have L3 := fun (N : Mem) (u v : Int32) => lv_eq (N := lv N 2 u) (by decide) (lv_1 N 2 u) v
  have L4 := fun (N : Mem) (u v : Int32) => lv_eq (N := lv N 3 u) (by decide) (lv_1 N 3 u) v
  rcases (by omega : kd = 0 ∨ kd = 1 ∨ kd = 2 ∨ kd = 3 ∨ 4 ≤ kd) with rfl | rfl | rfl | rfl | hk
  · simp (disch := omega) only [↓gd_b, gd_t, gd_f, ↓ob1_s, ob1_s, ↓ob2_s, ob2_s, ↓om_n, ↓om_s, om_n, om_s, ↓lt1, ↓reduceIte, or_true, true_or, or_false, false_or, and_true, true_and, and_false, false_and, not_true_eq_false, not_false_eq_true, ite_self, S2_ret, eq_self, llA, llM, llm, llS, lle_f, lle_t, lle2_f, lle2_t, llt_f, llt_t, llt2_f, llt2_t, leq_f, leq_t, lz_f, lzl_t, nI_add, nI_clamp, nle_f, nle_t, nlt_f, nlt_t, neq_f, neq_t, f0, g1, L0]
    rw [a5]
    exact h.wgh (by decide) (fun p x hp hx => by rw [lv_p _ _ _ hp hx, ge p x hp hx]) (lv_1 _ _ _) (fun q hq => by
      obtain rfl : q = 0 := by have : sl (bk 0) = 1 := rfl; omega
      rw [lv_s]; rfl)
  · simp (disch := omega) only [↓gd_b, gd_t, gd_f, ↓ob1_s, ob1_s, ↓ob2_s, ob2_s, ↓om_n, ↓om_s, om_n, om_s, ↓lt1, ↓reduceIte, or_true, true_or, or_false, false_or, and_true, true_and, and_false, false_and, not_true_eq_false, not_false_eq_true, ite_self, S2_ret, eq_self, llA, llM, llm, llS, lle_f, lle_t, lle2_f, lle2_t, llt_f, llt_t, llt2_f, llt2_t, leq_f, leq_t, lz_f, lzl_t, nI_add, nI_clamp, nle_f, nle_t, nlt_f, nlt_t, neq_f, neq_t, f0, f1, g1, L0, L1, L2, lv_p, g2, Int32.add_assoc]
    rw [a5]
    exact h.wgh (by decide) (fun p x hp hx => by rw [lv_p _ _ _ hp hx, lv_p _ _ _ hp hx, lv_p _ _ _ hp hx, ge p x hp hx]) (lv_1 _ _ _) (fun q hq => by
      have : sl (bk 1) = 3 := rfl
      rcases (by omega : q = 0 ∨ q = 1 ∨ q = 2) with rfl | rfl | rfl
      · rw [lv_o _ _ (by decide), lv_o _ _ (by decide), lv_s]; rfl
      · rw [lv_o _ _ (by decide), lv_s]; rfl
      · rw [lv_s]; rfl)
  · simp (disch := omega) only [↓gd_b, gd_t, gd_f, ↓ob1_s, ob1_s, ↓ob2_s, ob2_s, ↓om_n, ↓om_s, om_n, om_s, ↓lt1, ↓reduceIte, or_true, true_or, or_false, false_or, and_true, true_and, and_false, false_and, not_true_eq_false, not_false_eq_true, ite_self, S2_ret, eq_self, llA, llM, llm, llS, lle_f, lle_t, lle2_f, lle2_t, llt_f, llt_t, llt2_f, llt2_t, leq_f, leq_t, lz_f, lzl_t, nI_add, nI_clamp, nle_f, nle_t, nlt_f, nlt_t, neq_f, neq_t, f0, f1, g1, L0, L1, L2, L3, lv_p, g2, Int32.add_assoc]
    rw [a5]
    exact ⟨rfl, h.wgh (by decide) (fun p x hp hx => by rw [lv_p _ _ _ hp hx, lv_p _ _ _ hp hx, lv_p _ _ _ hp hx, lv_p _ _ _ hp hx, ge p x hp hx]) (lv_1 _ _ _) (fun q hq => by
      have : sl (bk 2) = 4 := rfl
      rcases (by omega : q = 0 ∨ q = 1 ∨ q = 2 ∨ q = 3) with rfl | rfl | rfl | rfl
      · rw [lv_o _ _ (by decide), lv_o _ _ (by decide), lv_o _ _ (by decide), lv_s]; rfl
      · rw [lv_o _ _ (by decide), lv_o _ _ (by decide), lv_s]; rfl
      · rw [lv_o _ _ (by decide), lv_s]; rfl
      · rw [lv_s]; rfl)⟩
  · simp (disch := omega) only [↓gd_b, gd_t, gd_f, ↓ob1_s, ob1_s, ↓ob2_s, ob2_s, ↓om_n, ↓om_s, om_n, om_s, ↓lt1, ↓reduceIte, or_true, true_or, or_false, false_or, and_true, true_and, and_false, false_and, not_true_eq_false, not_false_eq_true, ite_self, S2_ret, eq_self, llA, llM, llm, llS, lle_f, lle_t, lle2_f, lle2_t, llt_f, llt_t, llt2_f, llt2_t, leq_f, leq_t, lz_f, lzl_t, nI_add, nI_clamp, nle_f, nle_t, nlt_f, nlt_t, neq_f, neq_t, f0, f1, g1, L0, L1, L2, L3, L4, lv_p, g2]
    rw [a5]
    exact ⟨rfl, h.wgh (by decide) (fun p x hp hx => by rw [lv_p _ _ _ hp hx, lv_p _ _ _ hp hx, lv_p _ _ _ hp hx, lv_p _ _ _ hp hx, lv_p _ _ _ hp hx, ge p x hp hx]) (lv_1 _ _ _) (fun q hq => by
      have : sl (bk 3) = 5 := rfl
      rcases (by omega : q = 0 ∨ q = 1 ∨ q = 2 ∨ q = 3 ∨ q = 4) with rfl | rfl | rfl | rfl | rfl
      · rw [lv_o _ _ (by decide), lv_o _ _ (by decide), lv_o _ _ (by decide), lv_o _ _ (by decide), lv_s]; rfl
      · rw [lv_o _ _ (by decide), lv_o _ _ (by decide), lv_o _ _ (by decide), lv_s]; rfl
      · rw [lv_o _ _ (by decide), lv_o _ _ (by decide), lv_s]; rfl
      · rw [lv_o _ _ (by decide), lv_s]; rfl
      · rw [lv_s]; rfl)⟩
  · simp (disch := omega) only [↓gd_b, gd_t, gd_f, ↓ob1_s, ob1_s, ↓ob2_s, ob2_s, ↓om_n, ↓om_s, om_n, om_s, ↓lt1, ↓reduceIte, or_true, true_or, or_false, false_or, and_true, true_and, and_false, false_and, not_true_eq_false, not_false_eq_true, ite_self, S2_ret, eq_self, llA, llM, llm, llS, lle_f, lle_t, lle2_f, lle2_t, llt_f, llt_t, llt2_f, llt2_t, leq_f, leq_t, lz_f, lzl_t, nI_add, nI_clamp, nle_f, nle_t, nlt_f, nlt_t, neq_f, neq_t, f0, f4, g1, L0, lv_p, g3]
    rw [a5]
    have hb : bk kd = 4 := if_neg (by omega)
    exact h.wgh a4 (fun p x hp hx => by rw [lv_p _ _ _ hp hx, ge p x hp hx]) (by rw [hb]; exact lv_1 _ _ _) (fun q hq => by
      rw [hb] at hq ⊢
      obtain rfl : q = 0 := by have : sl 4 = 1 := rfl; omega
      rw [lv_s]; rfl)
theorem pm_weigh (h : RR z b n M N) (x1 : Int32) : Rw z b n (f_yX8_weigh M x1) (f_yX9_weigh N x1) := by
  have h32 := h.z32
  unfold f_yX8_weigh f_yX9_weigh
  rcases h.ix x1 with h1 | ⟨i, hi, rfl⟩
  · rw [h.sato h1, h.isTo h1]; exact S2.ret ⟨rfl, h⟩
  · rw [h.sat hi, h.isT hi]
    simp (disch := omega) only [↓gd_b, gd_t, gd_f, ↓ob1_s, ob1_s, ↓ob2_s, ob2_s, ↓om_n, ↓om_s, om_n, om_s, ↓lt1, ↓reduceIte, or_true, true_or, or_false, false_or, and_true, true_and, and_false, false_and, not_true_eq_false, not_false_eq_true, ite_self, S2_ret, eq_self, llA, llM, llm, llS, lle_f, lle_t, lle2_f, lle2_t, llt_f, llt_t, llt2_f, llt2_t, leq_f, leq_t, lz_f, lzl_t, nI_add, nI_clamp, nle_f, nle_t, nlt_f, nlt_t, neq_f, neq_t, one_ne, h.g1]
    exact (lk_weigh h hi).b22 (fun x m y k hq => S2.ret hq)
/-! a new thread -/
theorem lk_fill {t : Nat} (ht : t < 6) : ∀ d k m (N0 : Mem), k + d = 6 → ∃ N', f_yX9_thread_L145 (m + d + 1) N0 (nI t) (nI k) = some (1, N') ∧ (∀ r, k ≤ r → r < 6 → N' 49 0 (6 * t + r) = 0 ∧ N' 50 0 (6 * t + r) = -4) ∧ ∀ p x, ¬ ((p = 49 ∨ p = 50) ∧ 6 * t + k ≤ x ∧ x < 6 * t + 6) → N' p 0 x = N0 p 0 x := by
  intro d
  induction d with
  | zero =>
    intro k m N0 hk
    obtain rfl : k = 6 := by omega
    refine ⟨N0, ?_, fun r h1 h2 => by omega, fun _ _ _ => rfl⟩
    rw [f_yX9_thread_L145]
    simp (disch := omega) only [↓gd_b, gd_t, gd_f, ↓ob1_s, ob1_s, ↓ob2_s, ob2_s, ↓om_n, ↓om_s, om_n, om_s, ↓lt1, ↓reduceIte, or_true, true_or, or_false, false_or, and_true, true_and, and_false, false_and, not_true_eq_false, not_false_eq_true, ite_self, S2_ret, eq_self, llA, llM, llm, llS, lle_f, lle_t, lle2_f, lle2_t, llt_f, llt_t, llt2_f, llt2_t, leq_f, leq_t, lz_f, lzl_t, nI_add, nI_clamp, nle_f, nle_t, nlt_f, nlt_t, neq_f, neq_t]
  | succ d ih =>
    intro k m N0 hk
    obtain ⟨N', e1, e2, e3⟩ := ih (k + 1) m (mp (mp N0 49 0 (6 * t + k) 0) 50 0 (6 * t + k) (-4)) (by omega)
    refine ⟨N', ?_, ?_, ?_⟩
    · rw [f_yX9_thread_L145, ← e1]
      simp (disch := omega) only [↓gd_b, gd_t, gd_f, ↓ob1_s, ob1_s, ↓ob2_s, ob2_s, ↓om_n, ↓om_s, om_n, om_s, ↓lt1, ↓reduceIte, or_true, true_or, or_false, false_or, and_true, true_and, and_false, false_and, not_true_eq_false, not_false_eq_true, ite_self, S2_ret, eq_self, llA, llM, llm, llS, lle_f, lle_t, lle2_f, lle2_t, llt_f, llt_t, llt2_f, llt2_t, leq_f, leq_t, lz_f, lzl_t, nI_add, nI_clamp, nle_f, nle_t, nlt_f, nlt_t, neq_f, neq_t]
      rfl
    · intro r h1 h2
      by_cases e : r = k
      · subst e
        rw [e3 49 _ (by omega), e3 50 _ (by omega)]
        exact ⟨by simp [mp], by simp [mp]⟩
      · exact e2 r (by omega) h2
    · intro p x hp
      rw [e3 p x (by omega), mp_ne _ _ (by omega), mp_ne _ _ (by omega)]
end WEI
