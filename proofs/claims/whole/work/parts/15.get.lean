/-! the calls that only tell -/
theorem pred_int {z : Nat} (h : z < 2147483648) : (nI z - 1).toInt = (z : Int) - 1 := by
  rw [Int32.toInt_sub, nI_toInt h, show (1 : Int32).toInt = 1 by decide, Int.bmod_def]
  omega
section GET
variable {z b : Nat} {n : Lg} {M N : Mem}
theorem RR.sat (h : RR z b n M N) {i : Nat} (hi : i < z) : f_yX4_at M (nI i) = some (some i) := by
  have h32 := h.z32
  unfold f_yX4_at
  rw [h.sz, h.g0]
  simp (disch := omega) only [↓gd_b, gd_t, gd_f, ↓ob1_s, ob1_s, ↓ob2_s, ob2_s, ↓om_n, ↓om_s, om_n, om_s, ↓lt1, ↓reduceIte, or_true, true_or, or_false, false_or, and_true, true_and, and_false, false_and, not_true_eq_false, not_false_eq_true, ite_self, S2_ret, eq_self, llA, llM, llm, llS, lle_f, lle_t, lle2_f, lle2_t, llt_f, llt_t, llt2_f, llt2_t, leq_f, leq_t, lz_f, lzl_t, nI_add, nI_clamp, nle_f, nle_t, nlt_f, nlt_t, neq_f, neq_t, nI_leI]
theorem RR.sato (h : RR z b n M N) {x : Int32} (hx : x < 0 ∨ nI z ≤ x) : f_yX4_at M x = some none := by
  unfold f_yX4_at
  rw [h.sz]
  by_cases h0 : x < 0
  · rw [if_pos h0]
  · rw [if_neg h0, if_pos (hx.resolve_left h0)]
theorem RR.isT (h : RR z b n M N) {i : Nat} (hi : i < z) : f_yX9_isThing N (nI i) = some 1 := by
  have h32 := h.z32
  unfold f_yX9_isThing
  rw [h.nsz, h.sz, in_in (n := z) (pred_int (by omega)) hi (by omega)]
  rfl
theorem RR.isTo (h : RR z b n M N) {x : Int32} (hx : x < 0 ∨ nI z ≤ x) : f_yX9_isThing N x = some 0 := by
  have h32 := h.z32
  unfold f_yX9_isThing
  rw [h.nsz, h.sz, in_out (n := z) (pred_int (by omega)) (by omega) hx]
  rfl
theorem RR.ix (h : RR z b n M N) (x : Int32) : (x < 0 ∨ nI z ≤ x) ∨ ∃ i : Nat, i < z ∧ x = nI i := by
  have h32 := h.z32
  exact ix6 x z (by omega)
theorem pm_register (h : RR z b n M N) (x1 x2 : Int32) : Rv (f_yX8_register M x1 x2) (f_yX9_register N x1 x2) := by
  unfold f_yX8_register f_yX9_register
  rcases ix6 x1 6 (by decide) with h1 | ⟨t, ht, rfl⟩
  · rw [at_out h1, in_out (n := 6) (by decide) (by decide) h1]; exact S2.ret rfl
  · rw [at_in ht, in_in (n := 6) (by decide) ht (by decide)]
    rcases ix6 x2 6 (by decide) with h2 | ⟨r, hr, rfl⟩
    · rw [slot_out h2, in_out (n := 6) (by decide) (by decide) h2]; exact S2.ret rfl
    · rw [slot_in hr, in_in (n := 6) (by decide) hr (by decide)]
      simp (disch := omega) only [↓gd_b, gd_t, gd_f, ↓ob1_s, ob1_s, ↓ob2_s, ob2_s, ↓om_n, ↓om_s, om_n, om_s, ↓lt1, ↓reduceIte, or_true, true_or, or_false, false_or, and_true, true_and, and_false, false_and, not_true_eq_false, not_false_eq_true, ite_self, S2_ret, eq_self, llA, llM, llm, llS, lle_f, lle_t, lle2_f, lle2_t, llt_f, llt_t, llt2_f, llt2_t, leq_f, leq_t, lz_f, lzl_t, nI_add, nI_clamp, nle_f, nle_t, nlt_f, nlt_t, neq_f, neq_t, f_yX5_kept, slot_in hr, (by decide : ¬ (1 : Int32) = 0), h.n49]
theorem pm_hand (h : RR z b n M N) (x1 x2 : Int32) : Rv (f_yX8_hand M x1 x2) (f_yX9_hand N x1 x2) := by
  unfold f_yX8_hand f_yX9_hand
  rcases ix6 x1 6 (by decide) with h1 | ⟨t, ht, rfl⟩
  · rw [at_out h1, in_out (n := 6) (by decide) (by decide) h1]; exact S2.ret rfl
  · rw [at_in ht, in_in (n := 6) (by decide) ht (by decide)]
    rcases ix6 x2 6 (by decide) with h2 | ⟨r, hr, rfl⟩
    · rw [slot_out h2, in_out (n := 6) (by decide) (by decide) h2]; exact S2.ret rfl
    · rw [slot_in hr, in_in (n := 6) (by decide) hr (by decide)]
      by_cases h0 : M 6 t 0 = 0
      · have := ((h.ti ht).2.1 h0).2 r hr
        simp (disch := omega) only [↓gd_b, gd_t, gd_f, ↓ob1_s, ob1_s, ↓ob2_s, ob2_s, ↓om_n, ↓om_s, om_n, om_s, ↓lt1, ↓reduceIte, or_true, true_or, or_false, false_or, and_true, true_and, and_false, false_and, not_true_eq_false, not_false_eq_true, ite_self, S2_ret, eq_self, llA, llM, llm, llS, lle_f, lle_t, lle2_f, lle2_t, llt_f, llt_t, llt2_f, llt2_t, leq_f, leq_t, lz_f, lzl_t, nI_add, nI_clamp, nle_f, nle_t, nlt_f, nlt_t, neq_f, neq_t, f_yX5_held, slot_in hr, (by decide : ¬ (1 : Int32) = 0), h.n31 ht, h0, this]
      · simp (disch := omega) only [↓gd_b, gd_t, gd_f, ↓ob1_s, ob1_s, ↓ob2_s, ob2_s, ↓om_n, ↓om_s, om_n, om_s, ↓lt1, ↓reduceIte, or_true, true_or, or_false, false_or, and_true, true_and, and_false, false_and, not_true_eq_false, not_false_eq_true, ite_self, S2_ret, eq_self, llA, llM, llm, llS, lle_f, lle_t, lle2_f, lle2_t, llt_f, llt_t, llt2_f, llt2_t, leq_f, leq_t, lz_f, lzl_t, nI_add, nI_clamp, nle_f, nle_t, nlt_f, nlt_t, neq_f, neq_t, f_yX5_held, slot_in hr, (by decide : ¬ (1 : Int32) = 0), h.n31 ht, h0, h.n50 ht hr h0]
theorem pm_item (h : RR z b n M N) (x1 x2 : Int32) : Rv (f_yX8_item M x1 x2) (f_yX9_item N x1 x2) := by
  have h32 := h.z32
  unfold f_yX8_item f_yX9_item
  rcases h.ix x1 with h1 | ⟨i, hi, rfl⟩
  · rw [h.sato h1, h.isTo h1]; exact S2.ret rfl
  · obtain ⟨l, kd, a1, a2, a3, a4, a5, a6, a7, a8⟩ := h.oi hi
    rw [h.sat hi, h.isT hi]
    simp (disch := omega) only [↓gd_b, gd_t, gd_f, ↓ob1_s, ob1_s, ↓ob2_s, ob2_s, ↓om_n, ↓om_s, om_n, om_s, ↓lt1, ↓reduceIte, or_true, true_or, or_false, false_or, and_true, true_and, and_false, false_and, not_true_eq_false, not_false_eq_true, ite_self, S2_ret, eq_self, llA, llM, llm, llS, lle_f, lle_t, lle2_f, lle2_t, llt_f, llt_t, llt2_f, llt2_t, leq_f, leq_t, lz_f, lzl_t, nI_add, nI_clamp, nle_f, nle_t, nlt_f, nlt_t, neq_f, neq_t, h.g1, h.n21, h.n23, a5, a2, (by decide : ¬ (1 : Int32) = 0), f_yX7_hasPlace]
    rcases ix6 x2 l (by omega) with h2 | ⟨r, hr, rfl⟩
    · have e1 : (if x2 < 0 then (some (0 : Int32)) else (if nI l ≤ x2 then (some 0) else (some 1))) = some 0 := by
        by_cases h0 : x2 < 0
        · rw [if_pos h0]
        · rw [if_neg h0, if_pos (h2.resolve_left h0)]
      rw [e1, in_out (n := l) (pred_int (by omega)) (by omega) h2]
      simp (disch := omega) only [↓gd_b, gd_t, gd_f, ↓ob1_s, ob1_s, ↓ob2_s, ob2_s, ↓om_n, ↓om_s, om_n, om_s, ↓lt1, ↓reduceIte, or_true, true_or, or_false, false_or, and_true, true_and, and_false, false_and, not_true_eq_false, not_false_eq_true, ite_self, S2_ret, eq_self, llA, llM, llm, llS, lle_f, lle_t, lle2_f, lle2_t, llt_f, llt_t, llt2_f, llt2_t, leq_f, leq_t, lz_f, lzl_t, nI_add, nI_clamp, nle_f, nle_t, nlt_f, nlt_t, neq_f, neq_t]
    · have hk : 3 < kd := by omega
      rw [in_in (n := l) (pred_int (by omega)) hr (by omega)]
      simp (disch := omega) only [↓gd_b, gd_t, gd_f, ↓ob1_s, ob1_s, ↓ob2_s, ob2_s, ↓om_n, ↓om_s, om_n, om_s, ↓lt1, ↓reduceIte, or_true, true_or, or_false, false_or, and_true, true_and, and_false, false_and, not_true_eq_false, not_false_eq_true, ite_self, S2_ret, eq_self, llA, llM, llm, llS, lle_f, lle_t, lle2_f, lle2_t, llt_f, llt_t, llt2_f, llt2_t, leq_f, leq_t, lz_f, lzl_t, nI_add, nI_clamp, nle_f, nle_t, nlt_f, nlt_t, neq_f, neq_t, nI_leI, (by decide : ¬ (1 : Int32) = 0), h.n24 (i := i) (l := l) (by omega) hr a1 a2]
end GET
