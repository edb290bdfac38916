/-! over, stuck, or a turn -/
section SEL
variable {z b : Nat} {n : Lg} {M N : Mem}
def uwb (M : Mem) (k : Nat) : Bool := decide (f_yX5_isUnderWay M k = some 1)
def rdb (M : Mem) (k : Nat) : Bool := decide (M 6 k 0 = 2) || decide (¬ M 6 k 12 = -4)
def anyb (p : Nat → Bool) : Nat → Nat → Bool
  | 0, _ => false
  | d + 1, k => p k || anyb p d (k + 1)
def bi (v : Bool) : Int32 := cond v 1 0
theorem bi_t : bi true = 1 := rfl
theorem bi_f : bi false = 0 := rfl
def fnl (a c : Bool) : Int32 := cond a (cond c 0 (-6)) (-7)
theorem anyb_imp {p q : Nat → Bool} (hp : ∀ k, k < 6 → p k = true → q k = true) : ∀ d k, k + d ≤ 6 → anyb p d k = true → anyb q d k = true := by
  intro d
  induction d with
  | zero => intro k _ h; exact h
  | succ d ih =>
    intro k hk h
    rw [anyb, Bool.or_eq_true] at h ⊢
    rcases h with h | h
    · exact Or.inl (hp k (by omega) h)
    · exact Or.inr (ih (k + 1) (by omega) h)
theorem uwb_t {k st : Nat} (hst : st ≤ 7) (e : M 6 k 0 = nI st) (hu : uw st = 1) : uwb M k = true := by
  unfold uwb
  rw [uwM hst e, hu]
  rfl
theorem uwb_f {k st : Nat} (hst : st ≤ 7) (e : M 6 k 0 = nI st) (hu : uw st = 0) : uwb M k = false := by
  unfold uwb
  rw [uwM hst e, hu]
  rfl
theorem lk_cnt (h : RR z b n M N) : ∀ d k m c, k + d = 6 → c + d ≤ 100 → ∃ c', f_yX1_howManyUnderWay_L13 (m + d + 1) M (nI c) 6 (nI k) = some (nI c') ∧ c ≤ c' ∧ c' ≤ c + d ∧ (anyb (uwb M) d k = true ↔ c < c') := by
  intro d
  induction d with
  | zero =>
    intro k m c hk hc
    obtain rfl : k = 6 := by omega
    refine ⟨c, ?_, by omega, by omega, ?_⟩
    · rw [f_yX1_howManyUnderWay_L13]
      simp (disch := omega) only [↓gd_b, gd_t, gd_f, ↓ob1_s, ob1_s, ↓ob2_s, ob2_s, ↓om_n, ↓om_s, om_n, om_s, ↓lt1, ↓reduceIte, or_true, true_or, or_false, false_or, and_true, true_and, and_false, false_and, not_true_eq_false, not_false_eq_true, ite_self, S2_ret, eq_self, llA, llM, llm, llS, lle_f, lle_t, lle2_f, lle2_t, llt_f, llt_t, llt2_f, llt2_t, leq_f, leq_t, lz_f, lzl_t, nI_add, nI_clamp, nle_f, nle_t, nlt_f, nlt_t, neq_f, neq_t]
    · rw [anyb]
      exact ⟨fun w => (by cases w), fun w => by omega⟩
  | succ d ih =>
    intro k m c hk hc
    have hk6 : k < 6 := by omega
    obtain ⟨⟨st, s1, s2⟩, _⟩ := h.ti hk6
    rw [f_yX1_howManyUnderWay_L13]
    rcases uw_cases st with ⟨e, _⟩ | ⟨e, _⟩
    · obtain ⟨c', q1, q2, q3, q4⟩ := ih (k + 1) m (c + 1) (by omega) (by omega)
      refine ⟨c', ?_, by omega, by omega, ?_⟩
      · simp (disch := omega) only [↓gd_b, gd_t, gd_f, ↓ob1_s, ob1_s, ↓ob2_s, ob2_s, ↓om_n, ↓om_s, om_n, om_s, ↓lt1, ↓reduceIte, or_true, true_or, or_false, false_or, and_true, true_and, and_false, false_and, not_true_eq_false, not_false_eq_true, ite_self, S2_ret, eq_self, llA, llM, llm, llS, lle_f, lle_t, lle2_f, lle2_t, llt_f, llt_t, llt2_f, llt2_t, leq_f, leq_t, lz_f, lzl_t, nI_add, nI_clamp, nle_f, nle_t, nlt_f, nlt_t, neq_f, neq_t, uwM s1 s2, e, one_ne]
        exact q1
      · rw [anyb, uwb_t s1 s2 e]
        exact ⟨fun _ => by omega, fun _ => rfl⟩
    · obtain ⟨c', q1, q2, q3, q4⟩ := ih (k + 1) m c (by omega) (by omega)
      refine ⟨c', ?_, by omega, by omega, ?_⟩
      · simp (disch := omega) only [↓gd_b, gd_t, gd_f, ↓ob1_s, ob1_s, ↓ob2_s, ob2_s, ↓om_n, ↓om_s, om_n, om_s, ↓lt1, ↓reduceIte, or_true, true_or, or_false, false_or, and_true, true_and, and_false, false_and, not_true_eq_false, not_false_eq_true, ite_self, S2_ret, eq_self, llA, llM, llm, llS, lle_f, lle_t, lle2_f, lle2_t, llt_f, llt_t, llt2_f, llt2_t, leq_f, leq_t, lz_f, lzl_t, nI_add, nI_clamp, nle_f, nle_t, nlt_f, nlt_t, neq_f, neq_t, uwM s1 s2, e]
        exact q1
      · rw [anyb, uwb_f s1 s2 e, Bool.false_or]
        exact q4
theorem over_t (h : RR z b n M N) (ha : anyb (uwb M) 6 0 = true) : f_yX1_isOver M = some 0 := by
  obtain ⟨c', q1, q2, q3, q4⟩ := lk_cnt h 6 0 63 0 (by decide) (by decide)
  have q5 : f_yX1_howManyUnderWay M = some (nI c') := q1
  have q6 := q4.mp ha
  unfold f_yX1_isOver
  rw [q5, ob1_s, if_neg (nI_ne0 q6 (by omega))]
theorem over_f (h : RR z b n M N) (ha : anyb (uwb M) 6 0 = false) : f_yX1_isOver M = some 1 := by
  obtain ⟨c', q1, q2, q3, q4⟩ := lk_cnt h 6 0 63 0 (by decide) (by decide)
  have q5 : f_yX1_howManyUnderWay M = some (nI c') := q1
  have q6 : ¬ 0 < c' := fun w => by
    have := q4.mpr w
    rw [ha] at this
    cases this
  obtain rfl : c' = 0 := by omega
  unfold f_yX1_isOver
  rw [q5, ob1_s, if_pos (show nI 0 = 0 from rfl)]
theorem lk_stuck : ∀ d k m, k + d = 6 → f_yX1_isStuck_L10 (m + d + 1) M 6 (nI k) = if anyb (rdb M) d k = true then some 0 else ob1 (f_yX1_isOver M) (fun r3 => (if r3 = 0 then (some 1) else (some 0))) := by
  intro d
  induction d with
  | zero =>
    intro k m hk
    obtain rfl : k = 6 := by omega
    rw [f_yX1_isStuck_L10, anyb, if_pos (show (6 : Int32) ≤ nI 6 by decide), if_neg (by decide)]
  | succ d ih =>
    intro k m hk
    have hk6 : k < 6 := by omega
    rw [f_yX1_isStuck_L10, anyb]
    by_cases h1 : M 6 k 0 = 2
    · have hg : rdb M k = true := by unfold rdb; rw [decide_eq_true h1]; rfl
      rw [hg, Bool.true_or, if_pos rfl]
      simp (disch := omega) only [↓gd_b, gd_t, gd_f, ↓ob1_s, ob1_s, ↓ob2_s, ob2_s, ↓om_n, ↓om_s, om_n, om_s, ↓lt1, ↓reduceIte, or_true, true_or, or_false, false_or, and_true, true_and, and_false, false_and, not_true_eq_false, not_false_eq_true, ite_self, S2_ret, eq_self, llA, llM, llm, llS, lle_f, lle_t, lle2_f, lle2_t, llt_f, llt_t, llt2_f, llt2_t, leq_f, leq_t, lz_f, lzl_t, nI_add, nI_clamp, nle_f, nle_t, nlt_f, nlt_t, neq_f, neq_t, h1]
    · by_cases h2 : M 6 k 12 = -4
      · have hg : rdb M k = false := by unfold rdb; rw [decide_eq_false h1, decide_eq_false (not_not_intro h2)]; rfl
        rw [hg, Bool.false_or, ← ih (k + 1) m (by omega)]
        simp (disch := omega) only [↓gd_b, gd_t, gd_f, ↓ob1_s, ob1_s, ↓ob2_s, ob2_s, ↓om_n, ↓om_s, om_n, om_s, ↓lt1, ↓reduceIte, or_true, true_or, or_false, false_or, and_true, true_and, and_false, false_and, not_true_eq_false, not_false_eq_true, ite_self, S2_ret, eq_self, llA, llM, llm, llS, lle_f, lle_t, lle2_f, lle2_t, llt_f, llt_t, llt2_f, llt2_t, leq_f, leq_t, lz_f, lzl_t, nI_add, nI_clamp, nle_f, nle_t, nlt_f, nlt_t, neq_f, neq_t, h1, h2]
        rfl
      · have hg : rdb M k = true := by unfold rdb; rw [decide_eq_true (p := ¬ M 6 k 12 = -4) h2, Bool.or_true]
        rw [hg, Bool.true_or, if_pos rfl]
        simp (disch := omega) only [↓gd_b, gd_t, gd_f, ↓ob1_s, ob1_s, ↓ob2_s, ob2_s, ↓om_n, ↓om_s, om_n, om_s, ↓lt1, ↓reduceIte, or_true, true_or, or_false, false_or, and_true, true_and, and_false, false_and, not_true_eq_false, not_false_eq_true, ite_self, S2_ret, eq_self, llA, llM, llm, llS, lle_f, lle_t, lle2_f, lle2_t, llt_f, llt_t, llt2_f, llt2_t, leq_f, leq_t, lz_f, lzl_t, nI_add, nI_clamp, nle_f, nle_t, nlt_f, nlt_t, neq_f, neq_t, h1, h2]
theorem lk_still (h : RR z b n M N) : ∀ d k m (u v : Bool), k + d = 6 → (v = true → u = true) → f_yX9_still_L6 (m + d + 1) N (bi u) (bi v) (nI k) = some (fnl (u || anyb (uwb M) d k) (v || anyb (rdb M) d k)) := by
  intro d
  induction d with
  | zero =>
    intro k m u v hk huv
    obtain rfl : k = 6 := by omega
    rw [f_yX9_still_L6, if_pos (show (6 : Int32) ≤ nI 6 by decide), anyb, anyb, Bool.or_false, Bool.or_false]
    cases u <;> cases v <;> rfl
  | succ d ih =>
    intro k m u v hk huv
    have hk6 : k < 6 := by omega
    obtain ⟨⟨st, s1, s2⟩, a2, a3, a4, a5, a6, a7, a8, a9, a10, a11⟩ := h.ti hk6
    have hN := uwN h hk6 s1 s2
    have e31 := h.n31 hk6
    have go : ∀ F G : Bool, uwb M k = F → rdb M k = G → (G = true → F = true) → f_yX9_still_L6 (m + (d + 1) + 1) N (bi u) (bi v) (nI k) = f_yX9_still_L6 (m + d + 1) N (bi (u || F)) (bi (v || G)) (nI (k + 1)) → f_yX9_still_L6 (m + (d + 1) + 1) N (bi u) (bi v) (nI k) = some (fnl (u || anyb (uwb M) (d + 1) k) (v || anyb (rdb M) (d + 1) k)) := by
      intro F G hF hG hGF he
      rw [he, ih (k + 1) m (u || F) (v || G) (by omega) (fun w => by
        rw [Bool.or_eq_true] at w ⊢
        exact w.imp huv hGF), anyb, anyb, hF, hG, Bool.or_assoc, Bool.or_assoc]
    rcases uw_cases st with ⟨e, u1, u2⟩ | ⟨e, u1⟩
    · have h0 : ¬ M 6 k 0 = 0 := by rw [s2]; exact nI_ne0 (by omega) (by omega)
      have e40 := h.n40 hk6 h0
      have hF := uwb_t s1 s2 e
      by_cases h1 : M 6 k 0 = 2
      · have hG : rdb M k = true := by unfold rdb; rw [decide_eq_true h1]; rfl
        refine go true true hF hG (fun _ => rfl) ?_
        rw [f_yX9_still_L6]
        cases u <;> cases v
        · simp (disch := omega) only [↓gd_b, gd_t, gd_f, ↓ob1_s, ob1_s, ↓ob2_s, ob2_s, ↓om_n, ↓om_s, om_n, om_s, ↓lt1, ↓reduceIte, or_true, true_or, or_false, false_or, and_true, true_and, and_false, false_and, not_true_eq_false, not_false_eq_true, ite_self, S2_ret, eq_self, llA, llM, llm, llS, lle_f, lle_t, lle2_f, lle2_t, llt_f, llt_t, llt2_f, llt2_t, leq_f, leq_t, lz_f, lzl_t, nI_add, nI_clamp, nle_f, nle_t, nlt_f, nlt_t, neq_f, neq_t, bi_t, bi_f, hN, e, e31, h1, one_ne, Bool.or_true]
          rfl
        · exact absurd (huv rfl) (by decide)
        · simp (disch := omega) only [↓gd_b, gd_t, gd_f, ↓ob1_s, ob1_s, ↓ob2_s, ob2_s, ↓om_n, ↓om_s, om_n, om_s, ↓lt1, ↓reduceIte, or_true, true_or, or_false, false_or, and_true, true_and, and_false, false_and, not_true_eq_false, not_false_eq_true, ite_self, S2_ret, eq_self, llA, llM, llm, llS, lle_f, lle_t, lle2_f, lle2_t, llt_f, llt_t, llt2_f, llt2_t, leq_f, leq_t, lz_f, lzl_t, nI_add, nI_clamp, nle_f, nle_t, nlt_f, nlt_t, neq_f, neq_t, bi_t, bi_f, hN, e, e31, h1, one_ne, Bool.or_true]
          rfl
        · simp (disch := omega) only [↓gd_b, gd_t, gd_f, ↓ob1_s, ob1_s, ↓ob2_s, ob2_s, ↓om_n, ↓om_s, om_n, om_s, ↓lt1, ↓reduceIte, or_true, true_or, or_false, false_or, and_true, true_and, and_false, false_and, not_true_eq_false, not_false_eq_true, ite_self, S2_ret, eq_self, llA, llM, llm, llS, lle_f, lle_t, lle2_f, lle2_t, llt_f, llt_t, llt2_f, llt2_t, leq_f, leq_t, lz_f, lzl_t, nI_add, nI_clamp, nle_f, nle_t, nlt_f, nlt_t, neq_f, neq_t, bi_t, bi_f, hN, e, e31, h1, one_ne, Bool.or_true]
          rfl
      · by_cases h2 : M 6 k 12 = -4
        · have hG : rdb M k = false := by unfold rdb; rw [decide_eq_false h1, decide_eq_false (not_not_intro h2)]; rfl
          refine go true false hF hG (fun w => by cases w) ?_
          rw [f_yX9_still_L6]
          cases u <;> cases v
          · simp (disch := omega) only [↓gd_b, gd_t, gd_f, ↓ob1_s, ob1_s, ↓ob2_s, ob2_s, ↓om_n, ↓om_s, om_n, om_s, ↓lt1, ↓reduceIte, or_true, true_or, or_false, false_or, and_true, true_and, and_false, false_and, not_true_eq_false, not_false_eq_true, ite_self, S2_ret, eq_self, llA, llM, llm, llS, lle_f, lle_t, lle2_f, lle2_t, llt_f, llt_t, llt2_f, llt2_t, leq_f, leq_t, lz_f, lzl_t, nI_add, nI_clamp, nle_f, nle_t, nlt_f, nlt_t, neq_f, neq_t, bi_t, bi_f, hN, e, e31, h1, one_ne, Bool.or_true, Bool.or_false, e40, h2]
            rfl
          · exact absurd (huv rfl) (by decide)
          · simp (disch := omega) only [↓gd_b, gd_t, gd_f, ↓ob1_s, ob1_s, ↓ob2_s, ob2_s, ↓om_n, ↓om_s, om_n, om_s, ↓lt1, ↓reduceIte, or_true, true_or, or_false, false_or, and_true, true_and, and_false, false_and, not_true_eq_false, not_false_eq_true, ite_self, S2_ret, eq_self, llA, llM, llm, llS, lle_f, lle_t, lle2_f, lle2_t, llt_f, llt_t, llt2_f, llt2_t, leq_f, leq_t, lz_f, lzl_t, nI_add, nI_clamp, nle_f, nle_t, nlt_f, nlt_t, neq_f, neq_t, bi_t, bi_f, hN, e, e31, h1, one_ne, Bool.or_true, Bool.or_false, e40, h2]
            rfl
          · simp (disch := omega) only [↓gd_b, gd_t, gd_f, ↓ob1_s, ob1_s, ↓ob2_s, ob2_s, ↓om_n, ↓om_s, om_n, om_s, ↓lt1, ↓reduceIte, or_true, true_or, or_false, false_or, and_true, true_and, and_false, false_and, not_true_eq_false, not_false_eq_true, ite_self, S2_ret, eq_self, llA, llM, llm, llS, lle_f, lle_t, lle2_f, lle2_t, llt_f, llt_t, llt2_f, llt2_t, leq_f, leq_t, lz_f, lzl_t, nI_add, nI_clamp, nle_f, nle_t, nlt_f, nlt_t, neq_f, neq_t, bi_t, bi_f, hN, e, e31, h1, one_ne, Bool.or_true, Bool.or_false, e40, h2]
            rfl
        · have hG : rdb M k = true := by unfold rdb; rw [decide_eq_true (p := ¬ M 6 k 12 = -4) h2, Bool.or_true]
          refine go true true hF hG (fun _ => rfl) ?_
          rw [f_yX9_still_L6]
          cases u <;> cases v
          · simp (disch := omega) only [↓gd_b, gd_t, gd_f, ↓ob1_s, ob1_s, ↓ob2_s, ob2_s, ↓om_n, ↓om_s, om_n, om_s, ↓lt1, ↓reduceIte, or_true, true_or, or_false, false_or, and_true, true_and, and_false, false_and, not_true_eq_false, not_false_eq_true, ite_self, S2_ret, eq_self, llA, llM, llm, llS, lle_f, lle_t, lle2_f, lle2_t, llt_f, llt_t, llt2_f, llt2_t, leq_f, leq_t, lz_f, lzl_t, nI_add, nI_clamp, nle_f, nle_t, nlt_f, nlt_t, neq_f, neq_t, bi_t, bi_f, hN, e, e31, h1, one_ne, Bool.or_true, e40, h2]
            rfl
          · exact absurd (huv rfl) (by decide)
          · simp (disch := omega) only [↓gd_b, gd_t, gd_f, ↓ob1_s, ob1_s, ↓ob2_s, ob2_s, ↓om_n, ↓om_s, om_n, om_s, ↓lt1, ↓reduceIte, or_true, true_or, or_false, false_or, and_true, true_and, and_false, false_and, not_true_eq_false, not_false_eq_true, ite_self, S2_ret, eq_self, llA, llM, llm, llS, lle_f, lle_t, lle2_f, lle2_t, llt_f, llt_t, llt2_f, llt2_t, leq_f, leq_t, lz_f, lzl_t, nI_add, nI_clamp, nle_f, nle_t, nlt_f, nlt_t, neq_f, neq_t, bi_t, bi_f, hN, e, e31, h1, one_ne, Bool.or_true, e40, h2]
            rfl
          · simp (disch := omega) only [↓gd_b, gd_t, gd_f, ↓ob1_s, ob1_s, ↓ob2_s, ob2_s, ↓om_n, ↓om_s, om_n, om_s, ↓lt1, ↓reduceIte, or_true, true_or, or_false, false_or, and_true, true_and, and_false, false_and, not_true_eq_false, not_false_eq_true, ite_self, S2_ret, eq_self, llA, llM, llm, llS, lle_f, lle_t, lle2_f, lle2_t, llt_f, llt_t, llt2_f, llt2_t, leq_f, leq_t, lz_f, lzl_t, nI_add, nI_clamp, nle_f, nle_t, nlt_f, nlt_t, neq_f, neq_t, bi_t, bi_f, hN, e, e31, h1, one_ne, Bool.or_true, e40, h2]
            rfl
    · have h1 : ¬ M 6 k 0 = 2 := fun w => by
        rw [s2] at w
        have := (nI_eq (by omega) (by decide)).mp (show nI st = nI 2 from w)
        omega
      have h2 : M 6 k 12 = -4 := a10 (fun w => by
        rw [s2] at w
        have := (nI_eq (by omega) (by decide)).mp (show nI st = nI 4 from w)
        omega) (fun w => by
        rw [s2] at w
        have := (nI_eq (by omega) (by decide)).mp (show nI st = nI 5 from w)
        omega)
      have hG : rdb M k = false := by unfold rdb; rw [decide_eq_false h1, decide_eq_false (not_not_intro h2)]; rfl
      refine go false false (uwb_f s1 s2 e) hG (fun w => w) ?_
      rw [f_yX9_still_L6]
      cases u <;> cases v
      · simp (disch := omega) only [↓gd_b, gd_t, gd_f, ↓ob1_s, ob1_s, ↓ob2_s, ob2_s, ↓om_n, ↓om_s, om_n, om_s, ↓lt1, ↓reduceIte, or_true, true_or, or_false, false_or, and_true, true_and, and_false, false_and, not_true_eq_false, not_false_eq_true, ite_self, S2_ret, eq_self, llA, llM, llm, llS, lle_f, lle_t, lle2_f, lle2_t, llt_f, llt_t, llt2_f, llt2_t, leq_f, leq_t, lz_f, lzl_t, nI_add, nI_clamp, nle_f, nle_t, nlt_f, nlt_t, neq_f, neq_t, bi_t, bi_f, hN, e, e31, h1, one_ne, Bool.or_false]
        rfl
      · exact absurd (huv rfl) (by decide)
      · simp (disch := omega) only [↓gd_b, gd_t, gd_f, ↓ob1_s, ob1_s, ↓ob2_s, ob2_s, ↓om_n, ↓om_s, om_n, om_s, ↓lt1, ↓reduceIte, or_true, true_or, or_false, false_or, and_true, true_and, and_false, false_and, not_true_eq_false, not_false_eq_true, ite_self, S2_ret, eq_self, llA, llM, llm, llS, lle_f, lle_t, lle2_f, lle2_t, llt_f, llt_t, llt2_f, llt2_t, leq_f, leq_t, lz_f, lzl_t, nI_add, nI_clamp, nle_f, nle_t, nlt_f, nlt_t, neq_f, neq_t, bi_t, bi_f, hN, e, e31, h1, one_ne, Bool.or_false]
        rfl
      · simp (disch := omega) only [↓gd_b, gd_t, gd_f, ↓ob1_s, ob1_s, ↓ob2_s, ob2_s, ↓om_n, ↓om_s, om_n, om_s, ↓lt1, ↓reduceIte, or_true, true_or, or_false, false_or, and_true, true_and, and_false, false_and, not_true_eq_false, not_false_eq_true, ite_self, S2_ret, eq_self, llA, llM, llm, llS, lle_f, lle_t, lle2_f, lle2_t, llt_f, llt_t, llt2_f, llt2_t, leq_f, leq_t, lz_f, lzl_t, nI_add, nI_clamp, nle_f, nle_t, nlt_f, nlt_t, neq_f, neq_t, bi_t, bi_f, hN, e, e31, h1, one_ne, Bool.or_false]
        rfl
theorem ovst (h : RR z b n M N) : (f_yX1_isOver M = some 1 ∧ f_yX9_still N = some (-7)) ∨ (f_yX1_isOver M = some 0 ∧ f_yX1_isStuck M = some 1 ∧ f_yX9_still N = some (-6)) ∨ (f_yX1_isOver M = some 0 ∧ f_yX1_isStuck M = some 0 ∧ f_yX9_still N = some 0) := by
  have hs : f_yX9_still N = some (fnl (false || anyb (uwb M) 6 0) (false || anyb (rdb M) 6 0)) := lk_still h 6 0 63 false false (by decide) (fun w => w)
  have hk : f_yX1_isStuck M = if anyb (rdb M) 6 0 = true then some 0 else ob1 (f_yX1_isOver M) (fun r3 => (if r3 = 0 then (some 1) else (some 0))) := lk_stuck 6 0 63 (by decide)
  rw [Bool.false_or, Bool.false_or] at hs
  cases ha : anyb (uwb M) 6 0 with
  | false =>
    rw [ha] at hs
    exact Or.inl ⟨over_f h ha, hs⟩
  | true =>
    have ho := over_t h ha
    rw [ha] at hs
    cases hb : anyb (rdb M) 6 0 with
    | false =>
      rw [hb] at hs hk
      refine Or.inr (Or.inl ⟨ho, ?_, hs⟩)
      rw [hk, if_neg (by decide), ho]
      rfl
    | true =>
      rw [hb] at hs hk
      exact Or.inr (Or.inr ⟨ho, by rw [hk, if_pos rfl], hs⟩)
/-! who is chosen -/
theorem fm6 {a : Nat} (ha : a < 2147483648) : f_yJ9_floorMod_7cf53 (nI a) 6 = some (nI (a % 6)) := fmod (d := 6) ha (by decide) (by decide)
theorem rm6 {a : Nat} (ha : a < 2147483648) : nI a - nI a / 6 * 6 = nI (a % 6) := pk_rem (d := 6) ha (by decide) (by decide)
theorem ne4 {u : Nat} (hu : u < 2147483648) : ¬ nI u = -4 := of_eq_false (lz_f (t := u) hu 4 (by decide) (by decide))
def RD (M : Mem) (o : Option Nat) (r : Int32) : Prop := (o = none ∧ r = -4) ∨ ∃ u : Nat, u < 6 ∧ o = some u ∧ r = nI u ∧ M 6 u 0 = 2
theorem ch_found (h : RR z b n M N) (hr : M 0 0 0 = 0) {l u : Nat} (hl : l < 6) (e : M 0 0 1 = nI l) (hu : u < 6) : ∀ d k m, k + d = 7 → f_yX9_chosen_L5 (m + d + 1) N (nI u) (nI k) = some (nI u) := by
  intro d
  induction d with
  | zero =>
    intro k m hk
    obtain rfl : k = 7 := by omega
    rw [f_yX9_chosen_L5, if_pos (show (6 : Int32) < nI 7 by decide)]
  | succ d ih =>
    intro k m hk
    rw [f_yX9_chosen_L5, h.nlast, e, h.nrule, hr, nI_add, rm6 (by omega)]
    have hm := Nat.mod_lt (l + k) (show 0 < 6 by decide)
    generalize (l + k) % 6 = j at hm
    have e31 := h.n31 hm
    have n4 := ne4 (u := u) (by omega)
    by_cases h2 : M 6 j 0 = 2
    · simp (disch := omega) only [↓gd_b, gd_t, gd_f, ↓ob1_s, ob1_s, ↓ob2_s, ob2_s, ↓om_n, ↓om_s, om_n, om_s, ↓lt1, ↓reduceIte, or_true, true_or, or_false, false_or, and_true, true_and, and_false, false_and, not_true_eq_false, not_false_eq_true, ite_self, S2_ret, eq_self, llA, llM, llm, llS, lle_f, lle_t, lle2_f, lle2_t, llt_f, llt_t, llt2_f, llt2_t, leq_f, leq_t, lz_f, lzl_t, nI_add, nI_clamp, nle_f, nle_t, nlt_f, nlt_t, neq_f, neq_t, e31, h2, n4]
      exact ih (k + 1) m (by omega)
    · simp (disch := omega) only [↓gd_b, gd_t, gd_f, ↓ob1_s, ob1_s, ↓ob2_s, ob2_s, ↓om_n, ↓om_s, om_n, om_s, ↓lt1, ↓reduceIte, or_true, true_or, or_false, false_or, and_true, true_and, and_false, false_and, not_true_eq_false, not_false_eq_true, ite_self, S2_ret, eq_self, llA, llM, llm, llS, lle_f, lle_t, lle2_f, lle2_t, llt_f, llt_t, llt2_f, llt2_t, leq_f, leq_t, lz_f, lzl_t, nI_add, nI_clamp, nle_f, nle_t, nlt_f, nlt_t, neq_f, neq_t, e31, h2]
      exact ih (k + 1) m (by omega)
theorem ch0 (h : RR z b n M N) (hr : M 0 0 0 = 0) {l : Nat} (hl : l < 6) (e : M 0 0 1 = nI l) : ∀ d k m, k + d = 7 → ∃ o r, f_yX1_firstReadyBehind_L2 (m + d + 1) M (nI l) (nI k) = some o ∧ f_yX9_chosen_L5 (m + d + 1) N (-4) (nI k) = some r ∧ RD M o r := by
  intro d
  induction d with
  | zero =>
    intro k m hk
    obtain rfl : k = 7 := by omega
    rw [f_yX9_chosen_L5, if_pos (show (6 : Int32) < nI 7 by decide), f_yX1_firstReadyBehind_L2, if_pos (show (6 : Int32) < nI 7 by decide)]
    exact ⟨none, -4, rfl, rfl, Or.inl ⟨rfl, rfl⟩⟩
  | succ d ih =>
    intro k m hk
    rw [f_yX9_chosen_L5, h.nlast, e, h.nrule, hr, nI_add, rm6 (by omega), f_yX1_firstReadyBehind_L2, nI_add, fm6 (by omega)]
    have hm := Nat.mod_lt (l + k) (show 0 < 6 by decide)
    generalize (l + k) % 6 = j at hm
    have e31 := h.n31 hm
    by_cases h2 : M 6 j 0 = 2
    · refine ⟨some j, nI j, ?_, ?_, Or.inr ⟨j, hm, rfl, rfl, h2⟩⟩
      · simp (disch := omega) only [↓gd_b, gd_t, gd_f, ↓ob1_s, ob1_s, ↓ob2_s, ob2_s, ↓om_n, ↓om_s, om_n, om_s, ↓lt1, ↓reduceIte, or_true, true_or, or_false, false_or, and_true, true_and, and_false, false_and, not_true_eq_false, not_false_eq_true, ite_self, S2_ret, eq_self, llA, llM, llm, llS, lle_f, lle_t, lle2_f, lle2_t, llt_f, llt_t, llt2_f, llt2_t, leq_f, leq_t, lz_f, lzl_t, nI_add, nI_clamp, nle_f, nle_t, nlt_f, nlt_t, neq_f, neq_t, h2, at_in hm]
      · simp (disch := omega) only [↓gd_b, gd_t, gd_f, ↓ob1_s, ob1_s, ↓ob2_s, ob2_s, ↓om_n, ↓om_s, om_n, om_s, ↓lt1, ↓reduceIte, or_true, true_or, or_false, false_or, and_true, true_and, and_false, false_and, not_true_eq_false, not_false_eq_true, ite_self, S2_ret, eq_self, llA, llM, llm, llS, lle_f, lle_t, lle2_f, lle2_t, llt_f, llt_t, llt2_f, llt2_t, leq_f, leq_t, lz_f, lzl_t, nI_add, nI_clamp, nle_f, nle_t, nlt_f, nlt_t, neq_f, neq_t, e31, h2]
        exact ch_found h hr hl e hm d (k + 1) m (by omega)
    · simp (disch := omega) only [↓gd_b, gd_t, gd_f, ↓ob1_s, ob1_s, ↓ob2_s, ob2_s, ↓om_n, ↓om_s, om_n, om_s, ↓lt1, ↓reduceIte, or_true, true_or, or_false, false_or, and_true, true_and, and_false, false_and, not_true_eq_false, not_false_eq_true, ite_self, S2_ret, eq_self, llA, llM, llm, llS, lle_f, lle_t, lle2_f, lle2_t, llt_f, llt_t, llt2_f, llt2_t, leq_f, leq_t, lz_f, lzl_t, nI_add, nI_clamp, nle_f, nle_t, nlt_f, nlt_t, neq_f, neq_t, e31, h2, at_in hm]
      exact ih (k + 1) m (by omega)
theorem ch1 (h : RR z b n M N) (hr : M 0 0 0 = 1) : ∀ d k m o r, k + d = 6 → RD M o r → S2 (f_yX1_readyOfGreatestRank_L13 (m + d + 1) M o 6 (nI k)) (f_yX9_chosen_L5 (m + d + 1) N r (nI (k + 1))) (RD M) := by
  intro d
  induction d with
  | zero =>
    intro k m o r hk hq
    obtain rfl : k = 6 := by omega
    rw [f_yX1_readyOfGreatestRank_L13, f_yX9_chosen_L5, if_pos (show (6 : Int32) < nI (6 + 1) by decide)]
    have h66 : (6 : Int32) ≤ nI 6 := by decide
    rcases hq with ⟨rfl, rfl⟩ | ⟨u, u1, rfl, rfl, u2⟩
    · rw [om_n, if_pos h66]
      exact S2.ret (Or.inl ⟨rfl, rfl⟩)
    · rw [om_s, if_pos h66]
      exact S2.ret (Or.inr ⟨u, u1, rfl, rfl, u2⟩)
  | succ d ih =>
    intro k m o r hk hq
    have hk6 : k < 6 := by omega
    have e31 := h.n31 hk6
    have er := h.nrule
    rw [f_yX1_readyOfGreatestRank_L13, f_yX9_chosen_L5]
    by_cases h1 : M 6 k 0 = 2
    · have hnew : RD M (some k) (nI k) := Or.inr ⟨k, hk6, rfl, rfl, h1⟩
      rcases hq with ⟨rfl, rfl⟩ | ⟨u, u1, rfl, rfl, u2⟩
      · simp (disch := omega) only [↓gd_b, gd_t, gd_f, ↓ob1_s, ob1_s, ↓ob2_s, ob2_s, ↓om_n, ↓om_s, om_n, om_s, ↓lt1, ↓reduceIte, or_true, true_or, or_false, false_or, and_true, true_and, and_false, false_and, not_true_eq_false, not_false_eq_true, ite_self, S2_ret, eq_self, llA, llM, llm, llS, lle_f, lle_t, lle2_f, lle2_t, llt_f, llt_t, llt2_f, llt2_t, leq_f, leq_t, lz_f, lzl_t, nI_add, nI_clamp, nle_f, nle_t, nlt_f, nlt_t, neq_f, neq_t, er, hr, one_ne, e31, h1, Nat.add_sub_cancel]
        exact ih (k + 1) m _ _ (by omega) hnew
      · have n4 := ne4 (u := u) (by omega)
        have ek := h.n33 hk6
        have eu := h.n33 u1
        by_cases h2 : M 6 k 2 ≤ M 6 u 2
        · simp (disch := omega) only [↓gd_b, gd_t, gd_f, ↓ob1_s, ob1_s, ↓ob2_s, ob2_s, ↓om_n, ↓om_s, om_n, om_s, ↓lt1, ↓reduceIte, or_true, true_or, or_false, false_or, and_true, true_and, and_false, false_and, not_true_eq_false, not_false_eq_true, ite_self, S2_ret, eq_self, llA, llM, llm, llS, lle_f, lle_t, lle2_f, lle2_t, llt_f, llt_t, llt2_f, llt2_t, leq_f, leq_t, lz_f, lzl_t, nI_add, nI_clamp, nle_f, nle_t, nlt_f, nlt_t, neq_f, neq_t, er, hr, one_ne, e31, h1, n4, ek, eu, h2, Nat.add_sub_cancel]
          exact ih (k + 1) m _ _ (by omega) (Or.inr ⟨u, u1, rfl, rfl, u2⟩)
        · simp (disch := omega) only [↓gd_b, gd_t, gd_f, ↓ob1_s, ob1_s, ↓ob2_s, ob2_s, ↓om_n, ↓om_s, om_n, om_s, ↓lt1, ↓reduceIte, or_true, true_or, or_false, false_or, and_true, true_and, and_false, false_and, not_true_eq_false, not_false_eq_true, ite_self, S2_ret, eq_self, llA, llM, llm, llS, lle_f, lle_t, lle2_f, lle2_t, llt_f, llt_t, llt2_f, llt2_t, leq_f, leq_t, lz_f, lzl_t, nI_add, nI_clamp, nle_f, nle_t, nlt_f, nlt_t, neq_f, neq_t, er, hr, one_ne, e31, h1, n4, ek, eu, h2, Nat.add_sub_cancel]
          exact ih (k + 1) m _ _ (by omega) hnew
    · rcases hq with ⟨rfl, rfl⟩ | ⟨u, u1, rfl, rfl, u2⟩
      · simp (disch := omega) only [↓gd_b, gd_t, gd_f, ↓ob1_s, ob1_s, ↓ob2_s, ob2_s, ↓om_n, ↓om_s, om_n, om_s, ↓lt1, ↓reduceIte, or_true, true_or, or_false, false_or, and_true, true_and, and_false, false_and, not_true_eq_false, not_false_eq_true, ite_self, S2_ret, eq_self, llA, llM, llm, llS, lle_f, lle_t, lle2_f, lle2_t, llt_f, llt_t, llt2_f, llt2_t, leq_f, leq_t, lz_f, lzl_t, nI_add, nI_clamp, nle_f, nle_t, nlt_f, nlt_t, neq_f, neq_t, er, hr, one_ne, e31, h1, Nat.add_sub_cancel]
        exact ih (k + 1) m _ _ (by omega) (Or.inl ⟨rfl, rfl⟩)
      · simp (disch := omega) only [↓gd_b, gd_t, gd_f, ↓ob1_s, ob1_s, ↓ob2_s, ob2_s, ↓om_n, ↓om_s, om_n, om_s, ↓lt1, ↓reduceIte, or_true, true_or, or_false, false_or, and_true, true_and, and_false, false_and, not_true_eq_false, not_false_eq_true, ite_self, S2_ret, eq_self, llA, llM, llm, llS, lle_f, lle_t, lle2_f, lle2_t, llt_f, llt_t, llt2_f, llt2_t, leq_f, leq_t, lz_f, lzl_t, nI_add, nI_clamp, nle_f, nle_t, nlt_f, nlt_t, neq_f, neq_t, er, hr, one_ne, e31, h1, Nat.add_sub_cancel]
        exact ih (k + 1) m _ _ (by omega) (Or.inr ⟨u, u1, rfl, rfl, u2⟩)
theorem lk_ch0 (h : RR z b n M N) (hr : M 0 0 0 = 0) : ∃ o r, f_yX1_firstReadyBehind M (M 0 0 1) = some o ∧ f_yX9_chosen N = some r ∧ RD M o r := by
  obtain ⟨l, hl, e⟩ := h.ci.1
  rw [e]
  exact ch0 h hr hl e 6 1 63 (by decide)
theorem lk_ch1 (h : RR z b n M N) (hr : M 0 0 0 = 1) : ∃ o r, f_yX1_readyOfGreatestRank M = some o ∧ f_yX9_chosen N = some r ∧ RD M o r := by
  exact ch1 h hr 6 0 63 none (-4) (by decide) (Or.inl ⟨rfl, rfl⟩)
end SEL
