section ACT
variable {z b : Nat} {n : Lg} {M N : Mem}
theorem lk_use1 {y : Int32} : ∀ d k m, k + d = 6 → f_yX9_isInUse_L4 (m + d + 1) N y 1 (nI k) = some 1 := by
  intro d
  induction d with
  | zero =>
    intro k m hk
    obtain rfl : k = 6 := by omega
    rw [f_yX9_isInUse_L4]
    simp (disch := omega) only [↓gd_b, gd_t, gd_f, ↓ob1_s, ob1_s, ↓ob2_s, ob2_s, ↓om_n, ↓om_s, om_n, om_s, ↓lt1, ↓reduceIte, or_true, true_or, or_false, false_or, and_true, true_and, and_false, false_and, not_true_eq_false, not_false_eq_true, ite_self, S2_ret, eq_self, llA, llM, llm, llS, lle_f, lle_t, lle2_f, lle2_t, llt_f, llt_t, llt2_f, llt2_t, leq_f, leq_t, lz_f, lzl_t, nI_add, nI_clamp, nle_f, nle_t, nlt_f, nlt_t, neq_f, neq_t]
  | succ d ih =>
    intro k m hk
    rw [f_yX9_isInUse_L4, ← ih (k + 1) m (by omega)]
    simp (disch := omega) only [↓gd_b, gd_t, gd_f, ↓ob1_s, ob1_s, ↓ob2_s, ob2_s, ↓om_n, ↓om_s, om_n, om_s, ↓lt1, ↓reduceIte, or_true, true_or, or_false, false_or, and_true, true_and, and_false, false_and, not_true_eq_false, not_false_eq_true, ite_self, S2_ret, eq_self, llA, llM, llm, llS, lle_f, lle_t, lle2_f, lle2_t, llt_f, llt_t, llt2_f, llt2_t, leq_f, leq_t, lz_f, lzl_t, nI_add, nI_clamp, nle_f, nle_t, nlt_f, nlt_t, neq_f, neq_t, one_ne]
    rfl
theorem lk_use (h : RR z b n M N) {p : Nat} (hp : p < 8) : ∀ d k m, k + d = 6 → ∃ r : Int32, (r = 0 ∨ r = 1) ∧ f_yX1_isInUse_L11 (m + d + 1) M p 6 (nI k) = some r ∧ f_yX9_isInUse_L4 (m + d + 1) N (nI p) 0 (nI k) = some r := by
  intro d
  induction d with
  | zero =>
    intro k m hk
    obtain rfl : k = 6 := by omega
    refine ⟨0, Or.inl rfl, ?_, ?_⟩
    · rw [f_yX1_isInUse_L11]; simp (disch := omega) only [↓gd_b, gd_t, gd_f, ↓ob1_s, ob1_s, ↓ob2_s, ob2_s, ↓om_n, ↓om_s, om_n, om_s, ↓lt1, ↓reduceIte, or_true, true_or, or_false, false_or, and_true, true_and, and_false, false_and, not_true_eq_false, not_false_eq_true, ite_self, S2_ret, eq_self, llA, llM, llm, llS, lle_f, lle_t, lle2_f, lle2_t, llt_f, llt_t, llt2_f, llt2_t, leq_f, leq_t, lz_f, lzl_t, nI_add, nI_clamp, nle_f, nle_t, nlt_f, nlt_t, neq_f, neq_t]
    · rw [f_yX9_isInUse_L4]; simp (disch := omega) only [↓gd_b, gd_t, gd_f, ↓ob1_s, ob1_s, ↓ob2_s, ob2_s, ↓om_n, ↓om_s, om_n, om_s, ↓lt1, ↓reduceIte, or_true, true_or, or_false, false_or, and_true, true_and, and_false, false_and, not_true_eq_false, not_false_eq_true, ite_self, S2_ret, eq_self, llA, llM, llm, llS, lle_f, lle_t, lle2_f, lle2_t, llt_f, llt_t, llt2_f, llt2_t, leq_f, leq_t, lz_f, lzl_t, nI_add, nI_clamp, nle_f, nle_t, nlt_f, nlt_t, neq_f, neq_t]
  | succ d ih =>
    intro k m hk
    have hk6 : k < 6 := by omega
    obtain ⟨⟨st, s1, s2⟩, a2, a3, _⟩ := h.ti hk6
    obtain ⟨r, r1, r2, r3⟩ := ih (k + 1) m (by omega)
    rw [f_yX1_isInUse_L11, f_yX9_isInUse_L4]
    by_cases h0 : M 6 k 0 = 0
    · have hst : st = 0 := by
        rw [s2] at h0
        have := (nI_eq (a := st) (b := 0) (by omega) (by decide)).mp h0
        exact this
      subst hst
      have e1 := (a2 h0).1
      refine ⟨r, r1, ?_, ?_⟩
      · rw [← r2]
        simp (disch := omega) only [↓gd_b, gd_t, gd_f, ↓ob1_s, ob1_s, ↓ob2_s, ob2_s, ↓om_n, ↓om_s, om_n, om_s, ↓lt1, ↓reduceIte, or_true, true_or, or_false, false_or, and_true, true_and, and_false, false_and, not_true_eq_false, not_false_eq_true, ite_self, S2_ret, eq_self, llA, llM, llm, llS, lle_f, lle_t, lle2_f, lle2_t, llt_f, llt_t, llt2_f, llt2_t, leq_f, leq_t, lz_f, lzl_t, nI_add, nI_clamp, nle_f, nle_t, nlt_f, nlt_t, neq_f, neq_t, e1]
        rfl
      · rw [← r3]
        simp (disch := omega) only [↓gd_b, gd_t, gd_f, ↓ob1_s, ob1_s, ↓ob2_s, ob2_s, ↓om_n, ↓om_s, om_n, om_s, ↓lt1, ↓reduceIte, or_true, true_or, or_false, false_or, and_true, true_and, and_false, false_and, not_true_eq_false, not_false_eq_true, ite_self, S2_ret, eq_self, llA, llM, llm, llS, lle_f, lle_t, lle2_f, lle2_t, llt_f, llt_t, llt2_f, llt2_t, leq_f, leq_t, lz_f, lzl_t, nI_add, nI_clamp, nle_f, nle_t, nlt_f, nlt_t, neq_f, neq_t, uwN h hk6 s1 s2, show uw 0 = 0 from rfl]
        rfl
    · obtain ⟨q, q1, q2⟩ := a3 h0
      have e32 := h.n32 hk6 h0
      rcases uw_cases st with ⟨e, _⟩ | ⟨e, _⟩
      · by_cases hq : q = p
        · subst hq
          refine ⟨1, Or.inr rfl, ?_, ?_⟩
          · simp (disch := omega) only [↓gd_b, gd_t, gd_f, ↓ob1_s, ob1_s, ↓ob2_s, ob2_s, ↓om_n, ↓om_s, om_n, om_s, ↓lt1, ↓reduceIte, or_true, true_or, or_false, false_or, and_true, true_and, and_false, false_and, not_true_eq_false, not_false_eq_true, ite_self, S2_ret, eq_self, llA, llM, llm, llS, lle_f, lle_t, lle2_f, lle2_t, llt_f, llt_t, llt2_f, llt2_t, leq_f, leq_t, lz_f, lzl_t, nI_add, nI_clamp, nle_f, nle_t, nlt_f, nlt_t, neq_f, neq_t, q2, uwM s1 s2, e, one_ne]
          · rw [← lk_use1 (N := N) (y := nI q) d (k + 1) m (by omega)]
            simp (disch := omega) only [↓gd_b, gd_t, gd_f, ↓ob1_s, ob1_s, ↓ob2_s, ob2_s, ↓om_n, ↓om_s, om_n, om_s, ↓lt1, ↓reduceIte, or_true, true_or, or_false, false_or, and_true, true_and, and_false, false_and, not_true_eq_false, not_false_eq_true, ite_self, S2_ret, eq_self, llA, llM, llm, llS, lle_f, lle_t, lle2_f, lle2_t, llt_f, llt_t, llt2_f, llt2_t, leq_f, leq_t, lz_f, lzl_t, nI_add, nI_clamp, nle_f, nle_t, nlt_f, nlt_t, neq_f, neq_t, q2, e32, uwN h hk6 s1 s2, e, one_ne]
            rfl
        · have hqn : ¬ nI q = nI p := fun z => hq ((nI_eq (by omega) (by omega)).mp z)
          refine ⟨r, r1, ?_, ?_⟩
          · rw [← r2]
            simp (disch := omega) only [↓gd_b, gd_t, gd_f, ↓ob1_s, ob1_s, ↓ob2_s, ob2_s, ↓om_n, ↓om_s, om_n, om_s, ↓lt1, ↓reduceIte, or_true, true_or, or_false, false_or, and_true, true_and, and_false, false_and, not_true_eq_false, not_false_eq_true, ite_self, S2_ret, eq_self, llA, llM, llm, llS, lle_f, lle_t, lle2_f, lle2_t, llt_f, llt_t, llt2_f, llt2_t, leq_f, leq_t, lz_f, lzl_t, nI_add, nI_clamp, nle_f, nle_t, nlt_f, nlt_t, neq_f, neq_t, q2, uwM s1 s2, e, one_ne]
            rfl
          · rw [← r3]
            simp (disch := omega) only [↓gd_b, gd_t, gd_f, ↓ob1_s, ob1_s, ↓ob2_s, ob2_s, ↓om_n, ↓om_s, om_n, om_s, ↓lt1, ↓reduceIte, or_true, true_or, or_false, false_or, and_true, true_and, and_false, false_and, not_true_eq_false, not_false_eq_true, ite_self, S2_ret, eq_self, llA, llM, llm, llS, lle_f, lle_t, lle2_f, lle2_t, llt_f, llt_t, llt2_f, llt2_t, leq_f, leq_t, lz_f, lzl_t, nI_add, nI_clamp, nle_f, nle_t, nlt_f, nlt_t, neq_f, neq_t, q2, e32, uwN h hk6 s1 s2, e, one_ne, hqn]
            rfl
      · refine ⟨r, r1, ?_, ?_⟩
        · rw [← r2]
          by_cases hq : q = p <;> simp (disch := omega) only [↓gd_b, gd_t, gd_f, ↓ob1_s, ob1_s, ↓ob2_s, ob2_s, ↓om_n, ↓om_s, om_n, om_s, ↓lt1, ↓reduceIte, or_true, true_or, or_false, false_or, and_true, true_and, and_false, false_and, not_true_eq_false, not_false_eq_true, ite_self, S2_ret, eq_self, llA, llM, llm, llS, lle_f, lle_t, lle2_f, lle2_t, llt_f, llt_t, llt2_f, llt2_t, leq_f, leq_t, lz_f, lzl_t, nI_add, nI_clamp, nle_f, nle_t, nlt_f, nlt_t, neq_f, neq_t, q2, uwM s1 s2, e] <;> rfl
        · rw [← r3]
          simp (disch := omega) only [↓gd_b, gd_t, gd_f, ↓ob1_s, ob1_s, ↓ob2_s, ob2_s, ↓om_n, ↓om_s, om_n, om_s, ↓lt1, ↓reduceIte, or_true, true_or, or_false, false_or, and_true, true_and, and_false, false_and, not_true_eq_false, not_false_eq_true, ite_self, S2_ret, eq_self, llA, llM, llm, llS, lle_f, lle_t, lle2_f, lle2_t, llt_f, llt_t, llt2_f, llt2_t, leq_f, leq_t, lz_f, lzl_t, nI_add, nI_clamp, nle_f, nle_t, nlt_f, nlt_t, neq_f, neq_t, uwN h hk6 s1 s2, e]
          rfl
theorem use2 (h : RR z b n M N) {p : Nat} (hp : p < 8) : ∃ r : Int32, (r = 0 ∨ r = 1) ∧ f_yX1_isInUse M p = some r ∧ f_yX9_isInUse N (nI p) = some r := lk_use h hp 6 0 63 (by decide)
theorem pat_in {p : Nat} (h : p < 8) : f_yX8_programAt M (nI p) = some (some p) := by
  unfold f_yX8_programAt
  simp (disch := omega) only [↓gd_b, gd_t, gd_f, ↓ob1_s, ob1_s, ↓ob2_s, ob2_s, ↓om_n, ↓om_s, om_n, om_s, ↓lt1, ↓reduceIte, or_true, true_or, or_false, false_or, and_true, true_and, and_false, false_and, not_true_eq_false, not_false_eq_true, ite_self, S2_ret, eq_self, llA, llM, llm, llS, lle_f, lle_t, lle2_f, lle2_t, llt_f, llt_t, llt2_f, llt2_t, leq_f, leq_t, lz_f, lzl_t, nI_add, nI_clamp, nle_f, nle_t, nlt_f, nlt_t, neq_f, neq_t]
theorem pat_out {x : Int32} (h : x < 0 ∨ nI 8 ≤ x) : f_yX8_programAt M x = some none := by
  unfold f_yX8_programAt
  by_cases h0 : x < 0
  · rw [if_pos h0]
  · rw [if_neg h0, if_pos (show (8 : Int32) ≤ x from h.resolve_left h0)]
theorem RR.w5 (h : RR z b n M N) {p q : Nat} (hp : p < 8) (hq : q ≤ 40) : RR z b n (mp M 5 p 0 (nI q)) (mp N 29 0 p (nI q)) :=
  ⟨h.1.pw (q := (29, p)) (by show (if p < 8 ∧ 0 = 0 then some (29, p) else none) = _; rw [if_pos ⟨hp, rfl⟩]) (by omega) (by omega) _, h.2.pr (t := p) (fun c _ h5 _ => mp_pool M _ h5) (fun u hu => mp_row M _ _ (fun z => hu z.2)) (fun u hu => by rw [mp_pool M _ (by decide)]) (fun _ => by
    rw [mp_pool M (c' := 14) _ (by decide)]
    exact ⟨⟨q, hq, mp_eq M 5 p 0 _⟩, (h.pi hp).2⟩) (NF.mp _ (by decide) (by decide) (by omega) (by omega) (by omega))⟩
theorem pm_wipe (h : RR z b n M N) (x1 : Int32) : Rw z b n (f_yX8_wipe M x1) (f_yX9_wipe N x1) := by
  unfold f_yX8_wipe f_yX9_wipe
  rcases ix6 x1 8 (by decide) with h1 | ⟨p, hp, rfl⟩
  · rw [pat_out h1, in_out (n := 8) (by decide) (by decide) h1]; exact S2.ret ⟨rfl, h⟩
  · rw [pat_in hp, in_in (n := 8) (by decide) hp (by decide)]
    obtain ⟨r, r1, r2, r3⟩ := use2 h hp
    rcases r1 with rfl | rfl
    · simp (disch := omega) only [↓gd_b, gd_t, gd_f, ↓ob1_s, ob1_s, ↓ob2_s, ob2_s, ↓om_n, ↓om_s, om_n, om_s, ↓lt1, ↓reduceIte, or_true, true_or, or_false, false_or, and_true, true_and, and_false, false_and, not_true_eq_false, not_false_eq_true, ite_self, S2_ret, eq_self, llA, llM, llm, llS, lle_f, lle_t, lle2_f, lle2_t, llt_f, llt_t, llt2_f, llt2_t, leq_f, leq_t, lz_f, lzl_t, nI_add, nI_clamp, nle_f, nle_t, nlt_f, nlt_t, neq_f, neq_t, one_ne, r2, r3, h.n29]
      exact h.w5 (q := 0) hp (by decide)
    · simp (disch := omega) only [↓gd_b, gd_t, gd_f, ↓ob1_s, ob1_s, ↓ob2_s, ob2_s, ↓om_n, ↓om_s, om_n, om_s, ↓lt1, ↓reduceIte, or_true, true_or, or_false, false_or, and_true, true_and, and_false, false_and, not_true_eq_false, not_false_eq_true, ite_self, S2_ret, eq_self, llA, llM, llm, llS, lle_f, lle_t, lle2_f, lle2_t, llt_f, llt_t, llt2_f, llt2_t, leq_f, leq_t, lz_f, lzl_t, nI_add, nI_clamp, nle_f, nle_t, nlt_f, nlt_t, neq_f, neq_t, one_ne, r2, r3]
      exact h
/-! what may be named -/
def okn (L v : Int32) : Int32 := if L = -1 then 1 else if v < 0 then 0 else if L < v then 0 else 1
def lim (d : Int32) : Int32 := if d = 0 then -1 else if d = 1 then 5 else if d = 2 then 40 else if d = 3 then 7 else 4095
theorem mayName_eq {q : Nat} (hq : q < 111) (v : Int32) : f_yX3_mayName (nI q) v = some (okn (sc 5 q) v) := by
  unfold f_yX3_mayName okn
  simp (disch := omega) only [↓gd_b, gd_t, gd_f, ↓ob1_s, ob1_s, ↓ob2_s, ob2_s, ↓om_n, ↓om_s, om_n, om_s, ↓lt1, ↓reduceIte, or_true, true_or, or_false, false_or, and_true, true_and, and_false, false_and, not_true_eq_false, not_false_eq_true, ite_self, S2_ret, eq_self, llA, llM, llm, llS, lle_f, lle_t, lle2_f, lle2_t, llt_f, llt_t, llt2_f, llt2_t, leq_f, leq_t, lz_f, lzl_t, nI_add, nI_clamp, nle_f, nle_t, nlt_f, nlt_t, neq_f, neq_t]
  by_cases h1 : sc 5 q = -1
  · rw [if_pos h1, if_pos h1]
  · rw [if_neg h1, if_neg h1]
    by_cases h2 : v < 0
    · rw [if_pos h2, if_pos h2]
    · rw [if_neg h2, if_neg h2]
      by_cases h3 : sc 5 q < v
      · rw [if_pos h3, if_pos h3]
      · rw [if_neg h3, if_neg h3]
theorem in_ok {L : Int32} (hL : ¬ L = -1) (v : Int32) : ob1 (f_yX9_in v 0 L) (fun r15 => (if r15 = 0 then (some (0 : Int32)) else (some 1))) = some (okn L v) := by
  unfold f_yX9_in okn
  rw [if_neg hL]
  by_cases h2 : v < 0
  · rw [if_pos h2, if_pos h2]; rfl
  · rw [if_neg h2, if_neg h2]
    by_cases h3 : L < v
    · rw [if_pos h3, if_pos h3]; rfl
    · rw [if_neg h3, if_neg h3]; rfl
theorem isWell_eq (d v : Int32) : f_yX9_isWell d v = some (okn (lim d) v) := by
  unfold f_yX9_isWell lim
  by_cases h0 : d = 0
  · rw [if_pos h0, if_pos h0]; rfl
  · rw [if_neg h0, if_neg h0]
    by_cases h1 : d = 1
    · rw [if_pos h1, if_pos h1]; exact in_ok (by decide) v
    · rw [if_neg h1, if_neg h1]
      by_cases h2 : d = 2
      · rw [if_pos h2, if_pos h2]; exact in_ok (by decide) v
      · rw [if_neg h2, if_neg h2]
        by_cases h3 : d = 3
        · rw [if_pos h3, if_pos h3]; exact in_ok (by decide) v
        · rw [if_neg h3, if_neg h3]; exact in_ok (by decide) v
theorem nm_tab : ∀ o, o < 37 → (lim (nmL.getD o 0 / 100) = sc 5 (3 * o) ∧ lim (nmL.getD o 0 / 10 - nmL.getD o 0 / 10 / 10 * 10) = sc 5 (3 * o + 1) ∧ lim (nmL.getD o 0 - nmL.getD o 0 / 10 * 10) = sc 5 (3 * o + 2)) := by decide +kernel
theorem okn_cases (L v : Int32) : okn L v = 0 ∨ okn L v = 1 := by
  unfold okn
  repeat' split
  all_goals first | exact Or.inl rfl | exact Or.inr rfl
theorem wn_eq {o : Nat} (ho : o < 37) (a c d : Int32) : f_yX3_isWellNamed (nI o) a c d = some (if okn (sc 5 (3 * o)) a = 0 then 0 else if okn (sc 5 (3 * o + 1)) c = 0 then 0 else if okn (sc 5 (3 * o + 2)) d = 0 then 0 else 1) := by
  unfold f_yX3_isWellNamed
  simp (disch := omega) only [llM, llA, mayName_eq, ob1_s]
  rw [if_neg (nI_pos (by omega)), if_neg (show ¬ (37 : Int32) ≤ nI o from nI_ge (b := 37) ho (by decide))]
  repeat' split
  all_goals first | rfl | (exfalso; simp_all)
theorem RR.w14 (h : RR z b n M N) {p q : Nat} (hp : p < 8) (hq : q < 40) (hs : M 5 p 0 = nI q) (o a c d : Int32) (hw : f_yX3_isWellNamed o a c d = some 1) :
    RR z b n (mp (mp (mp (mp (mp M 14 p (4 * q) o) 14 p (4 * q + 1) a) 14 p (4 * q + 2) c) 14 p (4 * q + 3) d) 5 p 0 (nI (q + 1))) (mp (mp (mp (mp (mp N 28 0 (160 * p + (4 * q)) o) 28 0 (160 * p + (4 * q + 1)) a) 28 0 (160 * p + (4 * q + 2)) c) 28 0 (160 * p + (4 * q + 3)) d) 29 0 p (nI (q + 1))) := by
  refine ⟨?_, ?_⟩
  · refine R0.pw (q := (29, p)) ?_ (by show (if p < 8 ∧ 0 = 0 then some (29, p) else none) = _; rw [if_pos ⟨hp, rfl⟩]) (by omega) (by omega) _
    refine R0.pw (q := (28, 160 * p + (4 * q + 3))) ?_ (by show (if p < 8 ∧ 4 * q + 3 < 160 then some (28, 160 * p + (4 * q + 3)) else none) = _; rw [if_pos ⟨hp, by omega⟩]) (by omega) (by omega) _
    refine R0.pw (q := (28, 160 * p + (4 * q + 2))) ?_ (by show (if p < 8 ∧ 4 * q + 2 < 160 then some (28, 160 * p + (4 * q + 2)) else none) = _; rw [if_pos ⟨hp, by omega⟩]) (by omega) (by omega) _
    refine R0.pw (q := (28, 160 * p + (4 * q + 1))) ?_ (by show (if p < 8 ∧ 4 * q + 1 < 160 then some (28, 160 * p + (4 * q + 1)) else none) = _; rw [if_pos ⟨hp, by omega⟩]) (by omega) (by omega) _
    exact R0.pw (q := (28, 160 * p + (4 * q))) h.1 (by show (if p < 8 ∧ 4 * q < 160 then some (28, 160 * p + (4 * q)) else none) = _; rw [if_pos ⟨hp, by omega⟩]) (by omega) (by omega) _
  · refine h.2.pr (t := p) (fun c _ h5 h14 => by simp [mp_pool, h5, h14]) (fun u hu => by simp [mp_row, hu]) (fun u hu => by simp [mp_row, hu]) (fun _ => ?_) ⟨fun x => by simp [mp], fun x => by simp [mp], by simp [mp], fun x => by simp [mp], fun x _ => by simp [mp]⟩
    obtain ⟨_, h2⟩ := h.pi hp
    refine ⟨⟨q + 1, by omega, by simp [mp]⟩, fun r hr => ?_⟩
    by_cases e : r = q
    · subst e
      have e0 : (mp (mp (mp (mp (mp M 14 p (4 * r) o) 14 p (4 * r + 1) a) 14 p (4 * r + 2) c) 14 p (4 * r + 3) d) 5 p 0 (nI (r + 1))) 14 p (4 * r) = o := by simp [mp]
      have e1 : (mp (mp (mp (mp (mp M 14 p (4 * r) o) 14 p (4 * r + 1) a) 14 p (4 * r + 2) c) 14 p (4 * r + 3) d) 5 p 0 (nI (r + 1))) 14 p (4 * r + 1) = a := by simp [mp]
      have e2 : (mp (mp (mp (mp (mp M 14 p (4 * r) o) 14 p (4 * r + 1) a) 14 p (4 * r + 2) c) 14 p (4 * r + 3) d) 5 p 0 (nI (r + 1))) 14 p (4 * r + 2) = c := by simp [mp]
      have e3 : (mp (mp (mp (mp (mp M 14 p (4 * r) o) 14 p (4 * r + 1) a) 14 p (4 * r + 2) c) 14 p (4 * r + 3) d) 5 p 0 (nI (r + 1))) 14 p (4 * r + 3) = d := by simp [mp]
      rw [e0, e1, e2, e3]; exact hw
    · have ef : ∀ k, k < 4 → (mp (mp (mp (mp (mp M 14 p (4 * q) o) 14 p (4 * q + 1) a) 14 p (4 * q + 2) c) 14 p (4 * q + 3) d) 5 p 0 (nI (q + 1))) 14 p (4 * r + k) = M 14 p (4 * r + k) := fun k hk => by
        rw [mp_ne _ _ (by omega), mp_ne _ _ (by omega), mp_ne _ _ (by omega), mp_ne _ _ (by omega), mp_ne _ _ (by omega)]
      have ef0 := ef 0 (by decide)
      simp only [Nat.add_zero] at ef0
      rw [ef0, ef 1 (by decide), ef 2 (by decide), ef 3 (by decide)]
      exact h2 r hr
theorem pm_act (h : RR z b n M N) (x1 x2 x3 x4 x5 : Int32) : Rw z b n (f_yX8_act M x1 x2 x3 x4 x5) (f_yX9_act N x1 x2 x3 x4 x5) := by
  unfold f_yX8_act f_yX9_act
  rcases ix6 x1 8 (by decide) with h1 | ⟨p, hp, rfl⟩
  · rw [pat_out h1, in_out (n := 8) (by decide) (by decide) h1]; exact S2.ret ⟨rfl, h⟩
  · rw [pat_in hp, in_in (n := 8) (by decide) hp (by decide)]
    rcases ix6 x2 37 (by decide) with h2 | ⟨o, ho, rfl⟩
    · have e : f_yX3_isWellNamed x2 x3 x4 x5 = some 0 := by
        unfold f_yX3_isWellNamed
        by_cases h0 : x2 < 0
        · rw [if_pos h0]
        · rw [if_neg h0, if_pos (show (37 : Int32) ≤ x2 from h2.resolve_left h0)]
      rw [in_out (n := 37) (by decide) (by decide) h2, e]
      simp (disch := omega) only [↓gd_b, gd_t, gd_f, ↓ob1_s, ob1_s, ↓ob2_s, ob2_s, ↓om_n, ↓om_s, om_n, om_s, ↓lt1, ↓reduceIte, or_true, true_or, or_false, false_or, and_true, true_and, and_false, false_and, not_true_eq_false, not_false_eq_true, ite_self, S2_ret, eq_self, llA, llM, llm, llS, lle_f, lle_t, lle2_f, lle2_t, llt_f, llt_t, llt2_f, llt2_t, leq_f, leq_t, lz_f, lzl_t, nI_add, nI_clamp, nle_f, nle_t, nlt_f, nlt_t, neq_f, neq_t, one_ne]
      exact h
    · rw [in_in (n := 37) (by decide) ho (by decide)]
      have hw := wn_eq ho x3 x4 x5
      obtain ⟨t1, t2, t3⟩ := nm_tab o ho
      have e30 := h.ni.1 o ho
      rcases okn_cases (sc 5 (3 * o)) x3 with k1 | k1
      · rw [hw, k1]
        simp (disch := omega) only [↓gd_b, gd_t, gd_f, ↓ob1_s, ob1_s, ↓ob2_s, ob2_s, ↓om_n, ↓om_s, om_n, om_s, ↓lt1, ↓reduceIte, or_true, true_or, or_false, false_or, and_true, true_and, and_false, false_and, not_true_eq_false, not_false_eq_true, ite_self, S2_ret, eq_self, llA, llM, llm, llS, lle_f, lle_t, lle2_f, lle2_t, llt_f, llt_t, llt2_f, llt2_t, leq_f, leq_t, lz_f, lzl_t, nI_add, nI_clamp, nle_f, nle_t, nlt_f, nlt_t, neq_f, neq_t, one_ne, e30, isWell_eq, t1, k1]
        exact h
      · rcases okn_cases (sc 5 (3 * o + 1)) x4 with k2 | k2
        · rw [hw, k1, k2]
          simp (disch := omega) only [↓gd_b, gd_t, gd_f, ↓ob1_s, ob1_s, ↓ob2_s, ob2_s, ↓om_n, ↓om_s, om_n, om_s, ↓lt1, ↓reduceIte, or_true, true_or, or_false, false_or, and_true, true_and, and_false, false_and, not_true_eq_false, not_false_eq_true, ite_self, S2_ret, eq_self, llA, llM, llm, llS, lle_f, lle_t, lle2_f, lle2_t, llt_f, llt_t, llt2_f, llt2_t, leq_f, leq_t, lz_f, lzl_t, nI_add, nI_clamp, nle_f, nle_t, nlt_f, nlt_t, neq_f, neq_t, one_ne, e30, isWell_eq, t1, k1, t2, k2]
          exact h
        · rcases okn_cases (sc 5 (3 * o + 2)) x5 with k3 | k3
          · rw [hw, k1, k2, k3]
            simp (disch := omega) only [↓gd_b, gd_t, gd_f, ↓ob1_s, ob1_s, ↓ob2_s, ob2_s, ↓om_n, ↓om_s, om_n, om_s, ↓lt1, ↓reduceIte, or_true, true_or, or_false, false_or, and_true, true_and, and_false, false_and, not_true_eq_false, not_false_eq_true, ite_self, S2_ret, eq_self, llA, llM, llm, llS, lle_f, lle_t, lle2_f, lle2_t, llt_f, llt_t, llt2_f, llt2_t, leq_f, leq_t, lz_f, lzl_t, nI_add, nI_clamp, nle_f, nle_t, nlt_f, nlt_t, neq_f, neq_t, one_ne, e30, isWell_eq, t1, k1, t2, k2, t3, k3]
            exact h
          · have hw1 : f_yX3_isWellNamed (nI o) x3 x4 x5 = some 1 := by rw [hw, k1, k2, k3]; rfl
            rw [hw1]
            obtain ⟨r, r1, r2, r3⟩ := use2 h hp
            rcases r1 with rfl | rfl
            · obtain ⟨⟨q, q1, q2⟩, _⟩ := h.pi hp
              by_cases hq : q < 40
              · have e4 : f_yX3_append M p (nI o) x3 x4 x5 = some (mp (mp (mp (mp (mp M 14 p (4 * q) (nI o)) 14 p (4 * q + 1) x3) 14 p (4 * q + 2) x4) 14 p (4 * q + 3) x5) 5 p 0 (nI (q + 1))) := by
                  unfold f_yX3_append
                  rw [q2]
                  simp (disch := omega) only [↓gd_b, gd_t, gd_f, ↓ob1_s, ob1_s, ↓ob2_s, ob2_s, ↓om_n, ↓om_s, om_n, om_s, ↓lt1, ↓reduceIte, or_true, true_or, or_false, false_or, and_true, true_and, and_false, false_and, not_true_eq_false, not_false_eq_true, ite_self, S2_ret, eq_self, llA, llM, llm, llS, lle_f, lle_t, lle2_f, lle2_t, llt_f, llt_t, llt2_f, llt2_t, leq_f, leq_t, lz_f, lzl_t, nI_add, nI_clamp, nle_f, nle_t, nlt_f, nlt_t, neq_f, neq_t]
                  rw [show q * 4 = 4 * q by omega]
                  have e5 : (mp (mp (mp (mp M 14 p (4 * q) (nI o)) 14 p (4 * q + 1) x3) 14 p (4 * q + 2) x4) 14 p (4 * q + 3) x5) 5 p 0 = nI q := by simp [mp, q2]
                  rw [e5, nI_1]
                simp (disch := omega) only [↓gd_b, gd_t, gd_f, ↓ob1_s, ob1_s, ↓ob2_s, ob2_s, ↓om_n, ↓om_s, om_n, om_s, ↓lt1, ↓reduceIte, or_true, true_or, or_false, false_or, and_true, true_and, and_false, false_and, not_true_eq_false, not_false_eq_true, ite_self, S2_ret, eq_self, llA, llM, llm, llS, lle_f, lle_t, lle2_f, lle2_t, llt_f, llt_t, llt2_f, llt2_t, leq_f, leq_t, lz_f, lzl_t, nI_add, nI_clamp, nle_f, nle_t, nlt_f, nlt_t, neq_f, neq_t, one_ne, e30, isWell_eq, t1, k1, t2, k2, t3, k3, r2, r3, h.n29, q2, e4]
                have e7 : 4 * (40 * p + q) = 160 * p + (4 * q) := by omega
                simp only [e7, Nat.add_assoc]
                have e8 : (mp (mp (mp (mp N 28 0 (160 * p + 4 * q) (nI o)) 28 0 (160 * p + (4 * q + 1)) x3) 28 0 (160 * p + (4 * q + 2)) x4) 28 0 (160 * p + (4 * q + 3)) x5) 29 0 p = nI q := by simp [mp, h.n29 hp, q2]
                rw [e8, nI_1, mp_eq, mp_eq]
                exact ⟨rfl, h.w14 hp hq q2 _ _ _ _ hw1⟩
              · obtain rfl : q = 40 := by omega
                simp (disch := omega) only [↓gd_b, gd_t, gd_f, ↓ob1_s, ob1_s, ↓ob2_s, ob2_s, ↓om_n, ↓om_s, om_n, om_s, ↓lt1, ↓reduceIte, or_true, true_or, or_false, false_or, and_true, true_and, and_false, false_and, not_true_eq_false, not_false_eq_true, ite_self, S2_ret, eq_self, llA, llM, llm, llS, lle_f, lle_t, lle2_f, lle2_t, llt_f, llt_t, llt2_f, llt2_t, leq_f, leq_t, lz_f, lzl_t, nI_add, nI_clamp, nle_f, nle_t, nlt_f, nlt_t, neq_f, neq_t, one_ne, e30, isWell_eq, t1, k1, t2, k2, t3, k3, r2, r3, h.n29, q2]
                exact h
            · simp (disch := omega) only [↓gd_b, gd_t, gd_f, ↓ob1_s, ob1_s, ↓ob2_s, ob2_s, ↓om_n, ↓om_s, om_n, om_s, ↓lt1, ↓reduceIte, or_true, true_or, or_false, false_or, and_true, true_and, and_false, false_and, not_true_eq_false, not_false_eq_true, ite_self, S2_ret, eq_self, llA, llM, llm, llS, lle_f, lle_t, lle2_f, lle2_t, llt_f, llt_t, llt2_f, llt2_t, leq_f, leq_t, lz_f, lzl_t, nI_add, nI_clamp, nle_f, nle_t, nlt_f, nlt_t, neq_f, neq_t, one_ne, e30, isWell_eq, t1, k1, t2, k2, t3, k3, r2, r3]
              exact h
end ACT
