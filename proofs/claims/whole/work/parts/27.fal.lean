/-! a failure comes -/
theorem mp_swap (M : Mem) (c i k : Nat) (v : Int32) (c' i' k' : Nat) (w : Int32) (h : ¬ (c = c' ∧ i = i' ∧ k = k')) : mp (mp M c i k v) c' i' k' w = mp (mp M c' i' k' w) c i k v := by
  funext a d e
  by_cases h1 : a = c ∧ d = i ∧ e = k
  · have h2 : ¬ (a = c' ∧ d = i' ∧ e = k') := by omega
    obtain ⟨rfl, rfl, rfl⟩ := h1
    rw [mp_ne _ _ h2, mp_eq, mp_eq]
  · by_cases h2 : a = c' ∧ d = i' ∧ e = k'
    · rw [mp_ne _ _ h1]
      obtain ⟨rfl, rfl, rfl⟩ := h2
      rw [mp_eq, mp_eq]
    · rw [mp_ne _ _ h2, mp_ne _ _ h1, mp_ne _ _ h1, mp_ne _ _ h2]
theorem bit01 (x : Int32) : x &&& 1 = 0 ∨ x &&& 1 = 1 := by
  have e : (x &&& 1).toBitVec.toNat = x.toBitVec.toNat % 2 := by
    rw [Int32.toBitVec_and, BitVec.toNat_and]
    exact Nat.and_one_is_mod _
  rcases Nat.mod_two_eq_zero_or_one x.toBitVec.toNat with h | h
  · left
    rw [h] at e
    exact Int32.toBitVec_inj.mp (BitVec.eq_of_toNat_eq e)
  · right
    rw [h] at e
    exact Int32.toBitVec_inj.mp (BitVec.eq_of_toNat_eq e)
theorem neg1 (x : Int32) : x + (-1) = x - 1 := (Int32.sub_eq_add_neg x 1).symm
theorem zero_ne1 : ¬ (0 : Int32) = 1 := by decide
section FAL
variable {z b : Nat} {n : Lg} {M N : Mem}
theorem jumpM {t p s q : Nat} (e1 : M 6 t 1 = nI p) (hp : p < 8) (es : M 5 p 0 = nI s) (hs : s ≤ 40) (hq : q ≤ 40) : f_yX5_jump M t (nI q) = some (mp M 6 t 3 (nI (min q s))) := by
  unfold f_yX5_jump f_yJ9_min_7cf53
  by_cases h : q ≤ s
  · have h1 : ¬ nI s < nI q := fun w => by rw [nI_ltI (by omega) (by omega)] at w; omega
    rw [Nat.min_eq_left h]
    simp (disch := omega) only [↓gd_b, gd_t, gd_f, ↓ob1_s, ob1_s, ↓ob2_s, ob2_s, ↓om_n, ↓om_s, om_n, om_s, ↓lt1, ↓reduceIte, or_true, true_or, or_false, false_or, and_true, true_and, and_false, false_and, not_true_eq_false, not_false_eq_true, ite_self, S2_ret, eq_self, llA, llM, llm, llS, lle_f, lle_t, lle2_f, lle2_t, llt_f, llt_t, llt2_f, llt2_t, leq_f, leq_t, lz_f, lzl_t, nI_add, nI_clamp, nle_f, nle_t, nlt_f, nlt_t, neq_f, neq_t, e1, es, h1]
  · have h1 : nI s < nI q := nI_lt (by omega) (by omega)
    rw [Nat.min_eq_right (by omega)]
    simp (disch := omega) only [↓gd_b, gd_t, gd_f, ↓ob1_s, ob1_s, ↓ob2_s, ob2_s, ↓om_n, ↓om_s, om_n, om_s, ↓lt1, ↓reduceIte, or_true, true_or, or_false, false_or, and_true, true_and, and_false, false_and, not_true_eq_false, not_false_eq_true, ite_self, S2_ret, eq_self, llA, llM, llm, llS, lle_f, lle_t, lle2_f, lle2_t, llt_f, llt_t, llt2_f, llt2_t, leq_f, leq_t, lz_f, lzl_t, nI_add, nI_clamp, nle_f, nle_t, nlt_f, nlt_t, neq_f, neq_t, e1, es, h1]
theorem jumpN {t p s q : Nat} (ht : t < 6) (e1 : N 32 0 t = nI p) (hp : p < 8) (es : N 29 0 p = nI s) (hs : s ≤ 40) (hq : q ≤ 40) : f_yX9_goesTo N (nI t) (nI q) = some (mp N 34 0 t (nI (min q s))) := by
  unfold f_yX9_goesTo
  by_cases h : q ≤ s
  · have h1 : nI q ≤ nI s := nI_le h (by omega)
    rw [Nat.min_eq_left h]
    simp (disch := omega) only [↓gd_b, gd_t, gd_f, ↓ob1_s, ob1_s, ↓ob2_s, ob2_s, ↓om_n, ↓om_s, om_n, om_s, ↓lt1, ↓reduceIte, or_true, true_or, or_false, false_or, and_true, true_and, and_false, false_and, not_true_eq_false, not_false_eq_true, ite_self, S2_ret, eq_self, llA, llM, llm, llS, lle_f, lle_t, lle2_f, lle2_t, llt_f, llt_t, llt2_f, llt2_t, leq_f, leq_t, lz_f, lzl_t, nI_add, nI_clamp, nle_f, nle_t, nlt_f, nlt_t, neq_f, neq_t, e1, es, h1]
  · have h1 : ¬ nI q ≤ nI s := fun w => by rw [nI_leI (by omega) (by omega)] at w; omega
    rw [Nat.min_eq_right (by omega)]
    simp (disch := omega) only [↓gd_b, gd_t, gd_f, ↓ob1_s, ob1_s, ↓ob2_s, ob2_s, ↓om_n, ↓om_s, om_n, om_s, ↓lt1, ↓reduceIte, or_true, true_or, or_false, false_or, and_true, true_and, and_false, false_and, not_true_eq_false, not_false_eq_true, ite_self, S2_ret, eq_self, llA, llM, llm, llS, lle_f, lle_t, lle2_f, lle2_t, llt_f, llt_t, llt2_f, llt2_t, leq_f, leq_t, lz_f, lzl_t, nI_add, nI_clamp, nle_f, nle_t, nlt_f, nlt_t, neq_f, neq_t, e1, es, h1]
theorem lk_jump (h : RR z b n M N) {t q : Nat} (ht : t < 6) (h0 : ¬ M 6 t 0 = 0) (hq : q ≤ 40) : ∃ l, l ≤ 40 ∧ f_yX5_jump M t (nI q) = some (mp M 6 t 3 (nI l)) ∧ f_yX9_goesTo N (nI t) (nI q) = some (mp N 34 0 t (nI l)) := by
  obtain ⟨p, hp, ep⟩ := (h.ti ht).2.2.1 h0
  obtain ⟨s, hs, es⟩ := (h.pi hp).1
  refine ⟨min q s, by omega, jumpM ep hp es hs hq, jumpN ht (by rw [h.n32 ht h0, ep]) hp (by rw [h.n29 hp, es]) hs hq⟩
/-- what the second does with a handler -/
def HN (N : Mem) (t j : Nat) (k g : Int32) : Mem := mp (mp (mp (mp N 46 0 t (nI j)) 44 0 t k) 45 0 t g) 20 0 10 (N 20 0 10 + 1)
theorem lk_lat {t kd : Nat} (ht : t < 6) (e48 : ∀ r, r < 8 → N 48 0 (8 * t + r) = M 18 t r) (e7 : N 20 0 7 = nI kd) : ∀ d m, d ≤ 8 → ∃ r, f_yX2_latestFor_L12 (m + d + 1) M t (nI kd) (nI d - 1) = some r ∧
    ((r = -4 ∧ f_yX9_fails_L32 (m + d + 1) N (nI t) (nI d - 1) = ob1 (f_yX9_ends N (nI t) (N 20 0 7) (N 20 0 8)) (fun N8 => (some N8))) ∨
     ∃ j, j < d ∧ r = nI j ∧ f_yX9_fails_L32 (m + d + 1) N (nI t) (nI d - 1) = ob1 (f_yX9_goesTo (HN N t j (nI kd) (N 20 0 8)) (nI t) (N 47 0 (8 * t + j))) (fun N18 => (some N18))) := by
  intro d
  induction d with
  | zero =>
    intro m _
    refine ⟨-4, ?_, Or.inl ⟨rfl, ?_⟩⟩
    · rw [f_yX2_latestFor_L12, if_pos (by decide)]
    · rw [f_yX9_fails_L32, if_pos (by decide)]
  | succ d ih =>
    intro m hd
    have e1 : nI (d + 1) - 1 = nI d := by
      rw [show (1 : Int32) = nI 1 from rfl, llS' 1 (by omega)]
      rfl
    rw [e1, f_yX2_latestFor_L12, f_yX9_fails_L32]
    have e2 := e48 d (by omega)
    rcases bit01 (M 18 t d >>> (nI kd &&& 31)) with hx | hx
    · obtain ⟨r, q1, q2⟩ := ih m (by omega)
      simp (disch := omega) only [↓gd_b, gd_t, gd_f, ↓ob1_s, ob1_s, ↓ob2_s, ob2_s, ↓om_n, ↓om_s, om_n, om_s, ↓lt1, ↓reduceIte, or_true, true_or, or_false, false_or, and_true, true_and, and_false, false_and, not_true_eq_false, not_false_eq_true, ite_self, S2_ret, eq_self, llA, llM, llm, llS, lle_f, lle_t, lle2_f, lle2_t, llt_f, llt_t, llt2_f, llt2_t, leq_f, leq_t, lz_f, lzl_t, nI_add, nI_clamp, nle_f, nle_t, nlt_f, nlt_t, neq_f, neq_t, e2, e7, hx, zero_ne1, neg1]
      refine ⟨r, q1, q2.imp (fun w => ⟨w.1, ?_⟩) (fun ⟨j, j1, j2, j3⟩ => ⟨j, by omega, j2, j3⟩)⟩
      rw [← e7]
      exact w.2
    · refine ⟨nI d, ?_, Or.inr ⟨d, by omega, rfl, ?_⟩⟩
      · simp (disch := omega) only [↓gd_b, gd_t, gd_f, ↓ob1_s, ob1_s, ↓ob2_s, ob2_s, ↓om_n, ↓om_s, om_n, om_s, ↓lt1, ↓reduceIte, or_true, true_or, or_false, false_or, and_true, true_and, and_false, false_and, not_true_eq_false, not_false_eq_true, ite_self, S2_ret, eq_self, llA, llM, llm, llS, lle_f, lle_t, lle2_f, lle2_t, llt_f, llt_t, llt2_f, llt2_t, leq_f, leq_t, lz_f, lzl_t, nI_add, nI_clamp, nle_f, nle_t, nlt_f, nlt_t, neq_f, neq_t, hx]
      · have r1 : mp N 46 0 t (nI d) 20 0 7 = nI kd := by rw [mp_ne _ _ (by omega), e7]
        have r2 : mp (mp N 46 0 t (nI d)) 44 0 t (nI kd) 20 0 8 = N 20 0 8 := by rw [mp_ne _ _ (by omega), mp_ne _ _ (by omega)]
        have r3 : mp (mp (mp N 46 0 t (nI d)) 44 0 t (nI kd)) 45 0 t (N 20 0 8) 20 0 10 = N 20 0 10 := by rw [mp_ne _ _ (by omega), mp_ne _ _ (by omega), mp_ne _ _ (by omega)]
        have r4 : mp (mp (mp (mp N 46 0 t (nI d)) 44 0 t (nI kd)) 45 0 t (N 20 0 8)) 20 0 10 (N 20 0 10 + 1) 47 0 (8 * t + d) = N 47 0 (8 * t + d) := by rw [mp_ne _ _ (by omega), mp_ne _ _ (by omega), mp_ne _ _ (by omega), mp_ne _ _ (by omega)]
        simp (disch := omega) only [↓gd_b, gd_t, gd_f, ↓ob1_s, ob1_s, ↓ob2_s, ob2_s, ↓om_n, ↓om_s, om_n, om_s, ↓lt1, ↓reduceIte, or_true, true_or, or_false, false_or, and_true, true_and, and_false, false_and, not_true_eq_false, not_false_eq_true, ite_self, S2_ret, eq_self, llA, llM, llm, llS, lle_f, lle_t, lle2_f, lle2_t, llt_f, llt_t, llt2_f, llt2_t, leq_f, leq_t, lz_f, lzl_t, nI_add, nI_clamp, nle_f, nle_t, nlt_f, nlt_t, neq_f, neq_t, e2, e7, hx, one_ne, r1, r2, r3, r4, HN]
theorem cf0 {kd : Nat} (hk : kd < 12) : f_yX6_countFailure M (nI kd) 0 = some (mp (mp M 12 0 kd (M 12 0 kd + 1)) 4 0 0 (M 4 0 0 + 1)) := by
  unfold f_yX6_countFailure
  have r1 : mp M 12 0 kd (M 12 0 kd + 1) 4 0 0 = M 4 0 0 := mp_ne _ _ (by omega)
  simp (disch := omega) only [↓gd_b, gd_t, gd_f, ↓ob1_s, ob1_s, ↓ob2_s, ob2_s, ↓om_n, ↓om_s, om_n, om_s, ↓lt1, ↓reduceIte, or_true, true_or, or_false, false_or, and_true, true_and, and_false, false_and, not_true_eq_false, not_false_eq_true, ite_self, S2_ret, eq_self, llA, llM, llm, llS, lle_f, lle_t, lle2_f, lle2_t, llt_f, llt_t, llt2_f, llt2_t, leq_f, leq_t, lz_f, lzl_t, nI_add, nI_clamp, nle_f, nle_t, nlt_f, nlt_t, neq_f, neq_t, r1]
theorem cf1 {kd : Nat} (hk : kd < 12) : f_yX6_countFailure M (nI kd) 1 = some (mp (mp (mp M 12 0 kd (M 12 0 kd + 1)) 4 0 0 (M 4 0 0 + 1)) 4 0 1 (M 4 0 1 + 1)) := by
  unfold f_yX6_countFailure
  have r1 : mp M 12 0 kd (M 12 0 kd + 1) 4 0 0 = M 4 0 0 := mp_ne _ _ (by omega)
  have r2 : mp (mp M 12 0 kd (M 12 0 kd + 1)) 4 0 0 (M 4 0 0 + 1) 4 0 1 = M 4 0 1 := by rw [mp_ne _ _ (by omega), mp_ne _ _ (by omega)]
  simp (disch := omega) only [↓gd_b, gd_t, gd_f, ↓ob1_s, ob1_s, ↓ob2_s, ob2_s, ↓om_n, ↓om_s, om_n, om_s, ↓lt1, ↓reduceIte, or_true, true_or, or_false, false_or, and_true, true_and, and_false, false_and, not_true_eq_false, not_false_eq_true, ite_self, S2_ret, eq_self, llA, llM, llm, llS, lle_f, lle_t, lle2_f, lle2_t, llt_f, llt_t, llt2_f, llt2_t, leq_f, leq_t, lz_f, lzl_t, nI_add, nI_clamp, nle_f, nle_t, nlt_f, nlt_t, neq_f, neq_t, r1, r2, one_ne]
theorem fail_eq {t : Nat} {x g : Int32} (hg : g = if x = 7 then M 6 t 6 else 0) : f_yX8_fail M t x = ob1 (f_yX2_latestFor M t x) (fun r3 => (if r3 = (-4) then ob1 (f_yX6_countFailure M x 0) (fun M6 => ob1 (f_yX1_end M6 t x g) (fun M9 => (some M9))) else ob1 (f_yX6_countFailure M x 1) (fun M11 => lt1 (mp M11 6 t 7 x) (fun M13 => lt1 (mp M13 6 t 8 g) (fun M14 => ob1 (f_yX2_placeOf M14 t r3) (fun r16 => ob1 (f_yX5_jump M14 t r16) (fun M18 => lt1 (mp M18 7 t 0 r3) (fun M19 => (some M19))))))))) := by
  unfold f_yX8_fail
  by_cases h : x = 7
  · rw [if_pos h] at hg
    rw [if_pos h, hg]
  · rw [if_neg h] at hg
    rw [if_neg h, hg]
theorem lk_fail (h : RR z b n M N) {t kd : Nat} (ht : t < 6) (h2 : M 6 t 0 = 2) (hk : kd < 12) (e7 : n.2.2.2.2.1 = nI kd) (e8 : n.2.2.2.2.2 = if nI kd = 7 then M 6 t 6 else 0) : Rm z b n (f_yX8_fail M t (nI kd)) (f_yX9_fails N (nI t)) := by
  have h0 : ¬ M 6 t 0 = 0 := by rw [h2]; decide
  have h3 := (h.w12 hk (M 12 0 kd + 1)).wmany (M 4 0 0 + 1)
  have k7 : N 20 0 7 = nI kd := by rw [h.nfl, e7]
  obtain ⟨⟨s, s1, s2⟩, s3⟩ := h.hi ht
  rw [fail_eq e8]
  unfold f_yX9_fails f_yX2_latestFor f_yJ9_min_7cf53
  have r0 : mp N 51 0 kd (N 51 0 kd + 1) 20 0 9 = N 20 0 9 := mp_ne _ _ (by omega)
  rw [k7, gd_b hk (by decide), nI_clamp (by omega), lt1, r0, h.n51 hk, h.nmany, lt1, gd_b ht (by decide), nI_clamp (by omega)]
  rw [s2, if_neg (of_eq_false (llt2_f (k := 8) s1 (by decide))), ob1_s]
  generalize hM3 : mp (mp M 12 0 kd (M 12 0 kd + 1)) 4 0 0 (M 4 0 0 + 1) = M3 at *
  generalize hN3 : mp (mp N 51 0 kd (M 12 0 kd + 1)) 20 0 9 (M 4 0 0 + 1) = N3 at *
  have f1 : ∀ c i k, c ≠ 12 → c ≠ 4 → M3 c i k = M c i k := fun c i k a1 a2 => by
    rw [← hM3, mp_ne _ _ (by omega), mp_ne _ _ (by omega)]
  have f41 : M3 4 0 1 = M 4 0 1 := by rw [← hM3, mp_ne _ _ (by omega), mp_ne _ _ (by omega)]
  have e46 : N3 46 0 t = nI s := by rw [h3.n46 ht, f1 _ _ _ (by decide) (by decide), s2]
  have k7' : N3 20 0 7 = nI kd := by rw [h3.nfl, e7]
  have k8' : N3 20 0 8 = n.2.2.2.2.2 := h3.nfn
  obtain ⟨r, q1, q2⟩ := lk_lat (M := M) (N := N3) (kd := kd) ht (fun r hr => by rw [h3.n48 ht hr, f1 _ _ _ (by decide) (by decide)]) k7' s (69 - s) s1
  rw [show 69 - s + s + 1 = 70 by omega] at q1 q2
  rw [q1, ob1_s, e46]
  rcases q2 with ⟨rfl, q2⟩ | ⟨j, j1, rfl, q2⟩
  · rw [q2, if_pos rfl, cf0 hk, ob1_s, hM3, k7', k8']
    exact (lk_end h3 ht (by rw [f1 _ _ _ (by decide) (by decide), h2]) _ _).b11 (fun a c hq => S2.ret hq)
  · rw [q2, if_neg (ne4 (by omega)), cf1 hk, ob1_s, hM3, k8', ← f41]
    obtain ⟨pl, pl1, pl2⟩ := s3 j (by omega)
    have e47 : N3 47 0 (8 * t + j) = nI pl := by rw [h3.n47 ht (by omega), f1 _ _ _ (by decide) (by decide), pl2]
    obtain ⟨p, hp, ep⟩ := (h.ti ht).2.2.1 h0
    obtain ⟨sz, hsz, es⟩ := (h.pi hp).1
    have h0' : ¬ M3 6 t 0 = 0 := by rw [f1 _ _ _ (by decide) (by decide)]; exact h0
    rw [e47, jumpN (p := p) (s := sz) ht (by unfold HN; rw [mp_ne _ _ (by omega), mp_ne _ _ (by omega), mp_ne _ _ (by omega), mp_ne _ _ (by omega), h3.n32 ht h0', f1 _ _ _ (by decide) (by decide), ep]) hp (by unfold HN; rw [mp_ne _ _ (by omega), mp_ne _ _ (by omega), mp_ne _ _ (by omega), mp_ne _ _ (by omega), h3.n29 hp, f1 _ _ _ (by decide) (by decide), es]) hsz pl1, ob1_s]
    have ep' : f_yX2_placeOf (mp (mp (mp M3 4 0 1 (M3 4 0 1 + 1)) 6 t 7 (nI kd)) 6 t 8 n.2.2.2.2.2) t (nI j) = some (nI pl) := by
      unfold f_yX2_placeOf
      have r1 : mp (mp (mp M3 4 0 1 (M3 4 0 1 + 1)) 6 t 7 (nI kd)) 6 t 8 n.2.2.2.2.2 17 t j = nI pl := by
        rw [mp_ne _ _ (by omega), mp_ne _ _ (by omega), mp_ne _ _ (by omega), f1 _ _ _ (by decide) (by decide), pl2]
      simp (disch := omega) only [↓gd_b, gd_t, gd_f, ↓ob1_s, ob1_s, ↓ob2_s, ob2_s, ↓om_n, ↓om_s, om_n, om_s, ↓lt1, ↓reduceIte, or_true, true_or, or_false, false_or, and_true, true_and, and_false, false_and, not_true_eq_false, not_false_eq_true, ite_self, S2_ret, eq_self, llA, llM, llm, llS, lle_f, lle_t, lle2_f, lle2_t, llt_f, llt_t, llt2_f, llt2_t, leq_f, leq_t, lz_f, lzl_t, nI_add, nI_clamp, nle_f, nle_t, nlt_f, nlt_t, neq_f, neq_t, r1]
    rw [lt1, lt1, ep', ob1_s, jumpM (p := p) (s := sz) (by rw [mp_ne _ _ (by omega), mp_ne _ _ (by omega), mp_ne _ _ (by omega), f1 _ _ _ (by decide) (by decide), ep]) hp (by rw [mp_ne _ _ (by omega), mp_ne _ _ (by omega), mp_ne _ _ (by omega), f1 _ _ _ (by decide) (by decide), es]) hsz pl1, ob1_s, lt1]
    refine S2.ret ?_
    have h4 := ((((h3.w7 (q := j) ht (by omega)).wt (k := 7) ht (by decide) (nI kd)).wt (k := 8) ht (by decide) n.2.2.2.2.2).wmet (M3 4 0 1 + 1)).wt3 (q := min pl sz) ht (by omega)
    have eN : N3 20 0 10 = M3 4 0 1 := h3.nmet
    unfold HN
    rw [eN]
    rw [mp_swap M3 7 t 0 _ 6 t 7 _ (by omega), mp_swap _ 7 t 0 _ 6 t 8 _ (by omega), mp_swap _ 7 t 0 _ 4 0 1 _ (by omega), mp_swap _ 7 t 0 _ 6 t 3 _ (by omega), mp_swap _ 6 t 8 _ 4 0 1 _ (by omega), mp_swap _ 6 t 7 _ 4 0 1 _ (by omega)] at h4
    exact h4
/-! the log -/
def lgw (w : Nat → Int32) (i : Nat) (x y f : Int32) : Nat → Int32 := fun k => if k = i + 2 then f else if k = i + 1 then y else if k = i then x else w k
theorem rm60 {a : Nat} (ha : a < 2147483648) : nI a - nI a / 60 * 60 = nI (a % 60) := pk_rem (d := 60) ha (by decide) (by decide)
theorem fm60 {a : Nat} (ha : a < 2147483648) : f_yJ9_floorMod_7cf53 (nI a) 60 = some (nI (a % 60)) := fmod (d := 60) ha (by decide) (by decide)
theorem lk_note (h : RR z b n M N) (hq : n.2.2.1 < 2000000000) (x y f : Int32) : ∃ M', f_yX6_note M x y f = some M' ∧ RR z b (lgw n.1 (3 * (n.2.2.1 % 60)) x y f, n.2.1, n.2.2.1 + 1, n.2.2.2.1, n.2.2.2.2.1, n.2.2.2.2.2) M' N ∧ ∀ c i k, c ≠ 13 → c ≠ 4 → M' c i k = M c i k := by
  have e := h.mlog
  have hm := Nat.mod_lt n.2.2.1 (show 0 < 60 by decide)
  refine ⟨mp (mp (mp (mp M 13 0 (3 * (n.2.2.1 % 60)) x) 13 0 (3 * (n.2.2.1 % 60) + 1) y) 13 0 (3 * (n.2.2.1 % 60) + 2) f) 4 0 2 (nI (n.2.2.1 + 1)), ?_, ?_, ?_⟩
  · unfold f_yX6_note
    rw [e, fm60 (by omega)]
    generalize n.2.2.1 % 60 = i at hm ⊢
    have r1 : mp (mp (mp M 13 0 (3 * i) x) 13 0 (3 * i + 1) y) 13 0 (3 * i + 2) f 4 0 2 = nI n.2.2.1 := by rw [mp_ne _ _ (by omega), mp_ne _ _ (by omega), mp_ne _ _ (by omega), e]
    have r0 : nI i * 3 = nI (3 * i) := by rw [show (3 : Int32) = nI 3 from rfl, pk_mul, Nat.mul_comm]
    rw [ob1_s, r0]
    simp (disch := omega) only [↓gd_b, gd_t, gd_f, ↓ob1_s, ob1_s, ↓ob2_s, ob2_s, ↓om_n, ↓om_s, om_n, om_s, ↓lt1, ↓reduceIte, or_true, true_or, or_false, false_or, and_true, true_and, and_false, false_and, not_true_eq_false, not_false_eq_true, ite_self, S2_ret, eq_self, llA, llM, llm, llS, lle_f, lle_t, lle2_f, lle2_t, llt_f, llt_t, llt2_f, llt2_t, leq_f, leq_t, lz_f, lzl_t, nI_add, nI_clamp, nle_f, nle_t, nlt_f, nlt_t, neq_f, neq_t, r1]
  · refine h.note ?_ ?_ (mp_eq _ _ _ _ _)
    · intro c i k h1 h2
      rw [mp_ne _ _ h2, mp_ne _ _ (by omega), mp_ne _ _ (by omega), mp_ne _ _ (by omega)]
    · rw [mp_pool _ _ (by decide), ← h.m13]
      funext k
      unfold lgw
      by_cases k2 : k = 3 * (n.2.2.1 % 60) + 2
      · rw [if_pos k2, k2, mp_eq]
      · rw [if_neg k2, mp_ne _ _ (by omega)]
        by_cases k1 : k = 3 * (n.2.2.1 % 60) + 1
        · rw [if_pos k1, k1, mp_eq]
        · rw [if_neg k1, mp_ne _ _ (by omega)]
          by_cases k0 : k = 3 * (n.2.2.1 % 60)
          · rw [if_pos k0, k0, mp_eq]
          · rw [if_neg k0, mp_ne _ _ (by omega)]
  · intro c i k h1 h2
    rw [mp_ne _ _ (by omega), mp_ne _ _ (by omega), mp_ne _ _ (by omega), mp_ne _ _ (by omega)]
def lgN (N : Mem) (r p : Int32) : Option (Int32 × Mem) := gd (¬ ((3 * ((N 20 0 12) - (N 20 0 12) / 60 * 60)) < 0 ∨ 180 ≤ (3 * ((N 20 0 12) - (N 20 0 12) / 60 * 60)).toNatClampNeg)) (lt1 (mp N 52 0 (3 * ((N 20 0 12) - (N 20 0 12) / 60 * 60)).toNatClampNeg r) (fun N32 => gd (¬ (((3 * ((N 20 0 12) - (N 20 0 12) / 60 * 60)) + 1) < 0 ∨ 180 ≤ ((3 * ((N 20 0 12) - (N 20 0 12) / 60 * 60)) + 1).toNatClampNeg)) (lt1 (mp N32 52 0 ((3 * ((N 20 0 12) - (N 20 0 12) / 60 * 60)) + 1).toNatClampNeg p) (fun N34 => gd (¬ (((3 * ((N 20 0 12) - (N 20 0 12) / 60 * 60)) + 2) < 0 ∨ 180 ≤ ((3 * ((N 20 0 12) - (N 20 0 12) / 60 * 60)) + 2).toNatClampNeg)) (lt1 (mp N34 52 0 ((3 * ((N 20 0 12) - (N 20 0 12) / 60 * 60)) + 2).toNatClampNeg (N34 20 0 7)) (fun N36 => lt1 (mp N36 20 0 12 ((N36 20 0 12) + 1)) (fun N37 => (some (r, N37)))))))))
theorem lk_log (h : RR z b n M N) (hq : n.2.2.2.1 < 2000000000) (x y : Int32) : ∃ N', lgN N x y = some (x, N') ∧ RR z b (n.1, lgw n.2.1 (3 * (n.2.2.2.1 % 60)) x y n.2.2.2.2.1, n.2.2.1, n.2.2.2.1 + 1, n.2.2.2.2.1, n.2.2.2.2.2) M N' := by
  have e := h.nlog
  have e7 := h.nfl
  have hm := Nat.mod_lt n.2.2.2.1 (show 0 < 60 by decide)
  refine ⟨mp (mp (mp (mp N 52 0 (3 * (n.2.2.2.1 % 60)) x) 52 0 (3 * (n.2.2.2.1 % 60) + 1) y) 52 0 (3 * (n.2.2.2.1 % 60) + 2) n.2.2.2.2.1) 20 0 12 (nI (n.2.2.2.1 + 1)), ?_, ?_⟩
  · unfold lgN
    rw [e, rm60 (by omega)]
    generalize n.2.2.2.1 % 60 = i at hm ⊢
    have r1 : mp (mp (mp N 52 0 (3 * i) x) 52 0 (3 * i + 1) y) 52 0 (3 * i + 2) n.2.2.2.2.1 20 0 12 = nI n.2.2.2.1 := by rw [mp_ne _ _ (by omega), mp_ne _ _ (by omega), mp_ne _ _ (by omega), e]
    have r2 : mp (mp N 52 0 (3 * i) x) 52 0 (3 * i + 1) y 20 0 7 = n.2.2.2.2.1 := by rw [mp_ne _ _ (by omega), mp_ne _ _ (by omega), e7]
    simp (disch := omega) only [↓gd_b, gd_t, gd_f, ↓ob1_s, ob1_s, ↓ob2_s, ob2_s, ↓om_n, ↓om_s, om_n, om_s, ↓lt1, ↓reduceIte, or_true, true_or, or_false, false_or, and_true, true_and, and_false, false_and, not_true_eq_false, not_false_eq_true, ite_self, S2_ret, eq_self, llA, llM, llm, llS, lle_f, lle_t, lle2_f, lle2_t, llt_f, llt_t, llt2_f, llt2_t, leq_f, leq_t, lz_f, lzl_t, nI_add, nI_clamp, nle_f, nle_t, nlt_f, nlt_t, neq_f, neq_t, r1, r2]
  · refine h.logw ?_ ?_ (mp_eq _ _ _ _ _)
    · intro p k h1 h2
      rw [mp_ne _ _ (by omega), mp_ne _ _ (by omega), mp_ne _ _ (by omega), mp_ne _ _ (by omega)]
    · rw [mp_pool _ _ (by decide), ← h.n52]
      funext k
      unfold lgw
      by_cases k2 : k = 3 * (n.2.2.2.1 % 60) + 2
      · rw [if_pos k2, k2, mp_eq]
      · rw [if_neg k2, mp_ne _ _ (by omega)]
        by_cases k1 : k = 3 * (n.2.2.2.1 % 60) + 1
        · rw [if_pos k1, k1, mp_eq]
        · rw [if_neg k1, mp_ne _ _ (by omega)]
          by_cases k0 : k = 3 * (n.2.2.2.1 % 60)
          · rw [if_pos k0, k0, mp_eq]
          · rw [if_neg k0, mp_ne _ _ (by omega)]
end FAL
