section TRN
variable {z b j pl q r : Nat} {w v : Nat → Int32} {f g : Int32} {M N : Mem}
theorem lk_TE (h : RR z b (w, v, q, r, f, g) M N) (hr : r < 2000000000) (hj : j < 6) (p : Int32) : S2 (TE M j) (fin1 N (nI j) p) (fun x y => x.1 = y.1 ∧ RR z b (w, lgw v (3 * (r % 60)) (nI j) p f, q, r + 1, f, g) x.2 y.2) := by
  have e31 := h.n31 hj
  have fin0 : ∀ M' N', RR z b (w, v, q, r, f, g) M' N' → S2 (some (nI j, M')) (lgN N' (nI j) p) (fun x y => x.1 = y.1 ∧ RR z b (w, lgw v (3 * (r % 60)) (nI j) p f, q, r + 1, f, g) x.2 y.2) := by
    intro M' N' h'
    obtain ⟨N2, q1, q2⟩ := lk_log h' hr (nI j) p
    rw [q1]
    exact S2.ret ⟨rfl, q2⟩
  unfold TE fin1
  rw [nI_clamp (by omega), e31]
  by_cases h2 : M 6 j 0 = 2
  · have h0 : ¬ M 6 j 0 = 0 := by rw [h2]; decide
    obtain ⟨k, hk, ek⟩ := (h.ti hj).2.2.1 h0
    obtain ⟨s, hs, es⟩ := (h.pi hk).1
    obtain ⟨c, hc, ec⟩ := (h.ti hj).2.2.2.2.2.1
    have e32 : N 32 0 j = nI k := by rw [h.n32 hj h0, ek]
    have e34 : N 34 0 j = nI c := by rw [h.n34 hj, ec]
    have e29 : N 29 0 k = nI s := by rw [h.n29 hk, es]
    rw [if_pos h2, if_pos h2, e32, gd_b hk (by decide), nI_clamp (by omega), e34, e29]
    unfold f_yX5_isAtEnd
    rw [ek, if_neg (of_eq_false (llt_f (k := 0) (show 0 ≤ k by omega) (by omega))), nI_clamp (by omega), gd_pos _ hk, ec, es]
    by_cases hlt : nI c < nI s
    · rw [if_pos hlt, if_pos hlt, ob1_s, if_pos rfl]
      exact fin0 M N h
    · rw [if_neg hlt, if_neg hlt, ob1_s, if_neg one_ne]
      exact (lk_end h hj h2 0 0).b11 (fun a c hq => fin0 a c hq)
  · rw [if_neg h2, if_neg h2]
    exact fin0 M N h
def QT (b : Nat) (w v : Nat → Int32) (q r j : Nat) (p : Int32) (x y : Int32 × Mem) : Prop := x.1 = y.1 ∧ ∃ z f g, RR z b (lgw w (3 * (q % 60)) (nI j) p f, lgw v (3 * (r % 60)) (nI j) p f, q + 1, r + 1, f, g) x.2 y.2
/-- no failure came -/
theorem lk_tail0 (h : RR z b (w, v, q, r, 0, 0) M N) (hq : q < 2000000000) (hr : r < 2000000000) (hj : j < 6) (p : Int32) :
    S2 (ob1 (f_yX6_note M (nI j) p 0) (fun M41 => TE M41 j)) (fin N (nI j) p) (QT b w v q r j p) := by
  obtain ⟨M1, m1, m2, m3⟩ := lk_note h hq (nI j) p 0
  have e7 : N 20 0 7 = 0 := h.nfl
  unfold fin
  rw [m1, ob1_s, e7, if_pos (by decide)]
  exact S2.mono (lk_TE m2 hr hj p) (fun x y hh => ⟨hh.1, z, 0, 0, hh.2⟩)
/-- a failure came -/
theorem lk_tail1 {k : Nat} (h : RR z b (w, v, q, r, nI k, if nI k = 7 then M 6 j 6 else 0) M N) (hk : k < 12) (hk0 : 0 < k) (h2 : M 6 j 0 = 2) (hq : q < 2000000000) (hr : r < 2000000000) (hj : j < 6) (hpl : pl ≤ 40) :
    S2 (ob1 (f_yX6_note M (nI j) (nI pl) (nI k)) (fun M41 => lt1 (mp M41 6 j 3 (nI pl)) (fun M49 => ob1 (f_yX8_fail M49 j (nI k)) (fun M51 => TE M51 j)))) (fin (mp N 34 0 j (nI pl)) (nI j) (nI pl)) (QT b w v q r j (nI pl)) := by
  obtain ⟨M1, m1, m2, m3⟩ := lk_note h hq (nI j) (nI pl) (nI k)
  have m4 := m2.wt3 (t := j) (q := pl) hj hpl
  have e7 : mp N 34 0 j (nI pl) 20 0 7 = nI k := m4.nfl
  have e6 : mp M1 6 j 3 (nI pl) 6 j 6 = M 6 j 6 := by rw [mp_ne _ _ (by omega), m3 _ _ _ (by decide) (by decide)]
  have e0 : mp M1 6 j 3 (nI pl) 6 j 0 = 2 := by rw [mp_ne _ _ (by omega), m3 _ _ _ (by decide) (by decide), h2]
  unfold fin
  rw [m1, ob1_s, lt1, e7, if_neg (of_eq_false (lle2_f (k := 0) (show 0 < k from hk0) (by omega)))]
  refine (lk_fail (kd := k) m4 hj e0 hk rfl (by rw [e6])).b11 (fun a c hh => ?_)
  exact S2.mono (lk_TE hh hr hj (nI pl)) (fun x y h5 => ⟨h5.1, z, _, _, h5.2⟩)
theorem lk_tail {x : Int32 × Mem} {y : Mem} (h : AO j b w v q r x y) (hq : q < 2000000000) (hr : r < 2000000000) (hj : j < 6) (hpl : pl ≤ 40) :
    (x.1 = 0 ∧ y 20 0 7 = 0 ∧ S2 (ob1 (f_yX6_note x.2 (nI j) (nI pl) 0) (fun M41 => TE M41 j)) (fin y (nI j) (nI pl)) (QT b w v q r j (nI pl))) ∨
    (∃ k, 0 < k ∧ k < 12 ∧ x.1 = nI k ∧ y 20 0 7 = nI k ∧ S2 (ob1 (f_yX6_note x.2 (nI j) (nI pl) (nI k)) (fun M41 => lt1 (mp M41 6 j 3 (nI pl)) (fun M49 => ob1 (f_yX8_fail M49 j (nI k)) (fun M51 => TE M51 j)))) (fin (mp y 34 0 j (nI pl)) (nI j) (nI pl)) (QT b w v q r j (nI pl))) := by
  obtain ⟨z, k, k1, k2, k3, k4⟩ := h
  by_cases hk : k = 0
  · subst hk
    rw [if_neg (by decide)] at k3
    exact Or.inl ⟨k2, k3.nfl, lk_tail0 k3 hq hr hj (nI pl)⟩
  · exact Or.inr ⟨k, by omega, k1, k2, k3.nfl, lk_tail1 k3 k1 (by omega) (k4 hk) hq hr hj hpl⟩
theorem lk_step (h : RR z b (w, v, q, r, f, g) M N) (hb : b + 6 < 2147483647) (hq : q < 2000000000) (hr : r < 2000000000) (hj : j < 6) (h2 : M 6 j 0 = 2) :
    S2 (TT M j) (GT N (nI j)) (QT (b + 6) w v q r j (M 6 j 3)) := by
  have h1 := ((h.wlast hj).wf7 0).wf8 0
  unfold TT GT
  rw [gd_pos _ hj, lt1, lt1, gd_b hj (by decide), lt1, lt1, nI_clamp (by omega)]
  have ep : mp N 20 0 5 (nI j) 34 0 j = M 6 j 3 := by rw [mp_ne _ _ (by omega), h.n34 hj]
  have e63 : mp M 0 0 1 (nI j) 6 j 3 = M 6 j 3 := mp_ne _ _ (by omega)
  have e60 : mp M 0 0 1 (nI j) 6 j 0 = 2 := by rw [mp_ne _ _ (by omega), h2]
  rw [ep, e63]
  generalize mp M 0 0 1 (nI j) = M1 at *
  generalize mp (mp (mp N 20 0 5 (nI j)) 20 0 7 0) 20 0 8 0 = N1 at *
  have h0 : ¬ M1 6 j 0 = 0 := by rw [e60]; decide
  obtain ⟨a1, a2, a3, a4, a5, ⟨c, hc, ec⟩, a7⟩ := h1.ti hj
  obtain ⟨k, hk, ek⟩ := a3 h0
  obtain ⟨⟨s, hs, es⟩, hw⟩ := h1.pi hk
  have e36 := h1.n36 hj
  have e32 : N1 32 0 j = nI k := by rw [h1.n32 hj h0, ek]
  have e34 : N1 34 0 j = nI c := by rw [h1.n34 hj, ec]
  have e29 : N1 29 0 k = nI s := by rw [h1.n29 hk, es]
  have ec' : M 6 j 3 = nI c := by rw [← e63, ec]
  rw [ec']
  unfold f_yX0_perform
  rcases a5 with hf | hf
  · rw [e36, hf, if_pos rfl, if_pos rfl, ek, e32, gd_b hk (by decide), nI_clamp (by omega), e29, if_neg (of_eq_false (llt_f (k := 0) (show 0 ≤ k by omega) (by omega)))]
    unfold f_yX5_isAtEnd
    rw [ek, if_neg (of_eq_false (llt_f (k := 0) (show 0 ≤ k by omega) (by omega))), nI_clamp (by omega), gd_pos _ hk, ec, es]
    by_cases hlt : c < s
    · have hlt' : nI c < nI s := nI_lt hlt (by omega)
      rw [if_pos hlt', if_pos hlt', ob1_s, if_pos rfl, gd_pos _ hk, lt1, lt1, lt1]
      have nm : ∀ y : Nat, y < 4 → f_yX3_numberAt M1 k (nI c) (nI y) = some (M1 14 k (4 * c + y)) := fun y hy => by
        unfold f_yX3_numberAt
        have e0 : nI c * 4 + nI y = nI (4 * c + y) := by
          rw [show (4 : Int32) = nI 4 from rfl, pk_mul, nI_add, Nat.mul_comm]
        rw [e0]
        simp (disch := omega) only [↓gd_b, gd_t, gd_f, ↓ob1_s, ob1_s, ↓ob2_s, ob2_s, ↓om_n, ↓om_s, om_n, om_s, ↓lt1, ↓reduceIte, or_true, true_or, or_false, false_or, and_true, true_and, and_false, false_and, not_true_eq_false, not_false_eq_true, ite_self, S2_ret, eq_self, llA, llM, llm, llS, lle_f, lle_t, lle2_f, lle2_t, llt_f, llt_t, llt2_f, llt2_t, leq_f, leq_t, lz_f, lzl_t, nI_add, nI_clamp, nle_f, nle_t, nlt_f, nlt_t, neq_f, neq_t]
      have nm0 : f_yX3_numberAt M1 k (nI c) 0 = some (M1 14 k (4 * c)) := nm 0 (by decide)
      have nm1 : f_yX3_numberAt M1 k (nI c) 1 = some (M1 14 k (4 * c + 1)) := nm 1 (by decide)
      have nm2 : f_yX3_numberAt M1 k (nI c) 2 = some (M1 14 k (4 * c + 2)) := nm 2 (by decide)
      have nm3 : f_yX3_numberAt M1 k (nI c) 3 = some (M1 14 k (4 * c + 3)) := nm 3 (by decide)
      rw [nm0, ob1_s, nm1, ob1_s, nm2, ob1_s, nm3, ob1_s, lt1, lt1, lt1]
      obtain ⟨o, ho, eo, ka, kc, kd⟩ := wn_inv (hw c (by omega))
      have r1 : mp M1 3 0 0 (M1 3 0 0 + 1) 6 j 15 = M1 6 j 15 := mp_ne _ _ (by omega)
      have r2 : mp (mp M1 3 0 0 (M1 3 0 0 + 1)) 6 j 15 (M1 6 j 15 + 1) 6 j 3 = nI c := by rw [mp_ne _ _ (by omega), mp_ne _ _ (by omega), ec]
      have r3 : mp N1 34 0 j (nI c + 1) 43 0 j = M1 6 j 15 := by rw [mp_ne _ _ (by omega), h1.n43 hj]
      have r4 : mp (mp N1 34 0 j (nI c + 1)) 43 0 j (M1 6 j 15 + 1) 20 0 11 = M1 3 0 0 := by rw [mp_ne _ _ (by omega), mp_ne _ _ (by omega), h1.nacts]
      rw [r1, r2, e34, r3, r4, nI_1]
      have h3 := ((h1.wt3 (t := j) (q := c + 1) hj (by omega)).wt (k := 15) hj (by decide) (M1 6 j 15 + 1)).w3 (M1 3 0 0 + 1)
      rw [mp_swap M1 6 j 3 _ 6 j 15 _ (by omega), mp_swap _ 6 j 3 _ 3 0 0 _ (by omega), mp_swap M1 6 j 15 _ 3 0 0 _ (by omega), show tmk 15 = 43 from rfl] at h3
      have f0 : mp (mp (mp M1 3 0 0 (M1 3 0 0 + 1)) 6 j 15 (M1 6 j 15 + 1)) 6 j 3 (nI (c + 1)) 6 j 0 = 2 := by rw [mp_ne _ _ (by omega), mp_ne _ _ (by omega), mp_ne _ _ (by omega), e60]
      have f14 : ∀ y, mp (mp (mp M1 3 0 0 (M1 3 0 0 + 1)) 6 j 15 (M1 6 j 15 + 1)) 6 j 3 (nI (c + 1)) 14 k y = M1 14 k y := fun y => by rw [mp_ne _ _ (by omega), mp_ne _ _ (by omega), mp_ne _ _ (by omega)]
      have f32 : mp (mp (mp N1 34 0 j (nI (c + 1))) 43 0 j (M1 6 j 15 + 1)) 20 0 11 (M1 3 0 0 + 1) 32 0 j = nI k := by rw [mp_ne _ _ (by omega), mp_ne _ _ (by omega), mp_ne _ _ (by omega), e32]
      rw [f32]
      have key := o_all (b := b) (t := j) h3 hb hj f0 ho ka kc kd
      have ex : (4 : Int32) * (40 * nI k + nI c) = nI (160 * k + 4 * c) := by
        rw [show (4 : Int32) = nI 4 from rfl, show (40 : Int32) = nI 40 from rfl, pk_mul, nI_add, pk_mul, show 4 * (40 * k + c) = 160 * k + 4 * c by omega]
      have g28 : ∀ y, y < 160 → mp (mp (mp N1 34 0 j (nI (c + 1))) 43 0 j (M1 6 j 15 + 1)) 20 0 11 (M1 3 0 0 + 1) 28 0 (160 * k + y) = M1 14 k y := fun y hy => by
        have := h3.n28 hk hy
        rw [f14] at this
        exact this
      generalize mp (mp (mp M1 3 0 0 (M1 3 0 0 + 1)) 6 j 15 (M1 6 j 15 + 1)) 6 j 3 (nI (c + 1)) = M2 at *
      have hd : f_yX9_does (mp (mp (mp N1 34 0 j (nI (c + 1))) 43 0 j (M1 6 j 15 + 1)) 20 0 11 (M1 3 0 0 + 1)) (nI j) (4 * (40 * nI k + nI c)) = dsp (mp (mp (mp N1 34 0 j (nI (c + 1))) 43 0 j (M1 6 j 15 + 1)) 20 0 11 (M1 3 0 0 + 1)) (nI j) (M1 14 k (4 * c)) (M1 14 k (4 * c + 1)) (M1 14 k (4 * c + 2)) (M1 14 k (4 * c + 3)) := by
        rw [does_eq, ex]
        rw [show nI (160 * k + 4 * c) + 1 = nI (160 * k + 4 * c + 1) from llA _ 1, show nI (160 * k + 4 * c) + 2 = nI (160 * k + 4 * c + 2) from llA _ 2, show nI (160 * k + 4 * c) + 3 = nI (160 * k + 4 * c + 3) from llA _ 3]
        rw [gd_b (by omega) (by decide), gd_b (by omega) (by decide), gd_b (by omega) (by decide), gd_b (by omega) (by decide), nI_clamp (by omega), nI_clamp (by omega), nI_clamp (by omega), nI_clamp (by omega)]
        rw [g28 (4 * c) (by omega), Nat.add_assoc (160 * k), Nat.add_assoc (160 * k), Nat.add_assoc (160 * k), g28 (4 * c + 1) (by omega), g28 (4 * c + 2) (by omega), g28 (4 * c + 3) (by omega)]
      rw [hd, eo]
      obtain ⟨⟨x1, x2⟩, y, k1, k2, k3⟩ := key
      rw [k2, ob1_s]
      have k1' : (if 7 < nI o then (if 15 < nI o then (if 21 < nI o then (if 26 < nI o then (if 30 < nI o then ob2 (f_yX0_useHandlers M2 j (nI o) (M1 14 k (4 * c + 1)) (M1 14 k (4 * c + 2))) (fun r24 M25 => (some (r24, M25))) else ob2 (f_yX0_useThreads M2 j (nI o) (M1 14 k (4 * c + 1))) (fun r27 M28 => (some (r27, M28)))) else ob2 (f_yX0_useMonitors M2 j (nI o) (M1 14 k (4 * c + 1)) (M1 14 k (4 * c + 2))) (fun r30 M31 => (some (r30, M31)))) else ob2 (f_yX0_useRows M2 j (nI o) (M1 14 k (4 * c + 1)) (M1 14 k (4 * c + 2)) (M1 14 k (4 * c + 3))) (fun r33 M34 => (some (r33, M34)))) else ob2 (f_yX0_useThings M2 j (nI o) (M1 14 k (4 * c + 1)) (M1 14 k (4 * c + 2)) (M1 14 k (4 * c + 3))) (fun r37 M38 => (some (r37, M38)))) else ob2 (f_yX0_reckon M2 j (nI o) (M1 14 k (4 * c + 1)) (M1 14 k (4 * c + 2)) (M1 14 k (4 * c + 3))) (fun r40 M41 => (some (r40, M41)))) = some (x1, x2) := k1
      rw [k1', ob2_s]
      rcases lk_tail k3 hq hr hj hc with ⟨t1, t2, t3⟩ | ⟨u, u0, u1, t1, t2, t3⟩
      · simp only at t1
        subst t1
        rw [t2, if_pos (by decide), lt1, mp_same rfl]
        simp only [↓reduceIte]
        exact t3
      · simp only at t1
        subst t1
        rw [t2, if_neg (of_eq_false (lle2_f (k := 0) (show 0 < u from u0) (by omega))), lt1]
        simp only [if_neg (nI_ne0 u0 (show u < 2 ^ 31 by omega))]
        exact t3
    · have hlt' : ¬ nI c < nI s := fun ww => by rw [nI_ltI (by omega) (by omega)] at ww; omega
      rw [if_neg hlt', if_neg hlt', ob1_s, if_neg one_ne, ob2_s]
      obtain ⟨M2, m1, m2, m3⟩ := lk_note h1 hq (nI j) (nI c) 0
      have e62 : M2 6 j 0 = 2 := by rw [m3 _ _ _ (by decide) (by decide), e60]
      rw [m1, ob1_s, if_pos rfl]
      unfold TE f_yX5_isAtEnd
      rw [e62, if_pos rfl, m3 _ _ _ (by decide) (by decide), m3 _ _ _ (by decide) (by decide), ek, if_neg (of_eq_false (llt_f (k := 0) (show 0 ≤ k by omega) (by omega))), nI_clamp (by omega), gd_pos _ hk, ec, m3 _ _ _ (by decide) (by decide), es, if_neg hlt', ob1_s, if_neg one_ne]
      refine (lk_end7 m2 hj e62 0 0).b11 (fun a d hh => ?_)
      obtain ⟨hh, h7⟩ := hh
      have d7 : d 20 0 7 = 0 := hh.nfl
      have d31 : ¬ d 31 0 j = 2 := by rw [hh.n31 hj, h7]; decide
      unfold fin fin1
      rw [d7, if_pos (by decide), nI_clamp (by omega), if_neg d31]
      obtain ⟨N2, q1, q2⟩ := lk_log hh hr (nI j) (nI c)
      rw [q1]
      exact S2.ret ⟨rfl, z, 0, 0, q2.mono (by omega) (by omega)⟩
  · rw [e36, hf, if_neg one_ne, if_neg one_ne, lt1, ob2_s, lt1, lt1]
    have h3 := AO.bad (t := j) (h1.wt5 (v := 0) hj (Or.inl rfl)) (f := 9) (by decide) (by decide) (by rw [mp_ne _ _ (by omega)]; exact e60)
    rcases lk_tail (h3.up (show b ≤ b + 6 by omega)) hq hr hj hc with ⟨t1, t2, t3⟩ | ⟨u, u0, u1, t1, t2, t3⟩
    · exact absurd (show nI 9 = 0 from t1) (by decide)
    · have hu : u = 9 := ((nI_eq (by omega) (by decide)).mp (show nI u = nI 9 from t1.symm))
      subst hu
      rw [mp_same (M := mp (mp N1 36 0 j 0) 20 0 7 (nI 9)) (v := nI c) (by rw [mp_ne _ _ (by omega), mp_ne _ _ (by omega), e34])] at t3
      simp only [if_neg (show ¬ (9 : Int32) = 0 by decide)]
      exact t3
end TRN
