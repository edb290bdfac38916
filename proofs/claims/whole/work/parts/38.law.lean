/-! the law -/
section LAW
variable {b q : Nat} {M N : Mem}
theorem st2 {a c : Option (Int32 × Mem)} (h : Rc b q a c) : ∃ P1 : Mem × Mem, ob2 a (fun r1 M1 => ob2 c (fun r2 N1 => gd (r1 = r2) (some (M1, N1)))) = some P1 ∧ RC b q P1.1 P1.2 := by
  obtain ⟨⟨x1, x2⟩, ⟨y1, y2⟩, q1, q2, q3, q4⟩ := h
  refine ⟨(x2, y2), ?_, q4⟩
  rw [q1, ob2_s, q2, ob2_s]
  exact gd_pos _ q3
theorem st1 {a c : Option Int32} (h : Rv a c) (hr : RC b q M N) : ∃ P1 : Mem × Mem, ob1 a (fun r1 => ob1 c (fun r2 => gd (r1 = r2) (some (M, N)))) = some P1 ∧ RC b q P1.1 P1.2 := by
  obtain ⟨x, y, q1, q2, q3⟩ := h
  refine ⟨(M, N), ?_, hr⟩
  rw [q1, ob1_s, q2, ob1_s]
  exact gd_pos _ q3
theorem st_ok (h : RC b q M N) (hb : b + 720 < 2147483647) (hq : q + 60 < 1000000) (o y1 y2 y3 y4 y5 : Int32) : ∃ P1, f_st (M, N) o y1 y2 y3 y4 y5 = some P1 ∧ RC (b + 720) (q + 60) P1.1 P1.2 := by
  have h' := h
  obtain ⟨z, w, k, f, g, hk, hh⟩ := h'
  have stay : RC (b + 720) (q + 60) M N := h.up (by omega) (by omega)
  have cw : ∀ {a c : Option (Int32 × Mem)}, Rw z b (w, w, k, k, f, g) a c → Rc (b + 720) (q + 60) a c := fun hw => S2.mono hw (fun x y hx => ⟨hx.1, z, w, k, f, g, by omega, hx.2.mono (by omega) (by omega)⟩)
  unfold f_st
  by_cases c0 : o = 0
  · rw [if_pos c0]
    exact st2 (S2.mono (pm_thing hh y1 y2) (fun x y hx => ⟨hx.1, let ⟨z', hz⟩ := hx.2; ⟨z', w, k, f, g, by omega, hz.mono (by omega) (by omega)⟩⟩))
  rw [if_neg c0]
  by_cases c1 : o = 1
  · rw [if_pos c1]; exact st1 (pm_of hh y1 y2) stay
  rw [if_neg c1]
  by_cases c2 : o = 2
  · rw [if_pos c2]; exact st1 (pm_item hh y1 y2) stay
  rw [if_neg c2]
  by_cases c3 : o = 3
  · rw [if_pos c3]; exact st2 (cw (pm_weigh hh y1))
  rw [if_neg c3]
  by_cases c4 : o = 4
  · rw [if_pos c4]; exact st1 (pm_trace hh y1) stay
  rw [if_neg c4]
  by_cases c5 : o = 5
  · rw [if_pos c5]; exact st2 (cw (pm_act hh y1 y2 y3 y4 y5))
  rw [if_neg c5]
  by_cases c6 : o = 6
  · rw [if_pos c6]; exact st2 (cw (pm_wipe hh y1))
  rw [if_neg c6]
  by_cases c7 : o = 7
  · rw [if_pos c7]; exact st2 (cw (pm_thread hh y1 y2 y3))
  rw [if_neg c7]
  by_cases c8 : o = 8
  · rw [if_pos c8]; exact st2 (cw (pm_set hh y1 y2 y3))
  rw [if_neg c8]
  by_cases c9 : o = 9
  · rw [if_pos c9]; exact st2 (cw (pm_give hh y1 y2 y3))
  rw [if_neg c9]
  by_cases c10 : o = 10
  · rw [if_pos c10]; exact st2 (cw (pm_start hh y1))
  rw [if_neg c10]
  by_cases c11 : o = 11
  · rw [if_pos c11]
    exact st2 (S2.mono (pm_broken hh (by omega) y1) (fun x y hx => ⟨hx.1, z, w, k, f, g, by omega, hx.2.mono (by omega) (by omega)⟩))
  rw [if_neg c11]
  by_cases c12 : o = 12
  · rw [if_pos c12]; exact st2 (cw (pm_rule hh y1))
  rw [if_neg c12]
  by_cases c13 : o = 13
  · rw [if_pos c13]; exact st2 (cw (pm_order hh y1))
  rw [if_neg c13]
  by_cases c14 : o = 14
  · rw [if_pos c14]
    exact st2 (S2.mono (pm_turn h (by omega) (by omega)) (fun x y hx => ⟨hx.1, hx.2.up (by omega) (by omega)⟩))
  rw [if_neg c14]
  by_cases c15 : o = 15
  · rw [if_pos c15]; exact st2 (pm_run h hb (by omega) y1)
  rw [if_neg c15]
  by_cases c16 : o = 16
  · rw [if_pos c16]; exact st1 (pm_told hh y1 y2) stay
  rw [if_neg c16]
  by_cases c17 : o = 17
  · rw [if_pos c17]; exact st1 (pm_register hh y1 y2) stay
  rw [if_neg c17]
  by_cases c18 : o = 18
  · rw [if_pos c18]; exact st1 (pm_hand hh y1 y2) stay
  rw [if_neg c18]
  by_cases c19 : o = 19
  · rw [if_pos c19]; exact st1 (pm_ring hh y1) stay
  rw [if_neg c19]
  by_cases c20 : o = 20
  · rw [if_pos c20]; exact st1 (pm_log hh (by omega) y1 y2) stay
  rw [if_neg c20]
  by_cases c21 : o = 21
  · rw [if_pos c21]; exact st1 (pm_count hh y1) stay
  rw [if_neg c21]
  exact ⟨(M, N), rfl, stay⟩
/-! the start -/
theorem gc0 {t k : Nat} (h : gc M0 t k = true) : k ≠ 1 ∧ k ≠ 11 ∧ k ≠ 12 ∧ k ≠ 20 := by
  refine ⟨?_, ?_, ?_, ?_⟩ <;> (rintro rfl; cases (show false = true from h))
theorem R00 : R0 (gc M0) (lc M0) M0 N0 := by
  intro c i k p hp
  unfold co at hp
  split at hp
  · split at hp
    · cases hp; rfl
    · cases hp
  · split at hp
    · rename_i hc
      cases hp
      obtain ⟨g1, g2, g3, g4⟩ := gc0 hc.2.2.2
      have ht := tkm_tmk k hc.2.1 hc.2.2.1
      have hN : N0 (tmk k) 0 i = 0 := by
        unfold N0
        split
        · omega
        · omega
        · rfl
      show (if k = 1 then (-1 : Int32) else if k = 11 then -4 else if k = 12 then -4 else 0) = N0 (tmk k) 0 i
      rw [if_neg g1, if_neg g2, if_neg g3, hN]
    · cases hp
  · split at hp
    · cases hp; rfl
    · cases hp
  · split at hp
    · unfold tg8 at hp
      split at hp <;> first | (cases hp; rfl) | (cases hp)
    · cases hp
  · split at hp
    · cases hp; rfl
    · cases hp
  · split at hp
    · cases hp; rfl
    · cases hp
  · split at hp
    · cases hp; rfl
    · cases hp
  · split at hp
    · rename_i hc
      exact absurd rfl (gc0 hc.2.2).2.2.2
    · cases hp
  · split at hp
    · cases hp; rfl
    · cases hp
  · split at hp
    · cases hp; rfl
    · cases hp
  · split at hp
    · cases hp; rfl
    · cases hp
  · split at hp
    · rename_i hc
      unfold c20 at hp
      split at hp <;> (repeat' (split at hp)) <;> first | (cases hp; subst_vars; rfl) | (cases hp)
    · cases hp
theorem RC0 : RC 0 0 M0 N0 := by
  refine ⟨0, fun _ => 0, 0, 0, 0, by decide, R00, ?_⟩
  refine ⟨⟨by decide, rfl, rfl, rfl⟩, fun i hi => by omega, fun t ht => ?_, fun t ht => ?_, fun p hp => ?_, ?_, ?_, Or.inl ⟨rfl, rfl⟩, ?_⟩
  · refine ⟨⟨0, by decide, rfl⟩, fun _ => ⟨show (-1 : Int32) < 0 by decide, fun h hh => ?_⟩, fun hn => absurd rfl hn, Or.inl rfl, Or.inl rfl, ⟨0, by decide, rfl⟩, fun e => ?_, fun e => ?_, fun _ _ _ => rfl, fun _ _ => rfl, fun h hh => Or.inl ?_⟩
    · show flw (fun _ => 0) 6 (-4) h = -4
      simp [flw, hh]
    · rcases e with e | e
      · exact absurd (show (0 : Int32) = 3 from e) (by decide)
      · exact absurd (show (0 : Int32) = 4 from e) (by decide)
    · exact absurd (show (0 : Int32) = 6 from e) (by decide)
    · show flw (fun _ => 0) 6 (-4) h = -4
      simp [flw, hh]
  · exact ⟨⟨0, by decide, rfl⟩, fun r _ => ⟨0, by decide, rfl⟩⟩
  · refine ⟨⟨0, by decide, rfl⟩, fun q _ => ?_⟩
    show f_yX3_isWellNamed (nI 0) 0 0 0 = some 1
    decide +kernel
  · exact ⟨⟨5, by decide, rfl⟩, Or.inl rfl, Or.inl rfl, rfl, rfl⟩
  · exact ⟨by decide +kernel, rfl, rfl, rfl, rfl⟩
  · refine ⟨0, by decide, rfl, fun t ht hb => ?_, fun t u ht hu hn hb => ?_⟩
    · exfalso
      rcases hb with e | e
      · exact absurd (show (0 : Int32) = 3 from e) (by decide)
      · exact absurd (show (0 : Int32) = 4 from e) (by decide)
    · exfalso
      rcases hb with e | e
      · exact absurd (show (0 : Int32) = 3 from e) (by decide)
      · exact absurd (show (0 : Int32) = 4 from e) (by decide)
theorem p_law' {xs : Nat → Int32} {L : Nat} (hL : L ≤ 3072) : ∀ n j (P : Mem × Mem), n + j = 513 → j ≤ 512 → RC (720 * j) (60 * j) P.1 P.2 → f_law xs L n j P = some () := by
  intro n
  induction n with
  | zero => intro j P hn hj _; omega
  | succ n ih =>
    intro j P hn hj h
    rw [f_law]
    by_cases h6 : 6 * j + 6 ≤ L
    · rw [if_pos h6]
      obtain ⟨P1, q1, q2⟩ := st_ok h (by omega) (by omega) (xs (6 * j) &&& 31) (xs (6 * j + 1)) (xs (6 * j + 2)) (xs (6 * j + 3)) (xs (6 * j + 4)) (xs (6 * j + 5))
      have q1' : f_st P (xs (6 * j) &&& 31) (xs (6 * j + 1)) (xs (6 * j + 2)) (xs (6 * j + 3)) (xs (6 * j + 4)) (xs (6 * j + 5)) = some P1 := q1
      rw [q1', ob1_s]
      exact ih (j + 1) P1 (by omega) (by omega) (q2.up (by omega) (by omega))
    · rw [if_neg h6]
theorem p_law (xs : Nat → Int32) (L : Nat) (hL : L ≤ 3072) : f_law xs L 513 0 (M0, N0) = some () := p_law' hL 513 0 (M0, N0) (by decide) (by decide) RC0
end LAW
