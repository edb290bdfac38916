section RUN
variable {z b q : Nat} {w : Nat → Int32} {f g : Int32} {M N : Mem}
/-- the relation between calls -/
def RC (b q : Nat) (M N : Mem) : Prop := ∃ z w q' f g, q' ≤ q ∧ RR z b (w, w, q', q', f, g) M N
theorem RC.up {b' q' : Nat} (h : RC b q M N) (hb : b ≤ b') (hq : q ≤ q') : RC b' q' M N := by
  obtain ⟨z, w, k, f, g, h1, h2⟩ := h
  exact ⟨z, w, k, f, g, by omega, h2.mono hb (by omega)⟩
abbrev Rc (b q : Nat) (a c : Option (Int32 × Mem)) : Prop := S2 a c (fun x y => x.1 = y.1 ∧ RC b q x.2 y.2)
theorem lk_turn (h : RC b q M N) (hb : b + 12 < 2147483647) (hq : q < 2000000000) : Rc (b + 12) (q + 1) (f_yX8_takeTurn M) (f_yX9_goes N) := by
  obtain ⟨z, w, k, f, g, hk, h⟩ := h
  obtain ⟨M1, N1, p1, p2, h1⟩ := lk_passTime h (by omega)
  rw [takeTurn_eq, p1, ob1_s, p2, goes_tail]
  have fin : ∀ o s, RD M1 o s → S2 (om o (some (-5, M1)) (fun j => TT M1 j)) (if s = -4 then some (-5, N1) else GT N1 s) (fun x y => x.1 = y.1 ∧ RC (b + 12) (q + 1) x.2 y.2) := by
    intro o s hd
    rcases hd with ⟨rfl, rfl⟩ | ⟨u, u1, rfl, rfl, u2⟩
    · rw [om_n, if_pos rfl]
      exact S2.ret ⟨rfl, z, w, k, f, g, by omega, h1.mono (by omega) (by omega)⟩
    · rw [om_s, if_neg (ne4 (by omega))]
      refine S2.mono (lk_step h1 (by omega) (by omega) (by omega) u1 u2) (fun x y hh => ?_)
      obtain ⟨e, z', f', g', h2⟩ := hh
      exact ⟨e, z', _, k + 1, f', g', by omega, h2.mono (by omega) (by omega)⟩
  rcases h1.ci.2.1 with hr | hr
  · obtain ⟨o, s, o1, o2, o3⟩ := lk_ch0 h1 hr
    rw [if_pos hr, o1, ob1_s, o2, ob1_s]
    exact fin o s o3
  · obtain ⟨o, s, o1, o2, o3⟩ := lk_ch1 h1 hr
    rw [if_neg (by rw [hr]; decide), o1, ob1_s, o2, ob1_s]
    exact fin o s o3
theorem pm_turn (h : RC b q M N) (hb : b + 12 < 2147483647) (hq : q < 2000000000) : Rc (b + 12) (q + 1) (f_yX8_turn M) (f_yX9_turn N) := by
  have h' := h
  obtain ⟨z, w, k, f, g, hk, hh⟩ := h'
  have stay : RC (b + 12) (q + 1) M N := h.up (by omega) (by omega)
  unfold f_yX8_turn f_yX9_turn
  rw [hh.nmany]
  by_cases h3 : M 4 0 0 < 3000
  · rw [if_pos h3, if_pos h3]
    rcases ovst hh with ⟨o1, o2⟩ | ⟨o1, o2, o3⟩ | ⟨o1, o2, o3⟩
    · rw [o1, ob1_s, if_neg one_ne, o2, ob1_s, if_neg (by decide)]
      exact S2.ret ⟨rfl, stay⟩
    · rw [o1, ob1_s, if_pos rfl, o2, ob1_s, if_neg one_ne, o3, ob1_s, if_neg (by decide)]
      exact S2.ret ⟨rfl, stay⟩
    · rw [o1, ob1_s, if_pos rfl, o2, ob1_s, if_pos rfl, o3, ob1_s, if_pos (by decide)]
      exact (lk_turn h hb hq).b22 (fun x m y n hp => S2.ret hp)
  · rw [if_neg h3, if_neg h3]
    exact S2.ret ⟨rfl, stay⟩
theorem lk_run {x : Nat} (hx : x ≤ 60) : ∀ d k m m' b q (M N : Mem), k + d = x → RC b q M N → b + 12 * d < 2147483647 → q + d < 2000000000 → Rc (b + 12 * d) (q + d) (f_yX8_run_L31 (m + d + 1) M (nI x) (nI k)) (f_yX9_run_L27 (m' + d + 1) N (nI x) (nI k)) := by
  intro d
  induction d with
  | zero =>
    intro k m m' b q M N hk h hb hq
    obtain rfl : k = x := by omega
    rw [f_yX8_run_L31, f_yX9_run_L27, if_pos (nI_le (Nat.le_refl _) (by omega)), if_pos (nI_le (Nat.le_refl _) (by omega))]
    exact S2.ret ⟨rfl, h⟩
  | succ d ih =>
    intro k m m' b q M N hk h hb hq
    have hle : ¬ nI x ≤ nI k := fun ww => by rw [nI_leI (by omega) (by omega)] at ww; omega
    have h' := h
    obtain ⟨z, w, k', f, g, hk', hh⟩ := h'
    have stay : RC (b + 12 * (d + 1)) (q + (d + 1)) M N := h.up (by omega) (by omega)
    rw [f_yX8_run_L31, f_yX9_run_L27, if_neg hle, if_neg hle]
    rcases ovst hh with ⟨o1, o2⟩ | ⟨o1, o2, o3⟩ | ⟨o1, o2, o3⟩
    · rw [o1, ob1_s, if_neg one_ne, o2, ob1_s, if_neg (by decide)]
      exact S2.ret ⟨rfl, stay⟩
    · rw [o1, ob1_s, if_pos rfl, o2, ob1_s, if_neg one_ne, o3, ob1_s, if_neg (by decide)]
      exact S2.ret ⟨rfl, stay⟩
    · rw [o1, ob1_s, if_pos rfl, o2, ob1_s, if_pos rfl, o3, ob1_s, if_pos rfl, nI_1]
      refine (lk_turn h (by omega) (by omega)).b22 (fun x1 m1 y1 n1 hp => ?_)
      exact S2.mono (ih (k + 1) m m' (b + 12) (q + 1) m1 n1 (by omega) hp.2 (by omega) (by omega)) (fun _ _ hh => ⟨hh.1, hh.2.up (by omega) (by omega)⟩)
theorem pm_run (h : RC b q M N) (hb : b + 720 < 2147483647) (hq : q + 60 < 2000000000) (x1 : Int32) : Rc (b + 720) (q + 60) (f_yX8_run M x1) (f_yX9_run N x1) := by
  have h' := h
  obtain ⟨z, w, k', f, g, hk', hh⟩ := h'
  have stay : RC (b + 720) (q + 60) M N := h.up (by omega) (by omega)
  unfold f_yX8_run f_yX9_run f_yX9_in
  by_cases h1 : x1 < 1
  · rw [if_pos h1, if_pos h1, ob1_s, if_pos rfl]
    exact S2.ret ⟨rfl, stay⟩
  · rw [if_neg h1, if_neg h1]
    by_cases h60 : x1 ≤ 60
    · have h2 : ¬ (60 : Int32) < x1 := fun ww => by
        rw [Int32.lt_iff_toInt_lt] at ww
        rw [Int32.le_iff_toInt_le] at h60
        omega
      rw [if_pos h60, if_neg h2, ob1_s, if_neg one_ne, hh.nmany]
      by_cases h3 : M 4 0 0 < 3000
      · rw [if_pos h3, if_pos h3]
        have hn : ¬ x1 < 0 := fun ww => by
          rw [Int32.lt_iff_toInt_lt] at ww h1
          have e1 : (1 : Int32).toInt = 1 := rfl
          have e0 : (0 : Int32).toInt = 0 := rfl
          omega
        obtain ⟨x, hx, rfl⟩ := nI_of2 (n := 60) (by decide) hn h60
        have key := lk_run (x := x) hx x 0 (60 - x) (69 - x) b q M N (by omega) h (by omega) (by omega)
        rw [show 60 - x + x + 1 = 61 by omega, show 69 - x + x + 1 = 70 by omega] at key
        exact S2.mono key (fun _ _ hh => ⟨hh.1, hh.2.up (by omega) (by omega)⟩)
      · rw [if_neg h3, if_neg h3]
        exact S2.ret ⟨rfl, stay⟩
    · have h2 : (60 : Int32) < x1 := by
        rw [Int32.lt_iff_toInt_lt]
        rw [Int32.le_iff_toInt_le] at h60
        omega
      rw [if_neg h60, if_pos h2, ob1_s, if_pos rfl]
      exact S2.ret ⟨rfl, stay⟩
end RUN
