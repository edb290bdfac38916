/-! what holds between calls -/
def gc (M : Mem) : Gd := fun t k => if k = 1 ∨ k = 11 ∨ k = 12 ∨ k = 20 then decide (¬ M 6 t 0 = 0) else if k = 13 ∨ k = 14 then decide (M 6 t 0 = 3 ∨ M 6 t 0 = 4) else true
def lc (M : Mem) : Nat → Nat := fun i => (M 8 i 4).toNatClampNeg
/-- a thread's row r, its hands hd, with z things -/
def TI (z : Nat) (r hd : Nat → Int32) : Prop := ∃ st : Nat, st ≤ 7 ∧ r 0 = nI st ∧
  (st = 0 → r 1 < 0 ∧ ∀ h, h < 6 → hd h = -4) ∧ (st ≠ 0 → ∃ p : Nat, p < 8 ∧ r 1 = nI p) ∧
  (r 4 = 0 ∨ r 4 = 1) ∧ (r 5 = 0 ∨ r 5 = 1) ∧ (∃ pl : Nat, pl ≤ 40 ∧ r 3 = nI pl) ∧
  ((st = 3 ∨ st = 4) → ∃ x : Nat, x < z ∧ r 11 = nI x) ∧ (st = 6 → ∃ u : Nat, u < 6 ∧ r 11 = nI u) ∧ (st ≠ 3 → st ≠ 4 → st ≠ 6 → r 11 = -4) ∧ (st ≠ 4 → st ≠ 5 → r 12 = -4) ∧
  (∀ h, h < 6 → hd h = -4 ∨ ∃ x : Nat, x < z ∧ hd h = nI x)
/-- a thing's row r with its n places pl -/
def OI (z n : Nat) (r pl : Nat → Int32) : Prop := n ≤ 12 ∧ r 4 = nI n ∧ (r 2 = -4 ∨ ∃ t : Nat, t < 6 ∧ r 2 = nI t) ∧
  ∃ kd : Nat, kd ≤ 7 ∧ r 0 = nI kd ∧ (kd ≤ 3 → n = 0) ∧ (kd = 0 → r 1 = 0) ∧ (6 ≤ kd → ∀ j, j < n → pl j = -4 ∨ ∃ x : Nat, x < z ∧ pl j = nI x)
def HI (h pl : Nat → Int32) : Prop := (∃ n : Nat, n ≤ 8 ∧ h 0 = nI n) ∧ ∀ r, r < 8 → ∃ q : Nat, q ≤ 40 ∧ pl r = nI q
def PI (s a : Nat → Int32) : Prop := (∃ n : Nat, n ≤ 40 ∧ s 0 = nI n) ∧ ∀ q, q < 40 → f_yX3_isWellNamed (a (4 * q)) (a (4 * q + 1)) (a (4 * q + 2)) (a (4 * q + 3)) = some 1
def CI (j : Nat) (M : Mem) : Prop := (∃ l : Nat, l < 6 ∧ M 0 0 1 = nI l) ∧ (M 0 0 0 = 0 ∨ M 0 0 0 = 1) ∧ (M 2 0 1 = 0 ∨ M 2 0 1 = 1 ∨ M 2 0 1 = 2) ∧ (∃ n : Nat, n ≤ 60 * j ∧ M 4 0 2 = nI n) ∧ (∃ n : Nat, n ≤ 1000 * j ∧ M 2 0 2 = nI n)
def nmL : List Int32 := [100, 110, 110, 110, 110, 111, 200, 210, 110, 131, 111, 110, 110, 110, 110, 110, 110, 111, 111, 111, 111, 111, 100, 100, 110, 100, 100, 100, 100, 100, 100, 100, 100, 240, 0, 110, 0]
def NI (N : Mem) : Prop := ∀ q, q < 37 → N 30 0 q = nmL.getD q 0
def bk (k : Nat) : Nat := if k ≤ 3 then k else 4
def XI (M N : Mem) : Prop := (M 1 0 1 = -4 ∧ N 20 0 1 = 0) ∨ ∃ k : Nat, k ≤ 7 ∧ M 1 0 1 = nI k ∧ N 20 0 1 = nI (sl (bk k)) ∧ ∀ q, q < sl (bk k) → N 27 0 q = sc (bk k) q
def inB (M : Mem) (t : Nat) : Prop := M 6 t 0 = 3 ∨ M 6 t 0 = 4
def SI (M : Mem) : Prop := (∀ t, t < 6 → inB M t → ∃ a b : Nat, M 6 t 14 = nI a ∧ M 2 0 2 = nI b ∧ a < b ∧ b < 2 ^ 31) ∧ ∀ t u, t < 6 → u < 6 → t ≠ u → inB M t → inB M u → ¬ M 6 t 14 = M 6 u 14
def IV (j : Nat) (M N : Mem) : Prop := ∃ z : Nat, z ≤ 32 ∧ M 60 0 1 = nI z ∧ M 60 0 0 = nI z ∧ M 1 0 0 = nI z ∧
  (∀ i, i < z → OI z (lc M i) (M 8 i) (M 19 i)) ∧ (∀ t, t < 6 → TI z (M 6 t) (M 16 t)) ∧ (∀ t, t < 6 → HI (M 7 t) (M 17 t)) ∧ (∀ p, p < 8 → PI (M 5 p) (M 14 p)) ∧ CI j M ∧ NI N ∧ XI M N ∧ SI M
def RR (j : Nat) (M N : Mem) : Prop := R0 (gc M) (lc M) M N ∧ IV j M N
theorem CI.up {j : Nat} {M : Mem} (h : CI j M) : CI (j + 1) M := by
  obtain ⟨h1, h2, h3, ⟨n, h4, h5⟩, ⟨m, h6, h7⟩⟩ := h
  exact ⟨h1, h2, h3, ⟨n, by omega, h5⟩, ⟨m, by omega, h7⟩⟩
theorem IV.up {j : Nat} {M N : Mem} (h : IV j M N) : IV (j + 1) M N := by
  obtain ⟨z, a1, a2, a3, a4, a5, a6, a7, a8, a9, a10⟩ := h
  exact ⟨z, a1, a2, a3, a4, a5, a6, a7, a8, a9.up, a10⟩
theorem RR.up {j : Nat} {M N : Mem} (h : RR j M N) : RR (j + 1) M N := ⟨h.1, h.2.up⟩
/-- a call that changes nothing -/
abbrev Rv (j : Nat) (M N : Mem) (a b : Option Int32) : Prop := S2 a b (fun x y => x = y)
abbrev Rw (j : Nat) (a b : Option (Int32 × Mem)) : Prop := S2 a b (fun x y => x.1 = y.1 ∧ RR j x.2 y.2)
theorem R0.rd {g : Gd} {ln : Nat → Nat} {M N : Mem} (h : R0 g ln M N) {c i k : Nat} {q : Nat × Nat} (hq : co g ln c i k = some q) : M c i k = N q.1 0 q.2 := h c i k q hq
theorem RR.th {j : Nat} {M N : Mem} (h : RR j M N) {t k : Nat} (ht : t < 6) (hk : k < 16) (h6 : k ≠ 6) (hg : gc M t k = true) : M 6 t k = N (tmk k) 0 t := h.1 6 t k (tmk k, t) (by rw [co_6, if_pos ⟨ht, hk, h6, hg⟩])
theorem RR.reg {j : Nat} {M N : Mem} (h : RR j M N) {t r : Nat} (ht : t < 6) (hr : r < 6) : M 15 t r = N 49 0 (6 * t + r) := h.1 15 t r (49, 6 * t + r) (show (if t < 6 ∧ r < 6 then some (49, 6 * t + r) else none) = _ by rw [if_pos ⟨ht, hr⟩])
theorem RR.hnd {j : Nat} {M N : Mem} (h : RR j M N) {t r : Nat} (ht : t < 6) (hr : r < 6) (hg : ¬ M 6 t 0 = 0) : M 16 t r = N 50 0 (6 * t + r) := h.1 16 t r (50, 6 * t + r) (by rw [co_16, if_pos ⟨ht, hr, by simp [gc, hg]⟩])
theorem RR.st {j : Nat} {M N : Mem} (h : RR j M N) {t : Nat} (ht : t < 6) : M 6 t 0 = N 31 0 t := h.th ht (by omega) (by omega) rfl
theorem m6 {t r : Nat} : (6 : Int32) * nI t + nI r = nI (6 * t + r) := by rw [← nI_add, ← pk_mul]; rfl
theorem b36 {t r : Nat} (ht : t < 6) (hr : r < 6) : ¬ ((6 : Int32) * nI t + nI r < 0 ∨ 36 ≤ ((6 : Int32) * nI t + nI r).toNatClampNeg) := by rw [m6]; exact bnd (by omega) (by decide)
theorem c36 {t r : Nat} (ht : t < 6) (hr : r < 6) : ((6 : Int32) * nI t + nI r).toNatClampNeg = 6 * t + r := by rw [m6]; exact nI_clamp (by omega)
/-! register, hand -/
theorem pm_register {j : Nat} {M N : Mem} (h : RR j M N) (x1 x2 : Int32) : Rv j M N (f_yX8_register M x1 x2) (f_yX9_register N x1 x2) := by
  unfold f_yX8_register f_yX9_register
  rcases ix6 x1 6 (by decide) with h1 | ⟨t, ht, rfl⟩
  · exact S2.l1 (at_out h1) (S2.on (S2.r1 (in_out (n := 6) (by decide) (by decide) h1) (S2.ry rfl (S2.ret rfl))))
  · refine S2.l1 (at_in ht) (S2.os (S2.r1 (in_in (n := 6) (by decide) ht (by decide)) (S2.rn (by decide) ?_)))
    rcases ix6 x2 6 (by decide) with h2 | ⟨r, hr, rfl⟩
    · exact S2.l1 (slot_out h2) (S2.ly rfl (S2.r1 (in_out (n := 6) (by decide) (by decide) h2) (S2.ry rfl (S2.ret rfl))))
    · refine S2.l1 (slot_in hr) (S2.ln (by decide) (S2.lg ht (S2.r1 (in_in (n := 6) (by decide) hr (by decide)) (S2.rn (by decide) (S2.rg (b36 ht hr) ?_)))))
      unfold f_yX5_kept
      rw [ob1_eq _ (slot_in hr), if_neg (by decide), gd_pos _ (bnd hr (by decide)), nI_clamp (by omega), c36 ht hr]
      exact S2.ret (h.reg ht hr)
theorem pm_hand {j : Nat} {M N : Mem} (h : RR j M N) (x1 x2 : Int32) : Rv j M N (f_yX8_hand M x1 x2) (f_yX9_hand N x1 x2) := by
  unfold f_yX8_hand f_yX9_hand
  rcases ix6 x1 6 (by decide) with h1 | ⟨t, ht, rfl⟩
  · exact S2.l1 (at_out h1) (S2.on (S2.r1 (in_out (n := 6) (by decide) (by decide) h1) (S2.ry rfl (S2.ret rfl))))
  · refine S2.l1 (at_in ht) (S2.os (S2.r1 (in_in (n := 6) (by decide) ht (by decide)) (S2.rn (by decide) ?_)))
    rcases ix6 x2 6 (by decide) with h2 | ⟨r, hr, rfl⟩
    · exact S2.l1 (slot_out h2) (S2.ly rfl (S2.r1 (in_out (n := 6) (by decide) (by decide) h2) (S2.ry rfl (S2.ret rfl))))
    · refine S2.l1 (slot_in hr) (S2.ln (by decide) (S2.lg ht (S2.r1 (in_in (n := 6) (by decide) hr (by decide)) (S2.rn (by decide) (S2.rg (bnd ht (by decide)) ?_)))))
      unfold f_yX5_held
      rw [ob1_eq _ (slot_in hr), if_neg (by decide), gd_pos _ (bnd hr (by decide)), nI_clamp (show r < 2 ^ 31 by omega), nI_clamp (show t < 2 ^ 31 by omega), ← h.st ht]
      by_cases h0 : M 6 t 0 = 0
      · rw [if_pos h0]
        obtain ⟨z, -, -, -, -, -, hT, -⟩ := h.2
        obtain ⟨st, b1, b2, b3, -⟩ := hT t ht
        have hst : st = 0 := by
          rw [h0] at b2
          have := (ieq (x := 0) (a := 0) (by decide) (nI_tl (n := st) (by omega))).mp b2
          omega
        exact S2.ret ((b3 hst).2 r hr)
      · rw [if_neg h0, gd_pos _ (b36 ht hr), c36 ht hr]
        exact S2.ret (h.hnd ht hr h0)
