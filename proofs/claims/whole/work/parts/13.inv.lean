/-! what holds between calls -/
def gc (M : Mem) : Gd := fun t k => if k = 1 ∨ k = 11 ∨ k = 12 ∨ k = 20 then decide (¬ M 6 t 0 = 0) else if k = 13 ∨ k = 14 then decide (M 6 t 0 = 3 ∨ M 6 t 0 = 4) else true
def lc (M : Mem) : Nat → Nat := fun i => (M 8 i 4).toNatClampNeg
/-- a thread's row r, its hands hd, with z things -/
def TI (z : Nat) (r hd : Nat → Int32) : Prop := (∃ st : Nat, st ≤ 7 ∧ r 0 = nI st) ∧
  (r 0 = 0 → r 1 < 0 ∧ ∀ h, h < 6 → hd h = -4) ∧ (¬ r 0 = 0 → ∃ p : Nat, p < 8 ∧ r 1 = nI p) ∧
  (r 4 = 0 ∨ r 4 = 1) ∧ (r 5 = 0 ∨ r 5 = 1) ∧ (∃ pl : Nat, pl ≤ 40 ∧ r 3 = nI pl) ∧
  (r 0 = 3 ∨ r 0 = 4 → ∃ x : Nat, x < z ∧ r 11 = nI x) ∧ (r 0 = 6 → ∃ u : Nat, u < 6 ∧ r 11 = nI u) ∧ (¬ r 0 = 3 → ¬ r 0 = 4 → ¬ r 0 = 6 → r 11 = -4) ∧ (¬ r 0 = 4 → ¬ r 0 = 5 → r 12 = -4) ∧
  (∀ h, h < 6 → hd h = -4 ∨ ∃ x : Nat, x < z ∧ hd h = nI x)
/-- a thing's row r with its places pl -/
def OI (z : Nat) (r pl : Nat → Int32) : Prop := ∃ n kd : Nat, n ≤ 12 ∧ r 4 = nI n ∧ (r 2 = -4 ∨ ∃ t : Nat, t < 6 ∧ r 2 = nI t) ∧
  kd ≤ 7 ∧ r 0 = nI kd ∧ (kd ≤ 3 → n = 0) ∧ (kd = 0 → r 1 = 0) ∧ (6 ≤ kd → ∀ j, j < n → pl j = -4 ∨ ∃ x : Nat, x < z ∧ pl j = nI x)
def HI (h pl : Nat → Int32) : Prop := (∃ n : Nat, n ≤ 8 ∧ h 0 = nI n) ∧ ∀ r, r < 8 → ∃ q : Nat, q ≤ 40 ∧ pl r = nI q
def PI (s a : Nat → Int32) : Prop := (∃ n : Nat, n ≤ 40 ∧ s 0 = nI n) ∧ ∀ q, q < 40 → f_yX3_isWellNamed (a (4 * q)) (a (4 * q + 1)) (a (4 * q + 2)) (a (4 * q + 3)) = some 1
/-- what the two logs are, and how many turns are in them -/
abbrev Lg : Type := (Nat → Int32) × (Nat → Int32) × Nat × Nat × Int32 × Int32
def CI (n : Lg) (M : Mem) : Prop := (∃ l : Nat, l < 6 ∧ M 0 0 1 = nI l) ∧ (M 0 0 0 = 0 ∨ M 0 0 0 = 1) ∧ (M 2 0 1 = 0 ∨ M 2 0 1 = 1 ∨ M 2 0 1 = 2) ∧ M 13 0 = n.1 ∧ M 4 0 2 = nI n.2.2.1
def nmL : List Int32 := [100, 110, 110, 110, 110, 111, 200, 210, 110, 131, 111, 110, 110, 110, 110, 110, 110, 111, 111, 111, 111, 111, 100, 100, 110, 100, 100, 100, 100, 100, 100, 100, 100, 240, 0, 110, 0]
def NI (n : Lg) (N : Mem) : Prop := (∀ q, q < 37 → N 30 0 q = nmL.getD q 0) ∧ N 52 0 = n.2.1 ∧ N 20 0 12 = nI n.2.2.2.1 ∧ N 20 0 7 = n.2.2.2.2.1 ∧ N 20 0 8 = n.2.2.2.2.2
def bk (k : Nat) : Nat := if k ≤ 3 then k else 4
def XI (M N : Mem) : Prop := (M 1 0 1 = -4 ∧ N 20 0 1 = 0) ∨ ∃ k : Nat, k ≤ 7 ∧ M 1 0 1 = nI k ∧ N 20 0 1 = nI (sl (bk k)) ∧ ∀ q, q < sl (bk k) → N 27 0 q = sc (bk k) q
def inB (M : Mem) (t : Nat) : Prop := M 6 t 0 = 3 ∨ M 6 t 0 = 4
def SI (b : Nat) (M : Mem) : Prop := ∃ m : Nat, m ≤ b ∧ M 2 0 2 = nI m ∧ (∀ t, t < 6 → inB M t → ∃ s : Nat, s < m ∧ M 6 t 14 = nI s) ∧ ∀ t u, t < 6 → u < 6 → t ≠ u → inB M t → inB M u → ¬ M 6 t 14 = M 6 u 14
def IV (z b : Nat) (n : Lg) (M N : Mem) : Prop := (z ≤ 32 ∧ M 60 0 1 = nI z ∧ M 60 0 0 = nI z ∧ M 1 0 0 = nI z) ∧
  (∀ i, i < z → OI z (M 8 i) (M 19 i)) ∧ (∀ t, t < 6 → TI z (M 6 t) (M 16 t)) ∧ (∀ t, t < 6 → HI (M 7 t) (M 17 t)) ∧ (∀ p, p < 8 → PI (M 5 p) (M 14 p)) ∧ CI n M ∧ NI n N ∧ XI M N ∧ SI b M
def RR (z b : Nat) (n : Lg) (M N : Mem) : Prop := R0 (gc M) (lc M) M N ∧ IV z b n M N
abbrev Rv (a b : Option Int32) : Prop := S2 a b (fun x y => x = y)
section PRJ
variable {z b : Nat} {n : Lg} {M N : Mem}
theorem RR.z32 (h : RR z b n M N) : z ≤ 32 := h.2.1.1
theorem RR.g1 (h : RR z b n M N) : M 60 0 1 = nI z := h.2.1.2.1
theorem RR.g0 (h : RR z b n M N) : M 60 0 0 = nI z := h.2.1.2.2.1
theorem RR.sz (h : RR z b n M N) : M 1 0 0 = nI z := h.2.1.2.2.2
theorem RR.oi (h : RR z b n M N) {i : Nat} (hi : i < z) : OI z (M 8 i) (M 19 i) := h.2.2.1 i hi
theorem RR.ti (h : RR z b n M N) {t : Nat} (ht : t < 6) : TI z (M 6 t) (M 16 t) := h.2.2.2.1 t ht
theorem RR.hi (h : RR z b n M N) {t : Nat} (ht : t < 6) : HI (M 7 t) (M 17 t) := h.2.2.2.2.1 t ht
theorem RR.pi (h : RR z b n M N) {p : Nat} (hp : p < 8) : PI (M 5 p) (M 14 p) := h.2.2.2.2.2.1 p hp
theorem RR.ci (h : RR z b n M N) : CI n M := h.2.2.2.2.2.2.1
theorem RR.ni (h : RR z b n M N) : NI n N := h.2.2.2.2.2.2.2.1
theorem RR.xi (h : RR z b n M N) : XI M N := h.2.2.2.2.2.2.2.2.1
theorem RR.si (h : RR z b n M N) : SI b M := h.2.2.2.2.2.2.2.2.2
theorem RR.mono {b' : Nat} (h : RR z b n M N) (hb : b ≤ b') (_ : 0 ≤ 0) : RR z b' n M N := by
  obtain ⟨h0, h1, h2, h3, h4, h5, h6, h7, h8, ⟨m, m1, m2⟩⟩ := h
  exact ⟨h0, h1, h2, h3, h4, h5, h6, h7, h8, ⟨m, by omega, m2⟩⟩
/-! what the second memory has, out of the first -/
theorem RR.th (h : RR z b n M N) {t k : Nat} (ht : t < 6) (hk : k < 16) (h6 : k ≠ 6) (hg : gc M t k = true) : N (tmk k) 0 t = M 6 t k := (h.1 6 t k (tmk k, t) (by rw [co_6, if_pos ⟨ht, hk, h6, hg⟩])).symm
theorem RR.n31 (h : RR z b n M N) {t : Nat} (ht : t < 6) : N 31 0 t = M 6 t 0 := h.th (k := 0) ht (by decide) (by decide) rfl
theorem RR.n32 (h : RR z b n M N) {t : Nat} (ht : t < 6) (h0 : ¬ M 6 t 0 = 0) : N 32 0 t = M 6 t 1 := h.th (k := 1) ht (by decide) (by decide) (by simp [gc, h0])
theorem RR.n33 (h : RR z b n M N) {t : Nat} (ht : t < 6) : N 33 0 t = M 6 t 2 := h.th (k := 2) ht (by decide) (by decide) rfl
theorem RR.n34 (h : RR z b n M N) {t : Nat} (ht : t < 6) : N 34 0 t = M 6 t 3 := h.th (k := 3) ht (by decide) (by decide) rfl
theorem RR.n35 (h : RR z b n M N) {t : Nat} (ht : t < 6) : N 35 0 t = M 6 t 4 := h.th (k := 4) ht (by decide) (by decide) rfl
theorem RR.n36 (h : RR z b n M N) {t : Nat} (ht : t < 6) : N 36 0 t = M 6 t 5 := h.th (k := 5) ht (by decide) (by decide) rfl
theorem RR.n44 (h : RR z b n M N) {t : Nat} (ht : t < 6) : N 44 0 t = M 6 t 7 := h.th (k := 7) ht (by decide) (by decide) rfl
theorem RR.n45 (h : RR z b n M N) {t : Nat} (ht : t < 6) : N 45 0 t = M 6 t 8 := h.th (k := 8) ht (by decide) (by decide) rfl
theorem RR.n37 (h : RR z b n M N) {t : Nat} (ht : t < 6) : N 37 0 t = M 6 t 9 := h.th (k := 9) ht (by decide) (by decide) rfl
theorem RR.n38 (h : RR z b n M N) {t : Nat} (ht : t < 6) : N 38 0 t = M 6 t 10 := h.th (k := 10) ht (by decide) (by decide) rfl
theorem RR.n39 (h : RR z b n M N) {t : Nat} (ht : t < 6) (h0 : ¬ M 6 t 0 = 0) : N 39 0 t = M 6 t 11 := h.th (k := 11) ht (by decide) (by decide) (by simp [gc, h0])
theorem RR.n40 (h : RR z b n M N) {t : Nat} (ht : t < 6) (h0 : ¬ M 6 t 0 = 0) : N 40 0 t = M 6 t 12 := h.th (k := 12) ht (by decide) (by decide) (by simp [gc, h0])
theorem RR.n41 (h : RR z b n M N) {t : Nat} (ht : t < 6) (h0 : inB M t) : N 41 0 t = M 6 t 13 := h.th (k := 13) ht (by decide) (by decide) (by unfold inB at h0; simp [gc, h0])
theorem RR.n42 (h : RR z b n M N) {t : Nat} (ht : t < 6) (h0 : inB M t) : N 42 0 t = M 6 t 14 := h.th (k := 14) ht (by decide) (by decide) (by unfold inB at h0; simp [gc, h0])
theorem RR.n43 (h : RR z b n M N) {t : Nat} (ht : t < 6) : N 43 0 t = M 6 t 15 := h.th (k := 15) ht (by decide) (by decide) rfl
theorem RR.n46 (h : RR z b n M N) {t : Nat} (ht : t < 6) : N 46 0 t = M 7 t 0 := (h.1 7 t 0 (46, t) (by show (if t < 6 ∧ 0 = 0 then some (46, t) else none) = _; rw [if_pos ⟨ht, rfl⟩])).symm
theorem RR.n29 (h : RR z b n M N) {p : Nat} (hp : p < 8) : N 29 0 p = M 5 p 0 := (h.1 5 p 0 (29, p) (by show (if p < 8 ∧ 0 = 0 then some (29, p) else none) = _; rw [if_pos ⟨hp, rfl⟩])).symm
theorem RR.n28 (h : RR z b n M N) {p q : Nat} (hp : p < 8) (hq : q < 160) : N 28 0 (160 * p + q) = M 14 p q := (h.1 14 p q (28, 160 * p + q) (by show (if p < 8 ∧ q < 160 then some (28, 160 * p + q) else none) = _; rw [if_pos ⟨hp, hq⟩])).symm
theorem RR.n49 (h : RR z b n M N) {t r : Nat} (ht : t < 6) (hr : r < 6) : N 49 0 (6 * t + r) = M 15 t r := (h.1 15 t r (49, 6 * t + r) (by show (if t < 6 ∧ r < 6 then some (49, 6 * t + r) else none) = _; rw [if_pos ⟨ht, hr⟩])).symm
theorem RR.n50 (h : RR z b n M N) {t r : Nat} (ht : t < 6) (hr : r < 6) (hg : ¬ M 6 t 0 = 0) : N 50 0 (6 * t + r) = M 16 t r := (h.1 16 t r (50, 6 * t + r) (by rw [co_16, if_pos ⟨ht, hr, by simp [gc, hg]⟩])).symm
theorem RR.n47 (h : RR z b n M N) {t r : Nat} (ht : t < 6) (hr : r < 8) : N 47 0 (8 * t + r) = M 17 t r := (h.1 17 t r (47, 8 * t + r) (by show (if t < 6 ∧ r < 8 then some (47, 8 * t + r) else none) = _; rw [if_pos ⟨ht, hr⟩])).symm
theorem RR.n48 (h : RR z b n M N) {t r : Nat} (ht : t < 6) (hr : r < 8) : N 48 0 (8 * t + r) = M 18 t r := (h.1 18 t r (48, 8 * t + r) (by show (if t < 6 ∧ r < 8 then some (48, 8 * t + r) else none) = _; rw [if_pos ⟨ht, hr⟩])).symm
theorem RR.n24 (h : RR z b n M N) {i r l : Nat} (hi : i < 32) (hr : r < l) (hl : l ≤ 12) (e : M 8 i 4 = nI l) : N 24 0 (12 * i + r) = M 19 i r := (h.1 19 i r (24, 12 * i + r) (by show (if i < 32 ∧ r < 12 ∧ r < lc M i then some (24, 12 * i + r) else none) = _; rw [if_pos ⟨hi, by omega, by unfold lc; rw [e, nI_clamp (by omega)]; exact hr⟩])).symm
theorem RR.n51 (h : RR z b n M N) {r : Nat} (hr : r < 12) : N 51 0 r = M 12 0 r := (h.1 12 0 r (51, r) (by show (if 0 = 0 ∧ r < 12 then some (51, r) else none) = _; rw [if_pos ⟨rfl, hr⟩])).symm
theorem RR.n52 (h : RR z b n M N) : N 52 0 = n.2.1 := h.ni.2.1
theorem RR.m13 (h : RR z b n M N) : M 13 0 = n.1 := h.ci.2.2.2.1
theorem RR.mlog (h : RR z b n M N) : M 4 0 2 = nI n.2.2.1 := h.ci.2.2.2.2
theorem RR.n21 (h : RR z b n M N) {i : Nat} (hi : i < 32) : N 21 0 i = M 8 i 0 := (h.1 8 i 0 (21, i) (by show (if i < 32 then some (21, i) else none) = _; rw [if_pos hi])).symm
theorem RR.n22 (h : RR z b n M N) {i : Nat} (hi : i < 32) : N 22 0 i = M 8 i 1 := (h.1 8 i 1 (22, i) (by show (if i < 32 then some (22, i) else none) = _; rw [if_pos hi])).symm
theorem RR.n25 (h : RR z b n M N) {i : Nat} (hi : i < 32) : N 25 0 i = M 8 i 2 := (h.1 8 i 2 (25, i) (by show (if i < 32 then some (25, i) else none) = _; rw [if_pos hi])).symm
theorem RR.n26 (h : RR z b n M N) {i : Nat} (hi : i < 32) : N 26 0 i = M 8 i 3 := (h.1 8 i 3 (26, i) (by show (if i < 32 then some (26, i) else none) = _; rw [if_pos hi])).symm
theorem RR.n23 (h : RR z b n M N) {i : Nat} (hi : i < 32) : N 23 0 i = M 8 i 4 := (h.1 8 i 4 (23, i) (by show (if i < 32 then some (23, i) else none) = _; rw [if_pos hi])).symm
theorem RR.nrule (h : RR z b n M N) : N 20 0 3 = M 0 0 0 := (h.1 0 0 0 (20, 3) rfl).symm
theorem RR.nlast (h : RR z b n M N) : N 20 0 5 = M 0 0 1 := (h.1 0 0 1 (20, 5) rfl).symm
theorem RR.nsz (h : RR z b n M N) : N 20 0 0 = M 1 0 0 := (h.1 1 0 0 (20, 0) rfl).symm
theorem RR.ntime (h : RR z b n M N) : N 20 0 2 = M 2 0 0 := (h.1 2 0 0 (20, 2) rfl).symm
theorem RR.norder (h : RR z b n M N) : N 20 0 4 = M 2 0 1 := (h.1 2 0 1 (20, 4) rfl).symm
theorem RR.nbegun (h : RR z b n M N) : N 20 0 6 = M 2 0 2 := (h.1 2 0 2 (20, 6) rfl).symm
theorem RR.nacts (h : RR z b n M N) : N 20 0 11 = M 3 0 0 := (h.1 3 0 0 (20, 11) rfl).symm
theorem RR.nmany (h : RR z b n M N) : N 20 0 9 = M 4 0 0 := (h.1 4 0 0 (20, 9) rfl).symm
theorem RR.nmet (h : RR z b n M N) : N 20 0 10 = M 4 0 1 := (h.1 4 0 1 (20, 10) rfl).symm
theorem RR.nlog (h : RR z b n M N) : N 20 0 12 = nI n.2.2.2.1 := h.ni.2.2.1
theorem RR.nfl (h : RR z b n M N) : N 20 0 7 = n.2.2.2.2.1 := h.ni.2.2.2.1
theorem RR.nfn (h : RR z b n M N) : N 20 0 8 = n.2.2.2.2.2 := h.ni.2.2.2.2
end PRJ
/-! the same things, and what is new -/
theorem mp_pool (M : Mem) {c i k : Nat} (v : Int32) {c' : Nat} (h : c' ≠ c) : mp M c i k v c' = M c' := by
  funext i' k'
  exact mp_ne M v (fun z => h z.1)
def frb (c : Nat) : Bool := match c with
  | 3 => false
  | 12 => false
  | 15 => false
  | 18 => false
  | _ => true
theorem SI.same {b : Nat} {M M' : Mem} (h : SI b M) (e6 : ∀ u, u < 6 → M' 6 u 0 = M 6 u 0) (e14 : ∀ u, u < 6 → M' 6 u 14 = M 6 u 14) (e2 : M' 2 0 2 = M 2 0 2) : SI b M' := by
  obtain ⟨m, m1, m2, m3, m4⟩ := h
  refine ⟨m, m1, by rw [e2]; exact m2, fun t ht hb => ?_, fun t u ht hu hn h1 h2 => ?_⟩
  · unfold inB at hb
    rw [e6 t ht] at hb
    rw [e14 t ht]
    exact m3 t ht hb
  · unfold inB at h1 h2
    rw [e6 t ht] at h1
    rw [e6 u hu] at h2
    rw [e14 t ht, e14 u hu]
    exact m4 t u ht hu hn h1 h2
theorem SI.no {b : Nat} {M M' : Mem} {t : Nat} (h : SI b M) (e6 : ∀ u, u ≠ t → M' 6 u = M 6 u) (e2 : M' 2 0 2 = M 2 0 2) (hn : ¬ inB M' t) : SI b M' := by
  obtain ⟨m, m1, m2, m3, m4⟩ := h
  have en : ∀ u, inB M' u → u ≠ t ∧ inB M u := fun u hu => by
    have h1 : u ≠ t := fun z => hn (z ▸ hu)
    refine ⟨h1, ?_⟩
    unfold inB at hu ⊢
    rw [e6 u h1] at hu
    exact hu
  refine ⟨m, m1, by rw [e2]; exact m2, fun u hu hb => ?_, fun u w hu hw hne h1 h2 => ?_⟩
  · rw [e6 u (en u hb).1]
    exact m3 u hu (en u hb).2
  · rw [e6 u (en u h1).1, e6 w (en w h2).1]
    exact m4 u w hu hw hne (en u h1).2 (en w h2).2
theorem SI.new {b : Nat} {M M' : Mem} {t : Nat} (h : SI b M) (hb : b < 2147483647) (e6 : ∀ u, u ≠ t → M' 6 u = M 6 u) (e14 : M' 6 t 14 = M 2 0 2) (e2 : M' 2 0 2 = M 2 0 2 + 1) : SI (b + 1) M' := by
  obtain ⟨m, m1, m2, m3, m4⟩ := h
  have en : ∀ u, u ≠ t → inB M' u → inB M u := fun u h1 hu => by
    unfold inB at hu ⊢
    rw [e6 u h1] at hu
    exact hu
  have old : ∀ u, u < 6 → u ≠ t → inB M' u → ∃ s : Nat, s < m ∧ M' 6 u 14 = nI s := fun u hu h1 h2 => by
    rw [e6 u h1]
    exact m3 u hu (en u h1 h2)
  refine ⟨m + 1, by omega, by rw [e2, m2, nI_1], fun u hu hb' => ?_, fun u w hu hw hne h1 h2 => ?_⟩
  · by_cases hut : u = t
    · subst hut
      exact ⟨m, by omega, by rw [e14, m2]⟩
    · obtain ⟨s, s1, s2⟩ := old u hu hut hb'
      exact ⟨s, by omega, s2⟩
  · by_cases hut : u = t
    · subst hut
      obtain ⟨s, s1, s2⟩ := old w hw (Ne.symm hne) h2
      rw [e14, m2, s2, nI_eq (by omega) (by omega)]
      omega
    · by_cases hwt : w = t
      · subst hwt
        obtain ⟨s, s1, s2⟩ := old u hu hut h1
        rw [e14, m2, s2, nI_eq (by omega) (by omega)]
        omega
      · rw [e6 u hut, e6 w hwt]
        exact m4 u w hu hw hne (en u hut h1) (en w hwt h2)
def NF (N N' : Mem) : Prop := (∀ q, N' 30 0 q = N 30 0 q) ∧ (∀ q, N' 27 0 q = N 27 0 q) ∧ N' 20 0 1 = N 20 0 1 ∧ (∀ q, N' 52 0 q = N 52 0 q) ∧ ∀ x, x = 12 ∨ x = 7 ∨ x = 8 → N' 20 0 x = N 20 0 x
theorem NF.rfl' (N : Mem) : NF N N := ⟨fun _ => rfl, fun _ => rfl, rfl, fun _ => rfl, fun _ _ => rfl⟩
theorem NF.ni {n : Lg} {N N' : Mem} (h : NF N N') (hn : NI n N) : NI n N' := by
  refine ⟨fun q hq => ?_, ?_, ?_, ?_, ?_⟩
  · rw [h.1 q]; exact hn.1 q hq
  · rw [← hn.2.1]; funext q; exact h.2.2.2.1 q
  · rw [h.2.2.2.2 12 (by omega)]; exact hn.2.2.1
  · rw [h.2.2.2.2 7 (by omega)]; exact hn.2.2.2.1
  · rw [h.2.2.2.2 8 (by omega)]; exact hn.2.2.2.2
theorem NF.xi {M M' N N' : Mem} (h : NF N N') (e : M' 1 0 1 = M 1 0 1) (hn : XI M N) : XI M' N' := by
  unfold XI at *
  simp only [h.2.1, h.2.2.1, e]
  exact hn
theorem IV.fr {z b : Nat} {n : Lg} {M M' N N' : Mem} (h : IV z b n M N) (e : ∀ c, frb c = true → M' c = M c) (hN : NF N N') : IV z b n M' N' := by
  obtain ⟨a1, a2, a3, a4, a5, a6, a7, a8, a9⟩ := h
  refine ⟨?_, ?_, ?_, ?_, ?_, ?_, hN.ni a7, hN.xi (by rw [e 1 rfl]) a8, ?_⟩
  · rw [e 60 rfl, e 1 rfl]; exact a1
  · rw [e 8 rfl, e 19 rfl]; exact a2
  · rw [e 6 rfl, e 16 rfl]; exact a3
  · rw [e 7 rfl, e 17 rfl]; exact a4
  · rw [e 5 rfl, e 14 rfl]; exact a5
  · unfold CI at *; rw [e 0 rfl, e 2 rfl, e 4 rfl, e 13 rfl]; exact a6
  · unfold SI inB at *; rw [e 2 rfl, e 6 rfl]; exact a9
/-- the row of a thread is another, and the number of stamps -/
theorem IV.thr {z b b' t : Nat} {n : Lg} {M M' N N' : Mem} (h : IV z b n M N) (e6 : ∀ u, u ≠ t → M' 6 u = M 6 u) (e : ∀ c i k, c ≠ 6 → ¬ (c = 2 ∧ i = 0 ∧ k = 2) → M' c i k = M c i k) (hN : NF N N') (hT : TI z (M' 6 t) (M 16 t)) (hS : SI b' M') : IV z b' n M' N' := by
  have ec : ∀ c, c ≠ 6 → c ≠ 2 → M' c = M c := fun c h1 h2 => by
    funext i k
    exact e c i k h1 (fun z => h2 z.1)
  obtain ⟨a1, a2, a3, a4, a5, a6, a7, a8, a9⟩ := h
  refine ⟨?_, ?_, ?_, ?_, ?_, ?_, hN.ni a7, hN.xi (by rw [ec 1 (by decide) (by decide)]) a8, hS⟩
  · rw [ec 60 (by decide) (by decide), ec 1 (by decide) (by decide)]; exact a1
  · rw [ec 8 (by decide) (by decide), ec 19 (by decide) (by decide)]; exact a2
  · intro u hu
    by_cases hut : u = t
    · subst hut
      rw [ec 16 (by decide) (by decide)]
      exact hT
    · rw [e6 u hut, ec 16 (by decide) (by decide)]; exact a3 u hu
  · rw [ec 7 (by decide) (by decide), ec 17 (by decide) (by decide)]; exact a4
  · rw [ec 5 (by decide) (by decide), ec 14 (by decide) (by decide)]; exact a5
  · unfold CI at a6 ⊢
    rw [ec 0 (by decide) (by decide), ec 4 (by decide) (by decide), ec 13 (by decide) (by decide), e 2 0 1 (by decide) (by decide)]; exact a6
theorem RR.thr {z b b' t : Nat} {n : Lg} {M M' N N' : Mem} (h : RR z b n M N) (ht : t < 6)
    (e6 : ∀ u, u ≠ t → M' 6 u = M 6 u) (e : ∀ c i k, c ≠ 6 → ¬ (c = 2 ∧ i = 0 ∧ k = 2) → M' c i k = M c i k)
    (eN : ∀ p x, ¬ (31 ≤ p ∧ p ≤ 45 ∧ x = t) → ¬ (p = 20 ∧ x = 6) → N' p 0 x = N p 0 x) (h2 : M' 2 0 2 = N' 20 0 6)
    (hh : M 6 t 0 = 0 → M' 6 t 0 = 0) (hk : ∀ k, k < 16 → k ≠ 6 → gc M' t k = true → M' 6 t k = N' (tmk k) 0 t)
    (hT : TI z (M' 6 t) (M 16 t)) (hS : SI b' M') : RR z b' n M' N' := by
  refine ⟨?_, h.2.thr e6 e ⟨fun q => eN 30 q (by omega) (by omega), fun q => eN 27 q (by omega) (by omega), eN 20 1 (by omega) (by omega), fun q => eN 52 q (by omega) (by omega), fun x hx => eN 20 x (by omega) (by omega)⟩ hT hS⟩
  intro c i k q hq
  by_cases hc : c = 6
  · subst hc
    rw [co_6] at hq
    by_cases hi : i < 6 ∧ k < 16 ∧ k ≠ 6 ∧ gc M' i k = true
    · rw [if_pos hi] at hq
      cases hq
      by_cases hit : i = t
      · subst hit
        exact hk k hi.2.1 hi.2.2.1 hi.2.2.2
      · have hg : gc M i k = true := by
          have := hi.2.2.2
          unfold gc at this ⊢
          rw [e6 i hit] at this
          exact this
        rw [e6 i hit, eN _ _ (fun z => hit z.2.2) (fun z => by have := (tkm_tmk k hi.2.1 hi.2.2.1).2; omega)]
        exact (h.th hi.1 hi.2.1 hi.2.2.1 hg).symm
    · rw [if_neg hi] at hq; cases hq
  · by_cases h22 : c = 2 ∧ i = 0 ∧ k = 2
    · obtain ⟨rfl, rfl, rfl⟩ := h22
      cases hq
      exact h2
    · have hq0 : co (gc M) (lc M) c i k = some q := by
        have hl : lc M' = lc M := by
          funext i'
          unfold lc
          rw [e 8 i' 4 (by decide) (by omega)]
        rw [hl] at hq
        by_cases h16 : c = 16
        · subst h16
          rw [co_16] at hq ⊢
          by_cases hi : i < 6 ∧ k < 6 ∧ gc M' i 20 = true
          · rw [if_pos hi] at hq
            have hg : gc M i 20 = true := by
              have := hi.2.2
              by_cases hit : i = t
              · subst hit
                simp only [gc] at this ⊢
                simp only [reduceCtorEq, or_true, if_true, decide_eq_true_eq] at this ⊢
                exact fun z => this (hh z)
              · unfold gc at this ⊢
                rw [e6 i hit] at this
                exact this
            rw [if_pos ⟨hi.1, hi.2.1, hg⟩]
            exact hq
          · rw [if_neg hi] at hq; cases hq
        · rw [co_else (gc M) (gc M') (lc M) i k hc h16]; exact hq
      rw [e c i k hc h22, eN]
      · exact h.1 c i k q hq0
      · intro z
        have := dc_co hq0
        obtain ⟨q1, q2⟩ := q
        rw [dc_t z.1 z.2.1] at this
        exact hc (Prod.mk.inj this).1.symm
      · intro z
        have := dc_co hq0
        obtain ⟨q1, q2⟩ := q
        obtain ⟨z1, z2⟩ := z
        simp only at z1 z2
        subst z1 z2
        have h3 := (Prod.mk.inj this)
        have h4 := Prod.mk.inj h3.2
        exact h22 ⟨h3.1.symm, h4.1.symm, h4.2.symm⟩
