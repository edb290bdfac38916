/-! two runs side by side -/
def S2 {α β : Type} (a : Option α) (b : Option β) (Q : α → β → Prop) : Prop := ∃ x y, a = some x ∧ b = some y ∧ Q x y
section SIM
variable {α β γ δ ε ζ : Type} {Q : α → β → Prop}
theorem S2.ret {x : α} {y : β} (h : Q x y) : S2 (some x) (some y) Q := ⟨x, y, rfl, rfl, h⟩
theorem S2.mono {a : Option α} {b : Option β} {P : α → β → Prop} (h : S2 a b P) (k : ∀ x y, P x y → Q x y) : S2 a b Q := by
  obtain ⟨x, y, h1, h2, h3⟩ := h
  exact ⟨x, y, h1, h2, k x y h3⟩
theorem S2.b11 {a : Option γ} {b : Option δ} {f : γ → Option α} {g : δ → Option β} {P : γ → δ → Prop} (h : S2 a b P) (k : ∀ x y, P x y → S2 (f x) (g y) Q) : S2 (ob1 a f) (ob1 b g) Q := by
  obtain ⟨x, y, h1, h2, h3⟩ := h
  rw [ob1_eq f h1, ob1_eq g h2]
  exact k x y h3
theorem S2.b22 {a : Option (γ × ε)} {b : Option (δ × ζ)} {f : γ → ε → Option α} {g : δ → ζ → Option β} {P : γ × ε → δ × ζ → Prop} (h : S2 a b P) (k : ∀ x m y n, P (x, m) (y, n) → S2 (f x m) (g y n) Q) : S2 (ob2 a f) (ob2 b g) Q := by
  obtain ⟨⟨x, m⟩, ⟨y, n⟩, h1, h2, h3⟩ := h
  rw [ob2_eq f h1, ob2_eq g h2]
  exact k x m y n h3
theorem S2.lg {p : Prop} [Decidable p] {a : Option α} {b : Option β} (hp : p) (k : S2 a b Q) : S2 (gd p a) b Q := by rw [gd_pos a hp]; exact k
theorem S2.rg {p : Prop} [Decidable p] {a : Option α} {b : Option β} (hp : p) (k : S2 a b Q) : S2 a (gd p b) Q := by rw [gd_pos b hp]; exact k
theorem S2.ll {x : γ} {f : γ → Option α} {b : Option β} (k : S2 (f x) b Q) : S2 (lt1 x f) b Q := k
theorem S2.rl {x : γ} {f : γ → Option β} {a : Option α} (k : S2 a (f x) Q) : S2 a (lt1 x f) Q := k
theorem S2.l1 {o : Option γ} {x : γ} {f : γ → Option α} {b : Option β} (h : o = some x) (k : S2 (f x) b Q) : S2 (ob1 o f) b Q := by rw [ob1_eq f h]; exact k
theorem S2.r1 {o : Option γ} {x : γ} {f : γ → Option β} {a : Option α} (h : o = some x) (k : S2 a (f x) Q) : S2 a (ob1 o f) Q := by rw [ob1_eq f h]; exact k
theorem S2.l2 {o : Option (γ × δ)} {x : γ} {y : δ} {f : γ → δ → Option α} {b : Option β} (h : o = some (x, y)) (k : S2 (f x y) b Q) : S2 (ob2 o f) b Q := by rw [ob2_eq f h]; exact k
theorem S2.r2 {o : Option (γ × δ)} {x : γ} {y : δ} {f : γ → δ → Option β} {a : Option α} (h : o = some (x, y)) (k : S2 a (f x y) Q) : S2 a (ob2 o f) Q := by rw [ob2_eq f h]; exact k
theorem S2.if2 {c d : Prop} [Decidable c] [Decidable d] {a a' : Option α} {b b' : Option β} (e : c ↔ d) (t : c → d → S2 a b Q) (f : ¬ c → ¬ d → S2 a' b' Q) : S2 (if c then a else a') (if d then b else b') Q := by
  by_cases h : c
  · rw [if_pos h, if_pos (e.mp h)]; exact t h (e.mp h)
  · rw [if_neg h, if_neg (fun z => h (e.mpr z))]; exact f h (fun z => h (e.mpr z))
theorem S2.ly {c : Prop} [Decidable c] {a a' : Option α} {b : Option β} (h : c) (k : S2 a b Q) : S2 (if c then a else a') b Q := by rw [if_pos h]; exact k
theorem S2.ln {c : Prop} [Decidable c] {a a' : Option α} {b : Option β} (h : ¬ c) (k : S2 a' b Q) : S2 (if c then a else a') b Q := by rw [if_neg h]; exact k
theorem S2.ry {c : Prop} [Decidable c] {a : Option α} {b b' : Option β} (h : c) (k : S2 a b Q) : S2 a (if c then b else b') Q := by rw [if_pos h]; exact k
theorem S2.rn {c : Prop} [Decidable c] {a : Option α} {b b' : Option β} (h : ¬ c) (k : S2 a b' Q) : S2 a (if c then b else b') Q := by rw [if_neg h]; exact k
theorem S2.on {f : γ → Option α} {n : Option α} {b : Option β} (k : S2 n b Q) : S2 (om none n f) b Q := k
theorem S2.os {x : γ} {f : γ → Option α} {n : Option α} {b : Option β} (k : S2 (f x) b Q) : S2 (om (some x) n f) b Q := k
end SIM
/-! numbers -/
theorem nI_tl {n : Nat} (h : n < 2 ^ 31) : (nI n).toInt = (n : Int) := nI_toInt h
theorem ilt {x y : Int32} {a b : Int} (hx : x.toInt = a) (hy : y.toInt = b) : x < y ↔ a < b := by rw [Int32.lt_iff_toInt_lt, hx, hy]
theorem ile {x y : Int32} {a b : Int} (hx : x.toInt = a) (hy : y.toInt = b) : x ≤ y ↔ a ≤ b := by rw [Int32.le_iff_toInt_le, hx, hy]
theorem ieq {x y : Int32} {a b : Int} (hx : x.toInt = a) (hy : y.toInt = b) : x = y ↔ a = b := by
  constructor
  · intro h; rw [← hx, ← hy, h]
  · intro h; exact Int32.toInt_inj.mp (by rw [hx, hy, h])
theorem bnd {n N : Nat} (h : n < N) (hN : N < 2 ^ 31) : ¬ (nI n < 0 ∨ N ≤ (nI n).toNatClampNeg) := nI_in h hN
theorem ix6 (x : Int32) (n : Nat) (hn : n < 2 ^ 31) : (x < 0 ∨ nI n ≤ x) ∨ ∃ j : Nat, j < n ∧ x = nI j := by
  rcases pk_ix x hn with h | h | h
  · exact Or.inl (Or.inl h)
  · exact Or.inl (Or.inr h)
  · exact Or.inr h
/-! leaves -/
theorem at_in {M : Mem} {t : Nat} (h : t < 6) : f_yX1_at M (nI t) = some (some t) := by
  unfold f_yX1_at
  rw [if_neg (nI_pos (by omega)), if_neg (show ¬ (6 : Int32) ≤ nI t from nI_ge (a := t) (b := 6) h (by decide)), gd_pos _ (bnd h (by decide)), nI_clamp (by omega)]
theorem at_out {M : Mem} {x : Int32} (h : x < 0 ∨ (6 : Int32) ≤ x) : f_yX1_at M x = some none := by
  unfold f_yX1_at
  by_cases h0 : x < 0
  · rw [if_pos h0]
  · rw [if_neg h0, if_pos (h.resolve_left h0)]
theorem slot_in {t : Nat} (h : t < 6) : f_yX8_isSlot (nI t) = some 1 := by
  unfold f_yX8_isSlot
  rw [if_neg (nI_pos (by omega)), if_neg (show ¬ (6 : Int32) ≤ nI t from nI_ge (a := t) (b := 6) h (by decide))]
theorem slot_out {x : Int32} (h : x < 0 ∨ (6 : Int32) ≤ x) : f_yX8_isSlot x = some 0 := by
  unfold f_yX8_isSlot
  by_cases h0 : x < 0
  · rw [if_pos h0]
  · rw [if_neg h0, if_pos (h.resolve_left h0)]
/-- in(x, 0, n - 1) -/
theorem in_in {t n : Nat} {y : Int32} (hy : y.toInt = (n : Int) - 1) (h : t < n) (hn : n < 2 ^ 31) : f_yX9_in (nI t) 0 y = some 1 := by
  unfold f_yX9_in
  rw [if_neg (nI_pos (by omega)), if_neg (fun z => by rw [ilt hy (nI_tl (by omega))] at z; omega)]
theorem in_out {x : Int32} {n : Nat} {y : Int32} (hy : y.toInt = (n : Int) - 1) (hn : n < 2 ^ 31) (h : x < 0 ∨ nI n ≤ x) : f_yX9_in x 0 y = some 0 := by
  unfold f_yX9_in
  by_cases h0 : x < 0
  · rw [if_pos h0]
  · rw [if_neg h0, if_pos ?_]
    have h1 := h.resolve_left h0
    rw [Int32.le_iff_toInt_le, nI_tl hn] at h1
    rw [Int32.lt_iff_toInt_lt, hy]
    omega
