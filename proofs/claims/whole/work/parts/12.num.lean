/-! numbers, for simp with omega -/
theorem nle_f {a b : Nat} (h : b < a) : (a ≤ b) = False := eq_false (by omega)
theorem nle_t {a b : Nat} (h : a ≤ b) : (a ≤ b) = True := eq_true h
theorem nlt_f {a b : Nat} (h : b ≤ a) : (a < b) = False := eq_false (by omega)
theorem nlt_t {a b : Nat} (h : a < b) : (a < b) = True := eq_true h
theorem neq_f {a b : Nat} (h : a < b ∨ b < a) : (a = b) = False := eq_false (by omega)
theorem neq_t {a b : Nat} (h : a = b) : (a = b) = True := eq_true h
theorem lit_nI (k : Nat) : (OfNat.ofNat k : Int32) = nI (OfNat.ofNat k) := rfl
theorem llA (t k : Nat) : nI t + (no_index (OfNat.ofNat k) : Int32) = nI (t + OfNat.ofNat k) := by rw [lit_nI, nI_add]
theorem llM (k t : Nat) : (no_index (OfNat.ofNat k) : Int32) * nI t = nI (OfNat.ofNat k * t) := by rw [lit_nI, pk_mul]
theorem llm (k t : Nat) : nI t * (no_index (OfNat.ofNat k) : Int32) = nI (t * OfNat.ofNat k) := by rw [lit_nI, pk_mul]
theorem llS' {t : Nat} (k : Nat) (h : k ≤ t) : nI t - nI k = nI (t - k) := by
  have e : t = (t - k) + k := by omega
  generalize t - k = d at e
  subst e
  show Int32.ofNat (d + k) - Int32.ofNat k = Int32.ofNat d
  rw [Int32.ofNat_add]
  simp
theorem llS {t : Nat} (k : Nat) (h : OfNat.ofNat k ≤ t) : nI t - (no_index (OfNat.ofNat k) : Int32) = nI (t - OfNat.ofNat k) := llS' _ h
theorem lle_f {k t : Nat} (h : t < OfNat.ofNat k) (hk : OfNat.ofNat k < 2147483648) : ((no_index (OfNat.ofNat k) : Int32) ≤ nI t) = False := by rw [lit_nI, nI_leI hk (by omega)]; exact nle_f h
theorem lle_t {k t : Nat} (h : OfNat.ofNat k ≤ t) (hk : t < 2147483648) : ((no_index (OfNat.ofNat k) : Int32) ≤ nI t) = True := by rw [lit_nI, nI_leI (by omega) hk]; exact nle_t h
theorem lle2_f {k t : Nat} (h : OfNat.ofNat k < t) (hk : t < 2147483648) : (nI t ≤ (no_index (OfNat.ofNat k) : Int32)) = False := by rw [lit_nI, nI_leI hk (by omega)]; exact nle_f h
theorem lle2_t {k t : Nat} (h : t ≤ OfNat.ofNat k) (hk : OfNat.ofNat k < 2147483648) : (nI t ≤ (no_index (OfNat.ofNat k) : Int32)) = True := by rw [lit_nI, nI_leI (by omega) hk]; exact nle_t h
theorem llt_f {k t : Nat} (h : OfNat.ofNat k ≤ t) (hk : t < 2147483648) : (nI t < (no_index (OfNat.ofNat k) : Int32)) = False := by rw [lit_nI, nI_ltI hk (by omega)]; exact nlt_f h
theorem llt_t {k t : Nat} (h : t < OfNat.ofNat k) (hk : OfNat.ofNat k < 2147483648) : (nI t < (no_index (OfNat.ofNat k) : Int32)) = True := by rw [lit_nI, nI_ltI (by omega) hk]; exact nlt_t h
theorem llt2_f {k t : Nat} (h : t ≤ OfNat.ofNat k) (hk : OfNat.ofNat k < 2147483648) : ((no_index (OfNat.ofNat k) : Int32) < nI t) = False := by rw [lit_nI, nI_ltI hk (by omega)]; exact nlt_f h
theorem llt2_t {k t : Nat} (h : OfNat.ofNat k < t) (hk : t < 2147483648) : ((no_index (OfNat.ofNat k) : Int32) < nI t) = True := by rw [lit_nI, nI_ltI (by omega) hk]; exact nlt_t h
theorem leq_f {k t : Nat} (h : OfNat.ofNat k < t ∨ t < OfNat.ofNat k) (hk : OfNat.ofNat k < 2147483648) (ht : t < 2147483648) : (nI t = (no_index (OfNat.ofNat k) : Int32)) = False := by rw [lit_nI, nI_eq ht hk]; exact neq_f (by omega)
theorem leq_t {k t : Nat} (h : t = OfNat.ofNat k) : (nI t = (no_index (OfNat.ofNat k) : Int32)) = True := by rw [lit_nI, h]; exact eq_true rfl
theorem lz_f {t : Nat} (h : t < 2147483648) (k : Nat) (hk : 0 < (OfNat.ofNat k : Nat)) (hk2 : OfNat.ofNat k < 2147483648) : (nI t = (-(no_index (OfNat.ofNat k) : Int32))) = False := by
  refine eq_false (fun e => ?_)
  have e1 := congrArg Int32.toInt e
  rw [nI_toInt h, Int32.toInt_neg, lit_nI, nI_toInt hk2, Int.bmod_def] at e1
  omega
theorem lzl_t {t : Nat} (h : t < 2147483648) (k : Nat) (hk : 0 < (OfNat.ofNat k : Nat)) (hk2 : OfNat.ofNat k < 2147483648) : (nI t < (-(no_index (OfNat.ofNat k) : Int32))) = False := by
  refine eq_false (fun e => ?_)
  rw [Int32.lt_iff_toInt_lt, nI_toInt h, Int32.toInt_neg, lit_nI, nI_toInt hk2, Int.bmod_def] at e
  omega
/-! the words of the functions -/
theorem gd_b {α : Type} {n N : Nat} {o : Option α} (h : n < N) (hN : N < 2147483648) : gd (¬ (nI n < 0 ∨ N ≤ (nI n).toNatClampNeg)) o = o := gd_pos o (nI_in h hN)
theorem gd_t {α : Type} {o : Option α} : gd True o = o := gd_pos o trivial
theorem gd_f {α : Type} {o : Option α} : gd False o = none := if_neg (fun h => h)
theorem ob1_s {α β : Type} (a : α) (f : α → Option β) : ob1 (some a) f = f a := rfl
theorem ob2_s {α β γ : Type} (a : α) (b : γ) (f : α → γ → Option β) : ob2 (some (a, b)) f = f a b := rfl
theorem S2_ret {α β : Type} {Q : α → β → Prop} {x : α} {y : β} : S2 (some x) (some y) Q = Q x y := by
  refine propext ⟨fun h => ?_, fun h => S2.ret h⟩
  obtain ⟨a, b, h1, h2, h3⟩ := h
  cases h1; cases h2; exact h3
