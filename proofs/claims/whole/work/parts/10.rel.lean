/-! the relation between the two memories: which slot of the one is which of the other -/
abbrev Gd : Type := Nat → Nat → Bool
def tmk (k : Nat) : Nat := match k with
  | 0 => 31
  | 1 => 32
  | 2 => 33
  | 3 => 34
  | 4 => 35
  | 5 => 36
  | 7 => 44
  | 8 => 45
  | 9 => 37
  | 10 => 38
  | 11 => 39
  | 12 => 40
  | 13 => 41
  | 14 => 42
  | 15 => 43
  | _ => 0
def tkm (p : Nat) : Nat := match p with
  | 31 => 0
  | 32 => 1
  | 33 => 2
  | 34 => 3
  | 35 => 4
  | 36 => 5
  | 44 => 7
  | 45 => 8
  | 37 => 9
  | 38 => 10
  | 39 => 11
  | 40 => 12
  | 41 => 13
  | 42 => 14
  | 43 => 15
  | _ => 0
theorem tkm_tmk : ∀ k, k < 16 → k ≠ 6 → tkm (tmk k) = k ∧ 31 ≤ tmk k ∧ tmk k ≤ 45 := by decide +kernel
def c20 (c k : Nat) : Option Nat := match c with
  | 0 => if k = 0 then some 3 else if k = 1 then some 5 else none
  | 1 => if k = 0 then some 0 else none
  | 2 => if k = 0 then some 2 else if k = 1 then some 4 else if k = 2 then some 6 else none
  | 3 => if k = 0 then some 11 else none
  | 4 => if k = 0 then some 9 else if k = 1 then some 10 else none
  | _ => none
def d20 (x : Nat) : Nat × Nat × Nat := match x with
  | 3 => (0, 0, 0)
  | 5 => (0, 0, 1)
  | 0 => (1, 0, 0)
  | 2 => (2, 0, 0)
  | 4 => (2, 0, 1)
  | 6 => (2, 0, 2)
  | 11 => (3, 0, 0)
  | 9 => (4, 0, 0)
  | 10 => (4, 0, 1)
  | 12 => (4, 0, 2)
  | _ => (99, 0, 0)
theorem d20_c20 {c k x : Nat} (h : c20 c k = some x) : d20 x = (c, 0, k) := by
  unfold c20 at h
  split at h <;> (repeat' (split at h)) <;> first | (cases h; subst_vars; rfl) | (cases h)
def tg8 (k : Nat) : Option Nat := match k with
  | 0 => some 21
  | 1 => some 22
  | 2 => some 25
  | 3 => some 26
  | 4 => some 23
  | _ => none
/-- where the slot of the first memory stands in the second; g: which slots of a thread (20: its hands) are to be the same, ln: how many places of a row -/
def co (g : Gd) (ln : Nat → Nat) (c i k : Nat) : Option (Nat × Nat) := match c with
  | 5 => if i < 8 ∧ k = 0 then some (29, i) else none
  | 6 => if i < 6 ∧ k < 16 ∧ k ≠ 6 ∧ g i k = true then some (tmk k, i) else none
  | 7 => if i < 6 ∧ k = 0 then some (46, i) else none
  | 8 => if i < 32 then (tg8 k).map (fun p => (p, i)) else none
  | 12 => if i = 0 ∧ k < 12 then some (51, k) else none
  | 14 => if i < 8 ∧ k < 160 then some (28, 160 * i + k) else none
  | 15 => if i < 6 ∧ k < 6 then some (49, 6 * i + k) else none
  | 16 => if i < 6 ∧ k < 6 ∧ g i 20 = true then some (50, 6 * i + k) else none
  | 17 => if i < 6 ∧ k < 8 then some (47, 8 * i + k) else none
  | 18 => if i < 6 ∧ k < 8 then some (48, 8 * i + k) else none
  | 19 => if i < 32 ∧ k < 12 ∧ k < ln i then some (24, 12 * i + k) else none
  | c => if i = 0 then (c20 c k).map (fun x => (20, x)) else none
def dc (q : Nat × Nat) : Nat × Nat × Nat := match q.1 with
  | 20 => d20 q.2
  | 21 => (8, q.2, 0)
  | 22 => (8, q.2, 1)
  | 23 => (8, q.2, 4)
  | 24 => (19, q.2 / 12, q.2 % 12)
  | 25 => (8, q.2, 2)
  | 26 => (8, q.2, 3)
  | 28 => (14, q.2 / 160, q.2 % 160)
  | 29 => (5, q.2, 0)
  | 46 => (7, q.2, 0)
  | 47 => (17, q.2 / 8, q.2 % 8)
  | 48 => (18, q.2 / 8, q.2 % 8)
  | 49 => (15, q.2 / 6, q.2 % 6)
  | 50 => (16, q.2 / 6, q.2 % 6)
  | 51 => (12, 0, q.2)
  | 52 => (13, 0, q.2)
  | p => (6, q.2, tkm p)
theorem dc_t {p x : Nat} (h1 : 31 ≤ p) (h2 : p ≤ 45) : dc (p, x) = (6, x, tkm p) := by
  unfold dc
  split <;> first | rfl | (exfalso; simp_all)
theorem dc_co {g : Gd} {ln : Nat → Nat} {c i k : Nat} {q : Nat × Nat} (h : co g ln c i k = some q) : dc q = (c, i, k) := by
  unfold co at h
  split at h
  · split at h
    · rename_i hc; cases h; rw [hc.2]; rfl
    · cases h
  · split at h
    · rename_i hc
      cases h
      have := tkm_tmk k hc.2.1 hc.2.2.1
      rw [dc_t this.2.1 this.2.2, this.1]
    · cases h
  · split at h
    · rename_i hc; cases h; rw [hc.2]; rfl
    · cases h
  · split at h
    · unfold tg8 at h
      split at h <;> first | (cases h; rfl) | (cases h)
    · cases h
  · split at h
    · rename_i hc; cases h; rw [hc.1]; rfl
    · cases h
  · split at h
    · rename_i hc; cases h
      show (14, (160 * i + k) / 160, (160 * i + k) % 160) = _
      rw [show (160 * i + k) / 160 = i by omega, show (160 * i + k) % 160 = k by omega]
    · cases h
  · split at h
    · rename_i hc; cases h
      show (15, (6 * i + k) / 6, (6 * i + k) % 6) = _
      rw [show (6 * i + k) / 6 = i by omega, show (6 * i + k) % 6 = k by omega]
    · cases h
  · split at h
    · rename_i hc; cases h
      show (16, (6 * i + k) / 6, (6 * i + k) % 6) = _
      rw [show (6 * i + k) / 6 = i by omega, show (6 * i + k) % 6 = k by omega]
    · cases h
  · split at h
    · rename_i hc; cases h
      show (17, (8 * i + k) / 8, (8 * i + k) % 8) = _
      rw [show (8 * i + k) / 8 = i by omega, show (8 * i + k) % 8 = k by omega]
    · cases h
  · split at h
    · rename_i hc; cases h
      show (18, (8 * i + k) / 8, (8 * i + k) % 8) = _
      rw [show (8 * i + k) / 8 = i by omega, show (8 * i + k) % 8 = k by omega]
    · cases h
  · split at h
    · rename_i hc; cases h
      show (19, (12 * i + k) / 12, (12 * i + k) % 12) = _
      rw [show (12 * i + k) / 12 = i by omega, show (12 * i + k) % 12 = k by omega]
    · cases h
  · split at h
    · rename_i hc
      cases hx : c20 c k with
      | none => rw [hx] at h; cases h
      | some x =>
        rw [hx] at h
        cases h
        show d20 x = _
        rw [d20_c20 hx, hc]
    · cases h
def R0 (g : Gd) (ln : Nat → Nat) (M N : Mem) : Prop := ∀ c i k q, co g ln c i k = some q → M c i k = N q.1 0 q.2
theorem R0.pair {g : Gd} {ln : Nat → Nat} {M N : Mem} {c i k : Nat} {q : Nat × Nat} (h : R0 g ln M N) (hq : co g ln c i k = some q) (v : Int32) : R0 g ln (mp M c i k v) (mp N q.1 0 q.2 v) := by
  intro c' i' k' q' hq'
  by_cases he : c' = c ∧ i' = i ∧ k' = k
  · obtain ⟨rfl, rfl, rfl⟩ := he
    cases hq.symm.trans hq'
    rw [mp_eq, mp_eq]
  · rw [mp_ne M v he, mp_ne N v (fun z => he ?_)]
    · exact h c' i' k' q' hq'
    · have e : q' = q := Prod.ext z.1 z.2.2
      subst e
      have := (dc_co hq').symm.trans (dc_co hq)
      simp at this
      exact this
/-- one side alone is written, at a slot that is compared with none -/
theorem R0.left {g : Gd} {ln : Nat → Nat} {M N : Mem} {c i k : Nat} (h : R0 g ln M N) (hq : co g ln c i k = none) (v : Int32) : R0 g ln (mp M c i k v) N := by
  intro c' i' k' q' hq'
  rw [mp_ne M v (fun z => by obtain ⟨rfl, rfl, rfl⟩ := z; rw [hq] at hq'; cases hq')]
  exact h c' i' k' q' hq'
theorem R0.right {g : Gd} {ln : Nat → Nat} {M N : Mem} {p x : Nat} (h : R0 g ln M N) (hq : co g ln (dc (p, x)).1 (dc (p, x)).2.1 (dc (p, x)).2.2 ≠ some (p, x)) (v : Int32) : R0 g ln M (mp N p 0 x v) := by
  intro c' i' k' q' hq'
  rw [mp_ne N v (fun z => hq ?_)]
  · exact h c' i' k' q' hq'
  · have e : q' = (p, x) := Prod.ext z.1 z.2.2
    subst e
    rw [dc_co hq']
    exact hq'
/-- one side alone is written, with the value that the other has -/
theorem R0.left_eq {g : Gd} {ln : Nat → Nat} {M N : Mem} {c i k : Nat} {v : Int32} (h : R0 g ln M N) (hv : M c i k = v) : R0 g ln (mp M c i k v) N := by
  have e : mp M c i k v = M := by
    funext c' i' k'
    unfold mp
    by_cases he : c' = c ∧ i' = i ∧ k' = k
    · rw [if_pos he]; obtain ⟨rfl, rfl, rfl⟩ := he; exact hv.symm
    · rw [if_neg he]
  rw [e]; exact h
theorem mp_same {M : Mem} {c i k : Nat} {v : Int32} (hv : M c i k = v) : mp M c i k v = M := by
  funext c' i' k'
  unfold mp
  by_cases he : c' = c ∧ i' = i ∧ k' = k
  · rw [if_pos he]; obtain ⟨rfl, rfl, rfl⟩ := he; exact hv.symm
  · rw [if_neg he]
theorem co_6 (g : Gd) (ln : Nat → Nat) (i k : Nat) : co g ln 6 i k = if i < 6 ∧ k < 16 ∧ k ≠ 6 ∧ g i k = true then some (tmk k, i) else none := rfl
theorem co_16 (g : Gd) (ln : Nat → Nat) (i k : Nat) : co g ln 16 i k = if i < 6 ∧ k < 6 ∧ g i 20 = true then some (50, 6 * i + k) else none := rfl
theorem co_else (g g' : Gd) (ln : Nat → Nat) {c : Nat} (i k : Nat) (h6 : c ≠ 6) (h16 : c ≠ 16) : co g ln c i k = co g' ln c i k := by
  unfold co
  split <;> first | rfl | (exact absurd rfl h6) | (exact absurd rfl h16)
theorem R0.weak {g g' : Gd} {ln : Nat → Nat} {M N : Mem} (h : R0 g ln M N) (hg : ∀ t k, t < 6 → g' t k = true → g t k = true) : R0 g' ln M N := by
  intro c i k q hq
  refine h c i k q ?_
  by_cases h6 : c = 6
  · subst h6
    rw [co_6] at hq ⊢
    by_cases hc : i < 6 ∧ k < 16 ∧ k ≠ 6 ∧ g' i k = true
    · rw [if_pos hc] at hq
      rw [if_pos ⟨hc.1, hc.2.1, hc.2.2.1, hg _ _ hc.1 hc.2.2.2⟩]
      exact hq
    · rw [if_neg hc] at hq
      cases hq
  · by_cases h16 : c = 16
    · subst h16
      rw [co_16] at hq ⊢
      by_cases hc : i < 6 ∧ k < 6 ∧ g' i 20 = true
      · rw [if_pos hc] at hq
        rw [if_pos ⟨hc.1, hc.2.1, hg _ _ hc.1 hc.2.2⟩]
        exact hq
      · rw [if_neg hc] at hq
        cases hq
    · rw [co_else g g' ln i k h6 h16]
      exact hq
/-- both sides are written at the same slot of a thread: it is the same from there on -/
def gs (g : Gd) (t k : Nat) (v : Bool) : Gd := fun t' k' => if t' = t ∧ k' = k then v else g t' k'
theorem gs_eq (g : Gd) (t k : Nat) (v : Bool) : gs g t k v t k = v := by simp [gs]
theorem gs_ne (g : Gd) {t k t' k' : Nat} (v : Bool) (h : ¬ (t' = t ∧ k' = k)) : gs g t k v t' k' = g t' k' := by simp only [gs]; rw [if_neg h]
theorem R0.off {g : Gd} {ln : Nat → Nat} {M N : Mem} (h : R0 g ln M N) (t k : Nat) : R0 (gs g t k false) ln M N :=
  h.weak (fun t' k' _ hh => by
    by_cases he : t' = t ∧ k' = k
    · obtain ⟨rfl, rfl⟩ := he
      rw [gs_eq] at hh; cases hh
    · rw [gs_ne g false he] at hh; exact hh)
theorem R0.sync {g : Gd} {ln : Nat → Nat} {M N : Mem} (h : R0 g ln M N) {t k : Nat} (ht : t < 6) (hk : k < 16) (h6 : k ≠ 6) (v : Int32) : R0 (gs g t k true) ln (mp M 6 t k v) (mp N (tmk k) 0 t v) := by
  intro c' i' k' q' hq'
  by_cases he : c' = 6 ∧ i' = t ∧ k' = k
  · obtain ⟨rfl, rfl, rfl⟩ := he
    rw [co_6, gs_eq, if_pos ⟨ht, hk, h6, rfl⟩] at hq'
    cases hq'
    rw [mp_eq, mp_eq]
  · have hq0 : co g ln c' i' k' = some q' := by
      by_cases h6' : c' = 6
      · subst h6'
        rw [co_6] at hq' ⊢
        rw [gs_ne g true (fun z => he ⟨rfl, z⟩)] at hq'
        exact hq'
      · by_cases h16 : c' = 16
        · subst h16
          rw [co_16] at hq' ⊢
          rw [gs_ne g true (by omega)] at hq'
          exact hq'
        · rw [co_else g (gs g t k true) ln i' k' h6' h16]
          exact hq'
    rw [mp_ne M v he, mp_ne N v (fun z => he ?_)]
    · exact h c' i' k' q' hq0
    · have e : q' = (tmk k, t) := Prod.ext z.1 z.2.2
      subst e
      have h1 := dc_co hq0
      have := tkm_tmk k hk h6
      rw [dc_t this.2.1 this.2.2, this.1] at h1
      simp at h1
      exact ⟨h1.1.symm, h1.2.1.symm, h1.2.2.symm⟩
