/-! the state of a thread is another -/
abbrev Rw (z b : Nat) (n : Lg) (a c : Option (Int32 × Mem)) : Prop := S2 a c (fun x y => x.1 = y.1 ∧ RR z b n x.2 y.2)
abbrev Rm (z b : Nat) (n : Lg) (a c : Option Mem) : Prop := S2 a c (fun x y => RR z b n x y)
theorem tmk_far0 : ∀ k, k < 16 → (k ≠ 0 ∧ k ≠ 6 ∧ k ≠ 11 ∧ k ≠ 12 ∧ k ≠ 13 ∧ k ≠ 14) → (tmk k ≠ 31 ∧ tmk k ≠ 39 ∧ tmk k ≠ 40 ∧ tmk k ≠ 41 ∧ tmk k ≠ 42 ∧ tmk k ≠ 20) := by decide +kernel
theorem tmk_far (k : Nat) (h : k < 16) (h0 : k ≠ 0) (h6 : k ≠ 6) (h11 : k ≠ 11) (h12 : k ≠ 12) (h13 : k ≠ 13) (h14 : k ≠ 14) : tmk k ≠ 31 ∧ tmk k ≠ 39 ∧ tmk k ≠ 40 ∧ tmk k ≠ 41 ∧ tmk k ≠ 42 ∧ tmk k ≠ 20 := tmk_far0 k h ⟨h0, h6, h11, h12, h13, h14⟩
section CHG
variable {z b b' t : Nat} {n : Lg} {M N M' N' : Mem}
theorem RR.chg {s x u : Int32} (h : RR z b n M N) (ht : t < 6) (h0 : ¬ M 6 t 0 = 0)
    (m0 : M' 6 t 0 = s) (m11 : M' 6 t 11 = x) (m12 : M' 6 t 12 = u) (mk : ∀ k, k ≠ 0 → k ≠ 11 → k ≠ 12 → k ≠ 13 → k ≠ 14 → M' 6 t k = M 6 t k)
    (e6 : ∀ u, u ≠ t → M' 6 u = M 6 u) (e : ∀ c i k, c ≠ 6 → ¬ (c = 2 ∧ i = 0 ∧ k = 2) → M' c i k = M c i k)
    (n31 : N' 31 0 t = s) (n39 : N' 39 0 t = x) (n40 : N' 40 0 t = u)
    (eN : ∀ p y, ¬ (y = t ∧ (p = 31 ∨ p = 39 ∨ p = 40 ∨ p = 41 ∨ p = 42)) → ¬ (p = 20 ∧ y = 6) → N' p 0 y = N p 0 y) (h2 : M' 2 0 2 = N' 20 0 6)
    (hd : inB M' t → M' 6 t 13 = N' 41 0 t ∧ M' 6 t 14 = N' 42 0 t)
    (hs : ∃ st : Nat, st ≤ 7 ∧ st ≠ 0 ∧ s = nI st) (c11 : s = 3 ∨ s = 4 → ∃ y : Nat, y < z ∧ x = nI y) (c6 : s = 6 → ∃ y : Nat, y < 6 ∧ x = nI y) (cn : ¬ s = 3 → ¬ s = 4 → ¬ s = 6 → x = -4) (cu : ¬ s = 4 → ¬ s = 5 → u = -4)
    (hS : SI b' M') : RR z b' n M' N' := by
  obtain ⟨st, s1, s2, s3⟩ := hs
  have hs0 : ¬ s = 0 := by rw [s3]; exact nI_ne0 (by omega) (by omega)
  obtain ⟨a1, a2, a3, a4, a5, a6, a7, a8, a9, a10, a11⟩ := h.ti ht
  refine h.thr ht e6 e (fun p y h1 h2 => eN p y (by omega) h2) h2 (fun z => absurd z h0) ?_ ?_ hS
  · intro k hk hk6 hg
    by_cases k0 : k = 0
    · subst k0; rw [m0]; exact n31.symm
    · by_cases k11 : k = 11
      · subst k11; rw [m11]; exact n39.symm
      · by_cases k12 : k = 12
        · subst k12; rw [m12]; exact n40.symm
        · by_cases k13 : k = 13
          · subst k13
            refine (hd ?_).1
            simp only [gc] at hg
            simpa [inB] using hg
          · by_cases k14 : k = 14
            · subst k14
              refine (hd ?_).2
              simp only [gc] at hg
              simpa [inB] using hg
            · have hf := tmk_far k hk k0 hk6 k11 k12 k13 k14
              rw [mk k k0 k11 k12 k13 k14, eN _ _ (by omega) (by omega)]
              refine (h.th ht hk hk6 ?_).symm
              by_cases k1 : k = 1
              · subst k1; simp [gc, h0]
              · unfold gc
                rw [if_neg (by have := tkm_tmk; omega), if_neg (by omega)] <;> omega
  · unfold TI
    rw [m0, m11, m12, mk 1 (by decide) (by decide) (by decide) (by decide) (by decide), mk 3 (by decide) (by decide) (by decide) (by decide) (by decide), mk 4 (by decide) (by decide) (by decide) (by decide) (by decide), mk 5 (by decide) (by decide) (by decide) (by decide) (by decide)]
    exact ⟨⟨st, s1, s3⟩, fun z => absurd z hs0, fun _ => a3 h0, a4, a5, a6, c11, c6, cn, cu, a11⟩
/-- become, where nothing is waited for -/
theorem RR.bec {s x u : Int32} (h : RR z b n M N) (ht : t < 6) (h0 : ¬ M 6 t 0 = 0)
    (hs : (s = 2 ∧ x = -4 ∧ u = -4) ∨ (s = 7 ∧ x = -4 ∧ u = -4) ∨ (s = 5 ∧ x = -4) ∨ (s = 6 ∧ u = -4 ∧ ∃ w : Nat, w < 6 ∧ x = nI w))
    (n31 : N' 31 0 t = s) (n39 : N' 39 0 t = x) (n40 : N' 40 0 t = u)
    (eN : ∀ p y, ¬ (y = t ∧ (p = 31 ∨ p = 39 ∨ p = 40 ∨ p = 41 ∨ p = 42)) → N' p 0 y = N p 0 y) : RR z b n (mp (mp (mp M 6 t 0 s) 6 t 11 x) 6 t 12 u) N' := by
  have e0 : mp (mp (mp M 6 t 0 s) 6 t 11 x) 6 t 12 u 6 t 0 = s := by simp [mp]
  have e6 : ∀ w, w ≠ t → mp (mp (mp M 6 t 0 s) 6 t 11 x) 6 t 12 u 6 w = M 6 w := fun w hw => by simp [mp_row, hw]
  have hB : ¬ inB (mp (mp (mp M 6 t 0 s) 6 t 11 x) 6 t 12 u) t := by
    unfold inB
    rw [e0]
    rcases hs with ⟨rfl, _⟩ | ⟨rfl, _⟩ | ⟨rfl, _⟩ | ⟨rfl, _⟩ <;> decide
  refine h.chg (b' := b) ht h0 e0 (by simp [mp]) (by simp [mp]) (fun k a1 a2 a3 _ _ => by simp [mp, a1, a2, a3]) e6 (fun c i k hc _ => by simp [mp, hc]) n31 n39 n40 (fun p y hp _ => eN p y hp) ?_ (fun hb => absurd hb hB) ?_ ?_ ?_ ?_ ?_ (h.si.no e6 (by simp [mp]) hB)
  · rw [eN 20 6 (by omega), h.nbegun]; simp [mp]
  · rcases hs with ⟨rfl, _⟩ | ⟨rfl, _⟩ | ⟨rfl, _⟩ | ⟨rfl, _⟩
    · exact ⟨2, by decide, by decide, rfl⟩
    · exact ⟨7, by decide, by decide, rfl⟩
    · exact ⟨5, by decide, by decide, rfl⟩
    · exact ⟨6, by decide, by decide, rfl⟩
  · rcases hs with ⟨rfl, _⟩ | ⟨rfl, _⟩ | ⟨rfl, _⟩ | ⟨rfl, _⟩ <;> (intro z; exact absurd z (by decide))
  · rcases hs with ⟨rfl, _⟩ | ⟨rfl, _⟩ | ⟨rfl, _⟩ | ⟨rfl, _, hw⟩
    · intro z; exact absurd z (by decide)
    · intro z; exact absurd z (by decide)
    · intro z; exact absurd z (by decide)
    · exact fun _ => hw
  · rcases hs with ⟨rfl, hx, _⟩ | ⟨rfl, hx, _⟩ | ⟨rfl, hx⟩ | ⟨rfl, _⟩
    · exact fun _ _ _ => hx
    · exact fun _ _ _ => hx
    · exact fun _ _ _ => hx
    · exact fun _ _ z => absurd rfl z
  · rcases hs with ⟨rfl, _, hx⟩ | ⟨rfl, _, hx⟩ | ⟨rfl, _⟩ | ⟨rfl, hx, _⟩
    · exact fun _ _ => hx
    · exact fun _ _ => hx
    · exact fun _ z => absurd rfl z
    · exact fun _ _ => hx
/-- a thread is blocked by, or waits on, a thing -/
theorem RR.becB {s u d : Int32} {x : Nat} (h : RR z b n M N) (ht : t < 6) (h0 : ¬ M 6 t 0 = 0) (hb : b < 2147483647) (hx : x < z)
    (hs : (s = 3 ∧ u = -4) ∨ s = 4)
    (m0 : M' 6 t 0 = s) (m11 : M' 6 t 11 = nI x) (m12 : M' 6 t 12 = u) (m13 : M' 6 t 13 = d) (m14 : M' 6 t 14 = M 2 0 2) (mk : ∀ k, k ≠ 0 → k ≠ 11 → k ≠ 12 → k ≠ 13 → k ≠ 14 → M' 6 t k = M 6 t k)
    (e6 : ∀ u, u ≠ t → M' 6 u = M 6 u) (e : ∀ c i k, c ≠ 6 → ¬ (c = 2 ∧ i = 0 ∧ k = 2) → M' c i k = M c i k) (m2 : M' 2 0 2 = M 2 0 2 + 1)
    (n31 : N' 31 0 t = s) (n39 : N' 39 0 t = nI x) (n40 : N' 40 0 t = u) (n41 : N' 41 0 t = d) (n42 : N' 42 0 t = M 2 0 2) (n20 : N' 20 0 6 = M 2 0 2 + 1)
    (eN : ∀ p y, ¬ (y = t ∧ (p = 31 ∨ p = 39 ∨ p = 40 ∨ p = 41 ∨ p = 42)) → ¬ (p = 20 ∧ y = 6) → N' p 0 y = N p 0 y) : RR z (b + 1) n M' N' := by
  refine h.chg (b' := b + 1) ht h0 m0 m11 m12 mk e6 e n31 n39 n40 eN (by rw [m2, n20]) (fun _ => ⟨by rw [m13, n41], by rw [m14, n42]⟩) ?_ (fun _ => ⟨x, hx, rfl⟩) ?_ ?_ ?_ (h.si.new hb e6 m14 m2)
  · rcases hs with ⟨rfl, _⟩ | rfl
    · exact ⟨3, by decide, by decide, rfl⟩
    · exact ⟨4, by decide, by decide, rfl⟩
  · rcases hs with ⟨rfl, _⟩ | rfl <;> (intro z; exact absurd z (by decide))
  · rcases hs with ⟨rfl, _⟩ | rfl
    · exact fun z => absurd rfl z
    · exact fun _ z => absurd rfl z
  · rcases hs with ⟨rfl, hu⟩ | rfl
    · exact fun _ _ => hu
    · exact fun z => absurd rfl z
end CHG
