/-! one slot is written on both sides -/
theorem NF.mp {N : Mem} {p x : Nat} (v : Int32) (h30 : p ≠ 30) (h27 : p ≠ 27) (h20 : ¬ (p = 20 ∧ x = 1)) (h52 : p ≠ 52) (h12 : ¬ (p = 20 ∧ (x = 12 ∨ x = 7 ∨ x = 8))) : NF N (mp N p 0 x v) :=
  ⟨fun q => mp_ne N v (fun z => h30 z.1.symm), fun q => mp_ne N v (fun z => h27 z.1.symm), mp_ne N v (fun z => h20 ⟨z.1.symm, z.2.2.symm⟩), fun q => mp_ne N v (fun z => h52 z.1.symm), fun y hy => mp_ne N v (fun z => h12 ⟨z.1.symm, by rw [← z.2.2]; exact hy⟩)⟩
section WR
variable {z b : Nat} {n : Lg} {M N : Mem}
theorem IV.fr' {M' N' : Mem} (h : IV z b n M N) (e : ∀ c, frb c = true → M' c = M c) (hN : NF N N') : IV z b n M' N' := h.fr e hN
theorem IV.gl {b' : Nat} {M' N' : Mem} (h : IV z b n M N) (e : ∀ c, frb c = true → c ≠ 0 → c ≠ 2 → c ≠ 4 → M' c = M c) (hC : CI n M') (hS : SI b' M') (hN : NF N N') : IV z b' n M' N' := by
  obtain ⟨a1, a2, a3, a4, a5, a6, a7, a8, a9⟩ := h
  refine ⟨?_, ?_, ?_, ?_, ?_, hC, hN.ni a7, hN.xi (by rw [e 1 rfl (by decide) (by decide) (by decide)]) a8, hS⟩
  · rw [e 60 rfl (by decide) (by decide) (by decide), e 1 rfl (by decide) (by decide) (by decide)]; exact a1
  · rw [e 8 rfl (by decide) (by decide) (by decide), e 19 rfl (by decide) (by decide) (by decide)]; exact a2
  · rw [e 6 rfl (by decide) (by decide) (by decide), e 16 rfl (by decide) (by decide) (by decide)]; exact a3
  · rw [e 7 rfl (by decide) (by decide) (by decide), e 17 rfl (by decide) (by decide) (by decide)]; exact a4
  · rw [e 5 rfl (by decide) (by decide) (by decide), e 14 rfl (by decide) (by decide) (by decide)]; exact a5
theorem IV.ob {M' N' : Mem} {i : Nat} (h : IV z b n M N) (e : ∀ c, frb c = true → c ≠ 8 → c ≠ 19 → M' c = M c) (e8 : ∀ u, u ≠ i → M' 8 u = M 8 u) (e19 : ∀ u, u ≠ i → M' 19 u = M 19 u) (hO : i < z → OI z (M' 8 i) (M' 19 i)) (hN : NF N N') : IV z b n M' N' := by
  obtain ⟨a1, a2, a3, a4, a5, a6, a7, a8, a9⟩ := h
  refine ⟨?_, ?_, ?_, ?_, ?_, ?_, ?_, ?_, ?_⟩
  · rw [e 60 rfl (by decide) (by decide), e 1 rfl (by decide) (by decide)]; exact a1
  · intro u hu
    by_cases hut : u = i
    · subst hut; exact hO hu
    · rw [e8 u hut, e19 u hut]; exact a2 u hu
  · rw [e 6 rfl (by decide) (by decide), e 16 rfl (by decide) (by decide)]; exact a3
  · rw [e 7 rfl (by decide) (by decide), e 17 rfl (by decide) (by decide)]; exact a4
  · rw [e 5 rfl (by decide) (by decide), e 14 rfl (by decide) (by decide)]; exact a5
  · unfold CI at *; rw [e 0 rfl (by decide) (by decide), e 2 rfl (by decide) (by decide), e 4 rfl (by decide) (by decide), e 13 rfl (by decide) (by decide)]; exact a6
  · exact hN.ni a7
  · exact hN.xi (by rw [e 1 rfl (by decide) (by decide)]) a8
  · unfold SI inB at *; rw [e 2 rfl (by decide) (by decide), e 6 rfl (by decide) (by decide)]; exact a9
theorem IV.hd {M' N' : Mem} {t : Nat} (h : IV z b n M N) (e : ∀ c, frb c = true → c ≠ 16 → M' c = M c) (e16 : ∀ u, u ≠ t → M' 16 u = M 16 u) (hT : t < 6 → TI z (M 6 t) (M' 16 t)) (hN : NF N N') : IV z b n M' N' := by
  obtain ⟨a1, a2, a3, a4, a5, a6, a7, a8, a9⟩ := h
  refine ⟨?_, ?_, ?_, ?_, ?_, ?_, ?_, ?_, ?_⟩
  · rw [e 60 rfl (by decide), e 1 rfl (by decide)]; exact a1
  · rw [e 8 rfl (by decide), e 19 rfl (by decide)]; exact a2
  · intro u hu
    rw [e 6 rfl (by decide)]
    by_cases hut : u = t
    · subst hut; exact hT hu
    · rw [e16 u hut]; exact a3 u hu
  · rw [e 7 rfl (by decide), e 17 rfl (by decide)]; exact a4
  · rw [e 5 rfl (by decide), e 14 rfl (by decide)]; exact a5
  · unfold CI at *; rw [e 0 rfl (by decide), e 2 rfl (by decide), e 4 rfl (by decide), e 13 rfl (by decide)]; exact a6
  · exact hN.ni a7
  · exact hN.xi (by rw [e 1 rfl (by decide)]) a8
  · unfold SI inB at *; rw [e 2 rfl (by decide), e 6 rfl (by decide)]; exact a9
theorem IV.hn {M' N' : Mem} {t : Nat} (h : IV z b n M N) (e : ∀ c, frb c = true → c ≠ 7 → c ≠ 17 → M' c = M c) (e7 : ∀ u, u ≠ t → M' 7 u = M 7 u) (e17 : ∀ u, u ≠ t → M' 17 u = M 17 u) (hT : t < 6 → HI (M' 7 t) (M' 17 t)) (hN : NF N N') : IV z b n M' N' := by
  obtain ⟨a1, a2, a3, a4, a5, a6, a7, a8, a9⟩ := h
  refine ⟨?_, ?_, ?_, ?_, ?_, ?_, ?_, ?_, ?_⟩
  · rw [e 60 rfl (by decide) (by decide), e 1 rfl (by decide) (by decide)]; exact a1
  · rw [e 8 rfl (by decide) (by decide), e 19 rfl (by decide) (by decide)]; exact a2
  · rw [e 6 rfl (by decide) (by decide), e 16 rfl (by decide) (by decide)]; exact a3
  · intro u hu
    by_cases hut : u = t
    · subst hut; exact hT hu
    · rw [e7 u hut, e17 u hut]; exact a4 u hu
  · rw [e 5 rfl (by decide) (by decide), e 14 rfl (by decide) (by decide)]; exact a5
  · unfold CI at *; rw [e 0 rfl (by decide) (by decide), e 2 rfl (by decide) (by decide), e 4 rfl (by decide) (by decide), e 13 rfl (by decide) (by decide)]; exact a6
  · exact hN.ni a7
  · exact hN.xi (by rw [e 1 rfl (by decide) (by decide)]) a8
  · unfold SI inB at *; rw [e 2 rfl (by decide) (by decide), e 6 rfl (by decide) (by decide)]; exact a9
theorem IV.pr {M' N' : Mem} {t : Nat} (h : IV z b n M N) (e : ∀ c, frb c = true → c ≠ 5 → c ≠ 14 → M' c = M c) (e5 : ∀ u, u ≠ t → M' 5 u = M 5 u) (e14 : ∀ u, u ≠ t → M' 14 u = M 14 u) (hT : t < 8 → PI (M' 5 t) (M' 14 t)) (hN : NF N N') : IV z b n M' N' := by
  obtain ⟨a1, a2, a3, a4, a5, a6, a7, a8, a9⟩ := h
  refine ⟨?_, ?_, ?_, ?_, ?_, ?_, ?_, ?_, ?_⟩
  · rw [e 60 rfl (by decide) (by decide), e 1 rfl (by decide) (by decide)]; exact a1
  · rw [e 8 rfl (by decide) (by decide), e 19 rfl (by decide) (by decide)]; exact a2
  · rw [e 6 rfl (by decide) (by decide), e 16 rfl (by decide) (by decide)]; exact a3
  · rw [e 7 rfl (by decide) (by decide), e 17 rfl (by decide) (by decide)]; exact a4
  · intro u hu
    by_cases hut : u = t
    · subst hut; exact hT hu
    · rw [e5 u hut, e14 u hut]; exact a5 u hu
  · unfold CI at *; rw [e 0 rfl (by decide) (by decide), e 2 rfl (by decide) (by decide), e 4 rfl (by decide) (by decide), e 13 rfl (by decide) (by decide)]; exact a6
  · exact hN.ni a7
  · exact hN.xi (by rw [e 1 rfl (by decide) (by decide)]) a8
  · unfold SI inB at *; rw [e 2 rfl (by decide) (by decide), e 6 rfl (by decide) (by decide)]; exact a9
theorem gc_mp {c i k : Nat} (v : Int32) (h6 : ¬ (c = 6 ∧ k = 0)) : gc (mp M c i k v) = gc M := by
  funext t k'
  unfold gc
  rw [mp_ne M v (fun z => h6 ⟨z.1.symm, z.2.2.symm⟩)]
theorem lc_mp {c i k : Nat} (v : Int32) (h8 : ¬ (c = 8 ∧ k = 4)) : lc (mp M c i k v) = lc M := by
  funext i'
  unfold lc
  rw [mp_ne M v (fun z => h8 ⟨z.1.symm, z.2.2.symm⟩)]
theorem R0.pw {c i k : Nat} {q : Nat × Nat} (h : R0 (gc M) (lc M) M N) (hq : co (gc M) (lc M) c i k = some q) (h6 : ¬ (c = 6 ∧ k = 0)) (h8 : ¬ (c = 8 ∧ k = 4)) (v : Int32) : R0 (gc (mp M c i k v)) (lc (mp M c i k v)) (mp M c i k v) (mp N q.1 0 q.2 v) := by
  rw [gc_mp v h6, lc_mp v h8]
  exact h.pair hq v
theorem frm {c i k : Nat} (v : Int32) (hc : frb c = false) : ∀ c', frb c' = true → mp M c i k v c' = M c' := fun c' h => mp_pool M v (fun z => by rw [z, hc] at h; cases h)
theorem RR.w15 (h : RR z b n M N) {t r : Nat} (ht : t < 6) (hr : r < 6) (v : Int32) : RR z b n (mp M 15 t r v) (mp N 49 0 (6 * t + r) v) :=
  ⟨h.1.pw (q := (49, 6 * t + r)) (by show (if t < 6 ∧ r < 6 then some (49, 6 * t + r) else none) = _; rw [if_pos ⟨ht, hr⟩]) (by omega) (by omega) v, h.2.fr' (frm v rfl) (NF.mp v (by decide) (by decide) (by omega) (by omega) (by omega))⟩
theorem RR.w12 (h : RR z b n M N) {r : Nat} (hr : r < 12) (v : Int32) : RR z b n (mp M 12 0 r v) (mp N 51 0 r v) :=
  ⟨h.1.pw (q := (51, r)) (by show (if 0 = 0 ∧ r < 12 then some (51, r) else none) = _; rw [if_pos ⟨rfl, hr⟩]) (by omega) (by omega) v, h.2.fr' (frm v rfl) (NF.mp v (by decide) (by decide) (by omega) (by omega) (by omega))⟩
theorem RR.w18 (h : RR z b n M N) {t r : Nat} (ht : t < 6) (hr : r < 8) (v : Int32) : RR z b n (mp M 18 t r v) (mp N 48 0 (8 * t + r) v) :=
  ⟨h.1.pw (q := (48, 8 * t + r)) (by show (if t < 6 ∧ r < 8 then some (48, 8 * t + r) else none) = _; rw [if_pos ⟨ht, hr⟩]) (by omega) (by omega) v, h.2.fr' (frm v rfl) (NF.mp v (by decide) (by decide) (by omega) (by omega) (by omega))⟩
theorem RR.w3 (h : RR z b n M N) (v : Int32) : RR z b n (mp M 3 0 0 v) (mp N 20 0 11 v) :=
  ⟨h.1.pw (q := (20, 11)) rfl (by omega) (by omega) v, h.2.fr' (frm v rfl) (NF.mp v (by decide) (by decide) (by omega) (by omega) (by omega))⟩
theorem RR.w17 (h : RR z b n M N) {t r q : Nat} (ht : t < 6) (hr : r < 8) (hq : q ≤ 40) : RR z b n (mp M 17 t r (nI q)) (mp N 47 0 (8 * t + r) (nI q)) :=
  ⟨h.1.pw (q := (47, 8 * t + r)) (by show (if t < 6 ∧ r < 8 then some (47, 8 * t + r) else none) = _; rw [if_pos ⟨ht, hr⟩]) (by omega) (by omega) _, h.2.hn (t := t) (fun c _ _ h17 => mp_pool M _ h17) (fun u hu => by rw [mp_pool M _ (by decide)]) (fun u hu => mp_row M _ _ (fun z => hu z.2)) (fun _ => by
    rw [mp_pool M _ (by decide)]
    refine ⟨(h.hi ht).1, fun r' hr' => ?_⟩
    by_cases e : r' = r
    · subst e; exact ⟨q, hq, mp_eq M 17 t r' _⟩
    · rw [mp_ne M _ (fun z => e z.2.2)]; exact (h.hi ht).2 r' hr') (NF.mp _ (by decide) (by decide) (by omega) (by omega) (by omega))⟩
theorem RR.w7 (h : RR z b n M N) {t q : Nat} (ht : t < 6) (hq : q ≤ 8) : RR z b n (mp M 7 t 0 (nI q)) (mp N 46 0 t (nI q)) :=
  ⟨h.1.pw (q := (46, t)) (by show (if t < 6 ∧ 0 = 0 then some (46, t) else none) = _; rw [if_pos ⟨ht, rfl⟩]) (by omega) (by omega) _, h.2.hn (t := t) (fun c _ h7 _ => mp_pool M _ h7) (fun u hu => mp_row M _ _ (fun z => hu z.2)) (fun u hu => by rw [mp_pool M _ (by decide)]) (fun _ => by
    rw [mp_pool M (c' := 17) _ (by decide)]
    exact ⟨⟨q, hq, mp_eq M 7 t 0 _⟩, (h.hi ht).2⟩) (NF.mp _ (by decide) (by decide) (by omega) (by omega) (by omega))⟩
/-- a slot of a thread that nothing hangs on -/
theorem RR.wt (h : RR z b n M N) {t k : Nat} (ht : t < 6) (hk : k = 2 ∨ k = 7 ∨ k = 8 ∨ k = 9 ∨ k = 10 ∨ k = 15) (v : Int32) : RR z b n (mp M 6 t k v) (mp N (tmk k) 0 t v) := by
  have hg : gc M t k = true := by rcases hk with rfl | rfl | rfl | rfl | rfl | rfl <;> rfl
  have hk2 : k < 16 ∧ k ≠ 6 ∧ k ≠ 0 ∧ k ≠ 1 ∧ k ≠ 3 ∧ k ≠ 4 ∧ k ≠ 5 ∧ k ≠ 11 ∧ k ≠ 12 ∧ k ≠ 14 := by omega
  have ht2 := tkm_tmk k hk2.1 hk2.2.1
  refine ⟨h.1.pw (q := (tmk k, t)) (by rw [co_6, if_pos ⟨ht, hk2.1, hk2.2.1, hg⟩]) (by omega) (by omega) v, h.2.thr (t := t) (b' := b) (fun u hu => mp_row M _ _ (fun z => hu z.2)) (fun c i k' hc _ => mp_ne M v (fun z => hc z.1)) (NF.mp v (by omega) (by omega) (by omega) (by omega) (by omega)) ?_ ?_⟩
  · have := h.ti ht
    unfold TI at this ⊢
    rw [mp_ne M v (k' := 0) (by omega), mp_ne M v (k' := 1) (by omega), mp_ne M v (k' := 3) (by omega), mp_ne M v (k' := 4) (by omega), mp_ne M v (k' := 5) (by omega), mp_ne M v (k' := 11) (by omega), mp_ne M v (k' := 12) (by omega)]
    exact this
  · exact h.si.same (fun u _ => mp_ne M v (by omega)) (fun u _ => mp_ne M v (by omega)) (mp_ne M v (by omega))
theorem RR.wt3 (h : RR z b n M N) {t q : Nat} (ht : t < 6) (hq : q ≤ 40) : RR z b n (mp M 6 t 3 (nI q)) (mp N 34 0 t (nI q)) := by
  refine ⟨h.1.pw (q := (34, t)) (by rw [co_6, if_pos ⟨ht, by decide, by decide, rfl⟩]; rfl) (by omega) (by omega) _, h.2.thr (t := t) (b' := b) (fun u hu => mp_row M _ _ (fun z => hu z.2)) (fun c i k' hc _ => mp_ne M _ (fun z => hc z.1)) (NF.mp _ (by omega) (by omega) (by omega) (by omega) (by omega)) ?_ ?_⟩
  · have := h.ti ht
    unfold TI at this ⊢
    rw [mp_ne M _ (k' := 0) (by omega), mp_ne M _ (k' := 1) (by omega), mp_eq, mp_ne M _ (k' := 4) (by omega), mp_ne M _ (k' := 5) (by omega), mp_ne M _ (k' := 11) (by omega), mp_ne M _ (k' := 12) (by omega)]
    obtain ⟨a1, a2, a3, a4, a5, a6, a7⟩ := this
    exact ⟨a1, a2, a3, a4, a5, ⟨q, hq, rfl⟩, a7⟩
  · exact h.si.same (fun u _ => mp_ne M _ (by omega)) (fun u _ => mp_ne M _ (by omega)) (mp_ne M _ (by omega))
theorem RR.wt4 (h : RR z b n M N) {t : Nat} {v : Int32} (ht : t < 6) (hv : v = 0 ∨ v = 1) : RR z b n (mp M 6 t 4 v) (mp N 35 0 t v) := by
  refine ⟨h.1.pw (q := (35, t)) (by rw [co_6, if_pos ⟨ht, by decide, by decide, rfl⟩]; rfl) (by omega) (by omega) _, h.2.thr (t := t) (b' := b) (fun u hu => mp_row M _ _ (fun z => hu z.2)) (fun c i k' hc _ => mp_ne M _ (fun z => hc z.1)) (NF.mp _ (by omega) (by omega) (by omega) (by omega) (by omega)) ?_ ?_⟩
  · have := h.ti ht
    unfold TI at this ⊢
    rw [mp_ne M _ (k' := 0) (by omega), mp_ne M _ (k' := 1) (by omega), mp_ne M _ (k' := 3) (by omega), mp_eq, mp_ne M _ (k' := 5) (by omega), mp_ne M _ (k' := 11) (by omega), mp_ne M _ (k' := 12) (by omega)]
    obtain ⟨a1, a2, a3, a4, a5⟩ := this
    exact ⟨a1, a2, a3, hv, a5⟩
  · exact h.si.same (fun u _ => mp_ne M _ (by omega)) (fun u _ => mp_ne M _ (by omega)) (mp_ne M _ (by omega))
theorem RR.wt5 (h : RR z b n M N) {t : Nat} {v : Int32} (ht : t < 6) (hv : v = 0 ∨ v = 1) : RR z b n (mp M 6 t 5 v) (mp N 36 0 t v) := by
  refine ⟨h.1.pw (q := (36, t)) (by rw [co_6, if_pos ⟨ht, by decide, by decide, rfl⟩]; rfl) (by omega) (by omega) _, h.2.thr (t := t) (b' := b) (fun u hu => mp_row M _ _ (fun z => hu z.2)) (fun c i k' hc _ => mp_ne M _ (fun z => hc z.1)) (NF.mp _ (by omega) (by omega) (by omega) (by omega) (by omega)) ?_ ?_⟩
  · have := h.ti ht
    unfold TI at this ⊢
    rw [mp_ne M _ (k' := 0) (by omega), mp_ne M _ (k' := 1) (by omega), mp_ne M _ (k' := 3) (by omega), mp_ne M _ (k' := 4) (by omega), mp_eq, mp_ne M _ (k' := 11) (by omega), mp_ne M _ (k' := 12) (by omega)]
    obtain ⟨a1, a2, a3, a4, a5, a6⟩ := this
    exact ⟨a1, a2, a3, a4, hv, a6⟩
  · exact h.si.same (fun u _ => mp_ne M _ (by omega)) (fun u _ => mp_ne M _ (by omega)) (mp_ne M _ (by omega))
/-- what a thread raised: the first memory's alone -/
theorem RR.wt6 (h : RR z b n M N) {t : Nat} (v : Int32) (ht : t < 6) : RR z b n (mp M 6 t 6 v) N := by
  refine ⟨?_, h.2.thr (t := t) (b' := b) (fun u hu => mp_row M _ _ (fun z => hu z.2)) (fun c i k' hc _ => mp_ne M _ (fun z => hc z.1)) (NF.rfl' N) ?_ ?_⟩
  · rw [gc_mp v (by omega), lc_mp v (by omega)]
    exact h.1.left (by rw [co_6, if_neg (by omega)]) v
  · have := h.ti ht
    unfold TI at this ⊢
    rw [mp_ne M _ (k' := 0) (by omega), mp_ne M _ (k' := 1) (by omega), mp_ne M _ (k' := 3) (by omega), mp_ne M _ (k' := 4) (by omega), mp_ne M _ (k' := 5) (by omega), mp_ne M _ (k' := 11) (by omega), mp_ne M _ (k' := 12) (by omega)]
    exact this
  · exact h.si.same (fun u _ => mp_ne M _ (by omega)) (fun u _ => mp_ne M _ (by omega)) (mp_ne M _ (by omega))
theorem RR.w16 (h : RR z b n M N) {t r : Nat} {v : Int32} (ht : t < 6) (hr : r < 6) (h0 : ¬ M 6 t 0 = 0) (hv : v = -4 ∨ ∃ x : Nat, x < z ∧ v = nI x) : RR z b n (mp M 16 t r v) (mp N 50 0 (6 * t + r) v) :=
  ⟨h.1.pw (q := (50, 6 * t + r)) (by rw [co_16, if_pos ⟨ht, hr, by simp [gc, h0]⟩]) (by omega) (by omega) v, h.2.hd (t := t) (fun c _ h16 => mp_pool M _ h16) (fun u hu => mp_row M _ _ (fun z => hu z.2)) (fun _ => by
    obtain ⟨a1, a2, a3, a4, a5, a6, a7, a8, a9, a10, a11⟩ := h.ti ht
    refine ⟨a1, fun z => absurd z h0, a3, a4, a5, a6, a7, a8, a9, a10, fun h' hh' => ?_⟩
    by_cases e : h' = r
    · subst e; rw [mp_eq]; exact hv
    · rw [mp_ne M _ (fun z => e z.2.2)]; exact a11 h' hh') (NF.mp v (by decide) (by decide) (by omega) (by omega) (by omega))⟩
theorem RR.w8 (h : RR z b n M N) {i k p : Nat} {v : Int32} (hi : i < z) (hk : tg8 k = some p) (h4 : k ≠ 4) (hO : OI z (mp M 8 i k v 8 i) (M 19 i)) : RR z b n (mp M 8 i k v) (mp N p 0 i v) := by
  have h32 := h.z32
  have hp : p ≠ 30 ∧ p ≠ 27 ∧ p ≠ 20 ∧ p ≠ 52 := by
    unfold tg8 at hk
    split at hk <;> cases hk <;> decide
  exact ⟨h.1.pw (q := (p, i)) (by show (if i < 32 then (tg8 k).map (fun p => (p, i)) else none) = _; rw [if_pos (by omega), hk]; rfl) (by omega) (by omega) v, h.2.ob (i := i) (fun c _ h8 _ => mp_pool M _ h8) (fun u hu => mp_row M _ _ (fun z => hu z.2)) (fun u hu => by rw [mp_pool M _ (by decide)]) (fun _ => by rw [mp_pool M (c' := 19) _ (by decide)]; exact hO) (NF.mp v hp.1 hp.2.1 (by omega) (by omega) (by omega))⟩
theorem RR.wown (h : RR z b n M N) {i : Nat} {v : Int32} (hi : i < z) (hv : v = -4 ∨ ∃ t : Nat, t < 6 ∧ v = nI t) : RR z b n (mp M 8 i 2 v) (mp N 25 0 i v) :=
  h.w8 hi rfl (by decide) (by
    obtain ⟨l, kd, a1, a2, a3, a4⟩ := h.oi hi
    unfold OI
    rw [mp_eq, mp_ne M _ (k' := 0) (by omega), mp_ne M _ (k' := 1) (by omega), mp_ne M _ (k' := 4) (by omega)]
    exact ⟨l, kd, a1, a2, hv, a4⟩)
theorem RR.wdep (h : RR z b n M N) {i : Nat} (v : Int32) (hi : i < z) : RR z b n (mp M 8 i 3 v) (mp N 26 0 i v) :=
  h.w8 hi rfl (by decide) (by
    obtain ⟨l, kd, a⟩ := h.oi hi
    unfold OI
    rw [mp_ne M _ (k' := 0) (by omega), mp_ne M _ (k' := 1) (by omega), mp_ne M _ (k' := 2) (by omega), mp_ne M _ (k' := 4) (by omega)]
    exact ⟨l, kd, a⟩)
theorem RR.wcnt (h : RR z b n M N) {i : Nat} (v : Int32) (hi : i < z) (h0 : ¬ M 8 i 0 = 0) : RR z b n (mp M 8 i 1 v) (mp N 22 0 i v) :=
  h.w8 hi rfl (by decide) (by
    obtain ⟨l, kd, a1, a2, a3, a4, a5, a6, a7, a8⟩ := h.oi hi
    unfold OI
    rw [mp_ne M _ (k' := 0) (by omega), mp_eq, mp_ne M _ (k' := 2) (by omega), mp_ne M _ (k' := 4) (by omega)]
    exact ⟨l, kd, a1, a2, a3, a4, a5, a6, fun z => absurd (by rw [a5, z]; rfl) h0, a8⟩)
theorem RR.w19 (h : RR z b n M N) {i r l : Nat} {v : Int32} (hi : i < z) (hr : r < l) (hl : M 8 i 4 = nI l) (hl12 : l ≤ 12) (hv : M 8 i 0 = 6 ∨ M 8 i 0 = 7 → v = -4 ∨ ∃ x : Nat, x < z ∧ v = nI x) : RR z b n (mp M 19 i r v) (mp N 24 0 (12 * i + r) v) := by
  have h32 := h.z32
  have hlc : lc M i = l := by unfold lc; rw [hl, nI_clamp (by omega)]
  refine ⟨h.1.pw (q := (24, 12 * i + r)) (by show (if i < 32 ∧ r < 12 ∧ r < lc M i then some (24, 12 * i + r) else none) = _; rw [if_pos ⟨by omega, by omega, by omega⟩]) (by omega) (by omega) v, h.2.ob (i := i) (fun c _ _ h19 => mp_pool M _ h19) (fun u hu => by rw [mp_pool M _ (by decide)]) (fun u hu => mp_row M _ _ (fun z => hu z.2)) (fun _ => ?_) (NF.mp v (by decide) (by decide) (by omega) (by omega) (by omega))⟩
  rw [mp_pool M (c' := 8) _ (by decide)]
  obtain ⟨l', kd, a1, a2, a3, a4, a5, a6, a7, a8⟩ := h.oi hi
  refine ⟨l', kd, a1, a2, a3, a4, a5, a6, a7, fun hk j hj => ?_⟩
  by_cases e : j = r
  · subst e
    rw [mp_eq]
    refine hv ?_
    rw [a5]
    rcases (by omega : kd = 6 ∨ kd = 7) with rfl | rfl
    · exact Or.inl rfl
    · exact Or.inr rfl
  · rw [mp_ne M _ (fun z => e z.2.2)]; exact a8 hk j hj
theorem RR.wglob (h : RR z b n M N) {c k x : Nat} {v : Int32} (hq : c20 c k = some x) (hx : x ≠ 1 ∧ x ≠ 12 ∧ x ≠ 7 ∧ x ≠ 8) (hc : c = 0 ∨ c = 2 ∨ c = 4) (hk : ¬ (c = 2 ∧ k = 2)) (hC : CI n (mp M c 0 k v)) : RR z b n (mp M c 0 k v) (mp N 20 0 x v) := by
  refine ⟨h.1.pw (q := (20, x)) ?_ (by omega) (by omega) v, h.2.gl (fun c' _ h0 h2 h4 => mp_pool M _ (by omega)) hC (h.si.same (fun u _ => mp_ne M _ (by omega)) (fun u _ => mp_ne M _ (by omega)) (mp_ne M _ (by omega))) (NF.mp v (by decide) (by decide) (by omega) (by omega) (by omega))⟩
  rcases hc with rfl | rfl | rfl
  · show (if 0 = 0 then (c20 0 k).map (fun x => (20, x)) else none) = _
    rw [if_pos rfl, hq]; rfl
  · show (if 0 = 0 then (c20 2 k).map (fun x => (20, x)) else none) = _
    rw [if_pos rfl, hq]; rfl
  · show (if 0 = 0 then (c20 4 k).map (fun x => (20, x)) else none) = _
    rw [if_pos rfl, hq]; rfl
theorem RR.wtime (h : RR z b n M N) (v : Int32) : RR z b n (mp M 2 0 0 v) (mp N 20 0 2 v) :=
  h.wglob rfl (by decide) (by omega) (by omega) (by
    have := h.ci
    unfold CI at this ⊢
    rw [mp_ne M _ (c' := 0) (by omega), mp_ne M _ (c' := 0) (by omega), mp_ne M _ (k' := 1) (by omega), mp_ne M _ (c' := 4) (by omega), mp_pool M (c' := 13) _ (by decide)]
    exact this)
theorem RR.wmany (h : RR z b n M N) (v : Int32) : RR z b n (mp M 4 0 0 v) (mp N 20 0 9 v) :=
  h.wglob rfl (by decide) (by omega) (by omega) (by
    have := h.ci
    unfold CI at this ⊢
    rw [mp_ne M _ (c' := 0) (by omega), mp_ne M _ (c' := 0) (by omega), mp_ne M _ (c' := 2) (by omega), mp_pool M (c' := 13) _ (by decide), mp_ne M _ (k' := 2) (by omega)]
    exact this)
theorem RR.wmet (h : RR z b n M N) (v : Int32) : RR z b n (mp M 4 0 1 v) (mp N 20 0 10 v) :=
  h.wglob rfl (by decide) (by omega) (by omega) (by
    have := h.ci
    unfold CI at this ⊢
    rw [mp_ne M _ (c' := 0) (by omega), mp_ne M _ (c' := 0) (by omega), mp_ne M _ (c' := 2) (by omega), mp_pool M (c' := 13) _ (by decide), mp_ne M _ (k' := 2) (by omega)]
    exact this)
theorem RR.wrule (h : RR z b n M N) {v : Int32} (hv : v = 0 ∨ v = 1) : RR z b n (mp M 0 0 0 v) (mp N 20 0 3 v) :=
  h.wglob rfl (by decide) (by omega) (by omega) (by
    obtain ⟨a1, a2, a3⟩ := h.ci
    unfold CI
    rw [mp_ne M _ (k' := 1) (by omega), mp_eq, mp_ne M _ (c' := 2) (by omega), mp_ne M _ (c' := 4) (by omega), mp_pool M (c' := 13) _ (by decide)]
    exact ⟨a1, hv, a3⟩)
theorem RR.wlast (h : RR z b n M N) {t : Nat} (ht : t < 6) : RR z b n (mp M 0 0 1 (nI t)) (mp N 20 0 5 (nI t)) :=
  h.wglob rfl (by decide) (by omega) (by omega) (by
    obtain ⟨a1, a2, a3⟩ := h.ci
    unfold CI
    rw [mp_eq, mp_ne M _ (c' := 0) (k' := 0) (by omega), mp_ne M _ (c' := 2) (by omega), mp_ne M _ (c' := 4) (by omega), mp_pool M (c' := 13) _ (by decide)]
    exact ⟨⟨t, ht, rfl⟩, a2, a3⟩)
theorem RR.worder (h : RR z b n M N) {v : Int32} (hv : v = 0 ∨ v = 1 ∨ v = 2) : RR z b n (mp M 2 0 1 v) (mp N 20 0 4 v) :=
  h.wglob rfl (by decide) (by omega) (by omega) (by
    obtain ⟨a1, a2, a3, a4⟩ := h.ci
    unfold CI
    rw [mp_ne M _ (c' := 0) (by omega), mp_ne M _ (c' := 0) (by omega), mp_eq, mp_ne M _ (c' := 4) (by omega), mp_pool M (c' := 13) _ (by decide)]
    exact ⟨a1, a2, hv, a4⟩)
/-- the second memory's fault -/
theorem RR.wf7 (h : RR z b n M N) (v : Int32) : RR z b (n.1, n.2.1, n.2.2.1, n.2.2.2.1, v, n.2.2.2.2.2) M (mp N 20 0 7 v) := by
  obtain ⟨a1, a2, a3, a4, a5, a6, a7, a8, a9⟩ := h.2
  refine ⟨h.1.right (fun z => by cases (show (none : Option (Nat × Nat)) = some (20, 7) from z)) v, a1, a2, a3, a4, a5, a6, ⟨fun q hq => ?_, ?_, ?_, mp_eq _ _ _ _ _, ?_⟩, ?_, a9⟩
  · rw [mp_ne _ _ (by omega)]; exact a7.1 q hq
  · rw [mp_pool N _ (by decide)]; exact a7.2.1
  · rw [mp_ne _ _ (by omega)]; exact a7.2.2.1
  · rw [mp_ne _ _ (by omega)]; exact a7.2.2.2.2
  · unfold XI at *
    rw [mp_ne _ _ (by omega), mp_pool N (c' := 27) _ (by decide)]
    exact a8
theorem RR.wf8 (h : RR z b n M N) (v : Int32) : RR z b (n.1, n.2.1, n.2.2.1, n.2.2.2.1, n.2.2.2.2.1, v) M (mp N 20 0 8 v) := by
  obtain ⟨a1, a2, a3, a4, a5, a6, a7, a8, a9⟩ := h.2
  refine ⟨h.1.right (fun z => by cases (show (none : Option (Nat × Nat)) = some (20, 8) from z)) v, a1, a2, a3, a4, a5, a6, ⟨fun q hq => ?_, ?_, ?_, ?_, mp_eq _ _ _ _ _⟩, ?_, a9⟩
  · rw [mp_ne _ _ (by omega)]; exact a7.1 q hq
  · rw [mp_pool N _ (by decide)]; exact a7.2.1
  · rw [mp_ne _ _ (by omega)]; exact a7.2.2.1
  · rw [mp_ne _ _ (by omega)]; exact a7.2.2.2.1
  · unfold XI at *
    rw [mp_ne _ _ (by omega), mp_pool N (c' := 27) _ (by decide)]
    exact a8
/-- the first log alone -/
theorem RR.note {M' : Mem} {q : Nat} {w : Nat → Int32} (h : RR z b n M N) (e : ∀ c i k, ¬ (c = 13 ∧ i = 0) → ¬ (c = 4 ∧ i = 0 ∧ k = 2) → M' c i k = M c i k) (e13 : M' 13 0 = w) (e4 : M' 4 0 2 = nI q) : RR z b (w, n.2.1, q, n.2.2.2.1, n.2.2.2.2.1, n.2.2.2.2.2) M' N := by
  have ec : ∀ c, c ≠ 13 → c ≠ 4 → M' c = M c := fun c h1 h2 => by
    funext i k
    exact e c i k (fun z => h1 z.1) (fun z => h2 z.1)
  have hg : gc M' = gc M := by
    funext t k
    unfold gc
    rw [ec 6 (by decide) (by decide)]
  have hl : lc M' = lc M := by
    funext i
    unfold lc
    rw [ec 8 (by decide) (by decide)]
  refine ⟨?_, ?_⟩
  · intro c i k q hq
    rw [hg, hl] at hq
    rw [e c i k, h.1 c i k q hq]
    · rintro ⟨rfl, rfl⟩
      cases (show (none : Option (Nat × Nat)) = some q from hq)
    · rintro ⟨rfl, rfl, rfl⟩
      cases (show (none : Option (Nat × Nat)) = some q from hq)
  · obtain ⟨a1, a2, a3, a4, a5, ⟨c1, c2, c3, c4⟩, a7, a8, a9⟩ := h.2
    refine ⟨?_, ?_, ?_, ?_, ?_, ?_, a7, ?_, ?_⟩
    · rw [ec 60 (by decide) (by decide), ec 1 (by decide) (by decide)]; exact a1
    · rw [ec 8 (by decide) (by decide), ec 19 (by decide) (by decide)]; exact a2
    · rw [ec 6 (by decide) (by decide), ec 16 (by decide) (by decide)]; exact a3
    · rw [ec 7 (by decide) (by decide), ec 17 (by decide) (by decide)]; exact a4
    · rw [ec 5 (by decide) (by decide), ec 14 (by decide) (by decide)]; exact a5
    · unfold CI; rw [ec 0 (by decide) (by decide), ec 2 (by decide) (by decide)]; exact ⟨c1, c2, c3, e13, e4⟩
    · exact (NF.rfl' N).xi (by rw [ec 1 (by decide) (by decide)]) a8
    · unfold SI inB at *; rw [ec 2 (by decide) (by decide), ec 6 (by decide) (by decide)]; exact a9
/-- the second log alone -/
theorem RR.logw {N' : Mem} {q : Nat} {w : Nat → Int32} (h : RR z b n M N) (e : ∀ p x, p ≠ 52 → ¬ (p = 20 ∧ x = 12) → N' p 0 x = N p 0 x) (e13 : N' 52 0 = w) (e4 : N' 20 0 12 = nI q) : RR z b (n.1, w, n.2.2.1, q, n.2.2.2.2.1, n.2.2.2.2.2) M N' := by
  refine ⟨?_, ?_⟩
  · intro c i k q hq
    have hd := dc_co hq
    obtain ⟨p, x⟩ := q
    rw [h.1 c i k _ hq]
    refine (e p x ?_ ?_).symm
    · rintro rfl
      have h1 := Prod.mk.inj (show ((13, 0, x) : Nat × Nat × Nat) = (c, i, k) from hd)
      have h2 := Prod.mk.inj h1.2
      obtain ⟨rfl, rfl, rfl⟩ := (⟨h1.1, h2.1, h2.2⟩ : 13 = c ∧ 0 = i ∧ x = k)
      cases (show (none : Option (Nat × Nat)) = _ from hq)
    · rintro ⟨rfl, rfl⟩
      have h1 := Prod.mk.inj (show ((4, 0, 2) : Nat × Nat × Nat) = (c, i, k) from hd)
      have h2 := Prod.mk.inj h1.2
      obtain ⟨rfl, rfl, rfl⟩ := (⟨h1.1, h2.1, h2.2⟩ : 4 = c ∧ 0 = i ∧ 2 = k)
      cases (show (none : Option (Nat × Nat)) = _ from hq)
  · obtain ⟨a1, a2, a3, a4, a5, a6, a7, a8, a9⟩ := h.2
    refine ⟨a1, a2, a3, a4, a5, a6, ⟨fun q hq => ?_, e13, e4, by rw [e 20 7 (by decide) (by decide)]; exact a7.2.2.2.1, by rw [e 20 8 (by decide) (by decide)]; exact a7.2.2.2.2⟩, ?_, a9⟩
    · rw [e 30 q (by decide) (by omega)]; exact a7.1 q hq
    · unfold XI at *
      rw [e 20 1 (by decide) (by decide)]
      rcases a8 with a8 | ⟨k, k1, k2, k3, k4⟩
      · exact Or.inl a8
      · exact Or.inr ⟨k, k1, k2, k3, fun q hq => by rw [e 27 q (by decide) (by omega)]; exact k4 q hq⟩
end WR
