/-! rings -/
def oI (o : Option Nat) : Int32 := match o with
  | none => -4
  | some u => nI u
def hf (M : Mem) (t : Nat) : Option Nat := if M 6 t 0 = 6 then some (M 6 t 11).toNatClampNeg else if M 6 t 0 = 3 then (if M 8 (M 6 t 11).toNatClampNeg 2 = -4 then none else some (M 8 (M 6 t 11).toNatClampNeg 2).toNatClampNeg) else none
def itn (M : Mem) (t : Nat) : Nat → Option Nat
  | 0 => some t
  | i + 1 => (itn M t i).bind (hf M)
def wbk (M : Mem) (t : Nat) : Nat → Nat → Nat
  | 0, _ => 0
  | d + 1, k => if itn M t k = some t then k else wbk M t d (k + 1)
def rgv (M : Mem) (k : Nat) : Nat → Nat → Int32
  | 0, _ => -4
  | d + 1, t => if wbk M t 6 1 = 0 then rgv M k d (t + 1) else if wbk M t 6 1 ≤ k then -4 else oI (itn M t k)
section RIN
variable {z b : Nat} {n : Lg} {M N : Mem}
theorem hf_ok (h : RR z b n M N) {t : Nat} (ht : t < 6) : (∀ u, hf M t = some u → u < 6) ∧ f_yX1_hangsOn M (nI t) = some (oI (hf M t)) ∧ f_yX9_hangsOn N (nI t) = some (oI (hf M t)) := by
  have h32 := h.z32
  obtain ⟨a1, a2, a3, a4, a5, a6, a7, a8, a9, a10, a11⟩ := h.ti ht
  have e31 := h.n31 ht
  unfold f_yX1_hangsOn f_yX9_hangsOn hf
  by_cases h6 : M 6 t 0 = 6
  · obtain ⟨u, u1, u2⟩ := a8 h6
    have e39 := h.n39 ht (by rw [h6]; decide)
    have z63 : ¬ (6 : Int32) = 3 := by decide
    rw [if_pos h6, u2, nI_clamp (by omega)]
    refine ⟨fun w hw => by cases hw; exact u1, ?_, ?_⟩
    · simp (disch := omega) only [↓gd_b, gd_t, gd_f, ↓ob1_s, ob1_s, ↓ob2_s, ob2_s, ↓om_n, ↓om_s, om_n, om_s, ↓lt1, ↓reduceIte, or_true, true_or, or_false, false_or, and_true, true_and, and_false, false_and, not_true_eq_false, not_false_eq_true, ite_self, S2_ret, eq_self, llA, llM, llm, llS, lle_f, lle_t, lle2_f, lle2_t, llt_f, llt_t, llt2_f, llt2_t, leq_f, leq_t, lz_f, lzl_t, nI_add, nI_clamp, nle_f, nle_t, nlt_f, nlt_t, neq_f, neq_t, at_in ht, h6, u2]
      rfl
    · simp (disch := omega) only [↓gd_b, gd_t, gd_f, ↓ob1_s, ob1_s, ↓ob2_s, ob2_s, ↓om_n, ↓om_s, om_n, om_s, ↓lt1, ↓reduceIte, or_true, true_or, or_false, false_or, and_true, true_and, and_false, false_and, not_true_eq_false, not_false_eq_true, ite_self, S2_ret, eq_self, llA, llM, llm, llS, lle_f, lle_t, lle2_f, lle2_t, llt_f, llt_t, llt2_f, llt2_t, leq_f, leq_t, lz_f, lzl_t, nI_add, nI_clamp, nle_f, nle_t, nlt_f, nlt_t, neq_f, neq_t, e31, h6, z63, e39, u2]
      rfl
  · by_cases h3 : M 6 t 0 = 3
    · obtain ⟨x, x1, x2⟩ := a7 (Or.inl h3)
      have e39 := h.n39 ht (by rw [h3]; decide)
      have e25 := h.n25 (i := x) (by omega)
      have g1 := h.g1
      have hs := h.sat x1
      have z36 : ¬ (3 : Int32) = 6 := by decide
      obtain ⟨l, kd, l1, l2, l3, l4⟩ := h.oi x1
      rw [if_neg h6, if_pos h3, x2, nI_clamp (by omega)]
      rcases l3 with l3 | ⟨u, u1, u2⟩
      · rw [if_pos l3]
        refine ⟨fun w hw => (by cases hw), ?_, ?_⟩
        · simp (disch := omega) only [↓gd_b, gd_t, gd_f, ↓ob1_s, ob1_s, ↓ob2_s, ob2_s, ↓om_n, ↓om_s, om_n, om_s, ↓lt1, ↓reduceIte, or_true, true_or, or_false, false_or, and_true, true_and, and_false, false_and, not_true_eq_false, not_false_eq_true, ite_self, S2_ret, eq_self, llA, llM, llm, llS, lle_f, lle_t, lle2_f, lle2_t, llt_f, llt_t, llt2_f, llt2_t, leq_f, leq_t, lz_f, lzl_t, nI_add, nI_clamp, nle_f, nle_t, nlt_f, nlt_t, neq_f, neq_t, at_in ht, h3, z36, x2, hs, g1, l3]
          rfl
        · simp (disch := omega) only [↓gd_b, gd_t, gd_f, ↓ob1_s, ob1_s, ↓ob2_s, ob2_s, ↓om_n, ↓om_s, om_n, om_s, ↓lt1, ↓reduceIte, or_true, true_or, or_false, false_or, and_true, true_and, and_false, false_and, not_true_eq_false, not_false_eq_true, ite_self, S2_ret, eq_self, llA, llM, llm, llS, lle_f, lle_t, lle2_f, lle2_t, llt_f, llt_t, llt2_f, llt2_t, leq_f, leq_t, lz_f, lzl_t, nI_add, nI_clamp, nle_f, nle_t, nlt_f, nlt_t, neq_f, neq_t, e31, h3, e39, x2, e25, l3]
          rfl
      · rw [u2, if_neg (ne4 (by omega)), nI_clamp (by omega)]
        refine ⟨fun w hw => by cases hw; exact u1, ?_, ?_⟩
        · simp (disch := omega) only [↓gd_b, gd_t, gd_f, ↓ob1_s, ob1_s, ↓ob2_s, ob2_s, ↓om_n, ↓om_s, om_n, om_s, ↓lt1, ↓reduceIte, or_true, true_or, or_false, false_or, and_true, true_and, and_false, false_and, not_true_eq_false, not_false_eq_true, ite_self, S2_ret, eq_self, llA, llM, llm, llS, lle_f, lle_t, lle2_f, lle2_t, llt_f, llt_t, llt2_f, llt2_t, leq_f, leq_t, lz_f, lzl_t, nI_add, nI_clamp, nle_f, nle_t, nlt_f, nlt_t, neq_f, neq_t, at_in ht, h3, z36, x2, hs, g1, u2]
          rfl
        · simp (disch := omega) only [↓gd_b, gd_t, gd_f, ↓ob1_s, ob1_s, ↓ob2_s, ob2_s, ↓om_n, ↓om_s, om_n, om_s, ↓lt1, ↓reduceIte, or_true, true_or, or_false, false_or, and_true, true_and, and_false, false_and, not_true_eq_false, not_false_eq_true, ite_self, S2_ret, eq_self, llA, llM, llm, llS, lle_f, lle_t, lle2_f, lle2_t, llt_f, llt_t, llt2_f, llt2_t, leq_f, leq_t, lz_f, lzl_t, nI_add, nI_clamp, nle_f, nle_t, nlt_f, nlt_t, neq_f, neq_t, e31, h3, e39, x2, e25, u2]
          rfl
    · rw [if_neg h6, if_neg h3]
      refine ⟨fun w hw => (by cases hw), ?_, ?_⟩
      · simp (disch := omega) only [↓gd_b, gd_t, gd_f, ↓ob1_s, ob1_s, ↓ob2_s, ob2_s, ↓om_n, ↓om_s, om_n, om_s, ↓lt1, ↓reduceIte, or_true, true_or, or_false, false_or, and_true, true_and, and_false, false_and, not_true_eq_false, not_false_eq_true, ite_self, S2_ret, eq_self, llA, llM, llm, llS, lle_f, lle_t, lle2_f, lle2_t, llt_f, llt_t, llt2_f, llt2_t, leq_f, leq_t, lz_f, lzl_t, nI_add, nI_clamp, nle_f, nle_t, nlt_f, nlt_t, neq_f, neq_t, at_in ht, h3, h6]
        rfl
      · simp (disch := omega) only [↓gd_b, gd_t, gd_f, ↓ob1_s, ob1_s, ↓ob2_s, ob2_s, ↓om_n, ↓om_s, om_n, om_s, ↓lt1, ↓reduceIte, or_true, true_or, or_false, false_or, and_true, true_and, and_false, false_and, not_true_eq_false, not_false_eq_true, ite_self, S2_ret, eq_self, llA, llM, llm, llS, lle_f, lle_t, lle2_f, lle2_t, llt_f, llt_t, llt2_f, llt2_t, leq_f, leq_t, lz_f, lzl_t, nI_add, nI_clamp, nle_f, nle_t, nlt_f, nlt_t, neq_f, neq_t, e31, h3, h6]
        rfl
theorem itn_lt (h : RR z b n M N) {t : Nat} (ht : t < 6) : ∀ i u, itn M t i = some u → u < 6 := by
  intro i
  induction i with
  | zero => intro u hu; cases hu; exact ht
  | succ i ih =>
    intro u hu
    rw [itn] at hu
    cases ha : itn M t i with
    | none => rw [ha] at hu; cases hu
    | some c =>
      rw [ha] at hu
      exact (hf_ok h (ih c ha)).1 u hu
theorem itn_none {t i : Nat} (ha : itn M t i = none) : ∀ d, itn M t (i + d) = none := by
  intro d
  induction d with
  | zero => exact ha
  | succ d ih =>
    show (itn M t (i + d)).bind (hf M) = none
    rw [ih]
    rfl
theorem hang4 (M : Mem) : f_yX1_hangsOn M (-4) = some (-4) := by
  unfold f_yX1_hangsOn
  rw [at_out (Or.inl (by decide)), ob1_s, om_n]
theorem hangM (h : RR z b n M N) {t : Nat} (ht : t < 6) (i : Nat) : f_yX1_hangsOn M (oI (itn M t i)) = some (oI (itn M t (i + 1))) := by
  rw [itn]
  cases ha : itn M t i with
  | none => exact hang4 M
  | some c => exact (hf_ok h (itn_lt h ht i c ha)).2.1
theorem hangN (h : RR z b n M N) {t : Nat} (ht : t < 6) {i c : Nat} (ha : itn M t i = some c) : f_yX9_hangsOn N (nI c) = some (oI (itn M t (i + 1))) := by
  rw [itn, ha]
  exact (hf_ok h (itn_lt h ht i c ha)).2.2
theorem lk_follow (h : RR z b n M N) {t s : Nat} (ht : t < 6) (hs : s < 1000) : ∀ d i m, i + d = s → f_yX1_follow_L5 (m + d + 1) M (nI s) (oI (itn M t i)) (nI i) = some (oI (itn M t s)) := by
  intro d
  induction d with
  | zero =>
    intro i m hi
    obtain rfl : i = s := by omega
    rw [f_yX1_follow_L5, if_pos (nI_le (Nat.le_refl _) (by omega))]
  | succ d ih =>
    intro i m hi
    have hle : ¬ nI s ≤ nI i := fun ww => by rw [nI_leI (by omega) (by omega)] at ww; omega
    rw [f_yX1_follow_L5, if_neg hle, hangM h ht i, ob1_s, nI_1]
    exact ih (i + 1) m (by omega)
theorem follow_eq (h : RR z b n M N) {t s : Nat} (ht : t < 6) (hs : s ≤ 60) : f_yX1_follow M (nI t) (nI s) = some (oI (itn M t s)) := by
  have key := lk_follow h ht (s := s) (by omega) s 0 (69 - s) (by omega)
  rw [show 69 - s + s + 1 = 70 by omega] at key
  exact key
theorem oI_eq {o : Option Nat} {t : Nat} (ho : ∀ u, o = some u → u < 6) (ht : t < 6) : oI o = nI t ↔ o = some t := by
  cases o with
  | none => exact ⟨fun e => absurd e.symm (ne4 (by omega)), fun e => by cases e⟩
  | some u =>
    have := ho u rfl
    exact ⟨fun e => by rw [(nI_eq (by omega) (by omega)).mp (show nI u = nI t from e)], fun e => by cases e; rfl⟩
theorem lk_wb (h : RR z b n M N) {t : Nat} (ht : t < 6) : ∀ d k m, k + d = 7 → f_yX1_wayBackTo_L2 (m + d + 1) M (nI t) (nI k) = some (nI (wbk M t d k)) := by
  intro d
  induction d with
  | zero =>
    intro k m hk
    obtain rfl : k = 7 := by omega
    rw [f_yX1_wayBackTo_L2, if_pos (by decide)]
    rfl
  | succ d ih =>
    intro k m hk
    rw [f_yX1_wayBackTo_L2, if_neg (of_eq_false (llt2_f (k := 6) (show k ≤ 6 by omega) (by decide))), follow_eq h ht (by omega), ob1_s, wbk]
    by_cases he : itn M t k = some t
    · rw [if_pos he, if_pos ((oI_eq (itn_lt h ht k) ht).mpr he)]
    · rw [if_neg he, if_neg (fun e => he ((oI_eq (itn_lt h ht k) ht).mp e)), nI_1]
      exact ih (k + 1) m (by omega)
theorem wb_eq (h : RR z b n M N) {t : Nat} (ht : t < 6) : f_yX1_wayBackTo M (nI t) = some (nI (wbk M t 6 1)) := lk_wb h ht 6 1 63 (by decide)
theorem wbk_spec {t : Nat} : ∀ d k, wbk M t d k = 0 ∨ (k ≤ wbk M t d k ∧ wbk M t d k < k + d ∧ itn M t (wbk M t d k) = some t) := by
  intro d
  induction d with
  | zero => intro k; exact Or.inl rfl
  | succ d ih =>
    intro k
    rw [wbk]
    by_cases he : itn M t k = some t
    · rw [if_pos he]
      exact Or.inr ⟨Nat.le_refl _, by omega, he⟩
    · rw [if_neg he]
      exact (ih (k + 1)).imp id (fun ⟨a1, a2, a3⟩ => ⟨by omega, by omega, a3⟩)
theorem wbk_none {t : Nat} : ∀ d k, itn M t k = none → wbk M t d k = 0 := by
  intro d
  induction d with
  | zero => intro k _; rfl
  | succ d ih =>
    intro k hk
    rw [wbk, if_neg (by rw [hk]; exact fun e => by cases e)]
    exact ih (k + 1) (itn_none hk 1)
theorem lk_inRing (h : RR z b n M N) {k : Nat} (hk : k < 2147483648) : ∀ d t m, t + d = 6 → f_yX1_inRing_L2 (m + d + 1) M (nI k) (nI t) = some (rgv M k d t) := by
  intro d
  induction d with
  | zero =>
    intro t m ht
    obtain rfl : t = 6 := by omega
    rw [f_yX1_inRing_L2, if_pos (by decide)]
    rfl
  | succ d ih =>
    intro t m ht
    have ht6 : t < 6 := by omega
    rw [f_yX1_inRing_L2, if_neg (l6n ht6), wb_eq h ht6, ob1_s, rgv]
    rcases wbk_spec (M := M) (t := t) 6 1 with hw | ⟨w1, w2, w3⟩
    · rw [hw, if_pos (by decide), if_pos rfl, nI_1]
      exact ih (t + 1) m (by omega)
    · rw [if_neg (show ¬ wbk M t 6 1 = 0 by omega), if_neg (of_eq_false (lle2_f (k := 0) (show 0 < wbk M t 6 1 by omega) (by omega)))]
      by_cases hle : wbk M t 6 1 ≤ k
      · rw [if_pos hle, if_pos (nI_le hle hk)]
      · rw [if_neg hle, if_neg (fun ww => hle ((nI_leI (by omega) hk).mp ww)), follow_eq h ht6 (by omega), ob1_s]
theorem lk_r74 (h : RR z b n M N) {t k s : Nat} (ht : t < 6) (hk : k < 2147483648) (hs : s ≤ 6) (hr : itn M t s = some t) : ∀ e i m, (i + e = k ∧ k ≤ s) ∨ (i + e = s ∧ s ≤ k) → f_yX9_ring_L74 (m + e + 1) N (nI k) (nI s) (oI (itn M t i)) (nI i) = some (if s ≤ k then -4 else oI (itn M t k)) := by
  intro e
  induction e with
  | zero =>
    intro i m hi
    rw [f_yX9_ring_L74]
    rcases hi with ⟨hi, hks⟩ | ⟨hi, hks⟩
    · obtain rfl : i = k := by omega
      rw [if_pos (nI_le (Nat.le_refl _) (by omega))]
      by_cases hle : s ≤ i
      · rw [if_pos (nI_le hle (by omega)), if_pos hle]
      · rw [if_neg (fun ww => hle ((nI_leI (by omega) (by omega)).mp ww)), if_neg hle]
    · obtain rfl : i = s := by omega
      rw [if_pos hks]
      by_cases hle : nI k ≤ nI i
      · rw [if_pos hle, if_pos (nI_le hks hk)]
      · rw [if_neg hle, if_pos (nI_le (Nat.le_refl _) (by omega)), if_pos (nI_le hks hk)]
  | succ e ih =>
    intro i m hi
    have h1 : ¬ nI k ≤ nI i := fun ww => by rw [nI_leI hk (by omega)] at ww; omega
    have h2 : ¬ nI s ≤ nI i := fun ww => by rw [nI_leI (by omega) (by omega)] at ww; omega
    rw [f_yX9_ring_L74, if_neg h1, if_neg h2]
    cases ha : itn M t i with
    | none =>
      exfalso
      have := itn_none ha (s - i)
      rw [show i + (s - i) = s by omega, hr] at this
      cases this
    | some c =>
      have hg : f_yX9_hangsOn N (oI (some c)) = some (oI (itn M t (i + 1))) := hangN h ht ha
      rw [hg, ob1_s, nI_1]
      exact ih (i + 1) m (by omega)
def nxt (N : Mem) (k t m : Nat) : Option Int32 := if 6 ≤ nI t + 1 then some (-4) else f_yX9_ring_L19 m N (nI k) (nI t + 1) 0 (nI t + 1)
theorem lk_rin (h : RR z b n M N) {t k m0 : Nat} {V : Option Int32} (ht : t < 6) (hV : ∀ m, m0 ≤ m → nxt N k t m = V) : ∀ e i m, m0 ≤ m → i + e = 7 → 1 ≤ i → f_yX9_ring_L19 (m + e + 1) N (nI k) (nI t) (nI i) (oI (itn M t i)) = if wbk M t e i = 0 then V else f_yX9_ring_L74 70 N (nI k) (nI (wbk M t e i)) (nI t) 0 := by
  intro e
  have n4t : ¬ (-4 : Int32) = nI t := fun w => ne4 (by omega) w.symm
  induction e with
  | zero =>
    intro i m hm hi h1
    obtain rfl : i = 7 := by omega
    rw [f_yX9_ring_L19, wbk, if_pos (show 0 = 0 from rfl), ← hV m hm]
    unfold nxt
    cases ha : itn M t 7 with
    | none =>
      rw [if_pos (show oI none = -4 from rfl), if_neg (show ¬ oI none = nI t from n4t)]
    | some c =>
      have hc := itn_lt h ht 7 c ha
      rw [if_neg (show ¬ oI (some c) = -4 from ne4 (by omega)), if_pos (show (7 : Int32) ≤ nI 7 by decide)]
      exact ite_self _
  | succ e ih =>
    intro i m hm hi h1
    rw [f_yX9_ring_L19]
    cases ha : itn M t i with
    | none =>
      rw [wbk_none (e + 1) i ha, if_pos (show 0 = 0 from rfl), if_pos (show oI none = -4 from rfl), if_neg (show ¬ oI none = nI t from n4t), ← hV (m + (e + 1)) (by omega)]
      rfl
    | some c =>
      have hc := itn_lt h ht i c ha
      rw [if_neg (show ¬ oI (some c) = -4 from ne4 (by omega)), if_neg (of_eq_false (lle_f (k := 7) (show i < 7 by omega) (by decide))), if_neg (nI_ne0 (show 0 < i by omega) (by omega)), wbk]
      by_cases hct : c = t
      · subst hct
        rw [if_pos (show oI (some c) = nI c from rfl), if_pos (show oI (some c) = nI c from rfl), if_pos ha, if_neg (show ¬ i = 0 by omega)]
      · have hg : f_yX9_hangsOn N (oI (some c)) = some (oI (itn M t (i + 1))) := hangN h ht ha
        rw [if_neg (show ¬ oI (some c) = nI t from fun w => hct ((nI_eq (by omega) (by omega)).mp w)), if_neg (show ¬ itn M t i = some t from fun w => by rw [ha] at w; cases w; exact hct rfl), hg, ob1_s, nI_1]
        exact ih (i + 1) m hm (by omega) (by omega)
theorem lk_ring (h : RR z b n M N) {k : Nat} (hk : k < 2147483648) : ∀ d t m, t + d = 6 → 0 < d → 9 * d ≤ m → f_yX9_ring_L19 m N (nI k) (nI t) 0 (nI t) = some (rgv M k d t) := by
  intro d
  induction d with
  | zero => intro t m _ h0 _; omega
  | succ d ih =>
    intro t m ht h0 hm
    have ht6 : t < 6 := by omega
    have hV : ∀ m', 9 * d ≤ m' → nxt N k t m' = some (rgv M k d (t + 1)) := by
      intro m' hm'
      unfold nxt
      by_cases hd : d = 0
      · subst hd
        rw [nI_1, if_pos (of_eq_true (lle_t (k := 6) (show 6 ≤ t + 1 by omega) (by omega)))]
        rfl
      · rw [nI_1, if_neg (l6n (by omega))]
        exact ih (t + 1) m' (by omega) (by omega) hm'
    obtain ⟨m1, rfl⟩ : ∃ m1, m = m1 + 1 + 6 + 1 + 1 := ⟨m - 9, by omega⟩
    have hg : f_yX9_hangsOn N (nI t) = some (oI (itn M t 1)) := hangN h ht6 (i := 0) rfl
    have key := lk_rin h ht6 hV 6 1 (m1 + 1) (by omega) (by decide) (by decide)
    have key' : f_yX9_ring_L19 (m1 + 1 + 6 + 1) N (nI k) (nI t) (0 + 1) (oI (itn M t 1)) = if wbk M t 6 1 = 0 then some (rgv M k d (t + 1)) else f_yX9_ring_L74 70 N (nI k) (nI (wbk M t 6 1)) (nI t) 0 := key
    rw [f_yX9_ring_L19, if_neg (ne4 (by omega)), if_neg (by decide), if_pos rfl, hg, ob1_s, key', rgv]
    rcases wbk_spec (M := M) (t := t) 6 1 with hw | ⟨w1, w2, w3⟩
    · rw [if_pos hw, if_pos hw]
    · rw [if_neg (show ¬ wbk M t 6 1 = 0 by omega), if_neg (show ¬ wbk M t 6 1 = 0 by omega)]
      by_cases hle : wbk M t 6 1 ≤ k
      · have k2 := lk_r74 h ht6 hk (by omega) w3 (wbk M t 6 1) 0 (69 - wbk M t 6 1) (Or.inr ⟨by omega, hle⟩)
        rw [show 69 - wbk M t 6 1 + wbk M t 6 1 + 1 = 70 by omega] at k2
        rw [if_pos hle] at k2 ⊢
        exact k2
      · have k2 := lk_r74 h ht6 hk (by omega) w3 k 0 (69 - k) (Or.inl ⟨by omega, by omega⟩)
        rw [show 69 - k + k + 1 = 70 by omega] at k2
        rw [if_neg hle] at k2 ⊢
        exact k2
theorem pm_ring (h : RR z b n M N) (x1 : Int32) : Rv (f_yX8_ring M x1) (f_yX9_ring N x1) := by
  unfold f_yX8_ring f_yX9_ring
  by_cases h0 : 0 ≤ x1
  · have hn : ¬ x1 < 0 := fun ww => by
      rw [Int32.lt_iff_toInt_lt] at ww
      rw [Int32.le_iff_toInt_le] at h0
      omega
    obtain ⟨k, hk, rfl⟩ := nI_of hn
    have q1 : f_yX1_inRing M (nI k) = some (rgv M k 6 0) := lk_inRing h hk 6 0 63 (by decide)
    have q2 : f_yX9_ring_L19 70 N (nI k) 0 0 0 = some (rgv M k 6 0) := lk_ring h hk 6 0 70 (by decide) (by decide) (by decide)
    rw [if_pos h0, if_pos h0, q1, ob1_s, q2]
    exact S2.ret rfl
  · rw [if_neg h0, if_neg h0]
    exact S2.ret rfl
end RIN
