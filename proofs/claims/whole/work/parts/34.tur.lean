/-! a turn -/
def pfd (M17 : Mem) (i1 : Nat) (r8 r10 r12 r14 : Int32) : Option (Int32 × Mem) := (if 7 < r8 then (if 15 < r8 then (if 21 < r8 then (if 26 < r8 then (if 30 < r8 then ob2 (f_yX0_useHandlers M17 i1 r8 r10 r12) (fun r24 M25 => (some (r24, M25))) else ob2 (f_yX0_useThreads M17 i1 r8 r10) (fun r27 M28 => (some (r27, M28)))) else ob2 (f_yX0_useMonitors M17 i1 r8 r10 r12) (fun r30 M31 => (some (r30, M31)))) else ob2 (f_yX0_useRows M17 i1 r8 r10 r12 r14) (fun r33 M34 => (some (r33, M34)))) else ob2 (f_yX0_useThings M17 i1 r8 r10 r12 r14) (fun r37 M38 => (some (r37, M38)))) else ob2 (f_yX0_reckon M17 i1 r8 r10 r12 r14) (fun r40 M41 => (some (r40, M41))))
def dsp (N : Mem) (x1 o a c d : Int32) : Option Mem := (if 8 ≤ o then (if 12 ≤ o then (if 16 ≤ o then (if 22 ≤ o then (if 27 ≤ o then (if 31 ≤ o then ob1 (f_yX9_rests N x1 o a c) (fun N12 => (some N12)) else gd (¬ (((6 * x1) + a) < 0 ∨ 36 ≤ ((6 * x1) + a).toNatClampNeg)) (ob1 (f_yX9_stops N x1 o (N 49 0 ((6 * x1) + a).toNatClampNeg)) (fun N15 => (some N15)))) else ob1 (f_yX9_enters N x1 o ((6 * x1) + a) c) (fun N17 => (some N17))) else ob1 (f_yX9_rows N x1 o ((6 * x1) + a) c d) (fun N19 => (some N19))) else ob1 (f_yX9_boxes N x1 o ((6 * x1) + a) c) (fun N21 => (some N21))) else ob1 (f_yX9_holds N x1 o ((6 * x1) + a) c d) (fun N23 => (some N23))) else ob1 (f_yX9_numbers N x1 o a c d) (fun N25 => (some N25)))
theorem does_eq (N : Mem) (x1 x2 : Int32) : f_yX9_does N x1 x2 = gd (¬ (x2 < 0 ∨ 1280 ≤ x2.toNatClampNeg)) (gd (¬ ((x2 + 1) < 0 ∨ 1280 ≤ (x2 + 1).toNatClampNeg)) (gd (¬ ((x2 + 2) < 0 ∨ 1280 ≤ (x2 + 2).toNatClampNeg)) (gd (¬ ((x2 + 3) < 0 ∨ 1280 ≤ (x2 + 3).toNatClampNeg)) (dsp N x1 (N 28 0 x2.toNatClampNeg) (N 28 0 (x2 + 1).toNatClampNeg) (N 28 0 (x2 + 2).toNatClampNeg) (N 28 0 (x2 + 3).toNatClampNeg))))) := rfl
section TUR
variable {z b t q r : Nat} {w v : Nat → Int32} {M N : Mem}
theorem Ra.wr {a : Option (Int32 × Mem)} {c : Option Mem} (h : Ra t b w v q r a c) : Ra t b w v q r (ob2 a (fun x m => some (x, m))) (ob1 c (fun m => some m)) := by
  obtain ⟨⟨x1, x2⟩, y, q1, q2, q3⟩ := h
  rw [q1, q2]
  exact S2.ret q3
theorem Ra.up {b' : Nat} {a : Option (Int32 × Mem)} {c : Option Mem} (h : Ra t b w v q r a c) (hb : b ≤ b') : Ra t b' w v q r a c := S2.mono h (fun _ _ q => q.up hb)
theorem o_all (h : RR z b (n0 w v q r) M N) (hb : b + 6 < 2147483647) (ht : t < 6) (h2 : M 6 t 0 = 2) {o : Nat} (ho : o < 37) {a c d : Int32} (ka : okn (sc 5 (3 * o)) a = 1) (kc : okn (sc 5 (3 * o + 1)) c = 1) (kd : okn (sc 5 (3 * o + 2)) d = 1) :
    Ra t (b + 6) w v q r (pfd M t (nI o) a c d) (dsp N (nI t) (nI o) a c d) := by
  unfold pfd dsp
  have o31 : o < 2147483648 := by omega
  by_cases c8 : o < 8
  · rw [if_neg (of_eq_false (llt2_f (k := 7) (show o ≤ 7 by omega) (by decide))), if_neg (of_eq_false (lle_f (k := 8) c8 (by decide)))]
    exact ((o_reckon h ht h2 c8 ka kc kd).up (by omega)).wr
  · rw [if_pos (of_eq_true (llt2_t (k := 7) (show 7 < o by omega) o31)), if_pos (of_eq_true (lle_t (k := 8) (show 8 ≤ o by omega) o31))]
    by_cases c16 : o < 16
    · rw [if_neg (of_eq_false (llt2_f (k := 15) (show o ≤ 15 by omega) (by decide)))]
      by_cases c12 : o < 12
      · rw [if_neg (of_eq_false (lle_f (k := 12) c12 (by decide)))]
        exact ((o_holds h ht h2 (by omega) c12 ka kc kd).up (by omega)).wr
      · rw [if_pos (of_eq_true (lle_t (k := 12) (show 12 ≤ o by omega) o31)), if_neg (of_eq_false (lle_f (k := 16) c16 (by decide)))]
        exact ((o_boxes h ht h2 (by omega) c16 ka kc).up (by omega)).wr
    · rw [if_pos (of_eq_true (llt2_t (k := 15) (show 15 < o by omega) o31)), if_pos (of_eq_true (lle_t (k := 12) (show 12 ≤ o by omega) o31)), if_pos (of_eq_true (lle_t (k := 16) (show 16 ≤ o by omega) o31))]
      by_cases c22 : o < 22
      · rw [if_neg (of_eq_false (llt2_f (k := 21) (show o ≤ 21 by omega) (by decide))), if_neg (of_eq_false (lle_f (k := 22) c22 (by decide)))]
        by_cases c21 : o = 21
        · subst c21
          exact ((o_copy h ht h2 ka kc kd).up (by omega)).wr
        · exact ((o_rows h ht h2 (by omega) (by omega) ka kc kd).up (by omega)).wr
      · rw [if_pos (of_eq_true (llt2_t (k := 21) (show 21 < o by omega) o31)), if_pos (of_eq_true (lle_t (k := 22) (show 22 ≤ o by omega) o31))]
        by_cases c27 : o < 27
        · rw [if_neg (of_eq_false (llt2_f (k := 26) (show o ≤ 26 by omega) (by decide))), if_neg (of_eq_false (lle_f (k := 27) c27 (by decide)))]
          exact (o_mon h hb ht h2 (by omega) c27 ka kc).wr
        · rw [if_pos (of_eq_true (llt2_t (k := 26) (show 26 < o by omega) o31)), if_pos (of_eq_true (lle_t (k := 27) (show 27 ≤ o by omega) o31))]
          by_cases c31 : o < 31
          · rw [if_neg (of_eq_false (llt2_f (k := 30) (show o ≤ 30 by omega) (by decide))), if_neg (of_eq_false (lle_f (k := 31) c31 (by decide)))]
            have hxx : ∃ x, x ≤ 5 ∧ a = nI x := by
              rcases (by omega : o = 27 ∨ o = 28 ∨ o = 29 ∨ o = 30) with rfl | rfl | rfl | rfl <;> exact okn_in (L := 5) (by decide) ka
            obtain ⟨x, hx, rfl⟩ := hxx
            have e49 := h.n49 ht (r := x) (by omega)
            rw [show (6 : Int32) * nI t = nI (6 * t) from llM 6 t, nI_add, gd_b (by omega) (by decide), nI_clamp (by omega), e49]
            exact (o_thr h hb ht h2 (by omega) c31 (by omega)).wr
          · rw [if_pos (of_eq_true (llt2_t (k := 30) (show 30 < o by omega) o31)), if_pos (of_eq_true (lle_t (k := 31) (show 31 ≤ o by omega) o31))]
            exact ((o_han h ht h2 (by omega) ho ka kc).up (by omega)).wr
/-! what comes behind the act -/
def TE (M : Mem) (j : Nat) : Option (Int32 × Mem) := (if (M 6 j 0) = 2 then ob1 (f_yX5_isAtEnd M j) (fun r45 => (if r45 = 0 then (some ((nI j), M)) else ob1 (f_yX1_end M j 0 0) (fun M48 => (some ((nI j), M48))))) else (some ((nI j), M)))
def TT (M2 : Mem) (j : Nat) : Option (Int32 × Mem) := gd (j < 6) (lt1 (mp M2 0 0 1 (nI j)) (fun M35 => ob2 (f_yX0_perform M35 j) (fun r38 M39 => ob1 (f_yX6_note M39 (nI j) (M35 6 j 3) r38) (fun M41 => (if r38 = 0 then TE M41 j else lt1 (mp M41 6 j 3 (M35 6 j 3)) (fun M49 => ob1 (f_yX8_fail M49 j r38) (fun M51 => TE M51 j)))))))
theorem takeTurn_eq (M : Mem) : f_yX8_takeTurn M = ob1 (f_yX1_passTime M) (fun M2 => (if (M2 0 0 0) = 0 then ob1 (f_yX1_firstReadyBehind M2 (M2 0 0 1)) (fun r32 => om r32 ((some ((-5), M2))) (fun j33 => TT M2 j33)) else ob1 (f_yX1_readyOfGreatestRank M2) (fun r5 => om r5 ((some ((-5), M2))) (fun j6 => TT M2 j6)))) := rfl
def fin1 (N : Mem) (r p : Int32) : Option (Int32 × Mem) := (if (N 31 0 r.toNatClampNeg) = 2 then gd (¬ ((N 32 0 r.toNatClampNeg) < 0 ∨ 8 ≤ (N 32 0 r.toNatClampNeg).toNatClampNeg)) ((if (N 34 0 r.toNatClampNeg) < (N 29 0 (N 32 0 r.toNatClampNeg).toNatClampNeg) then lgN N r p else ob1 (f_yX9_ends N r 0 0) (fun N39 => lgN N39 r p))) else lgN N r p)
def fin (N : Mem) (r p : Int32) : Option (Int32 × Mem) := (if (N 20 0 7) ≤ 0 then fin1 N r p else ob1 (f_yX9_fails N r) (fun N48 => fin1 N48 r p))
def GT (N0 : Mem) (r4 : Int32) : Option (Int32 × Mem) := lt1 (mp N0 20 0 5 r4) (fun N6 => gd (¬ (r4 < 0 ∨ 6 ≤ r4.toNatClampNeg)) (lt1 (mp N6 20 0 7 0) (fun N8 => lt1 (mp N8 20 0 8 0) (fun N9 => (if (N9 36 0 r4.toNatClampNeg) = 0 then gd (¬ ((N9 32 0 r4.toNatClampNeg) < 0 ∨ 8 ≤ (N9 32 0 r4.toNatClampNeg).toNatClampNeg)) ((if (N6 34 0 r4.toNatClampNeg) < (N9 29 0 (N9 32 0 r4.toNatClampNeg).toNatClampNeg) then lt1 (mp N9 34 0 r4.toNatClampNeg ((N9 34 0 r4.toNatClampNeg) + 1)) (fun N13 => lt1 (mp N13 43 0 r4.toNatClampNeg ((N13 43 0 r4.toNatClampNeg) + 1)) (fun N14 => lt1 (mp N14 20 0 11 ((N14 20 0 11) + 1)) (fun N15 => ob1 (f_yX9_does N15 r4 (4 * ((40 * (N15 32 0 r4.toNatClampNeg)) + (N6 34 0 r4.toNatClampNeg)))) (fun N17 => (if (N17 20 0 7) ≤ 0 then lt1 (mp N17 34 0 r4.toNatClampNeg (N17 34 0 r4.toNatClampNeg)) (fun N19 => fin N19 r4 (N6 34 0 r4.toNatClampNeg)) else lt1 (mp N17 34 0 r4.toNatClampNeg (N6 34 0 r4.toNatClampNeg)) (fun N75 => fin N75 r4 (N6 34 0 r4.toNatClampNeg))))))) else ob1 (f_yX9_ends N9 r4 0 0) (fun N132 => fin N132 r4 (N6 34 0 r4.toNatClampNeg)))) else lt1 (mp N9 36 0 r4.toNatClampNeg 0) (fun N188 => lt1 (mp N188 20 0 7 9) (fun N189 => fin N189 r4 (N6 34 0 r4.toNatClampNeg))))))))
theorem goes_tail (N : Mem) : f_yX9_goes_L12 1 N 6 = ob1 (f_yX9_chosen N) (fun r4 => (if r4 = (-4) then (some ((-5), N)) else GT N r4)) := by
  rw [f_yX9_goes_L12, if_pos (by decide)]
  rfl
end TUR
