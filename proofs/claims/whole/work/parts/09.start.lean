/-! the start -/
abbrev LX (E : Lay) (b : Nat) : List va_E := [.inr (8, [.ref (b + 1), .ref (b + 3), .ref (b + 41), .ref (b + 42), .ref (b + 45), .int 0, .int 5]), .inr (4, [.ref (b + 2), .int 0, .int (-4)]), eR E 4 32 (fun _ => none), .inr (1, [.ref (b + 1), .ref (b + 4), .int 0, .int 0, .int 0]), eR E 3 6 (va_up (va_up (va_up (va_up (va_up (va_up (fun _ => none) 0 (some (b + 5))) 1 (some (b + 11))) 2 (some (b + 17))) 3 (some (b + 23))) 4 (some (b + 29))) 5 (some (b + 35))), .inr (5, [.int 0, .ref (b + 6), .ref (b + 7), .ref (b + 8), .int 0, .null, .int 0, .int 0, .int 0, .int 0, .int 0, .int 0, .int 0, .int 0, .int 0, .int (-4), .int (-4), .int 0, .int 0, .int 0]), eI E 6, eF E 6 (flw (fun _ => 0) 6 (-4)), .inr (2, [.ref (b + 9), .ref (b + 10), .int 0]), eI E 8, eI E 8, .inr (5, [.int 1, .ref (b + 12), .ref (b + 13), .ref (b + 14), .int 0, .null, .int 0, .int 0, .int 0, .int 0, .int 0, .int 0, .int 0, .int 0, .int 0, .int (-4), .int (-4), .int 0, .int 0, .int 0]), eI E 6, eF E 6 (flw (fun _ => 0) 6 (-4)), .inr (2, [.ref (b + 15), .ref (b + 16), .int 0]), eI E 8, eI E 8, .inr (5, [.int 2, .ref (b + 18), .ref (b + 19), .ref (b + 20), .int 0, .null, .int 0, .int 0, .int 0, .int 0, .int 0, .int 0, .int 0, .int 0, .int 0, .int (-4), .int (-4), .int 0, .int 0, .int 0]), eI E 6, eF E 6 (flw (fun _ => 0) 6 (-4)), .inr (2, [.ref (b + 21), .ref (b + 22), .int 0]), eI E 8, eI E 8, .inr (5, [.int 3, .ref (b + 24), .ref (b + 25), .ref (b + 26), .int 0, .null, .int 0, .int 0, .int 0, .int 0, .int 0, .int 0, .int 0, .int 0, .int 0, .int (-4), .int (-4), .int 0, .int 0, .int 0]), eI E 6, eF E 6 (flw (fun _ => 0) 6 (-4)), .inr (2, [.ref (b + 27), .ref (b + 28), .int 0]), eI E 8, eI E 8, .inr (5, [.int 4, .ref (b + 30), .ref (b + 31), .ref (b + 32), .int 0, .null, .int 0, .int 0, .int 0, .int 0, .int 0, .int 0, .int 0, .int 0, .int 0, .int (-4), .int (-4), .int 0, .int 0, .int 0]), eI E 6, eF E 6 (flw (fun _ => 0) 6 (-4)), .inr (2, [.ref (b + 33), .ref (b + 34), .int 0]), eI E 8, eI E 8, .inr (5, [.int 5, .ref (b + 36), .ref (b + 37), .ref (b + 38), .int 0, .null, .int 0, .int 0, .int 0, .int 0, .int 0, .int 0, .int 0, .int 0, .int 0, .int (-4), .int (-4), .int 0, .int 0, .int 0]), eI E 6, eF E 6 (flw (fun _ => 0) 6 (-4)), .inr (2, [.ref (b + 39), .ref (b + 40), .int 0]), eI E 8, eI E 8, .inr (0, [.ref (b + 1), .ref (b + 3), .int 0]), .inr (6, [.ref (b + 43), .ref (b + 44), .int 0, .int 0, .int 0]), eI E 12, eI E 180, eR E 2 8 (va_up (va_up (va_up (va_up (va_up (va_up (va_up (va_up (fun _ => none) 0 (some (b + 46))) 1 (some (b + 48))) 2 (some (b + 50))) 3 (some (b + 52))) 4 (some (b + 54))) 5 (some (b + 56))) 6 (some (b + 58))) 7 (some (b + 60))), .inr (3, [.ref (b + 47), .int 0]), eI E 160, .inr (3, [.ref (b + 49), .int 0]), eI E 160, .inr (3, [.ref (b + 51), .int 0]), eI E 160, .inr (3, [.ref (b + 53), .int 0]), eI E 160, .inr (3, [.ref (b + 55), .int 0]), eI E 160, .inr (3, [.ref (b + 57), .int 0]), eI E 160, .inr (3, [.ref (b + 59), .int 0]), eI E 160, .inr (3, [.ref (b + 61), .int 0]), eI E 160]
abbrev LY (E : Lay) (b : Nat) : List va_E := [.inr (9, [.int 0, .ref (b + 1), .ref (b + 2), .ref (b + 3), .ref (b + 4), .ref (b + 5), .ref (b + 6), .ref (b + 7), .int 0, .ref (b + 8), .ref (b + 9), .ref (b + 10), .ref (b + 11), .ref (b + 12), .ref (b + 13), .ref (b + 14), .ref (b + 15), .ref (b + 16), .ref (b + 17), .ref (b + 18), .ref (b + 19), .ref (b + 20), .ref (b + 21), .ref (b + 22), .ref (b + 23), .ref (b + 24), .ref (b + 25), .ref (b + 26), .ref (b + 27), .ref (b + 28), .ref (b + 29), .ref (b + 30), .int 0, .int 0, .int 0, .int 5, .int 0, .int 0, .int 0, .ref (b + 31), .int 0, .int 0, .int 0, .int 0, .ref (b + 32)]), eI E 32, eI E 32, eI E 32, eI E 384, eI E 32, eI E 32, eI E 40, eI E 1280, eI E 8, eF E 37 (upd (upd (upd (upd (upd (upd (upd (upd (upd (upd (upd (upd (upd (upd (upd (upd (upd (upd (upd (upd (upd (upd (upd (upd (upd (upd (upd (upd (upd (upd (upd (upd (upd (upd (upd (upd (upd (fun _ => 0) 0 100) 1 110) 2 110) 3 110) 4 110) 5 111) 6 200) 7 210) 8 110) 9 131) 10 111) 11 110) 12 110) 13 110) 14 110) 15 110) 16 110) 17 111) 18 111) 19 111) 20 111) 21 111) 22 100) 23 100) 24 110) 25 100) 26 100) 27 100) 28 100) 29 100) 30 100) 31 100) 32 100) 33 240) 34 0) 35 110) 36 0), eI E 6, eI E 6, eI E 6, eI E 6, eZ E 6, eZ E 6, eI E 6, eI E 6, eI E 6, eI E 6, eI E 6, eI E 6, eI E 6, eI E 6, eI E 6, eI E 6, eI E 48, eI E 48, eI E 36, eI E 36, eI E 12, eI E 180]
def of0 (c i : Nat) : Nat := match c with
  | 0 => 0
  | 1 => 1
  | 2 => 3
  | 3 => 41
  | 4 => 42
  | 5 => 46 + 2 * i
  | 6 => 5 + 6 * i
  | 7 => 8 + 6 * i
  | 8 => 0
  | 9 => 2
  | 10 => 4
  | 11 => 45
  | 12 => 43
  | 13 => 44
  | 14 => 47 + 2 * i
  | 15 => 6 + 6 * i
  | 16 => 7 + 6 * i
  | 17 => 9 + 6 * i
  | 18 => 10 + 6 * i
  | 19 => 0
  | 20 => 62
  | c => 63 + (c - 21)
def iv0 (k : Nat) : Nat × Nat := match k with
  | 0 => (0, 0)
  | 1 => (1, 0)
  | 2 => (9, 0)
  | 3 => (2, 0)
  | 4 => (10, 0)
  | 5 => (6, 0)
  | 6 => (15, 0)
  | 7 => (16, 0)
  | 8 => (7, 0)
  | 9 => (17, 0)
  | 10 => (18, 0)
  | 11 => (6, 1)
  | 12 => (15, 1)
  | 13 => (16, 1)
  | 14 => (7, 1)
  | 15 => (17, 1)
  | 16 => (18, 1)
  | 17 => (6, 2)
  | 18 => (15, 2)
  | 19 => (16, 2)
  | 20 => (7, 2)
  | 21 => (17, 2)
  | 22 => (18, 2)
  | 23 => (6, 3)
  | 24 => (15, 3)
  | 25 => (16, 3)
  | 26 => (7, 3)
  | 27 => (17, 3)
  | 28 => (18, 3)
  | 29 => (6, 4)
  | 30 => (15, 4)
  | 31 => (16, 4)
  | 32 => (7, 4)
  | 33 => (17, 4)
  | 34 => (18, 4)
  | 35 => (6, 5)
  | 36 => (15, 5)
  | 37 => (16, 5)
  | 38 => (7, 5)
  | 39 => (17, 5)
  | 40 => (18, 5)
  | 41 => (3, 0)
  | 42 => (4, 0)
  | 43 => (12, 0)
  | 44 => (13, 0)
  | 45 => (11, 0)
  | 46 => (5, 0)
  | 47 => (14, 0)
  | 48 => (5, 1)
  | 49 => (14, 1)
  | 50 => (5, 2)
  | 51 => (14, 2)
  | 52 => (5, 3)
  | 53 => (14, 3)
  | 54 => (5, 4)
  | 55 => (14, 4)
  | 56 => (5, 5)
  | 57 => (14, 5)
  | 58 => (5, 6)
  | 59 => (14, 6)
  | 60 => (5, 7)
  | 61 => (14, 7)
  | 62 => (20, 0)
  | 63 => (21, 0)
  | 64 => (22, 0)
  | 65 => (23, 0)
  | 66 => (24, 0)
  | 67 => (25, 0)
  | 68 => (26, 0)
  | 69 => (27, 0)
  | 70 => (28, 0)
  | 71 => (29, 0)
  | 72 => (30, 0)
  | 73 => (31, 0)
  | 74 => (32, 0)
  | 75 => (33, 0)
  | 76 => (34, 0)
  | 77 => (35, 0)
  | 78 => (36, 0)
  | 79 => (37, 0)
  | 80 => (38, 0)
  | 81 => (39, 0)
  | 82 => (40, 0)
  | 83 => (41, 0)
  | 84 => (42, 0)
  | 85 => (43, 0)
  | 86 => (44, 0)
  | 87 => (45, 0)
  | 88 => (46, 0)
  | 89 => (47, 0)
  | 90 => (48, 0)
  | 91 => (49, 0)
  | 92 => (50, 0)
  | 93 => (51, 0)
  | 94 => (52, 0)
  | _ => (99, 0)
def ad0 (b c i : Nat) : Nat := b + of0 c i
def M0 : Mem := fun c i k => match c with
  | 0 => if k = 1 then 5 else 0
  | 1 => if k = 1 then -4 else 0
  | 6 => if k = 1 then -1 else if k = 11 then -4 else if k = 12 then -4 else 0
  | 16 => flw (fun _ => 0) 6 (-4) k
  | _ => 0
def N0 : Mem := fun c i k => match c with
  | 20 => if k = 5 then 5 else 0
  | 30 => (upd (upd (upd (upd (upd (upd (upd (upd (upd (upd (upd (upd (upd (upd (upd (upd (upd (upd (upd (upd (upd (upd (upd (upd (upd (upd (upd (upd (upd (upd (upd (upd (upd (upd (upd (upd (upd (fun _ => 0) 0 100) 1 110) 2 110) 3 110) 4 110) 5 111) 6 200) 7 210) 8 110) 9 131) 10 111) 11 110) 12 110) 13 110) 14 110) 15 110) 16 110) 17 111) 18 111) 19 111) 20 111) 21 111) 22 100) 23 100) 24 110) 25 100) 26 100) 27 100) 28 100) 29 100) 30 100) 31 100) 32 100) 33 240) 34 0) 35 110) 36 0) k
  | _ => 0
def ct0 (c : Nat) : Nat := match c with
  | 5 => 8
  | 14 => 8
  | 6 => 6
  | 7 => 6
  | 15 => 6
  | 16 => 6
  | 17 => 6
  | 18 => 6
  | 8 => 0
  | 19 => 0
  | c => if c < 53 then 1 else 0
theorem cnt_M0 (c : Nat) : cnt M0 c = ct0 c := by
  unfold cnt ct0
  split <;> first | rfl | simp_all
theorem iv_of : ∀ c, c < 53 → ∀ i, i < 8 → i < ct0 c → iv0 (of0 c i) = (c, i) := by decide +kernel
theorem ct0_8 {c i : Nat} (h : i < ct0 c) : i < 8 ∧ c < 53 := by
  have h1 : c < 53 := by
    have h2 : i < cnt M0 c := by rw [cnt_M0]; exact h
    exact cnt_lt h2
  refine ⟨?_, h1⟩
  unfold ct0 at h
  split at h <;> first | omega | (rw [if_pos h1] at h; omega)
theorem arQ {cA : ClassId} {n : Nat} {f g : Nat → Option Nat} (h : ∀ j, j < n → f j = g j) : vp_cell cA (n, .inr (.inr (.inr (.inr f)))) = vp_cell cA (n, .inr (.inr (.inr (.inr g)))) := by
  rw [vp_cell_q, vp_cell_q]
  unfold arrV
  congr 2
  funext j
  show va_rf (f j.val) = va_rf (g j.val)
  rw [h j.val j.isLt]
theorem st_0_0 {E : Lay} {b : Nat} {H : Heap} (hC : CS E b (LX E b ++ LY E (b + 62)) H) : va_at E.1 vwCl (ad0 b 0 0, ob E.2.1 (ad0 b) (M0, N0) 0 0) H := hC.2 0 _ rfl
theorem st_1_0 {E : Lay} {b : Nat} {H : Heap} (hC : CS E b (LX E b ++ LY E (b + 62)) H) : va_at E.1 vwCl (ad0 b 1 0, ob E.2.1 (ad0 b) (M0, N0) 1 0) H := hC.2 1 _ rfl
theorem st_2_0 {E : Lay} {b : Nat} {H : Heap} (hC : CS E b (LX E b ++ LY E (b + 62)) H) : va_at E.1 vwCl (ad0 b 2 0, ob E.2.1 (ad0 b) (M0, N0) 2 0) H := hC.2 3 _ rfl
theorem st_3_0 {E : Lay} {b : Nat} {H : Heap} (hC : CS E b (LX E b ++ LY E (b + 62)) H) : va_at E.1 vwCl (ad0 b 3 0, ob E.2.1 (ad0 b) (M0, N0) 3 0) H := hC.2 41 _ rfl
theorem st_4_0 {E : Lay} {b : Nat} {H : Heap} (hC : CS E b (LX E b ++ LY E (b + 62)) H) : va_at E.1 vwCl (ad0 b 4 0, ob E.2.1 (ad0 b) (M0, N0) 4 0) H := hC.2 42 _ rfl
theorem st_5_0 {E : Lay} {b : Nat} {H : Heap} (hC : CS E b (LX E b ++ LY E (b + 62)) H) : va_at E.1 vwCl (ad0 b 5 0, ob E.2.1 (ad0 b) (M0, N0) 5 0) H := hC.2 46 _ rfl
theorem st_5_1 {E : Lay} {b : Nat} {H : Heap} (hC : CS E b (LX E b ++ LY E (b + 62)) H) : va_at E.1 vwCl (ad0 b 5 1, ob E.2.1 (ad0 b) (M0, N0) 5 1) H := hC.2 48 _ rfl
theorem st_5_2 {E : Lay} {b : Nat} {H : Heap} (hC : CS E b (LX E b ++ LY E (b + 62)) H) : va_at E.1 vwCl (ad0 b 5 2, ob E.2.1 (ad0 b) (M0, N0) 5 2) H := hC.2 50 _ rfl
theorem st_5_3 {E : Lay} {b : Nat} {H : Heap} (hC : CS E b (LX E b ++ LY E (b + 62)) H) : va_at E.1 vwCl (ad0 b 5 3, ob E.2.1 (ad0 b) (M0, N0) 5 3) H := hC.2 52 _ rfl
theorem st_5_4 {E : Lay} {b : Nat} {H : Heap} (hC : CS E b (LX E b ++ LY E (b + 62)) H) : va_at E.1 vwCl (ad0 b 5 4, ob E.2.1 (ad0 b) (M0, N0) 5 4) H := hC.2 54 _ rfl
theorem st_5_5 {E : Lay} {b : Nat} {H : Heap} (hC : CS E b (LX E b ++ LY E (b + 62)) H) : va_at E.1 vwCl (ad0 b 5 5, ob E.2.1 (ad0 b) (M0, N0) 5 5) H := hC.2 56 _ rfl
theorem st_5_6 {E : Lay} {b : Nat} {H : Heap} (hC : CS E b (LX E b ++ LY E (b + 62)) H) : va_at E.1 vwCl (ad0 b 5 6, ob E.2.1 (ad0 b) (M0, N0) 5 6) H := hC.2 58 _ rfl
theorem st_5_7 {E : Lay} {b : Nat} {H : Heap} (hC : CS E b (LX E b ++ LY E (b + 62)) H) : va_at E.1 vwCl (ad0 b 5 7, ob E.2.1 (ad0 b) (M0, N0) 5 7) H := hC.2 60 _ rfl
theorem st_6_0 {E : Lay} {b : Nat} {H : Heap} (hC : CS E b (LX E b ++ LY E (b + 62)) H) : va_at E.1 vwCl (ad0 b 6 0, ob E.2.1 (ad0 b) (M0, N0) 6 0) H := hC.2 5 _ rfl
theorem st_6_1 {E : Lay} {b : Nat} {H : Heap} (hC : CS E b (LX E b ++ LY E (b + 62)) H) : va_at E.1 vwCl (ad0 b 6 1, ob E.2.1 (ad0 b) (M0, N0) 6 1) H := hC.2 11 _ rfl
theorem st_6_2 {E : Lay} {b : Nat} {H : Heap} (hC : CS E b (LX E b ++ LY E (b + 62)) H) : va_at E.1 vwCl (ad0 b 6 2, ob E.2.1 (ad0 b) (M0, N0) 6 2) H := hC.2 17 _ rfl
theorem st_6_3 {E : Lay} {b : Nat} {H : Heap} (hC : CS E b (LX E b ++ LY E (b + 62)) H) : va_at E.1 vwCl (ad0 b 6 3, ob E.2.1 (ad0 b) (M0, N0) 6 3) H := hC.2 23 _ rfl
theorem st_6_4 {E : Lay} {b : Nat} {H : Heap} (hC : CS E b (LX E b ++ LY E (b + 62)) H) : va_at E.1 vwCl (ad0 b 6 4, ob E.2.1 (ad0 b) (M0, N0) 6 4) H := hC.2 29 _ rfl
theorem st_6_5 {E : Lay} {b : Nat} {H : Heap} (hC : CS E b (LX E b ++ LY E (b + 62)) H) : va_at E.1 vwCl (ad0 b 6 5, ob E.2.1 (ad0 b) (M0, N0) 6 5) H := hC.2 35 _ rfl
theorem st_7_0 {E : Lay} {b : Nat} {H : Heap} (hC : CS E b (LX E b ++ LY E (b + 62)) H) : va_at E.1 vwCl (ad0 b 7 0, ob E.2.1 (ad0 b) (M0, N0) 7 0) H := hC.2 8 _ rfl
theorem st_7_1 {E : Lay} {b : Nat} {H : Heap} (hC : CS E b (LX E b ++ LY E (b + 62)) H) : va_at E.1 vwCl (ad0 b 7 1, ob E.2.1 (ad0 b) (M0, N0) 7 1) H := hC.2 14 _ rfl
theorem st_7_2 {E : Lay} {b : Nat} {H : Heap} (hC : CS E b (LX E b ++ LY E (b + 62)) H) : va_at E.1 vwCl (ad0 b 7 2, ob E.2.1 (ad0 b) (M0, N0) 7 2) H := hC.2 20 _ rfl
theorem st_7_3 {E : Lay} {b : Nat} {H : Heap} (hC : CS E b (LX E b ++ LY E (b + 62)) H) : va_at E.1 vwCl (ad0 b 7 3, ob E.2.1 (ad0 b) (M0, N0) 7 3) H := hC.2 26 _ rfl
theorem st_7_4 {E : Lay} {b : Nat} {H : Heap} (hC : CS E b (LX E b ++ LY E (b + 62)) H) : va_at E.1 vwCl (ad0 b 7 4, ob E.2.1 (ad0 b) (M0, N0) 7 4) H := hC.2 32 _ rfl
theorem st_7_5 {E : Lay} {b : Nat} {H : Heap} (hC : CS E b (LX E b ++ LY E (b + 62)) H) : va_at E.1 vwCl (ad0 b 7 5, ob E.2.1 (ad0 b) (M0, N0) 7 5) H := hC.2 38 _ rfl
theorem st_9_0 {E : Lay} {b : Nat} {H : Heap} (hC : CS E b (LX E b ++ LY E (b + 62)) H) : va_at E.1 vwCl (ad0 b 9 0, ob E.2.1 (ad0 b) (M0, N0) 9 0) H := by
  have h := hC.2 2 _ rfl
  refine Eq.trans h ?_
  refine congrArg some (arQ (fun j hj => ?_))
  show none = if j < (M0 60 0 0).toNatClampNeg then some (ad0 b 8 j) else none
  rw [if_neg (by show ¬ j < ((0 : Int32)).toNatClampNeg; rw [sb_cl0]; omega)]
theorem st_10_0 {E : Lay} {b : Nat} {H : Heap} (hC : CS E b (LX E b ++ LY E (b + 62)) H) : va_at E.1 vwCl (ad0 b 10 0, ob E.2.1 (ad0 b) (M0, N0) 10 0) H := by
  have h := hC.2 4 _ rfl
  refine Eq.trans h ?_
  refine congrArg some (arQ (fun j hj => ?_))
  rcases (show j = 0 ∨ j = 1 ∨ j = 2 ∨ j = 3 ∨ j = 4 ∨ j = 5 by omega) with rfl | rfl | rfl | rfl | rfl | rfl <;> rfl
theorem st_11_0 {E : Lay} {b : Nat} {H : Heap} (hC : CS E b (LX E b ++ LY E (b + 62)) H) : va_at E.1 vwCl (ad0 b 11 0, ob E.2.1 (ad0 b) (M0, N0) 11 0) H := by
  have h := hC.2 45 _ rfl
  refine Eq.trans h ?_
  refine congrArg some (arQ (fun j hj => ?_))
  rcases (show j = 0 ∨ j = 1 ∨ j = 2 ∨ j = 3 ∨ j = 4 ∨ j = 5 ∨ j = 6 ∨ j = 7 by omega) with rfl | rfl | rfl | rfl | rfl | rfl | rfl | rfl <;> rfl
theorem st_12_0 {E : Lay} {b : Nat} {H : Heap} (hC : CS E b (LX E b ++ LY E (b + 62)) H) : va_at E.1 vwCl (ad0 b 12 0, ob E.2.1 (ad0 b) (M0, N0) 12 0) H := hC.2 43 _ rfl
theorem st_13_0 {E : Lay} {b : Nat} {H : Heap} (hC : CS E b (LX E b ++ LY E (b + 62)) H) : va_at E.1 vwCl (ad0 b 13 0, ob E.2.1 (ad0 b) (M0, N0) 13 0) H := hC.2 44 _ rfl
theorem st_14_0 {E : Lay} {b : Nat} {H : Heap} (hC : CS E b (LX E b ++ LY E (b + 62)) H) : va_at E.1 vwCl (ad0 b 14 0, ob E.2.1 (ad0 b) (M0, N0) 14 0) H := hC.2 47 _ rfl
theorem st_14_1 {E : Lay} {b : Nat} {H : Heap} (hC : CS E b (LX E b ++ LY E (b + 62)) H) : va_at E.1 vwCl (ad0 b 14 1, ob E.2.1 (ad0 b) (M0, N0) 14 1) H := hC.2 49 _ rfl
theorem st_14_2 {E : Lay} {b : Nat} {H : Heap} (hC : CS E b (LX E b ++ LY E (b + 62)) H) : va_at E.1 vwCl (ad0 b 14 2, ob E.2.1 (ad0 b) (M0, N0) 14 2) H := hC.2 51 _ rfl
theorem st_14_3 {E : Lay} {b : Nat} {H : Heap} (hC : CS E b (LX E b ++ LY E (b + 62)) H) : va_at E.1 vwCl (ad0 b 14 3, ob E.2.1 (ad0 b) (M0, N0) 14 3) H := hC.2 53 _ rfl
theorem st_14_4 {E : Lay} {b : Nat} {H : Heap} (hC : CS E b (LX E b ++ LY E (b + 62)) H) : va_at E.1 vwCl (ad0 b 14 4, ob E.2.1 (ad0 b) (M0, N0) 14 4) H := hC.2 55 _ rfl
theorem st_14_5 {E : Lay} {b : Nat} {H : Heap} (hC : CS E b (LX E b ++ LY E (b + 62)) H) : va_at E.1 vwCl (ad0 b 14 5, ob E.2.1 (ad0 b) (M0, N0) 14 5) H := hC.2 57 _ rfl
theorem st_14_6 {E : Lay} {b : Nat} {H : Heap} (hC : CS E b (LX E b ++ LY E (b + 62)) H) : va_at E.1 vwCl (ad0 b 14 6, ob E.2.1 (ad0 b) (M0, N0) 14 6) H := hC.2 59 _ rfl
theorem st_14_7 {E : Lay} {b : Nat} {H : Heap} (hC : CS E b (LX E b ++ LY E (b + 62)) H) : va_at E.1 vwCl (ad0 b 14 7, ob E.2.1 (ad0 b) (M0, N0) 14 7) H := hC.2 61 _ rfl
theorem st_15_0 {E : Lay} {b : Nat} {H : Heap} (hC : CS E b (LX E b ++ LY E (b + 62)) H) : va_at E.1 vwCl (ad0 b 15 0, ob E.2.1 (ad0 b) (M0, N0) 15 0) H := hC.2 6 _ rfl
theorem st_15_1 {E : Lay} {b : Nat} {H : Heap} (hC : CS E b (LX E b ++ LY E (b + 62)) H) : va_at E.1 vwCl (ad0 b 15 1, ob E.2.1 (ad0 b) (M0, N0) 15 1) H := hC.2 12 _ rfl
theorem st_15_2 {E : Lay} {b : Nat} {H : Heap} (hC : CS E b (LX E b ++ LY E (b + 62)) H) : va_at E.1 vwCl (ad0 b 15 2, ob E.2.1 (ad0 b) (M0, N0) 15 2) H := hC.2 18 _ rfl
theorem st_15_3 {E : Lay} {b : Nat} {H : Heap} (hC : CS E b (LX E b ++ LY E (b + 62)) H) : va_at E.1 vwCl (ad0 b 15 3, ob E.2.1 (ad0 b) (M0, N0) 15 3) H := hC.2 24 _ rfl
theorem st_15_4 {E : Lay} {b : Nat} {H : Heap} (hC : CS E b (LX E b ++ LY E (b + 62)) H) : va_at E.1 vwCl (ad0 b 15 4, ob E.2.1 (ad0 b) (M0, N0) 15 4) H := hC.2 30 _ rfl
theorem st_15_5 {E : Lay} {b : Nat} {H : Heap} (hC : CS E b (LX E b ++ LY E (b + 62)) H) : va_at E.1 vwCl (ad0 b 15 5, ob E.2.1 (ad0 b) (M0, N0) 15 5) H := hC.2 36 _ rfl
theorem st_16_0 {E : Lay} {b : Nat} {H : Heap} (hC : CS E b (LX E b ++ LY E (b + 62)) H) : va_at E.1 vwCl (ad0 b 16 0, ob E.2.1 (ad0 b) (M0, N0) 16 0) H := hC.2 7 _ rfl
theorem st_16_1 {E : Lay} {b : Nat} {H : Heap} (hC : CS E b (LX E b ++ LY E (b + 62)) H) : va_at E.1 vwCl (ad0 b 16 1, ob E.2.1 (ad0 b) (M0, N0) 16 1) H := hC.2 13 _ rfl
theorem st_16_2 {E : Lay} {b : Nat} {H : Heap} (hC : CS E b (LX E b ++ LY E (b + 62)) H) : va_at E.1 vwCl (ad0 b 16 2, ob E.2.1 (ad0 b) (M0, N0) 16 2) H := hC.2 19 _ rfl
theorem st_16_3 {E : Lay} {b : Nat} {H : Heap} (hC : CS E b (LX E b ++ LY E (b + 62)) H) : va_at E.1 vwCl (ad0 b 16 3, ob E.2.1 (ad0 b) (M0, N0) 16 3) H := hC.2 25 _ rfl
theorem st_16_4 {E : Lay} {b : Nat} {H : Heap} (hC : CS E b (LX E b ++ LY E (b + 62)) H) : va_at E.1 vwCl (ad0 b 16 4, ob E.2.1 (ad0 b) (M0, N0) 16 4) H := hC.2 31 _ rfl
theorem st_16_5 {E : Lay} {b : Nat} {H : Heap} (hC : CS E b (LX E b ++ LY E (b + 62)) H) : va_at E.1 vwCl (ad0 b 16 5, ob E.2.1 (ad0 b) (M0, N0) 16 5) H := hC.2 37 _ rfl
theorem st_17_0 {E : Lay} {b : Nat} {H : Heap} (hC : CS E b (LX E b ++ LY E (b + 62)) H) : va_at E.1 vwCl (ad0 b 17 0, ob E.2.1 (ad0 b) (M0, N0) 17 0) H := hC.2 9 _ rfl
theorem st_17_1 {E : Lay} {b : Nat} {H : Heap} (hC : CS E b (LX E b ++ LY E (b + 62)) H) : va_at E.1 vwCl (ad0 b 17 1, ob E.2.1 (ad0 b) (M0, N0) 17 1) H := hC.2 15 _ rfl
theorem st_17_2 {E : Lay} {b : Nat} {H : Heap} (hC : CS E b (LX E b ++ LY E (b + 62)) H) : va_at E.1 vwCl (ad0 b 17 2, ob E.2.1 (ad0 b) (M0, N0) 17 2) H := hC.2 21 _ rfl
theorem st_17_3 {E : Lay} {b : Nat} {H : Heap} (hC : CS E b (LX E b ++ LY E (b + 62)) H) : va_at E.1 vwCl (ad0 b 17 3, ob E.2.1 (ad0 b) (M0, N0) 17 3) H := hC.2 27 _ rfl
theorem st_17_4 {E : Lay} {b : Nat} {H : Heap} (hC : CS E b (LX E b ++ LY E (b + 62)) H) : va_at E.1 vwCl (ad0 b 17 4, ob E.2.1 (ad0 b) (M0, N0) 17 4) H := hC.2 33 _ rfl
theorem st_17_5 {E : Lay} {b : Nat} {H : Heap} (hC : CS E b (LX E b ++ LY E (b + 62)) H) : va_at E.1 vwCl (ad0 b 17 5, ob E.2.1 (ad0 b) (M0, N0) 17 5) H := hC.2 39 _ rfl
theorem st_18_0 {E : Lay} {b : Nat} {H : Heap} (hC : CS E b (LX E b ++ LY E (b + 62)) H) : va_at E.1 vwCl (ad0 b 18 0, ob E.2.1 (ad0 b) (M0, N0) 18 0) H := hC.2 10 _ rfl
theorem st_18_1 {E : Lay} {b : Nat} {H : Heap} (hC : CS E b (LX E b ++ LY E (b + 62)) H) : va_at E.1 vwCl (ad0 b 18 1, ob E.2.1 (ad0 b) (M0, N0) 18 1) H := hC.2 16 _ rfl
theorem st_18_2 {E : Lay} {b : Nat} {H : Heap} (hC : CS E b (LX E b ++ LY E (b + 62)) H) : va_at E.1 vwCl (ad0 b 18 2, ob E.2.1 (ad0 b) (M0, N0) 18 2) H := hC.2 22 _ rfl
theorem st_18_3 {E : Lay} {b : Nat} {H : Heap} (hC : CS E b (LX E b ++ LY E (b + 62)) H) : va_at E.1 vwCl (ad0 b 18 3, ob E.2.1 (ad0 b) (M0, N0) 18 3) H := hC.2 28 _ rfl
theorem st_18_4 {E : Lay} {b : Nat} {H : Heap} (hC : CS E b (LX E b ++ LY E (b + 62)) H) : va_at E.1 vwCl (ad0 b 18 4, ob E.2.1 (ad0 b) (M0, N0) 18 4) H := hC.2 34 _ rfl
theorem st_18_5 {E : Lay} {b : Nat} {H : Heap} (hC : CS E b (LX E b ++ LY E (b + 62)) H) : va_at E.1 vwCl (ad0 b 18 5, ob E.2.1 (ad0 b) (M0, N0) 18 5) H := hC.2 40 _ rfl
theorem st_20_0 {E : Lay} {b : Nat} {H : Heap} (hC : CS E b (LX E b ++ LY E (b + 62)) H) : va_at E.1 vwCl (ad0 b 20 0, ob E.2.1 (ad0 b) (M0, N0) 20 0) H := hC.2 62 _ rfl
theorem st_21_0 {E : Lay} {b : Nat} {H : Heap} (hC : CS E b (LX E b ++ LY E (b + 62)) H) : va_at E.1 vwCl (ad0 b 21 0, ob E.2.1 (ad0 b) (M0, N0) 21 0) H := hC.2 63 _ rfl
theorem st_22_0 {E : Lay} {b : Nat} {H : Heap} (hC : CS E b (LX E b ++ LY E (b + 62)) H) : va_at E.1 vwCl (ad0 b 22 0, ob E.2.1 (ad0 b) (M0, N0) 22 0) H := hC.2 64 _ rfl
theorem st_23_0 {E : Lay} {b : Nat} {H : Heap} (hC : CS E b (LX E b ++ LY E (b + 62)) H) : va_at E.1 vwCl (ad0 b 23 0, ob E.2.1 (ad0 b) (M0, N0) 23 0) H := hC.2 65 _ rfl
theorem st_24_0 {E : Lay} {b : Nat} {H : Heap} (hC : CS E b (LX E b ++ LY E (b + 62)) H) : va_at E.1 vwCl (ad0 b 24 0, ob E.2.1 (ad0 b) (M0, N0) 24 0) H := hC.2 66 _ rfl
theorem st_25_0 {E : Lay} {b : Nat} {H : Heap} (hC : CS E b (LX E b ++ LY E (b + 62)) H) : va_at E.1 vwCl (ad0 b 25 0, ob E.2.1 (ad0 b) (M0, N0) 25 0) H := hC.2 67 _ rfl
theorem st_26_0 {E : Lay} {b : Nat} {H : Heap} (hC : CS E b (LX E b ++ LY E (b + 62)) H) : va_at E.1 vwCl (ad0 b 26 0, ob E.2.1 (ad0 b) (M0, N0) 26 0) H := hC.2 68 _ rfl
theorem st_27_0 {E : Lay} {b : Nat} {H : Heap} (hC : CS E b (LX E b ++ LY E (b + 62)) H) : va_at E.1 vwCl (ad0 b 27 0, ob E.2.1 (ad0 b) (M0, N0) 27 0) H := hC.2 69 _ rfl
theorem st_28_0 {E : Lay} {b : Nat} {H : Heap} (hC : CS E b (LX E b ++ LY E (b + 62)) H) : va_at E.1 vwCl (ad0 b 28 0, ob E.2.1 (ad0 b) (M0, N0) 28 0) H := hC.2 70 _ rfl
theorem st_29_0 {E : Lay} {b : Nat} {H : Heap} (hC : CS E b (LX E b ++ LY E (b + 62)) H) : va_at E.1 vwCl (ad0 b 29 0, ob E.2.1 (ad0 b) (M0, N0) 29 0) H := hC.2 71 _ rfl
theorem st_30_0 {E : Lay} {b : Nat} {H : Heap} (hC : CS E b (LX E b ++ LY E (b + 62)) H) : va_at E.1 vwCl (ad0 b 30 0, ob E.2.1 (ad0 b) (M0, N0) 30 0) H := hC.2 72 _ rfl
theorem st_31_0 {E : Lay} {b : Nat} {H : Heap} (hC : CS E b (LX E b ++ LY E (b + 62)) H) : va_at E.1 vwCl (ad0 b 31 0, ob E.2.1 (ad0 b) (M0, N0) 31 0) H := hC.2 73 _ rfl
theorem st_32_0 {E : Lay} {b : Nat} {H : Heap} (hC : CS E b (LX E b ++ LY E (b + 62)) H) : va_at E.1 vwCl (ad0 b 32 0, ob E.2.1 (ad0 b) (M0, N0) 32 0) H := hC.2 74 _ rfl
theorem st_33_0 {E : Lay} {b : Nat} {H : Heap} (hC : CS E b (LX E b ++ LY E (b + 62)) H) : va_at E.1 vwCl (ad0 b 33 0, ob E.2.1 (ad0 b) (M0, N0) 33 0) H := hC.2 75 _ rfl
theorem st_34_0 {E : Lay} {b : Nat} {H : Heap} (hC : CS E b (LX E b ++ LY E (b + 62)) H) : va_at E.1 vwCl (ad0 b 34 0, ob E.2.1 (ad0 b) (M0, N0) 34 0) H := hC.2 76 _ rfl
theorem st_35_0 {E : Lay} {b : Nat} {H : Heap} (hC : CS E b (LX E b ++ LY E (b + 62)) H) : va_at E.1 vwCl (ad0 b 35 0, ob E.2.1 (ad0 b) (M0, N0) 35 0) H := hC.2 77 _ rfl
theorem st_36_0 {E : Lay} {b : Nat} {H : Heap} (hC : CS E b (LX E b ++ LY E (b + 62)) H) : va_at E.1 vwCl (ad0 b 36 0, ob E.2.1 (ad0 b) (M0, N0) 36 0) H := hC.2 78 _ rfl
theorem st_37_0 {E : Lay} {b : Nat} {H : Heap} (hC : CS E b (LX E b ++ LY E (b + 62)) H) : va_at E.1 vwCl (ad0 b 37 0, ob E.2.1 (ad0 b) (M0, N0) 37 0) H := hC.2 79 _ rfl
theorem st_38_0 {E : Lay} {b : Nat} {H : Heap} (hC : CS E b (LX E b ++ LY E (b + 62)) H) : va_at E.1 vwCl (ad0 b 38 0, ob E.2.1 (ad0 b) (M0, N0) 38 0) H := hC.2 80 _ rfl
theorem st_39_0 {E : Lay} {b : Nat} {H : Heap} (hC : CS E b (LX E b ++ LY E (b + 62)) H) : va_at E.1 vwCl (ad0 b 39 0, ob E.2.1 (ad0 b) (M0, N0) 39 0) H := hC.2 81 _ rfl
theorem st_40_0 {E : Lay} {b : Nat} {H : Heap} (hC : CS E b (LX E b ++ LY E (b + 62)) H) : va_at E.1 vwCl (ad0 b 40 0, ob E.2.1 (ad0 b) (M0, N0) 40 0) H := hC.2 82 _ rfl
theorem st_41_0 {E : Lay} {b : Nat} {H : Heap} (hC : CS E b (LX E b ++ LY E (b + 62)) H) : va_at E.1 vwCl (ad0 b 41 0, ob E.2.1 (ad0 b) (M0, N0) 41 0) H := hC.2 83 _ rfl
theorem st_42_0 {E : Lay} {b : Nat} {H : Heap} (hC : CS E b (LX E b ++ LY E (b + 62)) H) : va_at E.1 vwCl (ad0 b 42 0, ob E.2.1 (ad0 b) (M0, N0) 42 0) H := hC.2 84 _ rfl
theorem st_43_0 {E : Lay} {b : Nat} {H : Heap} (hC : CS E b (LX E b ++ LY E (b + 62)) H) : va_at E.1 vwCl (ad0 b 43 0, ob E.2.1 (ad0 b) (M0, N0) 43 0) H := hC.2 85 _ rfl
theorem st_44_0 {E : Lay} {b : Nat} {H : Heap} (hC : CS E b (LX E b ++ LY E (b + 62)) H) : va_at E.1 vwCl (ad0 b 44 0, ob E.2.1 (ad0 b) (M0, N0) 44 0) H := hC.2 86 _ rfl
theorem st_45_0 {E : Lay} {b : Nat} {H : Heap} (hC : CS E b (LX E b ++ LY E (b + 62)) H) : va_at E.1 vwCl (ad0 b 45 0, ob E.2.1 (ad0 b) (M0, N0) 45 0) H := hC.2 87 _ rfl
theorem st_46_0 {E : Lay} {b : Nat} {H : Heap} (hC : CS E b (LX E b ++ LY E (b + 62)) H) : va_at E.1 vwCl (ad0 b 46 0, ob E.2.1 (ad0 b) (M0, N0) 46 0) H := hC.2 88 _ rfl
theorem st_47_0 {E : Lay} {b : Nat} {H : Heap} (hC : CS E b (LX E b ++ LY E (b + 62)) H) : va_at E.1 vwCl (ad0 b 47 0, ob E.2.1 (ad0 b) (M0, N0) 47 0) H := hC.2 89 _ rfl
theorem st_48_0 {E : Lay} {b : Nat} {H : Heap} (hC : CS E b (LX E b ++ LY E (b + 62)) H) : va_at E.1 vwCl (ad0 b 48 0, ob E.2.1 (ad0 b) (M0, N0) 48 0) H := hC.2 90 _ rfl
theorem st_49_0 {E : Lay} {b : Nat} {H : Heap} (hC : CS E b (LX E b ++ LY E (b + 62)) H) : va_at E.1 vwCl (ad0 b 49 0, ob E.2.1 (ad0 b) (M0, N0) 49 0) H := hC.2 91 _ rfl
theorem st_50_0 {E : Lay} {b : Nat} {H : Heap} (hC : CS E b (LX E b ++ LY E (b + 62)) H) : va_at E.1 vwCl (ad0 b 50 0, ob E.2.1 (ad0 b) (M0, N0) 50 0) H := hC.2 92 _ rfl
theorem st_51_0 {E : Lay} {b : Nat} {H : Heap} (hC : CS E b (LX E b ++ LY E (b + 62)) H) : va_at E.1 vwCl (ad0 b 51 0, ob E.2.1 (ad0 b) (M0, N0) 51 0) H := hC.2 93 _ rfl
theorem st_52_0 {E : Lay} {b : Nat} {H : Heap} (hC : CS E b (LX E b ++ LY E (b + 62)) H) : va_at E.1 vwCl (ad0 b 52 0, ob E.2.1 (ad0 b) (M0, N0) 52 0) H := hC.2 94 _ rfl
theorem wd_start {E : Lay} {b : Nat} {H : Heap} (hE : E.2.2.1 = b) (hC : CS E b (LX E b ++ LY E (b + 62)) H) : WD E (ad0 b) (M0, N0) H := by
  refine ⟨fun c i hv => ⟨?_, by show E.2.2.1 ≤ b + _; omega⟩, fun c i c' i' hv hv' he => ?_, by show cnt M0 8 ≤ 32; rw [cnt_M0]; decide⟩
  · have hv : i < ct0 c := by rw [← cnt_M0]; exact hv
    have h1 := ct0_8 hv
    obtain ⟨h8, hc⟩ := h1
    match c, hc with
    | 0, _ =>
      have hi : i = 0 := by have : i < 1 := hv; omega
      subst hi
      exact st_0_0 hC
    | 1, _ =>
      have hi : i = 0 := by have : i < 1 := hv; omega
      subst hi
      exact st_1_0 hC
    | 2, _ =>
      have hi : i = 0 := by have : i < 1 := hv; omega
      subst hi
      exact st_2_0 hC
    | 3, _ =>
      have hi : i = 0 := by have : i < 1 := hv; omega
      subst hi
      exact st_3_0 hC
    | 4, _ =>
      have hi : i = 0 := by have : i < 1 := hv; omega
      subst hi
      exact st_4_0 hC
    | 5, _ =>
      have hi : i < 8 := hv
      rcases (show i = 0 ∨ i = 1 ∨ i = 2 ∨ i = 3 ∨ i = 4 ∨ i = 5 ∨ i = 6 ∨ i = 7 by omega) with rfl | rfl | rfl | rfl | rfl | rfl | rfl | rfl
      · exact st_5_0 hC
      · exact st_5_1 hC
      · exact st_5_2 hC
      · exact st_5_3 hC
      · exact st_5_4 hC
      · exact st_5_5 hC
      · exact st_5_6 hC
      · exact st_5_7 hC
    | 6, _ =>
      have hi : i < 6 := hv
      rcases (show i = 0 ∨ i = 1 ∨ i = 2 ∨ i = 3 ∨ i = 4 ∨ i = 5 by omega) with rfl | rfl | rfl | rfl | rfl | rfl
      · exact st_6_0 hC
      · exact st_6_1 hC
      · exact st_6_2 hC
      · exact st_6_3 hC
      · exact st_6_4 hC
      · exact st_6_5 hC
    | 7, _ =>
      have hi : i < 6 := hv
      rcases (show i = 0 ∨ i = 1 ∨ i = 2 ∨ i = 3 ∨ i = 4 ∨ i = 5 by omega) with rfl | rfl | rfl | rfl | rfl | rfl
      · exact st_7_0 hC
      · exact st_7_1 hC
      · exact st_7_2 hC
      · exact st_7_3 hC
      · exact st_7_4 hC
      · exact st_7_5 hC
    | 8, _ => exact absurd hv (Nat.not_lt_zero _)
    | 9, _ =>
      have hi : i = 0 := by have : i < 1 := hv; omega
      subst hi
      exact st_9_0 hC
    | 10, _ =>
      have hi : i = 0 := by have : i < 1 := hv; omega
      subst hi
      exact st_10_0 hC
    | 11, _ =>
      have hi : i = 0 := by have : i < 1 := hv; omega
      subst hi
      exact st_11_0 hC
    | 12, _ =>
      have hi : i = 0 := by have : i < 1 := hv; omega
      subst hi
      exact st_12_0 hC
    | 13, _ =>
      have hi : i = 0 := by have : i < 1 := hv; omega
      subst hi
      exact st_13_0 hC
    | 14, _ =>
      have hi : i < 8 := hv
      rcases (show i = 0 ∨ i = 1 ∨ i = 2 ∨ i = 3 ∨ i = 4 ∨ i = 5 ∨ i = 6 ∨ i = 7 by omega) with rfl | rfl | rfl | rfl | rfl | rfl | rfl | rfl
      · exact st_14_0 hC
      · exact st_14_1 hC
      · exact st_14_2 hC
      · exact st_14_3 hC
      · exact st_14_4 hC
      · exact st_14_5 hC
      · exact st_14_6 hC
      · exact st_14_7 hC
    | 15, _ =>
      have hi : i < 6 := hv
      rcases (show i = 0 ∨ i = 1 ∨ i = 2 ∨ i = 3 ∨ i = 4 ∨ i = 5 by omega) with rfl | rfl | rfl | rfl | rfl | rfl
      · exact st_15_0 hC
      · exact st_15_1 hC
      · exact st_15_2 hC
      · exact st_15_3 hC
      · exact st_15_4 hC
      · exact st_15_5 hC
    | 16, _ =>
      have hi : i < 6 := hv
      rcases (show i = 0 ∨ i = 1 ∨ i = 2 ∨ i = 3 ∨ i = 4 ∨ i = 5 by omega) with rfl | rfl | rfl | rfl | rfl | rfl
      · exact st_16_0 hC
      · exact st_16_1 hC
      · exact st_16_2 hC
      · exact st_16_3 hC
      · exact st_16_4 hC
      · exact st_16_5 hC
    | 17, _ =>
      have hi : i < 6 := hv
      rcases (show i = 0 ∨ i = 1 ∨ i = 2 ∨ i = 3 ∨ i = 4 ∨ i = 5 by omega) with rfl | rfl | rfl | rfl | rfl | rfl
      · exact st_17_0 hC
      · exact st_17_1 hC
      · exact st_17_2 hC
      · exact st_17_3 hC
      · exact st_17_4 hC
      · exact st_17_5 hC
    | 18, _ =>
      have hi : i < 6 := hv
      rcases (show i = 0 ∨ i = 1 ∨ i = 2 ∨ i = 3 ∨ i = 4 ∨ i = 5 by omega) with rfl | rfl | rfl | rfl | rfl | rfl
      · exact st_18_0 hC
      · exact st_18_1 hC
      · exact st_18_2 hC
      · exact st_18_3 hC
      · exact st_18_4 hC
      · exact st_18_5 hC
    | 19, _ => exact absurd hv (Nat.not_lt_zero _)
    | 20, _ =>
      have hi : i = 0 := by have : i < 1 := hv; omega
      subst hi
      exact st_20_0 hC
    | 21, _ =>
      have hi : i = 0 := by have : i < 1 := hv; omega
      subst hi
      exact st_21_0 hC
    | 22, _ =>
      have hi : i = 0 := by have : i < 1 := hv; omega
      subst hi
      exact st_22_0 hC
    | 23, _ =>
      have hi : i = 0 := by have : i < 1 := hv; omega
      subst hi
      exact st_23_0 hC
    | 24, _ =>
      have hi : i = 0 := by have : i < 1 := hv; omega
      subst hi
      exact st_24_0 hC
    | 25, _ =>
      have hi : i = 0 := by have : i < 1 := hv; omega
      subst hi
      exact st_25_0 hC
    | 26, _ =>
      have hi : i = 0 := by have : i < 1 := hv; omega
      subst hi
      exact st_26_0 hC
    | 27, _ =>
      have hi : i = 0 := by have : i < 1 := hv; omega
      subst hi
      exact st_27_0 hC
    | 28, _ =>
      have hi : i = 0 := by have : i < 1 := hv; omega
      subst hi
      exact st_28_0 hC
    | 29, _ =>
      have hi : i = 0 := by have : i < 1 := hv; omega
      subst hi
      exact st_29_0 hC
    | 30, _ =>
      have hi : i = 0 := by have : i < 1 := hv; omega
      subst hi
      exact st_30_0 hC
    | 31, _ =>
      have hi : i = 0 := by have : i < 1 := hv; omega
      subst hi
      exact st_31_0 hC
    | 32, _ =>
      have hi : i = 0 := by have : i < 1 := hv; omega
      subst hi
      exact st_32_0 hC
    | 33, _ =>
      have hi : i = 0 := by have : i < 1 := hv; omega
      subst hi
      exact st_33_0 hC
    | 34, _ =>
      have hi : i = 0 := by have : i < 1 := hv; omega
      subst hi
      exact st_34_0 hC
    | 35, _ =>
      have hi : i = 0 := by have : i < 1 := hv; omega
      subst hi
      exact st_35_0 hC
    | 36, _ =>
      have hi : i = 0 := by have : i < 1 := hv; omega
      subst hi
      exact st_36_0 hC
    | 37, _ =>
      have hi : i = 0 := by have : i < 1 := hv; omega
      subst hi
      exact st_37_0 hC
    | 38, _ =>
      have hi : i = 0 := by have : i < 1 := hv; omega
      subst hi
      exact st_38_0 hC
    | 39, _ =>
      have hi : i = 0 := by have : i < 1 := hv; omega
      subst hi
      exact st_39_0 hC
    | 40, _ =>
      have hi : i = 0 := by have : i < 1 := hv; omega
      subst hi
      exact st_40_0 hC
    | 41, _ =>
      have hi : i = 0 := by have : i < 1 := hv; omega
      subst hi
      exact st_41_0 hC
    | 42, _ =>
      have hi : i = 0 := by have : i < 1 := hv; omega
      subst hi
      exact st_42_0 hC
    | 43, _ =>
      have hi : i = 0 := by have : i < 1 := hv; omega
      subst hi
      exact st_43_0 hC
    | 44, _ =>
      have hi : i = 0 := by have : i < 1 := hv; omega
      subst hi
      exact st_44_0 hC
    | 45, _ =>
      have hi : i = 0 := by have : i < 1 := hv; omega
      subst hi
      exact st_45_0 hC
    | 46, _ =>
      have hi : i = 0 := by have : i < 1 := hv; omega
      subst hi
      exact st_46_0 hC
    | 47, _ =>
      have hi : i = 0 := by have : i < 1 := hv; omega
      subst hi
      exact st_47_0 hC
    | 48, _ =>
      have hi : i = 0 := by have : i < 1 := hv; omega
      subst hi
      exact st_48_0 hC
    | 49, _ =>
      have hi : i = 0 := by have : i < 1 := hv; omega
      subst hi
      exact st_49_0 hC
    | 50, _ =>
      have hi : i = 0 := by have : i < 1 := hv; omega
      subst hi
      exact st_50_0 hC
    | 51, _ =>
      have hi : i = 0 := by have : i < 1 := hv; omega
      subst hi
      exact st_51_0 hC
    | 52, _ =>
      have hi : i = 0 := by have : i < 1 := hv; omega
      subst hi
      exact st_52_0 hC
    | c + 53, hc => exact absurd hc (by omega)
  · have hv : i < ct0 c := by rw [← cnt_M0]; exact hv
    have hv' : i' < ct0 c' := by rw [← cnt_M0]; exact hv'
    have he : of0 c i = of0 c' i' := by
      have : b + of0 c i = b + of0 c' i' := he
      omega
    have e1 := iv_of c (ct0_8 hv).2 i (ct0_8 hv).1 hv
    have e2 := iv_of c' (ct0_8 hv').2 i' (ct0_8 hv').1 hv'
    rw [he, e2] at e1
    have := Prod.mk.inj e1
    exact ⟨this.1.symm, this.2.symm⟩
theorem ao3 : Cond.arrayOver (.object RX3) ∈ lw_tbl := by decide +kernel
theorem ao5 : Cond.arrayOver (.object RX5) ∈ lw_tbl := by decide +kernel
theorem ao7 : Cond.arrayOver (.object RX7) ∈ lw_tbl := by decide +kernel
abbrev fz (k : Nat) : Term := .static (zc k) (zn k) "[I"
theorem fz_a : ∀ k, k < 6 → Cond.arrayOf (fz k) .int ∈ flatC (Jvm.Cond.and given_1 narrow_1) := by decide +kernel
theorem fz_l : ∀ k, k < 6 → Cond.eq (.length (fz k)) (.int (Int32.ofNat (sl k))) ∈ flatC (Jvm.Cond.and given_1 narrow_1) := by decide +kernel
theorem fz_e : ∀ k, k < 6 → ∀ j, j < sl k → Cond.eq (.elem (fz k) (.int (Int32.ofNat j))) (.int (sc k j)) ∈ flatC (Jvm.Cond.and given_1 narrow_1) := by decide +kernel
theorem fz_s : ∀ k, k < 6 → Cond.laysStatic (zc k) (zn k) "[I" ∈ lw_tbl := by decide +kernel
theorem fz_i : ∀ k, k < 6 → Cond.initialized (zc k) ∈ lw_tbl := by decide +kernel
theorem zz_at {s : State} {b : Nat} (hts : ∀ w ∈ lw_tbl, w.before #[Value.ref b] s = true) (hg : (Jvm.Cond.and given_1 narrow_1).before #[Value.ref b] s = true) : ∃ sa : Nat → Nat, ∀ k, k < 6 → va_Z (zc k) (zn k) "[I" (.ref (sa k)) (fun q => s.heap.size ≤ q) s s.heap ∧ va_T .int (sa k) (sl k) (fun j => .int (sc k j)) (fun q => s.heap.size ≤ q) s s.heap := by
  have hs := flat_of_before _ hg
  have h : ∀ k : Nat, ∃ t : Nat, k < 6 → va_Z (zc k) (zn k) "[I" (.ref t) (fun q => s.heap.size ≤ q) s s.heap ∧ va_T .int t (sl k) (fun j => .int (sc k j)) (fun q => s.heap.size ≤ q) s s.heap := by
    intro k
    by_cases hk : k < 6
    · have hN : sl k < 2 ^ 31 := by
        rcases (show k = 0 ∨ k = 1 ∨ k = 2 ∨ k = 3 ∨ k = 4 ∨ k = 5 by omega) with rfl | rfl | rfl | rfl | rfl | rfl <;> decide
      obtain ⟨t, h1, h2⟩ := va_Tof (f := fun j => .int (sc k j)) (A := fun q => s.heap.size ≤ q) hN (hs _ (fz_a k hk)) (va_eqt (hs _ (fz_l k hk))) (fun j hj => va_eqt (hs _ (fz_e k hk j hj))) (fun a ha h => by omega)
      exact ⟨t, fun _ => ⟨va_Zof (hts _ (fz_s k hk)) (hts _ (fz_i k hk)) h1 (fun a ha h => by omega), h2⟩⟩
    · exact ⟨0, fun h => absurd h hk⟩
  exact ⟨fun k => Classical.choose (h k), fun k hk => Classical.choose_spec (h k) hk⟩
set_option maxRecDepth 100000 in
set_option maxHeartbeats 16000000 in
theorem start_of (pure : ∀ (xs : Nat → Int32) (L : Nat), L ≤ 3072 → f_law xs L 513 0 (M0, N0) = some ()) {p : Program} {e : Env} {s : State} {m : MethodId} {below : List Frame} {meth : Method} {c : Code} (l : Launch) {b L : Nat} {xs : Nat → Int32} (hL : L ≤ 3072) (C0 : lw_At p s m meth c b L xs) : W p l e room_1 s m #[Value.ref b] below meth c s.heap [] 0 0 (lw_Z below #[Value.ref b] s) (entryFrame m ([Value.ref b] : List Value).toArray 4) := by
  obtain ⟨hx, hb, hr, hml, hown, hts, hX, hbl, hlocks, hgv⟩ := id C0
  have hT : ∀ w ∈ TB, w.before #[Value.ref b] s = true := fun w h => hts w (tb_tbl h)
  have X : CX p s m #[Value.ref b] meth c cL_law 4 (some .boolean) RL := ⟨hx, hb, hml, hown, hT, hr, hlocks⟩
  obtain ⟨c0, iS0, hKn0⟩ := u_known (C := RX0) (T := TX0) (N := 3) (n := 3) hT inX0 (hT _ istRX0)
  obtain ⟨c1, iS1, hKn1⟩ := u_known (C := RX1) (T := TX1) (N := 5) (n := 5) hT inX1 (hT _ istRX1)
  obtain ⟨c2, iS2, hKn2⟩ := u_known (C := RX2) (T := TX2) (N := 3) (n := 3) hT inX2 (hT _ istRX2)
  obtain ⟨c3, iS3, hKn3⟩ := u_known (C := RX3) (T := TX3) (N := 2) (n := 2) hT inX3 (hT _ istRX3)
  obtain ⟨c4, iS4, hKn4⟩ := u_known (C := RX4) (T := TX4) (N := 3) (n := 3) hT inX4 (hT _ istRX4)
  obtain ⟨c5, iS5, hKn5⟩ := u_known (C := RX5) (T := TX5) (N := 20) (n := 20) hT inX5 (hT _ istRX5)
  obtain ⟨c6, iS6, hKn6⟩ := u_known (C := RX6) (T := TX6) (N := 5) (n := 5) hT inX6 (hT _ istRX6)
  obtain ⟨c7, iS7, hKn7⟩ := u_known (C := RX7) (T := TX7) (N := 6) (n := 6) hT inX7 (hT _ istRX7)
  obtain ⟨c8, iS8, hKn8⟩ := u_known (C := RX8) (T := TX8) (N := 7) (n := 7) hT inX8 (hT _ istRX8)
  obtain ⟨c9, iS9, hKn9⟩ := u_known (C := RX9) (T := TX9) (N := 45) (n := 45) hT inX9 (hT _ istRX9)
  obtain ⟨dC, dI, hKc⟩ : ∃ (dC : Nat → ClassId) (dI : Nat → Nat → Nat), ∀ (k : Nat) (q : vw_C), vwCl[k]? = some q → u_Kn s q.1 q.2.1 q.2.2 (dC k) (dI k) := by
    refine ⟨fun k => if k = 0 then c0 else if k = 1 then c1 else if k = 2 then c2 else if k = 3 then c3 else if k = 4 then c4 else if k = 5 then c5 else if k = 6 then c6 else if k = 7 then c7 else if k = 8 then c8 else c9, fun k => if k = 0 then iS0 else if k = 1 then iS1 else if k = 2 then iS2 else if k = 3 then iS3 else if k = 4 then iS4 else if k = 5 then iS5 else if k = 6 then iS6 else if k = 7 then iS7 else if k = 8 then iS8 else iS9, ?_⟩
    intro k q hq
    match k, hq with
    | 0, hq => cases hq; exact hKn0
    | 1, hq => cases hq; exact hKn1
    | 2, hq => cases hq; exact hKn2
    | 3, hq => cases hq; exact hKn3
    | 4, hq => cases hq; exact hKn4
    | 5, hq => cases hq; exact hKn5
    | 6, hq => cases hq; exact hKn6
    | 7, hq => cases hq; exact hKn7
    | 8, hq => cases hq; exact hKn8
    | 9, hq => cases hq; exact hKn9
    | k + 10, hq => simp [vwCl] at hq
  obtain ⟨cI, kI, mI, i1, i2, i3⟩ := Cond.arrayClass_spec (hT _ acI)
  obtain ⟨cZ, kZ, mZ, z1, z2, z3⟩ := Cond.arrayClass_spec (hT _ acZ)
  obtain ⟨m3, c3', k3, p1, -, p2, p3, p4⟩ := Cond.arrayOver_spec (hts _ ao3)
  obtain ⟨m5, c5', k5, s1, -, s2, s3, s4⟩ := Cond.arrayOver_spec (hts _ ao5)
  obtain ⟨m7, c7', k7, t1, -, t2, t3, t4⟩ := Cond.arrayOver_spec (hts _ ao7)
  obtain ⟨sa, hsa⟩ := zz_at hts hgv
  obtain ⟨E, hE⟩ : ∃ E : Lay, E = ((dC, dI), (fun k => if k = 0 then cI else if k = 1 then cZ else if k = 2 then c3' else if k = 3 then c5' else c7'), s.heap.size, sa) := ⟨_, rfl⟩
  have hE0 : E.2.2.1 = s.heap.size := by rw [hE]
  have hZ : ZZ E s := by rw [hE]; exact hsa
  have hK : KK E s := by
    rw [hE]
    refine ⟨⟨hKc, fun k q h => ?_⟩, va_Nw.of rfl (hts _ mnRX8_9), va_Nw.of rfl (hts _ mnRX5_20), va_Nw.of rfl (hts _ mnRX8_36), va_Nw.of rfl (hts _ mnRX8_47), va_Nw.of rfl (hts _ mnRX5_92)⟩
    match k, h with
    | 0, h => cases h; exact ⟨fun n z => ⟨(fun k h => by cases h), kI, i2, mI, i3⟩, i1⟩
    | 1, h => cases h; exact ⟨fun n z => ⟨(fun k h => by cases h), kZ, z2, mZ, z3⟩, z1⟩
    | 2, h => cases h; exact ⟨fun n z => ⟨(fun k h => by cases h), k3, p2, m3, p3⟩, k3, m3, p2, p3, p1, p4⟩
    | 3, h => cases h; exact ⟨fun n z => ⟨(fun k h => by cases h), k5, s2, m5, s3⟩, k5, m5, s2, s3, s1, s4⟩
    | 4, h => cases h; exact ⟨fun n z => ⟨(fun k h => by cases h), k7, t2, m7, t3⟩, k7, m7, t2, t3, t1, t4⟩
    | k + 5, h => simp at h
  have hA : KA E s := ⟨hK, va_AO.of (hts _ ao3), va_AO.of (hts _ ao5), va_AO.of (hts _ ao7)⟩
  have hS : va_S (fr s.heap.size) s.heap s.heap [] := va_S.rf
  have hC : CS E s.heap.size [] s.heap := ⟨rfl, fun k x h => by simp at h⟩
  have hl := lv_entry ([.ref b]) (n := 4) (Nat.le_of_ble_eq_true rfl)
  rw [lg_entry_eq]
  generalize (lg_sl ([.ref b]) ++ List.replicate (4 - (lg_sl ([.ref b])).length) Slot.unset).toArray = ls at hl ⊢
  have hl : lv_has ls 4 [(0, .ref b)] := hl
  refine n_new X hA hC hS (C := RX8) (T := TX8) (n := 7) (ci := 8) inX8 tyX8 tyX8_ok clRL_7 istRX8 iniRX8 rfl (fs := [.null, .null, .null, .null, .null, .int 0, .int 0]) rfl (N := 0) rfl (es' := [.inr (8, [.null, .null, .null, .null, .null, .int 0, .int 0])]) rfl (Nat.le_of_ble_eq_true rfl) (Nat.le_of_ble_eq_true rfl) dL_law_0 (fun H hC hS => ?_)
  refine lv_dup hx hb dL_law_3 rfl ?_
  refine n_call X hA hC hS hl.1 (n_yX8_init l E (s.heap.size + 0)) rfl cd_yX8_init iniRX8 mlRL_9 im_yX8_init (na := 0) (by decide +kernel) rfl (ep := []) rfl rfl (es' := LX E s.heap.size) rfl ⟨Nat.le_of_ble_eq_true rfl, Nat.le_of_ble_eq_true rfl⟩ ⟨Nat.le_of_ble_eq_true rfl, Nat.le_of_ble_eq_true rfl⟩ (Nat.le_of_ble_eq_true rfl) rfl dL_law_4 (fun H locs hC hS => ?_)
  refine lv_astore_n (lv' := [(1, .ref s.heap.size), (0, .ref b)]) hx hb dL_law_7 rfl hl (by decide) rfl (fun ls hl => ?_)
  obtain ⟨es1, he1⟩ : ∃ es1, es1 = LX E s.heap.size := ⟨_, rfl⟩
  have hlen : es1.length = 62 := by rw [he1]; rfl
  rw [← he1] at hC
  refine n_new X hA hC hS (C := RX9) (T := TX9) (n := 45) (ci := 9) inX9 tyX9 tyX9_ok clRL_10 istRX9 iniRX9 rfl (fs := (List.range 45).map (fun j => defaultValue (tyX9 j))) rfl (N := 62) hlen rfl (Nat.le_of_ble_eq_true rfl) (Nat.le_of_ble_eq_true rfl) dL_law_8 (fun H hC hS => ?_)
  refine lv_dup hx hb dL_law_11 rfl ?_
  refine n_call X hA hC hS hl.1 (n_yX9_init l E (s.heap.size + 62)) rfl cd_yX9_init iniRX9 mlRL_12 im_yX9_init (na := 0) (by decide +kernel) rfl (ep := es1) rfl hlen (es' := es1 ++ LY E (s.heap.size + 62)) rfl ⟨Nat.le_of_ble_eq_true rfl, Nat.le_of_ble_eq_true rfl⟩ ⟨Nat.le_of_ble_eq_true rfl, Nat.le_of_ble_eq_true rfl⟩ (Nat.le_of_ble_eq_true rfl) rfl dL_law_12 (fun H locs hC hS => ?_)
  refine lv_astore_n (lv' := [(2, .ref (s.heap.size + 62)), (1, .ref s.heap.size), (0, .ref b)]) hx hb dL_law_15 rfl hl (by decide) rfl (fun ls hl => ?_)
  refine lv_iconst (v := 0) hx hb dL_law_16 (by decide) ?_
  refine lv_istore_n (lv' := [(3, .int 0), (2, .ref (s.heap.size + 62)), (1, .ref s.heap.size), (0, .ref b)]) hx hb dL_law_17 rfl hl (by decide) rfl (fun ls hl => ?_)
  rw [he1] at hC
  refine W.widen (k := 200 + 122 * 0) (n := 8000 + 1098 * 0) (Nat.le_of_ble_eq_true rfl) (Nat.le_of_ble_eq_true rfl) ?_
  have hS2 : va_S (ow E) s.heap H locs := by
    have : ow E = fr s.heap.size := by funext q; show (E.2.2.1 ≤ q) = _; rw [hE0]
    rw [this]; exact hS
  exact law_loop l hL X hX hbl hE0 hK hZ 513 0 (M0, N0) (ad0 s.heap.size) _ _ ls (by omega) (pure xs L hL) (wd_start hE0 hC) hS2 (lv_sub hl [3, 2, 1, 0] rfl)
