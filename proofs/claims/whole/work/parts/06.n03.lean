def f_yX9_fits (N : Mem) (x1 : Int32) (x2 : Int32) (x3 : Int32) : Option (Int32) := (if x1 < 6 then (if x1 = 4 then (if x2 = 4 then (some 1) else (if x2 = 5 then (some 1) else (some 0))) else (if x1 = 5 then (if x2 = 5 then (some 1) else (some 0)) else (some 0))) else (if 6 ≤ x2 then (if x1 = 6 then (some 1) else (if x3 = (-4) then (some 1) else ob1 (f_yX9_isBox N x3) (fun r12 => (if r12 = 0 then (some 0) else (some 1))))) else (some 0)))
set_option maxRecDepth 100000 in
set_option maxHeartbeats 4000000 in
theorem c_yX9_fits (l : Launch) (E : Lay) (ad : Nat → Nat → Nat) (M N : Mem) (x1 : Int32) (x2 : Int32) (x3 : Int32) (r : Int32) (hf : f_yX9_fits N x1 x2 x3 = some r) : Met l yX9_fits (Cond.code yX9_fits cX9_fits 4 (some .boolean) :: TB) (rmm 2 43) (va_Pc [.ref (ad 20 0), .int x1, .int x2, .int x3] (PB E ad (M, N))) (Qi E ad r (M, N)) 0 0 (ow E) := by
  refine Met.ofW (cc := cX9_fits) (maxL := 4) (ret := (some .boolean)) (by decide) rfl ?_
  intro p e s m args below meth c s₁ B hml hv
  obtain ⟨rfl, hW, hK, hZ⟩ := hv
  have hT : ∀ w ∈ TB, w.before _ s = true := fun w h => atoms_spec (ws := (Cond.code yX9_fits cX9_fits 4 (some .boolean) :: TB)) B.pre w (List.mem_cons_of_mem _ h)
  have X : CX p s m _ meth c cX9_fits 4 (some .boolean) RX9 := ⟨B.exec, B.bytes, hml, findClass_of_methodNamed B.named, hT, B.returns, B.notSynchronized⟩
  obtain ⟨hx, hb, hml, hown, hT, hr, hlk⟩ := id X
  have hS : va_S (ow E) s.heap s.heap [] := va_S.rf
  have hl := lv_entry ([.ref (ad 20 0), .int x1, .int x2, .int x3]) (n := 4) (Nat.le_of_ble_eq_true rfl)
  rw [lg_entry_eq]
  generalize (lg_sl ([.ref (ad 20 0), .int x1, .int x2, .int x3]) ++ List.replicate (4 - (lg_sl ([.ref (ad 20 0), .int x1, .int x2, .int x3])).length) Slot.unset).toArray = ls at hl ⊢
  have hl : lv_has ls 4 [(0, .ref (ad 20 0)), (1, .int x1), (2, .int x2), (3, .int x3)] := hl
  unfold f_yX9_fits at hf
  refine lv_iload_n hx hb dX9_fits_0 rfl (lv_at hl 1 rfl) ?_
  refine lv_bipush (v := 6) hx hb dX9_fits_1 (by decide) ?_
  refine lv_icmp_lt (tgt := 12) hx hb dX9_fits_3 (by decide) (fun c1 => ?_) (fun c1 => ?_)
  · rw [if_pos c1] at hf
    refine lv_iload_n hx hb dX9_fits_12 rfl (lv_at hl 1 rfl) ?_
    refine lv_iconst (v := 4) hx hb dX9_fits_13 (by decide) ?_
    refine lv_icmp_ne (tgt := 27) hx hb dX9_fits_14 (by decide) (fun c2 => ?_) (fun c2 => ?_)
    · rw [if_neg c2] at hf
      refine lv_iload_n hx hb dX9_fits_27 rfl (lv_at hl 1 rfl) ?_
      refine lv_iconst (v := 5) hx hb dX9_fits_28 (by decide) ?_
      refine lv_icmp_ne (tgt := 41) hx hb dX9_fits_29 (by decide) (fun c3 => ?_) (fun c3 => ?_)
      · rw [if_neg c3] at hf
        refine lv_iconst (v := 0) hx hb dX9_fits_41 (by decide) ?_
        obtain rfl := sp1 hf
        exact e_z ⟨hx, hb, hr, hlk⟩ rfl hW hS dX9_fits_42
      · rw [if_pos c3] at hf
        refine lv_iload_n hx hb dX9_fits_32 rfl (lv_at hl 2 rfl) ?_
        refine lv_iconst (v := 5) hx hb dX9_fits_33 (by decide) ?_
        refine lv_icmp_ne (tgt := 41) hx hb dX9_fits_34 (by decide) (fun c4 => ?_) (fun c4 => ?_)
        · rw [if_neg c4] at hf
          refine lv_iconst (v := 0) hx hb dX9_fits_41 (by decide) ?_
          obtain rfl := sp1 hf
          exact e_z ⟨hx, hb, hr, hlk⟩ rfl hW hS dX9_fits_42
        · rw [if_pos c4] at hf
          refine lv_iconst (v := 1) hx hb dX9_fits_37 (by decide) ?_
          refine lv_goto (tgt := 42) hx hb dX9_fits_38 (by decide) ?_
          obtain rfl := sp1 hf
          exact e_z ⟨hx, hb, hr, hlk⟩ rfl hW hS dX9_fits_42
    · rw [if_pos c2] at hf
      refine lv_iload_n hx hb dX9_fits_17 rfl (lv_at hl 2 rfl) ?_
      refine lv_iconst (v := 4) hx hb dX9_fits_18 (by decide) ?_
      refine lv_icmp_eq (tgt := 37) hx hb dX9_fits_19 (by decide) (fun c5 => ?_) (fun c5 => ?_)
      · rw [if_pos c5] at hf
        refine lv_iconst (v := 1) hx hb dX9_fits_37 (by decide) ?_
        refine lv_goto (tgt := 42) hx hb dX9_fits_38 (by decide) ?_
        obtain rfl := sp1 hf
        exact e_z ⟨hx, hb, hr, hlk⟩ rfl hW hS dX9_fits_42
      · rw [if_neg c5] at hf
        refine lv_iload_n hx hb dX9_fits_22 rfl (lv_at hl 2 rfl) ?_
        refine lv_iconst (v := 5) hx hb dX9_fits_23 (by decide) ?_
        refine lv_icmp_eq (tgt := 37) hx hb dX9_fits_24 (by decide) (fun c6 => ?_) (fun c6 => ?_)
        · rw [if_pos c6] at hf
          refine lv_iconst (v := 1) hx hb dX9_fits_37 (by decide) ?_
          refine lv_goto (tgt := 42) hx hb dX9_fits_38 (by decide) ?_
          obtain rfl := sp1 hf
          exact e_z ⟨hx, hb, hr, hlk⟩ rfl hW hS dX9_fits_42
        · rw [if_neg c6] at hf
          refine lv_iload_n hx hb dX9_fits_27 rfl (lv_at hl 1 rfl) ?_
          refine lv_iconst (v := 5) hx hb dX9_fits_28 (by decide) ?_
          refine lv_icmp_ne (tgt := 41) hx hb dX9_fits_29 (by decide) (fun c7 => ?_) (fun c7 => ?_)
          · skip
            refine lv_iconst (v := 0) hx hb dX9_fits_41 (by decide) ?_
            obtain rfl := sp1 hf
            exact e_z ⟨hx, hb, hr, hlk⟩ rfl hW hS dX9_fits_42
          · exfalso; have := q_lt (b := 6) (by decide) c1; have := q_eq (b := 4) (by decide) c2; have := q_eq (b := 5) (by decide) c7; omega
  · rw [if_neg c1] at hf
    refine lv_iload_n hx hb dX9_fits_6 rfl (lv_at hl 2 rfl) ?_
    refine lv_bipush (v := 6) hx hb dX9_fits_7 (by decide) ?_
    refine lv_icmp_ge (tgt := 43) hx hb dX9_fits_9 (by decide) (fun c8 => ?_) (fun c8 => ?_)
    · rw [if_pos c8] at hf
      refine lv_iload_n hx hb dX9_fits_43 rfl (lv_at hl 1 rfl) ?_
      refine lv_bipush (v := 6) hx hb dX9_fits_44 (by decide) ?_
      refine lv_icmp_eq (tgt := 63) hx hb dX9_fits_46 (by decide) (fun c9 => ?_) (fun c9 => ?_)
      · rw [if_pos c9] at hf
        refine lv_iconst (v := 1) hx hb dX9_fits_63 (by decide) ?_
        refine lv_goto (tgt := 68) hx hb dX9_fits_64 (by decide) ?_
        obtain rfl := sp1 hf
        exact e_z ⟨hx, hb, hr, hlk⟩ rfl hW hS dX9_fits_68
      · rw [if_neg c9] at hf
        refine lv_iload_n hx hb dX9_fits_49 rfl (lv_at hl 3 rfl) ?_
        refine lv_bipush (v := -4) hx hb dX9_fits_50 (by decide) ?_
        refine lv_icmp_eq (tgt := 63) hx hb dX9_fits_52 (by decide) (fun c10 => ?_) (fun c10 => ?_)
        · rw [if_pos c10] at hf
          refine lv_iconst (v := 1) hx hb dX9_fits_63 (by decide) ?_
          refine lv_goto (tgt := 68) hx hb dX9_fits_64 (by decide) ?_
          obtain rfl := sp1 hf
          exact e_z ⟨hx, hb, hr, hlk⟩ rfl hW hS dX9_fits_68
        · rw [if_neg c10] at hf
          refine lv_aload_n hx hb dX9_fits_55 rfl (lv_at hl 0 rfl) ?_
          refine lv_iload_n hx hb dX9_fits_56 rfl (lv_at hl 3 rfl) ?_
          obtain ⟨r12, h11, hf⟩ := ob1_some hf
          refine k_yX9_isBox X hK hZ hW hS hl.1 h11 mlRX9_126 ⟨Nat.le_of_ble_eq_true rfl, Nat.le_of_ble_eq_true rfl⟩ ⟨Nat.le_of_ble_eq_true rfl, Nat.le_of_ble_eq_true rfl⟩ (Nat.le_of_ble_eq_true rfl) dX9_fits_57 (fun H locs hW hS => ?_)
          refine lv_if_eq (tgt := 67) hx hb dX9_fits_60 (by decide) (fun c13 => ?_) (fun c13 => ?_)
          · rw [if_pos c13] at hf
            refine lv_iconst (v := 0) hx hb dX9_fits_67 (by decide) ?_
            obtain rfl := sp1 hf
            exact e_z ⟨hx, hb, hr, hlk⟩ rfl hW hS dX9_fits_68
          · rw [if_neg c13] at hf
            refine lv_iconst (v := 1) hx hb dX9_fits_63 (by decide) ?_
            refine lv_goto (tgt := 68) hx hb dX9_fits_64 (by decide) ?_
            obtain rfl := sp1 hf
            exact e_z ⟨hx, hb, hr, hlk⟩ rfl hW hS dX9_fits_68
    · rw [if_neg c8] at hf
      refine lv_iload_n hx hb dX9_fits_12 rfl (lv_at hl 1 rfl) ?_
      refine lv_iconst (v := 4) hx hb dX9_fits_13 (by decide) ?_
      refine lv_icmp_ne (tgt := 27) hx hb dX9_fits_14 (by decide) (fun c14 => ?_) (fun c14 => ?_)
      · skip
        refine lv_iload_n hx hb dX9_fits_27 rfl (lv_at hl 1 rfl) ?_
        refine lv_iconst (v := 5) hx hb dX9_fits_28 (by decide) ?_
        refine lv_icmp_ne (tgt := 41) hx hb dX9_fits_29 (by decide) (fun c15 => ?_) (fun c15 => ?_)
        · skip
          refine lv_iconst (v := 0) hx hb dX9_fits_41 (by decide) ?_
          obtain rfl := sp1 hf
          exact e_z ⟨hx, hb, hr, hlk⟩ rfl hW hS dX9_fits_42
        · exfalso; have := q_nlt (b := 6) (by decide) c1; have := q_eq (b := 5) (by decide) c15; omega
      · exfalso; have := q_nlt (b := 6) (by decide) c1; have := q_eq (b := 4) (by decide) c14; omega
set_option maxRecDepth 100000 in
set_option maxHeartbeats 4000000 in
theorem k_yX9_fits {p : Program} {l : Launch} {e : Env} {R : Room} {s : State} {m : MethodId} {args : Array Value} {below : List Frame} {meth : Method} {c : Code} {H : Heap} {locs : List Loc} {cells slots : Nat} {Q : State → Prop} {cc : ByteArray} {pc nL index : Nat} {ret : Option FieldType} {own : String} {ls : Array Slot} {rest : List Value} {E : Lay} {ad : Nat → Nat → Nat} {M N : Mem} (X : CX p s m args meth c cc nL ret own) (hK : KK E s) (hZ : ZZ E s) (hW : WD E ad (M, N) H) (hS : va_S (ow E) s.heap H locs) (hsz : ls.size = nL) {x1 : Int32} {x2 : Int32} {x3 : Int32} {r : Int32} (hf : f_yX9_fits N x1 x2 x3 = some r) (hn : Cond.methodLink own index yX9_fits ∈ TB) (hR : 2 + 1 ≤ R.frames ∧ 8 + (4 + 11) + 43 ≤ R.locals) (hC : cells ≤ R.cells ∧ slots ≤ R.slots) (h8 : (rest.map fun v => v.category).sum ≤ 8) (hdg : decode cc pc = .ok (.invokevirtual index, 3)) (kk : ∀ (H1 : Heap) (locs1 : List Loc), WD E ad (M, N) H1 → va_S (ow E) s.heap H1 locs1 → W p l e R s m args below meth c H1 locs1 cells slots Q (F0 m (pc + 3) ls (.int r :: rest))) : W p l e R s m args below meth c H locs cells slots Q (F0 m pc ls (.int x3 :: .int x2 :: .int x1 :: .ref (ad 20 0) :: rest)) := by
  refine va_calli (va_runV (C := RX9) (As := [.int x1, .int x2, .int x3]) (rest := rest) ⟨X.1, X.2.1, X.2.2.1, X.2.2.2.1, X.2.2.2.2.1⟩ (c_yX9_fits l E ad M N x1 x2 x3 r hf) (cwV 3 X.2.2.2.2.1 (gV hn im_yX9_fits se_yX9_fits iniRX9 cd_yX9_fits) rfl rfl rfl (by decide +kernel) hR) ⟨fun a U g mk q => ⟨q.1, q.2.calling⟩, va_recv hK.1 (hW.at (c := 20) (i := 0) Nat.zero_lt_one rfl) (ci := 9) (q0 := 0) rfl rfl, fun U hU hw => ⟨rfl, PB.at hW hK hZ hS hU hw⟩⟩ rfl rfl hsz rfl (lv_room h8) hdg hC) hS (fun _ _ h => h) (fun _ h => h) (fun r' u t H1 locs1 ht hvm hw hB hz1 hk1 hS1 => ?_)
  obtain ⟨rfl, rfl⟩ := hw
  rw [ht] at hB
  exact kk H1 locs1 hB hS1
def f_yX9_copies_L59 : Nat → Mem → Int32 → Int32 → Int32 → Int32 → Option Mem
  | 0, _, _, _, _, _ => none
  | n + 1, N0, y1, y2, y3, y4 => gd (¬ (y1 < 0 ∨ 32 ≤ y1.toNatClampNeg)) ((if (N0 23 0 y1.toNatClampNeg) ≤ y4 then (some N0) else (if (N0 20 0 7) = 0 then gd (¬ (((12 * y1) + y4) < 0 ∨ 384 ≤ ((12 * y1) + y4).toNatClampNeg)) ((if (lg_cmp (y3.toInt64 + y4.toInt64) 0) < 0 then ob1 (f_yX9_bad N0 2) (fun N32 => (f_yX9_copies_L59 n N32 y1 y2 y3 (y4 + 1))) else gd (¬ (y2 < 0 ∨ 32 ≤ y2.toNatClampNeg)) ((if (lg_cmp (y3.toInt64 + y4.toInt64) ((N0 23 0 y2.toNatClampNeg).toInt64)) < 0 then ob1 (f_yX9_fits N0 (N0 21 0 y2.toNatClampNeg) (N0 21 0 y1.toNatClampNeg) (N0 24 0 ((12 * y1) + y4).toNatClampNeg)) (fun r36 => (if r36 = 0 then ob1 (f_yX9_bad N0 4) (fun N41 => (f_yX9_copies_L59 n N41 y1 y2 y3 (y4 + 1))) else gd (¬ (((12 * y2) + (y3.toInt64 + y4.toInt64).toInt32) < 0 ∨ 384 ≤ ((12 * y2) + (y3.toInt64 + y4.toInt64).toInt32).toNatClampNeg)) (lt1 (mp N0 24 0 ((12 * y2) + (y3.toInt64 + y4.toInt64).toInt32).toNatClampNeg (N0 24 0 ((12 * y1) + y4).toNatClampNeg)) (fun N39 => (f_yX9_copies_L59 n N39 y1 y2 y3 (y4 + 1)))))) else ob1 (f_yX9_bad N0 2) (fun N43 => (f_yX9_copies_L59 n N43 y1 y2 y3 (y4 + 1))))))) else (some N0))))
def f_yX9_copies (N : Mem) (x1 : Int32) (x2 : Int32) (x3 : Int32) : Option Mem := (if x1 = (-4) then (if x2 = (-4) then ob1 (f_yX9_bad N 1) (fun N5 => (some N5)) else gd (¬ (x2 < 0 ∨ 32 ≤ x2.toNatClampNeg)) ((if 4 ≤ (N 21 0 x2.toNatClampNeg) then ob1 (f_yX9_bad N 1) (fun N10 => (some N10)) else ob1 (f_yX9_bad N 3) (fun N12 => (some N12))))) else gd (¬ (x1 < 0 ∨ 32 ≤ x1.toNatClampNeg)) ((if (N 21 0 x1.toNatClampNeg) < 4 then ob1 (f_yX9_bad N 3) (fun N16 => (some N16)) else (if x2 = (-4) then ob1 (f_yX9_bad N 1) (fun N21 => (some N21)) else gd (¬ (x2 < 0 ∨ 32 ≤ x2.toNatClampNeg)) ((if 4 ≤ (N 21 0 x2.toNatClampNeg) then (f_yX9_copies_L59 70 N x1 x2 x3 0) else ob1 (f_yX9_bad N 3) (fun N45 => (some N45))))))))
set_option maxRecDepth 100000 in
set_option maxHeartbeats 4000000 in
theorem l_yX9_copies_59 (l : Launch) (E : Lay) (ad : Nat → Nat → Nat) (M : Mem) {p : Program} {e : Env} {s : State} {m : MethodId} {args : Array Value} {below : List Frame} {meth : Method} {c : Code} (X : CX p s m args meth c cX9_copies 8 none RX9) (hK : KK E s) (hZ : ZZ E s) : ∀ (n : Nat) (N0 : Mem) (y1 : Int32) (y2 : Int32) (y3 : Int32) (y4 : Int32) (Nr : Mem) (hf : f_yX9_copies_L59 n N0 y1 y2 y3 y4 = some Nr) (H : Heap) (locs : List Loc) (ls : Array Slot), WD E ad (M, N0) H → va_S (ow E) s.heap H locs → lv_has ls 8 [(0, .ref (ad 20 0)), (1, .int y1), (2, .int y2), (3, .int y3), (4, .int y4)] → W p l e (rmm 3 66) s m args below meth c H locs 0 0 (MQ below (Qv E ad (M, Nr)) args s 0 0 (ow E)) (F0 m 59 ls []) := by
  obtain ⟨hx, hb, hml, hown, hT, hr, hlk⟩ := id X
  intro n
  induction n with
  | zero =>
    intro N0 y1 y2 y3 y4 Nr hf
    rw [f_yX9_copies_L59] at hf
    cases hf
  | succ n ih =>
    intro N0 y1 y2 y3 y4 Nr hf H locs ls hW hS hl
    rw [f_yX9_copies_L59] at hf
    refine lv_iload hx hb dX9_copies_59 (lv_at hl 4 rfl) ?_
    refine lv_aload_n hx hb dX9_copies_61 rfl (lv_at hl 0 rfl) ?_
    refine g_9_3 X hK hW flRX9_16 dX9_copies_62 ?_
    refine lv_iload_n hx hb dX9_copies_65 rfl (lv_at hl 1 rfl) ?_
    obtain ⟨b26, hf⟩ := gd_some hf
    refine al_23 X hK hW b26 dX9_copies_66 ?_
    refine lv_icmp_ge (tgt := 177) hx hb dX9_copies_67 (by decide) (fun c27 => ?_) (fun c27 => ?_)
    · rw [if_pos c27] at hf
      obtain rfl := sp1 hf
      exact e_v ⟨hx, hb, hr, hlk⟩ hW hS dX9_copies_177
    · rw [if_neg c27] at hf
      refine lv_aload_n hx hb dX9_copies_70 rfl (lv_at hl 0 rfl) ?_
      refine g_9_37 X hK hW flRX9_184 dX9_copies_71 ?_
      refine lv_if_ne (tgt := 177) hx hb dX9_copies_74 (by decide) (fun c28 => ?_) (fun c28 => ?_)
      · rw [if_neg c28] at hf
        obtain rfl := sp1 hf
        exact e_v ⟨hx, hb, hr, hlk⟩ hW hS dX9_copies_177
      · rw [if_pos c28] at hf
        refine lv_iload_n hx hb dX9_copies_77 rfl (lv_at hl 3 rfl) ?_
        refine lv_i2l (v := y3.toInt64) hx hb dX9_copies_78 rfl ?_
        refine lv_iload hx hb dX9_copies_79 (lv_at hl 4 rfl) ?_
        refine lv_i2l (v := y4.toInt64) hx hb dX9_copies_81 rfl ?_
        refine lv_ladd hx hb dX9_copies_82 ?_
        refine lv_lstore (lv' := [(5, .long (y3.toInt64 + y4.toInt64)), (0, .ref (ad 20 0)), (1, .int y1), (2, .int y2), (3, .int y3), (4, .int y4)]) hx hb dX9_copies_83 hl (by decide) rfl (fun ls hl => ?_)
        refine lv_aload_n hx hb dX9_copies_85 rfl (lv_at hl 1 rfl) ?_
        refine g_9_4 X hK hW flRX9_19 dX9_copies_86 ?_
        refine lv_bipush (v := 12) hx hb dX9_copies_89 (by decide) ?_
        refine lv_iload_n hx hb dX9_copies_91 rfl (lv_at hl 2 rfl) ?_
        refine lv_imul hx hb dX9_copies_92 ?_
        refine lv_iload hx hb dX9_copies_93 (lv_at hl 5 rfl) ?_
        refine lv_iadd hx hb dX9_copies_95 ?_
        obtain ⟨b29, hf⟩ := gd_some hf
        refine al_24 X hK hW b29 dX9_copies_96 ?_
        refine lv_istore (lv' := [(7, .int (N0 24 0 ((12 * y1) + y4).toNatClampNeg)), (5, .long (y3.toInt64 + y4.toInt64)), (0, .ref (ad 20 0)), (1, .int y1), (2, .int y2), (3, .int y3), (4, .int y4)]) hx hb dX9_copies_97 hl (by decide) rfl (fun ls hl => ?_)
        refine lv_lload hx hb dX9_copies_99 (lv_at hl 1 rfl) ?_
        refine lv_lconst (v := 0) hx hb dX9_copies_101 (by decide) ?_
        refine W.lcmp hx hb dX9_copies_102 ?_
        refine lv_if_lt (tgt := 119) hx hb dX9_copies_103 (by decide) (fun c30 => ?_) (fun c30 => ?_)
        · rw [if_pos c30] at hf
          refine lv_aload_n hx hb dX9_copies_119 rfl (lv_at hl 2 rfl) ?_
          refine lv_iconst (v := 2) hx hb dX9_copies_120 (by decide) ?_
          obtain ⟨N32, h31, hf⟩ := ob1_some hf
          refine k_yX9_bad X hK hZ hW hS hl.1 h31 mlRX9_245 ⟨Nat.le_of_ble_eq_true rfl, Nat.le_of_ble_eq_true rfl⟩ ⟨Nat.le_of_ble_eq_true rfl, Nat.le_of_ble_eq_true rfl⟩ (Nat.le_of_ble_eq_true rfl) dX9_copies_121 (fun H locs hW hS => ?_)
          refine lv_goto (tgt := 171) hx hb dX9_copies_124 (by decide) ?_
          refine lv_iinc (v := (y4 + 1)) (lv' := [(4, .int (y4 + 1)), (7, .int (N0 24 0 ((12 * y1) + y4).toNatClampNeg)), (5, .long (y3.toInt64 + y4.toInt64)), (0, .ref (ad 20 0)), (1, .int y1), (2, .int y2), (3, .int y3)]) hx hb dX9_copies_171 hl (k := 6) rfl rfl (by decide) rfl (fun ls hl => ?_)
          refine lv_goto (tgt := 59) hx hb dX9_copies_174 (by decide) ?_
          exact ih _ _ _ _ _ _ hf _ _ _ hW hS (lv_sub hl [3, 4, 5, 6, 0] rfl)
        · rw [if_neg c30] at hf
          refine lv_lload hx hb dX9_copies_106 (lv_at hl 1 rfl) ?_
          refine lv_aload_n hx hb dX9_copies_108 rfl (lv_at hl 2 rfl) ?_
          refine g_9_3 X hK hW flRX9_16 dX9_copies_109 ?_
          refine lv_iload_n hx hb dX9_copies_112 rfl (lv_at hl 4 rfl) ?_
          obtain ⟨b33, hf⟩ := gd_some hf
          refine al_23 X hK hW b33 dX9_copies_113 ?_
          refine lv_i2l (v := (N0 23 0 y2.toNatClampNeg).toInt64) hx hb dX9_copies_114 rfl ?_
          refine W.lcmp hx hb dX9_copies_115 ?_
          refine lv_if_lt (tgt := 127) hx hb dX9_copies_116 (by decide) (fun c34 => ?_) (fun c34 => ?_)
          · rw [if_pos c34] at hf
            refine lv_aload_n hx hb dX9_copies_127 rfl (lv_at hl 2 rfl) ?_
            refine lv_aload_n hx hb dX9_copies_128 rfl (lv_at hl 2 rfl) ?_
            refine g_9_1 X hK hW flRX9_7 dX9_copies_129 ?_
            refine lv_iload_n hx hb dX9_copies_132 rfl (lv_at hl 4 rfl) ?_
            refine al_21 X hK hW b33 dX9_copies_133 ?_
            refine lv_aload_n hx hb dX9_copies_134 rfl (lv_at hl 2 rfl) ?_
            refine g_9_1 X hK hW flRX9_7 dX9_copies_135 ?_
            refine lv_iload_n hx hb dX9_copies_138 rfl (lv_at hl 3 rfl) ?_
            refine al_21 X hK hW b26 dX9_copies_139 ?_
            refine lv_iload hx hb dX9_copies_140 (lv_at hl 0 rfl) ?_
            obtain ⟨r36, h35, hf⟩ := ob1_some hf
            refine k_yX9_fits X hK hZ hW hS hl.1 h35 mlRX9_251 ⟨Nat.le_of_ble_eq_true rfl, Nat.le_of_ble_eq_true rfl⟩ ⟨Nat.le_of_ble_eq_true rfl, Nat.le_of_ble_eq_true rfl⟩ (Nat.le_of_ble_eq_true rfl) dX9_copies_142 (fun H locs hW hS => ?_)
            refine lv_if_ne (tgt := 156) hx hb dX9_copies_145 (by decide) (fun c37 => ?_) (fun c37 => ?_)
            · rw [if_neg c37] at hf
              refine lv_aload_n hx hb dX9_copies_156 rfl (lv_at hl 2 rfl) ?_
              refine g_9_4 X hK hW flRX9_19 dX9_copies_157 ?_
              refine lv_bipush (v := 12) hx hb dX9_copies_160 (by decide) ?_
              refine lv_iload_n hx hb dX9_copies_162 rfl (lv_at hl 4 rfl) ?_
              refine lv_imul hx hb dX9_copies_163 ?_
              refine lv_lload hx hb dX9_copies_164 (lv_at hl 1 rfl) ?_
              refine lv_l2i (v := (y3.toInt64 + y4.toInt64).toInt32) hx hb dX9_copies_166 rfl ?_
              refine lv_iadd hx hb dX9_copies_167 ?_
              refine lv_iload hx hb dX9_copies_168 (lv_at hl 0 rfl) ?_
              obtain ⟨b38, hf⟩ := gd_some hf
              obtain ⟨N39, hN39, hf⟩ := lt1_some hf
              refine as_24 X hK hW hS b38 hN39 dX9_copies_170 (fun H locs hW hS => ?_)
              refine lv_iinc (v := (y4 + 1)) (lv' := [(4, .int (y4 + 1)), (7, .int (N0 24 0 ((12 * y1) + y4).toNatClampNeg)), (5, .long (y3.toInt64 + y4.toInt64)), (0, .ref (ad 20 0)), (1, .int y1), (2, .int y2), (3, .int y3)]) hx hb dX9_copies_171 hl (k := 6) rfl rfl (by decide) rfl (fun ls hl => ?_)
              refine lv_goto (tgt := 59) hx hb dX9_copies_174 (by decide) ?_
              exact ih _ _ _ _ _ _ hf _ _ _ hW hS (lv_sub hl [3, 4, 5, 6, 0] rfl)
            · rw [if_pos c37] at hf
              refine lv_aload_n hx hb dX9_copies_148 rfl (lv_at hl 2 rfl) ?_
              refine lv_iconst (v := 4) hx hb dX9_copies_149 (by decide) ?_
              obtain ⟨N41, h40, hf⟩ := ob1_some hf
              refine k_yX9_bad X hK hZ hW hS hl.1 h40 mlRX9_245 ⟨Nat.le_of_ble_eq_true rfl, Nat.le_of_ble_eq_true rfl⟩ ⟨Nat.le_of_ble_eq_true rfl, Nat.le_of_ble_eq_true rfl⟩ (Nat.le_of_ble_eq_true rfl) dX9_copies_150 (fun H locs hW hS => ?_)
              refine lv_goto (tgt := 171) hx hb dX9_copies_153 (by decide) ?_
              refine lv_iinc (v := (y4 + 1)) (lv' := [(4, .int (y4 + 1)), (7, .int (N0 24 0 ((12 * y1) + y4).toNatClampNeg)), (5, .long (y3.toInt64 + y4.toInt64)), (0, .ref (ad 20 0)), (1, .int y1), (2, .int y2), (3, .int y3)]) hx hb dX9_copies_171 hl (k := 6) rfl rfl (by decide) rfl (fun ls hl => ?_)
              refine lv_goto (tgt := 59) hx hb dX9_copies_174 (by decide) ?_
              exact ih _ _ _ _ _ _ hf _ _ _ hW hS (lv_sub hl [3, 4, 5, 6, 0] rfl)
          · rw [if_neg c34] at hf
            refine lv_aload_n hx hb dX9_copies_119 rfl (lv_at hl 2 rfl) ?_
            refine lv_iconst (v := 2) hx hb dX9_copies_120 (by decide) ?_
            obtain ⟨N43, h42, hf⟩ := ob1_some hf
            refine k_yX9_bad X hK hZ hW hS hl.1 h42 mlRX9_245 ⟨Nat.le_of_ble_eq_true rfl, Nat.le_of_ble_eq_true rfl⟩ ⟨Nat.le_of_ble_eq_true rfl, Nat.le_of_ble_eq_true rfl⟩ (Nat.le_of_ble_eq_true rfl) dX9_copies_121 (fun H locs hW hS => ?_)
            refine lv_goto (tgt := 171) hx hb dX9_copies_124 (by decide) ?_
            refine lv_iinc (v := (y4 + 1)) (lv' := [(4, .int (y4 + 1)), (7, .int (N0 24 0 ((12 * y1) + y4).toNatClampNeg)), (5, .long (y3.toInt64 + y4.toInt64)), (0, .ref (ad 20 0)), (1, .int y1), (2, .int y2), (3, .int y3)]) hx hb dX9_copies_171 hl (k := 6) rfl rfl (by decide) rfl (fun ls hl => ?_)
            refine lv_goto (tgt := 59) hx hb dX9_copies_174 (by decide) ?_
            exact ih _ _ _ _ _ _ hf _ _ _ hW hS (lv_sub hl [3, 4, 5, 6, 0] rfl)
set_option maxRecDepth 100000 in
set_option maxHeartbeats 4000000 in
theorem c_yX9_copies (l : Launch) (E : Lay) (ad : Nat → Nat → Nat) (M N : Mem) (x1 : Int32) (x2 : Int32) (x3 : Int32) (Nr : Mem) (hf : f_yX9_copies N x1 x2 x3 = some Nr) : Met l yX9_copies (Cond.code yX9_copies cX9_copies 8 none :: TB) (rmm 3 66) (va_Pc [.ref (ad 20 0), .int x1, .int x2, .int x3] (PB E ad (M, N))) (Qv E ad (M, Nr)) 0 0 (ow E) := by
  refine Met.ofW (cc := cX9_copies) (maxL := 8) (ret := none) (by decide) rfl ?_
  intro p e s m args below meth c s₁ B hml hv
  obtain ⟨rfl, hW, hK, hZ⟩ := hv
  have hT : ∀ w ∈ TB, w.before _ s = true := fun w h => atoms_spec (ws := (Cond.code yX9_copies cX9_copies 8 none :: TB)) B.pre w (List.mem_cons_of_mem _ h)
  have X : CX p s m _ meth c cX9_copies 8 none RX9 := ⟨B.exec, B.bytes, hml, findClass_of_methodNamed B.named, hT, B.returns, B.notSynchronized⟩
  obtain ⟨hx, hb, hml, hown, hT, hr, hlk⟩ := id X
  have hS : va_S (ow E) s.heap s.heap [] := va_S.rf
  have hl := lv_entry ([.ref (ad 20 0), .int x1, .int x2, .int x3]) (n := 8) (Nat.le_of_ble_eq_true rfl)
  rw [lg_entry_eq]
  generalize (lg_sl ([.ref (ad 20 0), .int x1, .int x2, .int x3]) ++ List.replicate (8 - (lg_sl ([.ref (ad 20 0), .int x1, .int x2, .int x3])).length) Slot.unset).toArray = ls at hl ⊢
  have hl : lv_has ls 8 [(0, .ref (ad 20 0)), (1, .int x1), (2, .int x2), (3, .int x3)] := hl
  unfold f_yX9_copies at hf
  refine lv_iload_n hx hb dX9_copies_0 rfl (lv_at hl 1 rfl) ?_
  refine lv_bipush (v := -4) hx hb dX9_copies_1 (by decide) ?_
  refine lv_icmp_eq (tgt := 16) hx hb dX9_copies_3 (by decide) (fun c1 => ?_) (fun c1 => ?_)
  · rw [if_pos c1] at hf
    refine lv_iload_n hx hb dX9_copies_16 rfl (lv_at hl 2 rfl) ?_
    refine lv_bipush (v := -4) hx hb dX9_copies_17 (by decide) ?_
    refine lv_icmp_eq (tgt := 38) hx hb dX9_copies_19 (by decide) (fun c2 => ?_) (fun c2 => ?_)
    · rw [if_pos c2] at hf
      refine lv_iload_n hx hb dX9_copies_38 rfl (lv_at hl 1 rfl) ?_
      refine lv_bipush (v := -4) hx hb dX9_copies_39 (by decide) ?_
      refine lv_icmp_eq (tgt := 50) hx hb dX9_copies_41 (by decide) (fun c3 => ?_) (fun c3 => ?_)
      · skip
        refine lv_aload_n hx hb dX9_copies_50 rfl (lv_at hl 0 rfl) ?_
        refine lv_iconst (v := 1) hx hb dX9_copies_51 (by decide) ?_
        obtain ⟨N5, h4, hf⟩ := ob1_some hf
        refine k_yX9_bad X hK hZ hW hS hl.1 h4 mlRX9_245 ⟨Nat.le_of_ble_eq_true rfl, Nat.le_of_ble_eq_true rfl⟩ ⟨Nat.le_of_ble_eq_true rfl, Nat.le_of_ble_eq_true rfl⟩ (Nat.le_of_ble_eq_true rfl) dX9_copies_52 (fun H locs hW hS => ?_)
        obtain rfl := sp1 hf
        exact e_v ⟨hx, hb, hr, hlk⟩ hW hS dX9_copies_55
      · exfalso; have := q_eq (b := -4) (by decide) c1; have := q_ne (b := -4) (by decide) c3; omega
    · rw [if_neg c2] at hf
      refine lv_aload_n hx hb dX9_copies_22 rfl (lv_at hl 0 rfl) ?_
      refine g_9_1 X hK hW flRX9_7 dX9_copies_23 ?_
      refine lv_iload_n hx hb dX9_copies_26 rfl (lv_at hl 2 rfl) ?_
      obtain ⟨b6, hf⟩ := gd_some hf
      refine al_21 X hK hW b6 dX9_copies_27 ?_
      refine lv_iconst (v := 4) hx hb dX9_copies_28 (by decide) ?_
      refine lv_icmp_ge (tgt := 38) hx hb dX9_copies_29 (by decide) (fun c7 => ?_) (fun c7 => ?_)
      · rw [if_pos c7] at hf
        refine lv_iload_n hx hb dX9_copies_38 rfl (lv_at hl 1 rfl) ?_
        refine lv_bipush (v := -4) hx hb dX9_copies_39 (by decide) ?_
        refine lv_icmp_eq (tgt := 50) hx hb dX9_copies_41 (by decide) (fun c8 => ?_) (fun c8 => ?_)
        · skip
          refine lv_aload_n hx hb dX9_copies_50 rfl (lv_at hl 0 rfl) ?_
          refine lv_iconst (v := 1) hx hb dX9_copies_51 (by decide) ?_
          obtain ⟨N10, h9, hf⟩ := ob1_some hf
          refine k_yX9_bad X hK hZ hW hS hl.1 h9 mlRX9_245 ⟨Nat.le_of_ble_eq_true rfl, Nat.le_of_ble_eq_true rfl⟩ ⟨Nat.le_of_ble_eq_true rfl, Nat.le_of_ble_eq_true rfl⟩ (Nat.le_of_ble_eq_true rfl) dX9_copies_52 (fun H locs hW hS => ?_)
          obtain rfl := sp1 hf
          exact e_v ⟨hx, hb, hr, hlk⟩ hW hS dX9_copies_55
        · exfalso; have := q_eq (b := -4) (by decide) c1; have := q_ne (b := -4) (by decide) c8; omega
      · rw [if_neg c7] at hf
        refine lv_aload_n hx hb dX9_copies_32 rfl (lv_at hl 0 rfl) ?_
        refine lv_iconst (v := 3) hx hb dX9_copies_33 (by decide) ?_
        obtain ⟨N12, h11, hf⟩ := ob1_some hf
        refine k_yX9_bad X hK hZ hW hS hl.1 h11 mlRX9_245 ⟨Nat.le_of_ble_eq_true rfl, Nat.le_of_ble_eq_true rfl⟩ ⟨Nat.le_of_ble_eq_true rfl, Nat.le_of_ble_eq_true rfl⟩ (Nat.le_of_ble_eq_true rfl) dX9_copies_34 (fun H locs hW hS => ?_)
        obtain rfl := sp1 hf
        exact e_v ⟨hx, hb, hr, hlk⟩ hW hS dX9_copies_37
  · rw [if_neg c1] at hf
    refine lv_aload_n hx hb dX9_copies_6 rfl (lv_at hl 0 rfl) ?_
    refine g_9_1 X hK hW flRX9_7 dX9_copies_7 ?_
    refine lv_iload_n hx hb dX9_copies_10 rfl (lv_at hl 1 rfl) ?_
    obtain ⟨b13, hf⟩ := gd_some hf
    refine al_21 X hK hW b13 dX9_copies_11 ?_
    refine lv_iconst (v := 4) hx hb dX9_copies_12 (by decide) ?_
    refine lv_icmp_lt (tgt := 32) hx hb dX9_copies_13 (by decide) (fun c14 => ?_) (fun c14 => ?_)
    · rw [if_pos c14] at hf
      refine lv_aload_n hx hb dX9_copies_32 rfl (lv_at hl 0 rfl) ?_
      refine lv_iconst (v := 3) hx hb dX9_copies_33 (by decide) ?_
      obtain ⟨N16, h15, hf⟩ := ob1_some hf
      refine k_yX9_bad X hK hZ hW hS hl.1 h15 mlRX9_245 ⟨Nat.le_of_ble_eq_true rfl, Nat.le_of_ble_eq_true rfl⟩ ⟨Nat.le_of_ble_eq_true rfl, Nat.le_of_ble_eq_true rfl⟩ (Nat.le_of_ble_eq_true rfl) dX9_copies_34 (fun H locs hW hS => ?_)
      obtain rfl := sp1 hf
      exact e_v ⟨hx, hb, hr, hlk⟩ hW hS dX9_copies_37
    · rw [if_neg c14] at hf
      refine lv_iload_n hx hb dX9_copies_16 rfl (lv_at hl 2 rfl) ?_
      refine lv_bipush (v := -4) hx hb dX9_copies_17 (by decide) ?_
      refine lv_icmp_eq (tgt := 38) hx hb dX9_copies_19 (by decide) (fun c17 => ?_) (fun c17 => ?_)
      · rw [if_pos c17] at hf
        refine lv_iload_n hx hb dX9_copies_38 rfl (lv_at hl 1 rfl) ?_
        refine lv_bipush (v := -4) hx hb dX9_copies_39 (by decide) ?_
        refine lv_icmp_eq (tgt := 50) hx hb dX9_copies_41 (by decide) (fun c18 => ?_) (fun c18 => ?_)
        · exfalso; have := q_ne (b := -4) (by decide) c1; have := q_eq (b := -4) (by decide) c18; omega
        · skip
          refine lv_iload_n hx hb dX9_copies_44 rfl (lv_at hl 2 rfl) ?_
          refine lv_bipush (v := -4) hx hb dX9_copies_45 (by decide) ?_
          refine lv_icmp_ne (tgt := 56) hx hb dX9_copies_47 (by decide) (fun c19 => ?_) (fun c19 => ?_)
          · exfalso; have := q_eq (b := -4) (by decide) c17; have := q_ne (b := -4) (by decide) c19; omega
          · skip
            refine lv_aload_n hx hb dX9_copies_50 rfl (lv_at hl 0 rfl) ?_
            refine lv_iconst (v := 1) hx hb dX9_copies_51 (by decide) ?_
            obtain ⟨N21, h20, hf⟩ := ob1_some hf
            refine k_yX9_bad X hK hZ hW hS hl.1 h20 mlRX9_245 ⟨Nat.le_of_ble_eq_true rfl, Nat.le_of_ble_eq_true rfl⟩ ⟨Nat.le_of_ble_eq_true rfl, Nat.le_of_ble_eq_true rfl⟩ (Nat.le_of_ble_eq_true rfl) dX9_copies_52 (fun H locs hW hS => ?_)
            obtain rfl := sp1 hf
            exact e_v ⟨hx, hb, hr, hlk⟩ hW hS dX9_copies_55
      · rw [if_neg c17] at hf
        refine lv_aload_n hx hb dX9_copies_22 rfl (lv_at hl 0 rfl) ?_
        refine g_9_1 X hK hW flRX9_7 dX9_copies_23 ?_
        refine lv_iload_n hx hb dX9_copies_26 rfl (lv_at hl 2 rfl) ?_
        obtain ⟨b22, hf⟩ := gd_some hf
        refine al_21 X hK hW b22 dX9_copies_27 ?_
        refine lv_iconst (v := 4) hx hb dX9_copies_28 (by decide) ?_
        refine lv_icmp_ge (tgt := 38) hx hb dX9_copies_29 (by decide) (fun c23 => ?_) (fun c23 => ?_)
        · rw [if_pos c23] at hf
          refine lv_iload_n hx hb dX9_copies_38 rfl (lv_at hl 1 rfl) ?_
          refine lv_bipush (v := -4) hx hb dX9_copies_39 (by decide) ?_
          refine lv_icmp_eq (tgt := 50) hx hb dX9_copies_41 (by decide) (fun c24 => ?_) (fun c24 => ?_)
          · exfalso; have := q_ne (b := -4) (by decide) c1; have := q_eq (b := -4) (by decide) c24; omega
          · skip
            refine lv_iload_n hx hb dX9_copies_44 rfl (lv_at hl 2 rfl) ?_
            refine lv_bipush (v := -4) hx hb dX9_copies_45 (by decide) ?_
            refine lv_icmp_ne (tgt := 56) hx hb dX9_copies_47 (by decide) (fun c25 => ?_) (fun c25 => ?_)
            · skip
              refine lv_iconst (v := 0) hx hb dX9_copies_56 (by decide) ?_
              refine lv_istore (lv' := [(4, .int 0), (0, .ref (ad 20 0)), (1, .int x1), (2, .int x2), (3, .int x3)]) hx hb dX9_copies_57 hl (by decide) rfl (fun ls hl => ?_)
              exact (l_yX9_copies_59 l E ad M X hK hZ 70) _ _ _ _ _ _ hf _ _ _ hW hS (lv_sub hl [1, 2, 3, 4, 0] rfl)
            · exfalso; have := q_ne (b := -4) (by decide) c17; have := q_eq (b := -4) (by decide) c25; omega
        · rw [if_neg c23] at hf
          refine lv_aload_n hx hb dX9_copies_32 rfl (lv_at hl 0 rfl) ?_
          refine lv_iconst (v := 3) hx hb dX9_copies_33 (by decide) ?_
          obtain ⟨N45, h44, hf⟩ := ob1_some hf
          refine k_yX9_bad X hK hZ hW hS hl.1 h44 mlRX9_245 ⟨Nat.le_of_ble_eq_true rfl, Nat.le_of_ble_eq_true rfl⟩ ⟨Nat.le_of_ble_eq_true rfl, Nat.le_of_ble_eq_true rfl⟩ (Nat.le_of_ble_eq_true rfl) dX9_copies_34 (fun H locs hW hS => ?_)
          obtain rfl := sp1 hf
          exact e_v ⟨hx, hb, hr, hlk⟩ hW hS dX9_copies_37
set_option maxRecDepth 100000 in
set_option maxHeartbeats 4000000 in
theorem k_yX9_copies {p : Program} {l : Launch} {e : Env} {R : Room} {s : State} {m : MethodId} {args : Array Value} {below : List Frame} {meth : Method} {c : Code} {H : Heap} {locs : List Loc} {cells slots : Nat} {Q : State → Prop} {cc : ByteArray} {pc nL index : Nat} {ret : Option FieldType} {own : String} {ls : Array Slot} {rest : List Value} {E : Lay} {ad : Nat → Nat → Nat} {M N : Mem} (X : CX p s m args meth c cc nL ret own) (hK : KK E s) (hZ : ZZ E s) (hW : WD E ad (M, N) H) (hS : va_S (ow E) s.heap H locs) (hsz : ls.size = nL) {x1 : Int32} {x2 : Int32} {x3 : Int32} {Nr : Mem} (hf : f_yX9_copies N x1 x2 x3 = some Nr) (hn : Cond.methodLink own index yX9_copies ∈ TB) (hR : 3 + 1 ≤ R.frames ∧ 8 + (8 + 11) + 66 ≤ R.locals) (hC : cells ≤ R.cells ∧ slots ≤ R.slots) (h8 : (rest.map fun v => v.category).sum ≤ 8) (hdg : decode cc pc = .ok (.invokevirtual index, 3)) (kk : ∀ (H1 : Heap) (locs1 : List Loc), WD E ad (M, Nr) H1 → va_S (ow E) s.heap H1 locs1 → W p l e R s m args below meth c H1 locs1 cells slots Q (F0 m (pc + 3) ls (rest))) : W p l e R s m args below meth c H locs cells slots Q (F0 m pc ls (.int x3 :: .int x2 :: .int x1 :: .ref (ad 20 0) :: rest)) := by
  refine va_callv (va_runV (C := RX9) (As := [.int x1, .int x2, .int x3]) (rest := rest) ⟨X.1, X.2.1, X.2.2.1, X.2.2.2.1, X.2.2.2.2.1⟩ (c_yX9_copies l E ad M N x1 x2 x3 Nr hf) (cwV 3 X.2.2.2.2.1 (gV hn im_yX9_copies se_yX9_copies iniRX9 cd_yX9_copies) rfl rfl rfl (by decide +kernel) hR) ⟨fun a U g mk q => ⟨q.1, q.2.calling⟩, va_recv hK.1 (hW.at (c := 20) (i := 0) Nat.zero_lt_one rfl) (ci := 9) (q0 := 0) rfl rfl, fun U hU hw => ⟨rfl, PB.at hW hK hZ hS hU hw⟩⟩ rfl rfl hsz rfl (lv_room h8) hdg hC) hS (fun _ _ h => h) (fun _ h => h) (fun u t H1 locs1 ht hvm hw hB hz1 hk1 hS1 => ?_)
  subst hw
  rw [ht] at hB
  exact kk H1 locs1 hB hS1
def f_yX9_later (x0 : Int32) (x1 : Int32) : Option (Int32) := (if x1 ≤ 1000000 then (some (x0 + x1)) else (some (x0 + 1000000)))
set_option maxRecDepth 100000 in
set_option maxHeartbeats 4000000 in
theorem c_yX9_later (l : Launch) (E : Lay) (ad : Nat → Nat → Nat) (M N : Mem) (x0 : Int32) (x1 : Int32) (r : Int32) (hf : f_yX9_later x0 x1 = some r) : Met l yX9_later (Cond.code yX9_later cX9_later 2 (some .int) :: TB) (rmm 0 0) (va_Pc [.int x0, .int x1] (PB E ad (M, N))) (Qi E ad r (M, N)) 0 0 (ow E) := by
  refine Met.ofW (cc := cX9_later) (maxL := 2) (ret := (some .int)) (by decide) rfl ?_
  intro p e s m args below meth c s₁ B hml hv
  obtain ⟨rfl, hW, hK, hZ⟩ := hv
  have hT : ∀ w ∈ TB, w.before _ s = true := fun w h => atoms_spec (ws := (Cond.code yX9_later cX9_later 2 (some .int) :: TB)) B.pre w (List.mem_cons_of_mem _ h)
  have X : CX p s m _ meth c cX9_later 2 (some .int) RX9 := ⟨B.exec, B.bytes, hml, findClass_of_methodNamed B.named, hT, B.returns, B.notSynchronized⟩
  obtain ⟨hx, hb, hml, hown, hT, hr, hlk⟩ := id X
  have hS : va_S (ow E) s.heap s.heap [] := va_S.rf
  have hl := lv_entry ([.int x0, .int x1]) (n := 2) (Nat.le_of_ble_eq_true rfl)
  rw [lg_entry_eq]
  generalize (lg_sl ([.int x0, .int x1]) ++ List.replicate (2 - (lg_sl ([.int x0, .int x1])).length) Slot.unset).toArray = ls at hl ⊢
  have hl : lv_has ls 2 [(0, .int x0), (1, .int x1)] := hl
  unfold f_yX9_later at hf
  refine lv_iload_n hx hb dX9_later_0 rfl (lv_at hl 0 rfl) ?_
  refine lv_iload_n hx hb dX9_later_1 rfl (lv_at hl 1 rfl) ?_
  refine lv_ldc (v := 1000000) hx hb hown (hT _ coRX9_254) dX9_later_2 ?_
  refine lv_icmp_le (tgt := 12) hx hb dX9_later_4 (by decide) (fun c1 => ?_) (fun c1 => ?_)
  · rw [if_pos c1] at hf
    refine lv_iload_n hx hb dX9_later_12 rfl (lv_at hl 1 rfl) ?_
    refine lv_iadd hx hb dX9_later_13 ?_
    obtain rfl := sp1 hf
    exact e_i ⟨hx, hb, hr, hlk⟩ hW hS dX9_later_14
  · rw [if_neg c1] at hf
    refine lv_ldc (v := 1000000) hx hb hown (hT _ coRX9_254) dX9_later_7 ?_
    refine lv_goto (tgt := 13) hx hb dX9_later_9 (by decide) ?_
    refine lv_iadd hx hb dX9_later_13 ?_
    obtain rfl := sp1 hf
    exact e_i ⟨hx, hb, hr, hlk⟩ hW hS dX9_later_14
set_option maxRecDepth 100000 in
set_option maxHeartbeats 4000000 in
theorem k_yX9_later {p : Program} {l : Launch} {e : Env} {R : Room} {s : State} {m : MethodId} {args : Array Value} {below : List Frame} {meth : Method} {c : Code} {H : Heap} {locs : List Loc} {cells slots : Nat} {Q : State → Prop} {cc : ByteArray} {pc nL index : Nat} {ret : Option FieldType} {own : String} {ls : Array Slot} {rest : List Value} {E : Lay} {ad : Nat → Nat → Nat} {M N : Mem} (X : CX p s m args meth c cc nL ret own) (hK : KK E s) (hZ : ZZ E s) (hW : WD E ad (M, N) H) (hS : va_S (ow E) s.heap H locs) (hsz : ls.size = nL) {x0 : Int32} {x1 : Int32} {r : Int32} (hf : f_yX9_later x0 x1 = some r) (hn : Cond.methodLink own index yX9_later ∈ TB) (hR : 0 + 1 ≤ R.frames ∧ 8 + (2 + 11) + 0 ≤ R.locals) (hC : cells ≤ R.cells ∧ slots ≤ R.slots) (h8 : (rest.map fun v => v.category).sum ≤ 8) (hdg : decode cc pc = .ok (.invokestatic index, 3)) (kk : ∀ (H1 : Heap) (locs1 : List Loc), WD E ad (M, N) H1 → va_S (ow E) s.heap H1 locs1 → W p l e R s m args below meth c H1 locs1 cells slots Q (F0 m (pc + 3) ls (.int r :: rest))) : W p l e R s m args below meth c H locs cells slots Q (F0 m pc ls (.int x1 :: .int x0 :: rest)) := by
  refine va_calli (va_runS (As := [.int x0, .int x1]) (rest := rest) ⟨X.1, X.2.1, X.2.2.1, X.2.2.2.1, X.2.2.2.2.1⟩ (c_yX9_later l E ad M N x0 x1 r hf) (va_cwS 2 X.2.2.2.2.1 (gS hn im_yX9_later iniRX9 cd_yX9_later) rfl rfl rfl (by decide +kernel) hR) ⟨fun a U g mk q => ⟨q.1, q.2.calling⟩, fun U hU hw => ⟨rfl, PB.at hW hK hZ hS hU hw⟩⟩ rfl rfl hsz rfl (lv_room h8) hdg hC) hS (fun _ _ h => h) (fun _ h => h) (fun r' u t H1 locs1 ht hvm hw hB hz1 hk1 hS1 => ?_)
  obtain ⟨rfl, rfl⟩ := hw
  rw [ht] at hB
  exact kk H1 locs1 hB hS1
def f_yX9_waits (N : Mem) (x1 : Int32) (x2 : Int32) (x3 : Int32) : Option Mem := gd (¬ (x1 < 0 ∨ 6 ≤ x1.toNatClampNeg)) ((if (N 35 0 x1.toNatClampNeg) = 0 then gd (¬ (x2 < 0 ∨ 32 ≤ x2.toNatClampNeg)) (lt1 (mp N 41 0 x1.toNatClampNeg (N 26 0 x2.toNatClampNeg)) (fun N4 => lt1 (mp N4 39 0 x1.toNatClampNeg x2) (fun N5 => lt1 (mp N5 31 0 x1.toNatClampNeg 4) (fun N6 => (if x3 ≤ 0 then lt1 (mp N6 40 0 x1.toNatClampNeg (-4)) (fun N8 => lt1 (mp N8 42 0 x1.toNatClampNeg (N8 20 0 6)) (fun N9 => lt1 (mp N9 20 0 6 ((N9 20 0 6) + 1)) (fun N10 => ob1 (f_yX9_isLeft N10 x2) (fun N12 => (some N12))))) else ob1 (f_yX9_later (N6 20 0 2) x3) (fun r14 => lt1 (mp N6 40 0 x1.toNatClampNeg r14) (fun N15 => lt1 (mp N15 42 0 x1.toNatClampNeg (N15 20 0 6)) (fun N16 => lt1 (mp N16 20 0 6 ((N16 20 0 6) + 1)) (fun N17 => ob1 (f_yX9_isLeft N17 x2) (fun N19 => (some N19))))))))))) else lt1 (mp N 35 0 x1.toNatClampNeg 0) (fun N20 => ob1 (f_yX9_bad N20 9) (fun N22 => (some N22)))))
set_option maxRecDepth 100000 in
set_option maxHeartbeats 4000000 in
theorem c_yX9_waits (l : Launch) (E : Lay) (ad : Nat → Nat → Nat) (M N : Mem) (x1 : Int32) (x2 : Int32) (x3 : Int32) (Nr : Mem) (hf : f_yX9_waits N x1 x2 x3 = some Nr) : Met l yX9_waits (Cond.code yX9_waits cX9_waits 4 none :: TB) (rmm 2 47) (va_Pc [.ref (ad 20 0), .int x1, .int x2, .int x3] (PB E ad (M, N))) (Qv E ad (M, Nr)) 0 0 (ow E) := by
  refine Met.ofW (cc := cX9_waits) (maxL := 4) (ret := none) (by decide) rfl ?_
  intro p e s m args below meth c s₁ B hml hv
  obtain ⟨rfl, hW, hK, hZ⟩ := hv
  have hT : ∀ w ∈ TB, w.before _ s = true := fun w h => atoms_spec (ws := (Cond.code yX9_waits cX9_waits 4 none :: TB)) B.pre w (List.mem_cons_of_mem _ h)
  have X : CX p s m _ meth c cX9_waits 4 none RX9 := ⟨B.exec, B.bytes, hml, findClass_of_methodNamed B.named, hT, B.returns, B.notSynchronized⟩
  obtain ⟨hx, hb, hml, hown, hT, hr, hlk⟩ := id X
  have hS : va_S (ow E) s.heap s.heap [] := va_S.rf
  have hl := lv_entry ([.ref (ad 20 0), .int x1, .int x2, .int x3]) (n := 4) (Nat.le_of_ble_eq_true rfl)
  rw [lg_entry_eq]
  generalize (lg_sl ([.ref (ad 20 0), .int x1, .int x2, .int x3]) ++ List.replicate (4 - (lg_sl ([.ref (ad 20 0), .int x1, .int x2, .int x3])).length) Slot.unset).toArray = ls at hl ⊢
  have hl : lv_has ls 4 [(0, .ref (ad 20 0)), (1, .int x1), (2, .int x2), (3, .int x3)] := hl
  unfold f_yX9_waits at hf
  refine lv_aload_n hx hb dX9_waits_0 rfl (lv_at hl 0 rfl) ?_
  refine g_9_16 X hK hW flRX9_52 dX9_waits_1 ?_
  refine lv_iload_n hx hb dX9_waits_4 rfl (lv_at hl 1 rfl) ?_
  obtain ⟨b1, hf⟩ := gd_some hf
  refine al_35 X hK hW b1 dX9_waits_5 ?_
  refine lv_if_eq (tgt := 23) hx hb dX9_waits_6 (by decide) (fun c2 => ?_) (fun c2 => ?_)
  · rw [if_pos c2] at hf
    refine lv_aload_n hx hb dX9_waits_23 rfl (lv_at hl 0 rfl) ?_
    refine g_9_22 X hK hW flRX9_71 dX9_waits_24 ?_
    refine lv_iload_n hx hb dX9_waits_27 rfl (lv_at hl 1 rfl) ?_
    refine lv_aload_n hx hb dX9_waits_28 rfl (lv_at hl 0 rfl) ?_
    refine g_9_6 X hK hW flRX9_25 dX9_waits_29 ?_
    refine lv_iload_n hx hb dX9_waits_32 rfl (lv_at hl 2 rfl) ?_
    obtain ⟨b3, hf⟩ := gd_some hf
    refine al_26 X hK hW b3 dX9_waits_33 ?_
    obtain ⟨N4, hN4, hf⟩ := lt1_some hf
    refine as_41 X hK hW hS b1 hN4 dX9_waits_34 (fun H locs hW hS => ?_)
    refine lv_aload_n hx hb dX9_waits_35 rfl (lv_at hl 0 rfl) ?_
    refine g_9_20 X hK hW flRX9_65 dX9_waits_36 ?_
    refine lv_iload_n hx hb dX9_waits_39 rfl (lv_at hl 1 rfl) ?_
    refine lv_iload_n hx hb dX9_waits_40 rfl (lv_at hl 2 rfl) ?_
    obtain ⟨N5, hN5, hf⟩ := lt1_some hf
    refine as_39 X hK hW hS b1 hN5 dX9_waits_41 (fun H locs hW hS => ?_)
    refine lv_aload_n hx hb dX9_waits_42 rfl (lv_at hl 0 rfl) ?_
    refine g_9_12 X hK hW flRX9_40 dX9_waits_43 ?_
    refine lv_iload_n hx hb dX9_waits_46 rfl (lv_at hl 1 rfl) ?_
    refine lv_iconst (v := 4) hx hb dX9_waits_47 (by decide) ?_
    obtain ⟨N6, hN6, hf⟩ := lt1_some hf
    refine as_31 X hK hW hS b1 hN6 dX9_waits_48 (fun H locs hW hS => ?_)
    refine lv_aload_n hx hb dX9_waits_49 rfl (lv_at hl 0 rfl) ?_
    refine g_9_21 X hK hW flRX9_68 dX9_waits_50 ?_
    refine lv_iload_n hx hb dX9_waits_53 rfl (lv_at hl 1 rfl) ?_
    refine lv_iload_n hx hb dX9_waits_54 rfl (lv_at hl 3 rfl) ?_
    refine lv_if_le (tgt := 69) hx hb dX9_waits_55 (by decide) (fun c7 => ?_) (fun c7 => ?_)
    · rw [if_pos c7] at hf
      refine lv_bipush (v := -4) hx hb dX9_waits_69 (by decide) ?_
      obtain ⟨N8, hN8, hf⟩ := lt1_some hf
      refine as_40 X hK hW hS b1 hN8 dX9_waits_71 (fun H locs hW hS => ?_)
      refine lv_aload_n hx hb dX9_waits_72 rfl (lv_at hl 0 rfl) ?_
      refine g_9_23 X hK hW flRX9_74 dX9_waits_73 ?_
      refine lv_iload_n hx hb dX9_waits_76 rfl (lv_at hl 1 rfl) ?_
      refine lv_aload_n hx hb dX9_waits_77 rfl (lv_at hl 0 rfl) ?_
      refine g_9_36 X hK hW flRX9_159 dX9_waits_78 ?_
      obtain ⟨N9, hN9, hf⟩ := lt1_some hf
      refine as_42 X hK hW hS b1 hN9 dX9_waits_81 (fun H locs hW hS => ?_)
      refine lv_aload_n hx hb dX9_waits_82 rfl (lv_at hl 0 rfl) ?_
      refine lv_dup hx hb dX9_waits_83 rfl ?_
      refine g_9_36 X hK hW flRX9_159 dX9_waits_84 ?_
      refine lv_iconst (v := 1) hx hb dX9_waits_87 (by decide) ?_
      refine lv_iadd hx hb dX9_waits_88 ?_
      obtain ⟨N10, hN10, hf⟩ := lt1_some hf
      refine p_9_36 X hK hW hS hN10 flRX9_159 dX9_waits_89 (fun H locs hW hS => ?_)
      refine lv_aload_n hx hb dX9_waits_92 rfl (lv_at hl 0 rfl) ?_
      refine lv_iload_n hx hb dX9_waits_93 rfl (lv_at hl 2 rfl) ?_
      obtain ⟨N12, h11, hf⟩ := ob1_some hf
      refine k_yX9_isLeft X hK hZ hW hS hl.1 h11 mlRX9_168 ⟨Nat.le_of_ble_eq_true rfl, Nat.le_of_ble_eq_true rfl⟩ ⟨Nat.le_of_ble_eq_true rfl, Nat.le_of_ble_eq_true rfl⟩ (Nat.le_of_ble_eq_true rfl) dX9_waits_94 (fun H locs hW hS => ?_)
      obtain rfl := sp1 hf
      exact e_v ⟨hx, hb, hr, hlk⟩ hW hS dX9_waits_97
    · rw [if_neg c7] at hf
      refine lv_aload_n hx hb dX9_waits_58 rfl (lv_at hl 0 rfl) ?_
      refine g_9_32 X hK hW flRX9_174 dX9_waits_59 ?_
      refine lv_iload_n hx hb dX9_waits_62 rfl (lv_at hl 3 rfl) ?_
      obtain ⟨r14, h13, hf⟩ := ob1_some hf
      refine k_yX9_later X hK hZ hW hS hl.1 h13 mlRX9_258 ⟨Nat.le_of_ble_eq_true rfl, Nat.le_of_ble_eq_true rfl⟩ ⟨Nat.le_of_ble_eq_true rfl, Nat.le_of_ble_eq_true rfl⟩ (Nat.le_of_ble_eq_true rfl) dX9_waits_63 (fun H locs hW hS => ?_)
      refine lv_goto (tgt := 71) hx hb dX9_waits_66 (by decide) ?_
      obtain ⟨N15, hN15, hf⟩ := lt1_some hf
      refine as_40 X hK hW hS b1 hN15 dX9_waits_71 (fun H locs hW hS => ?_)
      refine lv_aload_n hx hb dX9_waits_72 rfl (lv_at hl 0 rfl) ?_
      refine g_9_23 X hK hW flRX9_74 dX9_waits_73 ?_
      refine lv_iload_n hx hb dX9_waits_76 rfl (lv_at hl 1 rfl) ?_
      refine lv_aload_n hx hb dX9_waits_77 rfl (lv_at hl 0 rfl) ?_
      refine g_9_36 X hK hW flRX9_159 dX9_waits_78 ?_
      obtain ⟨N16, hN16, hf⟩ := lt1_some hf
      refine as_42 X hK hW hS b1 hN16 dX9_waits_81 (fun H locs hW hS => ?_)
      refine lv_aload_n hx hb dX9_waits_82 rfl (lv_at hl 0 rfl) ?_
      refine lv_dup hx hb dX9_waits_83 rfl ?_
      refine g_9_36 X hK hW flRX9_159 dX9_waits_84 ?_
      refine lv_iconst (v := 1) hx hb dX9_waits_87 (by decide) ?_
      refine lv_iadd hx hb dX9_waits_88 ?_
      obtain ⟨N17, hN17, hf⟩ := lt1_some hf
      refine p_9_36 X hK hW hS hN17 flRX9_159 dX9_waits_89 (fun H locs hW hS => ?_)
      refine lv_aload_n hx hb dX9_waits_92 rfl (lv_at hl 0 rfl) ?_
      refine lv_iload_n hx hb dX9_waits_93 rfl (lv_at hl 2 rfl) ?_
      obtain ⟨N19, h18, hf⟩ := ob1_some hf
      refine k_yX9_isLeft X hK hZ hW hS hl.1 h18 mlRX9_168 ⟨Nat.le_of_ble_eq_true rfl, Nat.le_of_ble_eq_true rfl⟩ ⟨Nat.le_of_ble_eq_true rfl, Nat.le_of_ble_eq_true rfl⟩ (Nat.le_of_ble_eq_true rfl) dX9_waits_94 (fun H locs hW hS => ?_)
      obtain rfl := sp1 hf
      exact e_v ⟨hx, hb, hr, hlk⟩ hW hS dX9_waits_97
  · rw [if_neg c2] at hf
    refine lv_aload_n hx hb dX9_waits_9 rfl (lv_at hl 0 rfl) ?_
    refine g_9_16 X hK hW flRX9_52 dX9_waits_10 ?_
    refine lv_iload_n hx hb dX9_waits_13 rfl (lv_at hl 1 rfl) ?_
    refine lv_iconst (v := 0) hx hb dX9_waits_14 (by decide) ?_
    obtain ⟨N20, hN20, hf⟩ := lt1_some hf
    refine as_35 X hK hW hS rfl b1 hN20 dX9_waits_15 (fun H locs hW hS => ?_)
    refine lv_aload_n hx hb dX9_waits_16 rfl (lv_at hl 0 rfl) ?_
    refine lv_bipush (v := 9) hx hb dX9_waits_17 (by decide) ?_
    obtain ⟨N22, h21, hf⟩ := ob1_some hf
    refine k_yX9_bad X hK hZ hW hS hl.1 h21 mlRX9_245 ⟨Nat.le_of_ble_eq_true rfl, Nat.le_of_ble_eq_true rfl⟩ ⟨Nat.le_of_ble_eq_true rfl, Nat.le_of_ble_eq_true rfl⟩ (Nat.le_of_ble_eq_true rfl) dX9_waits_19 (fun H locs hW hS => ?_)
    obtain rfl := sp1 hf
    exact e_v ⟨hx, hb, hr, hlk⟩ hW hS dX9_waits_22
set_option maxRecDepth 100000 in
set_option maxHeartbeats 4000000 in
theorem k_yX9_waits {p : Program} {l : Launch} {e : Env} {R : Room} {s : State} {m : MethodId} {args : Array Value} {below : List Frame} {meth : Method} {c : Code} {H : Heap} {locs : List Loc} {cells slots : Nat} {Q : State → Prop} {cc : ByteArray} {pc nL index : Nat} {ret : Option FieldType} {own : String} {ls : Array Slot} {rest : List Value} {E : Lay} {ad : Nat → Nat → Nat} {M N : Mem} (X : CX p s m args meth c cc nL ret own) (hK : KK E s) (hZ : ZZ E s) (hW : WD E ad (M, N) H) (hS : va_S (ow E) s.heap H locs) (hsz : ls.size = nL) {x1 : Int32} {x2 : Int32} {x3 : Int32} {Nr : Mem} (hf : f_yX9_waits N x1 x2 x3 = some Nr) (hn : Cond.methodLink own index yX9_waits ∈ TB) (hR : 2 + 1 ≤ R.frames ∧ 8 + (4 + 11) + 47 ≤ R.locals) (hC : cells ≤ R.cells ∧ slots ≤ R.slots) (h8 : (rest.map fun v => v.category).sum ≤ 8) (hdg : decode cc pc = .ok (.invokevirtual index, 3)) (kk : ∀ (H1 : Heap) (locs1 : List Loc), WD E ad (M, Nr) H1 → va_S (ow E) s.heap H1 locs1 → W p l e R s m args below meth c H1 locs1 cells slots Q (F0 m (pc + 3) ls (rest))) : W p l e R s m args below meth c H locs cells slots Q (F0 m pc ls (.int x3 :: .int x2 :: .int x1 :: .ref (ad 20 0) :: rest)) := by
  refine va_callv (va_runV (C := RX9) (As := [.int x1, .int x2, .int x3]) (rest := rest) ⟨X.1, X.2.1, X.2.2.1, X.2.2.2.1, X.2.2.2.2.1⟩ (c_yX9_waits l E ad M N x1 x2 x3 Nr hf) (cwV 3 X.2.2.2.2.1 (gV hn im_yX9_waits se_yX9_waits iniRX9 cd_yX9_waits) rfl rfl rfl (by decide +kernel) hR) ⟨fun a U g mk q => ⟨q.1, q.2.calling⟩, va_recv hK.1 (hW.at (c := 20) (i := 0) Nat.zero_lt_one rfl) (ci := 9) (q0 := 0) rfl rfl, fun U hU hw => ⟨rfl, PB.at hW hK hZ hS hU hw⟩⟩ rfl rfl hsz rfl (lv_room h8) hdg hC) hS (fun _ _ h => h) (fun _ h => h) (fun u t H1 locs1 ht hvm hw hB hz1 hk1 hS1 => ?_)
  subst hw
  rw [ht] at hB
  exact kk H1 locs1 hB hS1
def f_yX9_rests (N : Mem) (x1 : Int32) (x2 : Int32) (x3 : Int32) (x4 : Int32) : Option Mem := (if x2 = 31 then gd (¬ (x1 < 0 ∨ 6 ≤ x1.toNatClampNeg)) ((if (N 35 0 x1.toNatClampNeg) = 0 then gd (¬ (((6 * x1) + x3) < 0 ∨ 36 ≤ ((6 * x1) + x3).toNatClampNeg)) (lt1 (mp N 49 0 ((6 * x1) + x3).toNatClampNeg 0) (fun N5 => lt1 (mp N5 35 0 x1.toNatClampNeg 0) (fun N6 => (some N6)))) else gd (¬ (((6 * x1) + x3) < 0 ∨ 36 ≤ ((6 * x1) + x3).toNatClampNeg)) (lt1 (mp N 49 0 ((6 * x1) + x3).toNatClampNeg 1) (fun N8 => lt1 (mp N8 35 0 x1.toNatClampNeg 0) (fun N9 => (some N9)))))) else (if x2 = 32 then lt1 (mp N 20 0 7 7) (fun N11 => gd (¬ (((6 * x1) + x3) < 0 ∨ 36 ≤ ((6 * x1) + x3).toNatClampNeg)) (lt1 (mp N11 20 0 8 (N11 49 0 ((6 * x1) + x3).toNatClampNeg)) (fun N13 => (some N13)))) else (if x2 = 33 then gd (¬ (x1 < 0 ∨ 6 ≤ x1.toNatClampNeg)) ((if (N 46 0 x1.toNatClampNeg) = 8 then ob1 (f_yX9_bad N 11) (fun N23 => (some N23)) else gd (¬ (((8 * x1) + (N 46 0 x1.toNatClampNeg)) < 0 ∨ 48 ≤ ((8 * x1) + (N 46 0 x1.toNatClampNeg)).toNatClampNeg)) (lt1 (mp N 47 0 ((8 * x1) + (N 46 0 x1.toNatClampNeg)).toNatClampNeg x3) (fun N18 => gd (¬ (((8 * x1) + (N18 46 0 x1.toNatClampNeg)) < 0 ∨ 48 ≤ ((8 * x1) + (N18 46 0 x1.toNatClampNeg)).toNatClampNeg)) (lt1 (mp N18 48 0 ((8 * x1) + (N18 46 0 x1.toNatClampNeg)).toNatClampNeg x4) (fun N20 => lt1 (mp N20 46 0 x1.toNatClampNeg ((N20 46 0 x1.toNatClampNeg) + 1)) (fun N21 => (some N21)))))))) else (if x2 = 34 then gd (¬ (x1 < 0 ∨ 6 ≤ x1.toNatClampNeg)) ((if (N 46 0 x1.toNatClampNeg) ≤ 0 then lt1 (mp N 46 0 x1.toNatClampNeg ((N 46 0 x1.toNatClampNeg) - 0)) (fun N27 => (some N27)) else lt1 (mp N 46 0 x1.toNatClampNeg ((N 46 0 x1.toNatClampNeg) - 1)) (fun N28 => (some N28)))) else (if x2 = 35 then gd (¬ (x1 < 0 ∨ 6 ≤ x1.toNatClampNeg)) (gd (¬ (((6 * x1) + x3) < 0 ∨ 36 ≤ ((6 * x1) + x3).toNatClampNeg)) (lt1 (mp N 49 0 ((6 * x1) + x3).toNatClampNeg (N 44 0 x1.toNatClampNeg)) (fun N32 => gd (¬ (((6 * x1) + x4) < 0 ∨ 36 ≤ ((6 * x1) + x4).toNatClampNeg)) (lt1 (mp N32 49 0 ((6 * x1) + x4).toNatClampNeg (N32 45 0 x1.toNatClampNeg)) (fun N34 => (some N34)))))) else (some N))))))
set_option maxRecDepth 100000 in
set_option maxHeartbeats 4000000 in
theorem c_yX9_rests (l : Launch) (E : Lay) (ad : Nat → Nat → Nat) (M N : Mem) (x1 : Int32) (x2 : Int32) (x3 : Int32) (x4 : Int32) (Nr : Mem) (hf : f_yX9_rests N x1 x2 x3 x4 = some Nr) : Met l yX9_rests (Cond.code yX9_rests cX9_rests 6 none :: TB) (rmm 1 21) (va_Pc [.ref (ad 20 0), .int x1, .int x2, .int x3, .int x4] (PB E ad (M, N))) (Qv E ad (M, Nr)) 0 0 (ow E) := by
  refine Met.ofW (cc := cX9_rests) (maxL := 6) (ret := none) (by decide) rfl ?_
  intro p e s m args below meth c s₁ B hml hv
  obtain ⟨rfl, hW, hK, hZ⟩ := hv
  have hT : ∀ w ∈ TB, w.before _ s = true := fun w h => atoms_spec (ws := (Cond.code yX9_rests cX9_rests 6 none :: TB)) B.pre w (List.mem_cons_of_mem _ h)
  have X : CX p s m _ meth c cX9_rests 6 none RX9 := ⟨B.exec, B.bytes, hml, findClass_of_methodNamed B.named, hT, B.returns, B.notSynchronized⟩
  obtain ⟨hx, hb, hml, hown, hT, hr, hlk⟩ := id X
  have hS : va_S (ow E) s.heap s.heap [] := va_S.rf
  have hl := lv_entry ([.ref (ad 20 0), .int x1, .int x2, .int x3, .int x4]) (n := 6) (Nat.le_of_ble_eq_true rfl)
  rw [lg_entry_eq]
  generalize (lg_sl ([.ref (ad 20 0), .int x1, .int x2, .int x3, .int x4]) ++ List.replicate (6 - (lg_sl ([.ref (ad 20 0), .int x1, .int x2, .int x3, .int x4])).length) Slot.unset).toArray = ls at hl ⊢
  have hl : lv_has ls 6 [(0, .ref (ad 20 0)), (1, .int x1), (2, .int x2), (3, .int x3), (4, .int x4)] := hl
  unfold f_yX9_rests at hf
  refine lv_bipush (v := 6) hx hb dX9_rests_0 (by decide) ?_
  refine lv_iload_n hx hb dX9_rests_2 rfl (lv_at hl 1 rfl) ?_
  refine lv_imul hx hb dX9_rests_3 ?_
  refine lv_iload_n hx hb dX9_rests_4 rfl (lv_at hl 3 rfl) ?_
  refine lv_iadd hx hb dX9_rests_5 ?_
  refine lv_istore (lv' := [(5, .int ((6 * x1) + x3)), (0, .ref (ad 20 0)), (1, .int x1), (2, .int x2), (3, .int x3), (4, .int x4)]) hx hb dX9_rests_6 hl (by decide) rfl (fun ls hl => ?_)
  refine lv_iload_n hx hb dX9_rests_8 rfl (lv_at hl 3 rfl) ?_
  by_cases c1 : x2 = 31
  · rw [if_pos c1] at hf
    refine lv_tableIn (tgt := 44) hx hb dX9_rests_9 (by rw [c1]; decide) (by rw [c1]; decide) (by rw [c1]; rfl) (by decide) ?_
    refine lv_aload_n hx hb dX9_rests_44 rfl (lv_at hl 1 rfl) ?_
    refine g_9_30 X hK hW flRX9_95 dX9_rests_45 ?_
    refine lv_iload hx hb dX9_rests_48 (lv_at hl 0 rfl) ?_
    refine lv_aload_n hx hb dX9_rests_50 rfl (lv_at hl 1 rfl) ?_
    refine g_9_16 X hK hW flRX9_52 dX9_rests_51 ?_
    refine lv_iload_n hx hb dX9_rests_54 rfl (lv_at hl 2 rfl) ?_
    obtain ⟨b2, hf⟩ := gd_some hf
    refine al_35 X hK hW b2 dX9_rests_55 ?_
    refine lv_if_eq (tgt := 63) hx hb dX9_rests_56 (by decide) (fun c3 => ?_) (fun c3 => ?_)
    · rw [if_pos c3] at hf
      refine lv_iconst (v := 0) hx hb dX9_rests_63 (by decide) ?_
      obtain ⟨b4, hf⟩ := gd_some hf
      obtain ⟨N5, hN5, hf⟩ := lt1_some hf
      refine as_49 X hK hW hS b4 hN5 dX9_rests_64 (fun H locs hW hS => ?_)
      refine lv_aload_n hx hb dX9_rests_65 rfl (lv_at hl 1 rfl) ?_
      refine g_9_16 X hK hW flRX9_52 dX9_rests_66 ?_
      refine lv_iload_n hx hb dX9_rests_69 rfl (lv_at hl 2 rfl) ?_
      refine lv_iconst (v := 0) hx hb dX9_rests_70 (by decide) ?_
      obtain ⟨N6, hN6, hf⟩ := lt1_some hf
      refine as_35 X hK hW hS rfl b2 hN6 dX9_rests_71 (fun H locs hW hS => ?_)
      refine lv_goto (tgt := 223) hx hb dX9_rests_72 (by decide) ?_
      obtain rfl := sp1 hf
      exact e_v ⟨hx, hb, hr, hlk⟩ hW hS dX9_rests_223
    · rw [if_neg c3] at hf
      refine lv_iconst (v := 1) hx hb dX9_rests_59 (by decide) ?_
      refine lv_goto (tgt := 64) hx hb dX9_rests_60 (by decide) ?_
      obtain ⟨b7, hf⟩ := gd_some hf
      obtain ⟨N8, hN8, hf⟩ := lt1_some hf
      refine as_49 X hK hW hS b7 hN8 dX9_rests_64 (fun H locs hW hS => ?_)
      refine lv_aload_n hx hb dX9_rests_65 rfl (lv_at hl 1 rfl) ?_
      refine g_9_16 X hK hW flRX9_52 dX9_rests_66 ?_
      refine lv_iload_n hx hb dX9_rests_69 rfl (lv_at hl 2 rfl) ?_
      refine lv_iconst (v := 0) hx hb dX9_rests_70 (by decide) ?_
      obtain ⟨N9, hN9, hf⟩ := lt1_some hf
      refine as_35 X hK hW hS rfl b2 hN9 dX9_rests_71 (fun H locs hW hS => ?_)
      refine lv_goto (tgt := 223) hx hb dX9_rests_72 (by decide) ?_
      obtain rfl := sp1 hf
      exact e_v ⟨hx, hb, hr, hlk⟩ hW hS dX9_rests_223
  rw [if_neg c1] at hf
  by_cases c10 : x2 = 32
  · rw [if_pos c10] at hf
    refine lv_tableIn (tgt := 75) hx hb dX9_rests_9 (by rw [c10]; decide) (by rw [c10]; decide) (by rw [c10]; rfl) (by decide) ?_
    refine lv_aload_n hx hb dX9_rests_75 rfl (lv_at hl 1 rfl) ?_
    refine lv_bipush (v := 7) hx hb dX9_rests_76 (by decide) ?_
    obtain ⟨N11, hN11, hf⟩ := lt1_some hf
    refine p_9_37 X hK hW hS hN11 flRX9_184 dX9_rests_78 (fun H locs hW hS => ?_)
    refine lv_aload_n hx hb dX9_rests_81 rfl (lv_at hl 1 rfl) ?_
    refine lv_aload_n hx hb dX9_rests_82 rfl (lv_at hl 1 rfl) ?_
    refine g_9_30 X hK hW flRX9_95 dX9_rests_83 ?_
    refine lv_iload hx hb dX9_rests_86 (lv_at hl 0 rfl) ?_
    obtain ⟨b12, hf⟩ := gd_some hf
    refine al_49 X hK hW b12 dX9_rests_88 ?_
    obtain ⟨N13, hN13, hf⟩ := lt1_some hf
    refine p_9_38 X hK hW hS hN13 flRX9_187 dX9_rests_89 (fun H locs hW hS => ?_)
    refine lv_goto (tgt := 223) hx hb dX9_rests_92 (by decide) ?_
    obtain rfl := sp1 hf
    exact e_v ⟨hx, hb, hr, hlk⟩ hW hS dX9_rests_223
  rw [if_neg c10] at hf
  by_cases c14 : x2 = 33
  · rw [if_pos c14] at hf
    refine lv_tableIn (tgt := 95) hx hb dX9_rests_9 (by rw [c14]; decide) (by rw [c14]; decide) (by rw [c14]; rfl) (by decide) ?_
    refine lv_aload_n hx hb dX9_rests_95 rfl (lv_at hl 1 rfl) ?_
    refine g_9_27 X hK hW flRX9_86 dX9_rests_96 ?_
    refine lv_iload_n hx hb dX9_rests_99 rfl (lv_at hl 2 rfl) ?_
    obtain ⟨b15, hf⟩ := gd_some hf
    refine al_46 X hK hW b15 dX9_rests_100 ?_
    refine lv_bipush (v := 8) hx hb dX9_rests_101 (by decide) ?_
    refine lv_icmp_ne (tgt := 115) hx hb dX9_rests_103 (by decide) (fun c16 => ?_) (fun c16 => ?_)
    · rw [if_neg c16] at hf
      refine lv_aload_n hx hb dX9_rests_115 rfl (lv_at hl 1 rfl) ?_
      refine g_9_28 X hK hW flRX9_89 dX9_rests_116 ?_
      refine lv_bipush (v := 8) hx hb dX9_rests_119 (by decide) ?_
      refine lv_iload_n hx hb dX9_rests_121 rfl (lv_at hl 2 rfl) ?_
      refine lv_imul hx hb dX9_rests_122 ?_
      refine lv_aload_n hx hb dX9_rests_123 rfl (lv_at hl 1 rfl) ?_
      refine g_9_27 X hK hW flRX9_86 dX9_rests_124 ?_
      refine lv_iload_n hx hb dX9_rests_127 rfl (lv_at hl 2 rfl) ?_
      refine al_46 X hK hW b15 dX9_rests_128 ?_
      refine lv_iadd hx hb dX9_rests_129 ?_
      refine lv_iload_n hx hb dX9_rests_130 rfl (lv_at hl 4 rfl) ?_
      obtain ⟨b17, hf⟩ := gd_some hf
      obtain ⟨N18, hN18, hf⟩ := lt1_some hf
      refine as_47 X hK hW hS b17 hN18 dX9_rests_131 (fun H locs hW hS => ?_)
      refine lv_aload_n hx hb dX9_rests_132 rfl (lv_at hl 1 rfl) ?_
      refine g_9_29 X hK hW flRX9_92 dX9_rests_133 ?_
      refine lv_bipush (v := 8) hx hb dX9_rests_136 (by decide) ?_
      refine lv_iload_n hx hb dX9_rests_138 rfl (lv_at hl 2 rfl) ?_
      refine lv_imul hx hb dX9_rests_139 ?_
      refine lv_aload_n hx hb dX9_rests_140 rfl (lv_at hl 1 rfl) ?_
      refine g_9_27 X hK hW flRX9_86 dX9_rests_141 ?_
      refine lv_iload_n hx hb dX9_rests_144 rfl (lv_at hl 2 rfl) ?_
      refine al_46 X hK hW b15 dX9_rests_145 ?_
      refine lv_iadd hx hb dX9_rests_146 ?_
      refine lv_iload hx hb dX9_rests_147 (lv_at hl 5 rfl) ?_
      obtain ⟨b19, hf⟩ := gd_some hf
      obtain ⟨N20, hN20, hf⟩ := lt1_some hf
      refine as_48 X hK hW hS b19 hN20 dX9_rests_149 (fun H locs hW hS => ?_)
      refine lv_aload_n hx hb dX9_rests_150 rfl (lv_at hl 1 rfl) ?_
      refine g_9_27 X hK hW flRX9_86 dX9_rests_151 ?_
      refine lv_iload_n hx hb dX9_rests_154 rfl (lv_at hl 2 rfl) ?_
      refine lv_dup2_11 hx hb dX9_rests_155 rfl rfl ?_
      refine al_46 X hK hW b15 dX9_rests_156 ?_
      refine lv_iconst (v := 1) hx hb dX9_rests_157 (by decide) ?_
      refine lv_iadd hx hb dX9_rests_158 ?_
      obtain ⟨N21, hN21, hf⟩ := lt1_some hf
      refine as_46 X hK hW hS b15 hN21 dX9_rests_159 (fun H locs hW hS => ?_)
      refine lv_goto (tgt := 223) hx hb dX9_rests_160 (by decide) ?_
      obtain rfl := sp1 hf
      exact e_v ⟨hx, hb, hr, hlk⟩ hW hS dX9_rests_223
    · rw [if_pos c16] at hf
      refine lv_aload_n hx hb dX9_rests_106 rfl (lv_at hl 1 rfl) ?_
      refine lv_bipush (v := 11) hx hb dX9_rests_107 (by decide) ?_
      obtain ⟨N23, h22, hf⟩ := ob1_some hf
      refine k_yX9_bad X hK hZ hW hS hl.1 h22 mlRX9_245 ⟨Nat.le_of_ble_eq_true rfl, Nat.le_of_ble_eq_true rfl⟩ ⟨Nat.le_of_ble_eq_true rfl, Nat.le_of_ble_eq_true rfl⟩ (Nat.le_of_ble_eq_true rfl) dX9_rests_109 (fun H locs hW hS => ?_)
      refine lv_goto (tgt := 223) hx hb dX9_rests_112 (by decide) ?_
      obtain rfl := sp1 hf
      exact e_v ⟨hx, hb, hr, hlk⟩ hW hS dX9_rests_223
  rw [if_neg c14] at hf
  by_cases c24 : x2 = 34
  · rw [if_pos c24] at hf
    refine lv_tableIn (tgt := 163) hx hb dX9_rests_9 (by rw [c24]; decide) (by rw [c24]; decide) (by rw [c24]; rfl) (by decide) ?_
    refine lv_aload_n hx hb dX9_rests_163 rfl (lv_at hl 1 rfl) ?_
    refine g_9_27 X hK hW flRX9_86 dX9_rests_164 ?_
    refine lv_iload_n hx hb dX9_rests_167 rfl (lv_at hl 2 rfl) ?_
    refine lv_dup2_11 hx hb dX9_rests_168 rfl rfl ?_
    obtain ⟨b25, hf⟩ := gd_some hf
    refine al_46 X hK hW b25 dX9_rests_169 ?_
    refine lv_aload_n hx hb dX9_rests_170 rfl (lv_at hl 1 rfl) ?_
    refine g_9_27 X hK hW flRX9_86 dX9_rests_171 ?_
    refine lv_iload_n hx hb dX9_rests_174 rfl (lv_at hl 2 rfl) ?_
    refine al_46 X hK hW b25 dX9_rests_175 ?_
    refine lv_if_le (tgt := 183) hx hb dX9_rests_176 (by decide) (fun c26 => ?_) (fun c26 => ?_)
    · rw [if_pos c26] at hf
      refine lv_iconst (v := 0) hx hb dX9_rests_183 (by decide) ?_
      refine lv_isub hx hb dX9_rests_184 ?_
      obtain ⟨N27, hN27, hf⟩ := lt1_some hf
      refine as_46 X hK hW hS b25 hN27 dX9_rests_185 (fun H locs hW hS => ?_)
      refine lv_goto (tgt := 223) hx hb dX9_rests_186 (by decide) ?_
      obtain rfl := sp1 hf
      exact e_v ⟨hx, hb, hr, hlk⟩ hW hS dX9_rests_223
    · rw [if_neg c26] at hf
      refine lv_iconst (v := 1) hx hb dX9_rests_179 (by decide) ?_
      refine lv_goto (tgt := 184) hx hb dX9_rests_180 (by decide) ?_
      refine lv_isub hx hb dX9_rests_184 ?_
      obtain ⟨N28, hN28, hf⟩ := lt1_some hf
      refine as_46 X hK hW hS b25 hN28 dX9_rests_185 (fun H locs hW hS => ?_)
      refine lv_goto (tgt := 223) hx hb dX9_rests_186 (by decide) ?_
      obtain rfl := sp1 hf
      exact e_v ⟨hx, hb, hr, hlk⟩ hW hS dX9_rests_223
  rw [if_neg c24] at hf
  by_cases c29 : x2 = 35
  · rw [if_pos c29] at hf
    refine lv_tableIn (tgt := 189) hx hb dX9_rests_9 (by rw [c29]; decide) (by rw [c29]; decide) (by rw [c29]; rfl) (by decide) ?_
    refine lv_aload_n hx hb dX9_rests_189 rfl (lv_at hl 1 rfl) ?_
    refine g_9_30 X hK hW flRX9_95 dX9_rests_190 ?_
    refine lv_iload hx hb dX9_rests_193 (lv_at hl 0 rfl) ?_
    refine lv_aload_n hx hb dX9_rests_195 rfl (lv_at hl 1 rfl) ?_
    refine g_9_25 X hK hW flRX9_80 dX9_rests_196 ?_
    refine lv_iload_n hx hb dX9_rests_199 rfl (lv_at hl 2 rfl) ?_
    obtain ⟨b30, hf⟩ := gd_some hf
    refine al_44 X hK hW b30 dX9_rests_200 ?_
    obtain ⟨b31, hf⟩ := gd_some hf
    obtain ⟨N32, hN32, hf⟩ := lt1_some hf
    refine as_49 X hK hW hS b31 hN32 dX9_rests_201 (fun H locs hW hS => ?_)
    refine lv_aload_n hx hb dX9_rests_202 rfl (lv_at hl 1 rfl) ?_
    refine g_9_30 X hK hW flRX9_95 dX9_rests_203 ?_
    refine lv_bipush (v := 6) hx hb dX9_rests_206 (by decide) ?_
    refine lv_iload_n hx hb dX9_rests_208 rfl (lv_at hl 2 rfl) ?_
    refine lv_imul hx hb dX9_rests_209 ?_
    refine lv_iload hx hb dX9_rests_210 (lv_at hl 5 rfl) ?_
    refine lv_iadd hx hb dX9_rests_212 ?_
    refine lv_aload_n hx hb dX9_rests_213 rfl (lv_at hl 1 rfl) ?_
    refine g_9_26 X hK hW flRX9_83 dX9_rests_214 ?_
    refine lv_iload_n hx hb dX9_rests_217 rfl (lv_at hl 2 rfl) ?_
    refine al_45 X hK hW b30 dX9_rests_218 ?_
    obtain ⟨b33, hf⟩ := gd_some hf
    obtain ⟨N34, hN34, hf⟩ := lt1_some hf
    refine as_49 X hK hW hS b33 hN34 dX9_rests_219 (fun H locs hW hS => ?_)
    refine lv_goto (tgt := 223) hx hb dX9_rests_220 (by decide) ?_
    obtain rfl := sp1 hf
    exact e_v ⟨hx, hb, hr, hlk⟩ hW hS dX9_rests_223
  rw [if_neg c29] at hf
  refine lv_tableOut (tgt := 223) hx hb dX9_rests_9 (by have := lv_neT (a := 31) c1 (by decide); have := lv_neT (a := 32) c10 (by decide); have := lv_neT (a := 33) c14 (by decide); have := lv_neT (a := 34) c24 (by decide); have := lv_neT (a := 35) c29 (by decide); omega) (by decide) ?_
  obtain rfl := sp1 hf
  exact e_v ⟨hx, hb, hr, hlk⟩ hW hS dX9_rests_223
set_option maxRecDepth 100000 in
set_option maxHeartbeats 4000000 in
theorem k_yX9_rests {p : Program} {l : Launch} {e : Env} {R : Room} {s : State} {m : MethodId} {args : Array Value} {below : List Frame} {meth : Method} {c : Code} {H : Heap} {locs : List Loc} {cells slots : Nat} {Q : State → Prop} {cc : ByteArray} {pc nL index : Nat} {ret : Option FieldType} {own : String} {ls : Array Slot} {rest : List Value} {E : Lay} {ad : Nat → Nat → Nat} {M N : Mem} (X : CX p s m args meth c cc nL ret own) (hK : KK E s) (hZ : ZZ E s) (hW : WD E ad (M, N) H) (hS : va_S (ow E) s.heap H locs) (hsz : ls.size = nL) {x1 : Int32} {x2 : Int32} {x3 : Int32} {x4 : Int32} {Nr : Mem} (hf : f_yX9_rests N x1 x2 x3 x4 = some Nr) (hn : Cond.methodLink own index yX9_rests ∈ TB) (hR : 1 + 1 ≤ R.frames ∧ 8 + (6 + 11) + 21 ≤ R.locals) (hC : cells ≤ R.cells ∧ slots ≤ R.slots) (h8 : (rest.map fun v => v.category).sum ≤ 8) (hdg : decode cc pc = .ok (.invokevirtual index, 3)) (kk : ∀ (H1 : Heap) (locs1 : List Loc), WD E ad (M, Nr) H1 → va_S (ow E) s.heap H1 locs1 → W p l e R s m args below meth c H1 locs1 cells slots Q (F0 m (pc + 3) ls (rest))) : W p l e R s m args below meth c H locs cells slots Q (F0 m pc ls (.int x4 :: .int x3 :: .int x2 :: .int x1 :: .ref (ad 20 0) :: rest)) := by
  refine va_callv (va_runV (C := RX9) (As := [.int x1, .int x2, .int x3, .int x4]) (rest := rest) ⟨X.1, X.2.1, X.2.2.1, X.2.2.2.1, X.2.2.2.2.1⟩ (c_yX9_rests l E ad M N x1 x2 x3 x4 Nr hf) (cwV 4 X.2.2.2.2.1 (gV hn im_yX9_rests se_yX9_rests iniRX9 cd_yX9_rests) rfl rfl rfl (by decide +kernel) hR) ⟨fun a U g mk q => ⟨q.1, q.2.calling⟩, va_recv hK.1 (hW.at (c := 20) (i := 0) Nat.zero_lt_one rfl) (ci := 9) (q0 := 0) rfl rfl, fun U hU hw => ⟨rfl, PB.at hW hK hZ hS hU hw⟩⟩ rfl rfl hsz rfl (lv_room h8) hdg hC) hS (fun _ _ h => h) (fun _ h => h) (fun u t H1 locs1 ht hvm hw hB hz1 hk1 hS1 => ?_)
  subst hw
  rw [ht] at hB
  exact kk H1 locs1 hB hS1
def f_yX9_told (N : Mem) (x1 : Int32) (x2 : Int32) : Option (Int32) := ob1 (f_yX9_in x1 0 5) (fun r2 => (if r2 = 0 then (some (-1)) else ob1 (f_yX9_in x2 0 8) (fun r5 => (if r5 = 0 then (some (-1)) else gd (¬ (x1 < 0 ∨ 6 ≤ x1.toNatClampNeg)) ((if (N 31 0 x1.toNatClampNeg) = 0 then (if x2 = 0 then (some (N 31 0 x1.toNatClampNeg)) else (if x2 = 1 then (some (N 34 0 x1.toNatClampNeg)) else (if x2 = 2 then (some (N 37 0 x1.toNatClampNeg)) else (if x2 = 3 then (some (N 38 0 x1.toNatClampNeg)) else (if x2 = 4 then (if (N 35 0 x1.toNatClampNeg) = 0 then (some 0) else (some 1)) else (if x2 = 5 then (some (-4)) else (if x2 = 6 then (some (-4)) else (if x2 = 7 then (some (N 46 0 x1.toNatClampNeg)) else (some (N 43 0 x1.toNatClampNeg)))))))))) else (if x2 = 0 then (some (N 31 0 x1.toNatClampNeg)) else (if x2 = 1 then (some (N 34 0 x1.toNatClampNeg)) else (if x2 = 2 then (some (N 37 0 x1.toNatClampNeg)) else (if x2 = 3 then (some (N 38 0 x1.toNatClampNeg)) else (if x2 = 4 then (if (N 35 0 x1.toNatClampNeg) = 0 then (some 0) else (some 1)) else (if x2 = 5 then ob1 (f_yX9_in (N 31 0 x1.toNatClampNeg) 3 6) (fun r29 => (if r29 = 0 then (some (-4)) else (if (N 31 0 x1.toNatClampNeg) = 5 then (some (-4)) else (some (N 39 0 x1.toNatClampNeg))))) else (if x2 = 6 then (if (N 31 0 x1.toNatClampNeg) = 5 then (some (N 40 0 x1.toNatClampNeg)) else (if (N 31 0 x1.toNatClampNeg) = 4 then (some (N 40 0 x1.toNatClampNeg)) else (some (-4)))) else (if x2 = 7 then (some (N 46 0 x1.toNatClampNeg)) else (some (N 43 0 x1.toNatClampNeg))))))))))))))))
set_option maxRecDepth 100000 in
set_option maxHeartbeats 4000000 in
theorem c_yX9_told (l : Launch) (E : Lay) (ad : Nat → Nat → Nat) (M N : Mem) (x1 : Int32) (x2 : Int32) (r : Int32) (hf : f_yX9_told N x1 x2 = some r) : Met l yX9_told (Cond.code yX9_told cX9_told 4 (some .int) :: TB) (rmm 1 22) (va_Pc [.ref (ad 20 0), .int x1, .int x2] (PB E ad (M, N))) (Qi E ad r (M, N)) 0 0 (ow E) := by
  refine Met.ofW (cc := cX9_told) (maxL := 4) (ret := (some .int)) (by decide) rfl ?_
  intro p e s m args below meth c s₁ B hml hv
  obtain ⟨rfl, hW, hK, hZ⟩ := hv
  have hT : ∀ w ∈ TB, w.before _ s = true := fun w h => atoms_spec (ws := (Cond.code yX9_told cX9_told 4 (some .int) :: TB)) B.pre w (List.mem_cons_of_mem _ h)
  have X : CX p s m _ meth c cX9_told 4 (some .int) RX9 := ⟨B.exec, B.bytes, hml, findClass_of_methodNamed B.named, hT, B.returns, B.notSynchronized⟩
  obtain ⟨hx, hb, hml, hown, hT, hr, hlk⟩ := id X
  have hS : va_S (ow E) s.heap s.heap [] := va_S.rf
  have hl := lv_entry ([.ref (ad 20 0), .int x1, .int x2]) (n := 4) (Nat.le_of_ble_eq_true rfl)
  rw [lg_entry_eq]
  generalize (lg_sl ([.ref (ad 20 0), .int x1, .int x2]) ++ List.replicate (4 - (lg_sl ([.ref (ad 20 0), .int x1, .int x2])).length) Slot.unset).toArray = ls at hl ⊢
  have hl : lv_has ls 4 [(0, .ref (ad 20 0)), (1, .int x1), (2, .int x2)] := hl
  unfold f_yX9_told at hf
  refine lv_iload_n hx hb dX9_told_0 rfl (lv_at hl 1 rfl) ?_
  refine lv_iconst (v := 0) hx hb dX9_told_1 (by decide) ?_
  refine lv_iconst (v := 5) hx hb dX9_told_2 (by decide) ?_
  obtain ⟨r2, h1, hf⟩ := ob1_some hf
  refine k_yX9_in X hK hZ hW hS hl.1 h1 mlRX9_114 ⟨Nat.le_of_ble_eq_true rfl, Nat.le_of_ble_eq_true rfl⟩ ⟨Nat.le_of_ble_eq_true rfl, Nat.le_of_ble_eq_true rfl⟩ (Nat.le_of_ble_eq_true rfl) dX9_told_3 (fun H locs hW hS => ?_)
  refine lv_if_eq (tgt := 19) hx hb dX9_told_6 (by decide) (fun c3 => ?_) (fun c3 => ?_)
  · rw [if_pos c3] at hf
    refine lv_iconst (v := -1) hx hb dX9_told_19 (by decide) ?_
    obtain rfl := sp1 hf
    exact e_i ⟨hx, hb, hr, hlk⟩ hW hS dX9_told_20
  · rw [if_neg c3] at hf
    refine lv_iload_n hx hb dX9_told_9 rfl (lv_at hl 2 rfl) ?_
    refine lv_iconst (v := 0) hx hb dX9_told_10 (by decide) ?_
    refine lv_bipush (v := 8) hx hb dX9_told_11 (by decide) ?_
    obtain ⟨r5, h4, hf⟩ := ob1_some hf
    refine k_yX9_in X hK hZ hW hS hl.1 h4 mlRX9_114 ⟨Nat.le_of_ble_eq_true rfl, Nat.le_of_ble_eq_true rfl⟩ ⟨Nat.le_of_ble_eq_true rfl, Nat.le_of_ble_eq_true rfl⟩ (Nat.le_of_ble_eq_true rfl) dX9_told_13 (fun H locs hW hS => ?_)
    refine lv_if_ne (tgt := 21) hx hb dX9_told_16 (by decide) (fun c6 => ?_) (fun c6 => ?_)
    · rw [if_neg c6] at hf
      refine lv_aload_n hx hb dX9_told_21 rfl (lv_at hl 0 rfl) ?_
      refine g_9_12 X hK hW flRX9_40 dX9_told_22 ?_
      refine lv_iload_n hx hb dX9_told_25 rfl (lv_at hl 1 rfl) ?_
      obtain ⟨b7, hf⟩ := gd_some hf
      refine al_31 X hK hW b7 dX9_told_26 ?_
      refine lv_if_eq (tgt := 34) hx hb dX9_told_27 (by decide) (fun c8 => ?_) (fun c8 => ?_)
      · rw [if_pos c8] at hf
        refine lv_iconst (v := 0) hx hb dX9_told_34 (by decide) ?_
        refine lv_istore_n (lv' := [(3, .int 0), (0, .ref (ad 20 0)), (1, .int x1), (2, .int x2)]) hx hb dX9_told_35 rfl hl (by decide) rfl (fun ls hl => ?_)
        refine lv_iload_n hx hb dX9_told_36 rfl (lv_at hl 3 rfl) ?_
        by_cases c9 : x2 = 0
        · rw [if_pos c9] at hf
          refine lv_tableIn (tgt := 84) hx hb dX9_told_37 (by rw [c9]; decide) (by rw [c9]; decide) (by rw [c9]; rfl) (by decide) ?_
          refine lv_aload_n hx hb dX9_told_84 rfl (lv_at hl 1 rfl) ?_
          refine g_9_12 X hK hW flRX9_40 dX9_told_85 ?_
          refine lv_iload_n hx hb dX9_told_88 rfl (lv_at hl 2 rfl) ?_
          refine al_31 X hK hW b7 dX9_told_89 ?_
          obtain rfl := sp1 hf
          exact e_i ⟨hx, hb, hr, hlk⟩ hW hS dX9_told_90
        rw [if_neg c9] at hf
        by_cases c10 : x2 = 1
        · rw [if_pos c10] at hf
          refine lv_tableIn (tgt := 91) hx hb dX9_told_37 (by rw [c10]; decide) (by rw [c10]; decide) (by rw [c10]; rfl) (by decide) ?_
          refine lv_aload_n hx hb dX9_told_91 rfl (lv_at hl 1 rfl) ?_
          refine g_9_15 X hK hW flRX9_49 dX9_told_92 ?_
          refine lv_iload_n hx hb dX9_told_95 rfl (lv_at hl 2 rfl) ?_
          refine al_34 X hK hW b7 dX9_told_96 ?_
          obtain rfl := sp1 hf
          exact e_i ⟨hx, hb, hr, hlk⟩ hW hS dX9_told_97
        rw [if_neg c10] at hf
        by_cases c11 : x2 = 2
        · rw [if_pos c11] at hf
          refine lv_tableIn (tgt := 98) hx hb dX9_told_37 (by rw [c11]; decide) (by rw [c11]; decide) (by rw [c11]; rfl) (by decide) ?_
          refine lv_aload_n hx hb dX9_told_98 rfl (lv_at hl 1 rfl) ?_
          refine g_9_18 X hK hW flRX9_59 dX9_told_99 ?_
          refine lv_iload_n hx hb dX9_told_102 rfl (lv_at hl 2 rfl) ?_
          refine al_37 X hK hW b7 dX9_told_103 ?_
          obtain rfl := sp1 hf
          exact e_i ⟨hx, hb, hr, hlk⟩ hW hS dX9_told_104
        rw [if_neg c11] at hf
        by_cases c12 : x2 = 3
        · rw [if_pos c12] at hf
          refine lv_tableIn (tgt := 105) hx hb dX9_told_37 (by rw [c12]; decide) (by rw [c12]; decide) (by rw [c12]; rfl) (by decide) ?_
          refine lv_aload_n hx hb dX9_told_105 rfl (lv_at hl 1 rfl) ?_
          refine g_9_19 X hK hW flRX9_62 dX9_told_106 ?_
          refine lv_iload_n hx hb dX9_told_109 rfl (lv_at hl 2 rfl) ?_
          refine al_38 X hK hW b7 dX9_told_110 ?_
          obtain rfl := sp1 hf
          exact e_i ⟨hx, hb, hr, hlk⟩ hW hS dX9_told_111
        rw [if_neg c12] at hf
        by_cases c13 : x2 = 4
        · rw [if_pos c13] at hf
          refine lv_tableIn (tgt := 112) hx hb dX9_told_37 (by rw [c13]; decide) (by rw [c13]; decide) (by rw [c13]; rfl) (by decide) ?_
          refine lv_aload_n hx hb dX9_told_112 rfl (lv_at hl 1 rfl) ?_
          refine g_9_16 X hK hW flRX9_52 dX9_told_113 ?_
          refine lv_iload_n hx hb dX9_told_116 rfl (lv_at hl 2 rfl) ?_
          refine al_35 X hK hW b7 dX9_told_117 ?_
          refine lv_if_eq (tgt := 125) hx hb dX9_told_118 (by decide) (fun c14 => ?_) (fun c14 => ?_)
          · rw [if_pos c14] at hf
            refine lv_iconst (v := 0) hx hb dX9_told_125 (by decide) ?_
            obtain rfl := sp1 hf
            exact e_i ⟨hx, hb, hr, hlk⟩ hW hS dX9_told_126
          · rw [if_neg c14] at hf
            refine lv_iconst (v := 1) hx hb dX9_told_121 (by decide) ?_
            refine lv_goto (tgt := 126) hx hb dX9_told_122 (by decide) ?_
            obtain rfl := sp1 hf
            exact e_i ⟨hx, hb, hr, hlk⟩ hW hS dX9_told_126
        rw [if_neg c13] at hf
        by_cases c15 : x2 = 5
        · rw [if_pos c15] at hf
          refine lv_tableIn (tgt := 127) hx hb dX9_told_37 (by rw [c15]; decide) (by rw [c15]; decide) (by rw [c15]; rfl) (by decide) ?_
          refine lv_iload_n hx hb dX9_told_127 rfl (lv_at hl 0 rfl) ?_
          refine lv_if_eq (tgt := 165) hx hb dX9_told_128 (by decide) (fun c16 => ?_) (fun c16 => ?_)
          · skip
            refine lv_bipush (v := -4) hx hb dX9_told_165 (by decide) ?_
            obtain rfl := sp1 hf
            exact e_i ⟨hx, hb, hr, hlk⟩ hW hS dX9_told_167
          · exact absurd c16 (by decide)
        rw [if_neg c15] at hf
        by_cases c17 : x2 = 6
        · rw [if_pos c17] at hf
          refine lv_tableIn (tgt := 168) hx hb dX9_told_37 (by rw [c17]; decide) (by rw [c17]; decide) (by rw [c17]; rfl) (by decide) ?_
          refine lv_iload_n hx hb dX9_told_168 rfl (lv_at hl 0 rfl) ?_
          refine lv_if_eq (tgt := 201) hx hb dX9_told_169 (by decide) (fun c18 => ?_) (fun c18 => ?_)
          · skip
            refine lv_bipush (v := -4) hx hb dX9_told_201 (by decide) ?_
            obtain rfl := sp1 hf
            exact e_i ⟨hx, hb, hr, hlk⟩ hW hS dX9_told_203
          · exact absurd c18 (by decide)
        rw [if_neg c17] at hf
        by_cases c19 : x2 = 7
        · rw [if_pos c19] at hf
          refine lv_tableIn (tgt := 204) hx hb dX9_told_37 (by rw [c19]; decide) (by rw [c19]; decide) (by rw [c19]; rfl) (by decide) ?_
          refine lv_aload_n hx hb dX9_told_204 rfl (lv_at hl 1 rfl) ?_
          refine g_9_27 X hK hW flRX9_86 dX9_told_205 ?_
          refine lv_iload_n hx hb dX9_told_208 rfl (lv_at hl 2 rfl) ?_
          refine al_46 X hK hW b7 dX9_told_209 ?_
          obtain rfl := sp1 hf
          exact e_i ⟨hx, hb, hr, hlk⟩ hW hS dX9_told_210
        rw [if_neg c19] at hf
        refine lv_tableOut (tgt := 211) hx hb dX9_told_37 (by have := lv_neT (a := 0) c9 (by decide); have := lv_neT (a := 1) c10 (by decide); have := lv_neT (a := 2) c11 (by decide); have := lv_neT (a := 3) c12 (by decide); have := lv_neT (a := 4) c13 (by decide); have := lv_neT (a := 5) c15 (by decide); have := lv_neT (a := 6) c17 (by decide); have := lv_neT (a := 7) c19 (by decide); omega) (by decide) ?_
        refine lv_aload_n hx hb dX9_told_211 rfl (lv_at hl 1 rfl) ?_
        refine g_9_24 X hK hW flRX9_77 dX9_told_212 ?_
        refine lv_iload_n hx hb dX9_told_215 rfl (lv_at hl 2 rfl) ?_
        refine al_43 X hK hW b7 dX9_told_216 ?_
        obtain rfl := sp1 hf
        exact e_i ⟨hx, hb, hr, hlk⟩ hW hS dX9_told_217
      · rw [if_neg c8] at hf
        refine lv_iconst (v := 1) hx hb dX9_told_30 (by decide) ?_
        refine lv_goto (tgt := 35) hx hb dX9_told_31 (by decide) ?_
        refine lv_istore_n (lv' := [(3, .int 1), (0, .ref (ad 20 0)), (1, .int x1), (2, .int x2)]) hx hb dX9_told_35 rfl hl (by decide) rfl (fun ls hl => ?_)
        refine lv_iload_n hx hb dX9_told_36 rfl (lv_at hl 3 rfl) ?_
        by_cases c20 : x2 = 0
        · rw [if_pos c20] at hf
          refine lv_tableIn (tgt := 84) hx hb dX9_told_37 (by rw [c20]; decide) (by rw [c20]; decide) (by rw [c20]; rfl) (by decide) ?_
          refine lv_aload_n hx hb dX9_told_84 rfl (lv_at hl 1 rfl) ?_
          refine g_9_12 X hK hW flRX9_40 dX9_told_85 ?_
          refine lv_iload_n hx hb dX9_told_88 rfl (lv_at hl 2 rfl) ?_
          refine al_31 X hK hW b7 dX9_told_89 ?_
          obtain rfl := sp1 hf
          exact e_i ⟨hx, hb, hr, hlk⟩ hW hS dX9_told_90
        rw [if_neg c20] at hf
        by_cases c21 : x2 = 1
        · rw [if_pos c21] at hf
          refine lv_tableIn (tgt := 91) hx hb dX9_told_37 (by rw [c21]; decide) (by rw [c21]; decide) (by rw [c21]; rfl) (by decide) ?_
          refine lv_aload_n hx hb dX9_told_91 rfl (lv_at hl 1 rfl) ?_
          refine g_9_15 X hK hW flRX9_49 dX9_told_92 ?_
          refine lv_iload_n hx hb dX9_told_95 rfl (lv_at hl 2 rfl) ?_
          refine al_34 X hK hW b7 dX9_told_96 ?_
          obtain rfl := sp1 hf
          exact e_i ⟨hx, hb, hr, hlk⟩ hW hS dX9_told_97
        rw [if_neg c21] at hf
        by_cases c22 : x2 = 2
        · rw [if_pos c22] at hf
          refine lv_tableIn (tgt := 98) hx hb dX9_told_37 (by rw [c22]; decide) (by rw [c22]; decide) (by rw [c22]; rfl) (by decide) ?_
          refine lv_aload_n hx hb dX9_told_98 rfl (lv_at hl 1 rfl) ?_
          refine g_9_18 X hK hW flRX9_59 dX9_told_99 ?_
          refine lv_iload_n hx hb dX9_told_102 rfl (lv_at hl 2 rfl) ?_
          refine al_37 X hK hW b7 dX9_told_103 ?_
          obtain rfl := sp1 hf
          exact e_i ⟨hx, hb, hr, hlk⟩ hW hS dX9_told_104
        rw [if_neg c22] at hf
        by_cases c23 : x2 = 3
        · rw [if_pos c23] at hf
          refine lv_tableIn (tgt := 105) hx hb dX9_told_37 (by rw [c23]; decide) (by rw [c23]; decide) (by rw [c23]; rfl) (by decide) ?_
          refine lv_aload_n hx hb dX9_told_105 rfl (lv_at hl 1 rfl) ?_
          refine g_9_19 X hK hW flRX9_62 dX9_told_106 ?_
          refine lv_iload_n hx hb dX9_told_109 rfl (lv_at hl 2 rfl) ?_
          refine al_38 X hK hW b7 dX9_told_110 ?_
          obtain rfl := sp1 hf
          exact e_i ⟨hx, hb, hr, hlk⟩ hW hS dX9_told_111
        rw [if_neg c23] at hf
        by_cases c24 : x2 = 4
        · rw [if_pos c24] at hf
          refine lv_tableIn (tgt := 112) hx hb dX9_told_37 (by rw [c24]; decide) (by rw [c24]; decide) (by rw [c24]; rfl) (by decide) ?_
          refine lv_aload_n hx hb dX9_told_112 rfl (lv_at hl 1 rfl) ?_
          refine g_9_16 X hK hW flRX9_52 dX9_told_113 ?_
          refine lv_iload_n hx hb dX9_told_116 rfl (lv_at hl 2 rfl) ?_
          refine al_35 X hK hW b7 dX9_told_117 ?_
          refine lv_if_eq (tgt := 125) hx hb dX9_told_118 (by decide) (fun c25 => ?_) (fun c25 => ?_)
          · rw [if_pos c25] at hf
            refine lv_iconst (v := 0) hx hb dX9_told_125 (by decide) ?_
            obtain rfl := sp1 hf
            exact e_i ⟨hx, hb, hr, hlk⟩ hW hS dX9_told_126
          · rw [if_neg c25] at hf
            refine lv_iconst (v := 1) hx hb dX9_told_121 (by decide) ?_
            refine lv_goto (tgt := 126) hx hb dX9_told_122 (by decide) ?_
            obtain rfl := sp1 hf
            exact e_i ⟨hx, hb, hr, hlk⟩ hW hS dX9_told_126
        rw [if_neg c24] at hf
        by_cases c26 : x2 = 5
        · rw [if_pos c26] at hf
          refine lv_tableIn (tgt := 127) hx hb dX9_told_37 (by rw [c26]; decide) (by rw [c26]; decide) (by rw [c26]; rfl) (by decide) ?_
          refine lv_iload_n hx hb dX9_told_127 rfl (lv_at hl 0 rfl) ?_
          refine lv_if_eq (tgt := 165) hx hb dX9_told_128 (by decide) (fun c27 => ?_) (fun c27 => ?_)
          · exact absurd c27 (by decide)
          · skip
            refine lv_aload_n hx hb dX9_told_131 rfl (lv_at hl 1 rfl) ?_
            refine g_9_12 X hK hW flRX9_40 dX9_told_132 ?_
            refine lv_iload_n hx hb dX9_told_135 rfl (lv_at hl 2 rfl) ?_
            refine al_31 X hK hW b7 dX9_told_136 ?_
            refine lv_iconst (v := 3) hx hb dX9_told_137 (by decide) ?_
            refine lv_bipush (v := 6) hx hb dX9_told_138 (by decide) ?_
            obtain ⟨r29, h28, hf⟩ := ob1_some hf
            refine k_yX9_in X hK hZ hW hS hl.1 h28 mlRX9_114 ⟨Nat.le_of_ble_eq_true rfl, Nat.le_of_ble_eq_true rfl⟩ ⟨Nat.le_of_ble_eq_true rfl, Nat.le_of_ble_eq_true rfl⟩ (Nat.le_of_ble_eq_true rfl) dX9_told_140 (fun H locs hW hS => ?_)
            refine lv_if_eq (tgt := 165) hx hb dX9_told_143 (by decide) (fun c30 => ?_) (fun c30 => ?_)
            · rw [if_pos c30] at hf
              refine lv_bipush (v := -4) hx hb dX9_told_165 (by decide) ?_
              obtain rfl := sp1 hf
              exact e_i ⟨hx, hb, hr, hlk⟩ hW hS dX9_told_167
            · rw [if_neg c30] at hf
              refine lv_aload_n hx hb dX9_told_146 rfl (lv_at hl 1 rfl) ?_
              refine g_9_12 X hK hW flRX9_40 dX9_told_147 ?_
              refine lv_iload_n hx hb dX9_told_150 rfl (lv_at hl 2 rfl) ?_
              refine al_31 X hK hW b7 dX9_told_151 ?_
              refine lv_iconst (v := 5) hx hb dX9_told_152 (by decide) ?_
              refine lv_icmp_eq (tgt := 165) hx hb dX9_told_153 (by decide) (fun c31 => ?_) (fun c31 => ?_)
              · rw [if_pos c31] at hf
                refine lv_bipush (v := -4) hx hb dX9_told_165 (by decide) ?_
                obtain rfl := sp1 hf
                exact e_i ⟨hx, hb, hr, hlk⟩ hW hS dX9_told_167
              · rw [if_neg c31] at hf
                refine lv_aload_n hx hb dX9_told_156 rfl (lv_at hl 1 rfl) ?_
                refine g_9_20 X hK hW flRX9_65 dX9_told_157 ?_
                refine lv_iload_n hx hb dX9_told_160 rfl (lv_at hl 2 rfl) ?_
                refine al_39 X hK hW b7 dX9_told_161 ?_
                refine lv_goto (tgt := 167) hx hb dX9_told_162 (by decide) ?_
                obtain rfl := sp1 hf
                exact e_i ⟨hx, hb, hr, hlk⟩ hW hS dX9_told_167
        rw [if_neg c26] at hf
        by_cases c32 : x2 = 6
        · rw [if_pos c32] at hf
          refine lv_tableIn (tgt := 168) hx hb dX9_told_37 (by rw [c32]; decide) (by rw [c32]; decide) (by rw [c32]; rfl) (by decide) ?_
          refine lv_iload_n hx hb dX9_told_168 rfl (lv_at hl 0 rfl) ?_
          refine lv_if_eq (tgt := 201) hx hb dX9_told_169 (by decide) (fun c33 => ?_) (fun c33 => ?_)
          · exact absurd c33 (by decide)
          · skip
            refine lv_aload_n hx hb dX9_told_172 rfl (lv_at hl 1 rfl) ?_
            refine g_9_12 X hK hW flRX9_40 dX9_told_173 ?_
            refine lv_iload_n hx hb dX9_told_176 rfl (lv_at hl 2 rfl) ?_
            refine al_31 X hK hW b7 dX9_told_177 ?_
            refine lv_iconst (v := 5) hx hb dX9_told_178 (by decide) ?_
            refine lv_icmp_eq (tgt := 192) hx hb dX9_told_179 (by decide) (fun c34 => ?_) (fun c34 => ?_)
            · rw [if_pos c34] at hf
              refine lv_aload_n hx hb dX9_told_192 rfl (lv_at hl 1 rfl) ?_
              refine g_9_21 X hK hW flRX9_68 dX9_told_193 ?_
              refine lv_iload_n hx hb dX9_told_196 rfl (lv_at hl 2 rfl) ?_
              refine al_40 X hK hW b7 dX9_told_197 ?_
              refine lv_goto (tgt := 203) hx hb dX9_told_198 (by decide) ?_
              obtain rfl := sp1 hf
              exact e_i ⟨hx, hb, hr, hlk⟩ hW hS dX9_told_203
            · rw [if_neg c34] at hf
              refine lv_aload_n hx hb dX9_told_182 rfl (lv_at hl 1 rfl) ?_
              refine g_9_12 X hK hW flRX9_40 dX9_told_183 ?_
              refine lv_iload_n hx hb dX9_told_186 rfl (lv_at hl 2 rfl) ?_
              refine al_31 X hK hW b7 dX9_told_187 ?_
              refine lv_iconst (v := 4) hx hb dX9_told_188 (by decide) ?_
              refine lv_icmp_ne (tgt := 201) hx hb dX9_told_189 (by decide) (fun c35 => ?_) (fun c35 => ?_)
              · rw [if_neg c35] at hf
                refine lv_bipush (v := -4) hx hb dX9_told_201 (by decide) ?_
                obtain rfl := sp1 hf
                exact e_i ⟨hx, hb, hr, hlk⟩ hW hS dX9_told_203
              · rw [if_pos c35] at hf
                refine lv_aload_n hx hb dX9_told_192 rfl (lv_at hl 1 rfl) ?_
                refine g_9_21 X hK hW flRX9_68 dX9_told_193 ?_
                refine lv_iload_n hx hb dX9_told_196 rfl (lv_at hl 2 rfl) ?_
                refine al_40 X hK hW b7 dX9_told_197 ?_
                refine lv_goto (tgt := 203) hx hb dX9_told_198 (by decide) ?_
                obtain rfl := sp1 hf
                exact e_i ⟨hx, hb, hr, hlk⟩ hW hS dX9_told_203
        rw [if_neg c32] at hf
        by_cases c36 : x2 = 7
        · rw [if_pos c36] at hf
          refine lv_tableIn (tgt := 204) hx hb dX9_told_37 (by rw [c36]; decide) (by rw [c36]; decide) (by rw [c36]; rfl) (by decide) ?_
          refine lv_aload_n hx hb dX9_told_204 rfl (lv_at hl 1 rfl) ?_
          refine g_9_27 X hK hW flRX9_86 dX9_told_205 ?_
          refine lv_iload_n hx hb dX9_told_208 rfl (lv_at hl 2 rfl) ?_
          refine al_46 X hK hW b7 dX9_told_209 ?_
          obtain rfl := sp1 hf
          exact e_i ⟨hx, hb, hr, hlk⟩ hW hS dX9_told_210
        rw [if_neg c36] at hf
        refine lv_tableOut (tgt := 211) hx hb dX9_told_37 (by have := lv_neT (a := 0) c20 (by decide); have := lv_neT (a := 1) c21 (by decide); have := lv_neT (a := 2) c22 (by decide); have := lv_neT (a := 3) c23 (by decide); have := lv_neT (a := 4) c24 (by decide); have := lv_neT (a := 5) c26 (by decide); have := lv_neT (a := 6) c32 (by decide); have := lv_neT (a := 7) c36 (by decide); omega) (by decide) ?_
        refine lv_aload_n hx hb dX9_told_211 rfl (lv_at hl 1 rfl) ?_
        refine g_9_24 X hK hW flRX9_77 dX9_told_212 ?_
        refine lv_iload_n hx hb dX9_told_215 rfl (lv_at hl 2 rfl) ?_
        refine al_43 X hK hW b7 dX9_told_216 ?_
        obtain rfl := sp1 hf
        exact e_i ⟨hx, hb, hr, hlk⟩ hW hS dX9_told_217
    · rw [if_pos c6] at hf
      refine lv_iconst (v := -1) hx hb dX9_told_19 (by decide) ?_
      obtain rfl := sp1 hf
      exact e_i ⟨hx, hb, hr, hlk⟩ hW hS dX9_told_20
set_option maxRecDepth 100000 in
set_option maxHeartbeats 4000000 in
theorem k_yX9_told {p : Program} {l : Launch} {e : Env} {R : Room} {s : State} {m : MethodId} {args : Array Value} {below : List Frame} {meth : Method} {c : Code} {H : Heap} {locs : List Loc} {cells slots : Nat} {Q : State → Prop} {cc : ByteArray} {pc nL index : Nat} {ret : Option FieldType} {own : String} {ls : Array Slot} {rest : List Value} {E : Lay} {ad : Nat → Nat → Nat} {M N : Mem} (X : CX p s m args meth c cc nL ret own) (hK : KK E s) (hZ : ZZ E s) (hW : WD E ad (M, N) H) (hS : va_S (ow E) s.heap H locs) (hsz : ls.size = nL) {x1 : Int32} {x2 : Int32} {r : Int32} (hf : f_yX9_told N x1 x2 = some r) (hn : Cond.methodLink own index yX9_told ∈ TB) (hR : 1 + 1 ≤ R.frames ∧ 8 + (4 + 11) + 22 ≤ R.locals) (hC : cells ≤ R.cells ∧ slots ≤ R.slots) (h8 : (rest.map fun v => v.category).sum ≤ 8) (hdg : decode cc pc = .ok (.invokevirtual index, 3)) (kk : ∀ (H1 : Heap) (locs1 : List Loc), WD E ad (M, N) H1 → va_S (ow E) s.heap H1 locs1 → W p l e R s m args below meth c H1 locs1 cells slots Q (F0 m (pc + 3) ls (.int r :: rest))) : W p l e R s m args below meth c H locs cells slots Q (F0 m pc ls (.int x2 :: .int x1 :: .ref (ad 20 0) :: rest)) := by
  refine va_calli (va_runV (C := RX9) (As := [.int x1, .int x2]) (rest := rest) ⟨X.1, X.2.1, X.2.2.1, X.2.2.2.1, X.2.2.2.2.1⟩ (c_yX9_told l E ad M N x1 x2 r hf) (cwV 2 X.2.2.2.2.1 (gV hn im_yX9_told se_yX9_told iniRX9 cd_yX9_told) rfl rfl rfl (by decide +kernel) hR) ⟨fun a U g mk q => ⟨q.1, q.2.calling⟩, va_recv hK.1 (hW.at (c := 20) (i := 0) Nat.zero_lt_one rfl) (ci := 9) (q0 := 0) rfl rfl, fun U hU hw => ⟨rfl, PB.at hW hK hZ hS hU hw⟩⟩ rfl rfl hsz rfl (lv_room h8) hdg hC) hS (fun _ _ h => h) (fun _ h => h) (fun r' u t H1 locs1 ht hvm hw hB hz1 hk1 hS1 => ?_)
  obtain ⟨rfl, rfl⟩ := hw
  rw [ht] at hB
  exact kk H1 locs1 hB hS1
def f_yX9_register (N : Mem) (x1 : Int32) (x2 : Int32) : Option (Int32) := ob1 (f_yX9_in x1 0 5) (fun r2 => (if r2 = 0 then (some (-1)) else ob1 (f_yX9_in x2 0 5) (fun r5 => (if r5 = 0 then (some (-1)) else gd (¬ (((6 * x1) + x2) < 0 ∨ 36 ≤ ((6 * x1) + x2).toNatClampNeg)) ((some (N 49 0 ((6 * x1) + x2).toNatClampNeg)))))))
set_option maxRecDepth 100000 in
set_option maxHeartbeats 4000000 in
theorem c_yX9_register (l : Launch) (E : Lay) (ad : Nat → Nat → Nat) (M N : Mem) (x1 : Int32) (x2 : Int32) (r : Int32) (hf : f_yX9_register N x1 x2 = some r) : Met l yX9_register (Cond.code yX9_register cX9_register 3 (some .int) :: TB) (rmm 1 22) (va_Pc [.ref (ad 20 0), .int x1, .int x2] (PB E ad (M, N))) (Qi E ad r (M, N)) 0 0 (ow E) := by
  refine Met.ofW (cc := cX9_register) (maxL := 3) (ret := (some .int)) (by decide) rfl ?_
  intro p e s m args below meth c s₁ B hml hv
  obtain ⟨rfl, hW, hK, hZ⟩ := hv
  have hT : ∀ w ∈ TB, w.before _ s = true := fun w h => atoms_spec (ws := (Cond.code yX9_register cX9_register 3 (some .int) :: TB)) B.pre w (List.mem_cons_of_mem _ h)
  have X : CX p s m _ meth c cX9_register 3 (some .int) RX9 := ⟨B.exec, B.bytes, hml, findClass_of_methodNamed B.named, hT, B.returns, B.notSynchronized⟩
  obtain ⟨hx, hb, hml, hown, hT, hr, hlk⟩ := id X
  have hS : va_S (ow E) s.heap s.heap [] := va_S.rf
  have hl := lv_entry ([.ref (ad 20 0), .int x1, .int x2]) (n := 3) (Nat.le_of_ble_eq_true rfl)
  rw [lg_entry_eq]
  generalize (lg_sl ([.ref (ad 20 0), .int x1, .int x2]) ++ List.replicate (3 - (lg_sl ([.ref (ad 20 0), .int x1, .int x2])).length) Slot.unset).toArray = ls at hl ⊢
  have hl : lv_has ls 3 [(0, .ref (ad 20 0)), (1, .int x1), (2, .int x2)] := hl
  unfold f_yX9_register at hf
  refine lv_iload_n hx hb dX9_register_0 rfl (lv_at hl 1 rfl) ?_
  refine lv_iconst (v := 0) hx hb dX9_register_1 (by decide) ?_
  refine lv_iconst (v := 5) hx hb dX9_register_2 (by decide) ?_
  obtain ⟨r2, h1, hf⟩ := ob1_some hf
  refine k_yX9_in X hK hZ hW hS hl.1 h1 mlRX9_114 ⟨Nat.le_of_ble_eq_true rfl, Nat.le_of_ble_eq_true rfl⟩ ⟨Nat.le_of_ble_eq_true rfl, Nat.le_of_ble_eq_true rfl⟩ (Nat.le_of_ble_eq_true rfl) dX9_register_3 (fun H locs hW hS => ?_)
  refine lv_if_eq (tgt := 32) hx hb dX9_register_6 (by decide) (fun c3 => ?_) (fun c3 => ?_)
  · rw [if_pos c3] at hf
    refine lv_iconst (v := -1) hx hb dX9_register_32 (by decide) ?_
    obtain rfl := sp1 hf
    exact e_i ⟨hx, hb, hr, hlk⟩ hW hS dX9_register_33
  · rw [if_neg c3] at hf
    refine lv_iload_n hx hb dX9_register_9 rfl (lv_at hl 2 rfl) ?_
    refine lv_iconst (v := 0) hx hb dX9_register_10 (by decide) ?_
    refine lv_iconst (v := 5) hx hb dX9_register_11 (by decide) ?_
    obtain ⟨r5, h4, hf⟩ := ob1_some hf
    refine k_yX9_in X hK hZ hW hS hl.1 h4 mlRX9_114 ⟨Nat.le_of_ble_eq_true rfl, Nat.le_of_ble_eq_true rfl⟩ ⟨Nat.le_of_ble_eq_true rfl, Nat.le_of_ble_eq_true rfl⟩ (Nat.le_of_ble_eq_true rfl) dX9_register_12 (fun H locs hW hS => ?_)
    refine lv_if_eq (tgt := 32) hx hb dX9_register_15 (by decide) (fun c6 => ?_) (fun c6 => ?_)
    · rw [if_pos c6] at hf
      refine lv_iconst (v := -1) hx hb dX9_register_32 (by decide) ?_
      obtain rfl := sp1 hf
      exact e_i ⟨hx, hb, hr, hlk⟩ hW hS dX9_register_33
    · rw [if_neg c6] at hf
      refine lv_aload_n hx hb dX9_register_18 rfl (lv_at hl 0 rfl) ?_
      refine g_9_30 X hK hW flRX9_95 dX9_register_19 ?_
      refine lv_bipush (v := 6) hx hb dX9_register_22 (by decide) ?_
      refine lv_iload_n hx hb dX9_register_24 rfl (lv_at hl 1 rfl) ?_
      refine lv_imul hx hb dX9_register_25 ?_
      refine lv_iload_n hx hb dX9_register_26 rfl (lv_at hl 2 rfl) ?_
      refine lv_iadd hx hb dX9_register_27 ?_
      obtain ⟨b7, hf⟩ := gd_some hf
      refine al_49 X hK hW b7 dX9_register_28 ?_
      refine lv_goto (tgt := 33) hx hb dX9_register_29 (by decide) ?_
      obtain rfl := sp1 hf
      exact e_i ⟨hx, hb, hr, hlk⟩ hW hS dX9_register_33
set_option maxRecDepth 100000 in
set_option maxHeartbeats 4000000 in
theorem k_yX9_register {p : Program} {l : Launch} {e : Env} {R : Room} {s : State} {m : MethodId} {args : Array Value} {below : List Frame} {meth : Method} {c : Code} {H : Heap} {locs : List Loc} {cells slots : Nat} {Q : State → Prop} {cc : ByteArray} {pc nL index : Nat} {ret : Option FieldType} {own : String} {ls : Array Slot} {rest : List Value} {E : Lay} {ad : Nat → Nat → Nat} {M N : Mem} (X : CX p s m args meth c cc nL ret own) (hK : KK E s) (hZ : ZZ E s) (hW : WD E ad (M, N) H) (hS : va_S (ow E) s.heap H locs) (hsz : ls.size = nL) {x1 : Int32} {x2 : Int32} {r : Int32} (hf : f_yX9_register N x1 x2 = some r) (hn : Cond.methodLink own index yX9_register ∈ TB) (hR : 1 + 1 ≤ R.frames ∧ 8 + (3 + 11) + 22 ≤ R.locals) (hC : cells ≤ R.cells ∧ slots ≤ R.slots) (h8 : (rest.map fun v => v.category).sum ≤ 8) (hdg : decode cc pc = .ok (.invokevirtual index, 3)) (kk : ∀ (H1 : Heap) (locs1 : List Loc), WD E ad (M, N) H1 → va_S (ow E) s.heap H1 locs1 → W p l e R s m args below meth c H1 locs1 cells slots Q (F0 m (pc + 3) ls (.int r :: rest))) : W p l e R s m args below meth c H locs cells slots Q (F0 m pc ls (.int x2 :: .int x1 :: .ref (ad 20 0) :: rest)) := by
  refine va_calli (va_runV (C := RX9) (As := [.int x1, .int x2]) (rest := rest) ⟨X.1, X.2.1, X.2.2.1, X.2.2.2.1, X.2.2.2.2.1⟩ (c_yX9_register l E ad M N x1 x2 r hf) (cwV 2 X.2.2.2.2.1 (gV hn im_yX9_register se_yX9_register iniRX9 cd_yX9_register) rfl rfl rfl (by decide +kernel) hR) ⟨fun a U g mk q => ⟨q.1, q.2.calling⟩, va_recv hK.1 (hW.at (c := 20) (i := 0) Nat.zero_lt_one rfl) (ci := 9) (q0 := 0) rfl rfl, fun U hU hw => ⟨rfl, PB.at hW hK hZ hS hU hw⟩⟩ rfl rfl hsz rfl (lv_room h8) hdg hC) hS (fun _ _ h => h) (fun _ h => h) (fun r' u t H1 locs1 ht hvm hw hB hz1 hk1 hS1 => ?_)
  obtain ⟨rfl, rfl⟩ := hw
  rw [ht] at hB
  exact kk H1 locs1 hB hS1
def f_yX9_hand (N : Mem) (x1 : Int32) (x2 : Int32) : Option (Int32) := ob1 (f_yX9_in x1 0 5) (fun r2 => (if r2 = 0 then (some (-1)) else ob1 (f_yX9_in x2 0 5) (fun r5 => (if r5 = 0 then (some (-1)) else gd (¬ (x1 < 0 ∨ 6 ≤ x1.toNatClampNeg)) ((if (N 31 0 x1.toNatClampNeg) = 0 then (some (-4)) else gd (¬ (((6 * x1) + x2) < 0 ∨ 36 ≤ ((6 * x1) + x2).toNatClampNeg)) ((some (N 50 0 ((6 * x1) + x2).toNatClampNeg)))))))))
set_option maxRecDepth 100000 in
set_option maxHeartbeats 4000000 in
theorem c_yX9_hand (l : Launch) (E : Lay) (ad : Nat → Nat → Nat) (M N : Mem) (x1 : Int32) (x2 : Int32) (r : Int32) (hf : f_yX9_hand N x1 x2 = some r) : Met l yX9_hand (Cond.code yX9_hand cX9_hand 3 (some .int) :: TB) (rmm 1 22) (va_Pc [.ref (ad 20 0), .int x1, .int x2] (PB E ad (M, N))) (Qi E ad r (M, N)) 0 0 (ow E) := by
  refine Met.ofW (cc := cX9_hand) (maxL := 3) (ret := (some .int)) (by decide) rfl ?_
  intro p e s m args below meth c s₁ B hml hv
  obtain ⟨rfl, hW, hK, hZ⟩ := hv
  have hT : ∀ w ∈ TB, w.before _ s = true := fun w h => atoms_spec (ws := (Cond.code yX9_hand cX9_hand 3 (some .int) :: TB)) B.pre w (List.mem_cons_of_mem _ h)
  have X : CX p s m _ meth c cX9_hand 3 (some .int) RX9 := ⟨B.exec, B.bytes, hml, findClass_of_methodNamed B.named, hT, B.returns, B.notSynchronized⟩
  obtain ⟨hx, hb, hml, hown, hT, hr, hlk⟩ := id X
  have hS : va_S (ow E) s.heap s.heap [] := va_S.rf
  have hl := lv_entry ([.ref (ad 20 0), .int x1, .int x2]) (n := 3) (Nat.le_of_ble_eq_true rfl)
  rw [lg_entry_eq]
  generalize (lg_sl ([.ref (ad 20 0), .int x1, .int x2]) ++ List.replicate (3 - (lg_sl ([.ref (ad 20 0), .int x1, .int x2])).length) Slot.unset).toArray = ls at hl ⊢
  have hl : lv_has ls 3 [(0, .ref (ad 20 0)), (1, .int x1), (2, .int x2)] := hl
  unfold f_yX9_hand at hf
  refine lv_iload_n hx hb dX9_hand_0 rfl (lv_at hl 1 rfl) ?_
  refine lv_iconst (v := 0) hx hb dX9_hand_1 (by decide) ?_
  refine lv_iconst (v := 5) hx hb dX9_hand_2 (by decide) ?_
  obtain ⟨r2, h1, hf⟩ := ob1_some hf
  refine k_yX9_in X hK hZ hW hS hl.1 h1 mlRX9_114 ⟨Nat.le_of_ble_eq_true rfl, Nat.le_of_ble_eq_true rfl⟩ ⟨Nat.le_of_ble_eq_true rfl, Nat.le_of_ble_eq_true rfl⟩ (Nat.le_of_ble_eq_true rfl) dX9_hand_3 (fun H locs hW hS => ?_)
  refine lv_if_eq (tgt := 18) hx hb dX9_hand_6 (by decide) (fun c3 => ?_) (fun c3 => ?_)
  · rw [if_pos c3] at hf
    refine lv_iconst (v := -1) hx hb dX9_hand_18 (by decide) ?_
    obtain rfl := sp1 hf
    exact e_i ⟨hx, hb, hr, hlk⟩ hW hS dX9_hand_19
  · rw [if_neg c3] at hf
    refine lv_iload_n hx hb dX9_hand_9 rfl (lv_at hl 2 rfl) ?_
    refine lv_iconst (v := 0) hx hb dX9_hand_10 (by decide) ?_
    refine lv_iconst (v := 5) hx hb dX9_hand_11 (by decide) ?_
    obtain ⟨r5, h4, hf⟩ := ob1_some hf
    refine k_yX9_in X hK hZ hW hS hl.1 h4 mlRX9_114 ⟨Nat.le_of_ble_eq_true rfl, Nat.le_of_ble_eq_true rfl⟩ ⟨Nat.le_of_ble_eq_true rfl, Nat.le_of_ble_eq_true rfl⟩ (Nat.le_of_ble_eq_true rfl) dX9_hand_12 (fun H locs hW hS => ?_)
    refine lv_if_ne (tgt := 20) hx hb dX9_hand_15 (by decide) (fun c6 => ?_) (fun c6 => ?_)
    · rw [if_neg c6] at hf
      refine lv_aload_n hx hb dX9_hand_20 rfl (lv_at hl 0 rfl) ?_
      refine g_9_12 X hK hW flRX9_40 dX9_hand_21 ?_
      refine lv_iload_n hx hb dX9_hand_24 rfl (lv_at hl 1 rfl) ?_
      obtain ⟨b7, hf⟩ := gd_some hf
      refine al_31 X hK hW b7 dX9_hand_25 ?_
      refine lv_if_ne (tgt := 34) hx hb dX9_hand_26 (by decide) (fun c8 => ?_) (fun c8 => ?_)
      · rw [if_neg c8] at hf
        refine lv_aload_n hx hb dX9_hand_34 rfl (lv_at hl 0 rfl) ?_
        refine g_9_31 X hK hW flRX9_98 dX9_hand_35 ?_
        refine lv_bipush (v := 6) hx hb dX9_hand_38 (by decide) ?_
        refine lv_iload_n hx hb dX9_hand_40 rfl (lv_at hl 1 rfl) ?_
        refine lv_imul hx hb dX9_hand_41 ?_
        refine lv_iload_n hx hb dX9_hand_42 rfl (lv_at hl 2 rfl) ?_
        refine lv_iadd hx hb dX9_hand_43 ?_
        obtain ⟨b9, hf⟩ := gd_some hf
        refine al_50 X hK hW b9 dX9_hand_44 ?_
        obtain rfl := sp1 hf
        exact e_i ⟨hx, hb, hr, hlk⟩ hW hS dX9_hand_45
      · rw [if_pos c8] at hf
        refine lv_bipush (v := -4) hx hb dX9_hand_29 (by decide) ?_
        refine lv_goto (tgt := 45) hx hb dX9_hand_31 (by decide) ?_
        obtain rfl := sp1 hf
        exact e_i ⟨hx, hb, hr, hlk⟩ hW hS dX9_hand_45
    · rw [if_pos c6] at hf
      refine lv_iconst (v := -1) hx hb dX9_hand_18 (by decide) ?_
      obtain rfl := sp1 hf
      exact e_i ⟨hx, hb, hr, hlk⟩ hW hS dX9_hand_19
set_option maxRecDepth 100000 in
set_option maxHeartbeats 4000000 in
theorem k_yX9_hand {p : Program} {l : Launch} {e : Env} {R : Room} {s : State} {m : MethodId} {args : Array Value} {below : List Frame} {meth : Method} {c : Code} {H : Heap} {locs : List Loc} {cells slots : Nat} {Q : State → Prop} {cc : ByteArray} {pc nL index : Nat} {ret : Option FieldType} {own : String} {ls : Array Slot} {rest : List Value} {E : Lay} {ad : Nat → Nat → Nat} {M N : Mem} (X : CX p s m args meth c cc nL ret own) (hK : KK E s) (hZ : ZZ E s) (hW : WD E ad (M, N) H) (hS : va_S (ow E) s.heap H locs) (hsz : ls.size = nL) {x1 : Int32} {x2 : Int32} {r : Int32} (hf : f_yX9_hand N x1 x2 = some r) (hn : Cond.methodLink own index yX9_hand ∈ TB) (hR : 1 + 1 ≤ R.frames ∧ 8 + (3 + 11) + 22 ≤ R.locals) (hC : cells ≤ R.cells ∧ slots ≤ R.slots) (h8 : (rest.map fun v => v.category).sum ≤ 8) (hdg : decode cc pc = .ok (.invokevirtual index, 3)) (kk : ∀ (H1 : Heap) (locs1 : List Loc), WD E ad (M, N) H1 → va_S (ow E) s.heap H1 locs1 → W p l e R s m args below meth c H1 locs1 cells slots Q (F0 m (pc + 3) ls (.int r :: rest))) : W p l e R s m args below meth c H locs cells slots Q (F0 m pc ls (.int x2 :: .int x1 :: .ref (ad 20 0) :: rest)) := by
  refine va_calli (va_runV (C := RX9) (As := [.int x1, .int x2]) (rest := rest) ⟨X.1, X.2.1, X.2.2.1, X.2.2.2.1, X.2.2.2.2.1⟩ (c_yX9_hand l E ad M N x1 x2 r hf) (cwV 2 X.2.2.2.2.1 (gV hn im_yX9_hand se_yX9_hand iniRX9 cd_yX9_hand) rfl rfl rfl (by decide +kernel) hR) ⟨fun a U g mk q => ⟨q.1, q.2.calling⟩, va_recv hK.1 (hW.at (c := 20) (i := 0) Nat.zero_lt_one rfl) (ci := 9) (q0 := 0) rfl rfl, fun U hU hw => ⟨rfl, PB.at hW hK hZ hS hU hw⟩⟩ rfl rfl hsz rfl (lv_room h8) hdg hC) hS (fun _ _ h => h) (fun _ h => h) (fun r' u t H1 locs1 ht hvm hw hB hz1 hk1 hS1 => ?_)
  obtain ⟨rfl, rfl⟩ := hw
  rw [ht] at hB
  exact kk H1 locs1 hB hS1
def f_yX9_hangsOn (N : Mem) (x1 : Int32) : Option (Int32) := gd (¬ (x1 < 0 ∨ 6 ≤ x1.toNatClampNeg)) ((if (N 31 0 x1.toNatClampNeg) = 3 then gd (¬ ((N 39 0 x1.toNatClampNeg) < 0 ∨ 32 ≤ (N 39 0 x1.toNatClampNeg).toNatClampNeg)) ((some (N 25 0 (N 39 0 x1.toNatClampNeg).toNatClampNeg))) else (if (N 31 0 x1.toNatClampNeg) = 6 then (some (N 39 0 x1.toNatClampNeg)) else (some (-4)))))
set_option maxRecDepth 100000 in
set_option maxHeartbeats 4000000 in
theorem c_yX9_hangsOn (l : Launch) (E : Lay) (ad : Nat → Nat → Nat) (M N : Mem) (x1 : Int32) (r : Int32) (hf : f_yX9_hangsOn N x1 = some r) : Met l yX9_hangsOn (Cond.code yX9_hangsOn cX9_hangsOn 2 (some .int) :: TB) (rmm 0 0) (va_Pc [.ref (ad 20 0), .int x1] (PB E ad (M, N))) (Qi E ad r (M, N)) 0 0 (ow E) := by
  refine Met.ofW (cc := cX9_hangsOn) (maxL := 2) (ret := (some .int)) (by decide) rfl ?_
  intro p e s m args below meth c s₁ B hml hv
  obtain ⟨rfl, hW, hK, hZ⟩ := hv
  have hT : ∀ w ∈ TB, w.before _ s = true := fun w h => atoms_spec (ws := (Cond.code yX9_hangsOn cX9_hangsOn 2 (some .int) :: TB)) B.pre w (List.mem_cons_of_mem _ h)
  have X : CX p s m _ meth c cX9_hangsOn 2 (some .int) RX9 := ⟨B.exec, B.bytes, hml, findClass_of_methodNamed B.named, hT, B.returns, B.notSynchronized⟩
  obtain ⟨hx, hb, hml, hown, hT, hr, hlk⟩ := id X
  have hS : va_S (ow E) s.heap s.heap [] := va_S.rf
  have hl := lv_entry ([.ref (ad 20 0), .int x1]) (n := 2) (Nat.le_of_ble_eq_true rfl)
  rw [lg_entry_eq]
  generalize (lg_sl ([.ref (ad 20 0), .int x1]) ++ List.replicate (2 - (lg_sl ([.ref (ad 20 0), .int x1])).length) Slot.unset).toArray = ls at hl ⊢
  have hl : lv_has ls 2 [(0, .ref (ad 20 0)), (1, .int x1)] := hl
  unfold f_yX9_hangsOn at hf
  refine lv_aload_n hx hb dX9_hangsOn_0 rfl (lv_at hl 0 rfl) ?_
  refine g_9_12 X hK hW flRX9_40 dX9_hangsOn_1 ?_
  refine lv_iload_n hx hb dX9_hangsOn_4 rfl (lv_at hl 1 rfl) ?_
  obtain ⟨b1, hf⟩ := gd_some hf
  refine al_31 X hK hW b1 dX9_hangsOn_5 ?_
  refine lv_iconst (v := 3) hx hb dX9_hangsOn_6 (by decide) ?_
  refine lv_icmp_ne (tgt := 24) hx hb dX9_hangsOn_7 (by decide) (fun c2 => ?_) (fun c2 => ?_)
  · rw [if_neg c2] at hf
    refine lv_aload_n hx hb dX9_hangsOn_24 rfl (lv_at hl 0 rfl) ?_
    refine g_9_12 X hK hW flRX9_40 dX9_hangsOn_25 ?_
    refine lv_iload_n hx hb dX9_hangsOn_28 rfl (lv_at hl 1 rfl) ?_
    refine al_31 X hK hW b1 dX9_hangsOn_29 ?_
    refine lv_bipush (v := 6) hx hb dX9_hangsOn_30 (by decide) ?_
    refine lv_icmp_ne (tgt := 44) hx hb dX9_hangsOn_32 (by decide) (fun c3 => ?_) (fun c3 => ?_)
    · rw [if_neg c3] at hf
      refine lv_bipush (v := -4) hx hb dX9_hangsOn_44 (by decide) ?_
      obtain rfl := sp1 hf
      exact e_i ⟨hx, hb, hr, hlk⟩ hW hS dX9_hangsOn_46
    · rw [if_pos c3] at hf
      refine lv_aload_n hx hb dX9_hangsOn_35 rfl (lv_at hl 0 rfl) ?_
      refine g_9_20 X hK hW flRX9_65 dX9_hangsOn_36 ?_
      refine lv_iload_n hx hb dX9_hangsOn_39 rfl (lv_at hl 1 rfl) ?_
      refine al_39 X hK hW b1 dX9_hangsOn_40 ?_
      refine lv_goto (tgt := 46) hx hb dX9_hangsOn_41 (by decide) ?_
      obtain rfl := sp1 hf
      exact e_i ⟨hx, hb, hr, hlk⟩ hW hS dX9_hangsOn_46
  · rw [if_pos c2] at hf
    refine lv_aload_n hx hb dX9_hangsOn_10 rfl (lv_at hl 0 rfl) ?_
    refine g_9_5 X hK hW flRX9_22 dX9_hangsOn_11 ?_
    refine lv_aload_n hx hb dX9_hangsOn_14 rfl (lv_at hl 0 rfl) ?_
    refine g_9_20 X hK hW flRX9_65 dX9_hangsOn_15 ?_
    refine lv_iload_n hx hb dX9_hangsOn_18 rfl (lv_at hl 1 rfl) ?_
    refine al_39 X hK hW b1 dX9_hangsOn_19 ?_
    obtain ⟨b4, hf⟩ := gd_some hf
    refine al_25 X hK hW b4 dX9_hangsOn_20 ?_
    refine lv_goto (tgt := 46) hx hb dX9_hangsOn_21 (by decide) ?_
    obtain rfl := sp1 hf
    exact e_i ⟨hx, hb, hr, hlk⟩ hW hS dX9_hangsOn_46
set_option maxRecDepth 100000 in
set_option maxHeartbeats 4000000 in
theorem k_yX9_hangsOn {p : Program} {l : Launch} {e : Env} {R : Room} {s : State} {m : MethodId} {args : Array Value} {below : List Frame} {meth : Method} {c : Code} {H : Heap} {locs : List Loc} {cells slots : Nat} {Q : State → Prop} {cc : ByteArray} {pc nL index : Nat} {ret : Option FieldType} {own : String} {ls : Array Slot} {rest : List Value} {E : Lay} {ad : Nat → Nat → Nat} {M N : Mem} (X : CX p s m args meth c cc nL ret own) (hK : KK E s) (hZ : ZZ E s) (hW : WD E ad (M, N) H) (hS : va_S (ow E) s.heap H locs) (hsz : ls.size = nL) {x1 : Int32} {r : Int32} (hf : f_yX9_hangsOn N x1 = some r) (hn : Cond.methodLink own index yX9_hangsOn ∈ TB) (hR : 0 + 1 ≤ R.frames ∧ 8 + (2 + 11) + 0 ≤ R.locals) (hC : cells ≤ R.cells ∧ slots ≤ R.slots) (h8 : (rest.map fun v => v.category).sum ≤ 8) (hdg : decode cc pc = .ok (.invokevirtual index, 3)) (kk : ∀ (H1 : Heap) (locs1 : List Loc), WD E ad (M, N) H1 → va_S (ow E) s.heap H1 locs1 → W p l e R s m args below meth c H1 locs1 cells slots Q (F0 m (pc + 3) ls (.int r :: rest))) : W p l e R s m args below meth c H locs cells slots Q (F0 m pc ls (.int x1 :: .ref (ad 20 0) :: rest)) := by
  refine va_calli (va_runV (C := RX9) (As := [.int x1]) (rest := rest) ⟨X.1, X.2.1, X.2.2.1, X.2.2.2.1, X.2.2.2.2.1⟩ (c_yX9_hangsOn l E ad M N x1 r hf) (cwV 1 X.2.2.2.2.1 (gV hn im_yX9_hangsOn se_yX9_hangsOn iniRX9 cd_yX9_hangsOn) rfl rfl rfl (by decide +kernel) hR) ⟨fun a U g mk q => ⟨q.1, q.2.calling⟩, va_recv hK.1 (hW.at (c := 20) (i := 0) Nat.zero_lt_one rfl) (ci := 9) (q0 := 0) rfl rfl, fun U hU hw => ⟨rfl, PB.at hW hK hZ hS hU hw⟩⟩ rfl rfl hsz rfl (lv_room h8) hdg hC) hS (fun _ _ h => h) (fun _ h => h) (fun r' u t H1 locs1 ht hvm hw hB hz1 hk1 hS1 => ?_)
  obtain ⟨rfl, rfl⟩ := hw
  rw [ht] at hB
  exact kk H1 locs1 hB hS1
def f_yX9_ring_L74 : Nat → Mem → Int32 → Int32 → Int32 → Int32 → Option (Int32)
  | 0, _, _, _, _, _ => none
  | n + 1, N0, y1, y3, y5, y6 => (if y1 ≤ y6 then (if y3 ≤ y1 then (some (-4)) else (some y5)) else (if y3 ≤ y6 then (if y3 ≤ y1 then (some (-4)) else (some y5)) else ob1 (f_yX9_hangsOn N0 y5) (fun r13 => (f_yX9_ring_L74 n N0 y1 y3 r13 (y6 + 1)))))
def f_yX9_ring_L19 : Nat → Mem → Int32 → Int32 → Int32 → Int32 → Option (Int32)
  | 0, _, _, _, _, _ => none
  | n + 1, N0, y1, y2, y3, y4 => (if y4 = (-4) then (if y4 = y2 then (if 7 ≤ y3 then (if 6 ≤ (y2 + 1) then (some (-4)) else (f_yX9_ring_L19 n N0 y1 (y2 + 1) 0 (y2 + 1))) else (f_yX9_ring_L74 70 N0 y1 y3 y2 0)) else (if 6 ≤ (y2 + 1) then (some (-4)) else (f_yX9_ring_L19 n N0 y1 (y2 + 1) 0 (y2 + 1)))) else (if 7 ≤ y3 then (if y4 = y2 then (if 6 ≤ (y2 + 1) then (some (-4)) else (f_yX9_ring_L19 n N0 y1 (y2 + 1) 0 (y2 + 1))) else (if 6 ≤ (y2 + 1) then (some (-4)) else (f_yX9_ring_L19 n N0 y1 (y2 + 1) 0 (y2 + 1)))) else (if y3 = 0 then ob1 (f_yX9_hangsOn N0 y4) (fun r21 => (f_yX9_ring_L19 n N0 y1 y2 (y3 + 1) r21)) else (if y4 = y2 then (if y4 = y2 then (f_yX9_ring_L74 70 N0 y1 y3 y2 0) else (if 6 ≤ (y2 + 1) then (some (-4)) else (f_yX9_ring_L19 n N0 y1 (y2 + 1) 0 (y2 + 1)))) else ob1 (f_yX9_hangsOn N0 y4) (fun r27 => (f_yX9_ring_L19 n N0 y1 y2 (y3 + 1) r27))))))
def f_yX9_ring (N : Mem) (x1 : Int32) : Option (Int32) := (if 0 ≤ x1 then (f_yX9_ring_L19 70 N x1 0 0 0) else (some (-1)))
set_option maxRecDepth 100000 in
set_option maxHeartbeats 4000000 in
theorem l_yX9_ring_74 (l : Launch) (E : Lay) (ad : Nat → Nat → Nat) (M : Mem) {p : Program} {e : Env} {s : State} {m : MethodId} {args : Array Value} {below : List Frame} {meth : Method} {c : Code} (X : CX p s m args meth c cX9_ring 7 (some .int) RX9) (hK : KK E s) (hZ : ZZ E s) : ∀ (n : Nat) (N0 : Mem) (y1 : Int32) (y3 : Int32) (y5 : Int32) (y6 : Int32) (r : Int32) (hf : f_yX9_ring_L74 n N0 y1 y3 y5 y6 = some r) (H : Heap) (locs : List Loc) (ls : Array Slot), WD E ad (M, N0) H → va_S (ow E) s.heap H locs → lv_has ls 7 [(0, .ref (ad 20 0)), (1, .int y1), (3, .int y3), (5, .int y5), (6, .int y6)] → W p l e (rmm 1 21) s m args below meth c H locs 0 0 (MQ below (Qi E ad r (M, N0)) args s 0 0 (ow E)) (F0 m 74 ls []) := by
  obtain ⟨hx, hb, hml, hown, hT, hr, hlk⟩ := id X
  intro n
  induction n with
  | zero =>
    intro N0 y1 y3 y5 y6 r hf
    rw [f_yX9_ring_L74] at hf
    cases hf
  | succ n ih =>
    intro N0 y1 y3 y5 y6 r hf H locs ls hW hS hl
    rw [f_yX9_ring_L74] at hf
    refine lv_iload hx hb dX9_ring_74 (lv_at hl 4 rfl) ?_
    refine lv_iload_n hx hb dX9_ring_76 rfl (lv_at hl 1 rfl) ?_
    refine lv_icmp_ge (tgt := 100) hx hb dX9_ring_77 (by decide) (fun c8 => ?_) (fun c8 => ?_)
    · rw [if_pos c8] at hf
      refine lv_iload_n hx hb dX9_ring_100 rfl (lv_at hl 1 rfl) ?_
      refine lv_iload_n hx hb dX9_ring_101 rfl (lv_at hl 2 rfl) ?_
      refine lv_icmp_ge (tgt := 110) hx hb dX9_ring_102 (by decide) (fun c9 => ?_) (fun c9 => ?_)
      · rw [if_pos c9] at hf
        refine lv_bipush (v := -4) hx hb dX9_ring_110 (by decide) ?_
        obtain rfl := sp1 hf
        exact e_i ⟨hx, hb, hr, hlk⟩ hW hS dX9_ring_112
      · rw [if_neg c9] at hf
        refine lv_iload hx hb dX9_ring_105 (lv_at hl 3 rfl) ?_
        refine lv_goto (tgt := 112) hx hb dX9_ring_107 (by decide) ?_
        obtain rfl := sp1 hf
        exact e_i ⟨hx, hb, hr, hlk⟩ hW hS dX9_ring_112
    · rw [if_neg c8] at hf
      refine lv_iload hx hb dX9_ring_80 (lv_at hl 4 rfl) ?_
      refine lv_iload_n hx hb dX9_ring_82 rfl (lv_at hl 2 rfl) ?_
      refine lv_icmp_ge (tgt := 100) hx hb dX9_ring_83 (by decide) (fun c10 => ?_) (fun c10 => ?_)
      · rw [if_pos c10] at hf
        refine lv_iload_n hx hb dX9_ring_100 rfl (lv_at hl 1 rfl) ?_
        refine lv_iload_n hx hb dX9_ring_101 rfl (lv_at hl 2 rfl) ?_
        refine lv_icmp_ge (tgt := 110) hx hb dX9_ring_102 (by decide) (fun c11 => ?_) (fun c11 => ?_)
        · rw [if_pos c11] at hf
          refine lv_bipush (v := -4) hx hb dX9_ring_110 (by decide) ?_
          obtain rfl := sp1 hf
          exact e_i ⟨hx, hb, hr, hlk⟩ hW hS dX9_ring_112
        · rw [if_neg c11] at hf
          refine lv_iload hx hb dX9_ring_105 (lv_at hl 3 rfl) ?_
          refine lv_goto (tgt := 112) hx hb dX9_ring_107 (by decide) ?_
          obtain rfl := sp1 hf
          exact e_i ⟨hx, hb, hr, hlk⟩ hW hS dX9_ring_112
      · rw [if_neg c10] at hf
        refine lv_aload_n hx hb dX9_ring_86 rfl (lv_at hl 0 rfl) ?_
        refine lv_iload hx hb dX9_ring_87 (lv_at hl 3 rfl) ?_
        obtain ⟨r13, h12, hf⟩ := ob1_some hf
        refine k_yX9_hangsOn X hK hZ hW hS hl.1 h12 mlRX9_264 ⟨Nat.le_of_ble_eq_true rfl, Nat.le_of_ble_eq_true rfl⟩ ⟨Nat.le_of_ble_eq_true rfl, Nat.le_of_ble_eq_true rfl⟩ (Nat.le_of_ble_eq_true rfl) dX9_ring_89 (fun H locs hW hS => ?_)
        refine lv_istore (lv' := [(5, .int r13), (0, .ref (ad 20 0)), (1, .int y1), (3, .int y3), (6, .int y6)]) hx hb dX9_ring_92 hl (by decide) rfl (fun ls hl => ?_)
        refine lv_iinc (v := (y6 + 1)) (lv' := [(6, .int (y6 + 1)), (5, .int r13), (0, .ref (ad 20 0)), (1, .int y1), (3, .int y3)]) hx hb dX9_ring_94 hl (k := 4) rfl rfl (by decide) rfl (fun ls hl => ?_)
        refine lv_goto (tgt := 74) hx hb dX9_ring_97 (by decide) ?_
        exact ih _ _ _ _ _ _ hf _ _ _ hW hS (lv_sub hl [2, 3, 4, 1, 0] rfl)
set_option maxRecDepth 100000 in
set_option maxHeartbeats 4000000 in
theorem l_yX9_ring_19 (l : Launch) (E : Lay) (ad : Nat → Nat → Nat) (M : Mem) {p : Program} {e : Env} {s : State} {m : MethodId} {args : Array Value} {below : List Frame} {meth : Method} {c : Code} (X : CX p s m args meth c cX9_ring 7 (some .int) RX9) (hK : KK E s) (hZ : ZZ E s) : ∀ (n : Nat) (N0 : Mem) (y1 : Int32) (y2 : Int32) (y3 : Int32) (y4 : Int32) (r : Int32) (hf : f_yX9_ring_L19 n N0 y1 y2 y3 y4 = some r) (H : Heap) (locs : List Loc) (ls : Array Slot), WD E ad (M, N0) H → va_S (ow E) s.heap H locs → lv_has ls 7 [(0, .ref (ad 20 0)), (1, .int y1), (2, .int y2), (3, .int y3), (4, .int y4)] → W p l e (rmm 1 21) s m args below meth c H locs 0 0 (MQ below (Qi E ad r (M, N0)) args s 0 0 (ow E)) (F0 m 19 ls []) := by
  obtain ⟨hx, hb, hml, hown, hT, hr, hlk⟩ := id X
  intro n
  induction n with
  | zero =>
    intro N0 y1 y2 y3 y4 r hf
    rw [f_yX9_ring_L19] at hf
    cases hf
  | succ n ih =>
    intro N0 y1 y2 y3 y4 r hf H locs ls hW hS hl
    rw [f_yX9_ring_L19] at hf
    refine lv_iload hx hb dX9_ring_19 (lv_at hl 4 rfl) ?_
    refine lv_bipush (v := -4) hx hb dX9_ring_21 (by decide) ?_
    refine lv_icmp_eq (tgt := 56) hx hb dX9_ring_23 (by decide) (fun c3 => ?_) (fun c3 => ?_)
    · rw [if_pos c3] at hf
      refine lv_iload hx hb dX9_ring_56 (lv_at hl 4 rfl) ?_
      refine lv_iload_n hx hb dX9_ring_58 rfl (lv_at hl 2 rfl) ?_
      refine lv_icmp_ne (tgt := 113) hx hb dX9_ring_59 (by decide) (fun c4 => ?_) (fun c4 => ?_)
      · rw [if_neg c4] at hf
        refine lv_iinc (v := (y2 + 1)) (lv' := [(2, .int (y2 + 1)), (0, .ref (ad 20 0)), (1, .int y1), (3, .int y3), (4, .int y4)]) hx hb dX9_ring_113 hl (k := 2) rfl rfl (by decide) rfl (fun ls hl => ?_)
        refine lv_goto (tgt := 8) hx hb dX9_ring_116 (by decide) ?_
        refine lv_iload_n hx hb dX9_ring_8 rfl (lv_at hl 0 rfl) ?_
        refine lv_bipush (v := 6) hx hb dX9_ring_9 (by decide) ?_
        refine lv_icmp_ge (tgt := 119) hx hb dX9_ring_11 (by decide) (fun c5 => ?_) (fun c5 => ?_)
        · rw [if_pos c5] at hf
          refine lv_bipush (v := -4) hx hb dX9_ring_119 (by decide) ?_
          obtain rfl := sp1 hf
          exact e_i ⟨hx, hb, hr, hlk⟩ hW hS dX9_ring_121
        · rw [if_neg c5] at hf
          refine lv_iconst (v := 0) hx hb dX9_ring_14 (by decide) ?_
          refine lv_istore_n (lv' := [(3, .int 0), (2, .int (y2 + 1)), (0, .ref (ad 20 0)), (1, .int y1), (4, .int y4)]) hx hb dX9_ring_15 rfl hl (by decide) rfl (fun ls hl => ?_)
          refine lv_iload_n hx hb dX9_ring_16 rfl (lv_at hl 1 rfl) ?_
          refine lv_istore (lv' := [(4, .int (y2 + 1)), (3, .int 0), (2, .int (y2 + 1)), (0, .ref (ad 20 0)), (1, .int y1)]) hx hb dX9_ring_17 hl (by decide) rfl (fun ls hl => ?_)
          exact ih _ _ _ _ _ _ hf _ _ _ hW hS (lv_sub hl [3, 4, 2, 1, 0] rfl)
      · rw [if_pos c4] at hf
        refine lv_iload_n hx hb dX9_ring_62 rfl (lv_at hl 3 rfl) ?_
        refine lv_bipush (v := 7) hx hb dX9_ring_63 (by decide) ?_
        refine lv_icmp_ge (tgt := 113) hx hb dX9_ring_65 (by decide) (fun c6 => ?_) (fun c6 => ?_)
        · rw [if_pos c6] at hf
          refine lv_iinc (v := (y2 + 1)) (lv' := [(2, .int (y2 + 1)), (0, .ref (ad 20 0)), (1, .int y1), (3, .int y3), (4, .int y4)]) hx hb dX9_ring_113 hl (k := 2) rfl rfl (by decide) rfl (fun ls hl => ?_)
          refine lv_goto (tgt := 8) hx hb dX9_ring_116 (by decide) ?_
          refine lv_iload_n hx hb dX9_ring_8 rfl (lv_at hl 0 rfl) ?_
          refine lv_bipush (v := 6) hx hb dX9_ring_9 (by decide) ?_
          refine lv_icmp_ge (tgt := 119) hx hb dX9_ring_11 (by decide) (fun c7 => ?_) (fun c7 => ?_)
          · rw [if_pos c7] at hf
            refine lv_bipush (v := -4) hx hb dX9_ring_119 (by decide) ?_
            obtain rfl := sp1 hf
            exact e_i ⟨hx, hb, hr, hlk⟩ hW hS dX9_ring_121
          · rw [if_neg c7] at hf
            refine lv_iconst (v := 0) hx hb dX9_ring_14 (by decide) ?_
            refine lv_istore_n (lv' := [(3, .int 0), (2, .int (y2 + 1)), (0, .ref (ad 20 0)), (1, .int y1), (4, .int y4)]) hx hb dX9_ring_15 rfl hl (by decide) rfl (fun ls hl => ?_)
            refine lv_iload_n hx hb dX9_ring_16 rfl (lv_at hl 1 rfl) ?_
            refine lv_istore (lv' := [(4, .int (y2 + 1)), (3, .int 0), (2, .int (y2 + 1)), (0, .ref (ad 20 0)), (1, .int y1)]) hx hb dX9_ring_17 hl (by decide) rfl (fun ls hl => ?_)
            exact ih _ _ _ _ _ _ hf _ _ _ hW hS (lv_sub hl [3, 4, 2, 1, 0] rfl)
        · rw [if_neg c6] at hf
          refine lv_iload_n hx hb dX9_ring_68 rfl (lv_at hl 2 rfl) ?_
          refine lv_istore (lv' := [(5, .int y2), (0, .ref (ad 20 0)), (1, .int y1), (2, .int y2), (3, .int y3), (4, .int y4)]) hx hb dX9_ring_69 hl (by decide) rfl (fun ls hl => ?_)
          refine lv_iconst (v := 0) hx hb dX9_ring_71 (by decide) ?_
          refine lv_istore (lv' := [(6, .int 0), (5, .int y2), (0, .ref (ad 20 0)), (1, .int y1), (2, .int y2), (3, .int y3), (4, .int y4)]) hx hb dX9_ring_72 hl (by decide) rfl (fun ls hl => ?_)
          exact (l_yX9_ring_74 l E ad M X hK hZ 70) _ _ _ _ _ _ hf _ _ _ hW hS (lv_sub hl [2, 3, 5, 1, 0] rfl)
    · rw [if_neg c3] at hf
      refine lv_iload_n hx hb dX9_ring_26 rfl (lv_at hl 3 rfl) ?_
      refine lv_bipush (v := 7) hx hb dX9_ring_27 (by decide) ?_
      refine lv_icmp_ge (tgt := 56) hx hb dX9_ring_29 (by decide) (fun c14 => ?_) (fun c14 => ?_)
      · rw [if_pos c14] at hf
        refine lv_iload hx hb dX9_ring_56 (lv_at hl 4 rfl) ?_
        refine lv_iload_n hx hb dX9_ring_58 rfl (lv_at hl 2 rfl) ?_
        refine lv_icmp_ne (tgt := 113) hx hb dX9_ring_59 (by decide) (fun c15 => ?_) (fun c15 => ?_)
        · rw [if_neg c15] at hf
          refine lv_iinc (v := (y2 + 1)) (lv' := [(2, .int (y2 + 1)), (0, .ref (ad 20 0)), (1, .int y1), (3, .int y3), (4, .int y4)]) hx hb dX9_ring_113 hl (k := 2) rfl rfl (by decide) rfl (fun ls hl => ?_)
          refine lv_goto (tgt := 8) hx hb dX9_ring_116 (by decide) ?_
          refine lv_iload_n hx hb dX9_ring_8 rfl (lv_at hl 0 rfl) ?_
          refine lv_bipush (v := 6) hx hb dX9_ring_9 (by decide) ?_
          refine lv_icmp_ge (tgt := 119) hx hb dX9_ring_11 (by decide) (fun c16 => ?_) (fun c16 => ?_)
          · rw [if_pos c16] at hf
            refine lv_bipush (v := -4) hx hb dX9_ring_119 (by decide) ?_
            obtain rfl := sp1 hf
            exact e_i ⟨hx, hb, hr, hlk⟩ hW hS dX9_ring_121
          · rw [if_neg c16] at hf
            refine lv_iconst (v := 0) hx hb dX9_ring_14 (by decide) ?_
            refine lv_istore_n (lv' := [(3, .int 0), (2, .int (y2 + 1)), (0, .ref (ad 20 0)), (1, .int y1), (4, .int y4)]) hx hb dX9_ring_15 rfl hl (by decide) rfl (fun ls hl => ?_)
            refine lv_iload_n hx hb dX9_ring_16 rfl (lv_at hl 1 rfl) ?_
            refine lv_istore (lv' := [(4, .int (y2 + 1)), (3, .int 0), (2, .int (y2 + 1)), (0, .ref (ad 20 0)), (1, .int y1)]) hx hb dX9_ring_17 hl (by decide) rfl (fun ls hl => ?_)
            exact ih _ _ _ _ _ _ hf _ _ _ hW hS (lv_sub hl [3, 4, 2, 1, 0] rfl)
        · rw [if_pos c15] at hf
          refine lv_iload_n hx hb dX9_ring_62 rfl (lv_at hl 3 rfl) ?_
          refine lv_bipush (v := 7) hx hb dX9_ring_63 (by decide) ?_
          refine lv_icmp_ge (tgt := 113) hx hb dX9_ring_65 (by decide) (fun c17 => ?_) (fun c17 => ?_)
          · skip
            refine lv_iinc (v := (y2 + 1)) (lv' := [(2, .int (y2 + 1)), (0, .ref (ad 20 0)), (1, .int y1), (3, .int y3), (4, .int y4)]) hx hb dX9_ring_113 hl (k := 2) rfl rfl (by decide) rfl (fun ls hl => ?_)
            refine lv_goto (tgt := 8) hx hb dX9_ring_116 (by decide) ?_
            refine lv_iload_n hx hb dX9_ring_8 rfl (lv_at hl 0 rfl) ?_
            refine lv_bipush (v := 6) hx hb dX9_ring_9 (by decide) ?_
            refine lv_icmp_ge (tgt := 119) hx hb dX9_ring_11 (by decide) (fun c18 => ?_) (fun c18 => ?_)
            · rw [if_pos c18] at hf
              refine lv_bipush (v := -4) hx hb dX9_ring_119 (by decide) ?_
              obtain rfl := sp1 hf
              exact e_i ⟨hx, hb, hr, hlk⟩ hW hS dX9_ring_121
            · rw [if_neg c18] at hf
              refine lv_iconst (v := 0) hx hb dX9_ring_14 (by decide) ?_
              refine lv_istore_n (lv' := [(3, .int 0), (2, .int (y2 + 1)), (0, .ref (ad 20 0)), (1, .int y1), (4, .int y4)]) hx hb dX9_ring_15 rfl hl (by decide) rfl (fun ls hl => ?_)
              refine lv_iload_n hx hb dX9_ring_16 rfl (lv_at hl 1 rfl) ?_
              refine lv_istore (lv' := [(4, .int (y2 + 1)), (3, .int 0), (2, .int (y2 + 1)), (0, .ref (ad 20 0)), (1, .int y1)]) hx hb dX9_ring_17 hl (by decide) rfl (fun ls hl => ?_)
              exact ih _ _ _ _ _ _ hf _ _ _ hW hS (lv_sub hl [3, 4, 2, 1, 0] rfl)
          · exfalso; have := q_ge (b := 7) (by decide) c14; have := q_nge (b := 7) (by decide) c17; omega
      · rw [if_neg c14] at hf
        refine lv_iload_n hx hb dX9_ring_32 rfl (lv_at hl 3 rfl) ?_
        refine lv_if_eq (tgt := 42) hx hb dX9_ring_33 (by decide) (fun c19 => ?_) (fun c19 => ?_)
        · rw [if_pos c19] at hf
          refine lv_aload_n hx hb dX9_ring_42 rfl (lv_at hl 0 rfl) ?_
          refine lv_iload hx hb dX9_ring_43 (lv_at hl 4 rfl) ?_
          obtain ⟨r21, h20, hf⟩ := ob1_some hf
          refine k_yX9_hangsOn X hK hZ hW hS hl.1 h20 mlRX9_264 ⟨Nat.le_of_ble_eq_true rfl, Nat.le_of_ble_eq_true rfl⟩ ⟨Nat.le_of_ble_eq_true rfl, Nat.le_of_ble_eq_true rfl⟩ (Nat.le_of_ble_eq_true rfl) dX9_ring_45 (fun H locs hW hS => ?_)
          refine lv_istore (lv' := [(4, .int r21), (0, .ref (ad 20 0)), (1, .int y1), (2, .int y2), (3, .int y3)]) hx hb dX9_ring_48 hl (by decide) rfl (fun ls hl => ?_)
          refine lv_iinc (v := (y3 + 1)) (lv' := [(3, .int (y3 + 1)), (4, .int r21), (0, .ref (ad 20 0)), (1, .int y1), (2, .int y2)]) hx hb dX9_ring_50 hl (k := 4) rfl rfl (by decide) rfl (fun ls hl => ?_)
          refine lv_goto (tgt := 19) hx hb dX9_ring_53 (by decide) ?_
          exact ih _ _ _ _ _ _ hf _ _ _ hW hS (lv_sub hl [2, 3, 4, 0, 1] rfl)
        · rw [if_neg c19] at hf
          refine lv_iload hx hb dX9_ring_36 (lv_at hl 4 rfl) ?_
          refine lv_iload_n hx hb dX9_ring_38 rfl (lv_at hl 2 rfl) ?_
          refine lv_icmp_eq (tgt := 56) hx hb dX9_ring_39 (by decide) (fun c22 => ?_) (fun c22 => ?_)
          · rw [if_pos c22] at hf
            refine lv_iload hx hb dX9_ring_56 (lv_at hl 4 rfl) ?_
            refine lv_iload_n hx hb dX9_ring_58 rfl (lv_at hl 2 rfl) ?_
            refine lv_icmp_ne (tgt := 113) hx hb dX9_ring_59 (by decide) (fun c23 => ?_) (fun c23 => ?_)
            · rw [if_neg c23] at hf
              refine lv_iinc (v := (y2 + 1)) (lv' := [(2, .int (y2 + 1)), (0, .ref (ad 20 0)), (1, .int y1), (3, .int y3), (4, .int y4)]) hx hb dX9_ring_113 hl (k := 2) rfl rfl (by decide) rfl (fun ls hl => ?_)
              refine lv_goto (tgt := 8) hx hb dX9_ring_116 (by decide) ?_
              refine lv_iload_n hx hb dX9_ring_8 rfl (lv_at hl 0 rfl) ?_
              refine lv_bipush (v := 6) hx hb dX9_ring_9 (by decide) ?_
              refine lv_icmp_ge (tgt := 119) hx hb dX9_ring_11 (by decide) (fun c24 => ?_) (fun c24 => ?_)
              · rw [if_pos c24] at hf
                refine lv_bipush (v := -4) hx hb dX9_ring_119 (by decide) ?_
                obtain rfl := sp1 hf
                exact e_i ⟨hx, hb, hr, hlk⟩ hW hS dX9_ring_121
              · rw [if_neg c24] at hf
                refine lv_iconst (v := 0) hx hb dX9_ring_14 (by decide) ?_
                refine lv_istore_n (lv' := [(3, .int 0), (2, .int (y2 + 1)), (0, .ref (ad 20 0)), (1, .int y1), (4, .int y4)]) hx hb dX9_ring_15 rfl hl (by decide) rfl (fun ls hl => ?_)
                refine lv_iload_n hx hb dX9_ring_16 rfl (lv_at hl 1 rfl) ?_
                refine lv_istore (lv' := [(4, .int (y2 + 1)), (3, .int 0), (2, .int (y2 + 1)), (0, .ref (ad 20 0)), (1, .int y1)]) hx hb dX9_ring_17 hl (by decide) rfl (fun ls hl => ?_)
                exact ih _ _ _ _ _ _ hf _ _ _ hW hS (lv_sub hl [3, 4, 2, 1, 0] rfl)
            · rw [if_pos c23] at hf
              refine lv_iload_n hx hb dX9_ring_62 rfl (lv_at hl 3 rfl) ?_
              refine lv_bipush (v := 7) hx hb dX9_ring_63 (by decide) ?_
              refine lv_icmp_ge (tgt := 113) hx hb dX9_ring_65 (by decide) (fun c25 => ?_) (fun c25 => ?_)
              · exfalso; have := q_nge (b := 7) (by decide) c14; have := q_ne (b := 0) (by decide) c19; have := q_ge (b := 7) (by decide) c25; omega
              · skip
                refine lv_iload_n hx hb dX9_ring_68 rfl (lv_at hl 2 rfl) ?_
                refine lv_istore (lv' := [(5, .int y2), (0, .ref (ad 20 0)), (1, .int y1), (2, .int y2), (3, .int y3), (4, .int y4)]) hx hb dX9_ring_69 hl (by decide) rfl (fun ls hl => ?_)
                refine lv_iconst (v := 0) hx hb dX9_ring_71 (by decide) ?_
                refine lv_istore (lv' := [(6, .int 0), (5, .int y2), (0, .ref (ad 20 0)), (1, .int y1), (2, .int y2), (3, .int y3), (4, .int y4)]) hx hb dX9_ring_72 hl (by decide) rfl (fun ls hl => ?_)
                exact (l_yX9_ring_74 l E ad M X hK hZ 70) _ _ _ _ _ _ hf _ _ _ hW hS (lv_sub hl [2, 3, 5, 1, 0] rfl)
          · rw [if_neg c22] at hf
            refine lv_aload_n hx hb dX9_ring_42 rfl (lv_at hl 0 rfl) ?_
            refine lv_iload hx hb dX9_ring_43 (lv_at hl 4 rfl) ?_
            obtain ⟨r27, h26, hf⟩ := ob1_some hf
            refine k_yX9_hangsOn X hK hZ hW hS hl.1 h26 mlRX9_264 ⟨Nat.le_of_ble_eq_true rfl, Nat.le_of_ble_eq_true rfl⟩ ⟨Nat.le_of_ble_eq_true rfl, Nat.le_of_ble_eq_true rfl⟩ (Nat.le_of_ble_eq_true rfl) dX9_ring_45 (fun H locs hW hS => ?_)
            refine lv_istore (lv' := [(4, .int r27), (0, .ref (ad 20 0)), (1, .int y1), (2, .int y2), (3, .int y3)]) hx hb dX9_ring_48 hl (by decide) rfl (fun ls hl => ?_)
            refine lv_iinc (v := (y3 + 1)) (lv' := [(3, .int (y3 + 1)), (4, .int r27), (0, .ref (ad 20 0)), (1, .int y1), (2, .int y2)]) hx hb dX9_ring_50 hl (k := 4) rfl rfl (by decide) rfl (fun ls hl => ?_)
            refine lv_goto (tgt := 19) hx hb dX9_ring_53 (by decide) ?_
            exact ih _ _ _ _ _ _ hf _ _ _ hW hS (lv_sub hl [2, 3, 4, 0, 1] rfl)
set_option maxRecDepth 100000 in
set_option maxHeartbeats 4000000 in
theorem c_yX9_ring (l : Launch) (E : Lay) (ad : Nat → Nat → Nat) (M N : Mem) (x1 : Int32) (r : Int32) (hf : f_yX9_ring N x1 = some r) : Met l yX9_ring (Cond.code yX9_ring cX9_ring 7 (some .int) :: TB) (rmm 1 21) (va_Pc [.ref (ad 20 0), .int x1] (PB E ad (M, N))) (Qi E ad r (M, N)) 0 0 (ow E) := by
  refine Met.ofW (cc := cX9_ring) (maxL := 7) (ret := (some .int)) (by decide) rfl ?_
  intro p e s m args below meth c s₁ B hml hv
  obtain ⟨rfl, hW, hK, hZ⟩ := hv
  have hT : ∀ w ∈ TB, w.before _ s = true := fun w h => atoms_spec (ws := (Cond.code yX9_ring cX9_ring 7 (some .int) :: TB)) B.pre w (List.mem_cons_of_mem _ h)
  have X : CX p s m _ meth c cX9_ring 7 (some .int) RX9 := ⟨B.exec, B.bytes, hml, findClass_of_methodNamed B.named, hT, B.returns, B.notSynchronized⟩
  obtain ⟨hx, hb, hml, hown, hT, hr, hlk⟩ := id X
  have hS : va_S (ow E) s.heap s.heap [] := va_S.rf
  have hl := lv_entry ([.ref (ad 20 0), .int x1]) (n := 7) (Nat.le_of_ble_eq_true rfl)
  rw [lg_entry_eq]
  generalize (lg_sl ([.ref (ad 20 0), .int x1]) ++ List.replicate (7 - (lg_sl ([.ref (ad 20 0), .int x1])).length) Slot.unset).toArray = ls at hl ⊢
  have hl : lv_has ls 7 [(0, .ref (ad 20 0)), (1, .int x1)] := hl
  unfold f_yX9_ring at hf
  refine lv_iload_n hx hb dX9_ring_0 rfl (lv_at hl 1 rfl) ?_
  refine lv_if_ge (tgt := 6) hx hb dX9_ring_1 (by decide) (fun c1 => ?_) (fun c1 => ?_)
  · rw [if_pos c1] at hf
    refine lv_iconst (v := 0) hx hb dX9_ring_6 (by decide) ?_
    refine lv_istore_n (lv' := [(2, .int 0), (0, .ref (ad 20 0)), (1, .int x1)]) hx hb dX9_ring_7 rfl hl (by decide) rfl (fun ls hl => ?_)
    refine lv_iload_n hx hb dX9_ring_8 rfl (lv_at hl 0 rfl) ?_
    refine lv_bipush (v := 6) hx hb dX9_ring_9 (by decide) ?_
    refine lv_icmp_ge (tgt := 119) hx hb dX9_ring_11 (by decide) (fun c2 => ?_) (fun c2 => ?_)
    · exact absurd c2 (by decide)
    · skip
      refine lv_iconst (v := 0) hx hb dX9_ring_14 (by decide) ?_
      refine lv_istore_n (lv' := [(3, .int 0), (2, .int 0), (0, .ref (ad 20 0)), (1, .int x1)]) hx hb dX9_ring_15 rfl hl (by decide) rfl (fun ls hl => ?_)
      refine lv_iload_n hx hb dX9_ring_16 rfl (lv_at hl 1 rfl) ?_
      refine lv_istore (lv' := [(4, .int 0), (3, .int 0), (2, .int 0), (0, .ref (ad 20 0)), (1, .int x1)]) hx hb dX9_ring_17 hl (by decide) rfl (fun ls hl => ?_)
      exact (l_yX9_ring_19 l E ad M X hK hZ 70) _ _ _ _ _ _ hf _ _ _ hW hS (lv_sub hl [3, 4, 2, 1, 0] rfl)
  · rw [if_neg c1] at hf
    refine lv_iconst (v := -1) hx hb dX9_ring_4 (by decide) ?_
    obtain rfl := sp1 hf
    exact e_i ⟨hx, hb, hr, hlk⟩ hW hS dX9_ring_5
set_option maxRecDepth 100000 in
set_option maxHeartbeats 4000000 in
theorem k_yX9_ring {p : Program} {l : Launch} {e : Env} {R : Room} {s : State} {m : MethodId} {args : Array Value} {below : List Frame} {meth : Method} {c : Code} {H : Heap} {locs : List Loc} {cells slots : Nat} {Q : State → Prop} {cc : ByteArray} {pc nL index : Nat} {ret : Option FieldType} {own : String} {ls : Array Slot} {rest : List Value} {E : Lay} {ad : Nat → Nat → Nat} {M N : Mem} (X : CX p s m args meth c cc nL ret own) (hK : KK E s) (hZ : ZZ E s) (hW : WD E ad (M, N) H) (hS : va_S (ow E) s.heap H locs) (hsz : ls.size = nL) {x1 : Int32} {r : Int32} (hf : f_yX9_ring N x1 = some r) (hn : Cond.methodLink own index yX9_ring ∈ TB) (hR : 1 + 1 ≤ R.frames ∧ 8 + (7 + 11) + 21 ≤ R.locals) (hC : cells ≤ R.cells ∧ slots ≤ R.slots) (h8 : (rest.map fun v => v.category).sum ≤ 8) (hdg : decode cc pc = .ok (.invokevirtual index, 3)) (kk : ∀ (H1 : Heap) (locs1 : List Loc), WD E ad (M, N) H1 → va_S (ow E) s.heap H1 locs1 → W p l e R s m args below meth c H1 locs1 cells slots Q (F0 m (pc + 3) ls (.int r :: rest))) : W p l e R s m args below meth c H locs cells slots Q (F0 m pc ls (.int x1 :: .ref (ad 20 0) :: rest)) := by
  refine va_calli (va_runV (C := RX9) (As := [.int x1]) (rest := rest) ⟨X.1, X.2.1, X.2.2.1, X.2.2.2.1, X.2.2.2.2.1⟩ (c_yX9_ring l E ad M N x1 r hf) (cwV 1 X.2.2.2.2.1 (gV hn im_yX9_ring se_yX9_ring iniRX9 cd_yX9_ring) rfl rfl rfl (by decide +kernel) hR) ⟨fun a U g mk q => ⟨q.1, q.2.calling⟩, va_recv hK.1 (hW.at (c := 20) (i := 0) Nat.zero_lt_one rfl) (ci := 9) (q0 := 0) rfl rfl, fun U hU hw => ⟨rfl, PB.at hW hK hZ hS hU hw⟩⟩ rfl rfl hsz rfl (lv_room h8) hdg hC) hS (fun _ _ h => h) (fun _ h => h) (fun r' u t H1 locs1 ht hvm hw hB hz1 hk1 hS1 => ?_)
  obtain ⟨rfl, rfl⟩ := hw
  rw [ht] at hB
  exact kk H1 locs1 hB hS1
def f_yX9_log (N : Mem) (x1 : Int32) (x2 : Int32) : Option (Int32) := (if x1 < 0 then (some (-1)) else ob1 (f_yX9_in x2 0 2) (fun r3 => (if r3 = 0 then (some (-1)) else (if 60 ≤ x1 then (some (-4)) else (if (N 20 0 12) ≤ x1 then (some (-4)) else gd (¬ (((3 * ((((N 20 0 12) - 1) - x1) - (((N 20 0 12) - 1) - x1) / 60 * 60)) + x2) < 0 ∨ 180 ≤ ((3 * ((((N 20 0 12) - 1) - x1) - (((N 20 0 12) - 1) - x1) / 60 * 60)) + x2).toNatClampNeg)) ((some (N 52 0 ((3 * ((((N 20 0 12) - 1) - x1) - (((N 20 0 12) - 1) - x1) / 60 * 60)) + x2).toNatClampNeg))))))))
set_option maxRecDepth 100000 in
set_option maxHeartbeats 4000000 in
theorem c_yX9_log (l : Launch) (E : Lay) (ad : Nat → Nat → Nat) (M N : Mem) (x1 : Int32) (x2 : Int32) (r : Int32) (hf : f_yX9_log N x1 x2 = some r) : Met l yX9_log (Cond.code yX9_log cX9_log 3 (some .int) :: TB) (rmm 1 22) (va_Pc [.ref (ad 20 0), .int x1, .int x2] (PB E ad (M, N))) (Qi E ad r (M, N)) 0 0 (ow E) := by
  refine Met.ofW (cc := cX9_log) (maxL := 3) (ret := (some .int)) (by decide) rfl ?_
  intro p e s m args below meth c s₁ B hml hv
  obtain ⟨rfl, hW, hK, hZ⟩ := hv
  have hT : ∀ w ∈ TB, w.before _ s = true := fun w h => atoms_spec (ws := (Cond.code yX9_log cX9_log 3 (some .int) :: TB)) B.pre w (List.mem_cons_of_mem _ h)
  have X : CX p s m _ meth c cX9_log 3 (some .int) RX9 := ⟨B.exec, B.bytes, hml, findClass_of_methodNamed B.named, hT, B.returns, B.notSynchronized⟩
  obtain ⟨hx, hb, hml, hown, hT, hr, hlk⟩ := id X
  have hS : va_S (ow E) s.heap s.heap [] := va_S.rf
  have hl := lv_entry ([.ref (ad 20 0), .int x1, .int x2]) (n := 3) (Nat.le_of_ble_eq_true rfl)
  rw [lg_entry_eq]
  generalize (lg_sl ([.ref (ad 20 0), .int x1, .int x2]) ++ List.replicate (3 - (lg_sl ([.ref (ad 20 0), .int x1, .int x2])).length) Slot.unset).toArray = ls at hl ⊢
  have hl : lv_has ls 3 [(0, .ref (ad 20 0)), (1, .int x1), (2, .int x2)] := hl
  unfold f_yX9_log at hf
  refine lv_iload_n hx hb dX9_log_0 rfl (lv_at hl 1 rfl) ?_
  refine lv_if_lt (tgt := 13) hx hb dX9_log_1 (by decide) (fun c1 => ?_) (fun c1 => ?_)
  · rw [if_pos c1] at hf
    refine lv_iconst (v := -1) hx hb dX9_log_13 (by decide) ?_
    obtain rfl := sp1 hf
    exact e_i ⟨hx, hb, hr, hlk⟩ hW hS dX9_log_14
  · rw [if_neg c1] at hf
    refine lv_iload_n hx hb dX9_log_4 rfl (lv_at hl 2 rfl) ?_
    refine lv_iconst (v := 0) hx hb dX9_log_5 (by decide) ?_
    refine lv_iconst (v := 2) hx hb dX9_log_6 (by decide) ?_
    obtain ⟨r3, h2, hf⟩ := ob1_some hf
    refine k_yX9_in X hK hZ hW hS hl.1 h2 mlRX9_114 ⟨Nat.le_of_ble_eq_true rfl, Nat.le_of_ble_eq_true rfl⟩ ⟨Nat.le_of_ble_eq_true rfl, Nat.le_of_ble_eq_true rfl⟩ (Nat.le_of_ble_eq_true rfl) dX9_log_7 (fun H locs hW hS => ?_)
    refine lv_if_ne (tgt := 15) hx hb dX9_log_10 (by decide) (fun c4 => ?_) (fun c4 => ?_)
    · rw [if_neg c4] at hf
      refine lv_iload_n hx hb dX9_log_15 rfl (lv_at hl 1 rfl) ?_
      refine lv_bipush (v := 60) hx hb dX9_log_16 (by decide) ?_
      refine lv_icmp_ge (tgt := 52) hx hb dX9_log_18 (by decide) (fun c5 => ?_) (fun c5 => ?_)
      · rw [if_pos c5] at hf
        refine lv_bipush (v := -4) hx hb dX9_log_52 (by decide) ?_
        obtain rfl := sp1 hf
        exact e_i ⟨hx, hb, hr, hlk⟩ hW hS dX9_log_54
      · rw [if_neg c5] at hf
        refine lv_iload_n hx hb dX9_log_21 rfl (lv_at hl 1 rfl) ?_
        refine lv_aload_n hx hb dX9_log_22 rfl (lv_at hl 0 rfl) ?_
        refine g_9_43 X hK hW flRX9_204 dX9_log_23 ?_
        refine lv_icmp_ge (tgt := 52) hx hb dX9_log_26 (by decide) (fun c6 => ?_) (fun c6 => ?_)
        · rw [if_pos c6] at hf
          refine lv_bipush (v := -4) hx hb dX9_log_52 (by decide) ?_
          obtain rfl := sp1 hf
          exact e_i ⟨hx, hb, hr, hlk⟩ hW hS dX9_log_54
        · rw [if_neg c6] at hf
          refine lv_aload_n hx hb dX9_log_29 rfl (lv_at hl 0 rfl) ?_
          refine g_9_44 X hK hW flRX9_108 dX9_log_30 ?_
          refine lv_iconst (v := 3) hx hb dX9_log_33 (by decide) ?_
          refine lv_aload_n hx hb dX9_log_34 rfl (lv_at hl 0 rfl) ?_
          refine g_9_43 X hK hW flRX9_204 dX9_log_35 ?_
          refine lv_iconst (v := 1) hx hb dX9_log_38 (by decide) ?_
          refine lv_isub hx hb dX9_log_39 ?_
          refine lv_iload_n hx hb dX9_log_40 rfl (lv_at hl 1 rfl) ?_
          refine lv_isub hx hb dX9_log_41 ?_
          refine lv_bipush (v := 60) hx hb dX9_log_42 (by decide) ?_
          refine lv_irem hx hb dX9_log_44 (by decide) ?_
          refine lv_imul hx hb dX9_log_45 ?_
          refine lv_iload_n hx hb dX9_log_46 rfl (lv_at hl 2 rfl) ?_
          refine lv_iadd hx hb dX9_log_47 ?_
          obtain ⟨b7, hf⟩ := gd_some hf
          refine al_52 X hK hW b7 dX9_log_48 ?_
          refine lv_goto (tgt := 54) hx hb dX9_log_49 (by decide) ?_
          obtain rfl := sp1 hf
          exact e_i ⟨hx, hb, hr, hlk⟩ hW hS dX9_log_54
    · rw [if_pos c4] at hf
      refine lv_iconst (v := -1) hx hb dX9_log_13 (by decide) ?_
      obtain rfl := sp1 hf
      exact e_i ⟨hx, hb, hr, hlk⟩ hW hS dX9_log_14
set_option maxRecDepth 100000 in
set_option maxHeartbeats 4000000 in
theorem k_yX9_log {p : Program} {l : Launch} {e : Env} {R : Room} {s : State} {m : MethodId} {args : Array Value} {below : List Frame} {meth : Method} {c : Code} {H : Heap} {locs : List Loc} {cells slots : Nat} {Q : State → Prop} {cc : ByteArray} {pc nL index : Nat} {ret : Option FieldType} {own : String} {ls : Array Slot} {rest : List Value} {E : Lay} {ad : Nat → Nat → Nat} {M N : Mem} (X : CX p s m args meth c cc nL ret own) (hK : KK E s) (hZ : ZZ E s) (hW : WD E ad (M, N) H) (hS : va_S (ow E) s.heap H locs) (hsz : ls.size = nL) {x1 : Int32} {x2 : Int32} {r : Int32} (hf : f_yX9_log N x1 x2 = some r) (hn : Cond.methodLink own index yX9_log ∈ TB) (hR : 1 + 1 ≤ R.frames ∧ 8 + (3 + 11) + 22 ≤ R.locals) (hC : cells ≤ R.cells ∧ slots ≤ R.slots) (h8 : (rest.map fun v => v.category).sum ≤ 8) (hdg : decode cc pc = .ok (.invokevirtual index, 3)) (kk : ∀ (H1 : Heap) (locs1 : List Loc), WD E ad (M, N) H1 → va_S (ow E) s.heap H1 locs1 → W p l e R s m args below meth c H1 locs1 cells slots Q (F0 m (pc + 3) ls (.int r :: rest))) : W p l e R s m args below meth c H locs cells slots Q (F0 m pc ls (.int x2 :: .int x1 :: .ref (ad 20 0) :: rest)) := by
  refine va_calli (va_runV (C := RX9) (As := [.int x1, .int x2]) (rest := rest) ⟨X.1, X.2.1, X.2.2.1, X.2.2.2.1, X.2.2.2.2.1⟩ (c_yX9_log l E ad M N x1 x2 r hf) (cwV 2 X.2.2.2.2.1 (gV hn im_yX9_log se_yX9_log iniRX9 cd_yX9_log) rfl rfl rfl (by decide +kernel) hR) ⟨fun a U g mk q => ⟨q.1, q.2.calling⟩, va_recv hK.1 (hW.at (c := 20) (i := 0) Nat.zero_lt_one rfl) (ci := 9) (q0 := 0) rfl rfl, fun U hU hw => ⟨rfl, PB.at hW hK hZ hS hU hw⟩⟩ rfl rfl hsz rfl (lv_room h8) hdg hC) hS (fun _ _ h => h) (fun _ h => h) (fun r' u t H1 locs1 ht hvm hw hB hz1 hk1 hS1 => ?_)
  obtain ⟨rfl, rfl⟩ := hw
  rw [ht] at hB
  exact kk H1 locs1 hB hS1
def f_yX9_count_L16 : Nat → Mem → Int32 → Int32 → Int32 → Option (Int32)
  | 0, _, _, _, _ => none
  | n + 1, N0, y1, y2, y3 => (if 6 ≤ y3 then (if y1 = 0 then (some (N0 20 0 2)) else (if y1 = 1 then gd (¬ (y1 < 0 ∨ 12 ≤ y1.toNatClampNeg)) ((some (N0 51 0 y1.toNatClampNeg))) else (if y1 = 2 then gd (¬ (y1 < 0 ∨ 12 ≤ y1.toNatClampNeg)) ((some (N0 51 0 y1.toNatClampNeg))) else (if y1 = 3 then gd (¬ (y1 < 0 ∨ 12 ≤ y1.toNatClampNeg)) ((some (N0 51 0 y1.toNatClampNeg))) else (if y1 = 4 then gd (¬ (y1 < 0 ∨ 12 ≤ y1.toNatClampNeg)) ((some (N0 51 0 y1.toNatClampNeg))) else (if y1 = 5 then gd (¬ (y1 < 0 ∨ 12 ≤ y1.toNatClampNeg)) ((some (N0 51 0 y1.toNatClampNeg))) else (if y1 = 6 then gd (¬ (y1 < 0 ∨ 12 ≤ y1.toNatClampNeg)) ((some (N0 51 0 y1.toNatClampNeg))) else (if y1 = 7 then gd (¬ (y1 < 0 ∨ 12 ≤ y1.toNatClampNeg)) ((some (N0 51 0 y1.toNatClampNeg))) else (if y1 = 8 then gd (¬ (y1 < 0 ∨ 12 ≤ y1.toNatClampNeg)) ((some (N0 51 0 y1.toNatClampNeg))) else (if y1 = 9 then gd (¬ (y1 < 0 ∨ 12 ≤ y1.toNatClampNeg)) ((some (N0 51 0 y1.toNatClampNeg))) else (if y1 = 10 then gd (¬ (y1 < 0 ∨ 12 ≤ y1.toNatClampNeg)) ((some (N0 51 0 y1.toNatClampNeg))) else (if y1 = 11 then gd (¬ (y1 < 0 ∨ 12 ≤ y1.toNatClampNeg)) ((some (N0 51 0 y1.toNatClampNeg))) else (if y1 = 12 then (some (N0 20 0 9)) else (if y1 = 13 then (some (N0 20 0 0)) else (if y1 = 14 then (some y2) else (if y1 = 15 then (some (N0 20 0 11)) else (if y1 = 16 then (some (N0 20 0 10)) else gd (¬ (y1 < 0 ∨ 12 ≤ y1.toNatClampNeg)) ((some (N0 51 0 y1.toNatClampNeg)))))))))))))))))))) else ob1 (f_yX9_isUnderWay N0 y3) (fun r35 => (if r35 = 0 then (f_yX9_count_L16 n N0 y1 (y2 + 0) (y3 + 1)) else (f_yX9_count_L16 n N0 y1 (y2 + 1) (y3 + 1)))))
def f_yX9_count (N : Mem) (x1 : Int32) : Option (Int32) := ob1 (f_yX9_in x1 0 16) (fun r2 => (if r2 = 0 then (some (-1)) else (f_yX9_count_L16 70 N x1 0 0)))
set_option maxRecDepth 100000 in
set_option maxHeartbeats 4000000 in
theorem l_yX9_count_16 (l : Launch) (E : Lay) (ad : Nat → Nat → Nat) (M : Mem) {p : Program} {e : Env} {s : State} {m : MethodId} {args : Array Value} {below : List Frame} {meth : Method} {c : Code} (X : CX p s m args meth c cX9_count 4 (some .int) RX9) (hK : KK E s) (hZ : ZZ E s) : ∀ (n : Nat) (N0 : Mem) (y1 : Int32) (y2 : Int32) (y3 : Int32) (r : Int32) (hf : f_yX9_count_L16 n N0 y1 y2 y3 = some r) (H : Heap) (locs : List Loc) (ls : Array Slot), WD E ad (M, N0) H → va_S (ow E) s.heap H locs → lv_has ls 4 [(0, .ref (ad 20 0)), (1, .int y1), (2, .int y2), (3, .int y3)] → W p l e (rmm 2 43) s m args below meth c H locs 0 0 (MQ below (Qi E ad r (M, N0)) args s 0 0 (ow E)) (F0 m 16 ls []) := by
  obtain ⟨hx, hb, hml, hown, hT, hr, hlk⟩ := id X
  intro n
  induction n with
  | zero =>
    intro N0 y1 y2 y3 r hf
    rw [f_yX9_count_L16] at hf
    cases hf
  | succ n ih =>
    intro N0 y1 y2 y3 r hf H locs ls hW hS hl
    rw [f_yX9_count_L16] at hf
    refine lv_iload_n hx hb dX9_count_16 rfl (lv_at hl 3 rfl) ?_
    refine lv_bipush (v := 6) hx hb dX9_count_17 (by decide) ?_
    refine lv_icmp_ge (tgt := 44) hx hb dX9_count_19 (by decide) (fun c4 => ?_) (fun c4 => ?_)
    · rw [if_pos c4] at hf
      refine lv_iload_n hx hb dX9_count_44 rfl (lv_at hl 1 rfl) ?_
      by_cases c5 : y1 = 0
      · rw [if_pos c5] at hf
        refine lv_tableIn (tgt := 128) hx hb dX9_count_45 (by rw [c5]; decide) (by rw [c5]; decide) (by rw [c5]; rfl) (by decide) ?_
        refine lv_aload_n hx hb dX9_count_128 rfl (lv_at hl 0 rfl) ?_
        refine g_9_32 X hK hW flRX9_174 dX9_count_129 ?_
        obtain rfl := sp1 hf
        exact e_i ⟨hx, hb, hr, hlk⟩ hW hS dX9_count_132
      rw [if_neg c5] at hf
      by_cases c6 : y1 = 1
      · rw [if_pos c6] at hf
        refine lv_tableIn (tgt := 155) hx hb dX9_count_45 (by rw [c6]; decide) (by rw [c6]; decide) (by rw [c6]; rfl) (by decide) ?_
        refine lv_aload_n hx hb dX9_count_155 rfl (lv_at hl 0 rfl) ?_
        refine g_9_39 X hK hW flRX9_105 dX9_count_156 ?_
        refine lv_iload_n hx hb dX9_count_159 rfl (lv_at hl 1 rfl) ?_
        obtain ⟨b7, hf⟩ := gd_some hf
        refine al_51 X hK hW b7 dX9_count_160 ?_
        obtain rfl := sp1 hf
        exact e_i ⟨hx, hb, hr, hlk⟩ hW hS dX9_count_161
      rw [if_neg c6] at hf
      by_cases c8 : y1 = 2
      · rw [if_pos c8] at hf
        refine lv_tableIn (tgt := 155) hx hb dX9_count_45 (by rw [c8]; decide) (by rw [c8]; decide) (by rw [c8]; rfl) (by decide) ?_
        refine lv_aload_n hx hb dX9_count_155 rfl (lv_at hl 0 rfl) ?_
        refine g_9_39 X hK hW flRX9_105 dX9_count_156 ?_
        refine lv_iload_n hx hb dX9_count_159 rfl (lv_at hl 1 rfl) ?_
        obtain ⟨b9, hf⟩ := gd_some hf
        refine al_51 X hK hW b9 dX9_count_160 ?_
        obtain rfl := sp1 hf
        exact e_i ⟨hx, hb, hr, hlk⟩ hW hS dX9_count_161
      rw [if_neg c8] at hf
      by_cases c10 : y1 = 3
      · rw [if_pos c10] at hf
        refine lv_tableIn (tgt := 155) hx hb dX9_count_45 (by rw [c10]; decide) (by rw [c10]; decide) (by rw [c10]; rfl) (by decide) ?_
        refine lv_aload_n hx hb dX9_count_155 rfl (lv_at hl 0 rfl) ?_
        refine g_9_39 X hK hW flRX9_105 dX9_count_156 ?_
        refine lv_iload_n hx hb dX9_count_159 rfl (lv_at hl 1 rfl) ?_
        obtain ⟨b11, hf⟩ := gd_some hf
        refine al_51 X hK hW b11 dX9_count_160 ?_
        obtain rfl := sp1 hf
        exact e_i ⟨hx, hb, hr, hlk⟩ hW hS dX9_count_161
      rw [if_neg c10] at hf
      by_cases c12 : y1 = 4
      · rw [if_pos c12] at hf
        refine lv_tableIn (tgt := 155) hx hb dX9_count_45 (by rw [c12]; decide) (by rw [c12]; decide) (by rw [c12]; rfl) (by decide) ?_
        refine lv_aload_n hx hb dX9_count_155 rfl (lv_at hl 0 rfl) ?_
        refine g_9_39 X hK hW flRX9_105 dX9_count_156 ?_
        refine lv_iload_n hx hb dX9_count_159 rfl (lv_at hl 1 rfl) ?_
        obtain ⟨b13, hf⟩ := gd_some hf
        refine al_51 X hK hW b13 dX9_count_160 ?_
        obtain rfl := sp1 hf
        exact e_i ⟨hx, hb, hr, hlk⟩ hW hS dX9_count_161
      rw [if_neg c12] at hf
      by_cases c14 : y1 = 5
      · rw [if_pos c14] at hf
        refine lv_tableIn (tgt := 155) hx hb dX9_count_45 (by rw [c14]; decide) (by rw [c14]; decide) (by rw [c14]; rfl) (by decide) ?_
        refine lv_aload_n hx hb dX9_count_155 rfl (lv_at hl 0 rfl) ?_
        refine g_9_39 X hK hW flRX9_105 dX9_count_156 ?_
        refine lv_iload_n hx hb dX9_count_159 rfl (lv_at hl 1 rfl) ?_
        obtain ⟨b15, hf⟩ := gd_some hf
        refine al_51 X hK hW b15 dX9_count_160 ?_
        obtain rfl := sp1 hf
        exact e_i ⟨hx, hb, hr, hlk⟩ hW hS dX9_count_161
      rw [if_neg c14] at hf
      by_cases c16 : y1 = 6
      · rw [if_pos c16] at hf
        refine lv_tableIn (tgt := 155) hx hb dX9_count_45 (by rw [c16]; decide) (by rw [c16]; decide) (by rw [c16]; rfl) (by decide) ?_
        refine lv_aload_n hx hb dX9_count_155 rfl (lv_at hl 0 rfl) ?_
        refine g_9_39 X hK hW flRX9_105 dX9_count_156 ?_
        refine lv_iload_n hx hb dX9_count_159 rfl (lv_at hl 1 rfl) ?_
        obtain ⟨b17, hf⟩ := gd_some hf
        refine al_51 X hK hW b17 dX9_count_160 ?_
        obtain rfl := sp1 hf
        exact e_i ⟨hx, hb, hr, hlk⟩ hW hS dX9_count_161
      rw [if_neg c16] at hf
      by_cases c18 : y1 = 7
      · rw [if_pos c18] at hf
        refine lv_tableIn (tgt := 155) hx hb dX9_count_45 (by rw [c18]; decide) (by rw [c18]; decide) (by rw [c18]; rfl) (by decide) ?_
        refine lv_aload_n hx hb dX9_count_155 rfl (lv_at hl 0 rfl) ?_
        refine g_9_39 X hK hW flRX9_105 dX9_count_156 ?_
        refine lv_iload_n hx hb dX9_count_159 rfl (lv_at hl 1 rfl) ?_
        obtain ⟨b19, hf⟩ := gd_some hf
        refine al_51 X hK hW b19 dX9_count_160 ?_
        obtain rfl := sp1 hf
        exact e_i ⟨hx, hb, hr, hlk⟩ hW hS dX9_count_161
      rw [if_neg c18] at hf
      by_cases c20 : y1 = 8
      · rw [if_pos c20] at hf
        refine lv_tableIn (tgt := 155) hx hb dX9_count_45 (by rw [c20]; decide) (by rw [c20]; decide) (by rw [c20]; rfl) (by decide) ?_
        refine lv_aload_n hx hb dX9_count_155 rfl (lv_at hl 0 rfl) ?_
        refine g_9_39 X hK hW flRX9_105 dX9_count_156 ?_
        refine lv_iload_n hx hb dX9_count_159 rfl (lv_at hl 1 rfl) ?_
        obtain ⟨b21, hf⟩ := gd_some hf
        refine al_51 X hK hW b21 dX9_count_160 ?_
        obtain rfl := sp1 hf
        exact e_i ⟨hx, hb, hr, hlk⟩ hW hS dX9_count_161
      rw [if_neg c20] at hf
      by_cases c22 : y1 = 9
      · rw [if_pos c22] at hf
        refine lv_tableIn (tgt := 155) hx hb dX9_count_45 (by rw [c22]; decide) (by rw [c22]; decide) (by rw [c22]; rfl) (by decide) ?_
        refine lv_aload_n hx hb dX9_count_155 rfl (lv_at hl 0 rfl) ?_
        refine g_9_39 X hK hW flRX9_105 dX9_count_156 ?_
        refine lv_iload_n hx hb dX9_count_159 rfl (lv_at hl 1 rfl) ?_
        obtain ⟨b23, hf⟩ := gd_some hf
        refine al_51 X hK hW b23 dX9_count_160 ?_
        obtain rfl := sp1 hf
        exact e_i ⟨hx, hb, hr, hlk⟩ hW hS dX9_count_161
      rw [if_neg c22] at hf
      by_cases c24 : y1 = 10
      · rw [if_pos c24] at hf
        refine lv_tableIn (tgt := 155) hx hb dX9_count_45 (by rw [c24]; decide) (by rw [c24]; decide) (by rw [c24]; rfl) (by decide) ?_
        refine lv_aload_n hx hb dX9_count_155 rfl (lv_at hl 0 rfl) ?_
        refine g_9_39 X hK hW flRX9_105 dX9_count_156 ?_
        refine lv_iload_n hx hb dX9_count_159 rfl (lv_at hl 1 rfl) ?_
        obtain ⟨b25, hf⟩ := gd_some hf
        refine al_51 X hK hW b25 dX9_count_160 ?_
        obtain rfl := sp1 hf
        exact e_i ⟨hx, hb, hr, hlk⟩ hW hS dX9_count_161
      rw [if_neg c24] at hf
      by_cases c26 : y1 = 11
      · rw [if_pos c26] at hf
        refine lv_tableIn (tgt := 155) hx hb dX9_count_45 (by rw [c26]; decide) (by rw [c26]; decide) (by rw [c26]; rfl) (by decide) ?_
        refine lv_aload_n hx hb dX9_count_155 rfl (lv_at hl 0 rfl) ?_
        refine g_9_39 X hK hW flRX9_105 dX9_count_156 ?_
        refine lv_iload_n hx hb dX9_count_159 rfl (lv_at hl 1 rfl) ?_
        obtain ⟨b27, hf⟩ := gd_some hf
        refine al_51 X hK hW b27 dX9_count_160 ?_
        obtain rfl := sp1 hf
        exact e_i ⟨hx, hb, hr, hlk⟩ hW hS dX9_count_161
      rw [if_neg c26] at hf
      by_cases c28 : y1 = 12
      · rw [if_pos c28] at hf
        refine lv_tableIn (tgt := 133) hx hb dX9_count_45 (by rw [c28]; decide) (by rw [c28]; decide) (by rw [c28]; rfl) (by decide) ?_
        refine lv_aload_n hx hb dX9_count_133 rfl (lv_at hl 0 rfl) ?_
        refine g_9_40 X hK hW flRX9_207 dX9_count_134 ?_
        obtain rfl := sp1 hf
        exact e_i ⟨hx, hb, hr, hlk⟩ hW hS dX9_count_137
      rw [if_neg c28] at hf
      by_cases c29 : y1 = 13
      · rw [if_pos c29] at hf
        refine lv_tableIn (tgt := 138) hx hb dX9_count_45 (by rw [c29]; decide) (by rw [c29]; decide) (by rw [c29]; rfl) (by decide) ?_
        refine lv_aload_n hx hb dX9_count_138 rfl (lv_at hl 0 rfl) ?_
        refine g_9_0 X hK hW flRX9_111 dX9_count_139 ?_
        obtain rfl := sp1 hf
        exact e_i ⟨hx, hb, hr, hlk⟩ hW hS dX9_count_142
      rw [if_neg c29] at hf
      by_cases c30 : y1 = 14
      · rw [if_pos c30] at hf
        refine lv_tableIn (tgt := 143) hx hb dX9_count_45 (by rw [c30]; decide) (by rw [c30]; decide) (by rw [c30]; rfl) (by decide) ?_
        refine lv_iload_n hx hb dX9_count_143 rfl (lv_at hl 2 rfl) ?_
        obtain rfl := sp1 hf
        exact e_i ⟨hx, hb, hr, hlk⟩ hW hS dX9_count_144
      rw [if_neg c30] at hf
      by_cases c31 : y1 = 15
      · rw [if_pos c31] at hf
        refine lv_tableIn (tgt := 145) hx hb dX9_count_45 (by rw [c31]; decide) (by rw [c31]; decide) (by rw [c31]; rfl) (by decide) ?_
        refine lv_aload_n hx hb dX9_count_145 rfl (lv_at hl 0 rfl) ?_
        refine g_9_42 X hK hW flRX9_194 dX9_count_146 ?_
        obtain rfl := sp1 hf
        exact e_i ⟨hx, hb, hr, hlk⟩ hW hS dX9_count_149
      rw [if_neg c31] at hf
      by_cases c32 : y1 = 16
      · rw [if_pos c32] at hf
        refine lv_tableIn (tgt := 150) hx hb dX9_count_45 (by rw [c32]; decide) (by rw [c32]; decide) (by rw [c32]; rfl) (by decide) ?_
        refine lv_aload_n hx hb dX9_count_150 rfl (lv_at hl 0 rfl) ?_
        refine g_9_41 X hK hW flRX9_210 dX9_count_151 ?_
        obtain rfl := sp1 hf
        exact e_i ⟨hx, hb, hr, hlk⟩ hW hS dX9_count_154
      rw [if_neg c32] at hf
      refine lv_tableOut (tgt := 155) hx hb dX9_count_45 (by have := lv_neT (a := 0) c5 (by decide); have := lv_neT (a := 1) c6 (by decide); have := lv_neT (a := 2) c8 (by decide); have := lv_neT (a := 3) c10 (by decide); have := lv_neT (a := 4) c12 (by decide); have := lv_neT (a := 5) c14 (by decide); have := lv_neT (a := 6) c16 (by decide); have := lv_neT (a := 7) c18 (by decide); have := lv_neT (a := 8) c20 (by decide); have := lv_neT (a := 9) c22 (by decide); have := lv_neT (a := 10) c24 (by decide); have := lv_neT (a := 11) c26 (by decide); have := lv_neT (a := 12) c28 (by decide); have := lv_neT (a := 13) c29 (by decide); have := lv_neT (a := 14) c30 (by decide); have := lv_neT (a := 15) c31 (by decide); have := lv_neT (a := 16) c32 (by decide); omega) (by decide) ?_
      refine lv_aload_n hx hb dX9_count_155 rfl (lv_at hl 0 rfl) ?_
      refine g_9_39 X hK hW flRX9_105 dX9_count_156 ?_
      refine lv_iload_n hx hb dX9_count_159 rfl (lv_at hl 1 rfl) ?_
      obtain ⟨b33, hf⟩ := gd_some hf
      refine al_51 X hK hW b33 dX9_count_160 ?_
      obtain rfl := sp1 hf
      exact e_i ⟨hx, hb, hr, hlk⟩ hW hS dX9_count_161
    · rw [if_neg c4] at hf
      refine lv_iload_n hx hb dX9_count_22 rfl (lv_at hl 2 rfl) ?_
      refine lv_aload_n hx hb dX9_count_23 rfl (lv_at hl 0 rfl) ?_
      refine lv_iload_n hx hb dX9_count_24 rfl (lv_at hl 3 rfl) ?_
      obtain ⟨r35, h34, hf⟩ := ob1_some hf
      refine k_yX9_isUnderWay X hK hZ hW hS hl.1 h34 mlRX9_143 ⟨Nat.le_of_ble_eq_true rfl, Nat.le_of_ble_eq_true rfl⟩ ⟨Nat.le_of_ble_eq_true rfl, Nat.le_of_ble_eq_true rfl⟩ (Nat.le_of_ble_eq_true rfl) dX9_count_25 (fun H locs hW hS => ?_)
      refine lv_if_eq (tgt := 35) hx hb dX9_count_28 (by decide) (fun c36 => ?_) (fun c36 => ?_)
      · rw [if_pos c36] at hf
        refine lv_iconst (v := 0) hx hb dX9_count_35 (by decide) ?_
        refine lv_iadd hx hb dX9_count_36 ?_
        refine lv_istore_n (lv' := [(2, .int (y2 + 0)), (0, .ref (ad 20 0)), (1, .int y1), (3, .int y3)]) hx hb dX9_count_37 rfl hl (by decide) rfl (fun ls hl => ?_)
        refine lv_iinc (v := (y3 + 1)) (lv' := [(3, .int (y3 + 1)), (2, .int (y2 + 0)), (0, .ref (ad 20 0)), (1, .int y1)]) hx hb dX9_count_38 hl (k := 3) rfl rfl (by decide) rfl (fun ls hl => ?_)
        refine lv_goto (tgt := 16) hx hb dX9_count_41 (by decide) ?_
        exact ih _ _ _ _ _ hf _ _ _ hW hS (lv_sub hl [2, 3, 1, 0] rfl)
      · rw [if_neg c36] at hf
        refine lv_iconst (v := 1) hx hb dX9_count_31 (by decide) ?_
        refine lv_goto (tgt := 36) hx hb dX9_count_32 (by decide) ?_
        refine lv_iadd hx hb dX9_count_36 ?_
        refine lv_istore_n (lv' := [(2, .int (y2 + 1)), (0, .ref (ad 20 0)), (1, .int y1), (3, .int y3)]) hx hb dX9_count_37 rfl hl (by decide) rfl (fun ls hl => ?_)
        refine lv_iinc (v := (y3 + 1)) (lv' := [(3, .int (y3 + 1)), (2, .int (y2 + 1)), (0, .ref (ad 20 0)), (1, .int y1)]) hx hb dX9_count_38 hl (k := 3) rfl rfl (by decide) rfl (fun ls hl => ?_)
        refine lv_goto (tgt := 16) hx hb dX9_count_41 (by decide) ?_
        exact ih _ _ _ _ _ hf _ _ _ hW hS (lv_sub hl [2, 3, 1, 0] rfl)
set_option maxRecDepth 100000 in
set_option maxHeartbeats 4000000 in
theorem c_yX9_count (l : Launch) (E : Lay) (ad : Nat → Nat → Nat) (M N : Mem) (x1 : Int32) (r : Int32) (hf : f_yX9_count N x1 = some r) : Met l yX9_count (Cond.code yX9_count cX9_count 4 (some .int) :: TB) (rmm 2 43) (va_Pc [.ref (ad 20 0), .int x1] (PB E ad (M, N))) (Qi E ad r (M, N)) 0 0 (ow E) := by
  refine Met.ofW (cc := cX9_count) (maxL := 4) (ret := (some .int)) (by decide) rfl ?_
  intro p e s m args below meth c s₁ B hml hv
  obtain ⟨rfl, hW, hK, hZ⟩ := hv
  have hT : ∀ w ∈ TB, w.before _ s = true := fun w h => atoms_spec (ws := (Cond.code yX9_count cX9_count 4 (some .int) :: TB)) B.pre w (List.mem_cons_of_mem _ h)
  have X : CX p s m _ meth c cX9_count 4 (some .int) RX9 := ⟨B.exec, B.bytes, hml, findClass_of_methodNamed B.named, hT, B.returns, B.notSynchronized⟩
  obtain ⟨hx, hb, hml, hown, hT, hr, hlk⟩ := id X
  have hS : va_S (ow E) s.heap s.heap [] := va_S.rf
  have hl := lv_entry ([.ref (ad 20 0), .int x1]) (n := 4) (Nat.le_of_ble_eq_true rfl)
  rw [lg_entry_eq]
  generalize (lg_sl ([.ref (ad 20 0), .int x1]) ++ List.replicate (4 - (lg_sl ([.ref (ad 20 0), .int x1])).length) Slot.unset).toArray = ls at hl ⊢
  have hl : lv_has ls 4 [(0, .ref (ad 20 0)), (1, .int x1)] := hl
  unfold f_yX9_count at hf
  refine lv_iload_n hx hb dX9_count_0 rfl (lv_at hl 1 rfl) ?_
  refine lv_iconst (v := 0) hx hb dX9_count_1 (by decide) ?_
  refine lv_bipush (v := 16) hx hb dX9_count_2 (by decide) ?_
  obtain ⟨r2, h1, hf⟩ := ob1_some hf
  refine k_yX9_in X hK hZ hW hS hl.1 h1 mlRX9_114 ⟨Nat.le_of_ble_eq_true rfl, Nat.le_of_ble_eq_true rfl⟩ ⟨Nat.le_of_ble_eq_true rfl, Nat.le_of_ble_eq_true rfl⟩ (Nat.le_of_ble_eq_true rfl) dX9_count_4 (fun H locs hW hS => ?_)
  refine lv_if_ne (tgt := 12) hx hb dX9_count_7 (by decide) (fun c3 => ?_) (fun c3 => ?_)
  · rw [if_neg c3] at hf
    refine lv_iconst (v := 0) hx hb dX9_count_12 (by decide) ?_
    refine lv_istore_n (lv' := [(2, .int 0), (0, .ref (ad 20 0)), (1, .int x1)]) hx hb dX9_count_13 rfl hl (by decide) rfl (fun ls hl => ?_)
    refine lv_iconst (v := 0) hx hb dX9_count_14 (by decide) ?_
    refine lv_istore_n (lv' := [(3, .int 0), (2, .int 0), (0, .ref (ad 20 0)), (1, .int x1)]) hx hb dX9_count_15 rfl hl (by decide) rfl (fun ls hl => ?_)
    exact (l_yX9_count_16 l E ad M X hK hZ 70) _ _ _ _ _ hf _ _ _ hW hS (lv_sub hl [2, 3, 1, 0] rfl)
  · rw [if_pos c3] at hf
    refine lv_iconst (v := -1) hx hb dX9_count_10 (by decide) ?_
    obtain rfl := sp1 hf
    exact e_i ⟨hx, hb, hr, hlk⟩ hW hS dX9_count_11
set_option maxRecDepth 100000 in
set_option maxHeartbeats 4000000 in
theorem k_yX9_count {p : Program} {l : Launch} {e : Env} {R : Room} {s : State} {m : MethodId} {args : Array Value} {below : List Frame} {meth : Method} {c : Code} {H : Heap} {locs : List Loc} {cells slots : Nat} {Q : State → Prop} {cc : ByteArray} {pc nL index : Nat} {ret : Option FieldType} {own : String} {ls : Array Slot} {rest : List Value} {E : Lay} {ad : Nat → Nat → Nat} {M N : Mem} (X : CX p s m args meth c cc nL ret own) (hK : KK E s) (hZ : ZZ E s) (hW : WD E ad (M, N) H) (hS : va_S (ow E) s.heap H locs) (hsz : ls.size = nL) {x1 : Int32} {r : Int32} (hf : f_yX9_count N x1 = some r) (hn : Cond.methodLink own index yX9_count ∈ TB) (hR : 2 + 1 ≤ R.frames ∧ 8 + (4 + 11) + 43 ≤ R.locals) (hC : cells ≤ R.cells ∧ slots ≤ R.slots) (h8 : (rest.map fun v => v.category).sum ≤ 8) (hdg : decode cc pc = .ok (.invokevirtual index, 3)) (kk : ∀ (H1 : Heap) (locs1 : List Loc), WD E ad (M, N) H1 → va_S (ow E) s.heap H1 locs1 → W p l e R s m args below meth c H1 locs1 cells slots Q (F0 m (pc + 3) ls (.int r :: rest))) : W p l e R s m args below meth c H locs cells slots Q (F0 m pc ls (.int x1 :: .ref (ad 20 0) :: rest)) := by
  refine va_calli (va_runV (C := RX9) (As := [.int x1]) (rest := rest) ⟨X.1, X.2.1, X.2.2.1, X.2.2.2.1, X.2.2.2.2.1⟩ (c_yX9_count l E ad M N x1 r hf) (cwV 1 X.2.2.2.2.1 (gV hn im_yX9_count se_yX9_count iniRX9 cd_yX9_count) rfl rfl rfl (by decide +kernel) hR) ⟨fun a U g mk q => ⟨q.1, q.2.calling⟩, va_recv hK.1 (hW.at (c := 20) (i := 0) Nat.zero_lt_one rfl) (ci := 9) (q0 := 0) rfl rfl, fun U hU hw => ⟨rfl, PB.at hW hK hZ hS hU hw⟩⟩ rfl rfl hsz rfl (lv_room h8) hdg hC) hS (fun _ _ h => h) (fun _ h => h) (fun r' u t H1 locs1 ht hvm hw hB hz1 hk1 hS1 => ?_)
  obtain ⟨rfl, rfl⟩ := hw
  rw [ht] at hB
  exact kk H1 locs1 hB hS1
