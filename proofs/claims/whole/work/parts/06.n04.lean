def f_yX9_broken (N : Mem) (x1 : Int32) : Option (Int32 × Mem) := ob1 (f_yX9_in x1 0 5) (fun r2 => (if r2 = 0 then (some ((-1), N)) else ob1 (f_yX9_isUnderWay N x1) (fun r5 => (if r5 = 0 then (some (0, N)) else gd (¬ (x1 < 0 ∨ 6 ≤ x1.toNatClampNeg)) ((if (N 31 0 x1.toNatClampNeg) = 2 then lt1 (mp N 35 0 x1.toNatClampNeg 1) (fun N9 => (some (1, N9))) else (if (N 31 0 x1.toNatClampNeg) = 3 then lt1 (mp N 35 0 x1.toNatClampNeg 1) (fun N18 => (some (1, N18))) else lt1 (mp N 36 0 x1.toNatClampNeg 1) (fun N11 => lt1 (mp N11 40 0 x1.toNatClampNeg (-4)) (fun N12 => (if (N12 31 0 x1.toNatClampNeg) = 4 then ob1 (f_yX9_getIn N12 x1) (fun N17 => (some (1, N17))) else lt1 (mp N12 31 0 x1.toNatClampNeg 2) (fun N14 => lt1 (mp N14 39 0 x1.toNatClampNeg (-4)) (fun N15 => (some (1, N15))))))))))))))
set_option maxRecDepth 100000 in
set_option maxHeartbeats 4000000 in
theorem c_yX9_broken (l : Launch) (E : Lay) (ad : Nat → Nat → Nat) (M N : Mem) (x1 : Int32) (r : Int32) (Nr : Mem) (hf : f_yX9_broken N x1 = some (r, Nr)) : Met l yX9_broken (Cond.code yX9_broken cX9_broken 2 (some .int) :: TB) (rmm 2 43) (va_Pc [.ref (ad 20 0), .int x1] (PB E ad (M, N))) (Qi E ad r (M, Nr)) 0 0 (ow E) := by
  refine Met.ofW (cc := cX9_broken) (maxL := 2) (ret := (some .int)) (by decide) rfl ?_
  intro p e s m args below meth c s₁ B hml hv
  obtain ⟨rfl, hW, hK, hZ⟩ := hv
  have hT : ∀ w ∈ TB, w.before _ s = true := fun w h => atoms_spec (ws := (Cond.code yX9_broken cX9_broken 2 (some .int) :: TB)) B.pre w (List.mem_cons_of_mem _ h)
  have X : CX p s m _ meth c cX9_broken 2 (some .int) RX9 := ⟨B.exec, B.bytes, hml, findClass_of_methodNamed B.named, hT, B.returns, B.notSynchronized⟩
  obtain ⟨hx, hb, hml, hown, hT, hr, hlk⟩ := id X
  have hS : va_S (ow E) s.heap s.heap [] := va_S.rf
  have hl := lv_entry ([.ref (ad 20 0), .int x1]) (n := 2) (Nat.le_of_ble_eq_true rfl)
  rw [lg_entry_eq]
  generalize (lg_sl ([.ref (ad 20 0), .int x1]) ++ List.replicate (2 - (lg_sl ([.ref (ad 20 0), .int x1])).length) Slot.unset).toArray = ls at hl ⊢
  have hl : lv_has ls 2 [(0, .ref (ad 20 0)), (1, .int x1)] := hl
  unfold f_yX9_broken at hf
  refine lv_iload_n hx hb dX9_broken_0 rfl (lv_at hl 1 rfl) ?_
  refine lv_iconst (v := 0) hx hb dX9_broken_1 (by decide) ?_
  refine lv_iconst (v := 5) hx hb dX9_broken_2 (by decide) ?_
  obtain ⟨r2, h1, hf⟩ := ob1_some hf
  refine k_yX9_in X hK hZ hW hS hl.1 h1 mlRX9_114 ⟨Nat.le_of_ble_eq_true rfl, Nat.le_of_ble_eq_true rfl⟩ ⟨Nat.le_of_ble_eq_true rfl, Nat.le_of_ble_eq_true rfl⟩ (Nat.le_of_ble_eq_true rfl) dX9_broken_3 (fun H locs hW hS => ?_)
  refine lv_if_ne (tgt := 11) hx hb dX9_broken_6 (by decide) (fun c3 => ?_) (fun c3 => ?_)
  · rw [if_neg c3] at hf
    refine lv_aload_n hx hb dX9_broken_11 rfl (lv_at hl 0 rfl) ?_
    refine lv_iload_n hx hb dX9_broken_12 rfl (lv_at hl 1 rfl) ?_
    obtain ⟨r5, h4, hf⟩ := ob1_some hf
    refine k_yX9_isUnderWay X hK hZ hW hS hl.1 h4 mlRX9_143 ⟨Nat.le_of_ble_eq_true rfl, Nat.le_of_ble_eq_true rfl⟩ ⟨Nat.le_of_ble_eq_true rfl, Nat.le_of_ble_eq_true rfl⟩ (Nat.le_of_ble_eq_true rfl) dX9_broken_13 (fun H locs hW hS => ?_)
    refine lv_if_ne (tgt := 21) hx hb dX9_broken_16 (by decide) (fun c6 => ?_) (fun c6 => ?_)
    · rw [if_neg c6] at hf
      refine lv_aload_n hx hb dX9_broken_21 rfl (lv_at hl 0 rfl) ?_
      refine g_9_12 X hK hW flRX9_40 dX9_broken_22 ?_
      refine lv_iload_n hx hb dX9_broken_25 rfl (lv_at hl 1 rfl) ?_
      obtain ⟨b7, hf⟩ := gd_some hf
      refine al_31 X hK hW b7 dX9_broken_26 ?_
      refine lv_iconst (v := 2) hx hb dX9_broken_27 (by decide) ?_
      refine lv_icmp_eq (tgt := 41) hx hb dX9_broken_28 (by decide) (fun c8 => ?_) (fun c8 => ?_)
      · rw [if_pos c8] at hf
        refine lv_aload_n hx hb dX9_broken_41 rfl (lv_at hl 0 rfl) ?_
        refine g_9_16 X hK hW flRX9_52 dX9_broken_42 ?_
        refine lv_iload_n hx hb dX9_broken_45 rfl (lv_at hl 1 rfl) ?_
        refine lv_iconst (v := 1) hx hb dX9_broken_46 (by decide) ?_
        obtain ⟨N9, hN9, hf⟩ := lt1_some hf
        refine as_35 X hK hW hS rfl b7 hN9 dX9_broken_47 (fun H locs hW hS => ?_)
        refine lv_iconst (v := 1) hx hb dX9_broken_48 (by decide) ?_
        obtain ⟨rfl, rfl⟩ := sp2 hf
        exact e_i ⟨hx, hb, hr, hlk⟩ hW hS dX9_broken_49
      · rw [if_neg c8] at hf
        refine lv_aload_n hx hb dX9_broken_31 rfl (lv_at hl 0 rfl) ?_
        refine g_9_12 X hK hW flRX9_40 dX9_broken_32 ?_
        refine lv_iload_n hx hb dX9_broken_35 rfl (lv_at hl 1 rfl) ?_
        refine al_31 X hK hW b7 dX9_broken_36 ?_
        refine lv_iconst (v := 3) hx hb dX9_broken_37 (by decide) ?_
        refine lv_icmp_ne (tgt := 50) hx hb dX9_broken_38 (by decide) (fun c10 => ?_) (fun c10 => ?_)
        · rw [if_neg c10] at hf
          refine lv_aload_n hx hb dX9_broken_50 rfl (lv_at hl 0 rfl) ?_
          refine g_9_17 X hK hW flRX9_56 dX9_broken_51 ?_
          refine lv_iload_n hx hb dX9_broken_54 rfl (lv_at hl 1 rfl) ?_
          refine lv_iconst (v := 1) hx hb dX9_broken_55 (by decide) ?_
          obtain ⟨N11, hN11, hf⟩ := lt1_some hf
          refine as_36 X hK hW hS rfl b7 hN11 dX9_broken_56 (fun H locs hW hS => ?_)
          refine lv_aload_n hx hb dX9_broken_57 rfl (lv_at hl 0 rfl) ?_
          refine g_9_21 X hK hW flRX9_68 dX9_broken_58 ?_
          refine lv_iload_n hx hb dX9_broken_61 rfl (lv_at hl 1 rfl) ?_
          refine lv_bipush (v := -4) hx hb dX9_broken_62 (by decide) ?_
          obtain ⟨N12, hN12, hf⟩ := lt1_some hf
          refine as_40 X hK hW hS b7 hN12 dX9_broken_64 (fun H locs hW hS => ?_)
          refine lv_aload_n hx hb dX9_broken_65 rfl (lv_at hl 0 rfl) ?_
          refine g_9_12 X hK hW flRX9_40 dX9_broken_66 ?_
          refine lv_iload_n hx hb dX9_broken_69 rfl (lv_at hl 1 rfl) ?_
          refine al_31 X hK hW b7 dX9_broken_70 ?_
          refine lv_iconst (v := 4) hx hb dX9_broken_71 (by decide) ?_
          refine lv_icmp_ne (tgt := 83) hx hb dX9_broken_72 (by decide) (fun c13 => ?_) (fun c13 => ?_)
          · rw [if_neg c13] at hf
            refine lv_aload_n hx hb dX9_broken_83 rfl (lv_at hl 0 rfl) ?_
            refine g_9_12 X hK hW flRX9_40 dX9_broken_84 ?_
            refine lv_iload_n hx hb dX9_broken_87 rfl (lv_at hl 1 rfl) ?_
            refine lv_iconst (v := 2) hx hb dX9_broken_88 (by decide) ?_
            obtain ⟨N14, hN14, hf⟩ := lt1_some hf
            refine as_31 X hK hW hS b7 hN14 dX9_broken_89 (fun H locs hW hS => ?_)
            refine lv_aload_n hx hb dX9_broken_90 rfl (lv_at hl 0 rfl) ?_
            refine g_9_20 X hK hW flRX9_65 dX9_broken_91 ?_
            refine lv_iload_n hx hb dX9_broken_94 rfl (lv_at hl 1 rfl) ?_
            refine lv_bipush (v := -4) hx hb dX9_broken_95 (by decide) ?_
            obtain ⟨N15, hN15, hf⟩ := lt1_some hf
            refine as_39 X hK hW hS b7 hN15 dX9_broken_97 (fun H locs hW hS => ?_)
            refine lv_iconst (v := 1) hx hb dX9_broken_98 (by decide) ?_
            obtain ⟨rfl, rfl⟩ := sp2 hf
            exact e_i ⟨hx, hb, hr, hlk⟩ hW hS dX9_broken_99
          · rw [if_pos c13] at hf
            refine lv_aload_n hx hb dX9_broken_75 rfl (lv_at hl 0 rfl) ?_
            refine lv_iload_n hx hb dX9_broken_76 rfl (lv_at hl 1 rfl) ?_
            obtain ⟨N17, h16, hf⟩ := ob1_some hf
            refine k_yX9_getIn X hK hZ hW hS hl.1 h16 mlRX9_156 ⟨Nat.le_of_ble_eq_true rfl, Nat.le_of_ble_eq_true rfl⟩ ⟨Nat.le_of_ble_eq_true rfl, Nat.le_of_ble_eq_true rfl⟩ (Nat.le_of_ble_eq_true rfl) dX9_broken_77 (fun H locs hW hS => ?_)
            refine lv_goto (tgt := 98) hx hb dX9_broken_80 (by decide) ?_
            refine lv_iconst (v := 1) hx hb dX9_broken_98 (by decide) ?_
            obtain ⟨rfl, rfl⟩ := sp2 hf
            exact e_i ⟨hx, hb, hr, hlk⟩ hW hS dX9_broken_99
        · rw [if_pos c10] at hf
          refine lv_aload_n hx hb dX9_broken_41 rfl (lv_at hl 0 rfl) ?_
          refine g_9_16 X hK hW flRX9_52 dX9_broken_42 ?_
          refine lv_iload_n hx hb dX9_broken_45 rfl (lv_at hl 1 rfl) ?_
          refine lv_iconst (v := 1) hx hb dX9_broken_46 (by decide) ?_
          obtain ⟨N18, hN18, hf⟩ := lt1_some hf
          refine as_35 X hK hW hS rfl b7 hN18 dX9_broken_47 (fun H locs hW hS => ?_)
          refine lv_iconst (v := 1) hx hb dX9_broken_48 (by decide) ?_
          obtain ⟨rfl, rfl⟩ := sp2 hf
          exact e_i ⟨hx, hb, hr, hlk⟩ hW hS dX9_broken_49
    · rw [if_pos c6] at hf
      refine lv_iconst (v := 0) hx hb dX9_broken_19 (by decide) ?_
      obtain ⟨rfl, rfl⟩ := sp2 hf
      exact e_i ⟨hx, hb, hr, hlk⟩ hW hS dX9_broken_20
  · rw [if_pos c3] at hf
    refine lv_iconst (v := -1) hx hb dX9_broken_9 (by decide) ?_
    obtain ⟨rfl, rfl⟩ := sp2 hf
    exact e_i ⟨hx, hb, hr, hlk⟩ hW hS dX9_broken_10
set_option maxRecDepth 100000 in
set_option maxHeartbeats 4000000 in
theorem k_yX9_broken {p : Program} {l : Launch} {e : Env} {R : Room} {s : State} {m : MethodId} {args : Array Value} {below : List Frame} {meth : Method} {c : Code} {H : Heap} {locs : List Loc} {cells slots : Nat} {Q : State → Prop} {cc : ByteArray} {pc nL index : Nat} {ret : Option FieldType} {own : String} {ls : Array Slot} {rest : List Value} {E : Lay} {ad : Nat → Nat → Nat} {M N : Mem} (X : CX p s m args meth c cc nL ret own) (hK : KK E s) (hZ : ZZ E s) (hW : WD E ad (M, N) H) (hS : va_S (ow E) s.heap H locs) (hsz : ls.size = nL) {x1 : Int32} {r : Int32} {Nr : Mem} (hf : f_yX9_broken N x1 = some (r, Nr)) (hn : Cond.methodLink own index yX9_broken ∈ TB) (hR : 2 + 1 ≤ R.frames ∧ 8 + (2 + 11) + 43 ≤ R.locals) (hC : cells ≤ R.cells ∧ slots ≤ R.slots) (h8 : (rest.map fun v => v.category).sum ≤ 8) (hdg : decode cc pc = .ok (.invokevirtual index, 3)) (kk : ∀ (H1 : Heap) (locs1 : List Loc), WD E ad (M, Nr) H1 → va_S (ow E) s.heap H1 locs1 → W p l e R s m args below meth c H1 locs1 cells slots Q (F0 m (pc + 3) ls (.int r :: rest))) : W p l e R s m args below meth c H locs cells slots Q (F0 m pc ls (.int x1 :: .ref (ad 20 0) :: rest)) := by
  refine va_calli (va_runV (C := RX9) (As := [.int x1]) (rest := rest) ⟨X.1, X.2.1, X.2.2.1, X.2.2.2.1, X.2.2.2.2.1⟩ (c_yX9_broken l E ad M N x1 r Nr hf) (cwV 1 X.2.2.2.2.1 (gV hn im_yX9_broken se_yX9_broken iniRX9 cd_yX9_broken) rfl rfl rfl (by decide +kernel) hR) ⟨fun a U g mk q => ⟨q.1, q.2.calling⟩, va_recv hK.1 (hW.at (c := 20) (i := 0) Nat.zero_lt_one rfl) (ci := 9) (q0 := 0) rfl rfl, fun U hU hw => ⟨rfl, PB.at hW hK hZ hS hU hw⟩⟩ rfl rfl hsz rfl (lv_room h8) hdg hC) hS (fun _ _ h => h) (fun _ h => h) (fun r' u t H1 locs1 ht hvm hw hB hz1 hk1 hS1 => ?_)
  obtain ⟨rfl, rfl⟩ := hw
  rw [ht] at hB
  exact kk H1 locs1 hB hS1
def f_yX9_fails_L32 : Nat → Mem → Int32 → Int32 → Option Mem
  | 0, _, _, _ => none
  | n + 1, N0, y1, y2 => (if y2 < 0 then ob1 (f_yX9_ends N0 y1 (N0 20 0 7) (N0 20 0 8)) (fun N8 => (some N8)) else gd (¬ (((8 * y1) + y2) < 0 ∨ 48 ≤ ((8 * y1) + y2).toNatClampNeg)) ((if (((N0 48 0 ((8 * y1) + y2).toNatClampNeg) >>> ((N0 20 0 7) &&& 31)) &&& 1) = 0 then (f_yX9_fails_L32 n N0 y1 (y2 + (-1))) else gd (¬ (y1 < 0 ∨ 6 ≤ y1.toNatClampNeg)) (lt1 (mp N0 46 0 y1.toNatClampNeg y2) (fun N13 => lt1 (mp N13 44 0 y1.toNatClampNeg (N13 20 0 7)) (fun N14 => lt1 (mp N14 45 0 y1.toNatClampNeg (N14 20 0 8)) (fun N15 => lt1 (mp N15 20 0 10 ((N15 20 0 10) + 1)) (fun N16 => ob1 (f_yX9_goesTo N16 y1 (N16 47 0 ((8 * y1) + y2).toNatClampNeg)) (fun N18 => (some N18))))))))))
def f_yX9_fails (N : Mem) (x1 : Int32) : Option Mem := gd (¬ ((N 20 0 7) < 0 ∨ 12 ≤ (N 20 0 7).toNatClampNeg)) (lt1 (mp N 51 0 (N 20 0 7).toNatClampNeg ((N 51 0 (N 20 0 7).toNatClampNeg) + 1)) (fun N2 => lt1 (mp N2 20 0 9 ((N2 20 0 9) + 1)) (fun N3 => gd (¬ (x1 < 0 ∨ 6 ≤ x1.toNatClampNeg)) ((f_yX9_fails_L32 70 N3 x1 ((N3 46 0 x1.toNatClampNeg) - 1))))))
set_option maxRecDepth 100000 in
set_option maxHeartbeats 4000000 in
theorem l_yX9_fails_32 (l : Launch) (E : Lay) (ad : Nat → Nat → Nat) (M : Mem) {p : Program} {e : Env} {s : State} {m : MethodId} {args : Array Value} {below : List Frame} {meth : Method} {c : Code} (X : CX p s m args meth c cX9_fails 3 none RX9) (hK : KK E s) (hZ : ZZ E s) : ∀ (n : Nat) (N0 : Mem) (y1 : Int32) (y2 : Int32) (Nr : Mem) (hf : f_yX9_fails_L32 n N0 y1 y2 = some Nr) (H : Heap) (locs : List Loc) (ls : Array Slot), WD E ad (M, N0) H → va_S (ow E) s.heap H locs → lv_has ls 3 [(0, .ref (ad 20 0)), (1, .int y1), (2, .int y2)] → W p l e (rmm 3 71) s m args below meth c H locs 0 0 (MQ below (Qv E ad (M, Nr)) args s 0 0 (ow E)) (F0 m 32 ls []) := by
  obtain ⟨hx, hb, hml, hown, hT, hr, hlk⟩ := id X
  intro n
  induction n with
  | zero =>
    intro N0 y1 y2 Nr hf
    rw [f_yX9_fails_L32] at hf
    cases hf
  | succ n ih =>
    intro N0 y1 y2 Nr hf H locs ls hW hS hl
    rw [f_yX9_fails_L32] at hf
    refine lv_iload_n hx hb dX9_fails_32 rfl (lv_at hl 2 rfl) ?_
    refine lv_if_lt (tgt := 63) hx hb dX9_fails_33 (by decide) (fun c5 => ?_) (fun c5 => ?_)
    · rw [if_pos c5] at hf
      refine lv_iload_n hx hb dX9_fails_63 rfl (lv_at hl 2 rfl) ?_
      refine lv_if_ge (tgt := 81) hx hb dX9_fails_64 (by decide) (fun c6 => ?_) (fun c6 => ?_)
      · exfalso; have := q_lt (b := 0) (by decide) c5; have := q_ge (b := 0) (by decide) c6; omega
      · skip
        refine lv_aload_n hx hb dX9_fails_67 rfl (lv_at hl 0 rfl) ?_
        refine lv_iload_n hx hb dX9_fails_68 rfl (lv_at hl 1 rfl) ?_
        refine lv_aload_n hx hb dX9_fails_69 rfl (lv_at hl 0 rfl) ?_
        refine g_9_37 X hK hW flRX9_184 dX9_fails_70 ?_
        refine lv_aload_n hx hb dX9_fails_73 rfl (lv_at hl 0 rfl) ?_
        refine g_9_38 X hK hW flRX9_187 dX9_fails_74 ?_
        obtain ⟨N8, h7, hf⟩ := ob1_some hf
        refine k_yX9_ends X hK hZ hW hS hl.1 h7 mlRX9_190 ⟨Nat.le_of_ble_eq_true rfl, Nat.le_of_ble_eq_true rfl⟩ ⟨Nat.le_of_ble_eq_true rfl, Nat.le_of_ble_eq_true rfl⟩ (Nat.le_of_ble_eq_true rfl) dX9_fails_77 (fun H locs hW hS => ?_)
        obtain rfl := sp1 hf
        exact e_v ⟨hx, hb, hr, hlk⟩ hW hS dX9_fails_80
    · rw [if_neg c5] at hf
      refine lv_aload_n hx hb dX9_fails_36 rfl (lv_at hl 0 rfl) ?_
      refine g_9_29 X hK hW flRX9_92 dX9_fails_37 ?_
      refine lv_bipush (v := 8) hx hb dX9_fails_40 (by decide) ?_
      refine lv_iload_n hx hb dX9_fails_42 rfl (lv_at hl 1 rfl) ?_
      refine lv_imul hx hb dX9_fails_43 ?_
      refine lv_iload_n hx hb dX9_fails_44 rfl (lv_at hl 2 rfl) ?_
      refine lv_iadd hx hb dX9_fails_45 ?_
      obtain ⟨b9, hf⟩ := gd_some hf
      refine al_48 X hK hW b9 dX9_fails_46 ?_
      refine lv_aload_n hx hb dX9_fails_47 rfl (lv_at hl 0 rfl) ?_
      refine g_9_37 X hK hW flRX9_184 dX9_fails_48 ?_
      refine lv_ishr hx hb dX9_fails_51 ?_
      refine lv_iconst (v := 1) hx hb dX9_fails_52 (by decide) ?_
      refine lv_iand hx hb dX9_fails_53 ?_
      refine lv_if_ne (tgt := 63) hx hb dX9_fails_54 (by decide) (fun c10 => ?_) (fun c10 => ?_)
      · rw [if_neg c10] at hf
        refine lv_iload_n hx hb dX9_fails_63 rfl (lv_at hl 2 rfl) ?_
        refine lv_if_ge (tgt := 81) hx hb dX9_fails_64 (by decide) (fun c11 => ?_) (fun c11 => ?_)
        · skip
          refine lv_aload_n hx hb dX9_fails_81 rfl (lv_at hl 0 rfl) ?_
          refine g_9_27 X hK hW flRX9_86 dX9_fails_82 ?_
          refine lv_iload_n hx hb dX9_fails_85 rfl (lv_at hl 1 rfl) ?_
          refine lv_iload_n hx hb dX9_fails_86 rfl (lv_at hl 2 rfl) ?_
          obtain ⟨b12, hf⟩ := gd_some hf
          obtain ⟨N13, hN13, hf⟩ := lt1_some hf
          refine as_46 X hK hW hS b12 hN13 dX9_fails_87 (fun H locs hW hS => ?_)
          refine lv_aload_n hx hb dX9_fails_88 rfl (lv_at hl 0 rfl) ?_
          refine g_9_25 X hK hW flRX9_80 dX9_fails_89 ?_
          refine lv_iload_n hx hb dX9_fails_92 rfl (lv_at hl 1 rfl) ?_
          refine lv_aload_n hx hb dX9_fails_93 rfl (lv_at hl 0 rfl) ?_
          refine g_9_37 X hK hW flRX9_184 dX9_fails_94 ?_
          obtain ⟨N14, hN14, hf⟩ := lt1_some hf
          refine as_44 X hK hW hS b12 hN14 dX9_fails_97 (fun H locs hW hS => ?_)
          refine lv_aload_n hx hb dX9_fails_98 rfl (lv_at hl 0 rfl) ?_
          refine g_9_26 X hK hW flRX9_83 dX9_fails_99 ?_
          refine lv_iload_n hx hb dX9_fails_102 rfl (lv_at hl 1 rfl) ?_
          refine lv_aload_n hx hb dX9_fails_103 rfl (lv_at hl 0 rfl) ?_
          refine g_9_38 X hK hW flRX9_187 dX9_fails_104 ?_
          obtain ⟨N15, hN15, hf⟩ := lt1_some hf
          refine as_45 X hK hW hS b12 hN15 dX9_fails_107 (fun H locs hW hS => ?_)
          refine lv_aload_n hx hb dX9_fails_108 rfl (lv_at hl 0 rfl) ?_
          refine lv_dup hx hb dX9_fails_109 rfl ?_
          refine g_9_41 X hK hW flRX9_210 dX9_fails_110 ?_
          refine lv_iconst (v := 1) hx hb dX9_fails_113 (by decide) ?_
          refine lv_iadd hx hb dX9_fails_114 ?_
          obtain ⟨N16, hN16, hf⟩ := lt1_some hf
          refine p_9_41 X hK hW hS hN16 flRX9_210 dX9_fails_115 (fun H locs hW hS => ?_)
          refine lv_aload_n hx hb dX9_fails_118 rfl (lv_at hl 0 rfl) ?_
          refine lv_iload_n hx hb dX9_fails_119 rfl (lv_at hl 1 rfl) ?_
          refine lv_aload_n hx hb dX9_fails_120 rfl (lv_at hl 0 rfl) ?_
          refine g_9_28 X hK hW flRX9_89 dX9_fails_121 ?_
          refine lv_bipush (v := 8) hx hb dX9_fails_124 (by decide) ?_
          refine lv_iload_n hx hb dX9_fails_126 rfl (lv_at hl 1 rfl) ?_
          refine lv_imul hx hb dX9_fails_127 ?_
          refine lv_iload_n hx hb dX9_fails_128 rfl (lv_at hl 2 rfl) ?_
          refine lv_iadd hx hb dX9_fails_129 ?_
          refine al_47 X hK hW b9 dX9_fails_130 ?_
          obtain ⟨N18, h17, hf⟩ := ob1_some hf
          refine k_yX9_goesTo X hK hZ hW hS hl.1 h17 mlRX9_213 ⟨Nat.le_of_ble_eq_true rfl, Nat.le_of_ble_eq_true rfl⟩ ⟨Nat.le_of_ble_eq_true rfl, Nat.le_of_ble_eq_true rfl⟩ (Nat.le_of_ble_eq_true rfl) dX9_fails_131 (fun H locs hW hS => ?_)
          obtain rfl := sp1 hf
          exact e_v ⟨hx, hb, hr, hlk⟩ hW hS dX9_fails_134
        · exfalso; have := q_nlt (b := 0) (by decide) c5; have := q_nge (b := 0) (by decide) c11; omega
      · rw [if_pos c10] at hf
        refine lv_iinc (v := (y2 + (-1))) (lv' := [(2, .int (y2 + (-1))), (0, .ref (ad 20 0)), (1, .int y1)]) hx hb dX9_fails_57 hl (k := 2) rfl rfl (by decide) rfl (fun ls hl => ?_)
        refine lv_goto (tgt := 32) hx hb dX9_fails_60 (by decide) ?_
        exact ih _ _ _ _ hf _ _ _ hW hS (lv_sub hl [1, 2, 0] rfl)
set_option maxRecDepth 100000 in
set_option maxHeartbeats 4000000 in
theorem c_yX9_fails (l : Launch) (E : Lay) (ad : Nat → Nat → Nat) (M N : Mem) (x1 : Int32) (Nr : Mem) (hf : f_yX9_fails N x1 = some Nr) : Met l yX9_fails (Cond.code yX9_fails cX9_fails 3 none :: TB) (rmm 3 71) (va_Pc [.ref (ad 20 0), .int x1] (PB E ad (M, N))) (Qv E ad (M, Nr)) 0 0 (ow E) := by
  refine Met.ofW (cc := cX9_fails) (maxL := 3) (ret := none) (by decide) rfl ?_
  intro p e s m args below meth c s₁ B hml hv
  obtain ⟨rfl, hW, hK, hZ⟩ := hv
  have hT : ∀ w ∈ TB, w.before _ s = true := fun w h => atoms_spec (ws := (Cond.code yX9_fails cX9_fails 3 none :: TB)) B.pre w (List.mem_cons_of_mem _ h)
  have X : CX p s m _ meth c cX9_fails 3 none RX9 := ⟨B.exec, B.bytes, hml, findClass_of_methodNamed B.named, hT, B.returns, B.notSynchronized⟩
  obtain ⟨hx, hb, hml, hown, hT, hr, hlk⟩ := id X
  have hS : va_S (ow E) s.heap s.heap [] := va_S.rf
  have hl := lv_entry ([.ref (ad 20 0), .int x1]) (n := 3) (Nat.le_of_ble_eq_true rfl)
  rw [lg_entry_eq]
  generalize (lg_sl ([.ref (ad 20 0), .int x1]) ++ List.replicate (3 - (lg_sl ([.ref (ad 20 0), .int x1])).length) Slot.unset).toArray = ls at hl ⊢
  have hl : lv_has ls 3 [(0, .ref (ad 20 0)), (1, .int x1)] := hl
  unfold f_yX9_fails at hf
  refine lv_aload_n hx hb dX9_fails_0 rfl (lv_at hl 0 rfl) ?_
  refine g_9_39 X hK hW flRX9_105 dX9_fails_1 ?_
  refine lv_aload_n hx hb dX9_fails_4 rfl (lv_at hl 0 rfl) ?_
  refine g_9_37 X hK hW flRX9_184 dX9_fails_5 ?_
  refine lv_dup2_11 hx hb dX9_fails_8 rfl rfl ?_
  obtain ⟨b1, hf⟩ := gd_some hf
  refine al_51 X hK hW b1 dX9_fails_9 ?_
  refine lv_iconst (v := 1) hx hb dX9_fails_10 (by decide) ?_
  refine lv_iadd hx hb dX9_fails_11 ?_
  obtain ⟨N2, hN2, hf⟩ := lt1_some hf
  refine as_51 X hK hW hS b1 hN2 dX9_fails_12 (fun H locs hW hS => ?_)
  refine lv_aload_n hx hb dX9_fails_13 rfl (lv_at hl 0 rfl) ?_
  refine lv_dup hx hb dX9_fails_14 rfl ?_
  refine g_9_40 X hK hW flRX9_207 dX9_fails_15 ?_
  refine lv_iconst (v := 1) hx hb dX9_fails_18 (by decide) ?_
  refine lv_iadd hx hb dX9_fails_19 ?_
  obtain ⟨N3, hN3, hf⟩ := lt1_some hf
  refine p_9_40 X hK hW hS hN3 flRX9_207 dX9_fails_20 (fun H locs hW hS => ?_)
  refine lv_aload_n hx hb dX9_fails_23 rfl (lv_at hl 0 rfl) ?_
  refine g_9_27 X hK hW flRX9_86 dX9_fails_24 ?_
  refine lv_iload_n hx hb dX9_fails_27 rfl (lv_at hl 1 rfl) ?_
  obtain ⟨b4, hf⟩ := gd_some hf
  refine al_46 X hK hW b4 dX9_fails_28 ?_
  refine lv_iconst (v := 1) hx hb dX9_fails_29 (by decide) ?_
  refine lv_isub hx hb dX9_fails_30 ?_
  refine lv_istore_n (lv' := [(2, .int ((N3 46 0 x1.toNatClampNeg) - 1)), (0, .ref (ad 20 0)), (1, .int x1)]) hx hb dX9_fails_31 rfl hl (by decide) rfl (fun ls hl => ?_)
  exact (l_yX9_fails_32 l E ad M X hK hZ 70) _ _ _ _ hf _ _ _ hW hS (lv_sub hl [1, 2, 0] rfl)
set_option maxRecDepth 100000 in
set_option maxHeartbeats 4000000 in
theorem k_yX9_fails {p : Program} {l : Launch} {e : Env} {R : Room} {s : State} {m : MethodId} {args : Array Value} {below : List Frame} {meth : Method} {c : Code} {H : Heap} {locs : List Loc} {cells slots : Nat} {Q : State → Prop} {cc : ByteArray} {pc nL index : Nat} {ret : Option FieldType} {own : String} {ls : Array Slot} {rest : List Value} {E : Lay} {ad : Nat → Nat → Nat} {M N : Mem} (X : CX p s m args meth c cc nL ret own) (hK : KK E s) (hZ : ZZ E s) (hW : WD E ad (M, N) H) (hS : va_S (ow E) s.heap H locs) (hsz : ls.size = nL) {x1 : Int32} {Nr : Mem} (hf : f_yX9_fails N x1 = some Nr) (hn : Cond.methodLink own index yX9_fails ∈ TB) (hR : 3 + 1 ≤ R.frames ∧ 8 + (3 + 11) + 71 ≤ R.locals) (hC : cells ≤ R.cells ∧ slots ≤ R.slots) (h8 : (rest.map fun v => v.category).sum ≤ 8) (hdg : decode cc pc = .ok (.invokevirtual index, 3)) (kk : ∀ (H1 : Heap) (locs1 : List Loc), WD E ad (M, Nr) H1 → va_S (ow E) s.heap H1 locs1 → W p l e R s m args below meth c H1 locs1 cells slots Q (F0 m (pc + 3) ls (rest))) : W p l e R s m args below meth c H locs cells slots Q (F0 m pc ls (.int x1 :: .ref (ad 20 0) :: rest)) := by
  refine va_callv (va_runV (C := RX9) (As := [.int x1]) (rest := rest) ⟨X.1, X.2.1, X.2.2.1, X.2.2.2.1, X.2.2.2.2.1⟩ (c_yX9_fails l E ad M N x1 Nr hf) (cwV 1 X.2.2.2.2.1 (gV hn im_yX9_fails se_yX9_fails iniRX9 cd_yX9_fails) rfl rfl rfl (by decide +kernel) hR) ⟨fun a U g mk q => ⟨q.1, q.2.calling⟩, va_recv hK.1 (hW.at (c := 20) (i := 0) Nat.zero_lt_one rfl) (ci := 9) (q0 := 0) rfl rfl, fun U hU hw => ⟨rfl, PB.at hW hK hZ hS hU hw⟩⟩ rfl rfl hsz rfl (lv_room h8) hdg hC) hS (fun _ _ h => h) (fun _ h => h) (fun u t H1 locs1 ht hvm hw hB hz1 hk1 hS1 => ?_)
  subst hw
  rw [ht] at hB
  exact kk H1 locs1 hB hS1
def f_yX9_rows (N : Mem) (x1 : Int32) (x2 : Int32) (x3 : Int32) (x4 : Int32) (x5 : Int32) : Option Mem := (if x2 = 21 then gd (¬ (x3 < 0 ∨ 36 ≤ x3.toNatClampNeg)) (gd (¬ (((6 * x1) + x4) < 0 ∨ 36 ≤ ((6 * x1) + x4).toNatClampNeg)) (gd (¬ (((6 * x1) + x5) < 0 ∨ 36 ≤ ((6 * x1) + x5).toNatClampNeg)) (ob1 (f_yX9_copies N (N 50 0 x3.toNatClampNeg) (N 50 0 ((6 * x1) + x4).toNatClampNeg) (N 49 0 ((6 * x1) + x5).toNatClampNeg)) (fun N194 => (some N194))))) else (if x2 = 18 then gd (¬ (x3 < 0 ∨ 36 ≤ x3.toNatClampNeg)) (gd (¬ (((6 * x1) + x4) < 0 ∨ 36 ≤ ((6 * x1) + x4).toNatClampNeg)) ((if (N 50 0 x3.toNatClampNeg) = (-4) then ob1 (f_yX9_bad N 1) (fun N12 => (some N12)) else gd (¬ ((N 50 0 x3.toNatClampNeg) < 0 ∨ 32 ≤ (N 50 0 x3.toNatClampNeg).toNatClampNeg)) ((if (N 21 0 (N 50 0 x3.toNatClampNeg).toNatClampNeg) = 4 then ob1 (f_yX9_in (N 49 0 ((6 * x1) + x4).toNatClampNeg) 0 ((N 23 0 (N 50 0 x3.toNatClampNeg).toNatClampNeg) - 1)) (fun r21 => (if r21 = 0 then ob1 (f_yX9_bad N 2) (fun N31 => (some N31)) else gd (¬ (((6 * x1) + x5) < 0 ∨ 36 ≤ ((6 * x1) + x5).toNatClampNeg)) (gd (¬ (((12 * (N 50 0 x3.toNatClampNeg)) + (N 49 0 ((6 * x1) + x4).toNatClampNeg)) < 0 ∨ 384 ≤ ((12 * (N 50 0 x3.toNatClampNeg)) + (N 49 0 ((6 * x1) + x4).toNatClampNeg)).toNatClampNeg)) (lt1 (mp N 24 0 ((12 * (N 50 0 x3.toNatClampNeg)) + (N 49 0 ((6 * x1) + x4).toNatClampNeg)).toNatClampNeg (N 49 0 ((6 * x1) + x5).toNatClampNeg)) (fun N29 => (some N29)))))) else (if (N 21 0 (N 50 0 x3.toNatClampNeg).toNatClampNeg) = 5 then ob1 (f_yX9_in (N 49 0 ((6 * x1) + x4).toNatClampNeg) 0 ((N 23 0 (N 50 0 x3.toNatClampNeg).toNatClampNeg) - 1)) (fun r40 => (if r40 = 0 then ob1 (f_yX9_bad N 2) (fun N50 => (some N50)) else gd (¬ (((6 * x1) + x5) < 0 ∨ 36 ≤ ((6 * x1) + x5).toNatClampNeg)) (gd (¬ (((12 * (N 50 0 x3.toNatClampNeg)) + (N 49 0 ((6 * x1) + x4).toNatClampNeg)) < 0 ∨ 384 ≤ ((12 * (N 50 0 x3.toNatClampNeg)) + (N 49 0 ((6 * x1) + x4).toNatClampNeg)).toNatClampNeg)) (lt1 (mp N 24 0 ((12 * (N 50 0 x3.toNatClampNeg)) + (N 49 0 ((6 * x1) + x4).toNatClampNeg)).toNatClampNeg (N 49 0 ((6 * x1) + x5).toNatClampNeg).toInt8.toInt32) (fun N48 => (some N48)))))) else ob1 (f_yX9_bad N 3) (fun N35 => (some N35)))))))) else (if x2 = 20 then gd (¬ (x3 < 0 ∨ 36 ≤ x3.toNatClampNeg)) (gd (¬ (((6 * x1) + x4) < 0 ∨ 36 ≤ ((6 * x1) + x4).toNatClampNeg)) ((if (N 50 0 x3.toNatClampNeg) = (-4) then ob1 (f_yX9_bad N 1) (fun N163 => (some N163)) else gd (¬ ((N 50 0 x3.toNatClampNeg) < 0 ∨ 32 ≤ (N 50 0 x3.toNatClampNeg).toNatClampNeg)) ((if (N 21 0 (N 50 0 x3.toNatClampNeg).toNatClampNeg) ≤ 5 then ob1 (f_yX9_bad N 3) (fun N170 => (some N170)) else ob1 (f_yX9_in (N 49 0 ((6 * x1) + x4).toNatClampNeg) 0 ((N 23 0 (N 50 0 x3.toNatClampNeg).toNatClampNeg) - 1)) (fun r175 => (if r175 = 0 then ob1 (f_yX9_bad N 2) (fun N189 => (some N189)) else gd (¬ (((6 * x1) + x5) < 0 ∨ 36 ≤ ((6 * x1) + x5).toNatClampNeg)) (ob1 (f_yX9_fits N (N 21 0 (N 50 0 x3.toNatClampNeg).toNatClampNeg) 6 (N 50 0 ((6 * x1) + x5).toNatClampNeg)) (fun r182 => (if r182 = 0 then ob1 (f_yX9_bad N 4) (fun N187 => (some N187)) else gd (¬ (((12 * (N 50 0 x3.toNatClampNeg)) + (N 49 0 ((6 * x1) + x4).toNatClampNeg)) < 0 ∨ 384 ≤ ((12 * (N 50 0 x3.toNatClampNeg)) + (N 49 0 ((6 * x1) + x4).toNatClampNeg)).toNatClampNeg)) (lt1 (mp N 24 0 ((12 * (N 50 0 x3.toNatClampNeg)) + (N 49 0 ((6 * x1) + x4).toNatClampNeg)).toNatClampNeg (N 50 0 ((6 * x1) + x5).toNatClampNeg)) (fun N185 => (some N185))))))))))))) else gd (¬ (((6 * x1) + x4) < 0 ∨ 36 ≤ ((6 * x1) + x4).toNatClampNeg)) ((if x2 = 16 then (if (N 50 0 ((6 * x1) + x4).toNatClampNeg) = (-4) then ob1 (f_yX9_bad N 1) (fun N142 => (some N142)) else gd (¬ ((N 50 0 ((6 * x1) + x4).toNatClampNeg) < 0 ∨ 32 ≤ (N 50 0 ((6 * x1) + x4).toNatClampNeg).toNatClampNeg)) ((if (N 21 0 (N 50 0 ((6 * x1) + x4).toNatClampNeg).toNatClampNeg) ≤ 3 then ob1 (f_yX9_bad N 3) (fun N148 => (some N148)) else gd (¬ (x3 < 0 ∨ 36 ≤ x3.toNatClampNeg)) (lt1 (mp N 49 0 x3.toNatClampNeg (N 23 0 (N 50 0 ((6 * x1) + x4).toNatClampNeg).toNatClampNeg)) (fun N153 => (some N153)))))) else gd (¬ (((6 * x1) + x5) < 0 ∨ 36 ≤ ((6 * x1) + x5).toNatClampNeg)) ((if (N 50 0 ((6 * x1) + x4).toNatClampNeg) = (-4) then ob1 (f_yX9_bad N 1) (fun N61 => (some N61)) else (if 19 ≤ x2 then gd (¬ ((N 50 0 ((6 * x1) + x4).toNatClampNeg) < 0 ∨ 32 ≤ (N 50 0 ((6 * x1) + x4).toNatClampNeg).toNatClampNeg)) ((if (N 21 0 (N 50 0 ((6 * x1) + x4).toNatClampNeg).toNatClampNeg) ≤ 5 then ob1 (f_yX9_bad N 3) (fun N68 => (some N68)) else ob1 (f_yX9_in (N 49 0 ((6 * x1) + x5).toNatClampNeg) 0 ((N 23 0 (N 50 0 ((6 * x1) + x4).toNatClampNeg).toNatClampNeg) - 1)) (fun r73 => (if r73 = 0 then ob1 (f_yX9_bad N 2) (fun N89 => (some N89)) else (if x2 = 19 then gd (¬ (((12 * (N 50 0 ((6 * x1) + x4).toNatClampNeg)) + (N 49 0 ((6 * x1) + x5).toNatClampNeg)) < 0 ∨ 384 ≤ ((12 * (N 50 0 ((6 * x1) + x4).toNatClampNeg)) + (N 49 0 ((6 * x1) + x5).toNatClampNeg)).toNatClampNeg)) (gd (¬ (x3 < 0 ∨ 36 ≤ x3.toNatClampNeg)) (lt1 (mp N 50 0 x3.toNatClampNeg (N 24 0 ((12 * (N 50 0 ((6 * x1) + x4).toNatClampNeg)) + (N 49 0 ((6 * x1) + x5).toNatClampNeg)).toNatClampNeg)) (fun N87 => (some N87)))) else ob1 (f_yX9_fits N (N 21 0 (N 50 0 ((6 * x1) + x4).toNatClampNeg).toNatClampNeg) 6 (N 50 0 ((6 * x1) + x5).toNatClampNeg)) (fun r79 => (if r79 = 0 then ob1 (f_yX9_bad N 4) (fun N84 => (some N84)) else gd (¬ (((12 * (N 50 0 ((6 * x1) + x4).toNatClampNeg)) + (N 49 0 ((6 * x1) + x5).toNatClampNeg)) < 0 ∨ 384 ≤ ((12 * (N 50 0 ((6 * x1) + x4).toNatClampNeg)) + (N 49 0 ((6 * x1) + x5).toNatClampNeg)).toNatClampNeg)) (lt1 (mp N 24 0 ((12 * (N 50 0 ((6 * x1) + x4).toNatClampNeg)) + (N 49 0 ((6 * x1) + x5).toNatClampNeg)).toNatClampNeg (N 50 0 ((6 * x1) + x5).toNatClampNeg)) (fun N82 => (some N82)))))))))) else gd (¬ ((N 50 0 ((6 * x1) + x4).toNatClampNeg) < 0 ∨ 32 ≤ (N 50 0 ((6 * x1) + x4).toNatClampNeg).toNatClampNeg)) ((if (N 21 0 (N 50 0 ((6 * x1) + x4).toNatClampNeg).toNatClampNeg) = 4 then ob1 (f_yX9_in (N 49 0 ((6 * x1) + x5).toNatClampNeg) 0 ((N 23 0 (N 50 0 ((6 * x1) + x4).toNatClampNeg).toNatClampNeg) - 1)) (fun r96 => (if r96 = 0 then ob1 (f_yX9_bad N 2) (fun N112 => (some N112)) else (if x2 = 17 then gd (¬ (((12 * (N 50 0 ((6 * x1) + x4).toNatClampNeg)) + (N 49 0 ((6 * x1) + x5).toNatClampNeg)) < 0 ∨ 384 ≤ ((12 * (N 50 0 ((6 * x1) + x4).toNatClampNeg)) + (N 49 0 ((6 * x1) + x5).toNatClampNeg)).toNatClampNeg)) (gd (¬ (x3 < 0 ∨ 36 ≤ x3.toNatClampNeg)) (lt1 (mp N 49 0 x3.toNatClampNeg (N 24 0 ((12 * (N 50 0 ((6 * x1) + x4).toNatClampNeg)) + (N 49 0 ((6 * x1) + x5).toNatClampNeg)).toNatClampNeg)) (fun N110 => (some N110)))) else ob1 (f_yX9_fits N (N 21 0 (N 50 0 ((6 * x1) + x4).toNatClampNeg).toNatClampNeg) 6 (N 50 0 ((6 * x1) + x5).toNatClampNeg)) (fun r102 => (if r102 = 0 then ob1 (f_yX9_bad N 4) (fun N107 => (some N107)) else gd (¬ (((12 * (N 50 0 ((6 * x1) + x4).toNatClampNeg)) + (N 49 0 ((6 * x1) + x5).toNatClampNeg)) < 0 ∨ 384 ≤ ((12 * (N 50 0 ((6 * x1) + x4).toNatClampNeg)) + (N 49 0 ((6 * x1) + x5).toNatClampNeg)).toNatClampNeg)) (lt1 (mp N 24 0 ((12 * (N 50 0 ((6 * x1) + x4).toNatClampNeg)) + (N 49 0 ((6 * x1) + x5).toNatClampNeg)).toNatClampNeg (N 50 0 ((6 * x1) + x5).toNatClampNeg)) (fun N105 => (some N105)))))))) else (if (N 21 0 (N 50 0 ((6 * x1) + x4).toNatClampNeg).toNatClampNeg) = 5 then ob1 (f_yX9_in (N 49 0 ((6 * x1) + x5).toNatClampNeg) 0 ((N 23 0 (N 50 0 ((6 * x1) + x4).toNatClampNeg).toNatClampNeg) - 1)) (fun r121 => (if r121 = 0 then ob1 (f_yX9_bad N 2) (fun N137 => (some N137)) else (if x2 = 17 then gd (¬ (((12 * (N 50 0 ((6 * x1) + x4).toNatClampNeg)) + (N 49 0 ((6 * x1) + x5).toNatClampNeg)) < 0 ∨ 384 ≤ ((12 * (N 50 0 ((6 * x1) + x4).toNatClampNeg)) + (N 49 0 ((6 * x1) + x5).toNatClampNeg)).toNatClampNeg)) (gd (¬ (x3 < 0 ∨ 36 ≤ x3.toNatClampNeg)) (lt1 (mp N 49 0 x3.toNatClampNeg (N 24 0 ((12 * (N 50 0 ((6 * x1) + x4).toNatClampNeg)) + (N 49 0 ((6 * x1) + x5).toNatClampNeg)).toNatClampNeg)) (fun N135 => (some N135)))) else ob1 (f_yX9_fits N (N 21 0 (N 50 0 ((6 * x1) + x4).toNatClampNeg).toNatClampNeg) 6 (N 50 0 ((6 * x1) + x5).toNatClampNeg)) (fun r127 => (if r127 = 0 then ob1 (f_yX9_bad N 4) (fun N132 => (some N132)) else gd (¬ (((12 * (N 50 0 ((6 * x1) + x4).toNatClampNeg)) + (N 49 0 ((6 * x1) + x5).toNatClampNeg)) < 0 ∨ 384 ≤ ((12 * (N 50 0 ((6 * x1) + x4).toNatClampNeg)) + (N 49 0 ((6 * x1) + x5).toNatClampNeg)).toNatClampNeg)) (lt1 (mp N 24 0 ((12 * (N 50 0 ((6 * x1) + x4).toNatClampNeg)) + (N 49 0 ((6 * x1) + x5).toNatClampNeg)).toNatClampNeg (N 50 0 ((6 * x1) + x5).toNatClampNeg)) (fun N130 => (some N130)))))))) else ob1 (f_yX9_bad N 3) (fun N116 => (some N116)))))))))))))
set_option maxRecDepth 100000 in
set_option maxHeartbeats 4000000 in
theorem c_yX9_rows (l : Launch) (E : Lay) (ad : Nat → Nat → Nat) (M N : Mem) (x1 : Int32) (x2 : Int32) (x3 : Int32) (x4 : Int32) (x5 : Int32) (Nr : Mem) (hf : f_yX9_rows N x1 x2 x3 x4 x5 = some Nr) : Met l yX9_rows (Cond.code yX9_rows cX9_rows 11 none :: TB) (rmm 4 93) (va_Pc [.ref (ad 20 0), .int x1, .int x2, .int x3, .int x4, .int x5] (PB E ad (M, N))) (Qv E ad (M, Nr)) 0 0 (ow E) := by
  refine Met.ofW (cc := cX9_rows) (maxL := 11) (ret := none) (by decide) rfl ?_
  intro p e s m args below meth c s₁ B hml hv
  obtain ⟨rfl, hW, hK, hZ⟩ := hv
  have hT : ∀ w ∈ TB, w.before _ s = true := fun w h => atoms_spec (ws := (Cond.code yX9_rows cX9_rows 11 none :: TB)) B.pre w (List.mem_cons_of_mem _ h)
  have X : CX p s m _ meth c cX9_rows 11 none RX9 := ⟨B.exec, B.bytes, hml, findClass_of_methodNamed B.named, hT, B.returns, B.notSynchronized⟩
  obtain ⟨hx, hb, hml, hown, hT, hr, hlk⟩ := id X
  have hS : va_S (ow E) s.heap s.heap [] := va_S.rf
  have hl := lv_entry ([.ref (ad 20 0), .int x1, .int x2, .int x3, .int x4, .int x5]) (n := 11) (Nat.le_of_ble_eq_true rfl)
  rw [lg_entry_eq]
  generalize (lg_sl ([.ref (ad 20 0), .int x1, .int x2, .int x3, .int x4, .int x5]) ++ List.replicate (11 - (lg_sl ([.ref (ad 20 0), .int x1, .int x2, .int x3, .int x4, .int x5])).length) Slot.unset).toArray = ls at hl ⊢
  have hl : lv_has ls 11 [(0, .ref (ad 20 0)), (1, .int x1), (2, .int x2), (3, .int x3), (4, .int x4), (5, .int x5)] := hl
  unfold f_yX9_rows at hf
  refine lv_iload_n hx hb dX9_rows_0 rfl (lv_at hl 2 rfl) ?_
  refine lv_bipush (v := 21) hx hb dX9_rows_1 (by decide) ?_
  refine lv_icmp_ne (tgt := 41) hx hb dX9_rows_3 (by decide) (fun c1 => ?_) (fun c1 => ?_)
  · rw [if_neg c1] at hf
    refine lv_iload_n hx hb dX9_rows_41 rfl (lv_at hl 2 rfl) ?_
    refine lv_bipush (v := 18) hx hb dX9_rows_42 (by decide) ?_
    refine lv_icmp_eq (tgt := 53) hx hb dX9_rows_44 (by decide) (fun c2 => ?_) (fun c2 => ?_)
    · rw [if_pos c2] at hf
      refine lv_iconst (v := 1) hx hb dX9_rows_53 (by decide) ?_
      refine lv_goto (tgt := 58) hx hb dX9_rows_54 (by decide) ?_
      refine lv_istore (lv' := [(6, .int 1), (0, .ref (ad 20 0)), (1, .int x1), (2, .int x2), (3, .int x3), (4, .int x4), (5, .int x5)]) hx hb dX9_rows_58 hl (by decide) rfl (fun ls hl => ?_)
      refine lv_iload hx hb dX9_rows_60 (lv_at hl 0 rfl) ?_
      refine lv_if_eq (tgt := 74) hx hb dX9_rows_62 (by decide) (fun c3 => ?_) (fun c3 => ?_)
      · exact absurd c3 (by decide)
      · skip
        refine lv_aload_n hx hb dX9_rows_65 rfl (lv_at hl 1 rfl) ?_
        refine g_9_31 X hK hW flRX9_98 dX9_rows_66 ?_
        refine lv_iload_n hx hb dX9_rows_69 rfl (lv_at hl 4 rfl) ?_
        obtain ⟨b4, hf⟩ := gd_some hf
        refine al_50 X hK hW b4 dX9_rows_70 ?_
        refine lv_goto (tgt := 86) hx hb dX9_rows_71 (by decide) ?_
        refine lv_istore (lv' := [(7, .int (N 50 0 x3.toNatClampNeg)), (6, .int 1), (0, .ref (ad 20 0)), (1, .int x1), (2, .int x2), (3, .int x3), (4, .int x4), (5, .int x5)]) hx hb dX9_rows_86 hl (by decide) rfl (fun ls hl => ?_)
        refine lv_iload_n hx hb dX9_rows_88 rfl (lv_at hl 4 rfl) ?_
        refine lv_bipush (v := 16) hx hb dX9_rows_89 (by decide) ?_
        refine lv_icmp_ne (tgt := 98) hx hb dX9_rows_91 (by decide) (fun c5 => ?_) (fun c5 => ?_)
        · skip
          refine lv_iload hx hb dX9_rows_98 (lv_at hl 1 rfl) ?_
          refine lv_if_eq (tgt := 118) hx hb dX9_rows_100 (by decide) (fun c6 => ?_) (fun c6 => ?_)
          · exact absurd c6 (by decide)
          · skip
            refine lv_aload_n hx hb dX9_rows_103 rfl (lv_at hl 2 rfl) ?_
            refine g_9_30 X hK hW flRX9_95 dX9_rows_104 ?_
            refine lv_bipush (v := 6) hx hb dX9_rows_107 (by decide) ?_
            refine lv_iload_n hx hb dX9_rows_109 rfl (lv_at hl 3 rfl) ?_
            refine lv_imul hx hb dX9_rows_110 ?_
            refine lv_iload hx hb dX9_rows_111 (lv_at hl 6 rfl) ?_
            refine lv_iadd hx hb dX9_rows_113 ?_
            obtain ⟨b7, hf⟩ := gd_some hf
            refine al_49 X hK hW b7 dX9_rows_114 ?_
            refine lv_goto (tgt := 130) hx hb dX9_rows_115 (by decide) ?_
            refine lv_istore (lv' := [(8, .int (N 49 0 ((6 * x1) + x4).toNatClampNeg)), (7, .int (N 50 0 x3.toNatClampNeg)), (6, .int 1), (0, .ref (ad 20 0)), (1, .int x1), (2, .int x2), (3, .int x3), (4, .int x4), (5, .int x5)]) hx hb dX9_rows_130 hl (by decide) rfl (fun ls hl => ?_)
            refine lv_iload hx hb dX9_rows_132 (lv_at hl 1 rfl) ?_
            refine lv_bipush (v := -4) hx hb dX9_rows_134 (by decide) ?_
            refine lv_icmp_eq (tgt := 201) hx hb dX9_rows_136 (by decide) (fun c8 => ?_) (fun c8 => ?_)
            · rw [if_pos c8] at hf
              refine lv_iconst (v := 1) hx hb dX9_rows_201 (by decide) ?_
              refine lv_goto (tgt := 206) hx hb dX9_rows_202 (by decide) ?_
              refine lv_istore (lv' := [(9, .int 1), (8, .int (N 49 0 ((6 * x1) + x4).toNatClampNeg)), (7, .int (N 50 0 x3.toNatClampNeg)), (6, .int 1), (0, .ref (ad 20 0)), (1, .int x1), (2, .int x2), (3, .int x3), (4, .int x4), (5, .int x5)]) hx hb dX9_rows_206 hl (by decide) rfl (fun ls hl => ?_)
              refine lv_iload hx hb dX9_rows_208 (lv_at hl 0 rfl) ?_
              refine lv_if_ne (tgt := 221) hx hb dX9_rows_210 (by decide) (fun c9 => ?_) (fun c9 => ?_)
              · skip
                refine lv_iload hx hb dX9_rows_221 (lv_at hl 2 rfl) ?_
                refine lv_bipush (v := -4) hx hb dX9_rows_223 (by decide) ?_
                refine lv_icmp_ne (tgt := 236) hx hb dX9_rows_225 (by decide) (fun c10 => ?_) (fun c10 => ?_)
                · exfalso; have := q_eq (b := -4) (by decide) c8; have := q_ne (b := -4) (by decide) c10; omega
                · skip
                  refine lv_aload_n hx hb dX9_rows_228 rfl (lv_at hl 4 rfl) ?_
                  refine lv_iconst (v := 1) hx hb dX9_rows_229 (by decide) ?_
                  obtain ⟨N12, h11, hf⟩ := ob1_some hf
                  refine k_yX9_bad X hK hZ hW hS hl.1 h11 mlRX9_245 ⟨Nat.le_of_ble_eq_true rfl, Nat.le_of_ble_eq_true rfl⟩ ⟨Nat.le_of_ble_eq_true rfl, Nat.le_of_ble_eq_true rfl⟩ (Nat.le_of_ble_eq_true rfl) dX9_rows_230 (fun H locs hW hS => ?_)
                  refine lv_goto (tgt := 456) hx hb dX9_rows_233 (by decide) ?_
                  obtain rfl := sp1 hf
                  exact e_v ⟨hx, hb, hr, hlk⟩ hW hS dX9_rows_456
              · exact absurd c9 (by decide)
            · rw [if_neg c8] at hf
              refine lv_iload_n hx hb dX9_rows_139 rfl (lv_at hl 5 rfl) ?_
              refine lv_bipush (v := 16) hx hb dX9_rows_140 (by decide) ?_
              refine lv_icmp_ne (tgt := 159) hx hb dX9_rows_142 (by decide) (fun c13 => ?_) (fun c13 => ?_)
              · skip
                refine lv_iload_n hx hb dX9_rows_159 rfl (lv_at hl 5 rfl) ?_
                refine lv_bipush (v := 19) hx hb dX9_rows_160 (by decide) ?_
                refine lv_icmp_ge (tgt := 190) hx hb dX9_rows_162 (by decide) (fun c14 => ?_) (fun c14 => ?_)
                · exfalso; have := q_ne (b := 21) (by decide) c1; have := q_eq (b := 18) (by decide) c2; have := q_ge (b := 19) (by decide) c14; omega
                · skip
                  refine lv_aload_n hx hb dX9_rows_165 rfl (lv_at hl 3 rfl) ?_
                  refine g_9_1 X hK hW flRX9_7 dX9_rows_166 ?_
                  refine lv_iload hx hb dX9_rows_169 (lv_at hl 1 rfl) ?_
                  obtain ⟨b15, hf⟩ := gd_some hf
                  refine al_21 X hK hW b15 dX9_rows_171 ?_
                  refine lv_iconst (v := 4) hx hb dX9_rows_172 (by decide) ?_
                  refine lv_icmp_eq (tgt := 201) hx hb dX9_rows_173 (by decide) (fun c16 => ?_) (fun c16 => ?_)
                  · rw [if_pos c16] at hf
                    refine lv_iconst (v := 1) hx hb dX9_rows_201 (by decide) ?_
                    refine lv_goto (tgt := 206) hx hb dX9_rows_202 (by decide) ?_
                    refine lv_istore (lv' := [(9, .int 1), (8, .int (N 49 0 ((6 * x1) + x4).toNatClampNeg)), (7, .int (N 50 0 x3.toNatClampNeg)), (6, .int 1), (0, .ref (ad 20 0)), (1, .int x1), (2, .int x2), (3, .int x3), (4, .int x4), (5, .int x5)]) hx hb dX9_rows_206 hl (by decide) rfl (fun ls hl => ?_)
                    refine lv_iload hx hb dX9_rows_208 (lv_at hl 0 rfl) ?_
                    refine lv_if_ne (tgt := 221) hx hb dX9_rows_210 (by decide) (fun c17 => ?_) (fun c17 => ?_)
                    · skip
                      refine lv_iload hx hb dX9_rows_221 (lv_at hl 2 rfl) ?_
                      refine lv_bipush (v := -4) hx hb dX9_rows_223 (by decide) ?_
                      refine lv_icmp_ne (tgt := 236) hx hb dX9_rows_225 (by decide) (fun c18 => ?_) (fun c18 => ?_)
                      · skip
                        refine lv_iload_n hx hb dX9_rows_236 rfl (lv_at hl 6 rfl) ?_
                        refine lv_bipush (v := 16) hx hb dX9_rows_237 (by decide) ?_
                        refine lv_icmp_ne (tgt := 258) hx hb dX9_rows_239 (by decide) (fun c19 => ?_) (fun c19 => ?_)
                        · skip
                          refine lv_iload hx hb dX9_rows_258 (lv_at hl 1 rfl) ?_
                          refine lv_iconst (v := 0) hx hb dX9_rows_260 (by decide) ?_
                          refine lv_aload_n hx hb dX9_rows_261 rfl (lv_at hl 4 rfl) ?_
                          refine g_9_3 X hK hW flRX9_16 dX9_rows_262 ?_
                          refine lv_iload hx hb dX9_rows_265 (lv_at hl 2 rfl) ?_
                          refine al_23 X hK hW b15 dX9_rows_267 ?_
                          refine lv_iconst (v := 1) hx hb dX9_rows_268 (by decide) ?_
                          refine lv_isub hx hb dX9_rows_269 ?_
                          obtain ⟨r21, h20, hf⟩ := ob1_some hf
                          refine k_yX9_in X hK hZ hW hS hl.1 h20 mlRX9_114 ⟨Nat.le_of_ble_eq_true rfl, Nat.le_of_ble_eq_true rfl⟩ ⟨Nat.le_of_ble_eq_true rfl, Nat.le_of_ble_eq_true rfl⟩ (Nat.le_of_ble_eq_true rfl) dX9_rows_270 (fun H locs hW hS => ?_)
                          refine lv_if_ne (tgt := 284) hx hb dX9_rows_273 (by decide) (fun c22 => ?_) (fun c22 => ?_)
                          · rw [if_neg c22] at hf
                            refine lv_iload_n hx hb dX9_rows_284 rfl (lv_at hl 6 rfl) ?_
                            refine lv_bipush (v := 17) hx hb dX9_rows_285 (by decide) ?_
                            refine lv_icmp_ne (tgt := 312) hx hb dX9_rows_287 (by decide) (fun c23 => ?_) (fun c23 => ?_)
                            · skip
                              refine lv_iload_n hx hb dX9_rows_312 rfl (lv_at hl 6 rfl) ?_
                              refine lv_bipush (v := 19) hx hb dX9_rows_313 (by decide) ?_
                              refine lv_icmp_ne (tgt := 340) hx hb dX9_rows_315 (by decide) (fun c24 => ?_) (fun c24 => ?_)
                              · skip
                                refine lv_iload_n hx hb dX9_rows_340 rfl (lv_at hl 6 rfl) ?_
                                refine lv_bipush (v := 18) hx hb dX9_rows_341 (by decide) ?_
                                refine lv_icmp_ne (tgt := 395) hx hb dX9_rows_343 (by decide) (fun c25 => ?_) (fun c25 => ?_)
                                · exfalso; have := q_ne (b := 21) (by decide) c1; have := q_eq (b := 18) (by decide) c2; have := q_ne (b := 18) (by decide) c25; omega
                                · skip
                                  refine lv_aload_n hx hb dX9_rows_346 rfl (lv_at hl 4 rfl) ?_
                                  refine g_9_30 X hK hW flRX9_95 dX9_rows_347 ?_
                                  refine lv_bipush (v := 6) hx hb dX9_rows_350 (by decide) ?_
                                  refine lv_iload_n hx hb dX9_rows_352 rfl (lv_at hl 5 rfl) ?_
                                  refine lv_imul hx hb dX9_rows_353 ?_
                                  refine lv_iload hx hb dX9_rows_354 (lv_at hl 9 rfl) ?_
                                  refine lv_iadd hx hb dX9_rows_356 ?_
                                  obtain ⟨b26, hf⟩ := gd_some hf
                                  refine al_49 X hK hW b26 dX9_rows_357 ?_
                                  refine lv_istore (lv' := [(10, .int (N 49 0 ((6 * x1) + x5).toNatClampNeg)), (9, .int 1), (8, .int (N 49 0 ((6 * x1) + x4).toNatClampNeg)), (7, .int (N 50 0 x3.toNatClampNeg)), (6, .int 1), (0, .ref (ad 20 0)), (1, .int x1), (2, .int x2), (3, .int x3), (4, .int x4), (5, .int x5)]) hx hb dX9_rows_358 hl (by decide) rfl (fun ls hl => ?_)
                                  refine lv_aload_n hx hb dX9_rows_360 rfl (lv_at hl 5 rfl) ?_
                                  refine g_9_4 X hK hW flRX9_19 dX9_rows_361 ?_
                                  refine lv_bipush (v := 12) hx hb dX9_rows_364 (by decide) ?_
                                  refine lv_iload hx hb dX9_rows_366 (lv_at hl 3 rfl) ?_
                                  refine lv_imul hx hb dX9_rows_368 ?_
                                  refine lv_iload hx hb dX9_rows_369 (lv_at hl 2 rfl) ?_
                                  refine lv_iadd hx hb dX9_rows_371 ?_
                                  refine lv_aload_n hx hb dX9_rows_372 rfl (lv_at hl 5 rfl) ?_
                                  refine g_9_1 X hK hW flRX9_7 dX9_rows_373 ?_
                                  refine lv_iload hx hb dX9_rows_376 (lv_at hl 3 rfl) ?_
                                  refine al_21 X hK hW b15 dX9_rows_378 ?_
                                  refine lv_iconst (v := 5) hx hb dX9_rows_379 (by decide) ?_
                                  refine lv_icmp_ne (tgt := 389) hx hb dX9_rows_380 (by decide) (fun c27 => ?_) (fun c27 => ?_)
                                  · skip
                                    refine lv_iload hx hb dX9_rows_389 (lv_at hl 0 rfl) ?_
                                    obtain ⟨b28, hf⟩ := gd_some hf
                                    obtain ⟨N29, hN29, hf⟩ := lt1_some hf
                                    refine as_24 X hK hW hS b28 hN29 dX9_rows_391 (fun H locs hW hS => ?_)
                                    refine lv_goto (tgt := 456) hx hb dX9_rows_392 (by decide) ?_
                                    obtain rfl := sp1 hf
                                    exact e_v ⟨hx, hb, hr, hlk⟩ hW hS dX9_rows_456
                                  · exfalso; have := q_eq (b := 4) (by decide) c16; have := q_eq (b := 5) (by decide) c27; omega
                              · exfalso; have := q_ne (b := 21) (by decide) c1; have := q_eq (b := 18) (by decide) c2; have := q_eq (b := 19) (by decide) c24; omega
                            · exfalso; have := q_ne (b := 21) (by decide) c1; have := q_eq (b := 18) (by decide) c2; have := q_eq (b := 17) (by decide) c23; omega
                          · rw [if_pos c22] at hf
                            refine lv_aload_n hx hb dX9_rows_276 rfl (lv_at hl 4 rfl) ?_
                            refine lv_iconst (v := 2) hx hb dX9_rows_277 (by decide) ?_
                            obtain ⟨N31, h30, hf⟩ := ob1_some hf
                            refine k_yX9_bad X hK hZ hW hS hl.1 h30 mlRX9_245 ⟨Nat.le_of_ble_eq_true rfl, Nat.le_of_ble_eq_true rfl⟩ ⟨Nat.le_of_ble_eq_true rfl, Nat.le_of_ble_eq_true rfl⟩ (Nat.le_of_ble_eq_true rfl) dX9_rows_278 (fun H locs hW hS => ?_)
                            refine lv_goto (tgt := 456) hx hb dX9_rows_281 (by decide) ?_
                            obtain rfl := sp1 hf
                            exact e_v ⟨hx, hb, hr, hlk⟩ hW hS dX9_rows_456
                        · exfalso; have := q_ne (b := 21) (by decide) c1; have := q_eq (b := 18) (by decide) c2; have := q_eq (b := 16) (by decide) c19; omega
                      · exfalso; have := q_ne (b := -4) (by decide) c8; have := q_eq (b := -4) (by decide) c18; omega
                    · exact absurd c17 (by decide)
                  · rw [if_neg c16] at hf
                    refine lv_aload_n hx hb dX9_rows_176 rfl (lv_at hl 3 rfl) ?_
                    refine g_9_1 X hK hW flRX9_7 dX9_rows_177 ?_
                    refine lv_iload hx hb dX9_rows_180 (lv_at hl 1 rfl) ?_
                    refine al_21 X hK hW b15 dX9_rows_182 ?_
                    refine lv_iconst (v := 5) hx hb dX9_rows_183 (by decide) ?_
                    refine lv_icmp_ne (tgt := 205) hx hb dX9_rows_184 (by decide) (fun c32 => ?_) (fun c32 => ?_)
                    · rw [if_neg c32] at hf
                      refine lv_iconst (v := 0) hx hb dX9_rows_205 (by decide) ?_
                      refine lv_istore (lv' := [(9, .int 0), (8, .int (N 49 0 ((6 * x1) + x4).toNatClampNeg)), (7, .int (N 50 0 x3.toNatClampNeg)), (6, .int 1), (0, .ref (ad 20 0)), (1, .int x1), (2, .int x2), (3, .int x3), (4, .int x4), (5, .int x5)]) hx hb dX9_rows_206 hl (by decide) rfl (fun ls hl => ?_)
                      refine lv_iload hx hb dX9_rows_208 (lv_at hl 0 rfl) ?_
                      refine lv_if_ne (tgt := 221) hx hb dX9_rows_210 (by decide) (fun c33 => ?_) (fun c33 => ?_)
                      · exact absurd c33 (by decide)
                      · skip
                        refine lv_aload_n hx hb dX9_rows_213 rfl (lv_at hl 4 rfl) ?_
                        refine lv_iconst (v := 3) hx hb dX9_rows_214 (by decide) ?_
                        obtain ⟨N35, h34, hf⟩ := ob1_some hf
                        refine k_yX9_bad X hK hZ hW hS hl.1 h34 mlRX9_245 ⟨Nat.le_of_ble_eq_true rfl, Nat.le_of_ble_eq_true rfl⟩ ⟨Nat.le_of_ble_eq_true rfl, Nat.le_of_ble_eq_true rfl⟩ (Nat.le_of_ble_eq_true rfl) dX9_rows_215 (fun H locs hW hS => ?_)
                        refine lv_goto (tgt := 456) hx hb dX9_rows_218 (by decide) ?_
                        obtain rfl := sp1 hf
                        exact e_v ⟨hx, hb, hr, hlk⟩ hW hS dX9_rows_456
                    · rw [if_pos c32] at hf
                      refine lv_goto (tgt := 201) hx hb dX9_rows_187 (by decide) ?_
                      refine lv_iconst (v := 1) hx hb dX9_rows_201 (by decide) ?_
                      refine lv_goto (tgt := 206) hx hb dX9_rows_202 (by decide) ?_
                      refine lv_istore (lv' := [(9, .int 1), (8, .int (N 49 0 ((6 * x1) + x4).toNatClampNeg)), (7, .int (N 50 0 x3.toNatClampNeg)), (6, .int 1), (0, .ref (ad 20 0)), (1, .int x1), (2, .int x2), (3, .int x3), (4, .int x4), (5, .int x5)]) hx hb dX9_rows_206 hl (by decide) rfl (fun ls hl => ?_)
                      refine lv_iload hx hb dX9_rows_208 (lv_at hl 0 rfl) ?_
                      refine lv_if_ne (tgt := 221) hx hb dX9_rows_210 (by decide) (fun c36 => ?_) (fun c36 => ?_)
                      · skip
                        refine lv_iload hx hb dX9_rows_221 (lv_at hl 2 rfl) ?_
                        refine lv_bipush (v := -4) hx hb dX9_rows_223 (by decide) ?_
                        refine lv_icmp_ne (tgt := 236) hx hb dX9_rows_225 (by decide) (fun c37 => ?_) (fun c37 => ?_)
                        · skip
                          refine lv_iload_n hx hb dX9_rows_236 rfl (lv_at hl 6 rfl) ?_
                          refine lv_bipush (v := 16) hx hb dX9_rows_237 (by decide) ?_
                          refine lv_icmp_ne (tgt := 258) hx hb dX9_rows_239 (by decide) (fun c38 => ?_) (fun c38 => ?_)
                          · skip
                            refine lv_iload hx hb dX9_rows_258 (lv_at hl 1 rfl) ?_
                            refine lv_iconst (v := 0) hx hb dX9_rows_260 (by decide) ?_
                            refine lv_aload_n hx hb dX9_rows_261 rfl (lv_at hl 4 rfl) ?_
                            refine g_9_3 X hK hW flRX9_16 dX9_rows_262 ?_
                            refine lv_iload hx hb dX9_rows_265 (lv_at hl 2 rfl) ?_
                            refine al_23 X hK hW b15 dX9_rows_267 ?_
                            refine lv_iconst (v := 1) hx hb dX9_rows_268 (by decide) ?_
                            refine lv_isub hx hb dX9_rows_269 ?_
                            obtain ⟨r40, h39, hf⟩ := ob1_some hf
                            refine k_yX9_in X hK hZ hW hS hl.1 h39 mlRX9_114 ⟨Nat.le_of_ble_eq_true rfl, Nat.le_of_ble_eq_true rfl⟩ ⟨Nat.le_of_ble_eq_true rfl, Nat.le_of_ble_eq_true rfl⟩ (Nat.le_of_ble_eq_true rfl) dX9_rows_270 (fun H locs hW hS => ?_)
                            refine lv_if_ne (tgt := 284) hx hb dX9_rows_273 (by decide) (fun c41 => ?_) (fun c41 => ?_)
                            · rw [if_neg c41] at hf
                              refine lv_iload_n hx hb dX9_rows_284 rfl (lv_at hl 6 rfl) ?_
                              refine lv_bipush (v := 17) hx hb dX9_rows_285 (by decide) ?_
                              refine lv_icmp_ne (tgt := 312) hx hb dX9_rows_287 (by decide) (fun c42 => ?_) (fun c42 => ?_)
                              · skip
                                refine lv_iload_n hx hb dX9_rows_312 rfl (lv_at hl 6 rfl) ?_
                                refine lv_bipush (v := 19) hx hb dX9_rows_313 (by decide) ?_
                                refine lv_icmp_ne (tgt := 340) hx hb dX9_rows_315 (by decide) (fun c43 => ?_) (fun c43 => ?_)
                                · skip
                                  refine lv_iload_n hx hb dX9_rows_340 rfl (lv_at hl 6 rfl) ?_
                                  refine lv_bipush (v := 18) hx hb dX9_rows_341 (by decide) ?_
                                  refine lv_icmp_ne (tgt := 395) hx hb dX9_rows_343 (by decide) (fun c44 => ?_) (fun c44 => ?_)
                                  · exfalso; have := q_ne (b := 21) (by decide) c1; have := q_eq (b := 18) (by decide) c2; have := q_ne (b := 18) (by decide) c44; omega
                                  · skip
                                    refine lv_aload_n hx hb dX9_rows_346 rfl (lv_at hl 4 rfl) ?_
                                    refine g_9_30 X hK hW flRX9_95 dX9_rows_347 ?_
                                    refine lv_bipush (v := 6) hx hb dX9_rows_350 (by decide) ?_
                                    refine lv_iload_n hx hb dX9_rows_352 rfl (lv_at hl 5 rfl) ?_
                                    refine lv_imul hx hb dX9_rows_353 ?_
                                    refine lv_iload hx hb dX9_rows_354 (lv_at hl 9 rfl) ?_
                                    refine lv_iadd hx hb dX9_rows_356 ?_
                                    obtain ⟨b45, hf⟩ := gd_some hf
                                    refine al_49 X hK hW b45 dX9_rows_357 ?_
                                    refine lv_istore (lv' := [(10, .int (N 49 0 ((6 * x1) + x5).toNatClampNeg)), (9, .int 1), (8, .int (N 49 0 ((6 * x1) + x4).toNatClampNeg)), (7, .int (N 50 0 x3.toNatClampNeg)), (6, .int 1), (0, .ref (ad 20 0)), (1, .int x1), (2, .int x2), (3, .int x3), (4, .int x4), (5, .int x5)]) hx hb dX9_rows_358 hl (by decide) rfl (fun ls hl => ?_)
                                    refine lv_aload_n hx hb dX9_rows_360 rfl (lv_at hl 5 rfl) ?_
                                    refine g_9_4 X hK hW flRX9_19 dX9_rows_361 ?_
                                    refine lv_bipush (v := 12) hx hb dX9_rows_364 (by decide) ?_
                                    refine lv_iload hx hb dX9_rows_366 (lv_at hl 3 rfl) ?_
                                    refine lv_imul hx hb dX9_rows_368 ?_
                                    refine lv_iload hx hb dX9_rows_369 (lv_at hl 2 rfl) ?_
                                    refine lv_iadd hx hb dX9_rows_371 ?_
                                    refine lv_aload_n hx hb dX9_rows_372 rfl (lv_at hl 5 rfl) ?_
                                    refine g_9_1 X hK hW flRX9_7 dX9_rows_373 ?_
                                    refine lv_iload hx hb dX9_rows_376 (lv_at hl 3 rfl) ?_
                                    refine al_21 X hK hW b15 dX9_rows_378 ?_
                                    refine lv_iconst (v := 5) hx hb dX9_rows_379 (by decide) ?_
                                    refine lv_icmp_ne (tgt := 389) hx hb dX9_rows_380 (by decide) (fun c46 => ?_) (fun c46 => ?_)
                                    · exfalso; have := q_ne (b := 4) (by decide) c16; have := q_eq (b := 5) (by decide) c32; have := q_ne (b := 5) (by decide) c46; omega
                                    · skip
                                      refine lv_iload hx hb dX9_rows_383 (lv_at hl 0 rfl) ?_
                                      refine lv_i2b (v := (N 49 0 ((6 * x1) + x5).toNatClampNeg).toInt8.toInt32) hx hb dX9_rows_385 rfl ?_
                                      refine lv_goto (tgt := 391) hx hb dX9_rows_386 (by decide) ?_
                                      obtain ⟨b47, hf⟩ := gd_some hf
                                      obtain ⟨N48, hN48, hf⟩ := lt1_some hf
                                      refine as_24 X hK hW hS b47 hN48 dX9_rows_391 (fun H locs hW hS => ?_)
                                      refine lv_goto (tgt := 456) hx hb dX9_rows_392 (by decide) ?_
                                      obtain rfl := sp1 hf
                                      exact e_v ⟨hx, hb, hr, hlk⟩ hW hS dX9_rows_456
                                · exfalso; have := q_ne (b := 21) (by decide) c1; have := q_eq (b := 18) (by decide) c2; have := q_eq (b := 19) (by decide) c43; omega
                              · exfalso; have := q_ne (b := 21) (by decide) c1; have := q_eq (b := 18) (by decide) c2; have := q_eq (b := 17) (by decide) c42; omega
                            · rw [if_pos c41] at hf
                              refine lv_aload_n hx hb dX9_rows_276 rfl (lv_at hl 4 rfl) ?_
                              refine lv_iconst (v := 2) hx hb dX9_rows_277 (by decide) ?_
                              obtain ⟨N50, h49, hf⟩ := ob1_some hf
                              refine k_yX9_bad X hK hZ hW hS hl.1 h49 mlRX9_245 ⟨Nat.le_of_ble_eq_true rfl, Nat.le_of_ble_eq_true rfl⟩ ⟨Nat.le_of_ble_eq_true rfl, Nat.le_of_ble_eq_true rfl⟩ (Nat.le_of_ble_eq_true rfl) dX9_rows_278 (fun H locs hW hS => ?_)
                              refine lv_goto (tgt := 456) hx hb dX9_rows_281 (by decide) ?_
                              obtain rfl := sp1 hf
                              exact e_v ⟨hx, hb, hr, hlk⟩ hW hS dX9_rows_456
                          · exfalso; have := q_ne (b := 21) (by decide) c1; have := q_eq (b := 18) (by decide) c2; have := q_eq (b := 16) (by decide) c38; omega
                        · exfalso; have := q_ne (b := -4) (by decide) c8; have := q_eq (b := -4) (by decide) c37; omega
                      · exact absurd c36 (by decide)
              · exfalso; have := q_ne (b := 21) (by decide) c1; have := q_eq (b := 18) (by decide) c2; have := q_eq (b := 16) (by decide) c13; omega
        · exfalso; have := q_ne (b := 21) (by decide) c1; have := q_eq (b := 18) (by decide) c2; have := q_eq (b := 16) (by decide) c5; omega
    · rw [if_neg c2] at hf
      refine lv_iload_n hx hb dX9_rows_47 rfl (lv_at hl 2 rfl) ?_
      refine lv_bipush (v := 20) hx hb dX9_rows_48 (by decide) ?_
      refine lv_icmp_ne (tgt := 57) hx hb dX9_rows_50 (by decide) (fun c51 => ?_) (fun c51 => ?_)
      · rw [if_neg c51] at hf
        refine lv_iconst (v := 0) hx hb dX9_rows_57 (by decide) ?_
        refine lv_istore (lv' := [(6, .int 0), (0, .ref (ad 20 0)), (1, .int x1), (2, .int x2), (3, .int x3), (4, .int x4), (5, .int x5)]) hx hb dX9_rows_58 hl (by decide) rfl (fun ls hl => ?_)
        refine lv_iload hx hb dX9_rows_60 (lv_at hl 0 rfl) ?_
        refine lv_if_eq (tgt := 74) hx hb dX9_rows_62 (by decide) (fun c52 => ?_) (fun c52 => ?_)
        · skip
          refine lv_aload_n hx hb dX9_rows_74 rfl (lv_at hl 1 rfl) ?_
          refine g_9_31 X hK hW flRX9_98 dX9_rows_75 ?_
          refine lv_bipush (v := 6) hx hb dX9_rows_78 (by decide) ?_
          refine lv_iload_n hx hb dX9_rows_80 rfl (lv_at hl 2 rfl) ?_
          refine lv_imul hx hb dX9_rows_81 ?_
          refine lv_iload hx hb dX9_rows_82 (lv_at hl 5 rfl) ?_
          refine lv_iadd hx hb dX9_rows_84 ?_
          obtain ⟨b53, hf⟩ := gd_some hf
          refine al_50 X hK hW b53 dX9_rows_85 ?_
          refine lv_istore (lv' := [(7, .int (N 50 0 ((6 * x1) + x4).toNatClampNeg)), (6, .int 0), (0, .ref (ad 20 0)), (1, .int x1), (2, .int x2), (3, .int x3), (4, .int x4), (5, .int x5)]) hx hb dX9_rows_86 hl (by decide) rfl (fun ls hl => ?_)
          refine lv_iload_n hx hb dX9_rows_88 rfl (lv_at hl 4 rfl) ?_
          refine lv_bipush (v := 16) hx hb dX9_rows_89 (by decide) ?_
          refine lv_icmp_ne (tgt := 98) hx hb dX9_rows_91 (by decide) (fun c54 => ?_) (fun c54 => ?_)
          · rw [if_neg c54] at hf
            refine lv_iload hx hb dX9_rows_98 (lv_at hl 1 rfl) ?_
            refine lv_if_eq (tgt := 118) hx hb dX9_rows_100 (by decide) (fun c55 => ?_) (fun c55 => ?_)
            · skip
              refine lv_aload_n hx hb dX9_rows_118 rfl (lv_at hl 2 rfl) ?_
              refine g_9_30 X hK hW flRX9_95 dX9_rows_119 ?_
              refine lv_bipush (v := 6) hx hb dX9_rows_122 (by decide) ?_
              refine lv_iload_n hx hb dX9_rows_124 rfl (lv_at hl 3 rfl) ?_
              refine lv_imul hx hb dX9_rows_125 ?_
              refine lv_iload hx hb dX9_rows_126 (lv_at hl 7 rfl) ?_
              refine lv_iadd hx hb dX9_rows_128 ?_
              obtain ⟨b56, hf⟩ := gd_some hf
              refine al_49 X hK hW b56 dX9_rows_129 ?_
              refine lv_istore (lv' := [(8, .int (N 49 0 ((6 * x1) + x5).toNatClampNeg)), (7, .int (N 50 0 ((6 * x1) + x4).toNatClampNeg)), (6, .int 0), (0, .ref (ad 20 0)), (1, .int x1), (2, .int x2), (3, .int x3), (4, .int x4), (5, .int x5)]) hx hb dX9_rows_130 hl (by decide) rfl (fun ls hl => ?_)
              refine lv_iload hx hb dX9_rows_132 (lv_at hl 1 rfl) ?_
              refine lv_bipush (v := -4) hx hb dX9_rows_134 (by decide) ?_
              refine lv_icmp_eq (tgt := 201) hx hb dX9_rows_136 (by decide) (fun c57 => ?_) (fun c57 => ?_)
              · rw [if_pos c57] at hf
                refine lv_iconst (v := 1) hx hb dX9_rows_201 (by decide) ?_
                refine lv_goto (tgt := 206) hx hb dX9_rows_202 (by decide) ?_
                refine lv_istore (lv' := [(9, .int 1), (8, .int (N 49 0 ((6 * x1) + x5).toNatClampNeg)), (7, .int (N 50 0 ((6 * x1) + x4).toNatClampNeg)), (6, .int 0), (0, .ref (ad 20 0)), (1, .int x1), (2, .int x2), (3, .int x3), (4, .int x4), (5, .int x5)]) hx hb dX9_rows_206 hl (by decide) rfl (fun ls hl => ?_)
                refine lv_iload hx hb dX9_rows_208 (lv_at hl 0 rfl) ?_
                refine lv_if_ne (tgt := 221) hx hb dX9_rows_210 (by decide) (fun c58 => ?_) (fun c58 => ?_)
                · skip
                  refine lv_iload hx hb dX9_rows_221 (lv_at hl 2 rfl) ?_
                  refine lv_bipush (v := -4) hx hb dX9_rows_223 (by decide) ?_
                  refine lv_icmp_ne (tgt := 236) hx hb dX9_rows_225 (by decide) (fun c59 => ?_) (fun c59 => ?_)
                  · exfalso; have := q_eq (b := -4) (by decide) c57; have := q_ne (b := -4) (by decide) c59; omega
                  · skip
                    refine lv_aload_n hx hb dX9_rows_228 rfl (lv_at hl 4 rfl) ?_
                    refine lv_iconst (v := 1) hx hb dX9_rows_229 (by decide) ?_
                    obtain ⟨N61, h60, hf⟩ := ob1_some hf
                    refine k_yX9_bad X hK hZ hW hS hl.1 h60 mlRX9_245 ⟨Nat.le_of_ble_eq_true rfl, Nat.le_of_ble_eq_true rfl⟩ ⟨Nat.le_of_ble_eq_true rfl, Nat.le_of_ble_eq_true rfl⟩ (Nat.le_of_ble_eq_true rfl) dX9_rows_230 (fun H locs hW hS => ?_)
                    refine lv_goto (tgt := 456) hx hb dX9_rows_233 (by decide) ?_
                    obtain rfl := sp1 hf
                    exact e_v ⟨hx, hb, hr, hlk⟩ hW hS dX9_rows_456
                · exact absurd c58 (by decide)
              · rw [if_neg c57] at hf
                refine lv_iload_n hx hb dX9_rows_139 rfl (lv_at hl 5 rfl) ?_
                refine lv_bipush (v := 16) hx hb dX9_rows_140 (by decide) ?_
                refine lv_icmp_ne (tgt := 159) hx hb dX9_rows_142 (by decide) (fun c62 => ?_) (fun c62 => ?_)
                · skip
                  refine lv_iload_n hx hb dX9_rows_159 rfl (lv_at hl 5 rfl) ?_
                  refine lv_bipush (v := 19) hx hb dX9_rows_160 (by decide) ?_
                  refine lv_icmp_ge (tgt := 190) hx hb dX9_rows_162 (by decide) (fun c63 => ?_) (fun c63 => ?_)
                  · rw [if_pos c63] at hf
                    refine lv_aload_n hx hb dX9_rows_190 rfl (lv_at hl 3 rfl) ?_
                    refine g_9_1 X hK hW flRX9_7 dX9_rows_191 ?_
                    refine lv_iload hx hb dX9_rows_194 (lv_at hl 1 rfl) ?_
                    obtain ⟨b64, hf⟩ := gd_some hf
                    refine al_21 X hK hW b64 dX9_rows_196 ?_
                    refine lv_iconst (v := 5) hx hb dX9_rows_197 (by decide) ?_
                    refine lv_icmp_le (tgt := 205) hx hb dX9_rows_198 (by decide) (fun c65 => ?_) (fun c65 => ?_)
                    · rw [if_pos c65] at hf
                      refine lv_iconst (v := 0) hx hb dX9_rows_205 (by decide) ?_
                      refine lv_istore (lv' := [(9, .int 0), (8, .int (N 49 0 ((6 * x1) + x5).toNatClampNeg)), (7, .int (N 50 0 ((6 * x1) + x4).toNatClampNeg)), (6, .int 0), (0, .ref (ad 20 0)), (1, .int x1), (2, .int x2), (3, .int x3), (4, .int x4), (5, .int x5)]) hx hb dX9_rows_206 hl (by decide) rfl (fun ls hl => ?_)
                      refine lv_iload hx hb dX9_rows_208 (lv_at hl 0 rfl) ?_
                      refine lv_if_ne (tgt := 221) hx hb dX9_rows_210 (by decide) (fun c66 => ?_) (fun c66 => ?_)
                      · exact absurd c66 (by decide)
                      · skip
                        refine lv_aload_n hx hb dX9_rows_213 rfl (lv_at hl 4 rfl) ?_
                        refine lv_iconst (v := 3) hx hb dX9_rows_214 (by decide) ?_
                        obtain ⟨N68, h67, hf⟩ := ob1_some hf
                        refine k_yX9_bad X hK hZ hW hS hl.1 h67 mlRX9_245 ⟨Nat.le_of_ble_eq_true rfl, Nat.le_of_ble_eq_true rfl⟩ ⟨Nat.le_of_ble_eq_true rfl, Nat.le_of_ble_eq_true rfl⟩ (Nat.le_of_ble_eq_true rfl) dX9_rows_215 (fun H locs hW hS => ?_)
                        refine lv_goto (tgt := 456) hx hb dX9_rows_218 (by decide) ?_
                        obtain rfl := sp1 hf
                        exact e_v ⟨hx, hb, hr, hlk⟩ hW hS dX9_rows_456
                    · rw [if_neg c65] at hf
                      refine lv_iconst (v := 1) hx hb dX9_rows_201 (by decide) ?_
                      refine lv_goto (tgt := 206) hx hb dX9_rows_202 (by decide) ?_
                      refine lv_istore (lv' := [(9, .int 1), (8, .int (N 49 0 ((6 * x1) + x5).toNatClampNeg)), (7, .int (N 50 0 ((6 * x1) + x4).toNatClampNeg)), (6, .int 0), (0, .ref (ad 20 0)), (1, .int x1), (2, .int x2), (3, .int x3), (4, .int x4), (5, .int x5)]) hx hb dX9_rows_206 hl (by decide) rfl (fun ls hl => ?_)
                      refine lv_iload hx hb dX9_rows_208 (lv_at hl 0 rfl) ?_
                      refine lv_if_ne (tgt := 221) hx hb dX9_rows_210 (by decide) (fun c69 => ?_) (fun c69 => ?_)
                      · skip
                        refine lv_iload hx hb dX9_rows_221 (lv_at hl 2 rfl) ?_
                        refine lv_bipush (v := -4) hx hb dX9_rows_223 (by decide) ?_
                        refine lv_icmp_ne (tgt := 236) hx hb dX9_rows_225 (by decide) (fun c70 => ?_) (fun c70 => ?_)
                        · skip
                          refine lv_iload_n hx hb dX9_rows_236 rfl (lv_at hl 6 rfl) ?_
                          refine lv_bipush (v := 16) hx hb dX9_rows_237 (by decide) ?_
                          refine lv_icmp_ne (tgt := 258) hx hb dX9_rows_239 (by decide) (fun c71 => ?_) (fun c71 => ?_)
                          · skip
                            refine lv_iload hx hb dX9_rows_258 (lv_at hl 1 rfl) ?_
                            refine lv_iconst (v := 0) hx hb dX9_rows_260 (by decide) ?_
                            refine lv_aload_n hx hb dX9_rows_261 rfl (lv_at hl 4 rfl) ?_
                            refine g_9_3 X hK hW flRX9_16 dX9_rows_262 ?_
                            refine lv_iload hx hb dX9_rows_265 (lv_at hl 2 rfl) ?_
                            refine al_23 X hK hW b64 dX9_rows_267 ?_
                            refine lv_iconst (v := 1) hx hb dX9_rows_268 (by decide) ?_
                            refine lv_isub hx hb dX9_rows_269 ?_
                            obtain ⟨r73, h72, hf⟩ := ob1_some hf
                            refine k_yX9_in X hK hZ hW hS hl.1 h72 mlRX9_114 ⟨Nat.le_of_ble_eq_true rfl, Nat.le_of_ble_eq_true rfl⟩ ⟨Nat.le_of_ble_eq_true rfl, Nat.le_of_ble_eq_true rfl⟩ (Nat.le_of_ble_eq_true rfl) dX9_rows_270 (fun H locs hW hS => ?_)
                            refine lv_if_ne (tgt := 284) hx hb dX9_rows_273 (by decide) (fun c74 => ?_) (fun c74 => ?_)
                            · rw [if_neg c74] at hf
                              refine lv_iload_n hx hb dX9_rows_284 rfl (lv_at hl 6 rfl) ?_
                              refine lv_bipush (v := 17) hx hb dX9_rows_285 (by decide) ?_
                              refine lv_icmp_ne (tgt := 312) hx hb dX9_rows_287 (by decide) (fun c75 => ?_) (fun c75 => ?_)
                              · skip
                                refine lv_iload_n hx hb dX9_rows_312 rfl (lv_at hl 6 rfl) ?_
                                refine lv_bipush (v := 19) hx hb dX9_rows_313 (by decide) ?_
                                refine lv_icmp_ne (tgt := 340) hx hb dX9_rows_315 (by decide) (fun c76 => ?_) (fun c76 => ?_)
                                · rw [if_neg c76] at hf
                                  refine lv_iload_n hx hb dX9_rows_340 rfl (lv_at hl 6 rfl) ?_
                                  refine lv_bipush (v := 18) hx hb dX9_rows_341 (by decide) ?_
                                  refine lv_icmp_ne (tgt := 395) hx hb dX9_rows_343 (by decide) (fun c77 => ?_) (fun c77 => ?_)
                                  · skip
                                    refine lv_aload_n hx hb dX9_rows_395 rfl (lv_at hl 4 rfl) ?_
                                    refine lv_aload_n hx hb dX9_rows_396 rfl (lv_at hl 4 rfl) ?_
                                    refine g_9_1 X hK hW flRX9_7 dX9_rows_397 ?_
                                    refine lv_iload hx hb dX9_rows_400 (lv_at hl 2 rfl) ?_
                                    refine al_21 X hK hW b64 dX9_rows_402 ?_
                                    refine lv_bipush (v := 6) hx hb dX9_rows_403 (by decide) ?_
                                    refine lv_aload_n hx hb dX9_rows_405 rfl (lv_at hl 4 rfl) ?_
                                    refine g_9_31 X hK hW flRX9_98 dX9_rows_406 ?_
                                    refine lv_bipush (v := 6) hx hb dX9_rows_409 (by decide) ?_
                                    refine lv_iload_n hx hb dX9_rows_411 rfl (lv_at hl 5 rfl) ?_
                                    refine lv_imul hx hb dX9_rows_412 ?_
                                    refine lv_iload hx hb dX9_rows_413 (lv_at hl 9 rfl) ?_
                                    refine lv_iadd hx hb dX9_rows_415 ?_
                                    refine al_50 X hK hW b56 dX9_rows_416 ?_
                                    obtain ⟨r79, h78, hf⟩ := ob1_some hf
                                    refine k_yX9_fits X hK hZ hW hS hl.1 h78 mlRX9_251 ⟨Nat.le_of_ble_eq_true rfl, Nat.le_of_ble_eq_true rfl⟩ ⟨Nat.le_of_ble_eq_true rfl, Nat.le_of_ble_eq_true rfl⟩ (Nat.le_of_ble_eq_true rfl) dX9_rows_417 (fun H locs hW hS => ?_)
                                    refine lv_if_ne (tgt := 431) hx hb dX9_rows_420 (by decide) (fun c80 => ?_) (fun c80 => ?_)
                                    · rw [if_neg c80] at hf
                                      refine lv_aload_n hx hb dX9_rows_431 rfl (lv_at hl 4 rfl) ?_
                                      refine g_9_4 X hK hW flRX9_19 dX9_rows_432 ?_
                                      refine lv_bipush (v := 12) hx hb dX9_rows_435 (by decide) ?_
                                      refine lv_iload hx hb dX9_rows_437 (lv_at hl 2 rfl) ?_
                                      refine lv_imul hx hb dX9_rows_439 ?_
                                      refine lv_iload hx hb dX9_rows_440 (lv_at hl 1 rfl) ?_
                                      refine lv_iadd hx hb dX9_rows_442 ?_
                                      refine lv_aload_n hx hb dX9_rows_443 rfl (lv_at hl 4 rfl) ?_
                                      refine g_9_31 X hK hW flRX9_98 dX9_rows_444 ?_
                                      refine lv_bipush (v := 6) hx hb dX9_rows_447 (by decide) ?_
                                      refine lv_iload_n hx hb dX9_rows_449 rfl (lv_at hl 5 rfl) ?_
                                      refine lv_imul hx hb dX9_rows_450 ?_
                                      refine lv_iload hx hb dX9_rows_451 (lv_at hl 9 rfl) ?_
                                      refine lv_iadd hx hb dX9_rows_453 ?_
                                      refine al_50 X hK hW b56 dX9_rows_454 ?_
                                      obtain ⟨b81, hf⟩ := gd_some hf
                                      obtain ⟨N82, hN82, hf⟩ := lt1_some hf
                                      refine as_24 X hK hW hS b81 hN82 dX9_rows_455 (fun H locs hW hS => ?_)
                                      obtain rfl := sp1 hf
                                      exact e_v ⟨hx, hb, hr, hlk⟩ hW hS dX9_rows_456
                                    · rw [if_pos c80] at hf
                                      refine lv_aload_n hx hb dX9_rows_423 rfl (lv_at hl 4 rfl) ?_
                                      refine lv_iconst (v := 4) hx hb dX9_rows_424 (by decide) ?_
                                      obtain ⟨N84, h83, hf⟩ := ob1_some hf
                                      refine k_yX9_bad X hK hZ hW hS hl.1 h83 mlRX9_245 ⟨Nat.le_of_ble_eq_true rfl, Nat.le_of_ble_eq_true rfl⟩ ⟨Nat.le_of_ble_eq_true rfl, Nat.le_of_ble_eq_true rfl⟩ (Nat.le_of_ble_eq_true rfl) dX9_rows_425 (fun H locs hW hS => ?_)
                                      refine lv_goto (tgt := 456) hx hb dX9_rows_428 (by decide) ?_
                                      obtain rfl := sp1 hf
                                      exact e_v ⟨hx, hb, hr, hlk⟩ hW hS dX9_rows_456
                                  · exfalso; have := q_ne (b := 21) (by decide) c1; have := q_ne (b := 18) (by decide) c2; have := q_ne (b := 20) (by decide) c51; have := q_ne (b := 16) (by decide) c54; have := q_ge (b := 19) (by decide) c63; have := q_ne (b := 19) (by decide) c76; have := q_eq (b := 18) (by decide) c77; omega
                                · rw [if_pos c76] at hf
                                  refine lv_aload_n hx hb dX9_rows_318 rfl (lv_at hl 4 rfl) ?_
                                  refine g_9_31 X hK hW flRX9_98 dX9_rows_319 ?_
                                  refine lv_iload_n hx hb dX9_rows_322 rfl (lv_at hl 7 rfl) ?_
                                  refine lv_aload_n hx hb dX9_rows_323 rfl (lv_at hl 4 rfl) ?_
                                  refine g_9_4 X hK hW flRX9_19 dX9_rows_324 ?_
                                  refine lv_bipush (v := 12) hx hb dX9_rows_327 (by decide) ?_
                                  refine lv_iload hx hb dX9_rows_329 (lv_at hl 2 rfl) ?_
                                  refine lv_imul hx hb dX9_rows_331 ?_
                                  refine lv_iload hx hb dX9_rows_332 (lv_at hl 1 rfl) ?_
                                  refine lv_iadd hx hb dX9_rows_334 ?_
                                  obtain ⟨b85, hf⟩ := gd_some hf
                                  refine al_24 X hK hW b85 dX9_rows_335 ?_
                                  obtain ⟨b86, hf⟩ := gd_some hf
                                  obtain ⟨N87, hN87, hf⟩ := lt1_some hf
                                  refine as_50 X hK hW hS b86 hN87 dX9_rows_336 (fun H locs hW hS => ?_)
                                  refine lv_goto (tgt := 456) hx hb dX9_rows_337 (by decide) ?_
                                  obtain rfl := sp1 hf
                                  exact e_v ⟨hx, hb, hr, hlk⟩ hW hS dX9_rows_456
                              · exfalso; have := q_ne (b := 21) (by decide) c1; have := q_ne (b := 18) (by decide) c2; have := q_ne (b := 20) (by decide) c51; have := q_ne (b := 16) (by decide) c54; have := q_ge (b := 19) (by decide) c63; have := q_eq (b := 17) (by decide) c75; omega
                            · rw [if_pos c74] at hf
                              refine lv_aload_n hx hb dX9_rows_276 rfl (lv_at hl 4 rfl) ?_
                              refine lv_iconst (v := 2) hx hb dX9_rows_277 (by decide) ?_
                              obtain ⟨N89, h88, hf⟩ := ob1_some hf
                              refine k_yX9_bad X hK hZ hW hS hl.1 h88 mlRX9_245 ⟨Nat.le_of_ble_eq_true rfl, Nat.le_of_ble_eq_true rfl⟩ ⟨Nat.le_of_ble_eq_true rfl, Nat.le_of_ble_eq_true rfl⟩ (Nat.le_of_ble_eq_true rfl) dX9_rows_278 (fun H locs hW hS => ?_)
                              refine lv_goto (tgt := 456) hx hb dX9_rows_281 (by decide) ?_
                              obtain rfl := sp1 hf
                              exact e_v ⟨hx, hb, hr, hlk⟩ hW hS dX9_rows_456
                          · exfalso; have := q_ne (b := 21) (by decide) c1; have := q_ne (b := 18) (by decide) c2; have := q_ne (b := 20) (by decide) c51; have := q_ne (b := 16) (by decide) c54; have := q_ge (b := 19) (by decide) c63; have := q_eq (b := 16) (by decide) c71; omega
                        · exfalso; have := q_ne (b := -4) (by decide) c57; have := q_eq (b := -4) (by decide) c70; omega
                      · exact absurd c69 (by decide)
                  · rw [if_neg c63] at hf
                    refine lv_aload_n hx hb dX9_rows_165 rfl (lv_at hl 3 rfl) ?_
                    refine g_9_1 X hK hW flRX9_7 dX9_rows_166 ?_
                    refine lv_iload hx hb dX9_rows_169 (lv_at hl 1 rfl) ?_
                    obtain ⟨b90, hf⟩ := gd_some hf
                    refine al_21 X hK hW b90 dX9_rows_171 ?_
                    refine lv_iconst (v := 4) hx hb dX9_rows_172 (by decide) ?_
                    refine lv_icmp_eq (tgt := 201) hx hb dX9_rows_173 (by decide) (fun c91 => ?_) (fun c91 => ?_)
                    · rw [if_pos c91] at hf
                      refine lv_iconst (v := 1) hx hb dX9_rows_201 (by decide) ?_
                      refine lv_goto (tgt := 206) hx hb dX9_rows_202 (by decide) ?_
                      refine lv_istore (lv' := [(9, .int 1), (8, .int (N 49 0 ((6 * x1) + x5).toNatClampNeg)), (7, .int (N 50 0 ((6 * x1) + x4).toNatClampNeg)), (6, .int 0), (0, .ref (ad 20 0)), (1, .int x1), (2, .int x2), (3, .int x3), (4, .int x4), (5, .int x5)]) hx hb dX9_rows_206 hl (by decide) rfl (fun ls hl => ?_)
                      refine lv_iload hx hb dX9_rows_208 (lv_at hl 0 rfl) ?_
                      refine lv_if_ne (tgt := 221) hx hb dX9_rows_210 (by decide) (fun c92 => ?_) (fun c92 => ?_)
                      · skip
                        refine lv_iload hx hb dX9_rows_221 (lv_at hl 2 rfl) ?_
                        refine lv_bipush (v := -4) hx hb dX9_rows_223 (by decide) ?_
                        refine lv_icmp_ne (tgt := 236) hx hb dX9_rows_225 (by decide) (fun c93 => ?_) (fun c93 => ?_)
                        · skip
                          refine lv_iload_n hx hb dX9_rows_236 rfl (lv_at hl 6 rfl) ?_
                          refine lv_bipush (v := 16) hx hb dX9_rows_237 (by decide) ?_
                          refine lv_icmp_ne (tgt := 258) hx hb dX9_rows_239 (by decide) (fun c94 => ?_) (fun c94 => ?_)
                          · skip
                            refine lv_iload hx hb dX9_rows_258 (lv_at hl 1 rfl) ?_
                            refine lv_iconst (v := 0) hx hb dX9_rows_260 (by decide) ?_
                            refine lv_aload_n hx hb dX9_rows_261 rfl (lv_at hl 4 rfl) ?_
                            refine g_9_3 X hK hW flRX9_16 dX9_rows_262 ?_
                            refine lv_iload hx hb dX9_rows_265 (lv_at hl 2 rfl) ?_
                            refine al_23 X hK hW b90 dX9_rows_267 ?_
                            refine lv_iconst (v := 1) hx hb dX9_rows_268 (by decide) ?_
                            refine lv_isub hx hb dX9_rows_269 ?_
                            obtain ⟨r96, h95, hf⟩ := ob1_some hf
                            refine k_yX9_in X hK hZ hW hS hl.1 h95 mlRX9_114 ⟨Nat.le_of_ble_eq_true rfl, Nat.le_of_ble_eq_true rfl⟩ ⟨Nat.le_of_ble_eq_true rfl, Nat.le_of_ble_eq_true rfl⟩ (Nat.le_of_ble_eq_true rfl) dX9_rows_270 (fun H locs hW hS => ?_)
                            refine lv_if_ne (tgt := 284) hx hb dX9_rows_273 (by decide) (fun c97 => ?_) (fun c97 => ?_)
                            · rw [if_neg c97] at hf
                              refine lv_iload_n hx hb dX9_rows_284 rfl (lv_at hl 6 rfl) ?_
                              refine lv_bipush (v := 17) hx hb dX9_rows_285 (by decide) ?_
                              refine lv_icmp_ne (tgt := 312) hx hb dX9_rows_287 (by decide) (fun c98 => ?_) (fun c98 => ?_)
                              · rw [if_neg c98] at hf
                                refine lv_iload_n hx hb dX9_rows_312 rfl (lv_at hl 6 rfl) ?_
                                refine lv_bipush (v := 19) hx hb dX9_rows_313 (by decide) ?_
                                refine lv_icmp_ne (tgt := 340) hx hb dX9_rows_315 (by decide) (fun c99 => ?_) (fun c99 => ?_)
                                · skip
                                  refine lv_iload_n hx hb dX9_rows_340 rfl (lv_at hl 6 rfl) ?_
                                  refine lv_bipush (v := 18) hx hb dX9_rows_341 (by decide) ?_
                                  refine lv_icmp_ne (tgt := 395) hx hb dX9_rows_343 (by decide) (fun c100 => ?_) (fun c100 => ?_)
                                  · skip
                                    refine lv_aload_n hx hb dX9_rows_395 rfl (lv_at hl 4 rfl) ?_
                                    refine lv_aload_n hx hb dX9_rows_396 rfl (lv_at hl 4 rfl) ?_
                                    refine g_9_1 X hK hW flRX9_7 dX9_rows_397 ?_
                                    refine lv_iload hx hb dX9_rows_400 (lv_at hl 2 rfl) ?_
                                    refine al_21 X hK hW b90 dX9_rows_402 ?_
                                    refine lv_bipush (v := 6) hx hb dX9_rows_403 (by decide) ?_
                                    refine lv_aload_n hx hb dX9_rows_405 rfl (lv_at hl 4 rfl) ?_
                                    refine g_9_31 X hK hW flRX9_98 dX9_rows_406 ?_
                                    refine lv_bipush (v := 6) hx hb dX9_rows_409 (by decide) ?_
                                    refine lv_iload_n hx hb dX9_rows_411 rfl (lv_at hl 5 rfl) ?_
                                    refine lv_imul hx hb dX9_rows_412 ?_
                                    refine lv_iload hx hb dX9_rows_413 (lv_at hl 9 rfl) ?_
                                    refine lv_iadd hx hb dX9_rows_415 ?_
                                    refine al_50 X hK hW b56 dX9_rows_416 ?_
                                    obtain ⟨r102, h101, hf⟩ := ob1_some hf
                                    refine k_yX9_fits X hK hZ hW hS hl.1 h101 mlRX9_251 ⟨Nat.le_of_ble_eq_true rfl, Nat.le_of_ble_eq_true rfl⟩ ⟨Nat.le_of_ble_eq_true rfl, Nat.le_of_ble_eq_true rfl⟩ (Nat.le_of_ble_eq_true rfl) dX9_rows_417 (fun H locs hW hS => ?_)
                                    refine lv_if_ne (tgt := 431) hx hb dX9_rows_420 (by decide) (fun c103 => ?_) (fun c103 => ?_)
                                    · rw [if_neg c103] at hf
                                      refine lv_aload_n hx hb dX9_rows_431 rfl (lv_at hl 4 rfl) ?_
                                      refine g_9_4 X hK hW flRX9_19 dX9_rows_432 ?_
                                      refine lv_bipush (v := 12) hx hb dX9_rows_435 (by decide) ?_
                                      refine lv_iload hx hb dX9_rows_437 (lv_at hl 2 rfl) ?_
                                      refine lv_imul hx hb dX9_rows_439 ?_
                                      refine lv_iload hx hb dX9_rows_440 (lv_at hl 1 rfl) ?_
                                      refine lv_iadd hx hb dX9_rows_442 ?_
                                      refine lv_aload_n hx hb dX9_rows_443 rfl (lv_at hl 4 rfl) ?_
                                      refine g_9_31 X hK hW flRX9_98 dX9_rows_444 ?_
                                      refine lv_bipush (v := 6) hx hb dX9_rows_447 (by decide) ?_
                                      refine lv_iload_n hx hb dX9_rows_449 rfl (lv_at hl 5 rfl) ?_
                                      refine lv_imul hx hb dX9_rows_450 ?_
                                      refine lv_iload hx hb dX9_rows_451 (lv_at hl 9 rfl) ?_
                                      refine lv_iadd hx hb dX9_rows_453 ?_
                                      refine al_50 X hK hW b56 dX9_rows_454 ?_
                                      obtain ⟨b104, hf⟩ := gd_some hf
                                      obtain ⟨N105, hN105, hf⟩ := lt1_some hf
                                      refine as_24 X hK hW hS b104 hN105 dX9_rows_455 (fun H locs hW hS => ?_)
                                      obtain rfl := sp1 hf
                                      exact e_v ⟨hx, hb, hr, hlk⟩ hW hS dX9_rows_456
                                    · rw [if_pos c103] at hf
                                      refine lv_aload_n hx hb dX9_rows_423 rfl (lv_at hl 4 rfl) ?_
                                      refine lv_iconst (v := 4) hx hb dX9_rows_424 (by decide) ?_
                                      obtain ⟨N107, h106, hf⟩ := ob1_some hf
                                      refine k_yX9_bad X hK hZ hW hS hl.1 h106 mlRX9_245 ⟨Nat.le_of_ble_eq_true rfl, Nat.le_of_ble_eq_true rfl⟩ ⟨Nat.le_of_ble_eq_true rfl, Nat.le_of_ble_eq_true rfl⟩ (Nat.le_of_ble_eq_true rfl) dX9_rows_425 (fun H locs hW hS => ?_)
                                      refine lv_goto (tgt := 456) hx hb dX9_rows_428 (by decide) ?_
                                      obtain rfl := sp1 hf
                                      exact e_v ⟨hx, hb, hr, hlk⟩ hW hS dX9_rows_456
                                  · exfalso; have := q_ne (b := 21) (by decide) c1; have := q_ne (b := 18) (by decide) c2; have := q_ne (b := 20) (by decide) c51; have := q_ne (b := 16) (by decide) c54; have := q_nge (b := 19) (by decide) c63; have := q_ne (b := 17) (by decide) c98; have := q_eq (b := 18) (by decide) c100; omega
                                · exfalso; have := q_ne (b := 21) (by decide) c1; have := q_ne (b := 18) (by decide) c2; have := q_ne (b := 20) (by decide) c51; have := q_ne (b := 16) (by decide) c54; have := q_nge (b := 19) (by decide) c63; have := q_ne (b := 17) (by decide) c98; have := q_eq (b := 19) (by decide) c99; omega
                              · rw [if_pos c98] at hf
                                refine lv_aload_n hx hb dX9_rows_290 rfl (lv_at hl 4 rfl) ?_
                                refine g_9_30 X hK hW flRX9_95 dX9_rows_291 ?_
                                refine lv_iload_n hx hb dX9_rows_294 rfl (lv_at hl 7 rfl) ?_
                                refine lv_aload_n hx hb dX9_rows_295 rfl (lv_at hl 4 rfl) ?_
                                refine g_9_4 X hK hW flRX9_19 dX9_rows_296 ?_
                                refine lv_bipush (v := 12) hx hb dX9_rows_299 (by decide) ?_
                                refine lv_iload hx hb dX9_rows_301 (lv_at hl 2 rfl) ?_
                                refine lv_imul hx hb dX9_rows_303 ?_
                                refine lv_iload hx hb dX9_rows_304 (lv_at hl 1 rfl) ?_
                                refine lv_iadd hx hb dX9_rows_306 ?_
                                obtain ⟨b108, hf⟩ := gd_some hf
                                refine al_24 X hK hW b108 dX9_rows_307 ?_
                                obtain ⟨b109, hf⟩ := gd_some hf
                                obtain ⟨N110, hN110, hf⟩ := lt1_some hf
                                refine as_49 X hK hW hS b109 hN110 dX9_rows_308 (fun H locs hW hS => ?_)
                                refine lv_goto (tgt := 456) hx hb dX9_rows_309 (by decide) ?_
                                obtain rfl := sp1 hf
                                exact e_v ⟨hx, hb, hr, hlk⟩ hW hS dX9_rows_456
                            · rw [if_pos c97] at hf
                              refine lv_aload_n hx hb dX9_rows_276 rfl (lv_at hl 4 rfl) ?_
                              refine lv_iconst (v := 2) hx hb dX9_rows_277 (by decide) ?_
                              obtain ⟨N112, h111, hf⟩ := ob1_some hf
                              refine k_yX9_bad X hK hZ hW hS hl.1 h111 mlRX9_245 ⟨Nat.le_of_ble_eq_true rfl, Nat.le_of_ble_eq_true rfl⟩ ⟨Nat.le_of_ble_eq_true rfl, Nat.le_of_ble_eq_true rfl⟩ (Nat.le_of_ble_eq_true rfl) dX9_rows_278 (fun H locs hW hS => ?_)
                              refine lv_goto (tgt := 456) hx hb dX9_rows_281 (by decide) ?_
                              obtain rfl := sp1 hf
                              exact e_v ⟨hx, hb, hr, hlk⟩ hW hS dX9_rows_456
                          · exfalso; have := q_ne (b := 21) (by decide) c1; have := q_ne (b := 18) (by decide) c2; have := q_ne (b := 20) (by decide) c51; have := q_ne (b := 16) (by decide) c54; have := q_nge (b := 19) (by decide) c63; have := q_eq (b := 16) (by decide) c94; omega
                        · exfalso; have := q_ne (b := -4) (by decide) c57; have := q_eq (b := -4) (by decide) c93; omega
                      · exact absurd c92 (by decide)
                    · rw [if_neg c91] at hf
                      refine lv_aload_n hx hb dX9_rows_176 rfl (lv_at hl 3 rfl) ?_
                      refine g_9_1 X hK hW flRX9_7 dX9_rows_177 ?_
                      refine lv_iload hx hb dX9_rows_180 (lv_at hl 1 rfl) ?_
                      refine al_21 X hK hW b90 dX9_rows_182 ?_
                      refine lv_iconst (v := 5) hx hb dX9_rows_183 (by decide) ?_
                      refine lv_icmp_ne (tgt := 205) hx hb dX9_rows_184 (by decide) (fun c113 => ?_) (fun c113 => ?_)
                      · rw [if_neg c113] at hf
                        refine lv_iconst (v := 0) hx hb dX9_rows_205 (by decide) ?_
                        refine lv_istore (lv' := [(9, .int 0), (8, .int (N 49 0 ((6 * x1) + x5).toNatClampNeg)), (7, .int (N 50 0 ((6 * x1) + x4).toNatClampNeg)), (6, .int 0), (0, .ref (ad 20 0)), (1, .int x1), (2, .int x2), (3, .int x3), (4, .int x4), (5, .int x5)]) hx hb dX9_rows_206 hl (by decide) rfl (fun ls hl => ?_)
                        refine lv_iload hx hb dX9_rows_208 (lv_at hl 0 rfl) ?_
                        refine lv_if_ne (tgt := 221) hx hb dX9_rows_210 (by decide) (fun c114 => ?_) (fun c114 => ?_)
                        · exact absurd c114 (by decide)
                        · skip
                          refine lv_aload_n hx hb dX9_rows_213 rfl (lv_at hl 4 rfl) ?_
                          refine lv_iconst (v := 3) hx hb dX9_rows_214 (by decide) ?_
                          obtain ⟨N116, h115, hf⟩ := ob1_some hf
                          refine k_yX9_bad X hK hZ hW hS hl.1 h115 mlRX9_245 ⟨Nat.le_of_ble_eq_true rfl, Nat.le_of_ble_eq_true rfl⟩ ⟨Nat.le_of_ble_eq_true rfl, Nat.le_of_ble_eq_true rfl⟩ (Nat.le_of_ble_eq_true rfl) dX9_rows_215 (fun H locs hW hS => ?_)
                          refine lv_goto (tgt := 456) hx hb dX9_rows_218 (by decide) ?_
                          obtain rfl := sp1 hf
                          exact e_v ⟨hx, hb, hr, hlk⟩ hW hS dX9_rows_456
                      · rw [if_pos c113] at hf
                        refine lv_goto (tgt := 201) hx hb dX9_rows_187 (by decide) ?_
                        refine lv_iconst (v := 1) hx hb dX9_rows_201 (by decide) ?_
                        refine lv_goto (tgt := 206) hx hb dX9_rows_202 (by decide) ?_
                        refine lv_istore (lv' := [(9, .int 1), (8, .int (N 49 0 ((6 * x1) + x5).toNatClampNeg)), (7, .int (N 50 0 ((6 * x1) + x4).toNatClampNeg)), (6, .int 0), (0, .ref (ad 20 0)), (1, .int x1), (2, .int x2), (3, .int x3), (4, .int x4), (5, .int x5)]) hx hb dX9_rows_206 hl (by decide) rfl (fun ls hl => ?_)
                        refine lv_iload hx hb dX9_rows_208 (lv_at hl 0 rfl) ?_
                        refine lv_if_ne (tgt := 221) hx hb dX9_rows_210 (by decide) (fun c117 => ?_) (fun c117 => ?_)
                        · skip
                          refine lv_iload hx hb dX9_rows_221 (lv_at hl 2 rfl) ?_
                          refine lv_bipush (v := -4) hx hb dX9_rows_223 (by decide) ?_
                          refine lv_icmp_ne (tgt := 236) hx hb dX9_rows_225 (by decide) (fun c118 => ?_) (fun c118 => ?_)
                          · skip
                            refine lv_iload_n hx hb dX9_rows_236 rfl (lv_at hl 6 rfl) ?_
                            refine lv_bipush (v := 16) hx hb dX9_rows_237 (by decide) ?_
                            refine lv_icmp_ne (tgt := 258) hx hb dX9_rows_239 (by decide) (fun c119 => ?_) (fun c119 => ?_)
                            · skip
                              refine lv_iload hx hb dX9_rows_258 (lv_at hl 1 rfl) ?_
                              refine lv_iconst (v := 0) hx hb dX9_rows_260 (by decide) ?_
                              refine lv_aload_n hx hb dX9_rows_261 rfl (lv_at hl 4 rfl) ?_
                              refine g_9_3 X hK hW flRX9_16 dX9_rows_262 ?_
                              refine lv_iload hx hb dX9_rows_265 (lv_at hl 2 rfl) ?_
                              refine al_23 X hK hW b90 dX9_rows_267 ?_
                              refine lv_iconst (v := 1) hx hb dX9_rows_268 (by decide) ?_
                              refine lv_isub hx hb dX9_rows_269 ?_
                              obtain ⟨r121, h120, hf⟩ := ob1_some hf
                              refine k_yX9_in X hK hZ hW hS hl.1 h120 mlRX9_114 ⟨Nat.le_of_ble_eq_true rfl, Nat.le_of_ble_eq_true rfl⟩ ⟨Nat.le_of_ble_eq_true rfl, Nat.le_of_ble_eq_true rfl⟩ (Nat.le_of_ble_eq_true rfl) dX9_rows_270 (fun H locs hW hS => ?_)
                              refine lv_if_ne (tgt := 284) hx hb dX9_rows_273 (by decide) (fun c122 => ?_) (fun c122 => ?_)
                              · rw [if_neg c122] at hf
                                refine lv_iload_n hx hb dX9_rows_284 rfl (lv_at hl 6 rfl) ?_
                                refine lv_bipush (v := 17) hx hb dX9_rows_285 (by decide) ?_
                                refine lv_icmp_ne (tgt := 312) hx hb dX9_rows_287 (by decide) (fun c123 => ?_) (fun c123 => ?_)
                                · rw [if_neg c123] at hf
                                  refine lv_iload_n hx hb dX9_rows_312 rfl (lv_at hl 6 rfl) ?_
                                  refine lv_bipush (v := 19) hx hb dX9_rows_313 (by decide) ?_
                                  refine lv_icmp_ne (tgt := 340) hx hb dX9_rows_315 (by decide) (fun c124 => ?_) (fun c124 => ?_)
                                  · skip
                                    refine lv_iload_n hx hb dX9_rows_340 rfl (lv_at hl 6 rfl) ?_
                                    refine lv_bipush (v := 18) hx hb dX9_rows_341 (by decide) ?_
                                    refine lv_icmp_ne (tgt := 395) hx hb dX9_rows_343 (by decide) (fun c125 => ?_) (fun c125 => ?_)
                                    · skip
                                      refine lv_aload_n hx hb dX9_rows_395 rfl (lv_at hl 4 rfl) ?_
                                      refine lv_aload_n hx hb dX9_rows_396 rfl (lv_at hl 4 rfl) ?_
                                      refine g_9_1 X hK hW flRX9_7 dX9_rows_397 ?_
                                      refine lv_iload hx hb dX9_rows_400 (lv_at hl 2 rfl) ?_
                                      refine al_21 X hK hW b90 dX9_rows_402 ?_
                                      refine lv_bipush (v := 6) hx hb dX9_rows_403 (by decide) ?_
                                      refine lv_aload_n hx hb dX9_rows_405 rfl (lv_at hl 4 rfl) ?_
                                      refine g_9_31 X hK hW flRX9_98 dX9_rows_406 ?_
                                      refine lv_bipush (v := 6) hx hb dX9_rows_409 (by decide) ?_
                                      refine lv_iload_n hx hb dX9_rows_411 rfl (lv_at hl 5 rfl) ?_
                                      refine lv_imul hx hb dX9_rows_412 ?_
                                      refine lv_iload hx hb dX9_rows_413 (lv_at hl 9 rfl) ?_
                                      refine lv_iadd hx hb dX9_rows_415 ?_
                                      refine al_50 X hK hW b56 dX9_rows_416 ?_
                                      obtain ⟨r127, h126, hf⟩ := ob1_some hf
                                      refine k_yX9_fits X hK hZ hW hS hl.1 h126 mlRX9_251 ⟨Nat.le_of_ble_eq_true rfl, Nat.le_of_ble_eq_true rfl⟩ ⟨Nat.le_of_ble_eq_true rfl, Nat.le_of_ble_eq_true rfl⟩ (Nat.le_of_ble_eq_true rfl) dX9_rows_417 (fun H locs hW hS => ?_)
                                      refine lv_if_ne (tgt := 431) hx hb dX9_rows_420 (by decide) (fun c128 => ?_) (fun c128 => ?_)
                                      · rw [if_neg c128] at hf
                                        refine lv_aload_n hx hb dX9_rows_431 rfl (lv_at hl 4 rfl) ?_
                                        refine g_9_4 X hK hW flRX9_19 dX9_rows_432 ?_
                                        refine lv_bipush (v := 12) hx hb dX9_rows_435 (by decide) ?_
                                        refine lv_iload hx hb dX9_rows_437 (lv_at hl 2 rfl) ?_
                                        refine lv_imul hx hb dX9_rows_439 ?_
                                        refine lv_iload hx hb dX9_rows_440 (lv_at hl 1 rfl) ?_
                                        refine lv_iadd hx hb dX9_rows_442 ?_
                                        refine lv_aload_n hx hb dX9_rows_443 rfl (lv_at hl 4 rfl) ?_
                                        refine g_9_31 X hK hW flRX9_98 dX9_rows_444 ?_
                                        refine lv_bipush (v := 6) hx hb dX9_rows_447 (by decide) ?_
                                        refine lv_iload_n hx hb dX9_rows_449 rfl (lv_at hl 5 rfl) ?_
                                        refine lv_imul hx hb dX9_rows_450 ?_
                                        refine lv_iload hx hb dX9_rows_451 (lv_at hl 9 rfl) ?_
                                        refine lv_iadd hx hb dX9_rows_453 ?_
                                        refine al_50 X hK hW b56 dX9_rows_454 ?_
                                        obtain ⟨b129, hf⟩ := gd_some hf
                                        obtain ⟨N130, hN130, hf⟩ := lt1_some hf
                                        refine as_24 X hK hW hS b129 hN130 dX9_rows_455 (fun H locs hW hS => ?_)
                                        obtain rfl := sp1 hf
                                        exact e_v ⟨hx, hb, hr, hlk⟩ hW hS dX9_rows_456
                                      · rw [if_pos c128] at hf
                                        refine lv_aload_n hx hb dX9_rows_423 rfl (lv_at hl 4 rfl) ?_
                                        refine lv_iconst (v := 4) hx hb dX9_rows_424 (by decide) ?_
                                        obtain ⟨N132, h131, hf⟩ := ob1_some hf
                                        refine k_yX9_bad X hK hZ hW hS hl.1 h131 mlRX9_245 ⟨Nat.le_of_ble_eq_true rfl, Nat.le_of_ble_eq_true rfl⟩ ⟨Nat.le_of_ble_eq_true rfl, Nat.le_of_ble_eq_true rfl⟩ (Nat.le_of_ble_eq_true rfl) dX9_rows_425 (fun H locs hW hS => ?_)
                                        refine lv_goto (tgt := 456) hx hb dX9_rows_428 (by decide) ?_
                                        obtain rfl := sp1 hf
                                        exact e_v ⟨hx, hb, hr, hlk⟩ hW hS dX9_rows_456
                                    · exfalso; have := q_ne (b := 21) (by decide) c1; have := q_ne (b := 18) (by decide) c2; have := q_ne (b := 20) (by decide) c51; have := q_ne (b := 16) (by decide) c54; have := q_nge (b := 19) (by decide) c63; have := q_ne (b := 17) (by decide) c123; have := q_eq (b := 18) (by decide) c125; omega
                                  · exfalso; have := q_ne (b := 21) (by decide) c1; have := q_ne (b := 18) (by decide) c2; have := q_ne (b := 20) (by decide) c51; have := q_ne (b := 16) (by decide) c54; have := q_nge (b := 19) (by decide) c63; have := q_ne (b := 17) (by decide) c123; have := q_eq (b := 19) (by decide) c124; omega
                                · rw [if_pos c123] at hf
                                  refine lv_aload_n hx hb dX9_rows_290 rfl (lv_at hl 4 rfl) ?_
                                  refine g_9_30 X hK hW flRX9_95 dX9_rows_291 ?_
                                  refine lv_iload_n hx hb dX9_rows_294 rfl (lv_at hl 7 rfl) ?_
                                  refine lv_aload_n hx hb dX9_rows_295 rfl (lv_at hl 4 rfl) ?_
                                  refine g_9_4 X hK hW flRX9_19 dX9_rows_296 ?_
                                  refine lv_bipush (v := 12) hx hb dX9_rows_299 (by decide) ?_
                                  refine lv_iload hx hb dX9_rows_301 (lv_at hl 2 rfl) ?_
                                  refine lv_imul hx hb dX9_rows_303 ?_
                                  refine lv_iload hx hb dX9_rows_304 (lv_at hl 1 rfl) ?_
                                  refine lv_iadd hx hb dX9_rows_306 ?_
                                  obtain ⟨b133, hf⟩ := gd_some hf
                                  refine al_24 X hK hW b133 dX9_rows_307 ?_
                                  obtain ⟨b134, hf⟩ := gd_some hf
                                  obtain ⟨N135, hN135, hf⟩ := lt1_some hf
                                  refine as_49 X hK hW hS b134 hN135 dX9_rows_308 (fun H locs hW hS => ?_)
                                  refine lv_goto (tgt := 456) hx hb dX9_rows_309 (by decide) ?_
                                  obtain rfl := sp1 hf
                                  exact e_v ⟨hx, hb, hr, hlk⟩ hW hS dX9_rows_456
                              · rw [if_pos c122] at hf
                                refine lv_aload_n hx hb dX9_rows_276 rfl (lv_at hl 4 rfl) ?_
                                refine lv_iconst (v := 2) hx hb dX9_rows_277 (by decide) ?_
                                obtain ⟨N137, h136, hf⟩ := ob1_some hf
                                refine k_yX9_bad X hK hZ hW hS hl.1 h136 mlRX9_245 ⟨Nat.le_of_ble_eq_true rfl, Nat.le_of_ble_eq_true rfl⟩ ⟨Nat.le_of_ble_eq_true rfl, Nat.le_of_ble_eq_true rfl⟩ (Nat.le_of_ble_eq_true rfl) dX9_rows_278 (fun H locs hW hS => ?_)
                                refine lv_goto (tgt := 456) hx hb dX9_rows_281 (by decide) ?_
                                obtain rfl := sp1 hf
                                exact e_v ⟨hx, hb, hr, hlk⟩ hW hS dX9_rows_456
                            · exfalso; have := q_ne (b := 21) (by decide) c1; have := q_ne (b := 18) (by decide) c2; have := q_ne (b := 20) (by decide) c51; have := q_ne (b := 16) (by decide) c54; have := q_nge (b := 19) (by decide) c63; have := q_eq (b := 16) (by decide) c119; omega
                          · exfalso; have := q_ne (b := -4) (by decide) c57; have := q_eq (b := -4) (by decide) c118; omega
                        · exact absurd c117 (by decide)
                · exfalso; have := q_ne (b := 21) (by decide) c1; have := q_ne (b := 18) (by decide) c2; have := q_ne (b := 20) (by decide) c51; have := q_ne (b := 16) (by decide) c54; have := q_eq (b := 16) (by decide) c62; omega
            · exact absurd c55 (by decide)
          · rw [if_pos c54] at hf
            refine lv_iconst (v := 0) hx hb dX9_rows_94 (by decide) ?_
            refine lv_goto (tgt := 130) hx hb dX9_rows_95 (by decide) ?_
            refine lv_istore (lv' := [(8, .int 0), (7, .int (N 50 0 ((6 * x1) + x4).toNatClampNeg)), (6, .int 0), (0, .ref (ad 20 0)), (1, .int x1), (2, .int x2), (3, .int x3), (4, .int x4), (5, .int x5)]) hx hb dX9_rows_130 hl (by decide) rfl (fun ls hl => ?_)
            refine lv_iload hx hb dX9_rows_132 (lv_at hl 1 rfl) ?_
            refine lv_bipush (v := -4) hx hb dX9_rows_134 (by decide) ?_
            refine lv_icmp_eq (tgt := 201) hx hb dX9_rows_136 (by decide) (fun c138 => ?_) (fun c138 => ?_)
            · rw [if_pos c138] at hf
              refine lv_iconst (v := 1) hx hb dX9_rows_201 (by decide) ?_
              refine lv_goto (tgt := 206) hx hb dX9_rows_202 (by decide) ?_
              refine lv_istore (lv' := [(9, .int 1), (8, .int 0), (7, .int (N 50 0 ((6 * x1) + x4).toNatClampNeg)), (6, .int 0), (0, .ref (ad 20 0)), (1, .int x1), (2, .int x2), (3, .int x3), (4, .int x4), (5, .int x5)]) hx hb dX9_rows_206 hl (by decide) rfl (fun ls hl => ?_)
              refine lv_iload hx hb dX9_rows_208 (lv_at hl 0 rfl) ?_
              refine lv_if_ne (tgt := 221) hx hb dX9_rows_210 (by decide) (fun c139 => ?_) (fun c139 => ?_)
              · skip
                refine lv_iload hx hb dX9_rows_221 (lv_at hl 2 rfl) ?_
                refine lv_bipush (v := -4) hx hb dX9_rows_223 (by decide) ?_
                refine lv_icmp_ne (tgt := 236) hx hb dX9_rows_225 (by decide) (fun c140 => ?_) (fun c140 => ?_)
                · exfalso; have := q_eq (b := -4) (by decide) c138; have := q_ne (b := -4) (by decide) c140; omega
                · skip
                  refine lv_aload_n hx hb dX9_rows_228 rfl (lv_at hl 4 rfl) ?_
                  refine lv_iconst (v := 1) hx hb dX9_rows_229 (by decide) ?_
                  obtain ⟨N142, h141, hf⟩ := ob1_some hf
                  refine k_yX9_bad X hK hZ hW hS hl.1 h141 mlRX9_245 ⟨Nat.le_of_ble_eq_true rfl, Nat.le_of_ble_eq_true rfl⟩ ⟨Nat.le_of_ble_eq_true rfl, Nat.le_of_ble_eq_true rfl⟩ (Nat.le_of_ble_eq_true rfl) dX9_rows_230 (fun H locs hW hS => ?_)
                  refine lv_goto (tgt := 456) hx hb dX9_rows_233 (by decide) ?_
                  obtain rfl := sp1 hf
                  exact e_v ⟨hx, hb, hr, hlk⟩ hW hS dX9_rows_456
              · exact absurd c139 (by decide)
            · rw [if_neg c138] at hf
              refine lv_iload_n hx hb dX9_rows_139 rfl (lv_at hl 5 rfl) ?_
              refine lv_bipush (v := 16) hx hb dX9_rows_140 (by decide) ?_
              refine lv_icmp_ne (tgt := 159) hx hb dX9_rows_142 (by decide) (fun c143 => ?_) (fun c143 => ?_)
              · exfalso; have := q_ne (b := 21) (by decide) c1; have := q_ne (b := 18) (by decide) c2; have := q_ne (b := 20) (by decide) c51; have := q_eq (b := 16) (by decide) c54; have := q_ne (b := 16) (by decide) c143; omega
              · skip
                refine lv_aload_n hx hb dX9_rows_145 rfl (lv_at hl 3 rfl) ?_
                refine g_9_1 X hK hW flRX9_7 dX9_rows_146 ?_
                refine lv_iload hx hb dX9_rows_149 (lv_at hl 1 rfl) ?_
                obtain ⟨b144, hf⟩ := gd_some hf
                refine al_21 X hK hW b144 dX9_rows_151 ?_
                refine lv_iconst (v := 3) hx hb dX9_rows_152 (by decide) ?_
                refine lv_icmp_le (tgt := 205) hx hb dX9_rows_153 (by decide) (fun c145 => ?_) (fun c145 => ?_)
                · rw [if_pos c145] at hf
                  refine lv_iconst (v := 0) hx hb dX9_rows_205 (by decide) ?_
                  refine lv_istore (lv' := [(9, .int 0), (8, .int 0), (7, .int (N 50 0 ((6 * x1) + x4).toNatClampNeg)), (6, .int 0), (0, .ref (ad 20 0)), (1, .int x1), (2, .int x2), (3, .int x3), (4, .int x4), (5, .int x5)]) hx hb dX9_rows_206 hl (by decide) rfl (fun ls hl => ?_)
                  refine lv_iload hx hb dX9_rows_208 (lv_at hl 0 rfl) ?_
                  refine lv_if_ne (tgt := 221) hx hb dX9_rows_210 (by decide) (fun c146 => ?_) (fun c146 => ?_)
                  · exact absurd c146 (by decide)
                  · skip
                    refine lv_aload_n hx hb dX9_rows_213 rfl (lv_at hl 4 rfl) ?_
                    refine lv_iconst (v := 3) hx hb dX9_rows_214 (by decide) ?_
                    obtain ⟨N148, h147, hf⟩ := ob1_some hf
                    refine k_yX9_bad X hK hZ hW hS hl.1 h147 mlRX9_245 ⟨Nat.le_of_ble_eq_true rfl, Nat.le_of_ble_eq_true rfl⟩ ⟨Nat.le_of_ble_eq_true rfl, Nat.le_of_ble_eq_true rfl⟩ (Nat.le_of_ble_eq_true rfl) dX9_rows_215 (fun H locs hW hS => ?_)
                    refine lv_goto (tgt := 456) hx hb dX9_rows_218 (by decide) ?_
                    obtain rfl := sp1 hf
                    exact e_v ⟨hx, hb, hr, hlk⟩ hW hS dX9_rows_456
                · rw [if_neg c145] at hf
                  refine lv_goto (tgt := 201) hx hb dX9_rows_156 (by decide) ?_
                  refine lv_iconst (v := 1) hx hb dX9_rows_201 (by decide) ?_
                  refine lv_goto (tgt := 206) hx hb dX9_rows_202 (by decide) ?_
                  refine lv_istore (lv' := [(9, .int 1), (8, .int 0), (7, .int (N 50 0 ((6 * x1) + x4).toNatClampNeg)), (6, .int 0), (0, .ref (ad 20 0)), (1, .int x1), (2, .int x2), (3, .int x3), (4, .int x4), (5, .int x5)]) hx hb dX9_rows_206 hl (by decide) rfl (fun ls hl => ?_)
                  refine lv_iload hx hb dX9_rows_208 (lv_at hl 0 rfl) ?_
                  refine lv_if_ne (tgt := 221) hx hb dX9_rows_210 (by decide) (fun c149 => ?_) (fun c149 => ?_)
                  · skip
                    refine lv_iload hx hb dX9_rows_221 (lv_at hl 2 rfl) ?_
                    refine lv_bipush (v := -4) hx hb dX9_rows_223 (by decide) ?_
                    refine lv_icmp_ne (tgt := 236) hx hb dX9_rows_225 (by decide) (fun c150 => ?_) (fun c150 => ?_)
                    · skip
                      refine lv_iload_n hx hb dX9_rows_236 rfl (lv_at hl 6 rfl) ?_
                      refine lv_bipush (v := 16) hx hb dX9_rows_237 (by decide) ?_
                      refine lv_icmp_ne (tgt := 258) hx hb dX9_rows_239 (by decide) (fun c151 => ?_) (fun c151 => ?_)
                      · exfalso; have := q_ne (b := 21) (by decide) c1; have := q_ne (b := 18) (by decide) c2; have := q_ne (b := 20) (by decide) c51; have := q_eq (b := 16) (by decide) c54; have := q_ne (b := 16) (by decide) c151; omega
                      · skip
                        refine lv_aload_n hx hb dX9_rows_242 rfl (lv_at hl 4 rfl) ?_
                        refine g_9_30 X hK hW flRX9_95 dX9_rows_243 ?_
                        refine lv_iload_n hx hb dX9_rows_246 rfl (lv_at hl 7 rfl) ?_
                        refine lv_aload_n hx hb dX9_rows_247 rfl (lv_at hl 4 rfl) ?_
                        refine g_9_3 X hK hW flRX9_16 dX9_rows_248 ?_
                        refine lv_iload hx hb dX9_rows_251 (lv_at hl 2 rfl) ?_
                        refine al_23 X hK hW b144 dX9_rows_253 ?_
                        obtain ⟨b152, hf⟩ := gd_some hf
                        obtain ⟨N153, hN153, hf⟩ := lt1_some hf
                        refine as_49 X hK hW hS b152 hN153 dX9_rows_254 (fun H locs hW hS => ?_)
                        refine lv_goto (tgt := 456) hx hb dX9_rows_255 (by decide) ?_
                        obtain rfl := sp1 hf
                        exact e_v ⟨hx, hb, hr, hlk⟩ hW hS dX9_rows_456
                    · exfalso; have := q_ne (b := -4) (by decide) c138; have := q_eq (b := -4) (by decide) c150; omega
                  · exact absurd c149 (by decide)
        · exact absurd c52 (by decide)
      · rw [if_pos c51] at hf
        refine lv_iconst (v := 1) hx hb dX9_rows_53 (by decide) ?_
        refine lv_goto (tgt := 58) hx hb dX9_rows_54 (by decide) ?_
        refine lv_istore (lv' := [(6, .int 1), (0, .ref (ad 20 0)), (1, .int x1), (2, .int x2), (3, .int x3), (4, .int x4), (5, .int x5)]) hx hb dX9_rows_58 hl (by decide) rfl (fun ls hl => ?_)
        refine lv_iload hx hb dX9_rows_60 (lv_at hl 0 rfl) ?_
        refine lv_if_eq (tgt := 74) hx hb dX9_rows_62 (by decide) (fun c154 => ?_) (fun c154 => ?_)
        · exact absurd c154 (by decide)
        · skip
          refine lv_aload_n hx hb dX9_rows_65 rfl (lv_at hl 1 rfl) ?_
          refine g_9_31 X hK hW flRX9_98 dX9_rows_66 ?_
          refine lv_iload_n hx hb dX9_rows_69 rfl (lv_at hl 4 rfl) ?_
          obtain ⟨b155, hf⟩ := gd_some hf
          refine al_50 X hK hW b155 dX9_rows_70 ?_
          refine lv_goto (tgt := 86) hx hb dX9_rows_71 (by decide) ?_
          refine lv_istore (lv' := [(7, .int (N 50 0 x3.toNatClampNeg)), (6, .int 1), (0, .ref (ad 20 0)), (1, .int x1), (2, .int x2), (3, .int x3), (4, .int x4), (5, .int x5)]) hx hb dX9_rows_86 hl (by decide) rfl (fun ls hl => ?_)
          refine lv_iload_n hx hb dX9_rows_88 rfl (lv_at hl 4 rfl) ?_
          refine lv_bipush (v := 16) hx hb dX9_rows_89 (by decide) ?_
          refine lv_icmp_ne (tgt := 98) hx hb dX9_rows_91 (by decide) (fun c156 => ?_) (fun c156 => ?_)
          · skip
            refine lv_iload hx hb dX9_rows_98 (lv_at hl 1 rfl) ?_
            refine lv_if_eq (tgt := 118) hx hb dX9_rows_100 (by decide) (fun c157 => ?_) (fun c157 => ?_)
            · exact absurd c157 (by decide)
            · skip
              refine lv_aload_n hx hb dX9_rows_103 rfl (lv_at hl 2 rfl) ?_
              refine g_9_30 X hK hW flRX9_95 dX9_rows_104 ?_
              refine lv_bipush (v := 6) hx hb dX9_rows_107 (by decide) ?_
              refine lv_iload_n hx hb dX9_rows_109 rfl (lv_at hl 3 rfl) ?_
              refine lv_imul hx hb dX9_rows_110 ?_
              refine lv_iload hx hb dX9_rows_111 (lv_at hl 6 rfl) ?_
              refine lv_iadd hx hb dX9_rows_113 ?_
              obtain ⟨b158, hf⟩ := gd_some hf
              refine al_49 X hK hW b158 dX9_rows_114 ?_
              refine lv_goto (tgt := 130) hx hb dX9_rows_115 (by decide) ?_
              refine lv_istore (lv' := [(8, .int (N 49 0 ((6 * x1) + x4).toNatClampNeg)), (7, .int (N 50 0 x3.toNatClampNeg)), (6, .int 1), (0, .ref (ad 20 0)), (1, .int x1), (2, .int x2), (3, .int x3), (4, .int x4), (5, .int x5)]) hx hb dX9_rows_130 hl (by decide) rfl (fun ls hl => ?_)
              refine lv_iload hx hb dX9_rows_132 (lv_at hl 1 rfl) ?_
              refine lv_bipush (v := -4) hx hb dX9_rows_134 (by decide) ?_
              refine lv_icmp_eq (tgt := 201) hx hb dX9_rows_136 (by decide) (fun c159 => ?_) (fun c159 => ?_)
              · rw [if_pos c159] at hf
                refine lv_iconst (v := 1) hx hb dX9_rows_201 (by decide) ?_
                refine lv_goto (tgt := 206) hx hb dX9_rows_202 (by decide) ?_
                refine lv_istore (lv' := [(9, .int 1), (8, .int (N 49 0 ((6 * x1) + x4).toNatClampNeg)), (7, .int (N 50 0 x3.toNatClampNeg)), (6, .int 1), (0, .ref (ad 20 0)), (1, .int x1), (2, .int x2), (3, .int x3), (4, .int x4), (5, .int x5)]) hx hb dX9_rows_206 hl (by decide) rfl (fun ls hl => ?_)
                refine lv_iload hx hb dX9_rows_208 (lv_at hl 0 rfl) ?_
                refine lv_if_ne (tgt := 221) hx hb dX9_rows_210 (by decide) (fun c160 => ?_) (fun c160 => ?_)
                · skip
                  refine lv_iload hx hb dX9_rows_221 (lv_at hl 2 rfl) ?_
                  refine lv_bipush (v := -4) hx hb dX9_rows_223 (by decide) ?_
                  refine lv_icmp_ne (tgt := 236) hx hb dX9_rows_225 (by decide) (fun c161 => ?_) (fun c161 => ?_)
                  · exfalso; have := q_eq (b := -4) (by decide) c159; have := q_ne (b := -4) (by decide) c161; omega
                  · skip
                    refine lv_aload_n hx hb dX9_rows_228 rfl (lv_at hl 4 rfl) ?_
                    refine lv_iconst (v := 1) hx hb dX9_rows_229 (by decide) ?_
                    obtain ⟨N163, h162, hf⟩ := ob1_some hf
                    refine k_yX9_bad X hK hZ hW hS hl.1 h162 mlRX9_245 ⟨Nat.le_of_ble_eq_true rfl, Nat.le_of_ble_eq_true rfl⟩ ⟨Nat.le_of_ble_eq_true rfl, Nat.le_of_ble_eq_true rfl⟩ (Nat.le_of_ble_eq_true rfl) dX9_rows_230 (fun H locs hW hS => ?_)
                    refine lv_goto (tgt := 456) hx hb dX9_rows_233 (by decide) ?_
                    obtain rfl := sp1 hf
                    exact e_v ⟨hx, hb, hr, hlk⟩ hW hS dX9_rows_456
                · exact absurd c160 (by decide)
              · rw [if_neg c159] at hf
                refine lv_iload_n hx hb dX9_rows_139 rfl (lv_at hl 5 rfl) ?_
                refine lv_bipush (v := 16) hx hb dX9_rows_140 (by decide) ?_
                refine lv_icmp_ne (tgt := 159) hx hb dX9_rows_142 (by decide) (fun c164 => ?_) (fun c164 => ?_)
                · skip
                  refine lv_iload_n hx hb dX9_rows_159 rfl (lv_at hl 5 rfl) ?_
                  refine lv_bipush (v := 19) hx hb dX9_rows_160 (by decide) ?_
                  refine lv_icmp_ge (tgt := 190) hx hb dX9_rows_162 (by decide) (fun c165 => ?_) (fun c165 => ?_)
                  · skip
                    refine lv_aload_n hx hb dX9_rows_190 rfl (lv_at hl 3 rfl) ?_
                    refine g_9_1 X hK hW flRX9_7 dX9_rows_191 ?_
                    refine lv_iload hx hb dX9_rows_194 (lv_at hl 1 rfl) ?_
                    obtain ⟨b166, hf⟩ := gd_some hf
                    refine al_21 X hK hW b166 dX9_rows_196 ?_
                    refine lv_iconst (v := 5) hx hb dX9_rows_197 (by decide) ?_
                    refine lv_icmp_le (tgt := 205) hx hb dX9_rows_198 (by decide) (fun c167 => ?_) (fun c167 => ?_)
                    · rw [if_pos c167] at hf
                      refine lv_iconst (v := 0) hx hb dX9_rows_205 (by decide) ?_
                      refine lv_istore (lv' := [(9, .int 0), (8, .int (N 49 0 ((6 * x1) + x4).toNatClampNeg)), (7, .int (N 50 0 x3.toNatClampNeg)), (6, .int 1), (0, .ref (ad 20 0)), (1, .int x1), (2, .int x2), (3, .int x3), (4, .int x4), (5, .int x5)]) hx hb dX9_rows_206 hl (by decide) rfl (fun ls hl => ?_)
                      refine lv_iload hx hb dX9_rows_208 (lv_at hl 0 rfl) ?_
                      refine lv_if_ne (tgt := 221) hx hb dX9_rows_210 (by decide) (fun c168 => ?_) (fun c168 => ?_)
                      · exact absurd c168 (by decide)
                      · skip
                        refine lv_aload_n hx hb dX9_rows_213 rfl (lv_at hl 4 rfl) ?_
                        refine lv_iconst (v := 3) hx hb dX9_rows_214 (by decide) ?_
                        obtain ⟨N170, h169, hf⟩ := ob1_some hf
                        refine k_yX9_bad X hK hZ hW hS hl.1 h169 mlRX9_245 ⟨Nat.le_of_ble_eq_true rfl, Nat.le_of_ble_eq_true rfl⟩ ⟨Nat.le_of_ble_eq_true rfl, Nat.le_of_ble_eq_true rfl⟩ (Nat.le_of_ble_eq_true rfl) dX9_rows_215 (fun H locs hW hS => ?_)
                        refine lv_goto (tgt := 456) hx hb dX9_rows_218 (by decide) ?_
                        obtain rfl := sp1 hf
                        exact e_v ⟨hx, hb, hr, hlk⟩ hW hS dX9_rows_456
                    · rw [if_neg c167] at hf
                      refine lv_iconst (v := 1) hx hb dX9_rows_201 (by decide) ?_
                      refine lv_goto (tgt := 206) hx hb dX9_rows_202 (by decide) ?_
                      refine lv_istore (lv' := [(9, .int 1), (8, .int (N 49 0 ((6 * x1) + x4).toNatClampNeg)), (7, .int (N 50 0 x3.toNatClampNeg)), (6, .int 1), (0, .ref (ad 20 0)), (1, .int x1), (2, .int x2), (3, .int x3), (4, .int x4), (5, .int x5)]) hx hb dX9_rows_206 hl (by decide) rfl (fun ls hl => ?_)
                      refine lv_iload hx hb dX9_rows_208 (lv_at hl 0 rfl) ?_
                      refine lv_if_ne (tgt := 221) hx hb dX9_rows_210 (by decide) (fun c171 => ?_) (fun c171 => ?_)
                      · skip
                        refine lv_iload hx hb dX9_rows_221 (lv_at hl 2 rfl) ?_
                        refine lv_bipush (v := -4) hx hb dX9_rows_223 (by decide) ?_
                        refine lv_icmp_ne (tgt := 236) hx hb dX9_rows_225 (by decide) (fun c172 => ?_) (fun c172 => ?_)
                        · skip
                          refine lv_iload_n hx hb dX9_rows_236 rfl (lv_at hl 6 rfl) ?_
                          refine lv_bipush (v := 16) hx hb dX9_rows_237 (by decide) ?_
                          refine lv_icmp_ne (tgt := 258) hx hb dX9_rows_239 (by decide) (fun c173 => ?_) (fun c173 => ?_)
                          · skip
                            refine lv_iload hx hb dX9_rows_258 (lv_at hl 1 rfl) ?_
                            refine lv_iconst (v := 0) hx hb dX9_rows_260 (by decide) ?_
                            refine lv_aload_n hx hb dX9_rows_261 rfl (lv_at hl 4 rfl) ?_
                            refine g_9_3 X hK hW flRX9_16 dX9_rows_262 ?_
                            refine lv_iload hx hb dX9_rows_265 (lv_at hl 2 rfl) ?_
                            refine al_23 X hK hW b166 dX9_rows_267 ?_
                            refine lv_iconst (v := 1) hx hb dX9_rows_268 (by decide) ?_
                            refine lv_isub hx hb dX9_rows_269 ?_
                            obtain ⟨r175, h174, hf⟩ := ob1_some hf
                            refine k_yX9_in X hK hZ hW hS hl.1 h174 mlRX9_114 ⟨Nat.le_of_ble_eq_true rfl, Nat.le_of_ble_eq_true rfl⟩ ⟨Nat.le_of_ble_eq_true rfl, Nat.le_of_ble_eq_true rfl⟩ (Nat.le_of_ble_eq_true rfl) dX9_rows_270 (fun H locs hW hS => ?_)
                            refine lv_if_ne (tgt := 284) hx hb dX9_rows_273 (by decide) (fun c176 => ?_) (fun c176 => ?_)
                            · rw [if_neg c176] at hf
                              refine lv_iload_n hx hb dX9_rows_284 rfl (lv_at hl 6 rfl) ?_
                              refine lv_bipush (v := 17) hx hb dX9_rows_285 (by decide) ?_
                              refine lv_icmp_ne (tgt := 312) hx hb dX9_rows_287 (by decide) (fun c177 => ?_) (fun c177 => ?_)
                              · skip
                                refine lv_iload_n hx hb dX9_rows_312 rfl (lv_at hl 6 rfl) ?_
                                refine lv_bipush (v := 19) hx hb dX9_rows_313 (by decide) ?_
                                refine lv_icmp_ne (tgt := 340) hx hb dX9_rows_315 (by decide) (fun c178 => ?_) (fun c178 => ?_)
                                · skip
                                  refine lv_iload_n hx hb dX9_rows_340 rfl (lv_at hl 6 rfl) ?_
                                  refine lv_bipush (v := 18) hx hb dX9_rows_341 (by decide) ?_
                                  refine lv_icmp_ne (tgt := 395) hx hb dX9_rows_343 (by decide) (fun c179 => ?_) (fun c179 => ?_)
                                  · skip
                                    refine lv_aload_n hx hb dX9_rows_395 rfl (lv_at hl 4 rfl) ?_
                                    refine lv_aload_n hx hb dX9_rows_396 rfl (lv_at hl 4 rfl) ?_
                                    refine g_9_1 X hK hW flRX9_7 dX9_rows_397 ?_
                                    refine lv_iload hx hb dX9_rows_400 (lv_at hl 2 rfl) ?_
                                    refine al_21 X hK hW b166 dX9_rows_402 ?_
                                    refine lv_bipush (v := 6) hx hb dX9_rows_403 (by decide) ?_
                                    refine lv_aload_n hx hb dX9_rows_405 rfl (lv_at hl 4 rfl) ?_
                                    refine g_9_31 X hK hW flRX9_98 dX9_rows_406 ?_
                                    refine lv_bipush (v := 6) hx hb dX9_rows_409 (by decide) ?_
                                    refine lv_iload_n hx hb dX9_rows_411 rfl (lv_at hl 5 rfl) ?_
                                    refine lv_imul hx hb dX9_rows_412 ?_
                                    refine lv_iload hx hb dX9_rows_413 (lv_at hl 9 rfl) ?_
                                    refine lv_iadd hx hb dX9_rows_415 ?_
                                    obtain ⟨b180, hf⟩ := gd_some hf
                                    refine al_50 X hK hW b180 dX9_rows_416 ?_
                                    obtain ⟨r182, h181, hf⟩ := ob1_some hf
                                    refine k_yX9_fits X hK hZ hW hS hl.1 h181 mlRX9_251 ⟨Nat.le_of_ble_eq_true rfl, Nat.le_of_ble_eq_true rfl⟩ ⟨Nat.le_of_ble_eq_true rfl, Nat.le_of_ble_eq_true rfl⟩ (Nat.le_of_ble_eq_true rfl) dX9_rows_417 (fun H locs hW hS => ?_)
                                    refine lv_if_ne (tgt := 431) hx hb dX9_rows_420 (by decide) (fun c183 => ?_) (fun c183 => ?_)
                                    · rw [if_neg c183] at hf
                                      refine lv_aload_n hx hb dX9_rows_431 rfl (lv_at hl 4 rfl) ?_
                                      refine g_9_4 X hK hW flRX9_19 dX9_rows_432 ?_
                                      refine lv_bipush (v := 12) hx hb dX9_rows_435 (by decide) ?_
                                      refine lv_iload hx hb dX9_rows_437 (lv_at hl 2 rfl) ?_
                                      refine lv_imul hx hb dX9_rows_439 ?_
                                      refine lv_iload hx hb dX9_rows_440 (lv_at hl 1 rfl) ?_
                                      refine lv_iadd hx hb dX9_rows_442 ?_
                                      refine lv_aload_n hx hb dX9_rows_443 rfl (lv_at hl 4 rfl) ?_
                                      refine g_9_31 X hK hW flRX9_98 dX9_rows_444 ?_
                                      refine lv_bipush (v := 6) hx hb dX9_rows_447 (by decide) ?_
                                      refine lv_iload_n hx hb dX9_rows_449 rfl (lv_at hl 5 rfl) ?_
                                      refine lv_imul hx hb dX9_rows_450 ?_
                                      refine lv_iload hx hb dX9_rows_451 (lv_at hl 9 rfl) ?_
                                      refine lv_iadd hx hb dX9_rows_453 ?_
                                      refine al_50 X hK hW b180 dX9_rows_454 ?_
                                      obtain ⟨b184, hf⟩ := gd_some hf
                                      obtain ⟨N185, hN185, hf⟩ := lt1_some hf
                                      refine as_24 X hK hW hS b184 hN185 dX9_rows_455 (fun H locs hW hS => ?_)
                                      obtain rfl := sp1 hf
                                      exact e_v ⟨hx, hb, hr, hlk⟩ hW hS dX9_rows_456
                                    · rw [if_pos c183] at hf
                                      refine lv_aload_n hx hb dX9_rows_423 rfl (lv_at hl 4 rfl) ?_
                                      refine lv_iconst (v := 4) hx hb dX9_rows_424 (by decide) ?_
                                      obtain ⟨N187, h186, hf⟩ := ob1_some hf
                                      refine k_yX9_bad X hK hZ hW hS hl.1 h186 mlRX9_245 ⟨Nat.le_of_ble_eq_true rfl, Nat.le_of_ble_eq_true rfl⟩ ⟨Nat.le_of_ble_eq_true rfl, Nat.le_of_ble_eq_true rfl⟩ (Nat.le_of_ble_eq_true rfl) dX9_rows_425 (fun H locs hW hS => ?_)
                                      refine lv_goto (tgt := 456) hx hb dX9_rows_428 (by decide) ?_
                                      obtain rfl := sp1 hf
                                      exact e_v ⟨hx, hb, hr, hlk⟩ hW hS dX9_rows_456
                                  · exfalso; have := q_ne (b := 21) (by decide) c1; have := q_ne (b := 18) (by decide) c2; have := q_eq (b := 20) (by decide) c51; have := q_eq (b := 18) (by decide) c179; omega
                                · exfalso; have := q_ne (b := 21) (by decide) c1; have := q_ne (b := 18) (by decide) c2; have := q_eq (b := 20) (by decide) c51; have := q_eq (b := 19) (by decide) c178; omega
                              · exfalso; have := q_ne (b := 21) (by decide) c1; have := q_ne (b := 18) (by decide) c2; have := q_eq (b := 20) (by decide) c51; have := q_eq (b := 17) (by decide) c177; omega
                            · rw [if_pos c176] at hf
                              refine lv_aload_n hx hb dX9_rows_276 rfl (lv_at hl 4 rfl) ?_
                              refine lv_iconst (v := 2) hx hb dX9_rows_277 (by decide) ?_
                              obtain ⟨N189, h188, hf⟩ := ob1_some hf
                              refine k_yX9_bad X hK hZ hW hS hl.1 h188 mlRX9_245 ⟨Nat.le_of_ble_eq_true rfl, Nat.le_of_ble_eq_true rfl⟩ ⟨Nat.le_of_ble_eq_true rfl, Nat.le_of_ble_eq_true rfl⟩ (Nat.le_of_ble_eq_true rfl) dX9_rows_278 (fun H locs hW hS => ?_)
                              refine lv_goto (tgt := 456) hx hb dX9_rows_281 (by decide) ?_
                              obtain rfl := sp1 hf
                              exact e_v ⟨hx, hb, hr, hlk⟩ hW hS dX9_rows_456
                          · exfalso; have := q_ne (b := 21) (by decide) c1; have := q_ne (b := 18) (by decide) c2; have := q_eq (b := 20) (by decide) c51; have := q_eq (b := 16) (by decide) c173; omega
                        · exfalso; have := q_ne (b := -4) (by decide) c159; have := q_eq (b := -4) (by decide) c172; omega
                      · exact absurd c171 (by decide)
                  · exfalso; have := q_ne (b := 21) (by decide) c1; have := q_ne (b := 18) (by decide) c2; have := q_eq (b := 20) (by decide) c51; have := q_nge (b := 19) (by decide) c165; omega
                · exfalso; have := q_ne (b := 21) (by decide) c1; have := q_ne (b := 18) (by decide) c2; have := q_eq (b := 20) (by decide) c51; have := q_eq (b := 16) (by decide) c164; omega
          · exfalso; have := q_ne (b := 21) (by decide) c1; have := q_ne (b := 18) (by decide) c2; have := q_eq (b := 20) (by decide) c51; have := q_eq (b := 16) (by decide) c156; omega
  · rw [if_pos c1] at hf
    refine lv_aload_n hx hb dX9_rows_6 rfl (lv_at hl 0 rfl) ?_
    refine lv_aload_n hx hb dX9_rows_7 rfl (lv_at hl 0 rfl) ?_
    refine g_9_31 X hK hW flRX9_98 dX9_rows_8 ?_
    refine lv_iload_n hx hb dX9_rows_11 rfl (lv_at hl 3 rfl) ?_
    obtain ⟨b190, hf⟩ := gd_some hf
    refine al_50 X hK hW b190 dX9_rows_12 ?_
    refine lv_aload_n hx hb dX9_rows_13 rfl (lv_at hl 0 rfl) ?_
    refine g_9_31 X hK hW flRX9_98 dX9_rows_14 ?_
    refine lv_bipush (v := 6) hx hb dX9_rows_17 (by decide) ?_
    refine lv_iload_n hx hb dX9_rows_19 rfl (lv_at hl 1 rfl) ?_
    refine lv_imul hx hb dX9_rows_20 ?_
    refine lv_iload hx hb dX9_rows_21 (lv_at hl 4 rfl) ?_
    refine lv_iadd hx hb dX9_rows_23 ?_
    obtain ⟨b191, hf⟩ := gd_some hf
    refine al_50 X hK hW b191 dX9_rows_24 ?_
    refine lv_aload_n hx hb dX9_rows_25 rfl (lv_at hl 0 rfl) ?_
    refine g_9_30 X hK hW flRX9_95 dX9_rows_26 ?_
    refine lv_bipush (v := 6) hx hb dX9_rows_29 (by decide) ?_
    refine lv_iload_n hx hb dX9_rows_31 rfl (lv_at hl 1 rfl) ?_
    refine lv_imul hx hb dX9_rows_32 ?_
    refine lv_iload hx hb dX9_rows_33 (lv_at hl 5 rfl) ?_
    refine lv_iadd hx hb dX9_rows_35 ?_
    obtain ⟨b192, hf⟩ := gd_some hf
    refine al_49 X hK hW b192 dX9_rows_36 ?_
    obtain ⟨N194, h193, hf⟩ := ob1_some hf
    refine k_yX9_copies X hK hZ hW hS hl.1 h193 mlRX9_248 ⟨Nat.le_of_ble_eq_true rfl, Nat.le_of_ble_eq_true rfl⟩ ⟨Nat.le_of_ble_eq_true rfl, Nat.le_of_ble_eq_true rfl⟩ (Nat.le_of_ble_eq_true rfl) dX9_rows_37 (fun H locs hW hS => ?_)
    obtain rfl := sp1 hf
    exact e_v ⟨hx, hb, hr, hlk⟩ hW hS dX9_rows_40
set_option maxRecDepth 100000 in
set_option maxHeartbeats 4000000 in
theorem k_yX9_rows {p : Program} {l : Launch} {e : Env} {R : Room} {s : State} {m : MethodId} {args : Array Value} {below : List Frame} {meth : Method} {c : Code} {H : Heap} {locs : List Loc} {cells slots : Nat} {Q : State → Prop} {cc : ByteArray} {pc nL index : Nat} {ret : Option FieldType} {own : String} {ls : Array Slot} {rest : List Value} {E : Lay} {ad : Nat → Nat → Nat} {M N : Mem} (X : CX p s m args meth c cc nL ret own) (hK : KK E s) (hZ : ZZ E s) (hW : WD E ad (M, N) H) (hS : va_S (ow E) s.heap H locs) (hsz : ls.size = nL) {x1 : Int32} {x2 : Int32} {x3 : Int32} {x4 : Int32} {x5 : Int32} {Nr : Mem} (hf : f_yX9_rows N x1 x2 x3 x4 x5 = some Nr) (hn : Cond.methodLink own index yX9_rows ∈ TB) (hR : 4 + 1 ≤ R.frames ∧ 8 + (11 + 11) + 93 ≤ R.locals) (hC : cells ≤ R.cells ∧ slots ≤ R.slots) (h8 : (rest.map fun v => v.category).sum ≤ 8) (hdg : decode cc pc = .ok (.invokevirtual index, 3)) (kk : ∀ (H1 : Heap) (locs1 : List Loc), WD E ad (M, Nr) H1 → va_S (ow E) s.heap H1 locs1 → W p l e R s m args below meth c H1 locs1 cells slots Q (F0 m (pc + 3) ls (rest))) : W p l e R s m args below meth c H locs cells slots Q (F0 m pc ls (.int x5 :: .int x4 :: .int x3 :: .int x2 :: .int x1 :: .ref (ad 20 0) :: rest)) := by
  refine va_callv (va_runV (C := RX9) (As := [.int x1, .int x2, .int x3, .int x4, .int x5]) (rest := rest) ⟨X.1, X.2.1, X.2.2.1, X.2.2.2.1, X.2.2.2.2.1⟩ (c_yX9_rows l E ad M N x1 x2 x3 x4 x5 Nr hf) (cwV 5 X.2.2.2.2.1 (gV hn im_yX9_rows se_yX9_rows iniRX9 cd_yX9_rows) rfl rfl rfl (by decide +kernel) hR) ⟨fun a U g mk q => ⟨q.1, q.2.calling⟩, va_recv hK.1 (hW.at (c := 20) (i := 0) Nat.zero_lt_one rfl) (ci := 9) (q0 := 0) rfl rfl, fun U hU hw => ⟨rfl, PB.at hW hK hZ hS hU hw⟩⟩ rfl rfl hsz rfl (lv_room h8) hdg hC) hS (fun _ _ h => h) (fun _ h => h) (fun u t H1 locs1 ht hvm hw hB hz1 hk1 hS1 => ?_)
  subst hw
  rw [ht] at hB
  exact kk H1 locs1 hB hS1
def f_yX9_enters_L195 : Nat → Mem → Int32 → Int32 → Option Mem
  | 0, _, _, _ => none
  | n + 1, N0, y5, y6 => (if 6 ≤ y6 then (some N0) else gd (¬ (y6 < 0 ∨ 6 ≤ y6.toNatClampNeg)) ((if (N0 31 0 y6.toNatClampNeg) = 4 then (if (N0 39 0 y6.toNatClampNeg) = y5 then ob1 (f_yX9_isTold N0 y6) (fun N14 => (f_yX9_enters_L195 n N14 y5 (y6 + 1))) else (f_yX9_enters_L195 n N0 y5 (y6 + 1))) else (f_yX9_enters_L195 n N0 y5 (y6 + 1)))))
def f_yX9_enters (N : Mem) (x1 : Int32) (x2 : Int32) (x3 : Int32) (x4 : Int32) : Option Mem := gd (¬ (x3 < 0 ∨ 36 ≤ x3.toNatClampNeg)) ((if (N 50 0 x3.toNatClampNeg) = (-4) then ob1 (f_yX9_bad N 1) (fun N38 => (some N38)) else (if x2 = 22 then gd (¬ ((N 50 0 x3.toNatClampNeg) < 0 ∨ 32 ≤ (N 50 0 x3.toNatClampNeg).toNatClampNeg)) ((if (N 25 0 (N 50 0 x3.toNatClampNeg).toNatClampNeg) = x1 then lt1 (mp N 26 0 (N 50 0 x3.toNatClampNeg).toNatClampNeg ((N 26 0 (N 50 0 x3.toNatClampNeg).toNatClampNeg) + 1)) (fun N36 => (some N36)) else gd (¬ (x1 < 0 ∨ 6 ≤ x1.toNatClampNeg)) (lt1 (mp N 39 0 x1.toNatClampNeg (N 50 0 x3.toNatClampNeg)) (fun N32 => lt1 (mp N32 41 0 x1.toNatClampNeg 1) (fun N33 => ob1 (f_yX9_getIn N33 x1) (fun N35 => (some N35))))))) else gd (¬ ((N 50 0 x3.toNatClampNeg) < 0 ∨ 32 ≤ (N 50 0 x3.toNatClampNeg).toNatClampNeg)) ((if (N 25 0 (N 50 0 x3.toNatClampNeg).toNatClampNeg) = x1 then (if x2 = 23 then lt1 (mp N 26 0 (N 50 0 x3.toNatClampNeg).toNatClampNeg ((N 26 0 (N 50 0 x3.toNatClampNeg).toNatClampNeg) - 1)) (fun N23 => (if (N23 26 0 (N 50 0 x3.toNatClampNeg).toNatClampNeg) = 0 then ob1 (f_yX9_isLeft N23 (N 50 0 x3.toNatClampNeg)) (fun N26 => (some N26)) else (some N23))) else (if x2 = 24 then gd (¬ (((6 * x1) + x4) < 0 ∨ 36 ≤ ((6 * x1) + x4).toNatClampNeg)) (ob1 (f_yX9_waits N x1 (N 50 0 x3.toNatClampNeg) (N 49 0 ((6 * x1) + x4).toNatClampNeg)) (fun N22 => (some N22))) else (if x2 = 25 then ob1 (f_yX9_next N 4 (N 50 0 x3.toNatClampNeg)) (fun r16 => (if r16 = (-4) then (some N) else ob1 (f_yX9_isTold N r16) (fun N19 => (some N19)))) else (f_yX9_enters_L195 70 N (N 50 0 x3.toNatClampNeg) 0)))) else ob1 (f_yX9_bad N 8) (fun N28 => (some N28)))))))
set_option maxRecDepth 100000 in
set_option maxHeartbeats 4000000 in
theorem l_yX9_enters_195 (l : Launch) (E : Lay) (ad : Nat → Nat → Nat) (M : Mem) {p : Program} {e : Env} {s : State} {m : MethodId} {args : Array Value} {below : List Frame} {meth : Method} {c : Code} (X : CX p s m args meth c cX9_enters 7 none RX9) (hK : KK E s) (hZ : ZZ E s) : ∀ (n : Nat) (N0 : Mem) (y5 : Int32) (y6 : Int32) (Nr : Mem) (hf : f_yX9_enters_L195 n N0 y5 y6 = some Nr) (H : Heap) (locs : List Loc) (ls : Array Slot), WD E ad (M, N0) H → va_S (ow E) s.heap H locs → lv_has ls 7 [(0, .ref (ad 20 0)), (5, .int y5), (6, .int y6)] → W p l e (rmm 3 70) s m args below meth c H locs 0 0 (MQ below (Qv E ad (M, Nr)) args s 0 0 (ow E)) (F0 m 195 ls []) := by
  obtain ⟨hx, hb, hml, hown, hT, hr, hlk⟩ := id X
  intro n
  induction n with
  | zero =>
    intro N0 y5 y6 Nr hf
    rw [f_yX9_enters_L195] at hf
    cases hf
  | succ n ih =>
    intro N0 y5 y6 Nr hf H locs ls hW hS hl
    rw [f_yX9_enters_L195] at hf
    refine lv_iload hx hb dX9_enters_195 (lv_at hl 2 rfl) ?_
    refine lv_bipush (v := 6) hx hb dX9_enters_197 (by decide) ?_
    refine lv_icmp_ge (tgt := 237) hx hb dX9_enters_199 (by decide) (fun c9 => ?_) (fun c9 => ?_)
    · rw [if_pos c9] at hf
      obtain rfl := sp1 hf
      exact e_v ⟨hx, hb, hr, hlk⟩ hW hS dX9_enters_237
    · rw [if_neg c9] at hf
      refine lv_aload_n hx hb dX9_enters_202 rfl (lv_at hl 0 rfl) ?_
      refine g_9_12 X hK hW flRX9_40 dX9_enters_203 ?_
      refine lv_iload hx hb dX9_enters_206 (lv_at hl 2 rfl) ?_
      obtain ⟨b10, hf⟩ := gd_some hf
      refine al_31 X hK hW b10 dX9_enters_208 ?_
      refine lv_iconst (v := 4) hx hb dX9_enters_209 (by decide) ?_
      refine lv_icmp_ne (tgt := 231) hx hb dX9_enters_210 (by decide) (fun c11 => ?_) (fun c11 => ?_)
      · rw [if_neg c11] at hf
        refine lv_iinc (v := (y6 + 1)) (lv' := [(6, .int (y6 + 1)), (0, .ref (ad 20 0)), (5, .int y5)]) hx hb dX9_enters_231 hl (k := 2) rfl rfl (by decide) rfl (fun ls hl => ?_)
        refine lv_goto (tgt := 195) hx hb dX9_enters_234 (by decide) ?_
        exact ih _ _ _ _ hf _ _ _ hW hS (lv_sub hl [1, 2, 0] rfl)
      · rw [if_pos c11] at hf
        refine lv_aload_n hx hb dX9_enters_213 rfl (lv_at hl 0 rfl) ?_
        refine g_9_20 X hK hW flRX9_65 dX9_enters_214 ?_
        refine lv_iload hx hb dX9_enters_217 (lv_at hl 2 rfl) ?_
        refine al_39 X hK hW b10 dX9_enters_219 ?_
        refine lv_iload hx hb dX9_enters_220 (lv_at hl 1 rfl) ?_
        refine lv_icmp_ne (tgt := 231) hx hb dX9_enters_222 (by decide) (fun c12 => ?_) (fun c12 => ?_)
        · rw [if_neg c12] at hf
          refine lv_iinc (v := (y6 + 1)) (lv' := [(6, .int (y6 + 1)), (0, .ref (ad 20 0)), (5, .int y5)]) hx hb dX9_enters_231 hl (k := 2) rfl rfl (by decide) rfl (fun ls hl => ?_)
          refine lv_goto (tgt := 195) hx hb dX9_enters_234 (by decide) ?_
          exact ih _ _ _ _ hf _ _ _ hW hS (lv_sub hl [1, 2, 0] rfl)
        · rw [if_pos c12] at hf
          refine lv_aload_n hx hb dX9_enters_225 rfl (lv_at hl 0 rfl) ?_
          refine lv_iload hx hb dX9_enters_226 (lv_at hl 2 rfl) ?_
          obtain ⟨N14, h13, hf⟩ := ob1_some hf
          refine k_yX9_isTold X hK hZ hW hS hl.1 h13 mlRX9_177 ⟨Nat.le_of_ble_eq_true rfl, Nat.le_of_ble_eq_true rfl⟩ ⟨Nat.le_of_ble_eq_true rfl, Nat.le_of_ble_eq_true rfl⟩ (Nat.le_of_ble_eq_true rfl) dX9_enters_228 (fun H locs hW hS => ?_)
          refine lv_iinc (v := (y6 + 1)) (lv' := [(6, .int (y6 + 1)), (0, .ref (ad 20 0)), (5, .int y5)]) hx hb dX9_enters_231 hl (k := 2) rfl rfl (by decide) rfl (fun ls hl => ?_)
          refine lv_goto (tgt := 195) hx hb dX9_enters_234 (by decide) ?_
          exact ih _ _ _ _ hf _ _ _ hW hS (lv_sub hl [1, 2, 0] rfl)
set_option maxRecDepth 100000 in
set_option maxHeartbeats 4000000 in
theorem c_yX9_enters (l : Launch) (E : Lay) (ad : Nat → Nat → Nat) (M N : Mem) (x1 : Int32) (x2 : Int32) (x3 : Int32) (x4 : Int32) (Nr : Mem) (hf : f_yX9_enters N x1 x2 x3 x4 = some Nr) : Met l yX9_enters (Cond.code yX9_enters cX9_enters 7 none :: TB) (rmm 3 70) (va_Pc [.ref (ad 20 0), .int x1, .int x2, .int x3, .int x4] (PB E ad (M, N))) (Qv E ad (M, Nr)) 0 0 (ow E) := by
  refine Met.ofW (cc := cX9_enters) (maxL := 7) (ret := none) (by decide) rfl ?_
  intro p e s m args below meth c s₁ B hml hv
  obtain ⟨rfl, hW, hK, hZ⟩ := hv
  have hT : ∀ w ∈ TB, w.before _ s = true := fun w h => atoms_spec (ws := (Cond.code yX9_enters cX9_enters 7 none :: TB)) B.pre w (List.mem_cons_of_mem _ h)
  have X : CX p s m _ meth c cX9_enters 7 none RX9 := ⟨B.exec, B.bytes, hml, findClass_of_methodNamed B.named, hT, B.returns, B.notSynchronized⟩
  obtain ⟨hx, hb, hml, hown, hT, hr, hlk⟩ := id X
  have hS : va_S (ow E) s.heap s.heap [] := va_S.rf
  have hl := lv_entry ([.ref (ad 20 0), .int x1, .int x2, .int x3, .int x4]) (n := 7) (Nat.le_of_ble_eq_true rfl)
  rw [lg_entry_eq]
  generalize (lg_sl ([.ref (ad 20 0), .int x1, .int x2, .int x3, .int x4]) ++ List.replicate (7 - (lg_sl ([.ref (ad 20 0), .int x1, .int x2, .int x3, .int x4])).length) Slot.unset).toArray = ls at hl ⊢
  have hl : lv_has ls 7 [(0, .ref (ad 20 0)), (1, .int x1), (2, .int x2), (3, .int x3), (4, .int x4)] := hl
  unfold f_yX9_enters at hf
  refine lv_aload_n hx hb dX9_enters_0 rfl (lv_at hl 0 rfl) ?_
  refine g_9_31 X hK hW flRX9_98 dX9_enters_1 ?_
  refine lv_iload_n hx hb dX9_enters_4 rfl (lv_at hl 3 rfl) ?_
  obtain ⟨b1, hf⟩ := gd_some hf
  refine al_50 X hK hW b1 dX9_enters_5 ?_
  refine lv_istore (lv' := [(5, .int (N 50 0 x3.toNatClampNeg)), (0, .ref (ad 20 0)), (1, .int x1), (2, .int x2), (3, .int x3), (4, .int x4)]) hx hb dX9_enters_6 hl (by decide) rfl (fun ls hl => ?_)
  refine lv_iload hx hb dX9_enters_8 (lv_at hl 0 rfl) ?_
  refine lv_bipush (v := -4) hx hb dX9_enters_10 (by decide) ?_
  refine lv_icmp_ne (tgt := 23) hx hb dX9_enters_12 (by decide) (fun c2 => ?_) (fun c2 => ?_)
  · rw [if_neg c2] at hf
    refine lv_iload_n hx hb dX9_enters_23 rfl (lv_at hl 3 rfl) ?_
    refine lv_bipush (v := 22) hx hb dX9_enters_24 (by decide) ?_
    refine lv_icmp_ne (tgt := 77) hx hb dX9_enters_26 (by decide) (fun c3 => ?_) (fun c3 => ?_)
    · rw [if_neg c3] at hf
      refine lv_aload_n hx hb dX9_enters_77 rfl (lv_at hl 1 rfl) ?_
      refine g_9_5 X hK hW flRX9_22 dX9_enters_78 ?_
      refine lv_iload hx hb dX9_enters_81 (lv_at hl 0 rfl) ?_
      obtain ⟨b4, hf⟩ := gd_some hf
      refine al_25 X hK hW b4 dX9_enters_83 ?_
      refine lv_iload_n hx hb dX9_enters_84 rfl (lv_at hl 2 rfl) ?_
      refine lv_icmp_eq (tgt := 97) hx hb dX9_enters_85 (by decide) (fun c5 => ?_) (fun c5 => ?_)
      · rw [if_pos c5] at hf
        refine lv_iload_n hx hb dX9_enters_97 rfl (lv_at hl 3 rfl) ?_
        refine lv_bipush (v := 23) hx hb dX9_enters_98 (by decide) ?_
        refine lv_icmp_ne (tgt := 133) hx hb dX9_enters_100 (by decide) (fun c6 => ?_) (fun c6 => ?_)
        · rw [if_neg c6] at hf
          refine lv_iload_n hx hb dX9_enters_133 rfl (lv_at hl 3 rfl) ?_
          refine lv_bipush (v := 24) hx hb dX9_enters_134 (by decide) ?_
          refine lv_icmp_ne (tgt := 161) hx hb dX9_enters_136 (by decide) (fun c7 => ?_) (fun c7 => ?_)
          · rw [if_neg c7] at hf
            refine lv_iload_n hx hb dX9_enters_161 rfl (lv_at hl 3 rfl) ?_
            refine lv_bipush (v := 25) hx hb dX9_enters_162 (by decide) ?_
            refine lv_icmp_ne (tgt := 192) hx hb dX9_enters_164 (by decide) (fun c8 => ?_) (fun c8 => ?_)
            · rw [if_neg c8] at hf
              refine lv_iconst (v := 0) hx hb dX9_enters_192 (by decide) ?_
              refine lv_istore (lv' := [(6, .int 0), (5, .int (N 50 0 x3.toNatClampNeg)), (0, .ref (ad 20 0)), (1, .int x1), (2, .int x2), (3, .int x3), (4, .int x4)]) hx hb dX9_enters_193 hl (by decide) rfl (fun ls hl => ?_)
              exact (l_yX9_enters_195 l E ad M X hK hZ 70) _ _ _ _ hf _ _ _ hW hS (lv_sub hl [2, 1, 0] rfl)
            · rw [if_pos c8] at hf
              refine lv_aload_n hx hb dX9_enters_167 rfl (lv_at hl 1 rfl) ?_
              refine lv_iconst (v := 4) hx hb dX9_enters_168 (by decide) ?_
              refine lv_iload hx hb dX9_enters_169 (lv_at hl 0 rfl) ?_
              obtain ⟨r16, h15, hf⟩ := ob1_some hf
              refine k_yX9_next X hK hZ hW hS hl.1 h15 mlRX9_165 ⟨Nat.le_of_ble_eq_true rfl, Nat.le_of_ble_eq_true rfl⟩ ⟨Nat.le_of_ble_eq_true rfl, Nat.le_of_ble_eq_true rfl⟩ (Nat.le_of_ble_eq_true rfl) dX9_enters_171 (fun H locs hW hS => ?_)
              refine lv_istore (lv' := [(6, .int r16), (5, .int (N 50 0 x3.toNatClampNeg)), (0, .ref (ad 20 0)), (1, .int x1), (2, .int x2), (3, .int x3), (4, .int x4)]) hx hb dX9_enters_174 hl (by decide) rfl (fun ls hl => ?_)
              refine lv_iload hx hb dX9_enters_176 (lv_at hl 0 rfl) ?_
              refine lv_bipush (v := -4) hx hb dX9_enters_178 (by decide) ?_
              refine lv_icmp_eq (tgt := 189) hx hb dX9_enters_180 (by decide) (fun c17 => ?_) (fun c17 => ?_)
              · rw [if_pos c17] at hf
                refine lv_goto (tgt := 237) hx hb dX9_enters_189 (by decide) ?_
                obtain rfl := sp1 hf
                exact e_v ⟨hx, hb, hr, hlk⟩ hW hS dX9_enters_237
              · rw [if_neg c17] at hf
                refine lv_aload_n hx hb dX9_enters_183 rfl (lv_at hl 2 rfl) ?_
                refine lv_iload hx hb dX9_enters_184 (lv_at hl 0 rfl) ?_
                obtain ⟨N19, h18, hf⟩ := ob1_some hf
                refine k_yX9_isTold X hK hZ hW hS hl.1 h18 mlRX9_177 ⟨Nat.le_of_ble_eq_true rfl, Nat.le_of_ble_eq_true rfl⟩ ⟨Nat.le_of_ble_eq_true rfl, Nat.le_of_ble_eq_true rfl⟩ (Nat.le_of_ble_eq_true rfl) dX9_enters_186 (fun H locs hW hS => ?_)
                refine lv_goto (tgt := 237) hx hb dX9_enters_189 (by decide) ?_
                obtain rfl := sp1 hf
                exact e_v ⟨hx, hb, hr, hlk⟩ hW hS dX9_enters_237
          · rw [if_pos c7] at hf
            refine lv_aload_n hx hb dX9_enters_139 rfl (lv_at hl 1 rfl) ?_
            refine lv_iload_n hx hb dX9_enters_140 rfl (lv_at hl 2 rfl) ?_
            refine lv_iload hx hb dX9_enters_141 (lv_at hl 0 rfl) ?_
            refine lv_aload_n hx hb dX9_enters_143 rfl (lv_at hl 1 rfl) ?_
            refine g_9_30 X hK hW flRX9_95 dX9_enters_144 ?_
            refine lv_bipush (v := 6) hx hb dX9_enters_147 (by decide) ?_
            refine lv_iload_n hx hb dX9_enters_149 rfl (lv_at hl 2 rfl) ?_
            refine lv_imul hx hb dX9_enters_150 ?_
            refine lv_iload hx hb dX9_enters_151 (lv_at hl 5 rfl) ?_
            refine lv_iadd hx hb dX9_enters_153 ?_
            obtain ⟨b20, hf⟩ := gd_some hf
            refine al_49 X hK hW b20 dX9_enters_154 ?_
            obtain ⟨N22, h21, hf⟩ := ob1_some hf
            refine k_yX9_waits X hK hZ hW hS hl.1 h21 mlRX9_255 ⟨Nat.le_of_ble_eq_true rfl, Nat.le_of_ble_eq_true rfl⟩ ⟨Nat.le_of_ble_eq_true rfl, Nat.le_of_ble_eq_true rfl⟩ (Nat.le_of_ble_eq_true rfl) dX9_enters_155 (fun H locs hW hS => ?_)
            refine lv_goto (tgt := 237) hx hb dX9_enters_158 (by decide) ?_
            obtain rfl := sp1 hf
            exact e_v ⟨hx, hb, hr, hlk⟩ hW hS dX9_enters_237
        · rw [if_pos c6] at hf
          refine lv_aload_n hx hb dX9_enters_103 rfl (lv_at hl 1 rfl) ?_
          refine g_9_6 X hK hW flRX9_25 dX9_enters_104 ?_
          refine lv_iload hx hb dX9_enters_107 (lv_at hl 0 rfl) ?_
          refine lv_dup2_11 hx hb dX9_enters_109 rfl rfl ?_
          refine al_26 X hK hW b4 dX9_enters_110 ?_
          refine lv_iconst (v := 1) hx hb dX9_enters_111 (by decide) ?_
          refine lv_isub hx hb dX9_enters_112 ?_
          obtain ⟨N23, hN23, hf⟩ := lt1_some hf
          refine as_26 X hK hW hS b4 hN23 dX9_enters_113 (fun H locs hW hS => ?_)
          refine lv_aload_n hx hb dX9_enters_114 rfl (lv_at hl 1 rfl) ?_
          refine g_9_6 X hK hW flRX9_25 dX9_enters_115 ?_
          refine lv_iload hx hb dX9_enters_118 (lv_at hl 0 rfl) ?_
          refine al_26 X hK hW b4 dX9_enters_120 ?_
          refine lv_if_ne (tgt := 237) hx hb dX9_enters_121 (by decide) (fun c24 => ?_) (fun c24 => ?_)
          · rw [if_neg c24] at hf
            obtain rfl := sp1 hf
            exact e_v ⟨hx, hb, hr, hlk⟩ hW hS dX9_enters_237
          · rw [if_pos c24] at hf
            refine lv_aload_n hx hb dX9_enters_124 rfl (lv_at hl 1 rfl) ?_
            refine lv_iload hx hb dX9_enters_125 (lv_at hl 0 rfl) ?_
            obtain ⟨N26, h25, hf⟩ := ob1_some hf
            refine k_yX9_isLeft X hK hZ hW hS hl.1 h25 mlRX9_168 ⟨Nat.le_of_ble_eq_true rfl, Nat.le_of_ble_eq_true rfl⟩ ⟨Nat.le_of_ble_eq_true rfl, Nat.le_of_ble_eq_true rfl⟩ (Nat.le_of_ble_eq_true rfl) dX9_enters_127 (fun H locs hW hS => ?_)
            refine lv_goto (tgt := 237) hx hb dX9_enters_130 (by decide) ?_
            obtain rfl := sp1 hf
            exact e_v ⟨hx, hb, hr, hlk⟩ hW hS dX9_enters_237
      · rw [if_neg c5] at hf
        refine lv_aload_n hx hb dX9_enters_88 rfl (lv_at hl 1 rfl) ?_
        refine lv_bipush (v := 8) hx hb dX9_enters_89 (by decide) ?_
        obtain ⟨N28, h27, hf⟩ := ob1_some hf
        refine k_yX9_bad X hK hZ hW hS hl.1 h27 mlRX9_245 ⟨Nat.le_of_ble_eq_true rfl, Nat.le_of_ble_eq_true rfl⟩ ⟨Nat.le_of_ble_eq_true rfl, Nat.le_of_ble_eq_true rfl⟩ (Nat.le_of_ble_eq_true rfl) dX9_enters_91 (fun H locs hW hS => ?_)
        refine lv_goto (tgt := 237) hx hb dX9_enters_94 (by decide) ?_
        obtain rfl := sp1 hf
        exact e_v ⟨hx, hb, hr, hlk⟩ hW hS dX9_enters_237
    · rw [if_pos c3] at hf
      refine lv_aload_n hx hb dX9_enters_29 rfl (lv_at hl 1 rfl) ?_
      refine g_9_5 X hK hW flRX9_22 dX9_enters_30 ?_
      refine lv_iload hx hb dX9_enters_33 (lv_at hl 0 rfl) ?_
      obtain ⟨b29, hf⟩ := gd_some hf
      refine al_25 X hK hW b29 dX9_enters_35 ?_
      refine lv_iload_n hx hb dX9_enters_36 rfl (lv_at hl 2 rfl) ?_
      refine lv_icmp_ne (tgt := 54) hx hb dX9_enters_37 (by decide) (fun c30 => ?_) (fun c30 => ?_)
      · rw [if_neg c30] at hf
        refine lv_aload_n hx hb dX9_enters_54 rfl (lv_at hl 1 rfl) ?_
        refine g_9_20 X hK hW flRX9_65 dX9_enters_55 ?_
        refine lv_iload_n hx hb dX9_enters_58 rfl (lv_at hl 2 rfl) ?_
        refine lv_iload hx hb dX9_enters_59 (lv_at hl 0 rfl) ?_
        obtain ⟨b31, hf⟩ := gd_some hf
        obtain ⟨N32, hN32, hf⟩ := lt1_some hf
        refine as_39 X hK hW hS b31 hN32 dX9_enters_61 (fun H locs hW hS => ?_)
        refine lv_aload_n hx hb dX9_enters_62 rfl (lv_at hl 1 rfl) ?_
        refine g_9_22 X hK hW flRX9_71 dX9_enters_63 ?_
        refine lv_iload_n hx hb dX9_enters_66 rfl (lv_at hl 2 rfl) ?_
        refine lv_iconst (v := 1) hx hb dX9_enters_67 (by decide) ?_
        obtain ⟨N33, hN33, hf⟩ := lt1_some hf
        refine as_41 X hK hW hS b31 hN33 dX9_enters_68 (fun H locs hW hS => ?_)
        refine lv_aload_n hx hb dX9_enters_69 rfl (lv_at hl 1 rfl) ?_
        refine lv_iload_n hx hb dX9_enters_70 rfl (lv_at hl 2 rfl) ?_
        obtain ⟨N35, h34, hf⟩ := ob1_some hf
        refine k_yX9_getIn X hK hZ hW hS hl.1 h34 mlRX9_156 ⟨Nat.le_of_ble_eq_true rfl, Nat.le_of_ble_eq_true rfl⟩ ⟨Nat.le_of_ble_eq_true rfl, Nat.le_of_ble_eq_true rfl⟩ (Nat.le_of_ble_eq_true rfl) dX9_enters_71 (fun H locs hW hS => ?_)
        refine lv_goto (tgt := 237) hx hb dX9_enters_74 (by decide) ?_
        obtain rfl := sp1 hf
        exact e_v ⟨hx, hb, hr, hlk⟩ hW hS dX9_enters_237
      · rw [if_pos c30] at hf
        refine lv_aload_n hx hb dX9_enters_40 rfl (lv_at hl 1 rfl) ?_
        refine g_9_6 X hK hW flRX9_25 dX9_enters_41 ?_
        refine lv_iload hx hb dX9_enters_44 (lv_at hl 0 rfl) ?_
        refine lv_dup2_11 hx hb dX9_enters_46 rfl rfl ?_
        refine al_26 X hK hW b29 dX9_enters_47 ?_
        refine lv_iconst (v := 1) hx hb dX9_enters_48 (by decide) ?_
        refine lv_iadd hx hb dX9_enters_49 ?_
        obtain ⟨N36, hN36, hf⟩ := lt1_some hf
        refine as_26 X hK hW hS b29 hN36 dX9_enters_50 (fun H locs hW hS => ?_)
        refine lv_goto (tgt := 237) hx hb dX9_enters_51 (by decide) ?_
        obtain rfl := sp1 hf
        exact e_v ⟨hx, hb, hr, hlk⟩ hW hS dX9_enters_237
  · rw [if_pos c2] at hf
    refine lv_aload_n hx hb dX9_enters_15 rfl (lv_at hl 1 rfl) ?_
    refine lv_iconst (v := 1) hx hb dX9_enters_16 (by decide) ?_
    obtain ⟨N38, h37, hf⟩ := ob1_some hf
    refine k_yX9_bad X hK hZ hW hS hl.1 h37 mlRX9_245 ⟨Nat.le_of_ble_eq_true rfl, Nat.le_of_ble_eq_true rfl⟩ ⟨Nat.le_of_ble_eq_true rfl, Nat.le_of_ble_eq_true rfl⟩ (Nat.le_of_ble_eq_true rfl) dX9_enters_17 (fun H locs hW hS => ?_)
    refine lv_goto (tgt := 237) hx hb dX9_enters_20 (by decide) ?_
    obtain rfl := sp1 hf
    exact e_v ⟨hx, hb, hr, hlk⟩ hW hS dX9_enters_237
set_option maxRecDepth 100000 in
set_option maxHeartbeats 4000000 in
theorem k_yX9_enters {p : Program} {l : Launch} {e : Env} {R : Room} {s : State} {m : MethodId} {args : Array Value} {below : List Frame} {meth : Method} {c : Code} {H : Heap} {locs : List Loc} {cells slots : Nat} {Q : State → Prop} {cc : ByteArray} {pc nL index : Nat} {ret : Option FieldType} {own : String} {ls : Array Slot} {rest : List Value} {E : Lay} {ad : Nat → Nat → Nat} {M N : Mem} (X : CX p s m args meth c cc nL ret own) (hK : KK E s) (hZ : ZZ E s) (hW : WD E ad (M, N) H) (hS : va_S (ow E) s.heap H locs) (hsz : ls.size = nL) {x1 : Int32} {x2 : Int32} {x3 : Int32} {x4 : Int32} {Nr : Mem} (hf : f_yX9_enters N x1 x2 x3 x4 = some Nr) (hn : Cond.methodLink own index yX9_enters ∈ TB) (hR : 3 + 1 ≤ R.frames ∧ 8 + (7 + 11) + 70 ≤ R.locals) (hC : cells ≤ R.cells ∧ slots ≤ R.slots) (h8 : (rest.map fun v => v.category).sum ≤ 8) (hdg : decode cc pc = .ok (.invokevirtual index, 3)) (kk : ∀ (H1 : Heap) (locs1 : List Loc), WD E ad (M, Nr) H1 → va_S (ow E) s.heap H1 locs1 → W p l e R s m args below meth c H1 locs1 cells slots Q (F0 m (pc + 3) ls (rest))) : W p l e R s m args below meth c H locs cells slots Q (F0 m pc ls (.int x4 :: .int x3 :: .int x2 :: .int x1 :: .ref (ad 20 0) :: rest)) := by
  refine va_callv (va_runV (C := RX9) (As := [.int x1, .int x2, .int x3, .int x4]) (rest := rest) ⟨X.1, X.2.1, X.2.2.1, X.2.2.2.1, X.2.2.2.2.1⟩ (c_yX9_enters l E ad M N x1 x2 x3 x4 Nr hf) (cwV 4 X.2.2.2.2.1 (gV hn im_yX9_enters se_yX9_enters iniRX9 cd_yX9_enters) rfl rfl rfl (by decide +kernel) hR) ⟨fun a U g mk q => ⟨q.1, q.2.calling⟩, va_recv hK.1 (hW.at (c := 20) (i := 0) Nat.zero_lt_one rfl) (ci := 9) (q0 := 0) rfl rfl, fun U hU hw => ⟨rfl, PB.at hW hK hZ hS hU hw⟩⟩ rfl rfl hsz rfl (lv_room h8) hdg hC) hS (fun _ _ h => h) (fun _ h => h) (fun u t H1 locs1 ht hvm hw hB hz1 hk1 hS1 => ?_)
  subst hw
  rw [ht] at hB
  exact kk H1 locs1 hB hS1
def f_yX9_stops (N : Mem) (x1 : Int32) (x2 : Int32) (x3 : Int32) : Option Mem := (if x2 ≤ 27 then (if x2 = 27 then gd (¬ (x1 < 0 ∨ 6 ≤ x1.toNatClampNeg)) ((if (N 35 0 x1.toNatClampNeg) = 0 then (if x3 ≤ 0 then (some N) else lt1 (mp N 31 0 x1.toNatClampNeg 5) (fun N9 => ob1 (f_yX9_later (N9 20 0 2) x3) (fun r11 => lt1 (mp N9 40 0 x1.toNatClampNeg r11) (fun N12 => (some N12))))) else lt1 (mp N 35 0 x1.toNatClampNeg 0) (fun N13 => ob1 (f_yX9_bad N13 9) (fun N15 => (some N15))))) else ob1 (f_yX9_isUnderWay N x3) (fun r17 => (if r17 = 0 then (some N) else gd (¬ (x1 < 0 ∨ 6 ≤ x1.toNatClampNeg)) ((if (N 35 0 x1.toNatClampNeg) = 0 then (if x3 ≤ 0 then (some N) else lt1 (mp N 31 0 x1.toNatClampNeg 5) (fun N23 => ob1 (f_yX9_later (N23 20 0 2) x3) (fun r25 => lt1 (mp N23 40 0 x1.toNatClampNeg r25) (fun N26 => (some N26))))) else lt1 (mp N 35 0 x1.toNatClampNeg 0) (fun N27 => ob1 (f_yX9_bad N27 9) (fun N29 => (some N29)))))))) else ob1 (f_yX9_in x3 0 5) (fun r31 => (if r31 = 0 then ob1 (f_yX9_bad N 2) (fun N61 => (some N61)) else (if x2 = 29 then gd (¬ (x3 < 0 ∨ 6 ≤ x3.toNatClampNeg)) ((if (N 31 0 x3.toNatClampNeg) = 1 then lt1 (mp N 31 0 x3.toNatClampNeg 2) (fun N57 => (some N57)) else ob1 (f_yX9_bad N 10) (fun N59 => (some N59)))) else (if x2 = 30 then ob2 (f_yX9_broken N x3) (fun r53 N54 => (some N54)) else ob1 (f_yX9_isUnderWay N x3) (fun r37 => (if r37 = 0 then (some N) else gd (¬ (x1 < 0 ∨ 6 ≤ x1.toNatClampNeg)) ((if (N 35 0 x1.toNatClampNeg) = 0 then (if x2 = 28 then lt1 (mp N 31 0 x1.toNatClampNeg 6) (fun N47 => lt1 (mp N47 39 0 x1.toNatClampNeg x3) (fun N48 => (some N48))) else (if x3 ≤ 0 then (some N) else lt1 (mp N 31 0 x1.toNatClampNeg 5) (fun N43 => ob1 (f_yX9_later (N43 20 0 2) x3) (fun r45 => lt1 (mp N43 40 0 x1.toNatClampNeg r45) (fun N46 => (some N46)))))) else lt1 (mp N 35 0 x1.toNatClampNeg 0) (fun N49 => ob1 (f_yX9_bad N49 9) (fun N51 => (some N51))))))))))))
set_option maxRecDepth 100000 in
set_option maxHeartbeats 4000000 in
theorem c_yX9_stops (l : Launch) (E : Lay) (ad : Nat → Nat → Nat) (M N : Mem) (x1 : Int32) (x2 : Int32) (x3 : Int32) (Nr : Mem) (hf : f_yX9_stops N x1 x2 x3 = some Nr) : Met l yX9_stops (Cond.code yX9_stops cX9_stops 5 none :: TB) (rmm 3 64) (va_Pc [.ref (ad 20 0), .int x1, .int x2, .int x3] (PB E ad (M, N))) (Qv E ad (M, Nr)) 0 0 (ow E) := by
  refine Met.ofW (cc := cX9_stops) (maxL := 5) (ret := none) (by decide) rfl ?_
  intro p e s m args below meth c s₁ B hml hv
  obtain ⟨rfl, hW, hK, hZ⟩ := hv
  have hT : ∀ w ∈ TB, w.before _ s = true := fun w h => atoms_spec (ws := (Cond.code yX9_stops cX9_stops 5 none :: TB)) B.pre w (List.mem_cons_of_mem _ h)
  have X : CX p s m _ meth c cX9_stops 5 none RX9 := ⟨B.exec, B.bytes, hml, findClass_of_methodNamed B.named, hT, B.returns, B.notSynchronized⟩
  obtain ⟨hx, hb, hml, hown, hT, hr, hlk⟩ := id X
  have hS : va_S (ow E) s.heap s.heap [] := va_S.rf
  have hl := lv_entry ([.ref (ad 20 0), .int x1, .int x2, .int x3]) (n := 5) (Nat.le_of_ble_eq_true rfl)
  rw [lg_entry_eq]
  generalize (lg_sl ([.ref (ad 20 0), .int x1, .int x2, .int x3]) ++ List.replicate (5 - (lg_sl ([.ref (ad 20 0), .int x1, .int x2, .int x3])).length) Slot.unset).toArray = ls at hl ⊢
  have hl : lv_has ls 5 [(0, .ref (ad 20 0)), (1, .int x1), (2, .int x2), (3, .int x3)] := hl
  unfold f_yX9_stops at hf
  refine lv_iload_n hx hb dX9_stops_0 rfl (lv_at hl 2 rfl) ?_
  refine lv_bipush (v := 27) hx hb dX9_stops_1 (by decide) ?_
  refine lv_icmp_le (tgt := 23) hx hb dX9_stops_3 (by decide) (fun c1 => ?_) (fun c1 => ?_)
  · rw [if_pos c1] at hf
    refine lv_iload_n hx hb dX9_stops_23 rfl (lv_at hl 2 rfl) ?_
    refine lv_bipush (v := 29) hx hb dX9_stops_24 (by decide) ?_
    refine lv_icmp_ne (tgt := 58) hx hb dX9_stops_26 (by decide) (fun c2 => ?_) (fun c2 => ?_)
    · skip
      refine lv_iload_n hx hb dX9_stops_58 rfl (lv_at hl 2 rfl) ?_
      refine lv_bipush (v := 30) hx hb dX9_stops_59 (by decide) ?_
      refine lv_icmp_ne (tgt := 74) hx hb dX9_stops_61 (by decide) (fun c3 => ?_) (fun c3 => ?_)
      · skip
        refine lv_iload_n hx hb dX9_stops_74 rfl (lv_at hl 2 rfl) ?_
        refine lv_bipush (v := 27) hx hb dX9_stops_75 (by decide) ?_
        refine lv_icmp_eq (tgt := 88) hx hb dX9_stops_77 (by decide) (fun c4 => ?_) (fun c4 => ?_)
        · rw [if_pos c4] at hf
          refine lv_aload_n hx hb dX9_stops_88 rfl (lv_at hl 0 rfl) ?_
          refine g_9_16 X hK hW flRX9_52 dX9_stops_89 ?_
          refine lv_iload_n hx hb dX9_stops_92 rfl (lv_at hl 1 rfl) ?_
          obtain ⟨b5, hf⟩ := gd_some hf
          refine al_35 X hK hW b5 dX9_stops_93 ?_
          refine lv_if_eq (tgt := 113) hx hb dX9_stops_94 (by decide) (fun c6 => ?_) (fun c6 => ?_)
          · rw [if_pos c6] at hf
            refine lv_iload_n hx hb dX9_stops_113 rfl (lv_at hl 2 rfl) ?_
            refine lv_bipush (v := 28) hx hb dX9_stops_114 (by decide) ?_
            refine lv_icmp_ne (tgt := 137) hx hb dX9_stops_116 (by decide) (fun c7 => ?_) (fun c7 => ?_)
            · skip
              refine lv_iload_n hx hb dX9_stops_137 rfl (lv_at hl 3 rfl) ?_
              refine lv_if_le (tgt := 162) hx hb dX9_stops_138 (by decide) (fun c8 => ?_) (fun c8 => ?_)
              · rw [if_pos c8] at hf
                obtain rfl := sp1 hf
                exact e_v ⟨hx, hb, hr, hlk⟩ hW hS dX9_stops_162
              · rw [if_neg c8] at hf
                refine lv_aload_n hx hb dX9_stops_141 rfl (lv_at hl 0 rfl) ?_
                refine g_9_12 X hK hW flRX9_40 dX9_stops_142 ?_
                refine lv_iload_n hx hb dX9_stops_145 rfl (lv_at hl 1 rfl) ?_
                refine lv_iconst (v := 5) hx hb dX9_stops_146 (by decide) ?_
                obtain ⟨N9, hN9, hf⟩ := lt1_some hf
                refine as_31 X hK hW hS b5 hN9 dX9_stops_147 (fun H locs hW hS => ?_)
                refine lv_aload_n hx hb dX9_stops_148 rfl (lv_at hl 0 rfl) ?_
                refine g_9_21 X hK hW flRX9_68 dX9_stops_149 ?_
                refine lv_iload_n hx hb dX9_stops_152 rfl (lv_at hl 1 rfl) ?_
                refine lv_aload_n hx hb dX9_stops_153 rfl (lv_at hl 0 rfl) ?_
                refine g_9_32 X hK hW flRX9_174 dX9_stops_154 ?_
                refine lv_iload_n hx hb dX9_stops_157 rfl (lv_at hl 3 rfl) ?_
                obtain ⟨r11, h10, hf⟩ := ob1_some hf
                refine k_yX9_later X hK hZ hW hS hl.1 h10 mlRX9_258 ⟨Nat.le_of_ble_eq_true rfl, Nat.le_of_ble_eq_true rfl⟩ ⟨Nat.le_of_ble_eq_true rfl, Nat.le_of_ble_eq_true rfl⟩ (Nat.le_of_ble_eq_true rfl) dX9_stops_158 (fun H locs hW hS => ?_)
                obtain ⟨N12, hN12, hf⟩ := lt1_some hf
                refine as_40 X hK hW hS b5 hN12 dX9_stops_161 (fun H locs hW hS => ?_)
                obtain rfl := sp1 hf
                exact e_v ⟨hx, hb, hr, hlk⟩ hW hS dX9_stops_162
            · exfalso; have := q_le (b := 27) (by decide) c1; have := q_eq (b := 27) (by decide) c4; have := q_eq (b := 28) (by decide) c7; omega
          · rw [if_neg c6] at hf
            refine lv_aload_n hx hb dX9_stops_97 rfl (lv_at hl 0 rfl) ?_
            refine g_9_16 X hK hW flRX9_52 dX9_stops_98 ?_
            refine lv_iload_n hx hb dX9_stops_101 rfl (lv_at hl 1 rfl) ?_
            refine lv_iconst (v := 0) hx hb dX9_stops_102 (by decide) ?_
            obtain ⟨N13, hN13, hf⟩ := lt1_some hf
            refine as_35 X hK hW hS rfl b5 hN13 dX9_stops_103 (fun H locs hW hS => ?_)
            refine lv_aload_n hx hb dX9_stops_104 rfl (lv_at hl 0 rfl) ?_
            refine lv_bipush (v := 9) hx hb dX9_stops_105 (by decide) ?_
            obtain ⟨N15, h14, hf⟩ := ob1_some hf
            refine k_yX9_bad X hK hZ hW hS hl.1 h14 mlRX9_245 ⟨Nat.le_of_ble_eq_true rfl, Nat.le_of_ble_eq_true rfl⟩ ⟨Nat.le_of_ble_eq_true rfl, Nat.le_of_ble_eq_true rfl⟩ (Nat.le_of_ble_eq_true rfl) dX9_stops_107 (fun H locs hW hS => ?_)
            refine lv_goto (tgt := 162) hx hb dX9_stops_110 (by decide) ?_
            obtain rfl := sp1 hf
            exact e_v ⟨hx, hb, hr, hlk⟩ hW hS dX9_stops_162
        · rw [if_neg c4] at hf
          refine lv_aload_n hx hb dX9_stops_80 rfl (lv_at hl 0 rfl) ?_
          refine lv_iload_n hx hb dX9_stops_81 rfl (lv_at hl 3 rfl) ?_
          obtain ⟨r17, h16, hf⟩ := ob1_some hf
          refine k_yX9_isUnderWay X hK hZ hW hS hl.1 h16 mlRX9_143 ⟨Nat.le_of_ble_eq_true rfl, Nat.le_of_ble_eq_true rfl⟩ ⟨Nat.le_of_ble_eq_true rfl, Nat.le_of_ble_eq_true rfl⟩ (Nat.le_of_ble_eq_true rfl) dX9_stops_82 (fun H locs hW hS => ?_)
          refine lv_if_eq (tgt := 162) hx hb dX9_stops_85 (by decide) (fun c18 => ?_) (fun c18 => ?_)
          · rw [if_pos c18] at hf
            obtain rfl := sp1 hf
            exact e_v ⟨hx, hb, hr, hlk⟩ hW hS dX9_stops_162
          · rw [if_neg c18] at hf
            refine lv_aload_n hx hb dX9_stops_88 rfl (lv_at hl 0 rfl) ?_
            refine g_9_16 X hK hW flRX9_52 dX9_stops_89 ?_
            refine lv_iload_n hx hb dX9_stops_92 rfl (lv_at hl 1 rfl) ?_
            obtain ⟨b19, hf⟩ := gd_some hf
            refine al_35 X hK hW b19 dX9_stops_93 ?_
            refine lv_if_eq (tgt := 113) hx hb dX9_stops_94 (by decide) (fun c20 => ?_) (fun c20 => ?_)
            · rw [if_pos c20] at hf
              refine lv_iload_n hx hb dX9_stops_113 rfl (lv_at hl 2 rfl) ?_
              refine lv_bipush (v := 28) hx hb dX9_stops_114 (by decide) ?_
              refine lv_icmp_ne (tgt := 137) hx hb dX9_stops_116 (by decide) (fun c21 => ?_) (fun c21 => ?_)
              · skip
                refine lv_iload_n hx hb dX9_stops_137 rfl (lv_at hl 3 rfl) ?_
                refine lv_if_le (tgt := 162) hx hb dX9_stops_138 (by decide) (fun c22 => ?_) (fun c22 => ?_)
                · rw [if_pos c22] at hf
                  obtain rfl := sp1 hf
                  exact e_v ⟨hx, hb, hr, hlk⟩ hW hS dX9_stops_162
                · rw [if_neg c22] at hf
                  refine lv_aload_n hx hb dX9_stops_141 rfl (lv_at hl 0 rfl) ?_
                  refine g_9_12 X hK hW flRX9_40 dX9_stops_142 ?_
                  refine lv_iload_n hx hb dX9_stops_145 rfl (lv_at hl 1 rfl) ?_
                  refine lv_iconst (v := 5) hx hb dX9_stops_146 (by decide) ?_
                  obtain ⟨N23, hN23, hf⟩ := lt1_some hf
                  refine as_31 X hK hW hS b19 hN23 dX9_stops_147 (fun H locs hW hS => ?_)
                  refine lv_aload_n hx hb dX9_stops_148 rfl (lv_at hl 0 rfl) ?_
                  refine g_9_21 X hK hW flRX9_68 dX9_stops_149 ?_
                  refine lv_iload_n hx hb dX9_stops_152 rfl (lv_at hl 1 rfl) ?_
                  refine lv_aload_n hx hb dX9_stops_153 rfl (lv_at hl 0 rfl) ?_
                  refine g_9_32 X hK hW flRX9_174 dX9_stops_154 ?_
                  refine lv_iload_n hx hb dX9_stops_157 rfl (lv_at hl 3 rfl) ?_
                  obtain ⟨r25, h24, hf⟩ := ob1_some hf
                  refine k_yX9_later X hK hZ hW hS hl.1 h24 mlRX9_258 ⟨Nat.le_of_ble_eq_true rfl, Nat.le_of_ble_eq_true rfl⟩ ⟨Nat.le_of_ble_eq_true rfl, Nat.le_of_ble_eq_true rfl⟩ (Nat.le_of_ble_eq_true rfl) dX9_stops_158 (fun H locs hW hS => ?_)
                  obtain ⟨N26, hN26, hf⟩ := lt1_some hf
                  refine as_40 X hK hW hS b19 hN26 dX9_stops_161 (fun H locs hW hS => ?_)
                  obtain rfl := sp1 hf
                  exact e_v ⟨hx, hb, hr, hlk⟩ hW hS dX9_stops_162
              · exfalso; have := q_le (b := 27) (by decide) c1; have := q_ne (b := 27) (by decide) c4; have := q_eq (b := 28) (by decide) c21; omega
            · rw [if_neg c20] at hf
              refine lv_aload_n hx hb dX9_stops_97 rfl (lv_at hl 0 rfl) ?_
              refine g_9_16 X hK hW flRX9_52 dX9_stops_98 ?_
              refine lv_iload_n hx hb dX9_stops_101 rfl (lv_at hl 1 rfl) ?_
              refine lv_iconst (v := 0) hx hb dX9_stops_102 (by decide) ?_
              obtain ⟨N27, hN27, hf⟩ := lt1_some hf
              refine as_35 X hK hW hS rfl b19 hN27 dX9_stops_103 (fun H locs hW hS => ?_)
              refine lv_aload_n hx hb dX9_stops_104 rfl (lv_at hl 0 rfl) ?_
              refine lv_bipush (v := 9) hx hb dX9_stops_105 (by decide) ?_
              obtain ⟨N29, h28, hf⟩ := ob1_some hf
              refine k_yX9_bad X hK hZ hW hS hl.1 h28 mlRX9_245 ⟨Nat.le_of_ble_eq_true rfl, Nat.le_of_ble_eq_true rfl⟩ ⟨Nat.le_of_ble_eq_true rfl, Nat.le_of_ble_eq_true rfl⟩ (Nat.le_of_ble_eq_true rfl) dX9_stops_107 (fun H locs hW hS => ?_)
              refine lv_goto (tgt := 162) hx hb dX9_stops_110 (by decide) ?_
              obtain rfl := sp1 hf
              exact e_v ⟨hx, hb, hr, hlk⟩ hW hS dX9_stops_162
      · exfalso; have := q_le (b := 27) (by decide) c1; have := q_eq (b := 30) (by decide) c3; omega
    · exfalso; have := q_le (b := 27) (by decide) c1; have := q_eq (b := 29) (by decide) c2; omega
  · rw [if_neg c1] at hf
    refine lv_iload_n hx hb dX9_stops_6 rfl (lv_at hl 3 rfl) ?_
    refine lv_iconst (v := 0) hx hb dX9_stops_7 (by decide) ?_
    refine lv_iconst (v := 5) hx hb dX9_stops_8 (by decide) ?_
    obtain ⟨r31, h30, hf⟩ := ob1_some hf
    refine k_yX9_in X hK hZ hW hS hl.1 h30 mlRX9_114 ⟨Nat.le_of_ble_eq_true rfl, Nat.le_of_ble_eq_true rfl⟩ ⟨Nat.le_of_ble_eq_true rfl, Nat.le_of_ble_eq_true rfl⟩ (Nat.le_of_ble_eq_true rfl) dX9_stops_9 (fun H locs hW hS => ?_)
    refine lv_if_ne (tgt := 23) hx hb dX9_stops_12 (by decide) (fun c32 => ?_) (fun c32 => ?_)
    · rw [if_neg c32] at hf
      refine lv_iload_n hx hb dX9_stops_23 rfl (lv_at hl 2 rfl) ?_
      refine lv_bipush (v := 29) hx hb dX9_stops_24 (by decide) ?_
      refine lv_icmp_ne (tgt := 58) hx hb dX9_stops_26 (by decide) (fun c33 => ?_) (fun c33 => ?_)
      · rw [if_neg c33] at hf
        refine lv_iload_n hx hb dX9_stops_58 rfl (lv_at hl 2 rfl) ?_
        refine lv_bipush (v := 30) hx hb dX9_stops_59 (by decide) ?_
        refine lv_icmp_ne (tgt := 74) hx hb dX9_stops_61 (by decide) (fun c34 => ?_) (fun c34 => ?_)
        · rw [if_neg c34] at hf
          refine lv_iload_n hx hb dX9_stops_74 rfl (lv_at hl 2 rfl) ?_
          refine lv_bipush (v := 27) hx hb dX9_stops_75 (by decide) ?_
          refine lv_icmp_eq (tgt := 88) hx hb dX9_stops_77 (by decide) (fun c35 => ?_) (fun c35 => ?_)
          · exfalso; have := q_nle (b := 27) (by decide) c1; have := q_ne (b := 29) (by decide) c33; have := q_ne (b := 30) (by decide) c34; have := q_eq (b := 27) (by decide) c35; omega
          · skip
            refine lv_aload_n hx hb dX9_stops_80 rfl (lv_at hl 0 rfl) ?_
            refine lv_iload_n hx hb dX9_stops_81 rfl (lv_at hl 3 rfl) ?_
            obtain ⟨r37, h36, hf⟩ := ob1_some hf
            refine k_yX9_isUnderWay X hK hZ hW hS hl.1 h36 mlRX9_143 ⟨Nat.le_of_ble_eq_true rfl, Nat.le_of_ble_eq_true rfl⟩ ⟨Nat.le_of_ble_eq_true rfl, Nat.le_of_ble_eq_true rfl⟩ (Nat.le_of_ble_eq_true rfl) dX9_stops_82 (fun H locs hW hS => ?_)
            refine lv_if_eq (tgt := 162) hx hb dX9_stops_85 (by decide) (fun c38 => ?_) (fun c38 => ?_)
            · rw [if_pos c38] at hf
              obtain rfl := sp1 hf
              exact e_v ⟨hx, hb, hr, hlk⟩ hW hS dX9_stops_162
            · rw [if_neg c38] at hf
              refine lv_aload_n hx hb dX9_stops_88 rfl (lv_at hl 0 rfl) ?_
              refine g_9_16 X hK hW flRX9_52 dX9_stops_89 ?_
              refine lv_iload_n hx hb dX9_stops_92 rfl (lv_at hl 1 rfl) ?_
              obtain ⟨b39, hf⟩ := gd_some hf
              refine al_35 X hK hW b39 dX9_stops_93 ?_
              refine lv_if_eq (tgt := 113) hx hb dX9_stops_94 (by decide) (fun c40 => ?_) (fun c40 => ?_)
              · rw [if_pos c40] at hf
                refine lv_iload_n hx hb dX9_stops_113 rfl (lv_at hl 2 rfl) ?_
                refine lv_bipush (v := 28) hx hb dX9_stops_114 (by decide) ?_
                refine lv_icmp_ne (tgt := 137) hx hb dX9_stops_116 (by decide) (fun c41 => ?_) (fun c41 => ?_)
                · rw [if_neg c41] at hf
                  refine lv_iload_n hx hb dX9_stops_137 rfl (lv_at hl 3 rfl) ?_
                  refine lv_if_le (tgt := 162) hx hb dX9_stops_138 (by decide) (fun c42 => ?_) (fun c42 => ?_)
                  · rw [if_pos c42] at hf
                    obtain rfl := sp1 hf
                    exact e_v ⟨hx, hb, hr, hlk⟩ hW hS dX9_stops_162
                  · rw [if_neg c42] at hf
                    refine lv_aload_n hx hb dX9_stops_141 rfl (lv_at hl 0 rfl) ?_
                    refine g_9_12 X hK hW flRX9_40 dX9_stops_142 ?_
                    refine lv_iload_n hx hb dX9_stops_145 rfl (lv_at hl 1 rfl) ?_
                    refine lv_iconst (v := 5) hx hb dX9_stops_146 (by decide) ?_
                    obtain ⟨N43, hN43, hf⟩ := lt1_some hf
                    refine as_31 X hK hW hS b39 hN43 dX9_stops_147 (fun H locs hW hS => ?_)
                    refine lv_aload_n hx hb dX9_stops_148 rfl (lv_at hl 0 rfl) ?_
                    refine g_9_21 X hK hW flRX9_68 dX9_stops_149 ?_
                    refine lv_iload_n hx hb dX9_stops_152 rfl (lv_at hl 1 rfl) ?_
                    refine lv_aload_n hx hb dX9_stops_153 rfl (lv_at hl 0 rfl) ?_
                    refine g_9_32 X hK hW flRX9_174 dX9_stops_154 ?_
                    refine lv_iload_n hx hb dX9_stops_157 rfl (lv_at hl 3 rfl) ?_
                    obtain ⟨r45, h44, hf⟩ := ob1_some hf
                    refine k_yX9_later X hK hZ hW hS hl.1 h44 mlRX9_258 ⟨Nat.le_of_ble_eq_true rfl, Nat.le_of_ble_eq_true rfl⟩ ⟨Nat.le_of_ble_eq_true rfl, Nat.le_of_ble_eq_true rfl⟩ (Nat.le_of_ble_eq_true rfl) dX9_stops_158 (fun H locs hW hS => ?_)
                    obtain ⟨N46, hN46, hf⟩ := lt1_some hf
                    refine as_40 X hK hW hS b39 hN46 dX9_stops_161 (fun H locs hW hS => ?_)
                    obtain rfl := sp1 hf
                    exact e_v ⟨hx, hb, hr, hlk⟩ hW hS dX9_stops_162
                · rw [if_pos c41] at hf
                  refine lv_aload_n hx hb dX9_stops_119 rfl (lv_at hl 0 rfl) ?_
                  refine g_9_12 X hK hW flRX9_40 dX9_stops_120 ?_
                  refine lv_iload_n hx hb dX9_stops_123 rfl (lv_at hl 1 rfl) ?_
                  refine lv_bipush (v := 6) hx hb dX9_stops_124 (by decide) ?_
                  obtain ⟨N47, hN47, hf⟩ := lt1_some hf
                  refine as_31 X hK hW hS b39 hN47 dX9_stops_126 (fun H locs hW hS => ?_)
                  refine lv_aload_n hx hb dX9_stops_127 rfl (lv_at hl 0 rfl) ?_
                  refine g_9_20 X hK hW flRX9_65 dX9_stops_128 ?_
                  refine lv_iload_n hx hb dX9_stops_131 rfl (lv_at hl 1 rfl) ?_
                  refine lv_iload_n hx hb dX9_stops_132 rfl (lv_at hl 3 rfl) ?_
                  obtain ⟨N48, hN48, hf⟩ := lt1_some hf
                  refine as_39 X hK hW hS b39 hN48 dX9_stops_133 (fun H locs hW hS => ?_)
                  refine lv_goto (tgt := 162) hx hb dX9_stops_134 (by decide) ?_
                  obtain rfl := sp1 hf
                  exact e_v ⟨hx, hb, hr, hlk⟩ hW hS dX9_stops_162
              · rw [if_neg c40] at hf
                refine lv_aload_n hx hb dX9_stops_97 rfl (lv_at hl 0 rfl) ?_
                refine g_9_16 X hK hW flRX9_52 dX9_stops_98 ?_
                refine lv_iload_n hx hb dX9_stops_101 rfl (lv_at hl 1 rfl) ?_
                refine lv_iconst (v := 0) hx hb dX9_stops_102 (by decide) ?_
                obtain ⟨N49, hN49, hf⟩ := lt1_some hf
                refine as_35 X hK hW hS rfl b39 hN49 dX9_stops_103 (fun H locs hW hS => ?_)
                refine lv_aload_n hx hb dX9_stops_104 rfl (lv_at hl 0 rfl) ?_
                refine lv_bipush (v := 9) hx hb dX9_stops_105 (by decide) ?_
                obtain ⟨N51, h50, hf⟩ := ob1_some hf
                refine k_yX9_bad X hK hZ hW hS hl.1 h50 mlRX9_245 ⟨Nat.le_of_ble_eq_true rfl, Nat.le_of_ble_eq_true rfl⟩ ⟨Nat.le_of_ble_eq_true rfl, Nat.le_of_ble_eq_true rfl⟩ (Nat.le_of_ble_eq_true rfl) dX9_stops_107 (fun H locs hW hS => ?_)
                refine lv_goto (tgt := 162) hx hb dX9_stops_110 (by decide) ?_
                obtain rfl := sp1 hf
                exact e_v ⟨hx, hb, hr, hlk⟩ hW hS dX9_stops_162
        · rw [if_pos c34] at hf
          refine lv_aload_n hx hb dX9_stops_64 rfl (lv_at hl 0 rfl) ?_
          refine lv_iload_n hx hb dX9_stops_65 rfl (lv_at hl 3 rfl) ?_
          obtain ⟨r53, N54, h52, hf⟩ := ob2_some hf
          refine k_yX9_broken X hK hZ hW hS hl.1 h52 mlRX9_261 ⟨Nat.le_of_ble_eq_true rfl, Nat.le_of_ble_eq_true rfl⟩ ⟨Nat.le_of_ble_eq_true rfl, Nat.le_of_ble_eq_true rfl⟩ (Nat.le_of_ble_eq_true rfl) dX9_stops_66 (fun H locs hW hS => ?_)
          refine lv_istore (lv' := [(4, .int r53), (0, .ref (ad 20 0)), (1, .int x1), (2, .int x2), (3, .int x3)]) hx hb dX9_stops_69 hl (by decide) rfl (fun ls hl => ?_)
          refine lv_goto (tgt := 162) hx hb dX9_stops_71 (by decide) ?_
          obtain rfl := sp1 hf
          exact e_v ⟨hx, hb, hr, hlk⟩ hW hS dX9_stops_162
      · rw [if_pos c33] at hf
        refine lv_aload_n hx hb dX9_stops_29 rfl (lv_at hl 0 rfl) ?_
        refine g_9_12 X hK hW flRX9_40 dX9_stops_30 ?_
        refine lv_iload_n hx hb dX9_stops_33 rfl (lv_at hl 3 rfl) ?_
        obtain ⟨b55, hf⟩ := gd_some hf
        refine al_31 X hK hW b55 dX9_stops_34 ?_
        refine lv_iconst (v := 1) hx hb dX9_stops_35 (by decide) ?_
        refine lv_icmp_eq (tgt := 48) hx hb dX9_stops_36 (by decide) (fun c56 => ?_) (fun c56 => ?_)
        · rw [if_pos c56] at hf
          refine lv_aload_n hx hb dX9_stops_48 rfl (lv_at hl 0 rfl) ?_
          refine g_9_12 X hK hW flRX9_40 dX9_stops_49 ?_
          refine lv_iload_n hx hb dX9_stops_52 rfl (lv_at hl 3 rfl) ?_
          refine lv_iconst (v := 2) hx hb dX9_stops_53 (by decide) ?_
          obtain ⟨N57, hN57, hf⟩ := lt1_some hf
          refine as_31 X hK hW hS b55 hN57 dX9_stops_54 (fun H locs hW hS => ?_)
          refine lv_goto (tgt := 162) hx hb dX9_stops_55 (by decide) ?_
          obtain rfl := sp1 hf
          exact e_v ⟨hx, hb, hr, hlk⟩ hW hS dX9_stops_162
        · rw [if_neg c56] at hf
          refine lv_aload_n hx hb dX9_stops_39 rfl (lv_at hl 0 rfl) ?_
          refine lv_bipush (v := 10) hx hb dX9_stops_40 (by decide) ?_
          obtain ⟨N59, h58, hf⟩ := ob1_some hf
          refine k_yX9_bad X hK hZ hW hS hl.1 h58 mlRX9_245 ⟨Nat.le_of_ble_eq_true rfl, Nat.le_of_ble_eq_true rfl⟩ ⟨Nat.le_of_ble_eq_true rfl, Nat.le_of_ble_eq_true rfl⟩ (Nat.le_of_ble_eq_true rfl) dX9_stops_42 (fun H locs hW hS => ?_)
          refine lv_goto (tgt := 162) hx hb dX9_stops_45 (by decide) ?_
          obtain rfl := sp1 hf
          exact e_v ⟨hx, hb, hr, hlk⟩ hW hS dX9_stops_162
    · rw [if_pos c32] at hf
      refine lv_aload_n hx hb dX9_stops_15 rfl (lv_at hl 0 rfl) ?_
      refine lv_iconst (v := 2) hx hb dX9_stops_16 (by decide) ?_
      obtain ⟨N61, h60, hf⟩ := ob1_some hf
      refine k_yX9_bad X hK hZ hW hS hl.1 h60 mlRX9_245 ⟨Nat.le_of_ble_eq_true rfl, Nat.le_of_ble_eq_true rfl⟩ ⟨Nat.le_of_ble_eq_true rfl, Nat.le_of_ble_eq_true rfl⟩ (Nat.le_of_ble_eq_true rfl) dX9_stops_17 (fun H locs hW hS => ?_)
      refine lv_goto (tgt := 162) hx hb dX9_stops_20 (by decide) ?_
      obtain rfl := sp1 hf
      exact e_v ⟨hx, hb, hr, hlk⟩ hW hS dX9_stops_162
set_option maxRecDepth 100000 in
set_option maxHeartbeats 4000000 in
theorem k_yX9_stops {p : Program} {l : Launch} {e : Env} {R : Room} {s : State} {m : MethodId} {args : Array Value} {below : List Frame} {meth : Method} {c : Code} {H : Heap} {locs : List Loc} {cells slots : Nat} {Q : State → Prop} {cc : ByteArray} {pc nL index : Nat} {ret : Option FieldType} {own : String} {ls : Array Slot} {rest : List Value} {E : Lay} {ad : Nat → Nat → Nat} {M N : Mem} (X : CX p s m args meth c cc nL ret own) (hK : KK E s) (hZ : ZZ E s) (hW : WD E ad (M, N) H) (hS : va_S (ow E) s.heap H locs) (hsz : ls.size = nL) {x1 : Int32} {x2 : Int32} {x3 : Int32} {Nr : Mem} (hf : f_yX9_stops N x1 x2 x3 = some Nr) (hn : Cond.methodLink own index yX9_stops ∈ TB) (hR : 3 + 1 ≤ R.frames ∧ 8 + (5 + 11) + 64 ≤ R.locals) (hC : cells ≤ R.cells ∧ slots ≤ R.slots) (h8 : (rest.map fun v => v.category).sum ≤ 8) (hdg : decode cc pc = .ok (.invokevirtual index, 3)) (kk : ∀ (H1 : Heap) (locs1 : List Loc), WD E ad (M, Nr) H1 → va_S (ow E) s.heap H1 locs1 → W p l e R s m args below meth c H1 locs1 cells slots Q (F0 m (pc + 3) ls (rest))) : W p l e R s m args below meth c H locs cells slots Q (F0 m pc ls (.int x3 :: .int x2 :: .int x1 :: .ref (ad 20 0) :: rest)) := by
  refine va_callv (va_runV (C := RX9) (As := [.int x1, .int x2, .int x3]) (rest := rest) ⟨X.1, X.2.1, X.2.2.1, X.2.2.2.1, X.2.2.2.2.1⟩ (c_yX9_stops l E ad M N x1 x2 x3 Nr hf) (cwV 3 X.2.2.2.2.1 (gV hn im_yX9_stops se_yX9_stops iniRX9 cd_yX9_stops) rfl rfl rfl (by decide +kernel) hR) ⟨fun a U g mk q => ⟨q.1, q.2.calling⟩, va_recv hK.1 (hW.at (c := 20) (i := 0) Nat.zero_lt_one rfl) (ci := 9) (q0 := 0) rfl rfl, fun U hU hw => ⟨rfl, PB.at hW hK hZ hS hU hw⟩⟩ rfl rfl hsz rfl (lv_room h8) hdg hC) hS (fun _ _ h => h) (fun _ h => h) (fun u t H1 locs1 ht hvm hw hB hz1 hk1 hS1 => ?_)
  subst hw
  rw [ht] at hB
  exact kk H1 locs1 hB hS1
def f_yX9_does (N : Mem) (x1 : Int32) (x2 : Int32) : Option Mem := gd (¬ (x2 < 0 ∨ 1280 ≤ x2.toNatClampNeg)) (gd (¬ ((x2 + 1) < 0 ∨ 1280 ≤ (x2 + 1).toNatClampNeg)) (gd (¬ ((x2 + 2) < 0 ∨ 1280 ≤ (x2 + 2).toNatClampNeg)) (gd (¬ ((x2 + 3) < 0 ∨ 1280 ≤ (x2 + 3).toNatClampNeg)) ((if 8 ≤ (N 28 0 x2.toNatClampNeg) then (if 12 ≤ (N 28 0 x2.toNatClampNeg) then (if 16 ≤ (N 28 0 x2.toNatClampNeg) then (if 22 ≤ (N 28 0 x2.toNatClampNeg) then (if 27 ≤ (N 28 0 x2.toNatClampNeg) then (if 31 ≤ (N 28 0 x2.toNatClampNeg) then ob1 (f_yX9_rests N x1 (N 28 0 x2.toNatClampNeg) (N 28 0 (x2 + 1).toNatClampNeg) (N 28 0 (x2 + 2).toNatClampNeg)) (fun N12 => (some N12)) else gd (¬ (((6 * x1) + (N 28 0 (x2 + 1).toNatClampNeg)) < 0 ∨ 36 ≤ ((6 * x1) + (N 28 0 (x2 + 1).toNatClampNeg)).toNatClampNeg)) (ob1 (f_yX9_stops N x1 (N 28 0 x2.toNatClampNeg) (N 49 0 ((6 * x1) + (N 28 0 (x2 + 1).toNatClampNeg)).toNatClampNeg)) (fun N15 => (some N15)))) else ob1 (f_yX9_enters N x1 (N 28 0 x2.toNatClampNeg) ((6 * x1) + (N 28 0 (x2 + 1).toNatClampNeg)) (N 28 0 (x2 + 2).toNatClampNeg)) (fun N17 => (some N17))) else ob1 (f_yX9_rows N x1 (N 28 0 x2.toNatClampNeg) ((6 * x1) + (N 28 0 (x2 + 1).toNatClampNeg)) (N 28 0 (x2 + 2).toNatClampNeg) (N 28 0 (x2 + 3).toNatClampNeg)) (fun N19 => (some N19))) else ob1 (f_yX9_boxes N x1 (N 28 0 x2.toNatClampNeg) ((6 * x1) + (N 28 0 (x2 + 1).toNatClampNeg)) (N 28 0 (x2 + 2).toNatClampNeg)) (fun N21 => (some N21))) else ob1 (f_yX9_holds N x1 (N 28 0 x2.toNatClampNeg) ((6 * x1) + (N 28 0 (x2 + 1).toNatClampNeg)) (N 28 0 (x2 + 2).toNatClampNeg) (N 28 0 (x2 + 3).toNatClampNeg)) (fun N23 => (some N23))) else ob1 (f_yX9_numbers N x1 (N 28 0 x2.toNatClampNeg) (N 28 0 (x2 + 1).toNatClampNeg) (N 28 0 (x2 + 2).toNatClampNeg) (N 28 0 (x2 + 3).toNatClampNeg)) (fun N25 => (some N25)))))))
set_option maxRecDepth 100000 in
set_option maxHeartbeats 4000000 in
theorem c_yX9_does (l : Launch) (E : Lay) (ad : Nat → Nat → Nat) (M N : Mem) (x1 : Int32) (x2 : Int32) (Nr : Mem) (hf : f_yX9_does N x1 x2 = some Nr) : Met l yX9_does (Cond.code yX9_does cX9_does 7 none :: TB) (rmm 5 123) (va_Pc [.ref (ad 20 0), .int x1, .int x2] (PB E ad (M, N))) (Qv E ad (M, Nr)) 0 0 (ow E) := by
  refine Met.ofW (cc := cX9_does) (maxL := 7) (ret := none) (by decide) rfl ?_
  intro p e s m args below meth c s₁ B hml hv
  obtain ⟨rfl, hW, hK, hZ⟩ := hv
  have hT : ∀ w ∈ TB, w.before _ s = true := fun w h => atoms_spec (ws := (Cond.code yX9_does cX9_does 7 none :: TB)) B.pre w (List.mem_cons_of_mem _ h)
  have X : CX p s m _ meth c cX9_does 7 none RX9 := ⟨B.exec, B.bytes, hml, findClass_of_methodNamed B.named, hT, B.returns, B.notSynchronized⟩
  obtain ⟨hx, hb, hml, hown, hT, hr, hlk⟩ := id X
  have hS : va_S (ow E) s.heap s.heap [] := va_S.rf
  have hl := lv_entry ([.ref (ad 20 0), .int x1, .int x2]) (n := 7) (Nat.le_of_ble_eq_true rfl)
  rw [lg_entry_eq]
  generalize (lg_sl ([.ref (ad 20 0), .int x1, .int x2]) ++ List.replicate (7 - (lg_sl ([.ref (ad 20 0), .int x1, .int x2])).length) Slot.unset).toArray = ls at hl ⊢
  have hl : lv_has ls 7 [(0, .ref (ad 20 0)), (1, .int x1), (2, .int x2)] := hl
  unfold f_yX9_does at hf
  refine lv_aload_n hx hb dX9_does_0 rfl (lv_at hl 0 rfl) ?_
  refine g_9_9 X hK hW flRX9_31 dX9_does_1 ?_
  refine lv_iload_n hx hb dX9_does_4 rfl (lv_at hl 2 rfl) ?_
  obtain ⟨b1, hf⟩ := gd_some hf
  refine al_28 X hK hW b1 dX9_does_5 ?_
  refine lv_istore_n (lv' := [(3, .int (N 28 0 x2.toNatClampNeg)), (0, .ref (ad 20 0)), (1, .int x1), (2, .int x2)]) hx hb dX9_does_6 rfl hl (by decide) rfl (fun ls hl => ?_)
  refine lv_bipush (v := 6) hx hb dX9_does_7 (by decide) ?_
  refine lv_iload_n hx hb dX9_does_9 rfl (lv_at hl 2 rfl) ?_
  refine lv_imul hx hb dX9_does_10 ?_
  refine lv_aload_n hx hb dX9_does_11 rfl (lv_at hl 1 rfl) ?_
  refine g_9_9 X hK hW flRX9_31 dX9_does_12 ?_
  refine lv_iload_n hx hb dX9_does_15 rfl (lv_at hl 3 rfl) ?_
  refine lv_iconst (v := 1) hx hb dX9_does_16 (by decide) ?_
  refine lv_iadd hx hb dX9_does_17 ?_
  obtain ⟨b2, hf⟩ := gd_some hf
  refine al_28 X hK hW b2 dX9_does_18 ?_
  refine lv_iadd hx hb dX9_does_19 ?_
  refine lv_istore (lv' := [(4, .int ((6 * x1) + (N 28 0 (x2 + 1).toNatClampNeg))), (3, .int (N 28 0 x2.toNatClampNeg)), (0, .ref (ad 20 0)), (1, .int x1), (2, .int x2)]) hx hb dX9_does_20 hl (by decide) rfl (fun ls hl => ?_)
  refine lv_aload_n hx hb dX9_does_22 rfl (lv_at hl 2 rfl) ?_
  refine g_9_9 X hK hW flRX9_31 dX9_does_23 ?_
  refine lv_iload_n hx hb dX9_does_26 rfl (lv_at hl 4 rfl) ?_
  refine lv_iconst (v := 2) hx hb dX9_does_27 (by decide) ?_
  refine lv_iadd hx hb dX9_does_28 ?_
  obtain ⟨b3, hf⟩ := gd_some hf
  refine al_28 X hK hW b3 dX9_does_29 ?_
  refine lv_istore (lv' := [(5, .int (N 28 0 (x2 + 2).toNatClampNeg)), (4, .int ((6 * x1) + (N 28 0 (x2 + 1).toNatClampNeg))), (3, .int (N 28 0 x2.toNatClampNeg)), (0, .ref (ad 20 0)), (1, .int x1), (2, .int x2)]) hx hb dX9_does_30 hl (by decide) rfl (fun ls hl => ?_)
  refine lv_aload_n hx hb dX9_does_32 rfl (lv_at hl 3 rfl) ?_
  refine g_9_9 X hK hW flRX9_31 dX9_does_33 ?_
  refine lv_iload_n hx hb dX9_does_36 rfl (lv_at hl 5 rfl) ?_
  refine lv_iconst (v := 3) hx hb dX9_does_37 (by decide) ?_
  refine lv_iadd hx hb dX9_does_38 ?_
  obtain ⟨b4, hf⟩ := gd_some hf
  refine al_28 X hK hW b4 dX9_does_39 ?_
  refine lv_istore (lv' := [(6, .int (N 28 0 (x2 + 3).toNatClampNeg)), (5, .int (N 28 0 (x2 + 2).toNatClampNeg)), (4, .int ((6 * x1) + (N 28 0 (x2 + 1).toNatClampNeg))), (3, .int (N 28 0 x2.toNatClampNeg)), (0, .ref (ad 20 0)), (1, .int x1), (2, .int x2)]) hx hb dX9_does_40 hl (by decide) rfl (fun ls hl => ?_)
  refine lv_iload_n hx hb dX9_does_42 rfl (lv_at hl 3 rfl) ?_
  refine lv_bipush (v := 8) hx hb dX9_does_43 (by decide) ?_
  refine lv_icmp_ge (tgt := 69) hx hb dX9_does_45 (by decide) (fun c5 => ?_) (fun c5 => ?_)
  · rw [if_pos c5] at hf
    refine lv_iload_n hx hb dX9_does_69 rfl (lv_at hl 3 rfl) ?_
    refine lv_bipush (v := 12) hx hb dX9_does_70 (by decide) ?_
    refine lv_icmp_ge (tgt := 90) hx hb dX9_does_72 (by decide) (fun c6 => ?_) (fun c6 => ?_)
    · rw [if_pos c6] at hf
      refine lv_iload_n hx hb dX9_does_90 rfl (lv_at hl 3 rfl) ?_
      refine lv_bipush (v := 16) hx hb dX9_does_91 (by decide) ?_
      refine lv_icmp_ge (tgt := 109) hx hb dX9_does_93 (by decide) (fun c7 => ?_) (fun c7 => ?_)
      · rw [if_pos c7] at hf
        refine lv_iload_n hx hb dX9_does_109 rfl (lv_at hl 3 rfl) ?_
        refine lv_bipush (v := 22) hx hb dX9_does_110 (by decide) ?_
        refine lv_icmp_ge (tgt := 130) hx hb dX9_does_112 (by decide) (fun c8 => ?_) (fun c8 => ?_)
        · rw [if_pos c8] at hf
          refine lv_iload_n hx hb dX9_does_130 rfl (lv_at hl 3 rfl) ?_
          refine lv_bipush (v := 27) hx hb dX9_does_131 (by decide) ?_
          refine lv_icmp_ge (tgt := 149) hx hb dX9_does_133 (by decide) (fun c9 => ?_) (fun c9 => ?_)
          · rw [if_pos c9] at hf
            refine lv_iload_n hx hb dX9_does_149 rfl (lv_at hl 3 rfl) ?_
            refine lv_bipush (v := 31) hx hb dX9_does_150 (by decide) ?_
            refine lv_icmp_ge (tgt := 171) hx hb dX9_does_152 (by decide) (fun c10 => ?_) (fun c10 => ?_)
            · rw [if_pos c10] at hf
              refine lv_aload_n hx hb dX9_does_171 rfl (lv_at hl 4 rfl) ?_
              refine lv_iload_n hx hb dX9_does_172 rfl (lv_at hl 5 rfl) ?_
              refine lv_iload_n hx hb dX9_does_173 rfl (lv_at hl 3 rfl) ?_
              refine lv_aload_n hx hb dX9_does_174 rfl (lv_at hl 4 rfl) ?_
              refine g_9_9 X hK hW flRX9_31 dX9_does_175 ?_
              refine lv_iload_n hx hb dX9_does_178 rfl (lv_at hl 6 rfl) ?_
              refine lv_iconst (v := 1) hx hb dX9_does_179 (by decide) ?_
              refine lv_iadd hx hb dX9_does_180 ?_
              refine al_28 X hK hW b2 dX9_does_181 ?_
              refine lv_iload hx hb dX9_does_182 (lv_at hl 1 rfl) ?_
              obtain ⟨N12, h11, hf⟩ := ob1_some hf
              refine k_yX9_rests X hK hZ hW hS hl.1 h11 mlRX9_242 ⟨Nat.le_of_ble_eq_true rfl, Nat.le_of_ble_eq_true rfl⟩ ⟨Nat.le_of_ble_eq_true rfl, Nat.le_of_ble_eq_true rfl⟩ (Nat.le_of_ble_eq_true rfl) dX9_does_184 (fun H locs hW hS => ?_)
              obtain rfl := sp1 hf
              exact e_v ⟨hx, hb, hr, hlk⟩ hW hS dX9_does_187
            · rw [if_neg c10] at hf
              refine lv_aload_n hx hb dX9_does_155 rfl (lv_at hl 4 rfl) ?_
              refine lv_iload_n hx hb dX9_does_156 rfl (lv_at hl 5 rfl) ?_
              refine lv_iload_n hx hb dX9_does_157 rfl (lv_at hl 3 rfl) ?_
              refine lv_aload_n hx hb dX9_does_158 rfl (lv_at hl 4 rfl) ?_
              refine g_9_30 X hK hW flRX9_95 dX9_does_159 ?_
              refine lv_iload hx hb dX9_does_162 (lv_at hl 2 rfl) ?_
              obtain ⟨b13, hf⟩ := gd_some hf
              refine al_49 X hK hW b13 dX9_does_164 ?_
              obtain ⟨N15, h14, hf⟩ := ob1_some hf
              refine k_yX9_stops X hK hZ hW hS hl.1 h14 mlRX9_239 ⟨Nat.le_of_ble_eq_true rfl, Nat.le_of_ble_eq_true rfl⟩ ⟨Nat.le_of_ble_eq_true rfl, Nat.le_of_ble_eq_true rfl⟩ (Nat.le_of_ble_eq_true rfl) dX9_does_165 (fun H locs hW hS => ?_)
              refine lv_goto (tgt := 187) hx hb dX9_does_168 (by decide) ?_
              obtain rfl := sp1 hf
              exact e_v ⟨hx, hb, hr, hlk⟩ hW hS dX9_does_187
          · rw [if_neg c9] at hf
            refine lv_aload_n hx hb dX9_does_136 rfl (lv_at hl 4 rfl) ?_
            refine lv_iload_n hx hb dX9_does_137 rfl (lv_at hl 5 rfl) ?_
            refine lv_iload_n hx hb dX9_does_138 rfl (lv_at hl 3 rfl) ?_
            refine lv_iload hx hb dX9_does_139 (lv_at hl 2 rfl) ?_
            refine lv_iload hx hb dX9_does_141 (lv_at hl 1 rfl) ?_
            obtain ⟨N17, h16, hf⟩ := ob1_some hf
            refine k_yX9_enters X hK hZ hW hS hl.1 h16 mlRX9_236 ⟨Nat.le_of_ble_eq_true rfl, Nat.le_of_ble_eq_true rfl⟩ ⟨Nat.le_of_ble_eq_true rfl, Nat.le_of_ble_eq_true rfl⟩ (Nat.le_of_ble_eq_true rfl) dX9_does_143 (fun H locs hW hS => ?_)
            refine lv_goto (tgt := 187) hx hb dX9_does_146 (by decide) ?_
            obtain rfl := sp1 hf
            exact e_v ⟨hx, hb, hr, hlk⟩ hW hS dX9_does_187
        · rw [if_neg c8] at hf
          refine lv_aload_n hx hb dX9_does_115 rfl (lv_at hl 4 rfl) ?_
          refine lv_iload_n hx hb dX9_does_116 rfl (lv_at hl 5 rfl) ?_
          refine lv_iload_n hx hb dX9_does_117 rfl (lv_at hl 3 rfl) ?_
          refine lv_iload hx hb dX9_does_118 (lv_at hl 2 rfl) ?_
          refine lv_iload hx hb dX9_does_120 (lv_at hl 1 rfl) ?_
          refine lv_iload hx hb dX9_does_122 (lv_at hl 0 rfl) ?_
          obtain ⟨N19, h18, hf⟩ := ob1_some hf
          refine k_yX9_rows X hK hZ hW hS hl.1 h18 mlRX9_233 ⟨Nat.le_of_ble_eq_true rfl, Nat.le_of_ble_eq_true rfl⟩ ⟨Nat.le_of_ble_eq_true rfl, Nat.le_of_ble_eq_true rfl⟩ (Nat.le_of_ble_eq_true rfl) dX9_does_124 (fun H locs hW hS => ?_)
          refine lv_goto (tgt := 187) hx hb dX9_does_127 (by decide) ?_
          obtain rfl := sp1 hf
          exact e_v ⟨hx, hb, hr, hlk⟩ hW hS dX9_does_187
      · rw [if_neg c7] at hf
        refine lv_aload_n hx hb dX9_does_96 rfl (lv_at hl 4 rfl) ?_
        refine lv_iload_n hx hb dX9_does_97 rfl (lv_at hl 5 rfl) ?_
        refine lv_iload_n hx hb dX9_does_98 rfl (lv_at hl 3 rfl) ?_
        refine lv_iload hx hb dX9_does_99 (lv_at hl 2 rfl) ?_
        refine lv_iload hx hb dX9_does_101 (lv_at hl 1 rfl) ?_
        obtain ⟨N21, h20, hf⟩ := ob1_some hf
        refine k_yX9_boxes X hK hZ hW hS hl.1 h20 mlRX9_229 ⟨Nat.le_of_ble_eq_true rfl, Nat.le_of_ble_eq_true rfl⟩ ⟨Nat.le_of_ble_eq_true rfl, Nat.le_of_ble_eq_true rfl⟩ (Nat.le_of_ble_eq_true rfl) dX9_does_103 (fun H locs hW hS => ?_)
        refine lv_goto (tgt := 187) hx hb dX9_does_106 (by decide) ?_
        obtain rfl := sp1 hf
        exact e_v ⟨hx, hb, hr, hlk⟩ hW hS dX9_does_187
    · rw [if_neg c6] at hf
      refine lv_aload_n hx hb dX9_does_75 rfl (lv_at hl 4 rfl) ?_
      refine lv_iload_n hx hb dX9_does_76 rfl (lv_at hl 5 rfl) ?_
      refine lv_iload_n hx hb dX9_does_77 rfl (lv_at hl 3 rfl) ?_
      refine lv_iload hx hb dX9_does_78 (lv_at hl 2 rfl) ?_
      refine lv_iload hx hb dX9_does_80 (lv_at hl 1 rfl) ?_
      refine lv_iload hx hb dX9_does_82 (lv_at hl 0 rfl) ?_
      obtain ⟨N23, h22, hf⟩ := ob1_some hf
      refine k_yX9_holds X hK hZ hW hS hl.1 h22 mlRX9_226 ⟨Nat.le_of_ble_eq_true rfl, Nat.le_of_ble_eq_true rfl⟩ ⟨Nat.le_of_ble_eq_true rfl, Nat.le_of_ble_eq_true rfl⟩ (Nat.le_of_ble_eq_true rfl) dX9_does_84 (fun H locs hW hS => ?_)
      refine lv_goto (tgt := 187) hx hb dX9_does_87 (by decide) ?_
      obtain rfl := sp1 hf
      exact e_v ⟨hx, hb, hr, hlk⟩ hW hS dX9_does_187
  · rw [if_neg c5] at hf
    refine lv_aload_n hx hb dX9_does_48 rfl (lv_at hl 4 rfl) ?_
    refine lv_iload_n hx hb dX9_does_49 rfl (lv_at hl 5 rfl) ?_
    refine lv_iload_n hx hb dX9_does_50 rfl (lv_at hl 3 rfl) ?_
    refine lv_aload_n hx hb dX9_does_51 rfl (lv_at hl 4 rfl) ?_
    refine g_9_9 X hK hW flRX9_31 dX9_does_52 ?_
    refine lv_iload_n hx hb dX9_does_55 rfl (lv_at hl 6 rfl) ?_
    refine lv_iconst (v := 1) hx hb dX9_does_56 (by decide) ?_
    refine lv_iadd hx hb dX9_does_57 ?_
    refine al_28 X hK hW b2 dX9_does_58 ?_
    refine lv_iload hx hb dX9_does_59 (lv_at hl 1 rfl) ?_
    refine lv_iload hx hb dX9_does_61 (lv_at hl 0 rfl) ?_
    obtain ⟨N25, h24, hf⟩ := ob1_some hf
    refine k_yX9_numbers X hK hZ hW hS hl.1 h24 mlRX9_222 ⟨Nat.le_of_ble_eq_true rfl, Nat.le_of_ble_eq_true rfl⟩ ⟨Nat.le_of_ble_eq_true rfl, Nat.le_of_ble_eq_true rfl⟩ (Nat.le_of_ble_eq_true rfl) dX9_does_63 (fun H locs hW hS => ?_)
    refine lv_goto (tgt := 187) hx hb dX9_does_66 (by decide) ?_
    obtain rfl := sp1 hf
    exact e_v ⟨hx, hb, hr, hlk⟩ hW hS dX9_does_187
set_option maxRecDepth 100000 in
set_option maxHeartbeats 4000000 in
theorem k_yX9_does {p : Program} {l : Launch} {e : Env} {R : Room} {s : State} {m : MethodId} {args : Array Value} {below : List Frame} {meth : Method} {c : Code} {H : Heap} {locs : List Loc} {cells slots : Nat} {Q : State → Prop} {cc : ByteArray} {pc nL index : Nat} {ret : Option FieldType} {own : String} {ls : Array Slot} {rest : List Value} {E : Lay} {ad : Nat → Nat → Nat} {M N : Mem} (X : CX p s m args meth c cc nL ret own) (hK : KK E s) (hZ : ZZ E s) (hW : WD E ad (M, N) H) (hS : va_S (ow E) s.heap H locs) (hsz : ls.size = nL) {x1 : Int32} {x2 : Int32} {Nr : Mem} (hf : f_yX9_does N x1 x2 = some Nr) (hn : Cond.methodLink own index yX9_does ∈ TB) (hR : 5 + 1 ≤ R.frames ∧ 8 + (7 + 11) + 123 ≤ R.locals) (hC : cells ≤ R.cells ∧ slots ≤ R.slots) (h8 : (rest.map fun v => v.category).sum ≤ 8) (hdg : decode cc pc = .ok (.invokevirtual index, 3)) (kk : ∀ (H1 : Heap) (locs1 : List Loc), WD E ad (M, Nr) H1 → va_S (ow E) s.heap H1 locs1 → W p l e R s m args below meth c H1 locs1 cells slots Q (F0 m (pc + 3) ls (rest))) : W p l e R s m args below meth c H locs cells slots Q (F0 m pc ls (.int x2 :: .int x1 :: .ref (ad 20 0) :: rest)) := by
  refine va_callv (va_runV (C := RX9) (As := [.int x1, .int x2]) (rest := rest) ⟨X.1, X.2.1, X.2.2.1, X.2.2.2.1, X.2.2.2.2.1⟩ (c_yX9_does l E ad M N x1 x2 Nr hf) (cwV 2 X.2.2.2.2.1 (gV hn im_yX9_does se_yX9_does iniRX9 cd_yX9_does) rfl rfl rfl (by decide +kernel) hR) ⟨fun a U g mk q => ⟨q.1, q.2.calling⟩, va_recv hK.1 (hW.at (c := 20) (i := 0) Nat.zero_lt_one rfl) (ci := 9) (q0 := 0) rfl rfl, fun U hU hw => ⟨rfl, PB.at hW hK hZ hS hU hw⟩⟩ rfl rfl hsz rfl (lv_room h8) hdg hC) hS (fun _ _ h => h) (fun _ h => h) (fun u t H1 locs1 ht hvm hw hB hz1 hk1 hS1 => ?_)
  subst hw
  rw [ht] at hB
  exact kk H1 locs1 hB hS1
def f_yX9_goes_L12 : Nat → Mem → Int32 → Option (Int32 × Mem)
  | 0, _, _ => none
  | n + 1, N0, y1 => (if 6 ≤ y1 then ob1 (f_yX9_chosen N0) (fun r4 => (if r4 = (-4) then (some ((-5), N0)) else lt1 (mp N0 20 0 5 r4) (fun N6 => gd (¬ (r4 < 0 ∨ 6 ≤ r4.toNatClampNeg)) (lt1 (mp N6 20 0 7 0) (fun N8 => lt1 (mp N8 20 0 8 0) (fun N9 => (if (N9 36 0 r4.toNatClampNeg) = 0 then gd (¬ ((N9 32 0 r4.toNatClampNeg) < 0 ∨ 8 ≤ (N9 32 0 r4.toNatClampNeg).toNatClampNeg)) ((if (N6 34 0 r4.toNatClampNeg) < (N9 29 0 (N9 32 0 r4.toNatClampNeg).toNatClampNeg) then lt1 (mp N9 34 0 r4.toNatClampNeg ((N9 34 0 r4.toNatClampNeg) + 1)) (fun N13 => lt1 (mp N13 43 0 r4.toNatClampNeg ((N13 43 0 r4.toNatClampNeg) + 1)) (fun N14 => lt1 (mp N14 20 0 11 ((N14 20 0 11) + 1)) (fun N15 => ob1 (f_yX9_does N15 r4 (4 * ((40 * (N15 32 0 r4.toNatClampNeg)) + (N6 34 0 r4.toNatClampNeg)))) (fun N17 => (if (N17 20 0 7) ≤ 0 then lt1 (mp N17 34 0 r4.toNatClampNeg (N17 34 0 r4.toNatClampNeg)) (fun N19 => (if (N19 20 0 7) ≤ 0 then (if (N19 31 0 r4.toNatClampNeg) = 2 then gd (¬ ((N19 32 0 r4.toNatClampNeg) < 0 ∨ 8 ≤ (N19 32 0 r4.toNatClampNeg).toNatClampNeg)) ((if (N19 34 0 r4.toNatClampNeg) < (N19 29 0 (N19 32 0 r4.toNatClampNeg).toNatClampNeg) then gd (¬ ((3 * ((N19 20 0 12) - (N19 20 0 12) / 60 * 60)) < 0 ∨ 180 ≤ (3 * ((N19 20 0 12) - (N19 20 0 12) / 60 * 60)).toNatClampNeg)) (lt1 (mp N19 52 0 (3 * ((N19 20 0 12) - (N19 20 0 12) / 60 * 60)).toNatClampNeg r4) (fun N32 => gd (¬ (((3 * ((N19 20 0 12) - (N19 20 0 12) / 60 * 60)) + 1) < 0 ∨ 180 ≤ ((3 * ((N19 20 0 12) - (N19 20 0 12) / 60 * 60)) + 1).toNatClampNeg)) (lt1 (mp N32 52 0 ((3 * ((N19 20 0 12) - (N19 20 0 12) / 60 * 60)) + 1).toNatClampNeg (N6 34 0 r4.toNatClampNeg)) (fun N34 => gd (¬ (((3 * ((N19 20 0 12) - (N19 20 0 12) / 60 * 60)) + 2) < 0 ∨ 180 ≤ ((3 * ((N19 20 0 12) - (N19 20 0 12) / 60 * 60)) + 2).toNatClampNeg)) (lt1 (mp N34 52 0 ((3 * ((N19 20 0 12) - (N19 20 0 12) / 60 * 60)) + 2).toNatClampNeg (N34 20 0 7)) (fun N36 => lt1 (mp N36 20 0 12 ((N36 20 0 12) + 1)) (fun N37 => (some (r4, N37))))))))) else ob1 (f_yX9_ends N19 r4 0 0) (fun N39 => gd (¬ ((3 * ((N39 20 0 12) - (N39 20 0 12) / 60 * 60)) < 0 ∨ 180 ≤ (3 * ((N39 20 0 12) - (N39 20 0 12) / 60 * 60)).toNatClampNeg)) (lt1 (mp N39 52 0 (3 * ((N39 20 0 12) - (N39 20 0 12) / 60 * 60)).toNatClampNeg r4) (fun N41 => gd (¬ (((3 * ((N39 20 0 12) - (N39 20 0 12) / 60 * 60)) + 1) < 0 ∨ 180 ≤ ((3 * ((N39 20 0 12) - (N39 20 0 12) / 60 * 60)) + 1).toNatClampNeg)) (lt1 (mp N41 52 0 ((3 * ((N39 20 0 12) - (N39 20 0 12) / 60 * 60)) + 1).toNatClampNeg (N6 34 0 r4.toNatClampNeg)) (fun N43 => gd (¬ (((3 * ((N39 20 0 12) - (N39 20 0 12) / 60 * 60)) + 2) < 0 ∨ 180 ≤ ((3 * ((N39 20 0 12) - (N39 20 0 12) / 60 * 60)) + 2).toNatClampNeg)) (lt1 (mp N43 52 0 ((3 * ((N39 20 0 12) - (N39 20 0 12) / 60 * 60)) + 2).toNatClampNeg (N43 20 0 7)) (fun N45 => lt1 (mp N45 20 0 12 ((N45 20 0 12) + 1)) (fun N46 => (some (r4, N46)))))))))))) else gd (¬ ((3 * ((N19 20 0 12) - (N19 20 0 12) / 60 * 60)) < 0 ∨ 180 ≤ (3 * ((N19 20 0 12) - (N19 20 0 12) / 60 * 60)).toNatClampNeg)) (lt1 (mp N19 52 0 (3 * ((N19 20 0 12) - (N19 20 0 12) / 60 * 60)).toNatClampNeg r4) (fun N23 => gd (¬ (((3 * ((N19 20 0 12) - (N19 20 0 12) / 60 * 60)) + 1) < 0 ∨ 180 ≤ ((3 * ((N19 20 0 12) - (N19 20 0 12) / 60 * 60)) + 1).toNatClampNeg)) (lt1 (mp N23 52 0 ((3 * ((N19 20 0 12) - (N19 20 0 12) / 60 * 60)) + 1).toNatClampNeg (N6 34 0 r4.toNatClampNeg)) (fun N25 => gd (¬ (((3 * ((N19 20 0 12) - (N19 20 0 12) / 60 * 60)) + 2) < 0 ∨ 180 ≤ ((3 * ((N19 20 0 12) - (N19 20 0 12) / 60 * 60)) + 2).toNatClampNeg)) (lt1 (mp N25 52 0 ((3 * ((N19 20 0 12) - (N19 20 0 12) / 60 * 60)) + 2).toNatClampNeg (N25 20 0 7)) (fun N27 => lt1 (mp N27 20 0 12 ((N27 20 0 12) + 1)) (fun N28 => (some (r4, N28)))))))))) else ob1 (f_yX9_fails N19 r4) (fun N48 => (if (N48 31 0 r4.toNatClampNeg) = 2 then gd (¬ ((N48 32 0 r4.toNatClampNeg) < 0 ∨ 8 ≤ (N48 32 0 r4.toNatClampNeg).toNatClampNeg)) ((if (N48 34 0 r4.toNatClampNeg) < (N48 29 0 (N48 32 0 r4.toNatClampNeg).toNatClampNeg) then gd (¬ ((3 * ((N48 20 0 12) - (N48 20 0 12) / 60 * 60)) < 0 ∨ 180 ≤ (3 * ((N48 20 0 12) - (N48 20 0 12) / 60 * 60)).toNatClampNeg)) (lt1 (mp N48 52 0 (3 * ((N48 20 0 12) - (N48 20 0 12) / 60 * 60)).toNatClampNeg r4) (fun N60 => gd (¬ (((3 * ((N48 20 0 12) - (N48 20 0 12) / 60 * 60)) + 1) < 0 ∨ 180 ≤ ((3 * ((N48 20 0 12) - (N48 20 0 12) / 60 * 60)) + 1).toNatClampNeg)) (lt1 (mp N60 52 0 ((3 * ((N48 20 0 12) - (N48 20 0 12) / 60 * 60)) + 1).toNatClampNeg (N6 34 0 r4.toNatClampNeg)) (fun N62 => gd (¬ (((3 * ((N48 20 0 12) - (N48 20 0 12) / 60 * 60)) + 2) < 0 ∨ 180 ≤ ((3 * ((N48 20 0 12) - (N48 20 0 12) / 60 * 60)) + 2).toNatClampNeg)) (lt1 (mp N62 52 0 ((3 * ((N48 20 0 12) - (N48 20 0 12) / 60 * 60)) + 2).toNatClampNeg (N62 20 0 7)) (fun N64 => lt1 (mp N64 20 0 12 ((N64 20 0 12) + 1)) (fun N65 => (some (r4, N65))))))))) else ob1 (f_yX9_ends N48 r4 0 0) (fun N67 => gd (¬ ((3 * ((N67 20 0 12) - (N67 20 0 12) / 60 * 60)) < 0 ∨ 180 ≤ (3 * ((N67 20 0 12) - (N67 20 0 12) / 60 * 60)).toNatClampNeg)) (lt1 (mp N67 52 0 (3 * ((N67 20 0 12) - (N67 20 0 12) / 60 * 60)).toNatClampNeg r4) (fun N69 => gd (¬ (((3 * ((N67 20 0 12) - (N67 20 0 12) / 60 * 60)) + 1) < 0 ∨ 180 ≤ ((3 * ((N67 20 0 12) - (N67 20 0 12) / 60 * 60)) + 1).toNatClampNeg)) (lt1 (mp N69 52 0 ((3 * ((N67 20 0 12) - (N67 20 0 12) / 60 * 60)) + 1).toNatClampNeg (N6 34 0 r4.toNatClampNeg)) (fun N71 => gd (¬ (((3 * ((N67 20 0 12) - (N67 20 0 12) / 60 * 60)) + 2) < 0 ∨ 180 ≤ ((3 * ((N67 20 0 12) - (N67 20 0 12) / 60 * 60)) + 2).toNatClampNeg)) (lt1 (mp N71 52 0 ((3 * ((N67 20 0 12) - (N67 20 0 12) / 60 * 60)) + 2).toNatClampNeg (N71 20 0 7)) (fun N73 => lt1 (mp N73 20 0 12 ((N73 20 0 12) + 1)) (fun N74 => (some (r4, N74)))))))))))) else gd (¬ ((3 * ((N48 20 0 12) - (N48 20 0 12) / 60 * 60)) < 0 ∨ 180 ≤ (3 * ((N48 20 0 12) - (N48 20 0 12) / 60 * 60)).toNatClampNeg)) (lt1 (mp N48 52 0 (3 * ((N48 20 0 12) - (N48 20 0 12) / 60 * 60)).toNatClampNeg r4) (fun N51 => gd (¬ (((3 * ((N48 20 0 12) - (N48 20 0 12) / 60 * 60)) + 1) < 0 ∨ 180 ≤ ((3 * ((N48 20 0 12) - (N48 20 0 12) / 60 * 60)) + 1).toNatClampNeg)) (lt1 (mp N51 52 0 ((3 * ((N48 20 0 12) - (N48 20 0 12) / 60 * 60)) + 1).toNatClampNeg (N6 34 0 r4.toNatClampNeg)) (fun N53 => gd (¬ (((3 * ((N48 20 0 12) - (N48 20 0 12) / 60 * 60)) + 2) < 0 ∨ 180 ≤ ((3 * ((N48 20 0 12) - (N48 20 0 12) / 60 * 60)) + 2).toNatClampNeg)) (lt1 (mp N53 52 0 ((3 * ((N48 20 0 12) - (N48 20 0 12) / 60 * 60)) + 2).toNatClampNeg (N53 20 0 7)) (fun N55 => lt1 (mp N55 20 0 12 ((N55 20 0 12) + 1)) (fun N56 => (some (r4, N56))))))))))))) else lt1 (mp N17 34 0 r4.toNatClampNeg (N6 34 0 r4.toNatClampNeg)) (fun N75 => (if (N75 20 0 7) ≤ 0 then (if (N75 31 0 r4.toNatClampNeg) = 2 then gd (¬ ((N75 32 0 r4.toNatClampNeg) < 0 ∨ 8 ≤ (N75 32 0 r4.toNatClampNeg).toNatClampNeg)) ((if (N75 34 0 r4.toNatClampNeg) < (N75 29 0 (N75 32 0 r4.toNatClampNeg).toNatClampNeg) then gd (¬ ((3 * ((N75 20 0 12) - (N75 20 0 12) / 60 * 60)) < 0 ∨ 180 ≤ (3 * ((N75 20 0 12) - (N75 20 0 12) / 60 * 60)).toNatClampNeg)) (lt1 (mp N75 52 0 (3 * ((N75 20 0 12) - (N75 20 0 12) / 60 * 60)).toNatClampNeg r4) (fun N88 => gd (¬ (((3 * ((N75 20 0 12) - (N75 20 0 12) / 60 * 60)) + 1) < 0 ∨ 180 ≤ ((3 * ((N75 20 0 12) - (N75 20 0 12) / 60 * 60)) + 1).toNatClampNeg)) (lt1 (mp N88 52 0 ((3 * ((N75 20 0 12) - (N75 20 0 12) / 60 * 60)) + 1).toNatClampNeg (N6 34 0 r4.toNatClampNeg)) (fun N90 => gd (¬ (((3 * ((N75 20 0 12) - (N75 20 0 12) / 60 * 60)) + 2) < 0 ∨ 180 ≤ ((3 * ((N75 20 0 12) - (N75 20 0 12) / 60 * 60)) + 2).toNatClampNeg)) (lt1 (mp N90 52 0 ((3 * ((N75 20 0 12) - (N75 20 0 12) / 60 * 60)) + 2).toNatClampNeg (N90 20 0 7)) (fun N92 => lt1 (mp N92 20 0 12 ((N92 20 0 12) + 1)) (fun N93 => (some (r4, N93))))))))) else ob1 (f_yX9_ends N75 r4 0 0) (fun N95 => gd (¬ ((3 * ((N95 20 0 12) - (N95 20 0 12) / 60 * 60)) < 0 ∨ 180 ≤ (3 * ((N95 20 0 12) - (N95 20 0 12) / 60 * 60)).toNatClampNeg)) (lt1 (mp N95 52 0 (3 * ((N95 20 0 12) - (N95 20 0 12) / 60 * 60)).toNatClampNeg r4) (fun N97 => gd (¬ (((3 * ((N95 20 0 12) - (N95 20 0 12) / 60 * 60)) + 1) < 0 ∨ 180 ≤ ((3 * ((N95 20 0 12) - (N95 20 0 12) / 60 * 60)) + 1).toNatClampNeg)) (lt1 (mp N97 52 0 ((3 * ((N95 20 0 12) - (N95 20 0 12) / 60 * 60)) + 1).toNatClampNeg (N6 34 0 r4.toNatClampNeg)) (fun N99 => gd (¬ (((3 * ((N95 20 0 12) - (N95 20 0 12) / 60 * 60)) + 2) < 0 ∨ 180 ≤ ((3 * ((N95 20 0 12) - (N95 20 0 12) / 60 * 60)) + 2).toNatClampNeg)) (lt1 (mp N99 52 0 ((3 * ((N95 20 0 12) - (N95 20 0 12) / 60 * 60)) + 2).toNatClampNeg (N99 20 0 7)) (fun N101 => lt1 (mp N101 20 0 12 ((N101 20 0 12) + 1)) (fun N102 => (some (r4, N102)))))))))))) else gd (¬ ((3 * ((N75 20 0 12) - (N75 20 0 12) / 60 * 60)) < 0 ∨ 180 ≤ (3 * ((N75 20 0 12) - (N75 20 0 12) / 60 * 60)).toNatClampNeg)) (lt1 (mp N75 52 0 (3 * ((N75 20 0 12) - (N75 20 0 12) / 60 * 60)).toNatClampNeg r4) (fun N79 => gd (¬ (((3 * ((N75 20 0 12) - (N75 20 0 12) / 60 * 60)) + 1) < 0 ∨ 180 ≤ ((3 * ((N75 20 0 12) - (N75 20 0 12) / 60 * 60)) + 1).toNatClampNeg)) (lt1 (mp N79 52 0 ((3 * ((N75 20 0 12) - (N75 20 0 12) / 60 * 60)) + 1).toNatClampNeg (N6 34 0 r4.toNatClampNeg)) (fun N81 => gd (¬ (((3 * ((N75 20 0 12) - (N75 20 0 12) / 60 * 60)) + 2) < 0 ∨ 180 ≤ ((3 * ((N75 20 0 12) - (N75 20 0 12) / 60 * 60)) + 2).toNatClampNeg)) (lt1 (mp N81 52 0 ((3 * ((N75 20 0 12) - (N75 20 0 12) / 60 * 60)) + 2).toNatClampNeg (N81 20 0 7)) (fun N83 => lt1 (mp N83 20 0 12 ((N83 20 0 12) + 1)) (fun N84 => (some (r4, N84)))))))))) else ob1 (f_yX9_fails N75 r4) (fun N104 => (if (N104 31 0 r4.toNatClampNeg) = 2 then gd (¬ ((N104 32 0 r4.toNatClampNeg) < 0 ∨ 8 ≤ (N104 32 0 r4.toNatClampNeg).toNatClampNeg)) ((if (N104 34 0 r4.toNatClampNeg) < (N104 29 0 (N104 32 0 r4.toNatClampNeg).toNatClampNeg) then gd (¬ ((3 * ((N104 20 0 12) - (N104 20 0 12) / 60 * 60)) < 0 ∨ 180 ≤ (3 * ((N104 20 0 12) - (N104 20 0 12) / 60 * 60)).toNatClampNeg)) (lt1 (mp N104 52 0 (3 * ((N104 20 0 12) - (N104 20 0 12) / 60 * 60)).toNatClampNeg r4) (fun N116 => gd (¬ (((3 * ((N104 20 0 12) - (N104 20 0 12) / 60 * 60)) + 1) < 0 ∨ 180 ≤ ((3 * ((N104 20 0 12) - (N104 20 0 12) / 60 * 60)) + 1).toNatClampNeg)) (lt1 (mp N116 52 0 ((3 * ((N104 20 0 12) - (N104 20 0 12) / 60 * 60)) + 1).toNatClampNeg (N6 34 0 r4.toNatClampNeg)) (fun N118 => gd (¬ (((3 * ((N104 20 0 12) - (N104 20 0 12) / 60 * 60)) + 2) < 0 ∨ 180 ≤ ((3 * ((N104 20 0 12) - (N104 20 0 12) / 60 * 60)) + 2).toNatClampNeg)) (lt1 (mp N118 52 0 ((3 * ((N104 20 0 12) - (N104 20 0 12) / 60 * 60)) + 2).toNatClampNeg (N118 20 0 7)) (fun N120 => lt1 (mp N120 20 0 12 ((N120 20 0 12) + 1)) (fun N121 => (some (r4, N121))))))))) else ob1 (f_yX9_ends N104 r4 0 0) (fun N123 => gd (¬ ((3 * ((N123 20 0 12) - (N123 20 0 12) / 60 * 60)) < 0 ∨ 180 ≤ (3 * ((N123 20 0 12) - (N123 20 0 12) / 60 * 60)).toNatClampNeg)) (lt1 (mp N123 52 0 (3 * ((N123 20 0 12) - (N123 20 0 12) / 60 * 60)).toNatClampNeg r4) (fun N125 => gd (¬ (((3 * ((N123 20 0 12) - (N123 20 0 12) / 60 * 60)) + 1) < 0 ∨ 180 ≤ ((3 * ((N123 20 0 12) - (N123 20 0 12) / 60 * 60)) + 1).toNatClampNeg)) (lt1 (mp N125 52 0 ((3 * ((N123 20 0 12) - (N123 20 0 12) / 60 * 60)) + 1).toNatClampNeg (N6 34 0 r4.toNatClampNeg)) (fun N127 => gd (¬ (((3 * ((N123 20 0 12) - (N123 20 0 12) / 60 * 60)) + 2) < 0 ∨ 180 ≤ ((3 * ((N123 20 0 12) - (N123 20 0 12) / 60 * 60)) + 2).toNatClampNeg)) (lt1 (mp N127 52 0 ((3 * ((N123 20 0 12) - (N123 20 0 12) / 60 * 60)) + 2).toNatClampNeg (N127 20 0 7)) (fun N129 => lt1 (mp N129 20 0 12 ((N129 20 0 12) + 1)) (fun N130 => (some (r4, N130)))))))))))) else gd (¬ ((3 * ((N104 20 0 12) - (N104 20 0 12) / 60 * 60)) < 0 ∨ 180 ≤ (3 * ((N104 20 0 12) - (N104 20 0 12) / 60 * 60)).toNatClampNeg)) (lt1 (mp N104 52 0 (3 * ((N104 20 0 12) - (N104 20 0 12) / 60 * 60)).toNatClampNeg r4) (fun N107 => gd (¬ (((3 * ((N104 20 0 12) - (N104 20 0 12) / 60 * 60)) + 1) < 0 ∨ 180 ≤ ((3 * ((N104 20 0 12) - (N104 20 0 12) / 60 * 60)) + 1).toNatClampNeg)) (lt1 (mp N107 52 0 ((3 * ((N104 20 0 12) - (N104 20 0 12) / 60 * 60)) + 1).toNatClampNeg (N6 34 0 r4.toNatClampNeg)) (fun N109 => gd (¬ (((3 * ((N104 20 0 12) - (N104 20 0 12) / 60 * 60)) + 2) < 0 ∨ 180 ≤ ((3 * ((N104 20 0 12) - (N104 20 0 12) / 60 * 60)) + 2).toNatClampNeg)) (lt1 (mp N109 52 0 ((3 * ((N104 20 0 12) - (N104 20 0 12) / 60 * 60)) + 2).toNatClampNeg (N109 20 0 7)) (fun N111 => lt1 (mp N111 20 0 12 ((N111 20 0 12) + 1)) (fun N112 => (some (r4, N112)))))))))))))))))) else ob1 (f_yX9_ends N9 r4 0 0) (fun N132 => (if (N132 20 0 7) ≤ 0 then (if (N132 31 0 r4.toNatClampNeg) = 2 then gd (¬ ((N132 32 0 r4.toNatClampNeg) < 0 ∨ 8 ≤ (N132 32 0 r4.toNatClampNeg).toNatClampNeg)) ((if (N132 34 0 r4.toNatClampNeg) < (N132 29 0 (N132 32 0 r4.toNatClampNeg).toNatClampNeg) then gd (¬ ((3 * ((N132 20 0 12) - (N132 20 0 12) / 60 * 60)) < 0 ∨ 180 ≤ (3 * ((N132 20 0 12) - (N132 20 0 12) / 60 * 60)).toNatClampNeg)) (lt1 (mp N132 52 0 (3 * ((N132 20 0 12) - (N132 20 0 12) / 60 * 60)).toNatClampNeg r4) (fun N145 => gd (¬ (((3 * ((N132 20 0 12) - (N132 20 0 12) / 60 * 60)) + 1) < 0 ∨ 180 ≤ ((3 * ((N132 20 0 12) - (N132 20 0 12) / 60 * 60)) + 1).toNatClampNeg)) (lt1 (mp N145 52 0 ((3 * ((N132 20 0 12) - (N132 20 0 12) / 60 * 60)) + 1).toNatClampNeg (N6 34 0 r4.toNatClampNeg)) (fun N147 => gd (¬ (((3 * ((N132 20 0 12) - (N132 20 0 12) / 60 * 60)) + 2) < 0 ∨ 180 ≤ ((3 * ((N132 20 0 12) - (N132 20 0 12) / 60 * 60)) + 2).toNatClampNeg)) (lt1 (mp N147 52 0 ((3 * ((N132 20 0 12) - (N132 20 0 12) / 60 * 60)) + 2).toNatClampNeg (N147 20 0 7)) (fun N149 => lt1 (mp N149 20 0 12 ((N149 20 0 12) + 1)) (fun N150 => (some (r4, N150))))))))) else ob1 (f_yX9_ends N132 r4 0 0) (fun N152 => gd (¬ ((3 * ((N152 20 0 12) - (N152 20 0 12) / 60 * 60)) < 0 ∨ 180 ≤ (3 * ((N152 20 0 12) - (N152 20 0 12) / 60 * 60)).toNatClampNeg)) (lt1 (mp N152 52 0 (3 * ((N152 20 0 12) - (N152 20 0 12) / 60 * 60)).toNatClampNeg r4) (fun N154 => gd (¬ (((3 * ((N152 20 0 12) - (N152 20 0 12) / 60 * 60)) + 1) < 0 ∨ 180 ≤ ((3 * ((N152 20 0 12) - (N152 20 0 12) / 60 * 60)) + 1).toNatClampNeg)) (lt1 (mp N154 52 0 ((3 * ((N152 20 0 12) - (N152 20 0 12) / 60 * 60)) + 1).toNatClampNeg (N6 34 0 r4.toNatClampNeg)) (fun N156 => gd (¬ (((3 * ((N152 20 0 12) - (N152 20 0 12) / 60 * 60)) + 2) < 0 ∨ 180 ≤ ((3 * ((N152 20 0 12) - (N152 20 0 12) / 60 * 60)) + 2).toNatClampNeg)) (lt1 (mp N156 52 0 ((3 * ((N152 20 0 12) - (N152 20 0 12) / 60 * 60)) + 2).toNatClampNeg (N156 20 0 7)) (fun N158 => lt1 (mp N158 20 0 12 ((N158 20 0 12) + 1)) (fun N159 => (some (r4, N159)))))))))))) else gd (¬ ((3 * ((N132 20 0 12) - (N132 20 0 12) / 60 * 60)) < 0 ∨ 180 ≤ (3 * ((N132 20 0 12) - (N132 20 0 12) / 60 * 60)).toNatClampNeg)) (lt1 (mp N132 52 0 (3 * ((N132 20 0 12) - (N132 20 0 12) / 60 * 60)).toNatClampNeg r4) (fun N136 => gd (¬ (((3 * ((N132 20 0 12) - (N132 20 0 12) / 60 * 60)) + 1) < 0 ∨ 180 ≤ ((3 * ((N132 20 0 12) - (N132 20 0 12) / 60 * 60)) + 1).toNatClampNeg)) (lt1 (mp N136 52 0 ((3 * ((N132 20 0 12) - (N132 20 0 12) / 60 * 60)) + 1).toNatClampNeg (N6 34 0 r4.toNatClampNeg)) (fun N138 => gd (¬ (((3 * ((N132 20 0 12) - (N132 20 0 12) / 60 * 60)) + 2) < 0 ∨ 180 ≤ ((3 * ((N132 20 0 12) - (N132 20 0 12) / 60 * 60)) + 2).toNatClampNeg)) (lt1 (mp N138 52 0 ((3 * ((N132 20 0 12) - (N132 20 0 12) / 60 * 60)) + 2).toNatClampNeg (N138 20 0 7)) (fun N140 => lt1 (mp N140 20 0 12 ((N140 20 0 12) + 1)) (fun N141 => (some (r4, N141)))))))))) else ob1 (f_yX9_fails N132 r4) (fun N161 => (if (N161 31 0 r4.toNatClampNeg) = 2 then gd (¬ ((N161 32 0 r4.toNatClampNeg) < 0 ∨ 8 ≤ (N161 32 0 r4.toNatClampNeg).toNatClampNeg)) ((if (N161 34 0 r4.toNatClampNeg) < (N161 29 0 (N161 32 0 r4.toNatClampNeg).toNatClampNeg) then gd (¬ ((3 * ((N161 20 0 12) - (N161 20 0 12) / 60 * 60)) < 0 ∨ 180 ≤ (3 * ((N161 20 0 12) - (N161 20 0 12) / 60 * 60)).toNatClampNeg)) (lt1 (mp N161 52 0 (3 * ((N161 20 0 12) - (N161 20 0 12) / 60 * 60)).toNatClampNeg r4) (fun N173 => gd (¬ (((3 * ((N161 20 0 12) - (N161 20 0 12) / 60 * 60)) + 1) < 0 ∨ 180 ≤ ((3 * ((N161 20 0 12) - (N161 20 0 12) / 60 * 60)) + 1).toNatClampNeg)) (lt1 (mp N173 52 0 ((3 * ((N161 20 0 12) - (N161 20 0 12) / 60 * 60)) + 1).toNatClampNeg (N6 34 0 r4.toNatClampNeg)) (fun N175 => gd (¬ (((3 * ((N161 20 0 12) - (N161 20 0 12) / 60 * 60)) + 2) < 0 ∨ 180 ≤ ((3 * ((N161 20 0 12) - (N161 20 0 12) / 60 * 60)) + 2).toNatClampNeg)) (lt1 (mp N175 52 0 ((3 * ((N161 20 0 12) - (N161 20 0 12) / 60 * 60)) + 2).toNatClampNeg (N175 20 0 7)) (fun N177 => lt1 (mp N177 20 0 12 ((N177 20 0 12) + 1)) (fun N178 => (some (r4, N178))))))))) else ob1 (f_yX9_ends N161 r4 0 0) (fun N180 => gd (¬ ((3 * ((N180 20 0 12) - (N180 20 0 12) / 60 * 60)) < 0 ∨ 180 ≤ (3 * ((N180 20 0 12) - (N180 20 0 12) / 60 * 60)).toNatClampNeg)) (lt1 (mp N180 52 0 (3 * ((N180 20 0 12) - (N180 20 0 12) / 60 * 60)).toNatClampNeg r4) (fun N182 => gd (¬ (((3 * ((N180 20 0 12) - (N180 20 0 12) / 60 * 60)) + 1) < 0 ∨ 180 ≤ ((3 * ((N180 20 0 12) - (N180 20 0 12) / 60 * 60)) + 1).toNatClampNeg)) (lt1 (mp N182 52 0 ((3 * ((N180 20 0 12) - (N180 20 0 12) / 60 * 60)) + 1).toNatClampNeg (N6 34 0 r4.toNatClampNeg)) (fun N184 => gd (¬ (((3 * ((N180 20 0 12) - (N180 20 0 12) / 60 * 60)) + 2) < 0 ∨ 180 ≤ ((3 * ((N180 20 0 12) - (N180 20 0 12) / 60 * 60)) + 2).toNatClampNeg)) (lt1 (mp N184 52 0 ((3 * ((N180 20 0 12) - (N180 20 0 12) / 60 * 60)) + 2).toNatClampNeg (N184 20 0 7)) (fun N186 => lt1 (mp N186 20 0 12 ((N186 20 0 12) + 1)) (fun N187 => (some (r4, N187)))))))))))) else gd (¬ ((3 * ((N161 20 0 12) - (N161 20 0 12) / 60 * 60)) < 0 ∨ 180 ≤ (3 * ((N161 20 0 12) - (N161 20 0 12) / 60 * 60)).toNatClampNeg)) (lt1 (mp N161 52 0 (3 * ((N161 20 0 12) - (N161 20 0 12) / 60 * 60)).toNatClampNeg r4) (fun N164 => gd (¬ (((3 * ((N161 20 0 12) - (N161 20 0 12) / 60 * 60)) + 1) < 0 ∨ 180 ≤ ((3 * ((N161 20 0 12) - (N161 20 0 12) / 60 * 60)) + 1).toNatClampNeg)) (lt1 (mp N164 52 0 ((3 * ((N161 20 0 12) - (N161 20 0 12) / 60 * 60)) + 1).toNatClampNeg (N6 34 0 r4.toNatClampNeg)) (fun N166 => gd (¬ (((3 * ((N161 20 0 12) - (N161 20 0 12) / 60 * 60)) + 2) < 0 ∨ 180 ≤ ((3 * ((N161 20 0 12) - (N161 20 0 12) / 60 * 60)) + 2).toNatClampNeg)) (lt1 (mp N166 52 0 ((3 * ((N161 20 0 12) - (N161 20 0 12) / 60 * 60)) + 2).toNatClampNeg (N166 20 0 7)) (fun N168 => lt1 (mp N168 20 0 12 ((N168 20 0 12) + 1)) (fun N169 => (some (r4, N169))))))))))))))) else lt1 (mp N9 36 0 r4.toNatClampNeg 0) (fun N188 => lt1 (mp N188 20 0 7 9) (fun N189 => (if (N189 20 0 7) ≤ 0 then (if (N189 31 0 r4.toNatClampNeg) = 2 then gd (¬ ((N189 32 0 r4.toNatClampNeg) < 0 ∨ 8 ≤ (N189 32 0 r4.toNatClampNeg).toNatClampNeg)) ((if (N189 34 0 r4.toNatClampNeg) < (N189 29 0 (N189 32 0 r4.toNatClampNeg).toNatClampNeg) then gd (¬ ((3 * ((N189 20 0 12) - (N189 20 0 12) / 60 * 60)) < 0 ∨ 180 ≤ (3 * ((N189 20 0 12) - (N189 20 0 12) / 60 * 60)).toNatClampNeg)) (lt1 (mp N189 52 0 (3 * ((N189 20 0 12) - (N189 20 0 12) / 60 * 60)).toNatClampNeg r4) (fun N202 => gd (¬ (((3 * ((N189 20 0 12) - (N189 20 0 12) / 60 * 60)) + 1) < 0 ∨ 180 ≤ ((3 * ((N189 20 0 12) - (N189 20 0 12) / 60 * 60)) + 1).toNatClampNeg)) (lt1 (mp N202 52 0 ((3 * ((N189 20 0 12) - (N189 20 0 12) / 60 * 60)) + 1).toNatClampNeg (N6 34 0 r4.toNatClampNeg)) (fun N204 => gd (¬ (((3 * ((N189 20 0 12) - (N189 20 0 12) / 60 * 60)) + 2) < 0 ∨ 180 ≤ ((3 * ((N189 20 0 12) - (N189 20 0 12) / 60 * 60)) + 2).toNatClampNeg)) (lt1 (mp N204 52 0 ((3 * ((N189 20 0 12) - (N189 20 0 12) / 60 * 60)) + 2).toNatClampNeg (N204 20 0 7)) (fun N206 => lt1 (mp N206 20 0 12 ((N206 20 0 12) + 1)) (fun N207 => (some (r4, N207))))))))) else ob1 (f_yX9_ends N189 r4 0 0) (fun N209 => gd (¬ ((3 * ((N209 20 0 12) - (N209 20 0 12) / 60 * 60)) < 0 ∨ 180 ≤ (3 * ((N209 20 0 12) - (N209 20 0 12) / 60 * 60)).toNatClampNeg)) (lt1 (mp N209 52 0 (3 * ((N209 20 0 12) - (N209 20 0 12) / 60 * 60)).toNatClampNeg r4) (fun N211 => gd (¬ (((3 * ((N209 20 0 12) - (N209 20 0 12) / 60 * 60)) + 1) < 0 ∨ 180 ≤ ((3 * ((N209 20 0 12) - (N209 20 0 12) / 60 * 60)) + 1).toNatClampNeg)) (lt1 (mp N211 52 0 ((3 * ((N209 20 0 12) - (N209 20 0 12) / 60 * 60)) + 1).toNatClampNeg (N6 34 0 r4.toNatClampNeg)) (fun N213 => gd (¬ (((3 * ((N209 20 0 12) - (N209 20 0 12) / 60 * 60)) + 2) < 0 ∨ 180 ≤ ((3 * ((N209 20 0 12) - (N209 20 0 12) / 60 * 60)) + 2).toNatClampNeg)) (lt1 (mp N213 52 0 ((3 * ((N209 20 0 12) - (N209 20 0 12) / 60 * 60)) + 2).toNatClampNeg (N213 20 0 7)) (fun N215 => lt1 (mp N215 20 0 12 ((N215 20 0 12) + 1)) (fun N216 => (some (r4, N216)))))))))))) else gd (¬ ((3 * ((N189 20 0 12) - (N189 20 0 12) / 60 * 60)) < 0 ∨ 180 ≤ (3 * ((N189 20 0 12) - (N189 20 0 12) / 60 * 60)).toNatClampNeg)) (lt1 (mp N189 52 0 (3 * ((N189 20 0 12) - (N189 20 0 12) / 60 * 60)).toNatClampNeg r4) (fun N193 => gd (¬ (((3 * ((N189 20 0 12) - (N189 20 0 12) / 60 * 60)) + 1) < 0 ∨ 180 ≤ ((3 * ((N189 20 0 12) - (N189 20 0 12) / 60 * 60)) + 1).toNatClampNeg)) (lt1 (mp N193 52 0 ((3 * ((N189 20 0 12) - (N189 20 0 12) / 60 * 60)) + 1).toNatClampNeg (N6 34 0 r4.toNatClampNeg)) (fun N195 => gd (¬ (((3 * ((N189 20 0 12) - (N189 20 0 12) / 60 * 60)) + 2) < 0 ∨ 180 ≤ ((3 * ((N189 20 0 12) - (N189 20 0 12) / 60 * 60)) + 2).toNatClampNeg)) (lt1 (mp N195 52 0 ((3 * ((N189 20 0 12) - (N189 20 0 12) / 60 * 60)) + 2).toNatClampNeg (N195 20 0 7)) (fun N197 => lt1 (mp N197 20 0 12 ((N197 20 0 12) + 1)) (fun N198 => (some (r4, N198)))))))))) else ob1 (f_yX9_fails N189 r4) (fun N218 => (if (N218 31 0 r4.toNatClampNeg) = 2 then gd (¬ ((N218 32 0 r4.toNatClampNeg) < 0 ∨ 8 ≤ (N218 32 0 r4.toNatClampNeg).toNatClampNeg)) ((if (N218 34 0 r4.toNatClampNeg) < (N218 29 0 (N218 32 0 r4.toNatClampNeg).toNatClampNeg) then gd (¬ ((3 * ((N218 20 0 12) - (N218 20 0 12) / 60 * 60)) < 0 ∨ 180 ≤ (3 * ((N218 20 0 12) - (N218 20 0 12) / 60 * 60)).toNatClampNeg)) (lt1 (mp N218 52 0 (3 * ((N218 20 0 12) - (N218 20 0 12) / 60 * 60)).toNatClampNeg r4) (fun N230 => gd (¬ (((3 * ((N218 20 0 12) - (N218 20 0 12) / 60 * 60)) + 1) < 0 ∨ 180 ≤ ((3 * ((N218 20 0 12) - (N218 20 0 12) / 60 * 60)) + 1).toNatClampNeg)) (lt1 (mp N230 52 0 ((3 * ((N218 20 0 12) - (N218 20 0 12) / 60 * 60)) + 1).toNatClampNeg (N6 34 0 r4.toNatClampNeg)) (fun N232 => gd (¬ (((3 * ((N218 20 0 12) - (N218 20 0 12) / 60 * 60)) + 2) < 0 ∨ 180 ≤ ((3 * ((N218 20 0 12) - (N218 20 0 12) / 60 * 60)) + 2).toNatClampNeg)) (lt1 (mp N232 52 0 ((3 * ((N218 20 0 12) - (N218 20 0 12) / 60 * 60)) + 2).toNatClampNeg (N232 20 0 7)) (fun N234 => lt1 (mp N234 20 0 12 ((N234 20 0 12) + 1)) (fun N235 => (some (r4, N235))))))))) else ob1 (f_yX9_ends N218 r4 0 0) (fun N237 => gd (¬ ((3 * ((N237 20 0 12) - (N237 20 0 12) / 60 * 60)) < 0 ∨ 180 ≤ (3 * ((N237 20 0 12) - (N237 20 0 12) / 60 * 60)).toNatClampNeg)) (lt1 (mp N237 52 0 (3 * ((N237 20 0 12) - (N237 20 0 12) / 60 * 60)).toNatClampNeg r4) (fun N239 => gd (¬ (((3 * ((N237 20 0 12) - (N237 20 0 12) / 60 * 60)) + 1) < 0 ∨ 180 ≤ ((3 * ((N237 20 0 12) - (N237 20 0 12) / 60 * 60)) + 1).toNatClampNeg)) (lt1 (mp N239 52 0 ((3 * ((N237 20 0 12) - (N237 20 0 12) / 60 * 60)) + 1).toNatClampNeg (N6 34 0 r4.toNatClampNeg)) (fun N241 => gd (¬ (((3 * ((N237 20 0 12) - (N237 20 0 12) / 60 * 60)) + 2) < 0 ∨ 180 ≤ ((3 * ((N237 20 0 12) - (N237 20 0 12) / 60 * 60)) + 2).toNatClampNeg)) (lt1 (mp N241 52 0 ((3 * ((N237 20 0 12) - (N237 20 0 12) / 60 * 60)) + 2).toNatClampNeg (N241 20 0 7)) (fun N243 => lt1 (mp N243 20 0 12 ((N243 20 0 12) + 1)) (fun N244 => (some (r4, N244)))))))))))) else gd (¬ ((3 * ((N218 20 0 12) - (N218 20 0 12) / 60 * 60)) < 0 ∨ 180 ≤ (3 * ((N218 20 0 12) - (N218 20 0 12) / 60 * 60)).toNatClampNeg)) (lt1 (mp N218 52 0 (3 * ((N218 20 0 12) - (N218 20 0 12) / 60 * 60)).toNatClampNeg r4) (fun N221 => gd (¬ (((3 * ((N218 20 0 12) - (N218 20 0 12) / 60 * 60)) + 1) < 0 ∨ 180 ≤ ((3 * ((N218 20 0 12) - (N218 20 0 12) / 60 * 60)) + 1).toNatClampNeg)) (lt1 (mp N221 52 0 ((3 * ((N218 20 0 12) - (N218 20 0 12) / 60 * 60)) + 1).toNatClampNeg (N6 34 0 r4.toNatClampNeg)) (fun N223 => gd (¬ (((3 * ((N218 20 0 12) - (N218 20 0 12) / 60 * 60)) + 2) < 0 ∨ 180 ≤ ((3 * ((N218 20 0 12) - (N218 20 0 12) / 60 * 60)) + 2).toNatClampNeg)) (lt1 (mp N223 52 0 ((3 * ((N218 20 0 12) - (N218 20 0 12) / 60 * 60)) + 2).toNatClampNeg (N223 20 0 7)) (fun N225 => lt1 (mp N225 20 0 12 ((N225 20 0 12) + 1)) (fun N226 => (some (r4, N226))))))))))))))))))))) else gd (¬ (y1 < 0 ∨ 6 ≤ y1.toNatClampNeg)) ((if (N0 40 0 y1.toNatClampNeg) = (-4) then (f_yX9_goes_L12 n N0 (y1 + 1)) else (if (N0 20 0 2) < (N0 40 0 y1.toNatClampNeg) then (f_yX9_goes_L12 n N0 (y1 + 1)) else (if (N0 31 0 y1.toNatClampNeg) = 5 then lt1 (mp N0 40 0 y1.toNatClampNeg (-4)) (fun N258 => lt1 (mp N258 31 0 y1.toNatClampNeg 2) (fun N259 => (f_yX9_goes_L12 n N259 (y1 + 1)))) else (if (N0 31 0 y1.toNatClampNeg) = 4 then ob1 (f_yX9_isTold N0 y1) (fun N257 => (f_yX9_goes_L12 n N257 (y1 + 1))) else (f_yX9_goes_L12 n N0 (y1 + 1))))))))
def f_yX9_goes (N : Mem) : Option (Int32 × Mem) := lt1 (mp N 20 0 2 ((N 20 0 2) + 1)) (fun N1 => (f_yX9_goes_L12 70 N1 0))
set_option maxRecDepth 100000 in
set_option maxHeartbeats 4000000 in
theorem l_yX9_goes_12 (l : Launch) (E : Lay) (ad : Nat → Nat → Nat) (M : Mem) {p : Program} {e : Env} {s : State} {m : MethodId} {args : Array Value} {below : List Frame} {meth : Method} {c : Code} (X : CX p s m args meth c cX9_goes 4 (some .int) RX9) (hK : KK E s) (hZ : ZZ E s) : ∀ (n : Nat) (N0 : Mem) (y1 : Int32) (r : Int32) (Nr : Mem) (hf : f_yX9_goes_L12 n N0 y1 = some (r, Nr)) (H : Heap) (locs : List Loc) (ls : Array Slot), WD E ad (M, N0) H → va_S (ow E) s.heap H locs → lv_has ls 4 [(0, .ref (ad 20 0)), (1, .int y1)] → W p l e (rmm 6 149) s m args below meth c H locs 0 0 (MQ below (Qi E ad r (M, Nr)) args s 0 0 (ow E)) (F0 m 12 ls []) := by
  obtain ⟨hx, hb, hml, hown, hT, hr, hlk⟩ := id X
  intro n
  induction n with
  | zero =>
    intro N0 y1 r Nr hf
    rw [f_yX9_goes_L12] at hf
    cases hf
  | succ n ih =>
    intro N0 y1 r Nr hf H locs ls hW hS hl
    rw [f_yX9_goes_L12] at hf
    refine lv_iload_n hx hb dX9_goes_12 rfl (lv_at hl 1 rfl) ?_
    refine lv_bipush (v := 6) hx hb dX9_goes_13 (by decide) ?_
    refine lv_icmp_ge (tgt := 105) hx hb dX9_goes_15 (by decide) (fun c2 => ?_) (fun c2 => ?_)
    · rw [if_pos c2] at hf
      refine lv_aload_n hx hb dX9_goes_105 rfl (lv_at hl 0 rfl) ?_
      obtain ⟨r4, h3, hf⟩ := ob1_some hf
      refine k_yX9_chosen X hK hZ hW hS hl.1 h3 mlRX9_180 ⟨Nat.le_of_ble_eq_true rfl, Nat.le_of_ble_eq_true rfl⟩ ⟨Nat.le_of_ble_eq_true rfl, Nat.le_of_ble_eq_true rfl⟩ (Nat.le_of_ble_eq_true rfl) dX9_goes_106 (fun H locs hW hS => ?_)
      refine lv_istore_n (lv' := [(1, .int r4), (0, .ref (ad 20 0))]) hx hb dX9_goes_109 rfl hl (by decide) rfl (fun ls hl => ?_)
      refine lv_iload_n hx hb dX9_goes_110 rfl (lv_at hl 0 rfl) ?_
      refine lv_bipush (v := -4) hx hb dX9_goes_111 (by decide) ?_
      refine lv_icmp_ne (tgt := 119) hx hb dX9_goes_113 (by decide) (fun c5 => ?_) (fun c5 => ?_)
      · rw [if_neg c5] at hf
        refine lv_aload_n hx hb dX9_goes_119 rfl (lv_at hl 1 rfl) ?_
        refine lv_iload_n hx hb dX9_goes_120 rfl (lv_at hl 0 rfl) ?_
        obtain ⟨N6, hN6, hf⟩ := lt1_some hf
        refine p_9_35 X hK hW hS hN6 flRX9_101 dX9_goes_121 (fun H locs hW hS => ?_)
        refine lv_aload_n hx hb dX9_goes_124 rfl (lv_at hl 1 rfl) ?_
        refine g_9_15 X hK hW flRX9_49 dX9_goes_125 ?_
        refine lv_iload_n hx hb dX9_goes_128 rfl (lv_at hl 0 rfl) ?_
        obtain ⟨b7, hf⟩ := gd_some hf
        refine al_34 X hK hW b7 dX9_goes_129 ?_
        refine lv_istore_n (lv' := [(2, .int (N6 34 0 r4.toNatClampNeg)), (1, .int r4), (0, .ref (ad 20 0))]) hx hb dX9_goes_130 rfl hl (by decide) rfl (fun ls hl => ?_)
        refine lv_aload_n hx hb dX9_goes_131 rfl (lv_at hl 2 rfl) ?_
        refine lv_iconst (v := 0) hx hb dX9_goes_132 (by decide) ?_
        obtain ⟨N8, hN8, hf⟩ := lt1_some hf
        refine p_9_37 X hK hW hS hN8 flRX9_184 dX9_goes_133 (fun H locs hW hS => ?_)
        refine lv_aload_n hx hb dX9_goes_136 rfl (lv_at hl 2 rfl) ?_
        refine lv_iconst (v := 0) hx hb dX9_goes_137 (by decide) ?_
        obtain ⟨N9, hN9, hf⟩ := lt1_some hf
        refine p_9_38 X hK hW hS hN9 flRX9_187 dX9_goes_138 (fun H locs hW hS => ?_)
        refine lv_aload_n hx hb dX9_goes_141 rfl (lv_at hl 2 rfl) ?_
        refine g_9_17 X hK hW flRX9_56 dX9_goes_142 ?_
        refine lv_iload_n hx hb dX9_goes_145 rfl (lv_at hl 1 rfl) ?_
        refine al_36 X hK hW b7 dX9_goes_146 ?_
        refine lv_if_eq (tgt := 166) hx hb dX9_goes_147 (by decide) (fun c10 => ?_) (fun c10 => ?_)
        · rw [if_pos c10] at hf
          refine lv_iload_n hx hb dX9_goes_166 rfl (lv_at hl 0 rfl) ?_
          refine lv_aload_n hx hb dX9_goes_167 rfl (lv_at hl 2 rfl) ?_
          refine g_9_10 X hK hW flRX9_34 dX9_goes_168 ?_
          refine lv_aload_n hx hb dX9_goes_171 rfl (lv_at hl 2 rfl) ?_
          refine g_9_13 X hK hW flRX9_43 dX9_goes_172 ?_
          refine lv_iload_n hx hb dX9_goes_175 rfl (lv_at hl 1 rfl) ?_
          refine al_32 X hK hW b7 dX9_goes_176 ?_
          obtain ⟨b11, hf⟩ := gd_some hf
          refine al_29 X hK hW b11 dX9_goes_177 ?_
          refine lv_icmp_lt (tgt := 191) hx hb dX9_goes_178 (by decide) (fun c12 => ?_) (fun c12 => ?_)
          · rw [if_pos c12] at hf
            refine lv_aload_n hx hb dX9_goes_191 rfl (lv_at hl 2 rfl) ?_
            refine g_9_15 X hK hW flRX9_49 dX9_goes_192 ?_
            refine lv_iload_n hx hb dX9_goes_195 rfl (lv_at hl 1 rfl) ?_
            refine lv_dup2_11 hx hb dX9_goes_196 rfl rfl ?_
            refine al_34 X hK hW b7 dX9_goes_197 ?_
            refine lv_iconst (v := 1) hx hb dX9_goes_198 (by decide) ?_
            refine lv_iadd hx hb dX9_goes_199 ?_
            obtain ⟨N13, hN13, hf⟩ := lt1_some hf
            refine as_34 X hK hW hS b7 hN13 dX9_goes_200 (fun H locs hW hS => ?_)
            refine lv_aload_n hx hb dX9_goes_201 rfl (lv_at hl 2 rfl) ?_
            refine g_9_24 X hK hW flRX9_77 dX9_goes_202 ?_
            refine lv_iload_n hx hb dX9_goes_205 rfl (lv_at hl 1 rfl) ?_
            refine lv_dup2_11 hx hb dX9_goes_206 rfl rfl ?_
            refine al_43 X hK hW b7 dX9_goes_207 ?_
            refine lv_iconst (v := 1) hx hb dX9_goes_208 (by decide) ?_
            refine lv_iadd hx hb dX9_goes_209 ?_
            obtain ⟨N14, hN14, hf⟩ := lt1_some hf
            refine as_43 X hK hW hS b7 hN14 dX9_goes_210 (fun H locs hW hS => ?_)
            refine lv_aload_n hx hb dX9_goes_211 rfl (lv_at hl 2 rfl) ?_
            refine lv_dup hx hb dX9_goes_212 rfl ?_
            refine g_9_42 X hK hW flRX9_194 dX9_goes_213 ?_
            refine lv_iconst (v := 1) hx hb dX9_goes_216 (by decide) ?_
            refine lv_iadd hx hb dX9_goes_217 ?_
            obtain ⟨N15, hN15, hf⟩ := lt1_some hf
            refine p_9_42 X hK hW hS hN15 flRX9_194 dX9_goes_218 (fun H locs hW hS => ?_)
            refine lv_aload_n hx hb dX9_goes_221 rfl (lv_at hl 2 rfl) ?_
            refine lv_iload_n hx hb dX9_goes_222 rfl (lv_at hl 1 rfl) ?_
            refine lv_iconst (v := 4) hx hb dX9_goes_223 (by decide) ?_
            refine lv_bipush (v := 40) hx hb dX9_goes_224 (by decide) ?_
            refine lv_aload_n hx hb dX9_goes_226 rfl (lv_at hl 2 rfl) ?_
            refine g_9_13 X hK hW flRX9_43 dX9_goes_227 ?_
            refine lv_iload_n hx hb dX9_goes_230 rfl (lv_at hl 1 rfl) ?_
            refine al_32 X hK hW b7 dX9_goes_231 ?_
            refine lv_imul hx hb dX9_goes_232 ?_
            refine lv_iload_n hx hb dX9_goes_233 rfl (lv_at hl 0 rfl) ?_
            refine lv_iadd hx hb dX9_goes_234 ?_
            refine lv_imul hx hb dX9_goes_235 ?_
            obtain ⟨N17, h16, hf⟩ := ob1_some hf
            refine k_yX9_does X hK hZ hW hS hl.1 h16 mlRX9_197 ⟨Nat.le_of_ble_eq_true rfl, Nat.le_of_ble_eq_true rfl⟩ ⟨Nat.le_of_ble_eq_true rfl, Nat.le_of_ble_eq_true rfl⟩ (Nat.le_of_ble_eq_true rfl) dX9_goes_236 (fun H locs hW hS => ?_)
            refine lv_aload_n hx hb dX9_goes_239 rfl (lv_at hl 2 rfl) ?_
            refine g_9_15 X hK hW flRX9_49 dX9_goes_240 ?_
            refine lv_iload_n hx hb dX9_goes_243 rfl (lv_at hl 1 rfl) ?_
            refine lv_aload_n hx hb dX9_goes_244 rfl (lv_at hl 2 rfl) ?_
            refine g_9_37 X hK hW flRX9_184 dX9_goes_245 ?_
            refine lv_if_le (tgt := 255) hx hb dX9_goes_248 (by decide) (fun c18 => ?_) (fun c18 => ?_)
            · rw [if_pos c18] at hf
              refine lv_aload_n hx hb dX9_goes_255 rfl (lv_at hl 2 rfl) ?_
              refine g_9_15 X hK hW flRX9_49 dX9_goes_256 ?_
              refine lv_iload_n hx hb dX9_goes_259 rfl (lv_at hl 1 rfl) ?_
              refine al_34 X hK hW b7 dX9_goes_260 ?_
              obtain ⟨N19, hN19, hf⟩ := lt1_some hf
              refine as_34 X hK hW hS b7 hN19 dX9_goes_261 (fun H locs hW hS => ?_)
              refine lv_aload_n hx hb dX9_goes_262 rfl (lv_at hl 2 rfl) ?_
              refine g_9_37 X hK hW flRX9_184 dX9_goes_263 ?_
              refine lv_if_le (tgt := 274) hx hb dX9_goes_266 (by decide) (fun c20 => ?_) (fun c20 => ?_)
              · rw [if_pos c20] at hf
                refine lv_aload_n hx hb dX9_goes_274 rfl (lv_at hl 2 rfl) ?_
                refine g_9_12 X hK hW flRX9_40 dX9_goes_275 ?_
                refine lv_iload_n hx hb dX9_goes_278 rfl (lv_at hl 1 rfl) ?_
                refine al_31 X hK hW b7 dX9_goes_279 ?_
                refine lv_iconst (v := 2) hx hb dX9_goes_280 (by decide) ?_
                refine lv_icmp_ne (tgt := 311) hx hb dX9_goes_281 (by decide) (fun c21 => ?_) (fun c21 => ?_)
                · rw [if_neg c21] at hf
                  refine lv_iconst (v := 3) hx hb dX9_goes_311 (by decide) ?_
                  refine lv_aload_n hx hb dX9_goes_312 rfl (lv_at hl 2 rfl) ?_
                  refine g_9_43 X hK hW flRX9_204 dX9_goes_313 ?_
                  refine lv_bipush (v := 60) hx hb dX9_goes_316 (by decide) ?_
                  refine lv_irem hx hb dX9_goes_318 (by decide) ?_
                  refine lv_imul hx hb dX9_goes_319 ?_
                  refine lv_istore_n (lv' := [(3, .int (3 * ((N19 20 0 12) - (N19 20 0 12) / 60 * 60))), (2, .int (N6 34 0 r4.toNatClampNeg)), (1, .int r4), (0, .ref (ad 20 0))]) hx hb dX9_goes_320 rfl hl (by decide) rfl (fun ls hl => ?_)
                  refine lv_aload_n hx hb dX9_goes_321 rfl (lv_at hl 3 rfl) ?_
                  refine g_9_44 X hK hW flRX9_108 dX9_goes_322 ?_
                  refine lv_iload_n hx hb dX9_goes_325 rfl (lv_at hl 0 rfl) ?_
                  refine lv_iload_n hx hb dX9_goes_326 rfl (lv_at hl 2 rfl) ?_
                  obtain ⟨b22, hf⟩ := gd_some hf
                  obtain ⟨N23, hN23, hf⟩ := lt1_some hf
                  refine as_52 X hK hW hS b22 hN23 dX9_goes_327 (fun H locs hW hS => ?_)
                  refine lv_aload_n hx hb dX9_goes_328 rfl (lv_at hl 3 rfl) ?_
                  refine g_9_44 X hK hW flRX9_108 dX9_goes_329 ?_
                  refine lv_iload_n hx hb dX9_goes_332 rfl (lv_at hl 0 rfl) ?_
                  refine lv_iconst (v := 1) hx hb dX9_goes_333 (by decide) ?_
                  refine lv_iadd hx hb dX9_goes_334 ?_
                  refine lv_iload_n hx hb dX9_goes_335 rfl (lv_at hl 1 rfl) ?_
                  obtain ⟨b24, hf⟩ := gd_some hf
                  obtain ⟨N25, hN25, hf⟩ := lt1_some hf
                  refine as_52 X hK hW hS b24 hN25 dX9_goes_336 (fun H locs hW hS => ?_)
                  refine lv_aload_n hx hb dX9_goes_337 rfl (lv_at hl 3 rfl) ?_
                  refine g_9_44 X hK hW flRX9_108 dX9_goes_338 ?_
                  refine lv_iload_n hx hb dX9_goes_341 rfl (lv_at hl 0 rfl) ?_
                  refine lv_iconst (v := 2) hx hb dX9_goes_342 (by decide) ?_
                  refine lv_iadd hx hb dX9_goes_343 ?_
                  refine lv_aload_n hx hb dX9_goes_344 rfl (lv_at hl 3 rfl) ?_
                  refine g_9_37 X hK hW flRX9_184 dX9_goes_345 ?_
                  obtain ⟨b26, hf⟩ := gd_some hf
                  obtain ⟨N27, hN27, hf⟩ := lt1_some hf
                  refine as_52 X hK hW hS b26 hN27 dX9_goes_348 (fun H locs hW hS => ?_)
                  refine lv_aload_n hx hb dX9_goes_349 rfl (lv_at hl 3 rfl) ?_
                  refine lv_dup hx hb dX9_goes_350 rfl ?_
                  refine g_9_43 X hK hW flRX9_204 dX9_goes_351 ?_
                  refine lv_iconst (v := 1) hx hb dX9_goes_354 (by decide) ?_
                  refine lv_iadd hx hb dX9_goes_355 ?_
                  obtain ⟨N28, hN28, hf⟩ := lt1_some hf
                  refine p_9_43 X hK hW hS hN28 flRX9_204 dX9_goes_356 (fun H locs hW hS => ?_)
                  refine lv_iload_n hx hb dX9_goes_359 rfl (lv_at hl 2 rfl) ?_
                  obtain ⟨rfl, rfl⟩ := sp2 hf
                  exact e_i ⟨hx, hb, hr, hlk⟩ hW hS dX9_goes_360
                · rw [if_pos c21] at hf
                  refine lv_aload_n hx hb dX9_goes_284 rfl (lv_at hl 2 rfl) ?_
                  refine g_9_15 X hK hW flRX9_49 dX9_goes_285 ?_
                  refine lv_iload_n hx hb dX9_goes_288 rfl (lv_at hl 1 rfl) ?_
                  refine al_34 X hK hW b7 dX9_goes_289 ?_
                  refine lv_aload_n hx hb dX9_goes_290 rfl (lv_at hl 2 rfl) ?_
                  refine g_9_10 X hK hW flRX9_34 dX9_goes_291 ?_
                  refine lv_aload_n hx hb dX9_goes_294 rfl (lv_at hl 2 rfl) ?_
                  refine g_9_13 X hK hW flRX9_43 dX9_goes_295 ?_
                  refine lv_iload_n hx hb dX9_goes_298 rfl (lv_at hl 1 rfl) ?_
                  refine al_32 X hK hW b7 dX9_goes_299 ?_
                  obtain ⟨b29, hf⟩ := gd_some hf
                  refine al_29 X hK hW b29 dX9_goes_300 ?_
                  refine lv_icmp_lt (tgt := 311) hx hb dX9_goes_301 (by decide) (fun c30 => ?_) (fun c30 => ?_)
                  · rw [if_pos c30] at hf
                    refine lv_iconst (v := 3) hx hb dX9_goes_311 (by decide) ?_
                    refine lv_aload_n hx hb dX9_goes_312 rfl (lv_at hl 2 rfl) ?_
                    refine g_9_43 X hK hW flRX9_204 dX9_goes_313 ?_
                    refine lv_bipush (v := 60) hx hb dX9_goes_316 (by decide) ?_
                    refine lv_irem hx hb dX9_goes_318 (by decide) ?_
                    refine lv_imul hx hb dX9_goes_319 ?_
                    refine lv_istore_n (lv' := [(3, .int (3 * ((N19 20 0 12) - (N19 20 0 12) / 60 * 60))), (2, .int (N6 34 0 r4.toNatClampNeg)), (1, .int r4), (0, .ref (ad 20 0))]) hx hb dX9_goes_320 rfl hl (by decide) rfl (fun ls hl => ?_)
                    refine lv_aload_n hx hb dX9_goes_321 rfl (lv_at hl 3 rfl) ?_
                    refine g_9_44 X hK hW flRX9_108 dX9_goes_322 ?_
                    refine lv_iload_n hx hb dX9_goes_325 rfl (lv_at hl 0 rfl) ?_
                    refine lv_iload_n hx hb dX9_goes_326 rfl (lv_at hl 2 rfl) ?_
                    obtain ⟨b31, hf⟩ := gd_some hf
                    obtain ⟨N32, hN32, hf⟩ := lt1_some hf
                    refine as_52 X hK hW hS b31 hN32 dX9_goes_327 (fun H locs hW hS => ?_)
                    refine lv_aload_n hx hb dX9_goes_328 rfl (lv_at hl 3 rfl) ?_
                    refine g_9_44 X hK hW flRX9_108 dX9_goes_329 ?_
                    refine lv_iload_n hx hb dX9_goes_332 rfl (lv_at hl 0 rfl) ?_
                    refine lv_iconst (v := 1) hx hb dX9_goes_333 (by decide) ?_
                    refine lv_iadd hx hb dX9_goes_334 ?_
                    refine lv_iload_n hx hb dX9_goes_335 rfl (lv_at hl 1 rfl) ?_
                    obtain ⟨b33, hf⟩ := gd_some hf
                    obtain ⟨N34, hN34, hf⟩ := lt1_some hf
                    refine as_52 X hK hW hS b33 hN34 dX9_goes_336 (fun H locs hW hS => ?_)
                    refine lv_aload_n hx hb dX9_goes_337 rfl (lv_at hl 3 rfl) ?_
                    refine g_9_44 X hK hW flRX9_108 dX9_goes_338 ?_
                    refine lv_iload_n hx hb dX9_goes_341 rfl (lv_at hl 0 rfl) ?_
                    refine lv_iconst (v := 2) hx hb dX9_goes_342 (by decide) ?_
                    refine lv_iadd hx hb dX9_goes_343 ?_
                    refine lv_aload_n hx hb dX9_goes_344 rfl (lv_at hl 3 rfl) ?_
                    refine g_9_37 X hK hW flRX9_184 dX9_goes_345 ?_
                    obtain ⟨b35, hf⟩ := gd_some hf
                    obtain ⟨N36, hN36, hf⟩ := lt1_some hf
                    refine as_52 X hK hW hS b35 hN36 dX9_goes_348 (fun H locs hW hS => ?_)
                    refine lv_aload_n hx hb dX9_goes_349 rfl (lv_at hl 3 rfl) ?_
                    refine lv_dup hx hb dX9_goes_350 rfl ?_
                    refine g_9_43 X hK hW flRX9_204 dX9_goes_351 ?_
                    refine lv_iconst (v := 1) hx hb dX9_goes_354 (by decide) ?_
                    refine lv_iadd hx hb dX9_goes_355 ?_
                    obtain ⟨N37, hN37, hf⟩ := lt1_some hf
                    refine p_9_43 X hK hW hS hN37 flRX9_204 dX9_goes_356 (fun H locs hW hS => ?_)
                    refine lv_iload_n hx hb dX9_goes_359 rfl (lv_at hl 2 rfl) ?_
                    obtain ⟨rfl, rfl⟩ := sp2 hf
                    exact e_i ⟨hx, hb, hr, hlk⟩ hW hS dX9_goes_360
                  · rw [if_neg c30] at hf
                    refine lv_aload_n hx hb dX9_goes_304 rfl (lv_at hl 2 rfl) ?_
                    refine lv_iload_n hx hb dX9_goes_305 rfl (lv_at hl 1 rfl) ?_
                    refine lv_iconst (v := 0) hx hb dX9_goes_306 (by decide) ?_
                    refine lv_iconst (v := 0) hx hb dX9_goes_307 (by decide) ?_
                    obtain ⟨N39, h38, hf⟩ := ob1_some hf
                    refine k_yX9_ends X hK hZ hW hS hl.1 h38 mlRX9_190 ⟨Nat.le_of_ble_eq_true rfl, Nat.le_of_ble_eq_true rfl⟩ ⟨Nat.le_of_ble_eq_true rfl, Nat.le_of_ble_eq_true rfl⟩ (Nat.le_of_ble_eq_true rfl) dX9_goes_308 (fun H locs hW hS => ?_)
                    refine lv_iconst (v := 3) hx hb dX9_goes_311 (by decide) ?_
                    refine lv_aload_n hx hb dX9_goes_312 rfl (lv_at hl 2 rfl) ?_
                    refine g_9_43 X hK hW flRX9_204 dX9_goes_313 ?_
                    refine lv_bipush (v := 60) hx hb dX9_goes_316 (by decide) ?_
                    refine lv_irem hx hb dX9_goes_318 (by decide) ?_
                    refine lv_imul hx hb dX9_goes_319 ?_
                    refine lv_istore_n (lv' := [(3, .int (3 * ((N39 20 0 12) - (N39 20 0 12) / 60 * 60))), (2, .int (N6 34 0 r4.toNatClampNeg)), (1, .int r4), (0, .ref (ad 20 0))]) hx hb dX9_goes_320 rfl hl (by decide) rfl (fun ls hl => ?_)
                    refine lv_aload_n hx hb dX9_goes_321 rfl (lv_at hl 3 rfl) ?_
                    refine g_9_44 X hK hW flRX9_108 dX9_goes_322 ?_
                    refine lv_iload_n hx hb dX9_goes_325 rfl (lv_at hl 0 rfl) ?_
                    refine lv_iload_n hx hb dX9_goes_326 rfl (lv_at hl 2 rfl) ?_
                    obtain ⟨b40, hf⟩ := gd_some hf
                    obtain ⟨N41, hN41, hf⟩ := lt1_some hf
                    refine as_52 X hK hW hS b40 hN41 dX9_goes_327 (fun H locs hW hS => ?_)
                    refine lv_aload_n hx hb dX9_goes_328 rfl (lv_at hl 3 rfl) ?_
                    refine g_9_44 X hK hW flRX9_108 dX9_goes_329 ?_
                    refine lv_iload_n hx hb dX9_goes_332 rfl (lv_at hl 0 rfl) ?_
                    refine lv_iconst (v := 1) hx hb dX9_goes_333 (by decide) ?_
                    refine lv_iadd hx hb dX9_goes_334 ?_
                    refine lv_iload_n hx hb dX9_goes_335 rfl (lv_at hl 1 rfl) ?_
                    obtain ⟨b42, hf⟩ := gd_some hf
                    obtain ⟨N43, hN43, hf⟩ := lt1_some hf
                    refine as_52 X hK hW hS b42 hN43 dX9_goes_336 (fun H locs hW hS => ?_)
                    refine lv_aload_n hx hb dX9_goes_337 rfl (lv_at hl 3 rfl) ?_
                    refine g_9_44 X hK hW flRX9_108 dX9_goes_338 ?_
                    refine lv_iload_n hx hb dX9_goes_341 rfl (lv_at hl 0 rfl) ?_
                    refine lv_iconst (v := 2) hx hb dX9_goes_342 (by decide) ?_
                    refine lv_iadd hx hb dX9_goes_343 ?_
                    refine lv_aload_n hx hb dX9_goes_344 rfl (lv_at hl 3 rfl) ?_
                    refine g_9_37 X hK hW flRX9_184 dX9_goes_345 ?_
                    obtain ⟨b44, hf⟩ := gd_some hf
                    obtain ⟨N45, hN45, hf⟩ := lt1_some hf
                    refine as_52 X hK hW hS b44 hN45 dX9_goes_348 (fun H locs hW hS => ?_)
                    refine lv_aload_n hx hb dX9_goes_349 rfl (lv_at hl 3 rfl) ?_
                    refine lv_dup hx hb dX9_goes_350 rfl ?_
                    refine g_9_43 X hK hW flRX9_204 dX9_goes_351 ?_
                    refine lv_iconst (v := 1) hx hb dX9_goes_354 (by decide) ?_
                    refine lv_iadd hx hb dX9_goes_355 ?_
                    obtain ⟨N46, hN46, hf⟩ := lt1_some hf
                    refine p_9_43 X hK hW hS hN46 flRX9_204 dX9_goes_356 (fun H locs hW hS => ?_)
                    refine lv_iload_n hx hb dX9_goes_359 rfl (lv_at hl 2 rfl) ?_
                    obtain ⟨rfl, rfl⟩ := sp2 hf
                    exact e_i ⟨hx, hb, hr, hlk⟩ hW hS dX9_goes_360
              · rw [if_neg c20] at hf
                refine lv_aload_n hx hb dX9_goes_269 rfl (lv_at hl 2 rfl) ?_
                refine lv_iload_n hx hb dX9_goes_270 rfl (lv_at hl 1 rfl) ?_
                obtain ⟨N48, h47, hf⟩ := ob1_some hf
                refine k_yX9_fails X hK hZ hW hS hl.1 h47 mlRX9_201 ⟨Nat.le_of_ble_eq_true rfl, Nat.le_of_ble_eq_true rfl⟩ ⟨Nat.le_of_ble_eq_true rfl, Nat.le_of_ble_eq_true rfl⟩ (Nat.le_of_ble_eq_true rfl) dX9_goes_271 (fun H locs hW hS => ?_)
                refine lv_aload_n hx hb dX9_goes_274 rfl (lv_at hl 2 rfl) ?_
                refine g_9_12 X hK hW flRX9_40 dX9_goes_275 ?_
                refine lv_iload_n hx hb dX9_goes_278 rfl (lv_at hl 1 rfl) ?_
                refine al_31 X hK hW b7 dX9_goes_279 ?_
                refine lv_iconst (v := 2) hx hb dX9_goes_280 (by decide) ?_
                refine lv_icmp_ne (tgt := 311) hx hb dX9_goes_281 (by decide) (fun c49 => ?_) (fun c49 => ?_)
                · rw [if_neg c49] at hf
                  refine lv_iconst (v := 3) hx hb dX9_goes_311 (by decide) ?_
                  refine lv_aload_n hx hb dX9_goes_312 rfl (lv_at hl 2 rfl) ?_
                  refine g_9_43 X hK hW flRX9_204 dX9_goes_313 ?_
                  refine lv_bipush (v := 60) hx hb dX9_goes_316 (by decide) ?_
                  refine lv_irem hx hb dX9_goes_318 (by decide) ?_
                  refine lv_imul hx hb dX9_goes_319 ?_
                  refine lv_istore_n (lv' := [(3, .int (3 * ((N48 20 0 12) - (N48 20 0 12) / 60 * 60))), (2, .int (N6 34 0 r4.toNatClampNeg)), (1, .int r4), (0, .ref (ad 20 0))]) hx hb dX9_goes_320 rfl hl (by decide) rfl (fun ls hl => ?_)
                  refine lv_aload_n hx hb dX9_goes_321 rfl (lv_at hl 3 rfl) ?_
                  refine g_9_44 X hK hW flRX9_108 dX9_goes_322 ?_
                  refine lv_iload_n hx hb dX9_goes_325 rfl (lv_at hl 0 rfl) ?_
                  refine lv_iload_n hx hb dX9_goes_326 rfl (lv_at hl 2 rfl) ?_
                  obtain ⟨b50, hf⟩ := gd_some hf
                  obtain ⟨N51, hN51, hf⟩ := lt1_some hf
                  refine as_52 X hK hW hS b50 hN51 dX9_goes_327 (fun H locs hW hS => ?_)
                  refine lv_aload_n hx hb dX9_goes_328 rfl (lv_at hl 3 rfl) ?_
                  refine g_9_44 X hK hW flRX9_108 dX9_goes_329 ?_
                  refine lv_iload_n hx hb dX9_goes_332 rfl (lv_at hl 0 rfl) ?_
                  refine lv_iconst (v := 1) hx hb dX9_goes_333 (by decide) ?_
                  refine lv_iadd hx hb dX9_goes_334 ?_
                  refine lv_iload_n hx hb dX9_goes_335 rfl (lv_at hl 1 rfl) ?_
                  obtain ⟨b52, hf⟩ := gd_some hf
                  obtain ⟨N53, hN53, hf⟩ := lt1_some hf
                  refine as_52 X hK hW hS b52 hN53 dX9_goes_336 (fun H locs hW hS => ?_)
                  refine lv_aload_n hx hb dX9_goes_337 rfl (lv_at hl 3 rfl) ?_
                  refine g_9_44 X hK hW flRX9_108 dX9_goes_338 ?_
                  refine lv_iload_n hx hb dX9_goes_341 rfl (lv_at hl 0 rfl) ?_
                  refine lv_iconst (v := 2) hx hb dX9_goes_342 (by decide) ?_
                  refine lv_iadd hx hb dX9_goes_343 ?_
                  refine lv_aload_n hx hb dX9_goes_344 rfl (lv_at hl 3 rfl) ?_
                  refine g_9_37 X hK hW flRX9_184 dX9_goes_345 ?_
                  obtain ⟨b54, hf⟩ := gd_some hf
                  obtain ⟨N55, hN55, hf⟩ := lt1_some hf
                  refine as_52 X hK hW hS b54 hN55 dX9_goes_348 (fun H locs hW hS => ?_)
                  refine lv_aload_n hx hb dX9_goes_349 rfl (lv_at hl 3 rfl) ?_
                  refine lv_dup hx hb dX9_goes_350 rfl ?_
                  refine g_9_43 X hK hW flRX9_204 dX9_goes_351 ?_
                  refine lv_iconst (v := 1) hx hb dX9_goes_354 (by decide) ?_
                  refine lv_iadd hx hb dX9_goes_355 ?_
                  obtain ⟨N56, hN56, hf⟩ := lt1_some hf
                  refine p_9_43 X hK hW hS hN56 flRX9_204 dX9_goes_356 (fun H locs hW hS => ?_)
                  refine lv_iload_n hx hb dX9_goes_359 rfl (lv_at hl 2 rfl) ?_
                  obtain ⟨rfl, rfl⟩ := sp2 hf
                  exact e_i ⟨hx, hb, hr, hlk⟩ hW hS dX9_goes_360
                · rw [if_pos c49] at hf
                  refine lv_aload_n hx hb dX9_goes_284 rfl (lv_at hl 2 rfl) ?_
                  refine g_9_15 X hK hW flRX9_49 dX9_goes_285 ?_
                  refine lv_iload_n hx hb dX9_goes_288 rfl (lv_at hl 1 rfl) ?_
                  refine al_34 X hK hW b7 dX9_goes_289 ?_
                  refine lv_aload_n hx hb dX9_goes_290 rfl (lv_at hl 2 rfl) ?_
                  refine g_9_10 X hK hW flRX9_34 dX9_goes_291 ?_
                  refine lv_aload_n hx hb dX9_goes_294 rfl (lv_at hl 2 rfl) ?_
                  refine g_9_13 X hK hW flRX9_43 dX9_goes_295 ?_
                  refine lv_iload_n hx hb dX9_goes_298 rfl (lv_at hl 1 rfl) ?_
                  refine al_32 X hK hW b7 dX9_goes_299 ?_
                  obtain ⟨b57, hf⟩ := gd_some hf
                  refine al_29 X hK hW b57 dX9_goes_300 ?_
                  refine lv_icmp_lt (tgt := 311) hx hb dX9_goes_301 (by decide) (fun c58 => ?_) (fun c58 => ?_)
                  · rw [if_pos c58] at hf
                    refine lv_iconst (v := 3) hx hb dX9_goes_311 (by decide) ?_
                    refine lv_aload_n hx hb dX9_goes_312 rfl (lv_at hl 2 rfl) ?_
                    refine g_9_43 X hK hW flRX9_204 dX9_goes_313 ?_
                    refine lv_bipush (v := 60) hx hb dX9_goes_316 (by decide) ?_
                    refine lv_irem hx hb dX9_goes_318 (by decide) ?_
                    refine lv_imul hx hb dX9_goes_319 ?_
                    refine lv_istore_n (lv' := [(3, .int (3 * ((N48 20 0 12) - (N48 20 0 12) / 60 * 60))), (2, .int (N6 34 0 r4.toNatClampNeg)), (1, .int r4), (0, .ref (ad 20 0))]) hx hb dX9_goes_320 rfl hl (by decide) rfl (fun ls hl => ?_)
                    refine lv_aload_n hx hb dX9_goes_321 rfl (lv_at hl 3 rfl) ?_
                    refine g_9_44 X hK hW flRX9_108 dX9_goes_322 ?_
                    refine lv_iload_n hx hb dX9_goes_325 rfl (lv_at hl 0 rfl) ?_
                    refine lv_iload_n hx hb dX9_goes_326 rfl (lv_at hl 2 rfl) ?_
                    obtain ⟨b59, hf⟩ := gd_some hf
                    obtain ⟨N60, hN60, hf⟩ := lt1_some hf
                    refine as_52 X hK hW hS b59 hN60 dX9_goes_327 (fun H locs hW hS => ?_)
                    refine lv_aload_n hx hb dX9_goes_328 rfl (lv_at hl 3 rfl) ?_
                    refine g_9_44 X hK hW flRX9_108 dX9_goes_329 ?_
                    refine lv_iload_n hx hb dX9_goes_332 rfl (lv_at hl 0 rfl) ?_
                    refine lv_iconst (v := 1) hx hb dX9_goes_333 (by decide) ?_
                    refine lv_iadd hx hb dX9_goes_334 ?_
                    refine lv_iload_n hx hb dX9_goes_335 rfl (lv_at hl 1 rfl) ?_
                    obtain ⟨b61, hf⟩ := gd_some hf
                    obtain ⟨N62, hN62, hf⟩ := lt1_some hf
                    refine as_52 X hK hW hS b61 hN62 dX9_goes_336 (fun H locs hW hS => ?_)
                    refine lv_aload_n hx hb dX9_goes_337 rfl (lv_at hl 3 rfl) ?_
                    refine g_9_44 X hK hW flRX9_108 dX9_goes_338 ?_
                    refine lv_iload_n hx hb dX9_goes_341 rfl (lv_at hl 0 rfl) ?_
                    refine lv_iconst (v := 2) hx hb dX9_goes_342 (by decide) ?_
                    refine lv_iadd hx hb dX9_goes_343 ?_
                    refine lv_aload_n hx hb dX9_goes_344 rfl (lv_at hl 3 rfl) ?_
                    refine g_9_37 X hK hW flRX9_184 dX9_goes_345 ?_
                    obtain ⟨b63, hf⟩ := gd_some hf
                    obtain ⟨N64, hN64, hf⟩ := lt1_some hf
                    refine as_52 X hK hW hS b63 hN64 dX9_goes_348 (fun H locs hW hS => ?_)
                    refine lv_aload_n hx hb dX9_goes_349 rfl (lv_at hl 3 rfl) ?_
                    refine lv_dup hx hb dX9_goes_350 rfl ?_
                    refine g_9_43 X hK hW flRX9_204 dX9_goes_351 ?_
                    refine lv_iconst (v := 1) hx hb dX9_goes_354 (by decide) ?_
                    refine lv_iadd hx hb dX9_goes_355 ?_
                    obtain ⟨N65, hN65, hf⟩ := lt1_some hf
                    refine p_9_43 X hK hW hS hN65 flRX9_204 dX9_goes_356 (fun H locs hW hS => ?_)
                    refine lv_iload_n hx hb dX9_goes_359 rfl (lv_at hl 2 rfl) ?_
                    obtain ⟨rfl, rfl⟩ := sp2 hf
                    exact e_i ⟨hx, hb, hr, hlk⟩ hW hS dX9_goes_360
                  · rw [if_neg c58] at hf
                    refine lv_aload_n hx hb dX9_goes_304 rfl (lv_at hl 2 rfl) ?_
                    refine lv_iload_n hx hb dX9_goes_305 rfl (lv_at hl 1 rfl) ?_
                    refine lv_iconst (v := 0) hx hb dX9_goes_306 (by decide) ?_
                    refine lv_iconst (v := 0) hx hb dX9_goes_307 (by decide) ?_
                    obtain ⟨N67, h66, hf⟩ := ob1_some hf
                    refine k_yX9_ends X hK hZ hW hS hl.1 h66 mlRX9_190 ⟨Nat.le_of_ble_eq_true rfl, Nat.le_of_ble_eq_true rfl⟩ ⟨Nat.le_of_ble_eq_true rfl, Nat.le_of_ble_eq_true rfl⟩ (Nat.le_of_ble_eq_true rfl) dX9_goes_308 (fun H locs hW hS => ?_)
                    refine lv_iconst (v := 3) hx hb dX9_goes_311 (by decide) ?_
                    refine lv_aload_n hx hb dX9_goes_312 rfl (lv_at hl 2 rfl) ?_
                    refine g_9_43 X hK hW flRX9_204 dX9_goes_313 ?_
                    refine lv_bipush (v := 60) hx hb dX9_goes_316 (by decide) ?_
                    refine lv_irem hx hb dX9_goes_318 (by decide) ?_
                    refine lv_imul hx hb dX9_goes_319 ?_
                    refine lv_istore_n (lv' := [(3, .int (3 * ((N67 20 0 12) - (N67 20 0 12) / 60 * 60))), (2, .int (N6 34 0 r4.toNatClampNeg)), (1, .int r4), (0, .ref (ad 20 0))]) hx hb dX9_goes_320 rfl hl (by decide) rfl (fun ls hl => ?_)
                    refine lv_aload_n hx hb dX9_goes_321 rfl (lv_at hl 3 rfl) ?_
                    refine g_9_44 X hK hW flRX9_108 dX9_goes_322 ?_
                    refine lv_iload_n hx hb dX9_goes_325 rfl (lv_at hl 0 rfl) ?_
                    refine lv_iload_n hx hb dX9_goes_326 rfl (lv_at hl 2 rfl) ?_
                    obtain ⟨b68, hf⟩ := gd_some hf
                    obtain ⟨N69, hN69, hf⟩ := lt1_some hf
                    refine as_52 X hK hW hS b68 hN69 dX9_goes_327 (fun H locs hW hS => ?_)
                    refine lv_aload_n hx hb dX9_goes_328 rfl (lv_at hl 3 rfl) ?_
                    refine g_9_44 X hK hW flRX9_108 dX9_goes_329 ?_
                    refine lv_iload_n hx hb dX9_goes_332 rfl (lv_at hl 0 rfl) ?_
                    refine lv_iconst (v := 1) hx hb dX9_goes_333 (by decide) ?_
                    refine lv_iadd hx hb dX9_goes_334 ?_
                    refine lv_iload_n hx hb dX9_goes_335 rfl (lv_at hl 1 rfl) ?_
                    obtain ⟨b70, hf⟩ := gd_some hf
                    obtain ⟨N71, hN71, hf⟩ := lt1_some hf
                    refine as_52 X hK hW hS b70 hN71 dX9_goes_336 (fun H locs hW hS => ?_)
                    refine lv_aload_n hx hb dX9_goes_337 rfl (lv_at hl 3 rfl) ?_
                    refine g_9_44 X hK hW flRX9_108 dX9_goes_338 ?_
                    refine lv_iload_n hx hb dX9_goes_341 rfl (lv_at hl 0 rfl) ?_
                    refine lv_iconst (v := 2) hx hb dX9_goes_342 (by decide) ?_
                    refine lv_iadd hx hb dX9_goes_343 ?_
                    refine lv_aload_n hx hb dX9_goes_344 rfl (lv_at hl 3 rfl) ?_
                    refine g_9_37 X hK hW flRX9_184 dX9_goes_345 ?_
                    obtain ⟨b72, hf⟩ := gd_some hf
                    obtain ⟨N73, hN73, hf⟩ := lt1_some hf
                    refine as_52 X hK hW hS b72 hN73 dX9_goes_348 (fun H locs hW hS => ?_)
                    refine lv_aload_n hx hb dX9_goes_349 rfl (lv_at hl 3 rfl) ?_
                    refine lv_dup hx hb dX9_goes_350 rfl ?_
                    refine g_9_43 X hK hW flRX9_204 dX9_goes_351 ?_
                    refine lv_iconst (v := 1) hx hb dX9_goes_354 (by decide) ?_
                    refine lv_iadd hx hb dX9_goes_355 ?_
                    obtain ⟨N74, hN74, hf⟩ := lt1_some hf
                    refine p_9_43 X hK hW hS hN74 flRX9_204 dX9_goes_356 (fun H locs hW hS => ?_)
                    refine lv_iload_n hx hb dX9_goes_359 rfl (lv_at hl 2 rfl) ?_
                    obtain ⟨rfl, rfl⟩ := sp2 hf
                    exact e_i ⟨hx, hb, hr, hlk⟩ hW hS dX9_goes_360
            · rw [if_neg c18] at hf
              refine lv_iload_n hx hb dX9_goes_251 rfl (lv_at hl 0 rfl) ?_
              refine lv_goto (tgt := 261) hx hb dX9_goes_252 (by decide) ?_
              obtain ⟨N75, hN75, hf⟩ := lt1_some hf
              refine as_34 X hK hW hS b7 hN75 dX9_goes_261 (fun H locs hW hS => ?_)
              refine lv_aload_n hx hb dX9_goes_262 rfl (lv_at hl 2 rfl) ?_
              refine g_9_37 X hK hW flRX9_184 dX9_goes_263 ?_
              refine lv_if_le (tgt := 274) hx hb dX9_goes_266 (by decide) (fun c76 => ?_) (fun c76 => ?_)
              · rw [if_pos c76] at hf
                refine lv_aload_n hx hb dX9_goes_274 rfl (lv_at hl 2 rfl) ?_
                refine g_9_12 X hK hW flRX9_40 dX9_goes_275 ?_
                refine lv_iload_n hx hb dX9_goes_278 rfl (lv_at hl 1 rfl) ?_
                refine al_31 X hK hW b7 dX9_goes_279 ?_
                refine lv_iconst (v := 2) hx hb dX9_goes_280 (by decide) ?_
                refine lv_icmp_ne (tgt := 311) hx hb dX9_goes_281 (by decide) (fun c77 => ?_) (fun c77 => ?_)
                · rw [if_neg c77] at hf
                  refine lv_iconst (v := 3) hx hb dX9_goes_311 (by decide) ?_
                  refine lv_aload_n hx hb dX9_goes_312 rfl (lv_at hl 2 rfl) ?_
                  refine g_9_43 X hK hW flRX9_204 dX9_goes_313 ?_
                  refine lv_bipush (v := 60) hx hb dX9_goes_316 (by decide) ?_
                  refine lv_irem hx hb dX9_goes_318 (by decide) ?_
                  refine lv_imul hx hb dX9_goes_319 ?_
                  refine lv_istore_n (lv' := [(3, .int (3 * ((N75 20 0 12) - (N75 20 0 12) / 60 * 60))), (2, .int (N6 34 0 r4.toNatClampNeg)), (1, .int r4), (0, .ref (ad 20 0))]) hx hb dX9_goes_320 rfl hl (by decide) rfl (fun ls hl => ?_)
                  refine lv_aload_n hx hb dX9_goes_321 rfl (lv_at hl 3 rfl) ?_
                  refine g_9_44 X hK hW flRX9_108 dX9_goes_322 ?_
                  refine lv_iload_n hx hb dX9_goes_325 rfl (lv_at hl 0 rfl) ?_
                  refine lv_iload_n hx hb dX9_goes_326 rfl (lv_at hl 2 rfl) ?_
                  obtain ⟨b78, hf⟩ := gd_some hf
                  obtain ⟨N79, hN79, hf⟩ := lt1_some hf
                  refine as_52 X hK hW hS b78 hN79 dX9_goes_327 (fun H locs hW hS => ?_)
                  refine lv_aload_n hx hb dX9_goes_328 rfl (lv_at hl 3 rfl) ?_
                  refine g_9_44 X hK hW flRX9_108 dX9_goes_329 ?_
                  refine lv_iload_n hx hb dX9_goes_332 rfl (lv_at hl 0 rfl) ?_
                  refine lv_iconst (v := 1) hx hb dX9_goes_333 (by decide) ?_
                  refine lv_iadd hx hb dX9_goes_334 ?_
                  refine lv_iload_n hx hb dX9_goes_335 rfl (lv_at hl 1 rfl) ?_
                  obtain ⟨b80, hf⟩ := gd_some hf
                  obtain ⟨N81, hN81, hf⟩ := lt1_some hf
                  refine as_52 X hK hW hS b80 hN81 dX9_goes_336 (fun H locs hW hS => ?_)
                  refine lv_aload_n hx hb dX9_goes_337 rfl (lv_at hl 3 rfl) ?_
                  refine g_9_44 X hK hW flRX9_108 dX9_goes_338 ?_
                  refine lv_iload_n hx hb dX9_goes_341 rfl (lv_at hl 0 rfl) ?_
                  refine lv_iconst (v := 2) hx hb dX9_goes_342 (by decide) ?_
                  refine lv_iadd hx hb dX9_goes_343 ?_
                  refine lv_aload_n hx hb dX9_goes_344 rfl (lv_at hl 3 rfl) ?_
                  refine g_9_37 X hK hW flRX9_184 dX9_goes_345 ?_
                  obtain ⟨b82, hf⟩ := gd_some hf
                  obtain ⟨N83, hN83, hf⟩ := lt1_some hf
                  refine as_52 X hK hW hS b82 hN83 dX9_goes_348 (fun H locs hW hS => ?_)
                  refine lv_aload_n hx hb dX9_goes_349 rfl (lv_at hl 3 rfl) ?_
                  refine lv_dup hx hb dX9_goes_350 rfl ?_
                  refine g_9_43 X hK hW flRX9_204 dX9_goes_351 ?_
                  refine lv_iconst (v := 1) hx hb dX9_goes_354 (by decide) ?_
                  refine lv_iadd hx hb dX9_goes_355 ?_
                  obtain ⟨N84, hN84, hf⟩ := lt1_some hf
                  refine p_9_43 X hK hW hS hN84 flRX9_204 dX9_goes_356 (fun H locs hW hS => ?_)
                  refine lv_iload_n hx hb dX9_goes_359 rfl (lv_at hl 2 rfl) ?_
                  obtain ⟨rfl, rfl⟩ := sp2 hf
                  exact e_i ⟨hx, hb, hr, hlk⟩ hW hS dX9_goes_360
                · rw [if_pos c77] at hf
                  refine lv_aload_n hx hb dX9_goes_284 rfl (lv_at hl 2 rfl) ?_
                  refine g_9_15 X hK hW flRX9_49 dX9_goes_285 ?_
                  refine lv_iload_n hx hb dX9_goes_288 rfl (lv_at hl 1 rfl) ?_
                  refine al_34 X hK hW b7 dX9_goes_289 ?_
                  refine lv_aload_n hx hb dX9_goes_290 rfl (lv_at hl 2 rfl) ?_
                  refine g_9_10 X hK hW flRX9_34 dX9_goes_291 ?_
                  refine lv_aload_n hx hb dX9_goes_294 rfl (lv_at hl 2 rfl) ?_
                  refine g_9_13 X hK hW flRX9_43 dX9_goes_295 ?_
                  refine lv_iload_n hx hb dX9_goes_298 rfl (lv_at hl 1 rfl) ?_
                  refine al_32 X hK hW b7 dX9_goes_299 ?_
                  obtain ⟨b85, hf⟩ := gd_some hf
                  refine al_29 X hK hW b85 dX9_goes_300 ?_
                  refine lv_icmp_lt (tgt := 311) hx hb dX9_goes_301 (by decide) (fun c86 => ?_) (fun c86 => ?_)
                  · rw [if_pos c86] at hf
                    refine lv_iconst (v := 3) hx hb dX9_goes_311 (by decide) ?_
                    refine lv_aload_n hx hb dX9_goes_312 rfl (lv_at hl 2 rfl) ?_
                    refine g_9_43 X hK hW flRX9_204 dX9_goes_313 ?_
                    refine lv_bipush (v := 60) hx hb dX9_goes_316 (by decide) ?_
                    refine lv_irem hx hb dX9_goes_318 (by decide) ?_
                    refine lv_imul hx hb dX9_goes_319 ?_
                    refine lv_istore_n (lv' := [(3, .int (3 * ((N75 20 0 12) - (N75 20 0 12) / 60 * 60))), (2, .int (N6 34 0 r4.toNatClampNeg)), (1, .int r4), (0, .ref (ad 20 0))]) hx hb dX9_goes_320 rfl hl (by decide) rfl (fun ls hl => ?_)
                    refine lv_aload_n hx hb dX9_goes_321 rfl (lv_at hl 3 rfl) ?_
                    refine g_9_44 X hK hW flRX9_108 dX9_goes_322 ?_
                    refine lv_iload_n hx hb dX9_goes_325 rfl (lv_at hl 0 rfl) ?_
                    refine lv_iload_n hx hb dX9_goes_326 rfl (lv_at hl 2 rfl) ?_
                    obtain ⟨b87, hf⟩ := gd_some hf
                    obtain ⟨N88, hN88, hf⟩ := lt1_some hf
                    refine as_52 X hK hW hS b87 hN88 dX9_goes_327 (fun H locs hW hS => ?_)
                    refine lv_aload_n hx hb dX9_goes_328 rfl (lv_at hl 3 rfl) ?_
                    refine g_9_44 X hK hW flRX9_108 dX9_goes_329 ?_
                    refine lv_iload_n hx hb dX9_goes_332 rfl (lv_at hl 0 rfl) ?_
                    refine lv_iconst (v := 1) hx hb dX9_goes_333 (by decide) ?_
                    refine lv_iadd hx hb dX9_goes_334 ?_
                    refine lv_iload_n hx hb dX9_goes_335 rfl (lv_at hl 1 rfl) ?_
                    obtain ⟨b89, hf⟩ := gd_some hf
                    obtain ⟨N90, hN90, hf⟩ := lt1_some hf
                    refine as_52 X hK hW hS b89 hN90 dX9_goes_336 (fun H locs hW hS => ?_)
                    refine lv_aload_n hx hb dX9_goes_337 rfl (lv_at hl 3 rfl) ?_
                    refine g_9_44 X hK hW flRX9_108 dX9_goes_338 ?_
                    refine lv_iload_n hx hb dX9_goes_341 rfl (lv_at hl 0 rfl) ?_
                    refine lv_iconst (v := 2) hx hb dX9_goes_342 (by decide) ?_
                    refine lv_iadd hx hb dX9_goes_343 ?_
                    refine lv_aload_n hx hb dX9_goes_344 rfl (lv_at hl 3 rfl) ?_
                    refine g_9_37 X hK hW flRX9_184 dX9_goes_345 ?_
                    obtain ⟨b91, hf⟩ := gd_some hf
                    obtain ⟨N92, hN92, hf⟩ := lt1_some hf
                    refine as_52 X hK hW hS b91 hN92 dX9_goes_348 (fun H locs hW hS => ?_)
                    refine lv_aload_n hx hb dX9_goes_349 rfl (lv_at hl 3 rfl) ?_
                    refine lv_dup hx hb dX9_goes_350 rfl ?_
                    refine g_9_43 X hK hW flRX9_204 dX9_goes_351 ?_
                    refine lv_iconst (v := 1) hx hb dX9_goes_354 (by decide) ?_
                    refine lv_iadd hx hb dX9_goes_355 ?_
                    obtain ⟨N93, hN93, hf⟩ := lt1_some hf
                    refine p_9_43 X hK hW hS hN93 flRX9_204 dX9_goes_356 (fun H locs hW hS => ?_)
                    refine lv_iload_n hx hb dX9_goes_359 rfl (lv_at hl 2 rfl) ?_
                    obtain ⟨rfl, rfl⟩ := sp2 hf
                    exact e_i ⟨hx, hb, hr, hlk⟩ hW hS dX9_goes_360
                  · rw [if_neg c86] at hf
                    refine lv_aload_n hx hb dX9_goes_304 rfl (lv_at hl 2 rfl) ?_
                    refine lv_iload_n hx hb dX9_goes_305 rfl (lv_at hl 1 rfl) ?_
                    refine lv_iconst (v := 0) hx hb dX9_goes_306 (by decide) ?_
                    refine lv_iconst (v := 0) hx hb dX9_goes_307 (by decide) ?_
                    obtain ⟨N95, h94, hf⟩ := ob1_some hf
                    refine k_yX9_ends X hK hZ hW hS hl.1 h94 mlRX9_190 ⟨Nat.le_of_ble_eq_true rfl, Nat.le_of_ble_eq_true rfl⟩ ⟨Nat.le_of_ble_eq_true rfl, Nat.le_of_ble_eq_true rfl⟩ (Nat.le_of_ble_eq_true rfl) dX9_goes_308 (fun H locs hW hS => ?_)
                    refine lv_iconst (v := 3) hx hb dX9_goes_311 (by decide) ?_
                    refine lv_aload_n hx hb dX9_goes_312 rfl (lv_at hl 2 rfl) ?_
                    refine g_9_43 X hK hW flRX9_204 dX9_goes_313 ?_
                    refine lv_bipush (v := 60) hx hb dX9_goes_316 (by decide) ?_
                    refine lv_irem hx hb dX9_goes_318 (by decide) ?_
                    refine lv_imul hx hb dX9_goes_319 ?_
                    refine lv_istore_n (lv' := [(3, .int (3 * ((N95 20 0 12) - (N95 20 0 12) / 60 * 60))), (2, .int (N6 34 0 r4.toNatClampNeg)), (1, .int r4), (0, .ref (ad 20 0))]) hx hb dX9_goes_320 rfl hl (by decide) rfl (fun ls hl => ?_)
                    refine lv_aload_n hx hb dX9_goes_321 rfl (lv_at hl 3 rfl) ?_
                    refine g_9_44 X hK hW flRX9_108 dX9_goes_322 ?_
                    refine lv_iload_n hx hb dX9_goes_325 rfl (lv_at hl 0 rfl) ?_
                    refine lv_iload_n hx hb dX9_goes_326 rfl (lv_at hl 2 rfl) ?_
                    obtain ⟨b96, hf⟩ := gd_some hf
                    obtain ⟨N97, hN97, hf⟩ := lt1_some hf
                    refine as_52 X hK hW hS b96 hN97 dX9_goes_327 (fun H locs hW hS => ?_)
                    refine lv_aload_n hx hb dX9_goes_328 rfl (lv_at hl 3 rfl) ?_
                    refine g_9_44 X hK hW flRX9_108 dX9_goes_329 ?_
                    refine lv_iload_n hx hb dX9_goes_332 rfl (lv_at hl 0 rfl) ?_
                    refine lv_iconst (v := 1) hx hb dX9_goes_333 (by decide) ?_
                    refine lv_iadd hx hb dX9_goes_334 ?_
                    refine lv_iload_n hx hb dX9_goes_335 rfl (lv_at hl 1 rfl) ?_
                    obtain ⟨b98, hf⟩ := gd_some hf
                    obtain ⟨N99, hN99, hf⟩ := lt1_some hf
                    refine as_52 X hK hW hS b98 hN99 dX9_goes_336 (fun H locs hW hS => ?_)
                    refine lv_aload_n hx hb dX9_goes_337 rfl (lv_at hl 3 rfl) ?_
                    refine g_9_44 X hK hW flRX9_108 dX9_goes_338 ?_
                    refine lv_iload_n hx hb dX9_goes_341 rfl (lv_at hl 0 rfl) ?_
                    refine lv_iconst (v := 2) hx hb dX9_goes_342 (by decide) ?_
                    refine lv_iadd hx hb dX9_goes_343 ?_
                    refine lv_aload_n hx hb dX9_goes_344 rfl (lv_at hl 3 rfl) ?_
                    refine g_9_37 X hK hW flRX9_184 dX9_goes_345 ?_
                    obtain ⟨b100, hf⟩ := gd_some hf
                    obtain ⟨N101, hN101, hf⟩ := lt1_some hf
                    refine as_52 X hK hW hS b100 hN101 dX9_goes_348 (fun H locs hW hS => ?_)
                    refine lv_aload_n hx hb dX9_goes_349 rfl (lv_at hl 3 rfl) ?_
                    refine lv_dup hx hb dX9_goes_350 rfl ?_
                    refine g_9_43 X hK hW flRX9_204 dX9_goes_351 ?_
                    refine lv_iconst (v := 1) hx hb dX9_goes_354 (by decide) ?_
                    refine lv_iadd hx hb dX9_goes_355 ?_
                    obtain ⟨N102, hN102, hf⟩ := lt1_some hf
                    refine p_9_43 X hK hW hS hN102 flRX9_204 dX9_goes_356 (fun H locs hW hS => ?_)
                    refine lv_iload_n hx hb dX9_goes_359 rfl (lv_at hl 2 rfl) ?_
                    obtain ⟨rfl, rfl⟩ := sp2 hf
                    exact e_i ⟨hx, hb, hr, hlk⟩ hW hS dX9_goes_360
              · rw [if_neg c76] at hf
                refine lv_aload_n hx hb dX9_goes_269 rfl (lv_at hl 2 rfl) ?_
                refine lv_iload_n hx hb dX9_goes_270 rfl (lv_at hl 1 rfl) ?_
                obtain ⟨N104, h103, hf⟩ := ob1_some hf
                refine k_yX9_fails X hK hZ hW hS hl.1 h103 mlRX9_201 ⟨Nat.le_of_ble_eq_true rfl, Nat.le_of_ble_eq_true rfl⟩ ⟨Nat.le_of_ble_eq_true rfl, Nat.le_of_ble_eq_true rfl⟩ (Nat.le_of_ble_eq_true rfl) dX9_goes_271 (fun H locs hW hS => ?_)
                refine lv_aload_n hx hb dX9_goes_274 rfl (lv_at hl 2 rfl) ?_
                refine g_9_12 X hK hW flRX9_40 dX9_goes_275 ?_
                refine lv_iload_n hx hb dX9_goes_278 rfl (lv_at hl 1 rfl) ?_
                refine al_31 X hK hW b7 dX9_goes_279 ?_
                refine lv_iconst (v := 2) hx hb dX9_goes_280 (by decide) ?_
                refine lv_icmp_ne (tgt := 311) hx hb dX9_goes_281 (by decide) (fun c105 => ?_) (fun c105 => ?_)
                · rw [if_neg c105] at hf
                  refine lv_iconst (v := 3) hx hb dX9_goes_311 (by decide) ?_
                  refine lv_aload_n hx hb dX9_goes_312 rfl (lv_at hl 2 rfl) ?_
                  refine g_9_43 X hK hW flRX9_204 dX9_goes_313 ?_
                  refine lv_bipush (v := 60) hx hb dX9_goes_316 (by decide) ?_
                  refine lv_irem hx hb dX9_goes_318 (by decide) ?_
                  refine lv_imul hx hb dX9_goes_319 ?_
                  refine lv_istore_n (lv' := [(3, .int (3 * ((N104 20 0 12) - (N104 20 0 12) / 60 * 60))), (2, .int (N6 34 0 r4.toNatClampNeg)), (1, .int r4), (0, .ref (ad 20 0))]) hx hb dX9_goes_320 rfl hl (by decide) rfl (fun ls hl => ?_)
                  refine lv_aload_n hx hb dX9_goes_321 rfl (lv_at hl 3 rfl) ?_
                  refine g_9_44 X hK hW flRX9_108 dX9_goes_322 ?_
                  refine lv_iload_n hx hb dX9_goes_325 rfl (lv_at hl 0 rfl) ?_
                  refine lv_iload_n hx hb dX9_goes_326 rfl (lv_at hl 2 rfl) ?_
                  obtain ⟨b106, hf⟩ := gd_some hf
                  obtain ⟨N107, hN107, hf⟩ := lt1_some hf
                  refine as_52 X hK hW hS b106 hN107 dX9_goes_327 (fun H locs hW hS => ?_)
                  refine lv_aload_n hx hb dX9_goes_328 rfl (lv_at hl 3 rfl) ?_
                  refine g_9_44 X hK hW flRX9_108 dX9_goes_329 ?_
                  refine lv_iload_n hx hb dX9_goes_332 rfl (lv_at hl 0 rfl) ?_
                  refine lv_iconst (v := 1) hx hb dX9_goes_333 (by decide) ?_
                  refine lv_iadd hx hb dX9_goes_334 ?_
                  refine lv_iload_n hx hb dX9_goes_335 rfl (lv_at hl 1 rfl) ?_
                  obtain ⟨b108, hf⟩ := gd_some hf
                  obtain ⟨N109, hN109, hf⟩ := lt1_some hf
                  refine as_52 X hK hW hS b108 hN109 dX9_goes_336 (fun H locs hW hS => ?_)
                  refine lv_aload_n hx hb dX9_goes_337 rfl (lv_at hl 3 rfl) ?_
                  refine g_9_44 X hK hW flRX9_108 dX9_goes_338 ?_
                  refine lv_iload_n hx hb dX9_goes_341 rfl (lv_at hl 0 rfl) ?_
                  refine lv_iconst (v := 2) hx hb dX9_goes_342 (by decide) ?_
                  refine lv_iadd hx hb dX9_goes_343 ?_
                  refine lv_aload_n hx hb dX9_goes_344 rfl (lv_at hl 3 rfl) ?_
                  refine g_9_37 X hK hW flRX9_184 dX9_goes_345 ?_
                  obtain ⟨b110, hf⟩ := gd_some hf
                  obtain ⟨N111, hN111, hf⟩ := lt1_some hf
                  refine as_52 X hK hW hS b110 hN111 dX9_goes_348 (fun H locs hW hS => ?_)
                  refine lv_aload_n hx hb dX9_goes_349 rfl (lv_at hl 3 rfl) ?_
                  refine lv_dup hx hb dX9_goes_350 rfl ?_
                  refine g_9_43 X hK hW flRX9_204 dX9_goes_351 ?_
                  refine lv_iconst (v := 1) hx hb dX9_goes_354 (by decide) ?_
                  refine lv_iadd hx hb dX9_goes_355 ?_
                  obtain ⟨N112, hN112, hf⟩ := lt1_some hf
                  refine p_9_43 X hK hW hS hN112 flRX9_204 dX9_goes_356 (fun H locs hW hS => ?_)
                  refine lv_iload_n hx hb dX9_goes_359 rfl (lv_at hl 2 rfl) ?_
                  obtain ⟨rfl, rfl⟩ := sp2 hf
                  exact e_i ⟨hx, hb, hr, hlk⟩ hW hS dX9_goes_360
                · rw [if_pos c105] at hf
                  refine lv_aload_n hx hb dX9_goes_284 rfl (lv_at hl 2 rfl) ?_
                  refine g_9_15 X hK hW flRX9_49 dX9_goes_285 ?_
                  refine lv_iload_n hx hb dX9_goes_288 rfl (lv_at hl 1 rfl) ?_
                  refine al_34 X hK hW b7 dX9_goes_289 ?_
                  refine lv_aload_n hx hb dX9_goes_290 rfl (lv_at hl 2 rfl) ?_
                  refine g_9_10 X hK hW flRX9_34 dX9_goes_291 ?_
                  refine lv_aload_n hx hb dX9_goes_294 rfl (lv_at hl 2 rfl) ?_
                  refine g_9_13 X hK hW flRX9_43 dX9_goes_295 ?_
                  refine lv_iload_n hx hb dX9_goes_298 rfl (lv_at hl 1 rfl) ?_
                  refine al_32 X hK hW b7 dX9_goes_299 ?_
                  obtain ⟨b113, hf⟩ := gd_some hf
                  refine al_29 X hK hW b113 dX9_goes_300 ?_
                  refine lv_icmp_lt (tgt := 311) hx hb dX9_goes_301 (by decide) (fun c114 => ?_) (fun c114 => ?_)
                  · rw [if_pos c114] at hf
                    refine lv_iconst (v := 3) hx hb dX9_goes_311 (by decide) ?_
                    refine lv_aload_n hx hb dX9_goes_312 rfl (lv_at hl 2 rfl) ?_
                    refine g_9_43 X hK hW flRX9_204 dX9_goes_313 ?_
                    refine lv_bipush (v := 60) hx hb dX9_goes_316 (by decide) ?_
                    refine lv_irem hx hb dX9_goes_318 (by decide) ?_
                    refine lv_imul hx hb dX9_goes_319 ?_
                    refine lv_istore_n (lv' := [(3, .int (3 * ((N104 20 0 12) - (N104 20 0 12) / 60 * 60))), (2, .int (N6 34 0 r4.toNatClampNeg)), (1, .int r4), (0, .ref (ad 20 0))]) hx hb dX9_goes_320 rfl hl (by decide) rfl (fun ls hl => ?_)
                    refine lv_aload_n hx hb dX9_goes_321 rfl (lv_at hl 3 rfl) ?_
                    refine g_9_44 X hK hW flRX9_108 dX9_goes_322 ?_
                    refine lv_iload_n hx hb dX9_goes_325 rfl (lv_at hl 0 rfl) ?_
                    refine lv_iload_n hx hb dX9_goes_326 rfl (lv_at hl 2 rfl) ?_
                    obtain ⟨b115, hf⟩ := gd_some hf
                    obtain ⟨N116, hN116, hf⟩ := lt1_some hf
                    refine as_52 X hK hW hS b115 hN116 dX9_goes_327 (fun H locs hW hS => ?_)
                    refine lv_aload_n hx hb dX9_goes_328 rfl (lv_at hl 3 rfl) ?_
                    refine g_9_44 X hK hW flRX9_108 dX9_goes_329 ?_
                    refine lv_iload_n hx hb dX9_goes_332 rfl (lv_at hl 0 rfl) ?_
                    refine lv_iconst (v := 1) hx hb dX9_goes_333 (by decide) ?_
                    refine lv_iadd hx hb dX9_goes_334 ?_
                    refine lv_iload_n hx hb dX9_goes_335 rfl (lv_at hl 1 rfl) ?_
                    obtain ⟨b117, hf⟩ := gd_some hf
                    obtain ⟨N118, hN118, hf⟩ := lt1_some hf
                    refine as_52 X hK hW hS b117 hN118 dX9_goes_336 (fun H locs hW hS => ?_)
                    refine lv_aload_n hx hb dX9_goes_337 rfl (lv_at hl 3 rfl) ?_
                    refine g_9_44 X hK hW flRX9_108 dX9_goes_338 ?_
                    refine lv_iload_n hx hb dX9_goes_341 rfl (lv_at hl 0 rfl) ?_
                    refine lv_iconst (v := 2) hx hb dX9_goes_342 (by decide) ?_
                    refine lv_iadd hx hb dX9_goes_343 ?_
                    refine lv_aload_n hx hb dX9_goes_344 rfl (lv_at hl 3 rfl) ?_
                    refine g_9_37 X hK hW flRX9_184 dX9_goes_345 ?_
                    obtain ⟨b119, hf⟩ := gd_some hf
                    obtain ⟨N120, hN120, hf⟩ := lt1_some hf
                    refine as_52 X hK hW hS b119 hN120 dX9_goes_348 (fun H locs hW hS => ?_)
                    refine lv_aload_n hx hb dX9_goes_349 rfl (lv_at hl 3 rfl) ?_
                    refine lv_dup hx hb dX9_goes_350 rfl ?_
                    refine g_9_43 X hK hW flRX9_204 dX9_goes_351 ?_
                    refine lv_iconst (v := 1) hx hb dX9_goes_354 (by decide) ?_
                    refine lv_iadd hx hb dX9_goes_355 ?_
                    obtain ⟨N121, hN121, hf⟩ := lt1_some hf
                    refine p_9_43 X hK hW hS hN121 flRX9_204 dX9_goes_356 (fun H locs hW hS => ?_)
                    refine lv_iload_n hx hb dX9_goes_359 rfl (lv_at hl 2 rfl) ?_
                    obtain ⟨rfl, rfl⟩ := sp2 hf
                    exact e_i ⟨hx, hb, hr, hlk⟩ hW hS dX9_goes_360
                  · rw [if_neg c114] at hf
                    refine lv_aload_n hx hb dX9_goes_304 rfl (lv_at hl 2 rfl) ?_
                    refine lv_iload_n hx hb dX9_goes_305 rfl (lv_at hl 1 rfl) ?_
                    refine lv_iconst (v := 0) hx hb dX9_goes_306 (by decide) ?_
                    refine lv_iconst (v := 0) hx hb dX9_goes_307 (by decide) ?_
                    obtain ⟨N123, h122, hf⟩ := ob1_some hf
                    refine k_yX9_ends X hK hZ hW hS hl.1 h122 mlRX9_190 ⟨Nat.le_of_ble_eq_true rfl, Nat.le_of_ble_eq_true rfl⟩ ⟨Nat.le_of_ble_eq_true rfl, Nat.le_of_ble_eq_true rfl⟩ (Nat.le_of_ble_eq_true rfl) dX9_goes_308 (fun H locs hW hS => ?_)
                    refine lv_iconst (v := 3) hx hb dX9_goes_311 (by decide) ?_
                    refine lv_aload_n hx hb dX9_goes_312 rfl (lv_at hl 2 rfl) ?_
                    refine g_9_43 X hK hW flRX9_204 dX9_goes_313 ?_
                    refine lv_bipush (v := 60) hx hb dX9_goes_316 (by decide) ?_
                    refine lv_irem hx hb dX9_goes_318 (by decide) ?_
                    refine lv_imul hx hb dX9_goes_319 ?_
                    refine lv_istore_n (lv' := [(3, .int (3 * ((N123 20 0 12) - (N123 20 0 12) / 60 * 60))), (2, .int (N6 34 0 r4.toNatClampNeg)), (1, .int r4), (0, .ref (ad 20 0))]) hx hb dX9_goes_320 rfl hl (by decide) rfl (fun ls hl => ?_)
                    refine lv_aload_n hx hb dX9_goes_321 rfl (lv_at hl 3 rfl) ?_
                    refine g_9_44 X hK hW flRX9_108 dX9_goes_322 ?_
                    refine lv_iload_n hx hb dX9_goes_325 rfl (lv_at hl 0 rfl) ?_
                    refine lv_iload_n hx hb dX9_goes_326 rfl (lv_at hl 2 rfl) ?_
                    obtain ⟨b124, hf⟩ := gd_some hf
                    obtain ⟨N125, hN125, hf⟩ := lt1_some hf
                    refine as_52 X hK hW hS b124 hN125 dX9_goes_327 (fun H locs hW hS => ?_)
                    refine lv_aload_n hx hb dX9_goes_328 rfl (lv_at hl 3 rfl) ?_
                    refine g_9_44 X hK hW flRX9_108 dX9_goes_329 ?_
                    refine lv_iload_n hx hb dX9_goes_332 rfl (lv_at hl 0 rfl) ?_
                    refine lv_iconst (v := 1) hx hb dX9_goes_333 (by decide) ?_
                    refine lv_iadd hx hb dX9_goes_334 ?_
                    refine lv_iload_n hx hb dX9_goes_335 rfl (lv_at hl 1 rfl) ?_
                    obtain ⟨b126, hf⟩ := gd_some hf
                    obtain ⟨N127, hN127, hf⟩ := lt1_some hf
                    refine as_52 X hK hW hS b126 hN127 dX9_goes_336 (fun H locs hW hS => ?_)
                    refine lv_aload_n hx hb dX9_goes_337 rfl (lv_at hl 3 rfl) ?_
                    refine g_9_44 X hK hW flRX9_108 dX9_goes_338 ?_
                    refine lv_iload_n hx hb dX9_goes_341 rfl (lv_at hl 0 rfl) ?_
                    refine lv_iconst (v := 2) hx hb dX9_goes_342 (by decide) ?_
                    refine lv_iadd hx hb dX9_goes_343 ?_
                    refine lv_aload_n hx hb dX9_goes_344 rfl (lv_at hl 3 rfl) ?_
                    refine g_9_37 X hK hW flRX9_184 dX9_goes_345 ?_
                    obtain ⟨b128, hf⟩ := gd_some hf
                    obtain ⟨N129, hN129, hf⟩ := lt1_some hf
                    refine as_52 X hK hW hS b128 hN129 dX9_goes_348 (fun H locs hW hS => ?_)
                    refine lv_aload_n hx hb dX9_goes_349 rfl (lv_at hl 3 rfl) ?_
                    refine lv_dup hx hb dX9_goes_350 rfl ?_
                    refine g_9_43 X hK hW flRX9_204 dX9_goes_351 ?_
                    refine lv_iconst (v := 1) hx hb dX9_goes_354 (by decide) ?_
                    refine lv_iadd hx hb dX9_goes_355 ?_
                    obtain ⟨N130, hN130, hf⟩ := lt1_some hf
                    refine p_9_43 X hK hW hS hN130 flRX9_204 dX9_goes_356 (fun H locs hW hS => ?_)
                    refine lv_iload_n hx hb dX9_goes_359 rfl (lv_at hl 2 rfl) ?_
                    obtain ⟨rfl, rfl⟩ := sp2 hf
                    exact e_i ⟨hx, hb, hr, hlk⟩ hW hS dX9_goes_360
          · rw [if_neg c12] at hf
            refine lv_aload_n hx hb dX9_goes_181 rfl (lv_at hl 2 rfl) ?_
            refine lv_iload_n hx hb dX9_goes_182 rfl (lv_at hl 1 rfl) ?_
            refine lv_iconst (v := 0) hx hb dX9_goes_183 (by decide) ?_
            refine lv_iconst (v := 0) hx hb dX9_goes_184 (by decide) ?_
            obtain ⟨N132, h131, hf⟩ := ob1_some hf
            refine k_yX9_ends X hK hZ hW hS hl.1 h131 mlRX9_190 ⟨Nat.le_of_ble_eq_true rfl, Nat.le_of_ble_eq_true rfl⟩ ⟨Nat.le_of_ble_eq_true rfl, Nat.le_of_ble_eq_true rfl⟩ (Nat.le_of_ble_eq_true rfl) dX9_goes_185 (fun H locs hW hS => ?_)
            refine lv_goto (tgt := 262) hx hb dX9_goes_188 (by decide) ?_
            refine lv_aload_n hx hb dX9_goes_262 rfl (lv_at hl 2 rfl) ?_
            refine g_9_37 X hK hW flRX9_184 dX9_goes_263 ?_
            refine lv_if_le (tgt := 274) hx hb dX9_goes_266 (by decide) (fun c133 => ?_) (fun c133 => ?_)
            · rw [if_pos c133] at hf
              refine lv_aload_n hx hb dX9_goes_274 rfl (lv_at hl 2 rfl) ?_
              refine g_9_12 X hK hW flRX9_40 dX9_goes_275 ?_
              refine lv_iload_n hx hb dX9_goes_278 rfl (lv_at hl 1 rfl) ?_
              refine al_31 X hK hW b7 dX9_goes_279 ?_
              refine lv_iconst (v := 2) hx hb dX9_goes_280 (by decide) ?_
              refine lv_icmp_ne (tgt := 311) hx hb dX9_goes_281 (by decide) (fun c134 => ?_) (fun c134 => ?_)
              · rw [if_neg c134] at hf
                refine lv_iconst (v := 3) hx hb dX9_goes_311 (by decide) ?_
                refine lv_aload_n hx hb dX9_goes_312 rfl (lv_at hl 2 rfl) ?_
                refine g_9_43 X hK hW flRX9_204 dX9_goes_313 ?_
                refine lv_bipush (v := 60) hx hb dX9_goes_316 (by decide) ?_
                refine lv_irem hx hb dX9_goes_318 (by decide) ?_
                refine lv_imul hx hb dX9_goes_319 ?_
                refine lv_istore_n (lv' := [(3, .int (3 * ((N132 20 0 12) - (N132 20 0 12) / 60 * 60))), (2, .int (N6 34 0 r4.toNatClampNeg)), (1, .int r4), (0, .ref (ad 20 0))]) hx hb dX9_goes_320 rfl hl (by decide) rfl (fun ls hl => ?_)
                refine lv_aload_n hx hb dX9_goes_321 rfl (lv_at hl 3 rfl) ?_
                refine g_9_44 X hK hW flRX9_108 dX9_goes_322 ?_
                refine lv_iload_n hx hb dX9_goes_325 rfl (lv_at hl 0 rfl) ?_
                refine lv_iload_n hx hb dX9_goes_326 rfl (lv_at hl 2 rfl) ?_
                obtain ⟨b135, hf⟩ := gd_some hf
                obtain ⟨N136, hN136, hf⟩ := lt1_some hf
                refine as_52 X hK hW hS b135 hN136 dX9_goes_327 (fun H locs hW hS => ?_)
                refine lv_aload_n hx hb dX9_goes_328 rfl (lv_at hl 3 rfl) ?_
                refine g_9_44 X hK hW flRX9_108 dX9_goes_329 ?_
                refine lv_iload_n hx hb dX9_goes_332 rfl (lv_at hl 0 rfl) ?_
                refine lv_iconst (v := 1) hx hb dX9_goes_333 (by decide) ?_
                refine lv_iadd hx hb dX9_goes_334 ?_
                refine lv_iload_n hx hb dX9_goes_335 rfl (lv_at hl 1 rfl) ?_
                obtain ⟨b137, hf⟩ := gd_some hf
                obtain ⟨N138, hN138, hf⟩ := lt1_some hf
                refine as_52 X hK hW hS b137 hN138 dX9_goes_336 (fun H locs hW hS => ?_)
                refine lv_aload_n hx hb dX9_goes_337 rfl (lv_at hl 3 rfl) ?_
                refine g_9_44 X hK hW flRX9_108 dX9_goes_338 ?_
                refine lv_iload_n hx hb dX9_goes_341 rfl (lv_at hl 0 rfl) ?_
                refine lv_iconst (v := 2) hx hb dX9_goes_342 (by decide) ?_
                refine lv_iadd hx hb dX9_goes_343 ?_
                refine lv_aload_n hx hb dX9_goes_344 rfl (lv_at hl 3 rfl) ?_
                refine g_9_37 X hK hW flRX9_184 dX9_goes_345 ?_
                obtain ⟨b139, hf⟩ := gd_some hf
                obtain ⟨N140, hN140, hf⟩ := lt1_some hf
                refine as_52 X hK hW hS b139 hN140 dX9_goes_348 (fun H locs hW hS => ?_)
                refine lv_aload_n hx hb dX9_goes_349 rfl (lv_at hl 3 rfl) ?_
                refine lv_dup hx hb dX9_goes_350 rfl ?_
                refine g_9_43 X hK hW flRX9_204 dX9_goes_351 ?_
                refine lv_iconst (v := 1) hx hb dX9_goes_354 (by decide) ?_
                refine lv_iadd hx hb dX9_goes_355 ?_
                obtain ⟨N141, hN141, hf⟩ := lt1_some hf
                refine p_9_43 X hK hW hS hN141 flRX9_204 dX9_goes_356 (fun H locs hW hS => ?_)
                refine lv_iload_n hx hb dX9_goes_359 rfl (lv_at hl 2 rfl) ?_
                obtain ⟨rfl, rfl⟩ := sp2 hf
                exact e_i ⟨hx, hb, hr, hlk⟩ hW hS dX9_goes_360
              · rw [if_pos c134] at hf
                refine lv_aload_n hx hb dX9_goes_284 rfl (lv_at hl 2 rfl) ?_
                refine g_9_15 X hK hW flRX9_49 dX9_goes_285 ?_
                refine lv_iload_n hx hb dX9_goes_288 rfl (lv_at hl 1 rfl) ?_
                refine al_34 X hK hW b7 dX9_goes_289 ?_
                refine lv_aload_n hx hb dX9_goes_290 rfl (lv_at hl 2 rfl) ?_
                refine g_9_10 X hK hW flRX9_34 dX9_goes_291 ?_
                refine lv_aload_n hx hb dX9_goes_294 rfl (lv_at hl 2 rfl) ?_
                refine g_9_13 X hK hW flRX9_43 dX9_goes_295 ?_
                refine lv_iload_n hx hb dX9_goes_298 rfl (lv_at hl 1 rfl) ?_
                refine al_32 X hK hW b7 dX9_goes_299 ?_
                obtain ⟨b142, hf⟩ := gd_some hf
                refine al_29 X hK hW b142 dX9_goes_300 ?_
                refine lv_icmp_lt (tgt := 311) hx hb dX9_goes_301 (by decide) (fun c143 => ?_) (fun c143 => ?_)
                · rw [if_pos c143] at hf
                  refine lv_iconst (v := 3) hx hb dX9_goes_311 (by decide) ?_
                  refine lv_aload_n hx hb dX9_goes_312 rfl (lv_at hl 2 rfl) ?_
                  refine g_9_43 X hK hW flRX9_204 dX9_goes_313 ?_
                  refine lv_bipush (v := 60) hx hb dX9_goes_316 (by decide) ?_
                  refine lv_irem hx hb dX9_goes_318 (by decide) ?_
                  refine lv_imul hx hb dX9_goes_319 ?_
                  refine lv_istore_n (lv' := [(3, .int (3 * ((N132 20 0 12) - (N132 20 0 12) / 60 * 60))), (2, .int (N6 34 0 r4.toNatClampNeg)), (1, .int r4), (0, .ref (ad 20 0))]) hx hb dX9_goes_320 rfl hl (by decide) rfl (fun ls hl => ?_)
                  refine lv_aload_n hx hb dX9_goes_321 rfl (lv_at hl 3 rfl) ?_
                  refine g_9_44 X hK hW flRX9_108 dX9_goes_322 ?_
                  refine lv_iload_n hx hb dX9_goes_325 rfl (lv_at hl 0 rfl) ?_
                  refine lv_iload_n hx hb dX9_goes_326 rfl (lv_at hl 2 rfl) ?_
                  obtain ⟨b144, hf⟩ := gd_some hf
                  obtain ⟨N145, hN145, hf⟩ := lt1_some hf
                  refine as_52 X hK hW hS b144 hN145 dX9_goes_327 (fun H locs hW hS => ?_)
                  refine lv_aload_n hx hb dX9_goes_328 rfl (lv_at hl 3 rfl) ?_
                  refine g_9_44 X hK hW flRX9_108 dX9_goes_329 ?_
                  refine lv_iload_n hx hb dX9_goes_332 rfl (lv_at hl 0 rfl) ?_
                  refine lv_iconst (v := 1) hx hb dX9_goes_333 (by decide) ?_
                  refine lv_iadd hx hb dX9_goes_334 ?_
                  refine lv_iload_n hx hb dX9_goes_335 rfl (lv_at hl 1 rfl) ?_
                  obtain ⟨b146, hf⟩ := gd_some hf
                  obtain ⟨N147, hN147, hf⟩ := lt1_some hf
                  refine as_52 X hK hW hS b146 hN147 dX9_goes_336 (fun H locs hW hS => ?_)
                  refine lv_aload_n hx hb dX9_goes_337 rfl (lv_at hl 3 rfl) ?_
                  refine g_9_44 X hK hW flRX9_108 dX9_goes_338 ?_
                  refine lv_iload_n hx hb dX9_goes_341 rfl (lv_at hl 0 rfl) ?_
                  refine lv_iconst (v := 2) hx hb dX9_goes_342 (by decide) ?_
                  refine lv_iadd hx hb dX9_goes_343 ?_
                  refine lv_aload_n hx hb dX9_goes_344 rfl (lv_at hl 3 rfl) ?_
                  refine g_9_37 X hK hW flRX9_184 dX9_goes_345 ?_
                  obtain ⟨b148, hf⟩ := gd_some hf
                  obtain ⟨N149, hN149, hf⟩ := lt1_some hf
                  refine as_52 X hK hW hS b148 hN149 dX9_goes_348 (fun H locs hW hS => ?_)
                  refine lv_aload_n hx hb dX9_goes_349 rfl (lv_at hl 3 rfl) ?_
                  refine lv_dup hx hb dX9_goes_350 rfl ?_
                  refine g_9_43 X hK hW flRX9_204 dX9_goes_351 ?_
                  refine lv_iconst (v := 1) hx hb dX9_goes_354 (by decide) ?_
                  refine lv_iadd hx hb dX9_goes_355 ?_
                  obtain ⟨N150, hN150, hf⟩ := lt1_some hf
                  refine p_9_43 X hK hW hS hN150 flRX9_204 dX9_goes_356 (fun H locs hW hS => ?_)
                  refine lv_iload_n hx hb dX9_goes_359 rfl (lv_at hl 2 rfl) ?_
                  obtain ⟨rfl, rfl⟩ := sp2 hf
                  exact e_i ⟨hx, hb, hr, hlk⟩ hW hS dX9_goes_360
                · rw [if_neg c143] at hf
                  refine lv_aload_n hx hb dX9_goes_304 rfl (lv_at hl 2 rfl) ?_
                  refine lv_iload_n hx hb dX9_goes_305 rfl (lv_at hl 1 rfl) ?_
                  refine lv_iconst (v := 0) hx hb dX9_goes_306 (by decide) ?_
                  refine lv_iconst (v := 0) hx hb dX9_goes_307 (by decide) ?_
                  obtain ⟨N152, h151, hf⟩ := ob1_some hf
                  refine k_yX9_ends X hK hZ hW hS hl.1 h151 mlRX9_190 ⟨Nat.le_of_ble_eq_true rfl, Nat.le_of_ble_eq_true rfl⟩ ⟨Nat.le_of_ble_eq_true rfl, Nat.le_of_ble_eq_true rfl⟩ (Nat.le_of_ble_eq_true rfl) dX9_goes_308 (fun H locs hW hS => ?_)
                  refine lv_iconst (v := 3) hx hb dX9_goes_311 (by decide) ?_
                  refine lv_aload_n hx hb dX9_goes_312 rfl (lv_at hl 2 rfl) ?_
                  refine g_9_43 X hK hW flRX9_204 dX9_goes_313 ?_
                  refine lv_bipush (v := 60) hx hb dX9_goes_316 (by decide) ?_
                  refine lv_irem hx hb dX9_goes_318 (by decide) ?_
                  refine lv_imul hx hb dX9_goes_319 ?_
                  refine lv_istore_n (lv' := [(3, .int (3 * ((N152 20 0 12) - (N152 20 0 12) / 60 * 60))), (2, .int (N6 34 0 r4.toNatClampNeg)), (1, .int r4), (0, .ref (ad 20 0))]) hx hb dX9_goes_320 rfl hl (by decide) rfl (fun ls hl => ?_)
                  refine lv_aload_n hx hb dX9_goes_321 rfl (lv_at hl 3 rfl) ?_
                  refine g_9_44 X hK hW flRX9_108 dX9_goes_322 ?_
                  refine lv_iload_n hx hb dX9_goes_325 rfl (lv_at hl 0 rfl) ?_
                  refine lv_iload_n hx hb dX9_goes_326 rfl (lv_at hl 2 rfl) ?_
                  obtain ⟨b153, hf⟩ := gd_some hf
                  obtain ⟨N154, hN154, hf⟩ := lt1_some hf
                  refine as_52 X hK hW hS b153 hN154 dX9_goes_327 (fun H locs hW hS => ?_)
                  refine lv_aload_n hx hb dX9_goes_328 rfl (lv_at hl 3 rfl) ?_
                  refine g_9_44 X hK hW flRX9_108 dX9_goes_329 ?_
                  refine lv_iload_n hx hb dX9_goes_332 rfl (lv_at hl 0 rfl) ?_
                  refine lv_iconst (v := 1) hx hb dX9_goes_333 (by decide) ?_
                  refine lv_iadd hx hb dX9_goes_334 ?_
                  refine lv_iload_n hx hb dX9_goes_335 rfl (lv_at hl 1 rfl) ?_
                  obtain ⟨b155, hf⟩ := gd_some hf
                  obtain ⟨N156, hN156, hf⟩ := lt1_some hf
                  refine as_52 X hK hW hS b155 hN156 dX9_goes_336 (fun H locs hW hS => ?_)
                  refine lv_aload_n hx hb dX9_goes_337 rfl (lv_at hl 3 rfl) ?_
                  refine g_9_44 X hK hW flRX9_108 dX9_goes_338 ?_
                  refine lv_iload_n hx hb dX9_goes_341 rfl (lv_at hl 0 rfl) ?_
                  refine lv_iconst (v := 2) hx hb dX9_goes_342 (by decide) ?_
                  refine lv_iadd hx hb dX9_goes_343 ?_
                  refine lv_aload_n hx hb dX9_goes_344 rfl (lv_at hl 3 rfl) ?_
                  refine g_9_37 X hK hW flRX9_184 dX9_goes_345 ?_
                  obtain ⟨b157, hf⟩ := gd_some hf
                  obtain ⟨N158, hN158, hf⟩ := lt1_some hf
                  refine as_52 X hK hW hS b157 hN158 dX9_goes_348 (fun H locs hW hS => ?_)
                  refine lv_aload_n hx hb dX9_goes_349 rfl (lv_at hl 3 rfl) ?_
                  refine lv_dup hx hb dX9_goes_350 rfl ?_
                  refine g_9_43 X hK hW flRX9_204 dX9_goes_351 ?_
                  refine lv_iconst (v := 1) hx hb dX9_goes_354 (by decide) ?_
                  refine lv_iadd hx hb dX9_goes_355 ?_
                  obtain ⟨N159, hN159, hf⟩ := lt1_some hf
                  refine p_9_43 X hK hW hS hN159 flRX9_204 dX9_goes_356 (fun H locs hW hS => ?_)
                  refine lv_iload_n hx hb dX9_goes_359 rfl (lv_at hl 2 rfl) ?_
                  obtain ⟨rfl, rfl⟩ := sp2 hf
                  exact e_i ⟨hx, hb, hr, hlk⟩ hW hS dX9_goes_360
            · rw [if_neg c133] at hf
              refine lv_aload_n hx hb dX9_goes_269 rfl (lv_at hl 2 rfl) ?_
              refine lv_iload_n hx hb dX9_goes_270 rfl (lv_at hl 1 rfl) ?_
              obtain ⟨N161, h160, hf⟩ := ob1_some hf
              refine k_yX9_fails X hK hZ hW hS hl.1 h160 mlRX9_201 ⟨Nat.le_of_ble_eq_true rfl, Nat.le_of_ble_eq_true rfl⟩ ⟨Nat.le_of_ble_eq_true rfl, Nat.le_of_ble_eq_true rfl⟩ (Nat.le_of_ble_eq_true rfl) dX9_goes_271 (fun H locs hW hS => ?_)
              refine lv_aload_n hx hb dX9_goes_274 rfl (lv_at hl 2 rfl) ?_
              refine g_9_12 X hK hW flRX9_40 dX9_goes_275 ?_
              refine lv_iload_n hx hb dX9_goes_278 rfl (lv_at hl 1 rfl) ?_
              refine al_31 X hK hW b7 dX9_goes_279 ?_
              refine lv_iconst (v := 2) hx hb dX9_goes_280 (by decide) ?_
              refine lv_icmp_ne (tgt := 311) hx hb dX9_goes_281 (by decide) (fun c162 => ?_) (fun c162 => ?_)
              · rw [if_neg c162] at hf
                refine lv_iconst (v := 3) hx hb dX9_goes_311 (by decide) ?_
                refine lv_aload_n hx hb dX9_goes_312 rfl (lv_at hl 2 rfl) ?_
                refine g_9_43 X hK hW flRX9_204 dX9_goes_313 ?_
                refine lv_bipush (v := 60) hx hb dX9_goes_316 (by decide) ?_
                refine lv_irem hx hb dX9_goes_318 (by decide) ?_
                refine lv_imul hx hb dX9_goes_319 ?_
                refine lv_istore_n (lv' := [(3, .int (3 * ((N161 20 0 12) - (N161 20 0 12) / 60 * 60))), (2, .int (N6 34 0 r4.toNatClampNeg)), (1, .int r4), (0, .ref (ad 20 0))]) hx hb dX9_goes_320 rfl hl (by decide) rfl (fun ls hl => ?_)
                refine lv_aload_n hx hb dX9_goes_321 rfl (lv_at hl 3 rfl) ?_
                refine g_9_44 X hK hW flRX9_108 dX9_goes_322 ?_
                refine lv_iload_n hx hb dX9_goes_325 rfl (lv_at hl 0 rfl) ?_
                refine lv_iload_n hx hb dX9_goes_326 rfl (lv_at hl 2 rfl) ?_
                obtain ⟨b163, hf⟩ := gd_some hf
                obtain ⟨N164, hN164, hf⟩ := lt1_some hf
                refine as_52 X hK hW hS b163 hN164 dX9_goes_327 (fun H locs hW hS => ?_)
                refine lv_aload_n hx hb dX9_goes_328 rfl (lv_at hl 3 rfl) ?_
                refine g_9_44 X hK hW flRX9_108 dX9_goes_329 ?_
                refine lv_iload_n hx hb dX9_goes_332 rfl (lv_at hl 0 rfl) ?_
                refine lv_iconst (v := 1) hx hb dX9_goes_333 (by decide) ?_
                refine lv_iadd hx hb dX9_goes_334 ?_
                refine lv_iload_n hx hb dX9_goes_335 rfl (lv_at hl 1 rfl) ?_
                obtain ⟨b165, hf⟩ := gd_some hf
                obtain ⟨N166, hN166, hf⟩ := lt1_some hf
                refine as_52 X hK hW hS b165 hN166 dX9_goes_336 (fun H locs hW hS => ?_)
                refine lv_aload_n hx hb dX9_goes_337 rfl (lv_at hl 3 rfl) ?_
                refine g_9_44 X hK hW flRX9_108 dX9_goes_338 ?_
                refine lv_iload_n hx hb dX9_goes_341 rfl (lv_at hl 0 rfl) ?_
                refine lv_iconst (v := 2) hx hb dX9_goes_342 (by decide) ?_
                refine lv_iadd hx hb dX9_goes_343 ?_
                refine lv_aload_n hx hb dX9_goes_344 rfl (lv_at hl 3 rfl) ?_
                refine g_9_37 X hK hW flRX9_184 dX9_goes_345 ?_
                obtain ⟨b167, hf⟩ := gd_some hf
                obtain ⟨N168, hN168, hf⟩ := lt1_some hf
                refine as_52 X hK hW hS b167 hN168 dX9_goes_348 (fun H locs hW hS => ?_)
                refine lv_aload_n hx hb dX9_goes_349 rfl (lv_at hl 3 rfl) ?_
                refine lv_dup hx hb dX9_goes_350 rfl ?_
                refine g_9_43 X hK hW flRX9_204 dX9_goes_351 ?_
                refine lv_iconst (v := 1) hx hb dX9_goes_354 (by decide) ?_
                refine lv_iadd hx hb dX9_goes_355 ?_
                obtain ⟨N169, hN169, hf⟩ := lt1_some hf
                refine p_9_43 X hK hW hS hN169 flRX9_204 dX9_goes_356 (fun H locs hW hS => ?_)
                refine lv_iload_n hx hb dX9_goes_359 rfl (lv_at hl 2 rfl) ?_
                obtain ⟨rfl, rfl⟩ := sp2 hf
                exact e_i ⟨hx, hb, hr, hlk⟩ hW hS dX9_goes_360
              · rw [if_pos c162] at hf
                refine lv_aload_n hx hb dX9_goes_284 rfl (lv_at hl 2 rfl) ?_
                refine g_9_15 X hK hW flRX9_49 dX9_goes_285 ?_
                refine lv_iload_n hx hb dX9_goes_288 rfl (lv_at hl 1 rfl) ?_
                refine al_34 X hK hW b7 dX9_goes_289 ?_
                refine lv_aload_n hx hb dX9_goes_290 rfl (lv_at hl 2 rfl) ?_
                refine g_9_10 X hK hW flRX9_34 dX9_goes_291 ?_
                refine lv_aload_n hx hb dX9_goes_294 rfl (lv_at hl 2 rfl) ?_
                refine g_9_13 X hK hW flRX9_43 dX9_goes_295 ?_
                refine lv_iload_n hx hb dX9_goes_298 rfl (lv_at hl 1 rfl) ?_
                refine al_32 X hK hW b7 dX9_goes_299 ?_
                obtain ⟨b170, hf⟩ := gd_some hf
                refine al_29 X hK hW b170 dX9_goes_300 ?_
                refine lv_icmp_lt (tgt := 311) hx hb dX9_goes_301 (by decide) (fun c171 => ?_) (fun c171 => ?_)
                · rw [if_pos c171] at hf
                  refine lv_iconst (v := 3) hx hb dX9_goes_311 (by decide) ?_
                  refine lv_aload_n hx hb dX9_goes_312 rfl (lv_at hl 2 rfl) ?_
                  refine g_9_43 X hK hW flRX9_204 dX9_goes_313 ?_
                  refine lv_bipush (v := 60) hx hb dX9_goes_316 (by decide) ?_
                  refine lv_irem hx hb dX9_goes_318 (by decide) ?_
                  refine lv_imul hx hb dX9_goes_319 ?_
                  refine lv_istore_n (lv' := [(3, .int (3 * ((N161 20 0 12) - (N161 20 0 12) / 60 * 60))), (2, .int (N6 34 0 r4.toNatClampNeg)), (1, .int r4), (0, .ref (ad 20 0))]) hx hb dX9_goes_320 rfl hl (by decide) rfl (fun ls hl => ?_)
                  refine lv_aload_n hx hb dX9_goes_321 rfl (lv_at hl 3 rfl) ?_
                  refine g_9_44 X hK hW flRX9_108 dX9_goes_322 ?_
                  refine lv_iload_n hx hb dX9_goes_325 rfl (lv_at hl 0 rfl) ?_
                  refine lv_iload_n hx hb dX9_goes_326 rfl (lv_at hl 2 rfl) ?_
                  obtain ⟨b172, hf⟩ := gd_some hf
                  obtain ⟨N173, hN173, hf⟩ := lt1_some hf
                  refine as_52 X hK hW hS b172 hN173 dX9_goes_327 (fun H locs hW hS => ?_)
                  refine lv_aload_n hx hb dX9_goes_328 rfl (lv_at hl 3 rfl) ?_
                  refine g_9_44 X hK hW flRX9_108 dX9_goes_329 ?_
                  refine lv_iload_n hx hb dX9_goes_332 rfl (lv_at hl 0 rfl) ?_
                  refine lv_iconst (v := 1) hx hb dX9_goes_333 (by decide) ?_
                  refine lv_iadd hx hb dX9_goes_334 ?_
                  refine lv_iload_n hx hb dX9_goes_335 rfl (lv_at hl 1 rfl) ?_
                  obtain ⟨b174, hf⟩ := gd_some hf
                  obtain ⟨N175, hN175, hf⟩ := lt1_some hf
                  refine as_52 X hK hW hS b174 hN175 dX9_goes_336 (fun H locs hW hS => ?_)
                  refine lv_aload_n hx hb dX9_goes_337 rfl (lv_at hl 3 rfl) ?_
                  refine g_9_44 X hK hW flRX9_108 dX9_goes_338 ?_
                  refine lv_iload_n hx hb dX9_goes_341 rfl (lv_at hl 0 rfl) ?_
                  refine lv_iconst (v := 2) hx hb dX9_goes_342 (by decide) ?_
                  refine lv_iadd hx hb dX9_goes_343 ?_
                  refine lv_aload_n hx hb dX9_goes_344 rfl (lv_at hl 3 rfl) ?_
                  refine g_9_37 X hK hW flRX9_184 dX9_goes_345 ?_
                  obtain ⟨b176, hf⟩ := gd_some hf
                  obtain ⟨N177, hN177, hf⟩ := lt1_some hf
                  refine as_52 X hK hW hS b176 hN177 dX9_goes_348 (fun H locs hW hS => ?_)
                  refine lv_aload_n hx hb dX9_goes_349 rfl (lv_at hl 3 rfl) ?_
                  refine lv_dup hx hb dX9_goes_350 rfl ?_
                  refine g_9_43 X hK hW flRX9_204 dX9_goes_351 ?_
                  refine lv_iconst (v := 1) hx hb dX9_goes_354 (by decide) ?_
                  refine lv_iadd hx hb dX9_goes_355 ?_
                  obtain ⟨N178, hN178, hf⟩ := lt1_some hf
                  refine p_9_43 X hK hW hS hN178 flRX9_204 dX9_goes_356 (fun H locs hW hS => ?_)
                  refine lv_iload_n hx hb dX9_goes_359 rfl (lv_at hl 2 rfl) ?_
                  obtain ⟨rfl, rfl⟩ := sp2 hf
                  exact e_i ⟨hx, hb, hr, hlk⟩ hW hS dX9_goes_360
                · rw [if_neg c171] at hf
                  refine lv_aload_n hx hb dX9_goes_304 rfl (lv_at hl 2 rfl) ?_
                  refine lv_iload_n hx hb dX9_goes_305 rfl (lv_at hl 1 rfl) ?_
                  refine lv_iconst (v := 0) hx hb dX9_goes_306 (by decide) ?_
                  refine lv_iconst (v := 0) hx hb dX9_goes_307 (by decide) ?_
                  obtain ⟨N180, h179, hf⟩ := ob1_some hf
                  refine k_yX9_ends X hK hZ hW hS hl.1 h179 mlRX9_190 ⟨Nat.le_of_ble_eq_true rfl, Nat.le_of_ble_eq_true rfl⟩ ⟨Nat.le_of_ble_eq_true rfl, Nat.le_of_ble_eq_true rfl⟩ (Nat.le_of_ble_eq_true rfl) dX9_goes_308 (fun H locs hW hS => ?_)
                  refine lv_iconst (v := 3) hx hb dX9_goes_311 (by decide) ?_
                  refine lv_aload_n hx hb dX9_goes_312 rfl (lv_at hl 2 rfl) ?_
                  refine g_9_43 X hK hW flRX9_204 dX9_goes_313 ?_
                  refine lv_bipush (v := 60) hx hb dX9_goes_316 (by decide) ?_
                  refine lv_irem hx hb dX9_goes_318 (by decide) ?_
                  refine lv_imul hx hb dX9_goes_319 ?_
                  refine lv_istore_n (lv' := [(3, .int (3 * ((N180 20 0 12) - (N180 20 0 12) / 60 * 60))), (2, .int (N6 34 0 r4.toNatClampNeg)), (1, .int r4), (0, .ref (ad 20 0))]) hx hb dX9_goes_320 rfl hl (by decide) rfl (fun ls hl => ?_)
                  refine lv_aload_n hx hb dX9_goes_321 rfl (lv_at hl 3 rfl) ?_
                  refine g_9_44 X hK hW flRX9_108 dX9_goes_322 ?_
                  refine lv_iload_n hx hb dX9_goes_325 rfl (lv_at hl 0 rfl) ?_
                  refine lv_iload_n hx hb dX9_goes_326 rfl (lv_at hl 2 rfl) ?_
                  obtain ⟨b181, hf⟩ := gd_some hf
                  obtain ⟨N182, hN182, hf⟩ := lt1_some hf
                  refine as_52 X hK hW hS b181 hN182 dX9_goes_327 (fun H locs hW hS => ?_)
                  refine lv_aload_n hx hb dX9_goes_328 rfl (lv_at hl 3 rfl) ?_
                  refine g_9_44 X hK hW flRX9_108 dX9_goes_329 ?_
                  refine lv_iload_n hx hb dX9_goes_332 rfl (lv_at hl 0 rfl) ?_
                  refine lv_iconst (v := 1) hx hb dX9_goes_333 (by decide) ?_
                  refine lv_iadd hx hb dX9_goes_334 ?_
                  refine lv_iload_n hx hb dX9_goes_335 rfl (lv_at hl 1 rfl) ?_
                  obtain ⟨b183, hf⟩ := gd_some hf
                  obtain ⟨N184, hN184, hf⟩ := lt1_some hf
                  refine as_52 X hK hW hS b183 hN184 dX9_goes_336 (fun H locs hW hS => ?_)
                  refine lv_aload_n hx hb dX9_goes_337 rfl (lv_at hl 3 rfl) ?_
                  refine g_9_44 X hK hW flRX9_108 dX9_goes_338 ?_
                  refine lv_iload_n hx hb dX9_goes_341 rfl (lv_at hl 0 rfl) ?_
                  refine lv_iconst (v := 2) hx hb dX9_goes_342 (by decide) ?_
                  refine lv_iadd hx hb dX9_goes_343 ?_
                  refine lv_aload_n hx hb dX9_goes_344 rfl (lv_at hl 3 rfl) ?_
                  refine g_9_37 X hK hW flRX9_184 dX9_goes_345 ?_
                  obtain ⟨b185, hf⟩ := gd_some hf
                  obtain ⟨N186, hN186, hf⟩ := lt1_some hf
                  refine as_52 X hK hW hS b185 hN186 dX9_goes_348 (fun H locs hW hS => ?_)
                  refine lv_aload_n hx hb dX9_goes_349 rfl (lv_at hl 3 rfl) ?_
                  refine lv_dup hx hb dX9_goes_350 rfl ?_
                  refine g_9_43 X hK hW flRX9_204 dX9_goes_351 ?_
                  refine lv_iconst (v := 1) hx hb dX9_goes_354 (by decide) ?_
                  refine lv_iadd hx hb dX9_goes_355 ?_
                  obtain ⟨N187, hN187, hf⟩ := lt1_some hf
                  refine p_9_43 X hK hW hS hN187 flRX9_204 dX9_goes_356 (fun H locs hW hS => ?_)
                  refine lv_iload_n hx hb dX9_goes_359 rfl (lv_at hl 2 rfl) ?_
                  obtain ⟨rfl, rfl⟩ := sp2 hf
                  exact e_i ⟨hx, hb, hr, hlk⟩ hW hS dX9_goes_360
        · rw [if_neg c10] at hf
          refine lv_aload_n hx hb dX9_goes_150 rfl (lv_at hl 2 rfl) ?_
          refine g_9_17 X hK hW flRX9_56 dX9_goes_151 ?_
          refine lv_iload_n hx hb dX9_goes_154 rfl (lv_at hl 1 rfl) ?_
          refine lv_iconst (v := 0) hx hb dX9_goes_155 (by decide) ?_
          obtain ⟨N188, hN188, hf⟩ := lt1_some hf
          refine as_36 X hK hW hS rfl b7 hN188 dX9_goes_156 (fun H locs hW hS => ?_)
          refine lv_aload_n hx hb dX9_goes_157 rfl (lv_at hl 2 rfl) ?_
          refine lv_bipush (v := 9) hx hb dX9_goes_158 (by decide) ?_
          obtain ⟨N189, hN189, hf⟩ := lt1_some hf
          refine p_9_37 X hK hW hS hN189 flRX9_184 dX9_goes_160 (fun H locs hW hS => ?_)
          refine lv_goto (tgt := 262) hx hb dX9_goes_163 (by decide) ?_
          refine lv_aload_n hx hb dX9_goes_262 rfl (lv_at hl 2 rfl) ?_
          refine g_9_37 X hK hW flRX9_184 dX9_goes_263 ?_
          refine lv_if_le (tgt := 274) hx hb dX9_goes_266 (by decide) (fun c190 => ?_) (fun c190 => ?_)
          · rw [if_pos c190] at hf
            refine lv_aload_n hx hb dX9_goes_274 rfl (lv_at hl 2 rfl) ?_
            refine g_9_12 X hK hW flRX9_40 dX9_goes_275 ?_
            refine lv_iload_n hx hb dX9_goes_278 rfl (lv_at hl 1 rfl) ?_
            refine al_31 X hK hW b7 dX9_goes_279 ?_
            refine lv_iconst (v := 2) hx hb dX9_goes_280 (by decide) ?_
            refine lv_icmp_ne (tgt := 311) hx hb dX9_goes_281 (by decide) (fun c191 => ?_) (fun c191 => ?_)
            · rw [if_neg c191] at hf
              refine lv_iconst (v := 3) hx hb dX9_goes_311 (by decide) ?_
              refine lv_aload_n hx hb dX9_goes_312 rfl (lv_at hl 2 rfl) ?_
              refine g_9_43 X hK hW flRX9_204 dX9_goes_313 ?_
              refine lv_bipush (v := 60) hx hb dX9_goes_316 (by decide) ?_
              refine lv_irem hx hb dX9_goes_318 (by decide) ?_
              refine lv_imul hx hb dX9_goes_319 ?_
              refine lv_istore_n (lv' := [(3, .int (3 * ((N189 20 0 12) - (N189 20 0 12) / 60 * 60))), (2, .int (N6 34 0 r4.toNatClampNeg)), (1, .int r4), (0, .ref (ad 20 0))]) hx hb dX9_goes_320 rfl hl (by decide) rfl (fun ls hl => ?_)
              refine lv_aload_n hx hb dX9_goes_321 rfl (lv_at hl 3 rfl) ?_
              refine g_9_44 X hK hW flRX9_108 dX9_goes_322 ?_
              refine lv_iload_n hx hb dX9_goes_325 rfl (lv_at hl 0 rfl) ?_
              refine lv_iload_n hx hb dX9_goes_326 rfl (lv_at hl 2 rfl) ?_
              obtain ⟨b192, hf⟩ := gd_some hf
              obtain ⟨N193, hN193, hf⟩ := lt1_some hf
              refine as_52 X hK hW hS b192 hN193 dX9_goes_327 (fun H locs hW hS => ?_)
              refine lv_aload_n hx hb dX9_goes_328 rfl (lv_at hl 3 rfl) ?_
              refine g_9_44 X hK hW flRX9_108 dX9_goes_329 ?_
              refine lv_iload_n hx hb dX9_goes_332 rfl (lv_at hl 0 rfl) ?_
              refine lv_iconst (v := 1) hx hb dX9_goes_333 (by decide) ?_
              refine lv_iadd hx hb dX9_goes_334 ?_
              refine lv_iload_n hx hb dX9_goes_335 rfl (lv_at hl 1 rfl) ?_
              obtain ⟨b194, hf⟩ := gd_some hf
              obtain ⟨N195, hN195, hf⟩ := lt1_some hf
              refine as_52 X hK hW hS b194 hN195 dX9_goes_336 (fun H locs hW hS => ?_)
              refine lv_aload_n hx hb dX9_goes_337 rfl (lv_at hl 3 rfl) ?_
              refine g_9_44 X hK hW flRX9_108 dX9_goes_338 ?_
              refine lv_iload_n hx hb dX9_goes_341 rfl (lv_at hl 0 rfl) ?_
              refine lv_iconst (v := 2) hx hb dX9_goes_342 (by decide) ?_
              refine lv_iadd hx hb dX9_goes_343 ?_
              refine lv_aload_n hx hb dX9_goes_344 rfl (lv_at hl 3 rfl) ?_
              refine g_9_37 X hK hW flRX9_184 dX9_goes_345 ?_
              obtain ⟨b196, hf⟩ := gd_some hf
              obtain ⟨N197, hN197, hf⟩ := lt1_some hf
              refine as_52 X hK hW hS b196 hN197 dX9_goes_348 (fun H locs hW hS => ?_)
              refine lv_aload_n hx hb dX9_goes_349 rfl (lv_at hl 3 rfl) ?_
              refine lv_dup hx hb dX9_goes_350 rfl ?_
              refine g_9_43 X hK hW flRX9_204 dX9_goes_351 ?_
              refine lv_iconst (v := 1) hx hb dX9_goes_354 (by decide) ?_
              refine lv_iadd hx hb dX9_goes_355 ?_
              obtain ⟨N198, hN198, hf⟩ := lt1_some hf
              refine p_9_43 X hK hW hS hN198 flRX9_204 dX9_goes_356 (fun H locs hW hS => ?_)
              refine lv_iload_n hx hb dX9_goes_359 rfl (lv_at hl 2 rfl) ?_
              obtain ⟨rfl, rfl⟩ := sp2 hf
              exact e_i ⟨hx, hb, hr, hlk⟩ hW hS dX9_goes_360
            · rw [if_pos c191] at hf
              refine lv_aload_n hx hb dX9_goes_284 rfl (lv_at hl 2 rfl) ?_
              refine g_9_15 X hK hW flRX9_49 dX9_goes_285 ?_
              refine lv_iload_n hx hb dX9_goes_288 rfl (lv_at hl 1 rfl) ?_
              refine al_34 X hK hW b7 dX9_goes_289 ?_
              refine lv_aload_n hx hb dX9_goes_290 rfl (lv_at hl 2 rfl) ?_
              refine g_9_10 X hK hW flRX9_34 dX9_goes_291 ?_
              refine lv_aload_n hx hb dX9_goes_294 rfl (lv_at hl 2 rfl) ?_
              refine g_9_13 X hK hW flRX9_43 dX9_goes_295 ?_
              refine lv_iload_n hx hb dX9_goes_298 rfl (lv_at hl 1 rfl) ?_
              refine al_32 X hK hW b7 dX9_goes_299 ?_
              obtain ⟨b199, hf⟩ := gd_some hf
              refine al_29 X hK hW b199 dX9_goes_300 ?_
              refine lv_icmp_lt (tgt := 311) hx hb dX9_goes_301 (by decide) (fun c200 => ?_) (fun c200 => ?_)
              · rw [if_pos c200] at hf
                refine lv_iconst (v := 3) hx hb dX9_goes_311 (by decide) ?_
                refine lv_aload_n hx hb dX9_goes_312 rfl (lv_at hl 2 rfl) ?_
                refine g_9_43 X hK hW flRX9_204 dX9_goes_313 ?_
                refine lv_bipush (v := 60) hx hb dX9_goes_316 (by decide) ?_
                refine lv_irem hx hb dX9_goes_318 (by decide) ?_
                refine lv_imul hx hb dX9_goes_319 ?_
                refine lv_istore_n (lv' := [(3, .int (3 * ((N189 20 0 12) - (N189 20 0 12) / 60 * 60))), (2, .int (N6 34 0 r4.toNatClampNeg)), (1, .int r4), (0, .ref (ad 20 0))]) hx hb dX9_goes_320 rfl hl (by decide) rfl (fun ls hl => ?_)
                refine lv_aload_n hx hb dX9_goes_321 rfl (lv_at hl 3 rfl) ?_
                refine g_9_44 X hK hW flRX9_108 dX9_goes_322 ?_
                refine lv_iload_n hx hb dX9_goes_325 rfl (lv_at hl 0 rfl) ?_
                refine lv_iload_n hx hb dX9_goes_326 rfl (lv_at hl 2 rfl) ?_
                obtain ⟨b201, hf⟩ := gd_some hf
                obtain ⟨N202, hN202, hf⟩ := lt1_some hf
                refine as_52 X hK hW hS b201 hN202 dX9_goes_327 (fun H locs hW hS => ?_)
                refine lv_aload_n hx hb dX9_goes_328 rfl (lv_at hl 3 rfl) ?_
                refine g_9_44 X hK hW flRX9_108 dX9_goes_329 ?_
                refine lv_iload_n hx hb dX9_goes_332 rfl (lv_at hl 0 rfl) ?_
                refine lv_iconst (v := 1) hx hb dX9_goes_333 (by decide) ?_
                refine lv_iadd hx hb dX9_goes_334 ?_
                refine lv_iload_n hx hb dX9_goes_335 rfl (lv_at hl 1 rfl) ?_
                obtain ⟨b203, hf⟩ := gd_some hf
                obtain ⟨N204, hN204, hf⟩ := lt1_some hf
                refine as_52 X hK hW hS b203 hN204 dX9_goes_336 (fun H locs hW hS => ?_)
                refine lv_aload_n hx hb dX9_goes_337 rfl (lv_at hl 3 rfl) ?_
                refine g_9_44 X hK hW flRX9_108 dX9_goes_338 ?_
                refine lv_iload_n hx hb dX9_goes_341 rfl (lv_at hl 0 rfl) ?_
                refine lv_iconst (v := 2) hx hb dX9_goes_342 (by decide) ?_
                refine lv_iadd hx hb dX9_goes_343 ?_
                refine lv_aload_n hx hb dX9_goes_344 rfl (lv_at hl 3 rfl) ?_
                refine g_9_37 X hK hW flRX9_184 dX9_goes_345 ?_
                obtain ⟨b205, hf⟩ := gd_some hf
                obtain ⟨N206, hN206, hf⟩ := lt1_some hf
                refine as_52 X hK hW hS b205 hN206 dX9_goes_348 (fun H locs hW hS => ?_)
                refine lv_aload_n hx hb dX9_goes_349 rfl (lv_at hl 3 rfl) ?_
                refine lv_dup hx hb dX9_goes_350 rfl ?_
                refine g_9_43 X hK hW flRX9_204 dX9_goes_351 ?_
                refine lv_iconst (v := 1) hx hb dX9_goes_354 (by decide) ?_
                refine lv_iadd hx hb dX9_goes_355 ?_
                obtain ⟨N207, hN207, hf⟩ := lt1_some hf
                refine p_9_43 X hK hW hS hN207 flRX9_204 dX9_goes_356 (fun H locs hW hS => ?_)
                refine lv_iload_n hx hb dX9_goes_359 rfl (lv_at hl 2 rfl) ?_
                obtain ⟨rfl, rfl⟩ := sp2 hf
                exact e_i ⟨hx, hb, hr, hlk⟩ hW hS dX9_goes_360
              · rw [if_neg c200] at hf
                refine lv_aload_n hx hb dX9_goes_304 rfl (lv_at hl 2 rfl) ?_
                refine lv_iload_n hx hb dX9_goes_305 rfl (lv_at hl 1 rfl) ?_
                refine lv_iconst (v := 0) hx hb dX9_goes_306 (by decide) ?_
                refine lv_iconst (v := 0) hx hb dX9_goes_307 (by decide) ?_
                obtain ⟨N209, h208, hf⟩ := ob1_some hf
                refine k_yX9_ends X hK hZ hW hS hl.1 h208 mlRX9_190 ⟨Nat.le_of_ble_eq_true rfl, Nat.le_of_ble_eq_true rfl⟩ ⟨Nat.le_of_ble_eq_true rfl, Nat.le_of_ble_eq_true rfl⟩ (Nat.le_of_ble_eq_true rfl) dX9_goes_308 (fun H locs hW hS => ?_)
                refine lv_iconst (v := 3) hx hb dX9_goes_311 (by decide) ?_
                refine lv_aload_n hx hb dX9_goes_312 rfl (lv_at hl 2 rfl) ?_
                refine g_9_43 X hK hW flRX9_204 dX9_goes_313 ?_
                refine lv_bipush (v := 60) hx hb dX9_goes_316 (by decide) ?_
                refine lv_irem hx hb dX9_goes_318 (by decide) ?_
                refine lv_imul hx hb dX9_goes_319 ?_
                refine lv_istore_n (lv' := [(3, .int (3 * ((N209 20 0 12) - (N209 20 0 12) / 60 * 60))), (2, .int (N6 34 0 r4.toNatClampNeg)), (1, .int r4), (0, .ref (ad 20 0))]) hx hb dX9_goes_320 rfl hl (by decide) rfl (fun ls hl => ?_)
                refine lv_aload_n hx hb dX9_goes_321 rfl (lv_at hl 3 rfl) ?_
                refine g_9_44 X hK hW flRX9_108 dX9_goes_322 ?_
                refine lv_iload_n hx hb dX9_goes_325 rfl (lv_at hl 0 rfl) ?_
                refine lv_iload_n hx hb dX9_goes_326 rfl (lv_at hl 2 rfl) ?_
                obtain ⟨b210, hf⟩ := gd_some hf
                obtain ⟨N211, hN211, hf⟩ := lt1_some hf
                refine as_52 X hK hW hS b210 hN211 dX9_goes_327 (fun H locs hW hS => ?_)
                refine lv_aload_n hx hb dX9_goes_328 rfl (lv_at hl 3 rfl) ?_
                refine g_9_44 X hK hW flRX9_108 dX9_goes_329 ?_
                refine lv_iload_n hx hb dX9_goes_332 rfl (lv_at hl 0 rfl) ?_
                refine lv_iconst (v := 1) hx hb dX9_goes_333 (by decide) ?_
                refine lv_iadd hx hb dX9_goes_334 ?_
                refine lv_iload_n hx hb dX9_goes_335 rfl (lv_at hl 1 rfl) ?_
                obtain ⟨b212, hf⟩ := gd_some hf
                obtain ⟨N213, hN213, hf⟩ := lt1_some hf
                refine as_52 X hK hW hS b212 hN213 dX9_goes_336 (fun H locs hW hS => ?_)
                refine lv_aload_n hx hb dX9_goes_337 rfl (lv_at hl 3 rfl) ?_
                refine g_9_44 X hK hW flRX9_108 dX9_goes_338 ?_
                refine lv_iload_n hx hb dX9_goes_341 rfl (lv_at hl 0 rfl) ?_
                refine lv_iconst (v := 2) hx hb dX9_goes_342 (by decide) ?_
                refine lv_iadd hx hb dX9_goes_343 ?_
                refine lv_aload_n hx hb dX9_goes_344 rfl (lv_at hl 3 rfl) ?_
                refine g_9_37 X hK hW flRX9_184 dX9_goes_345 ?_
                obtain ⟨b214, hf⟩ := gd_some hf
                obtain ⟨N215, hN215, hf⟩ := lt1_some hf
                refine as_52 X hK hW hS b214 hN215 dX9_goes_348 (fun H locs hW hS => ?_)
                refine lv_aload_n hx hb dX9_goes_349 rfl (lv_at hl 3 rfl) ?_
                refine lv_dup hx hb dX9_goes_350 rfl ?_
                refine g_9_43 X hK hW flRX9_204 dX9_goes_351 ?_
                refine lv_iconst (v := 1) hx hb dX9_goes_354 (by decide) ?_
                refine lv_iadd hx hb dX9_goes_355 ?_
                obtain ⟨N216, hN216, hf⟩ := lt1_some hf
                refine p_9_43 X hK hW hS hN216 flRX9_204 dX9_goes_356 (fun H locs hW hS => ?_)
                refine lv_iload_n hx hb dX9_goes_359 rfl (lv_at hl 2 rfl) ?_
                obtain ⟨rfl, rfl⟩ := sp2 hf
                exact e_i ⟨hx, hb, hr, hlk⟩ hW hS dX9_goes_360
          · rw [if_neg c190] at hf
            refine lv_aload_n hx hb dX9_goes_269 rfl (lv_at hl 2 rfl) ?_
            refine lv_iload_n hx hb dX9_goes_270 rfl (lv_at hl 1 rfl) ?_
            obtain ⟨N218, h217, hf⟩ := ob1_some hf
            refine k_yX9_fails X hK hZ hW hS hl.1 h217 mlRX9_201 ⟨Nat.le_of_ble_eq_true rfl, Nat.le_of_ble_eq_true rfl⟩ ⟨Nat.le_of_ble_eq_true rfl, Nat.le_of_ble_eq_true rfl⟩ (Nat.le_of_ble_eq_true rfl) dX9_goes_271 (fun H locs hW hS => ?_)
            refine lv_aload_n hx hb dX9_goes_274 rfl (lv_at hl 2 rfl) ?_
            refine g_9_12 X hK hW flRX9_40 dX9_goes_275 ?_
            refine lv_iload_n hx hb dX9_goes_278 rfl (lv_at hl 1 rfl) ?_
            refine al_31 X hK hW b7 dX9_goes_279 ?_
            refine lv_iconst (v := 2) hx hb dX9_goes_280 (by decide) ?_
            refine lv_icmp_ne (tgt := 311) hx hb dX9_goes_281 (by decide) (fun c219 => ?_) (fun c219 => ?_)
            · rw [if_neg c219] at hf
              refine lv_iconst (v := 3) hx hb dX9_goes_311 (by decide) ?_
              refine lv_aload_n hx hb dX9_goes_312 rfl (lv_at hl 2 rfl) ?_
              refine g_9_43 X hK hW flRX9_204 dX9_goes_313 ?_
              refine lv_bipush (v := 60) hx hb dX9_goes_316 (by decide) ?_
              refine lv_irem hx hb dX9_goes_318 (by decide) ?_
              refine lv_imul hx hb dX9_goes_319 ?_
              refine lv_istore_n (lv' := [(3, .int (3 * ((N218 20 0 12) - (N218 20 0 12) / 60 * 60))), (2, .int (N6 34 0 r4.toNatClampNeg)), (1, .int r4), (0, .ref (ad 20 0))]) hx hb dX9_goes_320 rfl hl (by decide) rfl (fun ls hl => ?_)
              refine lv_aload_n hx hb dX9_goes_321 rfl (lv_at hl 3 rfl) ?_
              refine g_9_44 X hK hW flRX9_108 dX9_goes_322 ?_
              refine lv_iload_n hx hb dX9_goes_325 rfl (lv_at hl 0 rfl) ?_
              refine lv_iload_n hx hb dX9_goes_326 rfl (lv_at hl 2 rfl) ?_
              obtain ⟨b220, hf⟩ := gd_some hf
              obtain ⟨N221, hN221, hf⟩ := lt1_some hf
              refine as_52 X hK hW hS b220 hN221 dX9_goes_327 (fun H locs hW hS => ?_)
              refine lv_aload_n hx hb dX9_goes_328 rfl (lv_at hl 3 rfl) ?_
              refine g_9_44 X hK hW flRX9_108 dX9_goes_329 ?_
              refine lv_iload_n hx hb dX9_goes_332 rfl (lv_at hl 0 rfl) ?_
              refine lv_iconst (v := 1) hx hb dX9_goes_333 (by decide) ?_
              refine lv_iadd hx hb dX9_goes_334 ?_
              refine lv_iload_n hx hb dX9_goes_335 rfl (lv_at hl 1 rfl) ?_
              obtain ⟨b222, hf⟩ := gd_some hf
              obtain ⟨N223, hN223, hf⟩ := lt1_some hf
              refine as_52 X hK hW hS b222 hN223 dX9_goes_336 (fun H locs hW hS => ?_)
              refine lv_aload_n hx hb dX9_goes_337 rfl (lv_at hl 3 rfl) ?_
              refine g_9_44 X hK hW flRX9_108 dX9_goes_338 ?_
              refine lv_iload_n hx hb dX9_goes_341 rfl (lv_at hl 0 rfl) ?_
              refine lv_iconst (v := 2) hx hb dX9_goes_342 (by decide) ?_
              refine lv_iadd hx hb dX9_goes_343 ?_
              refine lv_aload_n hx hb dX9_goes_344 rfl (lv_at hl 3 rfl) ?_
              refine g_9_37 X hK hW flRX9_184 dX9_goes_345 ?_
              obtain ⟨b224, hf⟩ := gd_some hf
              obtain ⟨N225, hN225, hf⟩ := lt1_some hf
              refine as_52 X hK hW hS b224 hN225 dX9_goes_348 (fun H locs hW hS => ?_)
              refine lv_aload_n hx hb dX9_goes_349 rfl (lv_at hl 3 rfl) ?_
              refine lv_dup hx hb dX9_goes_350 rfl ?_
              refine g_9_43 X hK hW flRX9_204 dX9_goes_351 ?_
              refine lv_iconst (v := 1) hx hb dX9_goes_354 (by decide) ?_
              refine lv_iadd hx hb dX9_goes_355 ?_
              obtain ⟨N226, hN226, hf⟩ := lt1_some hf
              refine p_9_43 X hK hW hS hN226 flRX9_204 dX9_goes_356 (fun H locs hW hS => ?_)
              refine lv_iload_n hx hb dX9_goes_359 rfl (lv_at hl 2 rfl) ?_
              obtain ⟨rfl, rfl⟩ := sp2 hf
              exact e_i ⟨hx, hb, hr, hlk⟩ hW hS dX9_goes_360
            · rw [if_pos c219] at hf
              refine lv_aload_n hx hb dX9_goes_284 rfl (lv_at hl 2 rfl) ?_
              refine g_9_15 X hK hW flRX9_49 dX9_goes_285 ?_
              refine lv_iload_n hx hb dX9_goes_288 rfl (lv_at hl 1 rfl) ?_
              refine al_34 X hK hW b7 dX9_goes_289 ?_
              refine lv_aload_n hx hb dX9_goes_290 rfl (lv_at hl 2 rfl) ?_
              refine g_9_10 X hK hW flRX9_34 dX9_goes_291 ?_
              refine lv_aload_n hx hb dX9_goes_294 rfl (lv_at hl 2 rfl) ?_
              refine g_9_13 X hK hW flRX9_43 dX9_goes_295 ?_
              refine lv_iload_n hx hb dX9_goes_298 rfl (lv_at hl 1 rfl) ?_
              refine al_32 X hK hW b7 dX9_goes_299 ?_
              obtain ⟨b227, hf⟩ := gd_some hf
              refine al_29 X hK hW b227 dX9_goes_300 ?_
              refine lv_icmp_lt (tgt := 311) hx hb dX9_goes_301 (by decide) (fun c228 => ?_) (fun c228 => ?_)
              · rw [if_pos c228] at hf
                refine lv_iconst (v := 3) hx hb dX9_goes_311 (by decide) ?_
                refine lv_aload_n hx hb dX9_goes_312 rfl (lv_at hl 2 rfl) ?_
                refine g_9_43 X hK hW flRX9_204 dX9_goes_313 ?_
                refine lv_bipush (v := 60) hx hb dX9_goes_316 (by decide) ?_
                refine lv_irem hx hb dX9_goes_318 (by decide) ?_
                refine lv_imul hx hb dX9_goes_319 ?_
                refine lv_istore_n (lv' := [(3, .int (3 * ((N218 20 0 12) - (N218 20 0 12) / 60 * 60))), (2, .int (N6 34 0 r4.toNatClampNeg)), (1, .int r4), (0, .ref (ad 20 0))]) hx hb dX9_goes_320 rfl hl (by decide) rfl (fun ls hl => ?_)
                refine lv_aload_n hx hb dX9_goes_321 rfl (lv_at hl 3 rfl) ?_
                refine g_9_44 X hK hW flRX9_108 dX9_goes_322 ?_
                refine lv_iload_n hx hb dX9_goes_325 rfl (lv_at hl 0 rfl) ?_
                refine lv_iload_n hx hb dX9_goes_326 rfl (lv_at hl 2 rfl) ?_
                obtain ⟨b229, hf⟩ := gd_some hf
                obtain ⟨N230, hN230, hf⟩ := lt1_some hf
                refine as_52 X hK hW hS b229 hN230 dX9_goes_327 (fun H locs hW hS => ?_)
                refine lv_aload_n hx hb dX9_goes_328 rfl (lv_at hl 3 rfl) ?_
                refine g_9_44 X hK hW flRX9_108 dX9_goes_329 ?_
                refine lv_iload_n hx hb dX9_goes_332 rfl (lv_at hl 0 rfl) ?_
                refine lv_iconst (v := 1) hx hb dX9_goes_333 (by decide) ?_
                refine lv_iadd hx hb dX9_goes_334 ?_
                refine lv_iload_n hx hb dX9_goes_335 rfl (lv_at hl 1 rfl) ?_
                obtain ⟨b231, hf⟩ := gd_some hf
                obtain ⟨N232, hN232, hf⟩ := lt1_some hf
                refine as_52 X hK hW hS b231 hN232 dX9_goes_336 (fun H locs hW hS => ?_)
                refine lv_aload_n hx hb dX9_goes_337 rfl (lv_at hl 3 rfl) ?_
                refine g_9_44 X hK hW flRX9_108 dX9_goes_338 ?_
                refine lv_iload_n hx hb dX9_goes_341 rfl (lv_at hl 0 rfl) ?_
                refine lv_iconst (v := 2) hx hb dX9_goes_342 (by decide) ?_
                refine lv_iadd hx hb dX9_goes_343 ?_
                refine lv_aload_n hx hb dX9_goes_344 rfl (lv_at hl 3 rfl) ?_
                refine g_9_37 X hK hW flRX9_184 dX9_goes_345 ?_
                obtain ⟨b233, hf⟩ := gd_some hf
                obtain ⟨N234, hN234, hf⟩ := lt1_some hf
                refine as_52 X hK hW hS b233 hN234 dX9_goes_348 (fun H locs hW hS => ?_)
                refine lv_aload_n hx hb dX9_goes_349 rfl (lv_at hl 3 rfl) ?_
                refine lv_dup hx hb dX9_goes_350 rfl ?_
                refine g_9_43 X hK hW flRX9_204 dX9_goes_351 ?_
                refine lv_iconst (v := 1) hx hb dX9_goes_354 (by decide) ?_
                refine lv_iadd hx hb dX9_goes_355 ?_
                obtain ⟨N235, hN235, hf⟩ := lt1_some hf
                refine p_9_43 X hK hW hS hN235 flRX9_204 dX9_goes_356 (fun H locs hW hS => ?_)
                refine lv_iload_n hx hb dX9_goes_359 rfl (lv_at hl 2 rfl) ?_
                obtain ⟨rfl, rfl⟩ := sp2 hf
                exact e_i ⟨hx, hb, hr, hlk⟩ hW hS dX9_goes_360
              · rw [if_neg c228] at hf
                refine lv_aload_n hx hb dX9_goes_304 rfl (lv_at hl 2 rfl) ?_
                refine lv_iload_n hx hb dX9_goes_305 rfl (lv_at hl 1 rfl) ?_
                refine lv_iconst (v := 0) hx hb dX9_goes_306 (by decide) ?_
                refine lv_iconst (v := 0) hx hb dX9_goes_307 (by decide) ?_
                obtain ⟨N237, h236, hf⟩ := ob1_some hf
                refine k_yX9_ends X hK hZ hW hS hl.1 h236 mlRX9_190 ⟨Nat.le_of_ble_eq_true rfl, Nat.le_of_ble_eq_true rfl⟩ ⟨Nat.le_of_ble_eq_true rfl, Nat.le_of_ble_eq_true rfl⟩ (Nat.le_of_ble_eq_true rfl) dX9_goes_308 (fun H locs hW hS => ?_)
                refine lv_iconst (v := 3) hx hb dX9_goes_311 (by decide) ?_
                refine lv_aload_n hx hb dX9_goes_312 rfl (lv_at hl 2 rfl) ?_
                refine g_9_43 X hK hW flRX9_204 dX9_goes_313 ?_
                refine lv_bipush (v := 60) hx hb dX9_goes_316 (by decide) ?_
                refine lv_irem hx hb dX9_goes_318 (by decide) ?_
                refine lv_imul hx hb dX9_goes_319 ?_
                refine lv_istore_n (lv' := [(3, .int (3 * ((N237 20 0 12) - (N237 20 0 12) / 60 * 60))), (2, .int (N6 34 0 r4.toNatClampNeg)), (1, .int r4), (0, .ref (ad 20 0))]) hx hb dX9_goes_320 rfl hl (by decide) rfl (fun ls hl => ?_)
                refine lv_aload_n hx hb dX9_goes_321 rfl (lv_at hl 3 rfl) ?_
                refine g_9_44 X hK hW flRX9_108 dX9_goes_322 ?_
                refine lv_iload_n hx hb dX9_goes_325 rfl (lv_at hl 0 rfl) ?_
                refine lv_iload_n hx hb dX9_goes_326 rfl (lv_at hl 2 rfl) ?_
                obtain ⟨b238, hf⟩ := gd_some hf
                obtain ⟨N239, hN239, hf⟩ := lt1_some hf
                refine as_52 X hK hW hS b238 hN239 dX9_goes_327 (fun H locs hW hS => ?_)
                refine lv_aload_n hx hb dX9_goes_328 rfl (lv_at hl 3 rfl) ?_
                refine g_9_44 X hK hW flRX9_108 dX9_goes_329 ?_
                refine lv_iload_n hx hb dX9_goes_332 rfl (lv_at hl 0 rfl) ?_
                refine lv_iconst (v := 1) hx hb dX9_goes_333 (by decide) ?_
                refine lv_iadd hx hb dX9_goes_334 ?_
                refine lv_iload_n hx hb dX9_goes_335 rfl (lv_at hl 1 rfl) ?_
                obtain ⟨b240, hf⟩ := gd_some hf
                obtain ⟨N241, hN241, hf⟩ := lt1_some hf
                refine as_52 X hK hW hS b240 hN241 dX9_goes_336 (fun H locs hW hS => ?_)
                refine lv_aload_n hx hb dX9_goes_337 rfl (lv_at hl 3 rfl) ?_
                refine g_9_44 X hK hW flRX9_108 dX9_goes_338 ?_
                refine lv_iload_n hx hb dX9_goes_341 rfl (lv_at hl 0 rfl) ?_
                refine lv_iconst (v := 2) hx hb dX9_goes_342 (by decide) ?_
                refine lv_iadd hx hb dX9_goes_343 ?_
                refine lv_aload_n hx hb dX9_goes_344 rfl (lv_at hl 3 rfl) ?_
                refine g_9_37 X hK hW flRX9_184 dX9_goes_345 ?_
                obtain ⟨b242, hf⟩ := gd_some hf
                obtain ⟨N243, hN243, hf⟩ := lt1_some hf
                refine as_52 X hK hW hS b242 hN243 dX9_goes_348 (fun H locs hW hS => ?_)
                refine lv_aload_n hx hb dX9_goes_349 rfl (lv_at hl 3 rfl) ?_
                refine lv_dup hx hb dX9_goes_350 rfl ?_
                refine g_9_43 X hK hW flRX9_204 dX9_goes_351 ?_
                refine lv_iconst (v := 1) hx hb dX9_goes_354 (by decide) ?_
                refine lv_iadd hx hb dX9_goes_355 ?_
                obtain ⟨N244, hN244, hf⟩ := lt1_some hf
                refine p_9_43 X hK hW hS hN244 flRX9_204 dX9_goes_356 (fun H locs hW hS => ?_)
                refine lv_iload_n hx hb dX9_goes_359 rfl (lv_at hl 2 rfl) ?_
                obtain ⟨rfl, rfl⟩ := sp2 hf
                exact e_i ⟨hx, hb, hr, hlk⟩ hW hS dX9_goes_360
      · rw [if_pos c5] at hf
        refine lv_bipush (v := -5) hx hb dX9_goes_116 (by decide) ?_
        obtain ⟨rfl, rfl⟩ := sp2 hf
        exact e_i ⟨hx, hb, hr, hlk⟩ hW hS dX9_goes_118
    · rw [if_neg c2] at hf
      refine lv_aload_n hx hb dX9_goes_18 rfl (lv_at hl 0 rfl) ?_
      refine g_9_21 X hK hW flRX9_68 dX9_goes_19 ?_
      refine lv_iload_n hx hb dX9_goes_22 rfl (lv_at hl 1 rfl) ?_
      obtain ⟨b245, hf⟩ := gd_some hf
      refine al_40 X hK hW b245 dX9_goes_23 ?_
      refine lv_bipush (v := -4) hx hb dX9_goes_24 (by decide) ?_
      refine lv_icmp_eq (tgt := 46) hx hb dX9_goes_26 (by decide) (fun c246 => ?_) (fun c246 => ?_)
      · rw [if_pos c246] at hf
        refine lv_iconst (v := 0) hx hb dX9_goes_46 (by decide) ?_
        refine lv_istore_n (lv' := [(2, .int 0), (0, .ref (ad 20 0)), (1, .int y1)]) hx hb dX9_goes_47 rfl hl (by decide) rfl (fun ls hl => ?_)
        refine lv_iload_n hx hb dX9_goes_48 rfl (lv_at hl 0 rfl) ?_
        refine lv_if_eq (tgt := 80) hx hb dX9_goes_49 (by decide) (fun c247 => ?_) (fun c247 => ?_)
        · skip
          refine lv_iload_n hx hb dX9_goes_80 rfl (lv_at hl 0 rfl) ?_
          refine lv_if_eq (tgt := 99) hx hb dX9_goes_81 (by decide) (fun c248 => ?_) (fun c248 => ?_)
          · skip
            refine lv_iinc (v := (y1 + 1)) (lv' := [(1, .int (y1 + 1)), (2, .int 0), (0, .ref (ad 20 0))]) hx hb dX9_goes_99 hl (k := 2) rfl rfl (by decide) rfl (fun ls hl => ?_)
            refine lv_goto (tgt := 12) hx hb dX9_goes_102 (by decide) ?_
            exact ih _ _ _ _ hf _ _ _ hW hS (lv_sub hl [2, 0] rfl)
          · exact absurd c248 (by decide)
        · exact absurd c247 (by decide)
      · rw [if_neg c246] at hf
        refine lv_aload_n hx hb dX9_goes_29 rfl (lv_at hl 0 rfl) ?_
        refine g_9_32 X hK hW flRX9_174 dX9_goes_30 ?_
        refine lv_aload_n hx hb dX9_goes_33 rfl (lv_at hl 0 rfl) ?_
        refine g_9_21 X hK hW flRX9_68 dX9_goes_34 ?_
        refine lv_iload_n hx hb dX9_goes_37 rfl (lv_at hl 1 rfl) ?_
        refine al_40 X hK hW b245 dX9_goes_38 ?_
        refine lv_icmp_lt (tgt := 46) hx hb dX9_goes_39 (by decide) (fun c249 => ?_) (fun c249 => ?_)
        · rw [if_pos c249] at hf
          refine lv_iconst (v := 0) hx hb dX9_goes_46 (by decide) ?_
          refine lv_istore_n (lv' := [(2, .int 0), (0, .ref (ad 20 0)), (1, .int y1)]) hx hb dX9_goes_47 rfl hl (by decide) rfl (fun ls hl => ?_)
          refine lv_iload_n hx hb dX9_goes_48 rfl (lv_at hl 0 rfl) ?_
          refine lv_if_eq (tgt := 80) hx hb dX9_goes_49 (by decide) (fun c250 => ?_) (fun c250 => ?_)
          · skip
            refine lv_iload_n hx hb dX9_goes_80 rfl (lv_at hl 0 rfl) ?_
            refine lv_if_eq (tgt := 99) hx hb dX9_goes_81 (by decide) (fun c251 => ?_) (fun c251 => ?_)
            · skip
              refine lv_iinc (v := (y1 + 1)) (lv' := [(1, .int (y1 + 1)), (2, .int 0), (0, .ref (ad 20 0))]) hx hb dX9_goes_99 hl (k := 2) rfl rfl (by decide) rfl (fun ls hl => ?_)
              refine lv_goto (tgt := 12) hx hb dX9_goes_102 (by decide) ?_
              exact ih _ _ _ _ hf _ _ _ hW hS (lv_sub hl [2, 0] rfl)
            · exact absurd c251 (by decide)
          · exact absurd c250 (by decide)
        · rw [if_neg c249] at hf
          refine lv_iconst (v := 1) hx hb dX9_goes_42 (by decide) ?_
          refine lv_goto (tgt := 47) hx hb dX9_goes_43 (by decide) ?_
          refine lv_istore_n (lv' := [(2, .int 1), (0, .ref (ad 20 0)), (1, .int y1)]) hx hb dX9_goes_47 rfl hl (by decide) rfl (fun ls hl => ?_)
          refine lv_iload_n hx hb dX9_goes_48 rfl (lv_at hl 0 rfl) ?_
          refine lv_if_eq (tgt := 80) hx hb dX9_goes_49 (by decide) (fun c252 => ?_) (fun c252 => ?_)
          · exact absurd c252 (by decide)
          · skip
            refine lv_aload_n hx hb dX9_goes_52 rfl (lv_at hl 1 rfl) ?_
            refine g_9_12 X hK hW flRX9_40 dX9_goes_53 ?_
            refine lv_iload_n hx hb dX9_goes_56 rfl (lv_at hl 2 rfl) ?_
            refine al_31 X hK hW b245 dX9_goes_57 ?_
            refine lv_iconst (v := 5) hx hb dX9_goes_58 (by decide) ?_
            refine lv_icmp_ne (tgt := 80) hx hb dX9_goes_59 (by decide) (fun c253 => ?_) (fun c253 => ?_)
            · rw [if_neg c253] at hf
              refine lv_iload_n hx hb dX9_goes_80 rfl (lv_at hl 0 rfl) ?_
              refine lv_if_eq (tgt := 99) hx hb dX9_goes_81 (by decide) (fun c254 => ?_) (fun c254 => ?_)
              · exact absurd c254 (by decide)
              · skip
                refine lv_aload_n hx hb dX9_goes_84 rfl (lv_at hl 1 rfl) ?_
                refine g_9_12 X hK hW flRX9_40 dX9_goes_85 ?_
                refine lv_iload_n hx hb dX9_goes_88 rfl (lv_at hl 2 rfl) ?_
                refine al_31 X hK hW b245 dX9_goes_89 ?_
                refine lv_iconst (v := 4) hx hb dX9_goes_90 (by decide) ?_
                refine lv_icmp_ne (tgt := 99) hx hb dX9_goes_91 (by decide) (fun c255 => ?_) (fun c255 => ?_)
                · rw [if_neg c255] at hf
                  refine lv_iinc (v := (y1 + 1)) (lv' := [(1, .int (y1 + 1)), (2, .int 1), (0, .ref (ad 20 0))]) hx hb dX9_goes_99 hl (k := 2) rfl rfl (by decide) rfl (fun ls hl => ?_)
                  refine lv_goto (tgt := 12) hx hb dX9_goes_102 (by decide) ?_
                  exact ih _ _ _ _ hf _ _ _ hW hS (lv_sub hl [2, 0] rfl)
                · rw [if_pos c255] at hf
                  refine lv_aload_n hx hb dX9_goes_94 rfl (lv_at hl 1 rfl) ?_
                  refine lv_iload_n hx hb dX9_goes_95 rfl (lv_at hl 2 rfl) ?_
                  obtain ⟨N257, h256, hf⟩ := ob1_some hf
                  refine k_yX9_isTold X hK hZ hW hS hl.1 h256 mlRX9_177 ⟨Nat.le_of_ble_eq_true rfl, Nat.le_of_ble_eq_true rfl⟩ ⟨Nat.le_of_ble_eq_true rfl, Nat.le_of_ble_eq_true rfl⟩ (Nat.le_of_ble_eq_true rfl) dX9_goes_96 (fun H locs hW hS => ?_)
                  refine lv_iinc (v := (y1 + 1)) (lv' := [(1, .int (y1 + 1)), (2, .int 1), (0, .ref (ad 20 0))]) hx hb dX9_goes_99 hl (k := 2) rfl rfl (by decide) rfl (fun ls hl => ?_)
                  refine lv_goto (tgt := 12) hx hb dX9_goes_102 (by decide) ?_
                  exact ih _ _ _ _ hf _ _ _ hW hS (lv_sub hl [2, 0] rfl)
            · rw [if_pos c253] at hf
              refine lv_aload_n hx hb dX9_goes_62 rfl (lv_at hl 1 rfl) ?_
              refine g_9_21 X hK hW flRX9_68 dX9_goes_63 ?_
              refine lv_iload_n hx hb dX9_goes_66 rfl (lv_at hl 2 rfl) ?_
              refine lv_bipush (v := -4) hx hb dX9_goes_67 (by decide) ?_
              obtain ⟨N258, hN258, hf⟩ := lt1_some hf
              refine as_40 X hK hW hS b245 hN258 dX9_goes_69 (fun H locs hW hS => ?_)
              refine lv_aload_n hx hb dX9_goes_70 rfl (lv_at hl 1 rfl) ?_
              refine g_9_12 X hK hW flRX9_40 dX9_goes_71 ?_
              refine lv_iload_n hx hb dX9_goes_74 rfl (lv_at hl 2 rfl) ?_
              refine lv_iconst (v := 2) hx hb dX9_goes_75 (by decide) ?_
              obtain ⟨N259, hN259, hf⟩ := lt1_some hf
              refine as_31 X hK hW hS b245 hN259 dX9_goes_76 (fun H locs hW hS => ?_)
              refine lv_goto (tgt := 99) hx hb dX9_goes_77 (by decide) ?_
              refine lv_iinc (v := (y1 + 1)) (lv' := [(1, .int (y1 + 1)), (2, .int 1), (0, .ref (ad 20 0))]) hx hb dX9_goes_99 hl (k := 2) rfl rfl (by decide) rfl (fun ls hl => ?_)
              refine lv_goto (tgt := 12) hx hb dX9_goes_102 (by decide) ?_
              exact ih _ _ _ _ hf _ _ _ hW hS (lv_sub hl [2, 0] rfl)
set_option maxRecDepth 100000 in
set_option maxHeartbeats 4000000 in
theorem c_yX9_goes (l : Launch) (E : Lay) (ad : Nat → Nat → Nat) (M N : Mem) (r : Int32) (Nr : Mem) (hf : f_yX9_goes N = some (r, Nr)) : Met l yX9_goes (Cond.code yX9_goes cX9_goes 4 (some .int) :: TB) (rmm 6 149) (va_Pc [.ref (ad 20 0)] (PB E ad (M, N))) (Qi E ad r (M, Nr)) 0 0 (ow E) := by
  refine Met.ofW (cc := cX9_goes) (maxL := 4) (ret := (some .int)) (by decide) rfl ?_
  intro p e s m args below meth c s₁ B hml hv
  obtain ⟨rfl, hW, hK, hZ⟩ := hv
  have hT : ∀ w ∈ TB, w.before _ s = true := fun w h => atoms_spec (ws := (Cond.code yX9_goes cX9_goes 4 (some .int) :: TB)) B.pre w (List.mem_cons_of_mem _ h)
  have X : CX p s m _ meth c cX9_goes 4 (some .int) RX9 := ⟨B.exec, B.bytes, hml, findClass_of_methodNamed B.named, hT, B.returns, B.notSynchronized⟩
  obtain ⟨hx, hb, hml, hown, hT, hr, hlk⟩ := id X
  have hS : va_S (ow E) s.heap s.heap [] := va_S.rf
  have hl := lv_entry ([.ref (ad 20 0)]) (n := 4) (Nat.le_of_ble_eq_true rfl)
  rw [lg_entry_eq]
  generalize (lg_sl ([.ref (ad 20 0)]) ++ List.replicate (4 - (lg_sl ([.ref (ad 20 0)])).length) Slot.unset).toArray = ls at hl ⊢
  have hl : lv_has ls 4 [(0, .ref (ad 20 0))] := hl
  unfold f_yX9_goes at hf
  refine lv_aload_n hx hb dX9_goes_0 rfl (lv_at hl 0 rfl) ?_
  refine lv_dup hx hb dX9_goes_1 rfl ?_
  refine g_9_32 X hK hW flRX9_174 dX9_goes_2 ?_
  refine lv_iconst (v := 1) hx hb dX9_goes_5 (by decide) ?_
  refine lv_iadd hx hb dX9_goes_6 ?_
  obtain ⟨N1, hN1, hf⟩ := lt1_some hf
  refine p_9_32 X hK hW hS hN1 flRX9_174 dX9_goes_7 (fun H locs hW hS => ?_)
  refine lv_iconst (v := 0) hx hb dX9_goes_10 (by decide) ?_
  refine lv_istore_n (lv' := [(1, .int 0), (0, .ref (ad 20 0))]) hx hb dX9_goes_11 rfl hl (by decide) rfl (fun ls hl => ?_)
  exact (l_yX9_goes_12 l E ad M X hK hZ 70) _ _ _ _ hf _ _ _ hW hS (lv_sub hl [1, 0] rfl)
set_option maxRecDepth 100000 in
set_option maxHeartbeats 4000000 in
theorem k_yX9_goes {p : Program} {l : Launch} {e : Env} {R : Room} {s : State} {m : MethodId} {args : Array Value} {below : List Frame} {meth : Method} {c : Code} {H : Heap} {locs : List Loc} {cells slots : Nat} {Q : State → Prop} {cc : ByteArray} {pc nL index : Nat} {ret : Option FieldType} {own : String} {ls : Array Slot} {rest : List Value} {E : Lay} {ad : Nat → Nat → Nat} {M N : Mem} (X : CX p s m args meth c cc nL ret own) (hK : KK E s) (hZ : ZZ E s) (hW : WD E ad (M, N) H) (hS : va_S (ow E) s.heap H locs) (hsz : ls.size = nL) {r : Int32} {Nr : Mem} (hf : f_yX9_goes N = some (r, Nr)) (hn : Cond.methodLink own index yX9_goes ∈ TB) (hR : 6 + 1 ≤ R.frames ∧ 8 + (4 + 11) + 149 ≤ R.locals) (hC : cells ≤ R.cells ∧ slots ≤ R.slots) (h8 : (rest.map fun v => v.category).sum ≤ 8) (hdg : decode cc pc = .ok (.invokevirtual index, 3)) (kk : ∀ (H1 : Heap) (locs1 : List Loc), WD E ad (M, Nr) H1 → va_S (ow E) s.heap H1 locs1 → W p l e R s m args below meth c H1 locs1 cells slots Q (F0 m (pc + 3) ls (.int r :: rest))) : W p l e R s m args below meth c H locs cells slots Q (F0 m pc ls (.ref (ad 20 0) :: rest)) := by
  refine va_calli (va_runV (C := RX9) (As := []) (rest := rest) ⟨X.1, X.2.1, X.2.2.1, X.2.2.2.1, X.2.2.2.2.1⟩ (c_yX9_goes l E ad M N r Nr hf) (cwV 0 X.2.2.2.2.1 (gV hn im_yX9_goes se_yX9_goes iniRX9 cd_yX9_goes) rfl rfl rfl (by decide +kernel) hR) ⟨fun a U g mk q => ⟨q.1, q.2.calling⟩, va_recv hK.1 (hW.at (c := 20) (i := 0) Nat.zero_lt_one rfl) (ci := 9) (q0 := 0) rfl rfl, fun U hU hw => ⟨rfl, PB.at hW hK hZ hS hU hw⟩⟩ rfl rfl hsz rfl (lv_room h8) hdg hC) hS (fun _ _ h => h) (fun _ h => h) (fun r' u t H1 locs1 ht hvm hw hB hz1 hk1 hS1 => ?_)
  obtain ⟨rfl, rfl⟩ := hw
  rw [ht] at hB
  exact kk H1 locs1 hB hS1
def f_yX9_turn (N : Mem) : Option (Int32 × Mem) := (if (N 20 0 9) < 3000 then ob1 (f_yX9_still N) (fun r3 => (if 0 ≤ r3 then ob2 (f_yX9_goes N) (fun r6 N7 => (some (r6, N7))) else (some (r3, N)))) else (some ((-3), N)))
set_option maxRecDepth 100000 in
set_option maxHeartbeats 4000000 in
theorem c_yX9_turn (l : Launch) (E : Lay) (ad : Nat → Nat → Nat) (M N : Mem) (r : Int32) (Nr : Mem) (hf : f_yX9_turn N = some (r, Nr)) : Met l yX9_turn (Cond.code yX9_turn cX9_turn 2 (some .int) :: TB) (rmm 7 172) (va_Pc [.ref (ad 20 0)] (PB E ad (M, N))) (Qi E ad r (M, Nr)) 0 0 (ow E) := by
  refine Met.ofW (cc := cX9_turn) (maxL := 2) (ret := (some .int)) (by decide) rfl ?_
  intro p e s m args below meth c s₁ B hml hv
  obtain ⟨rfl, hW, hK, hZ⟩ := hv
  have hT : ∀ w ∈ TB, w.before _ s = true := fun w h => atoms_spec (ws := (Cond.code yX9_turn cX9_turn 2 (some .int) :: TB)) B.pre w (List.mem_cons_of_mem _ h)
  have X : CX p s m _ meth c cX9_turn 2 (some .int) RX9 := ⟨B.exec, B.bytes, hml, findClass_of_methodNamed B.named, hT, B.returns, B.notSynchronized⟩
  obtain ⟨hx, hb, hml, hown, hT, hr, hlk⟩ := id X
  have hS : va_S (ow E) s.heap s.heap [] := va_S.rf
  have hl := lv_entry ([.ref (ad 20 0)]) (n := 2) (Nat.le_of_ble_eq_true rfl)
  rw [lg_entry_eq]
  generalize (lg_sl ([.ref (ad 20 0)]) ++ List.replicate (2 - (lg_sl ([.ref (ad 20 0)])).length) Slot.unset).toArray = ls at hl ⊢
  have hl : lv_has ls 2 [(0, .ref (ad 20 0))] := hl
  unfold f_yX9_turn at hf
  refine lv_aload_n hx hb dX9_turn_0 rfl (lv_at hl 0 rfl) ?_
  refine g_9_40 X hK hW flRX9_207 dX9_turn_1 ?_
  refine lv_sipush (v := 3000) hx hb dX9_turn_4 (by decide) ?_
  refine lv_icmp_lt (tgt := 13) hx hb dX9_turn_7 (by decide) (fun c1 => ?_) (fun c1 => ?_)
  · rw [if_pos c1] at hf
    refine lv_aload_n hx hb dX9_turn_13 rfl (lv_at hl 0 rfl) ?_
    obtain ⟨r3, h2, hf⟩ := ob1_some hf
    refine k_yX9_still X hK hZ hW hS hl.1 h2 mlRX9_216 ⟨Nat.le_of_ble_eq_true rfl, Nat.le_of_ble_eq_true rfl⟩ ⟨Nat.le_of_ble_eq_true rfl, Nat.le_of_ble_eq_true rfl⟩ (Nat.le_of_ble_eq_true rfl) dX9_turn_14 (fun H locs hW hS => ?_)
    refine lv_istore_n (lv' := [(1, .int r3), (0, .ref (ad 20 0))]) hx hb dX9_turn_17 rfl hl (by decide) rfl (fun ls hl => ?_)
    refine lv_iload_n hx hb dX9_turn_18 rfl (lv_at hl 0 rfl) ?_
    refine lv_if_ge (tgt := 26) hx hb dX9_turn_19 (by decide) (fun c4 => ?_) (fun c4 => ?_)
    · rw [if_pos c4] at hf
      refine lv_aload_n hx hb dX9_turn_26 rfl (lv_at hl 1 rfl) ?_
      obtain ⟨r6, N7, h5, hf⟩ := ob2_some hf
      refine k_yX9_goes X hK hZ hW hS hl.1 h5 mlRX9_219 ⟨Nat.le_of_ble_eq_true rfl, Nat.le_of_ble_eq_true rfl⟩ ⟨Nat.le_of_ble_eq_true rfl, Nat.le_of_ble_eq_true rfl⟩ (Nat.le_of_ble_eq_true rfl) dX9_turn_27 (fun H locs hW hS => ?_)
      obtain ⟨rfl, rfl⟩ := sp2 hf
      exact e_i ⟨hx, hb, hr, hlk⟩ hW hS dX9_turn_30
    · rw [if_neg c4] at hf
      refine lv_iload_n hx hb dX9_turn_22 rfl (lv_at hl 0 rfl) ?_
      refine lv_goto (tgt := 30) hx hb dX9_turn_23 (by decide) ?_
      obtain ⟨rfl, rfl⟩ := sp2 hf
      exact e_i ⟨hx, hb, hr, hlk⟩ hW hS dX9_turn_30
  · rw [if_neg c1] at hf
    refine lv_bipush (v := -3) hx hb dX9_turn_10 (by decide) ?_
    obtain ⟨rfl, rfl⟩ := sp2 hf
    exact e_i ⟨hx, hb, hr, hlk⟩ hW hS dX9_turn_12
set_option maxRecDepth 100000 in
set_option maxHeartbeats 4000000 in
theorem k_yX9_turn {p : Program} {l : Launch} {e : Env} {R : Room} {s : State} {m : MethodId} {args : Array Value} {below : List Frame} {meth : Method} {c : Code} {H : Heap} {locs : List Loc} {cells slots : Nat} {Q : State → Prop} {cc : ByteArray} {pc nL index : Nat} {ret : Option FieldType} {own : String} {ls : Array Slot} {rest : List Value} {E : Lay} {ad : Nat → Nat → Nat} {M N : Mem} (X : CX p s m args meth c cc nL ret own) (hK : KK E s) (hZ : ZZ E s) (hW : WD E ad (M, N) H) (hS : va_S (ow E) s.heap H locs) (hsz : ls.size = nL) {r : Int32} {Nr : Mem} (hf : f_yX9_turn N = some (r, Nr)) (hn : Cond.methodLink own index yX9_turn ∈ TB) (hR : 7 + 1 ≤ R.frames ∧ 8 + (2 + 11) + 172 ≤ R.locals) (hC : cells ≤ R.cells ∧ slots ≤ R.slots) (h8 : (rest.map fun v => v.category).sum ≤ 8) (hdg : decode cc pc = .ok (.invokevirtual index, 3)) (kk : ∀ (H1 : Heap) (locs1 : List Loc), WD E ad (M, Nr) H1 → va_S (ow E) s.heap H1 locs1 → W p l e R s m args below meth c H1 locs1 cells slots Q (F0 m (pc + 3) ls (.int r :: rest))) : W p l e R s m args below meth c H locs cells slots Q (F0 m pc ls (.ref (ad 20 0) :: rest)) := by
  refine va_calli (va_runV (C := RX9) (As := []) (rest := rest) ⟨X.1, X.2.1, X.2.2.1, X.2.2.2.1, X.2.2.2.2.1⟩ (c_yX9_turn l E ad M N r Nr hf) (cwV 0 X.2.2.2.2.1 (gV hn im_yX9_turn se_yX9_turn iniRX9 cd_yX9_turn) rfl rfl rfl (by decide +kernel) hR) ⟨fun a U g mk q => ⟨q.1, q.2.calling⟩, va_recv hK.1 (hW.at (c := 20) (i := 0) Nat.zero_lt_one rfl) (ci := 9) (q0 := 0) rfl rfl, fun U hU hw => ⟨rfl, PB.at hW hK hZ hS hU hw⟩⟩ rfl rfl hsz rfl (lv_room h8) hdg hC) hS (fun _ _ h => h) (fun _ h => h) (fun r' u t H1 locs1 ht hvm hw hB hz1 hk1 hS1 => ?_)
  obtain ⟨rfl, rfl⟩ := hw
  rw [ht] at hB
  exact kk H1 locs1 hB hS1
def f_yX9_run_L27 : Nat → Mem → Int32 → Int32 → Option (Int32 × Mem)
  | 0, _, _, _ => none
  | n + 1, N0, y1, y2 => (if y1 ≤ y2 then (some (y2, N0)) else ob1 (f_yX9_still N0) (fun r7 => (if r7 = 0 then ob2 (f_yX9_goes N0) (fun r10 N11 => (f_yX9_run_L27 n N11 y1 (y2 + 1))) else (some (y2, N0)))))
def f_yX9_run (N : Mem) (x1 : Int32) : Option (Int32 × Mem) := ob1 (f_yX9_in x1 1 60) (fun r2 => (if r2 = 0 then (some ((-1), N)) else (if (N 20 0 9) < 3000 then (f_yX9_run_L27 70 N x1 0) else (some ((-3), N)))))
set_option maxRecDepth 100000 in
set_option maxHeartbeats 4000000 in
theorem l_yX9_run_27 (l : Launch) (E : Lay) (ad : Nat → Nat → Nat) (M : Mem) {p : Program} {e : Env} {s : State} {m : MethodId} {args : Array Value} {below : List Frame} {meth : Method} {c : Code} (X : CX p s m args meth c cX9_run 4 (some .int) RX9) (hK : KK E s) (hZ : ZZ E s) : ∀ (n : Nat) (N0 : Mem) (y1 : Int32) (y2 : Int32) (r : Int32) (Nr : Mem) (hf : f_yX9_run_L27 n N0 y1 y2 = some (r, Nr)) (H : Heap) (locs : List Loc) (ls : Array Slot), WD E ad (M, N0) H → va_S (ow E) s.heap H locs → lv_has ls 4 [(0, .ref (ad 20 0)), (1, .int y1), (2, .int y2)] → W p l e (rmm 7 172) s m args below meth c H locs 0 0 (MQ below (Qi E ad r (M, Nr)) args s 0 0 (ow E)) (F0 m 27 ls []) := by
  obtain ⟨hx, hb, hml, hown, hT, hr, hlk⟩ := id X
  intro n
  induction n with
  | zero =>
    intro N0 y1 y2 r Nr hf
    rw [f_yX9_run_L27] at hf
    cases hf
  | succ n ih =>
    intro N0 y1 y2 r Nr hf H locs ls hW hS hl
    rw [f_yX9_run_L27] at hf
    refine lv_iload_n hx hb dX9_run_27 rfl (lv_at hl 2 rfl) ?_
    refine lv_iload_n hx hb dX9_run_28 rfl (lv_at hl 1 rfl) ?_
    refine lv_icmp_ge (tgt := 50) hx hb dX9_run_29 (by decide) (fun c5 => ?_) (fun c5 => ?_)
    · rw [if_pos c5] at hf
      refine lv_iload_n hx hb dX9_run_50 rfl (lv_at hl 2 rfl) ?_
      obtain ⟨rfl, rfl⟩ := sp2 hf
      exact e_i ⟨hx, hb, hr, hlk⟩ hW hS dX9_run_51
    · rw [if_neg c5] at hf
      refine lv_aload_n hx hb dX9_run_32 rfl (lv_at hl 0 rfl) ?_
      obtain ⟨r7, h6, hf⟩ := ob1_some hf
      refine k_yX9_still X hK hZ hW hS hl.1 h6 mlRX9_216 ⟨Nat.le_of_ble_eq_true rfl, Nat.le_of_ble_eq_true rfl⟩ ⟨Nat.le_of_ble_eq_true rfl, Nat.le_of_ble_eq_true rfl⟩ (Nat.le_of_ble_eq_true rfl) dX9_run_33 (fun H locs hW hS => ?_)
      refine lv_if_ne (tgt := 50) hx hb dX9_run_36 (by decide) (fun c8 => ?_) (fun c8 => ?_)
      · rw [if_neg c8] at hf
        refine lv_iload_n hx hb dX9_run_50 rfl (lv_at hl 2 rfl) ?_
        obtain ⟨rfl, rfl⟩ := sp2 hf
        exact e_i ⟨hx, hb, hr, hlk⟩ hW hS dX9_run_51
      · rw [if_pos c8] at hf
        refine lv_aload_n hx hb dX9_run_39 rfl (lv_at hl 0 rfl) ?_
        obtain ⟨r10, N11, h9, hf⟩ := ob2_some hf
        refine k_yX9_goes X hK hZ hW hS hl.1 h9 mlRX9_219 ⟨Nat.le_of_ble_eq_true rfl, Nat.le_of_ble_eq_true rfl⟩ ⟨Nat.le_of_ble_eq_true rfl, Nat.le_of_ble_eq_true rfl⟩ (Nat.le_of_ble_eq_true rfl) dX9_run_40 (fun H locs hW hS => ?_)
        refine lv_istore_n (lv' := [(3, .int r10), (0, .ref (ad 20 0)), (1, .int y1), (2, .int y2)]) hx hb dX9_run_43 rfl hl (by decide) rfl (fun ls hl => ?_)
        refine lv_iinc (v := (y2 + 1)) (lv' := [(2, .int (y2 + 1)), (3, .int r10), (0, .ref (ad 20 0)), (1, .int y1)]) hx hb dX9_run_44 hl (k := 3) rfl rfl (by decide) rfl (fun ls hl => ?_)
        refine lv_goto (tgt := 27) hx hb dX9_run_47 (by decide) ?_
        exact ih _ _ _ _ _ hf _ _ _ hW hS (lv_sub hl [2, 3, 0] rfl)
set_option maxRecDepth 100000 in
set_option maxHeartbeats 4000000 in
theorem c_yX9_run (l : Launch) (E : Lay) (ad : Nat → Nat → Nat) (M N : Mem) (x1 : Int32) (r : Int32) (Nr : Mem) (hf : f_yX9_run N x1 = some (r, Nr)) : Met l yX9_run (Cond.code yX9_run cX9_run 4 (some .int) :: TB) (rmm 7 172) (va_Pc [.ref (ad 20 0), .int x1] (PB E ad (M, N))) (Qi E ad r (M, Nr)) 0 0 (ow E) := by
  refine Met.ofW (cc := cX9_run) (maxL := 4) (ret := (some .int)) (by decide) rfl ?_
  intro p e s m args below meth c s₁ B hml hv
  obtain ⟨rfl, hW, hK, hZ⟩ := hv
  have hT : ∀ w ∈ TB, w.before _ s = true := fun w h => atoms_spec (ws := (Cond.code yX9_run cX9_run 4 (some .int) :: TB)) B.pre w (List.mem_cons_of_mem _ h)
  have X : CX p s m _ meth c cX9_run 4 (some .int) RX9 := ⟨B.exec, B.bytes, hml, findClass_of_methodNamed B.named, hT, B.returns, B.notSynchronized⟩
  obtain ⟨hx, hb, hml, hown, hT, hr, hlk⟩ := id X
  have hS : va_S (ow E) s.heap s.heap [] := va_S.rf
  have hl := lv_entry ([.ref (ad 20 0), .int x1]) (n := 4) (Nat.le_of_ble_eq_true rfl)
  rw [lg_entry_eq]
  generalize (lg_sl ([.ref (ad 20 0), .int x1]) ++ List.replicate (4 - (lg_sl ([.ref (ad 20 0), .int x1])).length) Slot.unset).toArray = ls at hl ⊢
  have hl : lv_has ls 4 [(0, .ref (ad 20 0)), (1, .int x1)] := hl
  unfold f_yX9_run at hf
  refine lv_iload_n hx hb dX9_run_0 rfl (lv_at hl 1 rfl) ?_
  refine lv_iconst (v := 1) hx hb dX9_run_1 (by decide) ?_
  refine lv_bipush (v := 60) hx hb dX9_run_2 (by decide) ?_
  obtain ⟨r2, h1, hf⟩ := ob1_some hf
  refine k_yX9_in X hK hZ hW hS hl.1 h1 mlRX9_114 ⟨Nat.le_of_ble_eq_true rfl, Nat.le_of_ble_eq_true rfl⟩ ⟨Nat.le_of_ble_eq_true rfl, Nat.le_of_ble_eq_true rfl⟩ (Nat.le_of_ble_eq_true rfl) dX9_run_4 (fun H locs hW hS => ?_)
  refine lv_if_ne (tgt := 12) hx hb dX9_run_7 (by decide) (fun c3 => ?_) (fun c3 => ?_)
  · rw [if_neg c3] at hf
    refine lv_aload_n hx hb dX9_run_12 rfl (lv_at hl 0 rfl) ?_
    refine g_9_40 X hK hW flRX9_207 dX9_run_13 ?_
    refine lv_sipush (v := 3000) hx hb dX9_run_16 (by decide) ?_
    refine lv_icmp_lt (tgt := 25) hx hb dX9_run_19 (by decide) (fun c4 => ?_) (fun c4 => ?_)
    · rw [if_pos c4] at hf
      refine lv_iconst (v := 0) hx hb dX9_run_25 (by decide) ?_
      refine lv_istore_n (lv' := [(2, .int 0), (0, .ref (ad 20 0)), (1, .int x1)]) hx hb dX9_run_26 rfl hl (by decide) rfl (fun ls hl => ?_)
      exact (l_yX9_run_27 l E ad M X hK hZ 70) _ _ _ _ _ hf _ _ _ hW hS (lv_sub hl [1, 2, 0] rfl)
    · rw [if_neg c4] at hf
      refine lv_bipush (v := -3) hx hb dX9_run_22 (by decide) ?_
      obtain ⟨rfl, rfl⟩ := sp2 hf
      exact e_i ⟨hx, hb, hr, hlk⟩ hW hS dX9_run_24
  · rw [if_pos c3] at hf
    refine lv_iconst (v := -1) hx hb dX9_run_10 (by decide) ?_
    obtain ⟨rfl, rfl⟩ := sp2 hf
    exact e_i ⟨hx, hb, hr, hlk⟩ hW hS dX9_run_11
set_option maxRecDepth 100000 in
set_option maxHeartbeats 4000000 in
theorem k_yX9_run {p : Program} {l : Launch} {e : Env} {R : Room} {s : State} {m : MethodId} {args : Array Value} {below : List Frame} {meth : Method} {c : Code} {H : Heap} {locs : List Loc} {cells slots : Nat} {Q : State → Prop} {cc : ByteArray} {pc nL index : Nat} {ret : Option FieldType} {own : String} {ls : Array Slot} {rest : List Value} {E : Lay} {ad : Nat → Nat → Nat} {M N : Mem} (X : CX p s m args meth c cc nL ret own) (hK : KK E s) (hZ : ZZ E s) (hW : WD E ad (M, N) H) (hS : va_S (ow E) s.heap H locs) (hsz : ls.size = nL) {x1 : Int32} {r : Int32} {Nr : Mem} (hf : f_yX9_run N x1 = some (r, Nr)) (hn : Cond.methodLink own index yX9_run ∈ TB) (hR : 7 + 1 ≤ R.frames ∧ 8 + (4 + 11) + 172 ≤ R.locals) (hC : cells ≤ R.cells ∧ slots ≤ R.slots) (h8 : (rest.map fun v => v.category).sum ≤ 8) (hdg : decode cc pc = .ok (.invokevirtual index, 3)) (kk : ∀ (H1 : Heap) (locs1 : List Loc), WD E ad (M, Nr) H1 → va_S (ow E) s.heap H1 locs1 → W p l e R s m args below meth c H1 locs1 cells slots Q (F0 m (pc + 3) ls (.int r :: rest))) : W p l e R s m args below meth c H locs cells slots Q (F0 m pc ls (.int x1 :: .ref (ad 20 0) :: rest)) := by
  refine va_calli (va_runV (C := RX9) (As := [.int x1]) (rest := rest) ⟨X.1, X.2.1, X.2.2.1, X.2.2.2.1, X.2.2.2.2.1⟩ (c_yX9_run l E ad M N x1 r Nr hf) (cwV 1 X.2.2.2.2.1 (gV hn im_yX9_run se_yX9_run iniRX9 cd_yX9_run) rfl rfl rfl (by decide +kernel) hR) ⟨fun a U g mk q => ⟨q.1, q.2.calling⟩, va_recv hK.1 (hW.at (c := 20) (i := 0) Nat.zero_lt_one rfl) (ci := 9) (q0 := 0) rfl rfl, fun U hU hw => ⟨rfl, PB.at hW hK hZ hS hU hw⟩⟩ rfl rfl hsz rfl (lv_room h8) hdg hC) hS (fun _ _ h => h) (fun _ h => h) (fun r' u t H1 locs1 ht hvm hw hB hz1 hk1 hS1 => ?_)
  obtain ⟨rfl, rfl⟩ := hw
  rw [ht] at hB
  exact kk H1 locs1 hB hS1
